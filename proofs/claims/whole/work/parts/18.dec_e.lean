theorem dX5_putBytes_0 : decode cX5_putBytes 0 = .ok (.bipush 24, 2) := by decide +kernel
theorem dX5_putBytes_2 : decode cX5_putBytes 2 = .ok (.istore_n 2, 1) := by decide +kernel
theorem dX5_putBytes_3 : decode cX5_putBytes 3 = .ok (.iload_n 2, 1) := by decide +kernel
theorem dX5_putBytes_4 : decode cX5_putBytes 4 = .ok (.ifCond .lt 44, 3) := by decide +kernel
theorem dX5_putBytes_7 : decode cX5_putBytes 7 = .ok (.aload_n 0, 1) := by decide +kernel
theorem dX5_putBytes_8 : decode cX5_putBytes 8 = .ok (.getfield 66, 3) := by decide +kernel
theorem dX5_putBytes_11 : decode cX5_putBytes 11 = .ok (.aload_n 0, 1) := by decide +kernel
theorem dX5_putBytes_12 : decode cX5_putBytes 12 = .ok (.getfield 19, 3) := by decide +kernel
theorem dX5_putBytes_15 : decode cX5_putBytes 15 = .ok (.arraylength, 1) := by decide +kernel
theorem dX5_putBytes_16 : decode cX5_putBytes 16 = .ok (.if_icmp .ge 32, 3) := by decide +kernel
theorem dX5_putBytes_19 : decode cX5_putBytes 19 = .ok (.aload_n 0, 1) := by decide +kernel
theorem dX5_putBytes_20 : decode cX5_putBytes 20 = .ok (.getfield 19, 3) := by decide +kernel
theorem dX5_putBytes_23 : decode cX5_putBytes 23 = .ok (.aload_n 0, 1) := by decide +kernel
theorem dX5_putBytes_24 : decode cX5_putBytes 24 = .ok (.getfield 66, 3) := by decide +kernel
theorem dX5_putBytes_27 : decode cX5_putBytes 27 = .ok (.iload_n 1, 1) := by decide +kernel
theorem dX5_putBytes_28 : decode cX5_putBytes 28 = .ok (.iload_n 2, 1) := by decide +kernel
theorem dX5_putBytes_29 : decode cX5_putBytes 29 = .ok (.iushr, 1) := by decide +kernel
theorem dX5_putBytes_30 : decode cX5_putBytes 30 = .ok (.i2b, 1) := by decide +kernel
theorem dX5_putBytes_31 : decode cX5_putBytes 31 = .ok (.bastore, 1) := by decide +kernel
theorem dX5_putBytes_32 : decode cX5_putBytes 32 = .ok (.aload_n 0, 1) := by decide +kernel
theorem dX5_putBytes_33 : decode cX5_putBytes 33 = .ok (.dup, 1) := by decide +kernel
theorem dX5_putBytes_34 : decode cX5_putBytes 34 = .ok (.getfield 66, 3) := by decide +kernel
theorem dX5_putBytes_37 : decode cX5_putBytes 37 = .ok (.iconst 1, 1) := by decide +kernel
theorem dX5_putBytes_38 : decode cX5_putBytes 38 = .ok (.iadd, 1) := by decide +kernel
theorem dX5_putBytes_39 : decode cX5_putBytes 39 = .ok (.putfield 66, 3) := by decide +kernel
theorem dX5_putBytes_42 : decode cX5_putBytes 42 = .ok (.iinc 2 (-8), 3) := by decide +kernel
theorem dX5_putBytes_45 : decode cX5_putBytes 45 = .ok (.goto (-42), 3) := by decide +kernel
theorem dX5_putBytes_48 : decode cX5_putBytes 48 = .ok (.return_, 1) := by decide +kernel
theorem dX5_feed_0 : decode cX5_feed 0 = .ok (.aload_n 0, 1) := by decide +kernel
theorem dX5_feed_1 : decode cX5_feed 1 = .ok (.getfield 66, 3) := by decide +kernel
theorem dX5_feed_4 : decode cX5_feed 4 = .ok (.bipush 20, 2) := by decide +kernel
theorem dX5_feed_6 : decode cX5_feed 6 = .ok (.iadd, 1) := by decide +kernel
theorem dX5_feed_7 : decode cX5_feed 7 = .ok (.sipush 700, 3) := by decide +kernel
theorem dX5_feed_10 : decode cX5_feed 10 = .ok (.if_icmp .le 5, 3) := by decide +kernel
theorem dX5_feed_13 : decode cX5_feed 13 = .ok (.iconst (-1), 1) := by decide +kernel
theorem dX5_feed_14 : decode cX5_feed 14 = .ok (.ireturn, 1) := by decide +kernel
theorem dX5_feed_15 : decode cX5_feed 15 = .ok (.aload_n 0, 1) := by decide +kernel
theorem dX5_feed_16 : decode cX5_feed 16 = .ok (.iload_n 1, 1) := by decide +kernel
theorem dX5_feed_17 : decode cX5_feed 17 = .ok (.invokevirtual 69, 3) := by decide +kernel
theorem dX5_feed_20 : decode cX5_feed 20 = .ok (.aload_n 0, 1) := by decide +kernel
theorem dX5_feed_21 : decode cX5_feed 21 = .ok (.iload_n 2, 1) := by decide +kernel
theorem dX5_feed_22 : decode cX5_feed 22 = .ok (.invokevirtual 69, 3) := by decide +kernel
theorem dX5_feed_25 : decode cX5_feed 25 = .ok (.aload_n 0, 1) := by decide +kernel
theorem dX5_feed_26 : decode cX5_feed 26 = .ok (.iload_n 3, 1) := by decide +kernel
theorem dX5_feed_27 : decode cX5_feed 27 = .ok (.invokevirtual 69, 3) := by decide +kernel
theorem dX5_feed_30 : decode cX5_feed 30 = .ok (.aload_n 0, 1) := by decide +kernel
theorem dX5_feed_31 : decode cX5_feed 31 = .ok (.iload 4, 2) := by decide +kernel
theorem dX5_feed_33 : decode cX5_feed 33 = .ok (.invokevirtual 69, 3) := by decide +kernel
theorem dX5_feed_36 : decode cX5_feed 36 = .ok (.aload_n 0, 1) := by decide +kernel
theorem dX5_feed_37 : decode cX5_feed 37 = .ok (.iload 5, 2) := by decide +kernel
theorem dX5_feed_39 : decode cX5_feed 39 = .ok (.invokevirtual 69, 3) := by decide +kernel
theorem dX5_feed_42 : decode cX5_feed 42 = .ok (.aload_n 0, 1) := by decide +kernel
theorem dX5_feed_43 : decode cX5_feed 43 = .ok (.getfield 66, 3) := by decide +kernel
theorem dX5_feed_46 : decode cX5_feed 46 = .ok (.ireturn, 1) := by decide +kernel
theorem dX5_fault_0 : decode cX5_fault 0 = .ok (.aload_n 0, 1) := by decide +kernel
theorem dX5_fault_1 : decode cX5_fault 1 = .ok (.getfield 62, 3) := by decide +kernel
theorem dX5_fault_4 : decode cX5_fault 4 = .ok (.ireturn, 1) := by decide +kernel
theorem dX5_present_0 : decode cX5_present 0 = .ok (.aload_n 0, 1) := by decide +kernel
theorem dX5_present_1 : decode cX5_present 1 = .ok (.getfield 37, 3) := by decide +kernel
theorem dX5_present_4 : decode cX5_present 4 = .ok (.aload_n 0, 1) := by decide +kernel
theorem dX5_present_5 : decode cX5_present 5 = .ok (.getfield 10, 3) := by decide +kernel
theorem dX5_present_8 : decode cX5_present 8 = .ok (.aload_n 0, 1) := by decide +kernel
theorem dX5_present_9 : decode cX5_present 9 = .ok (.getfield 44, 3) := by decide +kernel
theorem dX5_present_12 : decode cX5_present 12 = .ok (.getfield 109, 3) := by decide +kernel
theorem dX5_present_15 : decode cX5_present 15 = .ok (.invokevirtual 354, 3) := by decide +kernel
theorem dX5_present_18 : decode cX5_present 18 = .ok (.aload_n 0, 1) := by decide +kernel
theorem dX5_present_19 : decode cX5_present 19 = .ok (.getfield 37, 3) := by decide +kernel
theorem dX5_present_22 : decode cX5_present 22 = .ok (.areturn, 1) := by decide +kernel
theorem dX5_years_0 : decode cX5_years 0 = .ok (.iload_n 1, 1) := by decide +kernel
theorem dX5_years_1 : decode cX5_years 1 = .ok (.iconst 1, 1) := by decide +kernel
theorem dX5_years_2 : decode cX5_years 2 = .ok (.if_icmp .lt 27, 3) := by decide +kernel
theorem dX5_years_5 : decode cX5_years 5 = .ok (.iload_n 1, 1) := by decide +kernel
theorem dX5_years_6 : decode cX5_years 6 = .ok (.bipush 20, 2) := by decide +kernel
theorem dX5_years_8 : decode cX5_years 8 = .ok (.if_icmp .gt 21, 3) := by decide +kernel
theorem dX5_years_11 : decode cX5_years 11 = .ok (.aload_n 0, 1) := by decide +kernel
theorem dX5_years_12 : decode cX5_years 12 = .ok (.getfield 44, 3) := by decide +kernel
theorem dX5_years_15 : decode cX5_years 15 = .ok (.getfield 109, 3) := by decide +kernel
theorem dX5_years_18 : decode cX5_years 18 = .ok (.bipush 61, 2) := by decide +kernel
theorem dX5_years_20 : decode cX5_years 20 = .ok (.iaload, 1) := by decide +kernel
theorem dX5_years_21 : decode cX5_years 21 = .ok (.iload_n 1, 1) := by decide +kernel
theorem dX5_years_22 : decode cX5_years 22 = .ok (.iadd, 1) := by decide +kernel
theorem dX5_years_23 : decode cX5_years 23 = .ok (.sipush 999, 3) := by decide +kernel
theorem dX5_years_26 : decode cX5_years 26 = .ok (.if_icmp .le 15, 3) := by decide +kernel
theorem dX5_years_29 : decode cX5_years 29 = .ok (.aload_n 0, 1) := by decide +kernel
theorem dX5_years_30 : decode cX5_years 30 = .ok (.dup, 1) := by decide +kernel
theorem dX5_years_31 : decode cX5_years 31 = .ok (.getfield 140, 3) := by decide +kernel
theorem dX5_years_34 : decode cX5_years 34 = .ok (.iconst 1, 1) := by decide +kernel
theorem dX5_years_35 : decode cX5_years 35 = .ok (.iadd, 1) := by decide +kernel
theorem dX5_years_36 : decode cX5_years 36 = .ok (.putfield 140, 3) := by decide +kernel
theorem dX5_years_39 : decode cX5_years 39 = .ok (.iconst (-1), 1) := by decide +kernel
theorem dX5_years_40 : decode cX5_years 40 = .ok (.ireturn, 1) := by decide +kernel
theorem dX5_years_41 : decode cX5_years 41 = .ok (.aload_n 0, 1) := by decide +kernel
theorem dX5_years_42 : decode cX5_years 42 = .ok (.getfield 44, 3) := by decide +kernel
theorem dX5_years_45 : decode cX5_years 45 = .ok (.invokevirtual 204, 3) := by decide +kernel
theorem dX5_years_48 : decode cX5_years 48 = .ok (.aload_n 0, 1) := by decide +kernel
theorem dX5_years_49 : decode cX5_years 49 = .ok (.invokevirtual 126, 3) := by decide +kernel
theorem dX5_years_52 : decode cX5_years 52 = .ok (.pop, 1) := by decide +kernel
theorem dX5_years_53 : decode cX5_years 53 = .ok (.iconst 0, 1) := by decide +kernel
theorem dX5_years_54 : decode cX5_years 54 = .ok (.istore_n 2, 1) := by decide +kernel
theorem dX5_years_55 : decode cX5_years 55 = .ok (.iload_n 2, 1) := by decide +kernel
theorem dX5_years_56 : decode cX5_years 56 = .ok (.iload_n 1, 1) := by decide +kernel
theorem dX5_years_57 : decode cX5_years 57 = .ok (.if_icmp .ge 17, 3) := by decide +kernel
theorem dX5_years_60 : decode cX5_years 60 = .ok (.aload_n 0, 1) := by decide +kernel
theorem dX5_years_61 : decode cX5_years 61 = .ok (.getfield 37, 3) := by decide +kernel
theorem dX5_years_64 : decode cX5_years 64 = .ok (.invokevirtual 207, 3) := by decide +kernel
theorem dX5_years_67 : decode cX5_years 67 = .ok (.pop, 1) := by decide +kernel
theorem dX5_years_68 : decode cX5_years 68 = .ok (.iinc 2 1, 3) := by decide +kernel
theorem dX5_years_71 : decode cX5_years 71 = .ok (.goto (-16), 3) := by decide +kernel
theorem dX5_years_74 : decode cX5_years 74 = .ok (.aload_n 0, 1) := by decide +kernel
theorem dX5_years_75 : decode cX5_years 75 = .ok (.getfield 37, 3) := by decide +kernel
theorem dX5_years_78 : decode cX5_years 78 = .ok (.getfield 210, 3) := by decide +kernel
theorem dX5_years_81 : decode cX5_years 81 = .ok (.iconst 0, 1) := by decide +kernel
theorem dX5_years_82 : decode cX5_years 82 = .ok (.aload_n 0, 1) := by decide +kernel
theorem dX5_years_83 : decode cX5_years 83 = .ok (.getfield 44, 3) := by decide +kernel
theorem dX5_years_86 : decode cX5_years 86 = .ok (.getfield 109, 3) := by decide +kernel
theorem dX5_years_89 : decode cX5_years 89 = .ok (.iconst 0, 1) := by decide +kernel
theorem dX5_years_90 : decode cX5_years 90 = .ok (.bipush 62, 2) := by decide +kernel
theorem dX5_years_92 : decode cX5_years 92 = .ok (.invokestatic 211, 3) := by decide +kernel
theorem dX5_years_95 : decode cX5_years 95 = .ok (.aload_n 0, 1) := by decide +kernel
theorem dX5_years_96 : decode cX5_years 96 = .ok (.getfield 44, 3) := by decide +kernel
theorem dX5_years_99 : decode cX5_years 99 = .ok (.getfield 109, 3) := by decide +kernel
theorem dX5_years_102 : decode cX5_years 102 = .ok (.bipush 61, 2) := by decide +kernel
theorem dX5_years_104 : decode cX5_years 104 = .ok (.iaload, 1) := by decide +kernel
theorem dX5_years_105 : decode cX5_years 105 = .ok (.ireturn, 1) := by decide +kernel
theorem dX5_isLawOrNone_0 : decode cX5_isLawOrNone 0 = .ok (.iload_n 1, 1) := by decide +kernel
theorem dX5_isLawOrNone_1 : decode cX5_isLawOrNone 1 = .ok (.iconst (-1), 1) := by decide +kernel
theorem dX5_isLawOrNone_2 : decode cX5_isLawOrNone 2 = .ok (.if_icmp .eq 18, 3) := by decide +kernel
theorem dX5_isLawOrNone_5 : decode cX5_isLawOrNone 5 = .ok (.iload_n 1, 1) := by decide +kernel
theorem dX5_isLawOrNone_6 : decode cX5_isLawOrNone 6 = .ok (.ifCond .lt 18, 3) := by decide +kernel
theorem dX5_isLawOrNone_9 : decode cX5_isLawOrNone 9 = .ok (.iload_n 1, 1) := by decide +kernel
theorem dX5_isLawOrNone_10 : decode cX5_isLawOrNone 10 = .ok (.aload_n 0, 1) := by decide +kernel
theorem dX5_isLawOrNone_11 : decode cX5_isLawOrNone 11 = .ok (.getfield 10, 3) := by decide +kernel
theorem dX5_isLawOrNone_14 : decode cX5_isLawOrNone 14 = .ok (.getfield 119, 3) := by decide +kernel
theorem dX5_isLawOrNone_17 : decode cX5_isLawOrNone 17 = .ok (.if_icmp .ge 7, 3) := by decide +kernel
theorem dX5_isLawOrNone_20 : decode cX5_isLawOrNone 20 = .ok (.iconst 1, 1) := by decide +kernel
theorem dX5_isLawOrNone_21 : decode cX5_isLawOrNone 21 = .ok (.goto 4, 3) := by decide +kernel
theorem dX5_isLawOrNone_24 : decode cX5_isLawOrNone 24 = .ok (.iconst 0, 1) := by decide +kernel
theorem dX5_isLawOrNone_25 : decode cX5_isLawOrNone 25 = .ok (.ireturn, 1) := by decide +kernel
theorem dX5_actOn_0 : decode cX5_actOn 0 = .ok (.aload_n 0, 1) := by decide +kernel
theorem dX5_actOn_1 : decode cX5_actOn 1 = .ok (.getfield 44, 3) := by decide +kernel
theorem dX5_actOn_4 : decode cX5_actOn 4 = .ok (.getfield 109, 3) := by decide +kernel
theorem dX5_actOn_7 : decode cX5_actOn 7 = .ok (.iload_n 1, 1) := by decide +kernel
theorem dX5_actOn_8 : decode cX5_actOn 8 = .ok (.iaload, 1) := by decide +kernel
theorem dX5_actOn_9 : decode cX5_actOn 9 = .ok (.istore_n 3, 1) := by decide +kernel
theorem dX5_actOn_10 : decode cX5_actOn 10 = .ok (.aload_n 0, 1) := by decide +kernel
theorem dX5_actOn_11 : decode cX5_actOn 11 = .ok (.getfield 44, 3) := by decide +kernel
theorem dX5_actOn_14 : decode cX5_actOn 14 = .ok (.invokevirtual 204, 3) := by decide +kernel
theorem dX5_actOn_17 : decode cX5_actOn 17 = .ok (.aload_n 0, 1) := by decide +kernel
theorem dX5_actOn_18 : decode cX5_actOn 18 = .ok (.getfield 44, 3) := by decide +kernel
theorem dX5_actOn_21 : decode cX5_actOn 21 = .ok (.getfield 109, 3) := by decide +kernel
theorem dX5_actOn_24 : decode cX5_actOn 24 = .ok (.iload_n 1, 1) := by decide +kernel
theorem dX5_actOn_25 : decode cX5_actOn 25 = .ok (.iload_n 2, 1) := by decide +kernel
theorem dX5_actOn_26 : decode cX5_actOn 26 = .ok (.iastore, 1) := by decide +kernel
theorem dX5_actOn_27 : decode cX5_actOn 27 = .ok (.iload_n 3, 1) := by decide +kernel
theorem dX5_actOn_28 : decode cX5_actOn 28 = .ok (.ireturn, 1) := by decide +kernel
theorem dX5_obey_0 : decode cX5_obey 0 = .ok (.aload_n 0, 1) := by decide +kernel
theorem dX5_obey_1 : decode cX5_obey 1 = .ok (.iload_n 1, 1) := by decide +kernel
theorem dX5_obey_2 : decode cX5_obey 2 = .ok (.invokevirtual 228, 3) := by decide +kernel
theorem dX5_obey_5 : decode cX5_obey 5 = .ok (.ifCond .ne 15, 3) := by decide +kernel
theorem dX5_obey_8 : decode cX5_obey 8 = .ok (.aload_n 0, 1) := by decide +kernel
theorem dX5_obey_9 : decode cX5_obey 9 = .ok (.dup, 1) := by decide +kernel
theorem dX5_obey_10 : decode cX5_obey 10 = .ok (.getfield 140, 3) := by decide +kernel
theorem dX5_obey_13 : decode cX5_obey 13 = .ok (.iconst 1, 1) := by decide +kernel
theorem dX5_obey_14 : decode cX5_obey 14 = .ok (.iadd, 1) := by decide +kernel
theorem dX5_obey_15 : decode cX5_obey 15 = .ok (.putfield 140, 3) := by decide +kernel
theorem dX5_obey_18 : decode cX5_obey 18 = .ok (.iconst 0, 1) := by decide +kernel
theorem dX5_obey_19 : decode cX5_obey 19 = .ok (.ireturn, 1) := by decide +kernel
theorem dX5_obey_20 : decode cX5_obey 20 = .ok (.aload_n 0, 1) := by decide +kernel
theorem dX5_obey_21 : decode cX5_obey 21 = .ok (.bipush 60, 2) := by decide +kernel
theorem dX5_obey_23 : decode cX5_obey 23 = .ok (.iload_n 1, 1) := by decide +kernel
theorem dX5_obey_24 : decode cX5_obey 24 = .ok (.invokevirtual 220, 3) := by decide +kernel
theorem dX5_obey_27 : decode cX5_obey 27 = .ok (.pop, 1) := by decide +kernel
theorem dX5_obey_28 : decode cX5_obey 28 = .ok (.iconst 1, 1) := by decide +kernel
theorem dX5_obey_29 : decode cX5_obey 29 = .ok (.ireturn, 1) := by decide +kernel
theorem dX5_undo_0 : decode cX5_undo 0 = .ok (.aload_n 0, 1) := by decide +kernel
theorem dX5_undo_1 : decode cX5_undo 1 = .ok (.getfield 44, 3) := by decide +kernel
theorem dX5_undo_4 : decode cX5_undo 4 = .ok (.invokevirtual 232, 3) := by decide +kernel
theorem dX5_undo_7 : decode cX5_undo 7 = .ok (.ifCond .eq 13, 3) := by decide +kernel
theorem dX5_undo_10 : decode cX5_undo 10 = .ok (.aload_n 0, 1) := by decide +kernel
theorem dX5_undo_11 : decode cX5_undo 11 = .ok (.getfield 44, 3) := by decide +kernel
theorem dX5_undo_14 : decode cX5_undo 14 = .ok (.getfield 134, 3) := by decide +kernel
theorem dX5_undo_17 : decode cX5_undo 17 = .ok (.goto 4, 3) := by decide +kernel
theorem dX5_undo_20 : decode cX5_undo 20 = .ok (.iconst (-1), 1) := by decide +kernel
theorem dX5_undo_21 : decode cX5_undo 21 = .ok (.ireturn, 1) := by decide +kernel
theorem dX5_keepFirs_0 : decode cX5_keepFirs 0 = .ok (.aload_n 0, 1) := by decide +kernel
theorem dX5_keepFirs_1 : decode cX5_keepFirs 1 = .ok (.getfield 55, 3) := by decide +kernel
theorem dX5_keepFirs_4 : decode cX5_keepFirs 4 = .ok (.iconst 0, 1) := by decide +kernel
theorem dX5_keepFirs_5 : decode cX5_keepFirs 5 = .ok (.iload_n 2, 1) := by decide +kernel
theorem dX5_keepFirs_6 : decode cX5_keepFirs 6 = .ok (.iastore, 1) := by decide +kernel
theorem dX5_keepFirs_7 : decode cX5_keepFirs 7 = .ok (.aload_n 0, 1) := by decide +kernel
theorem dX5_keepFirs_8 : decode cX5_keepFirs 8 = .ok (.getfield 55, 3) := by decide +kernel
theorem dX5_keepFirs_11 : decode cX5_keepFirs 11 = .ok (.iconst 1, 1) := by decide +kernel
theorem dX5_keepFirs_12 : decode cX5_keepFirs 12 = .ok (.iload_n 3, 1) := by decide +kernel
theorem dX5_keepFirs_13 : decode cX5_keepFirs 13 = .ok (.iastore, 1) := by decide +kernel
theorem dX5_keepFirs_14 : decode cX5_keepFirs 14 = .ok (.aload_n 0, 1) := by decide +kernel
theorem dX5_keepFirs_15 : decode cX5_keepFirs 15 = .ok (.iload_n 1, 1) := by decide +kernel
theorem dX5_keepFirs_16 : decode cX5_keepFirs 16 = .ok (.putfield 97, 3) := by decide +kernel
theorem dX5_keepFirs_19 : decode cX5_keepFirs 19 = .ok (.iload_n 1, 1) := by decide +kernel
theorem dX5_keepFirs_20 : decode cX5_keepFirs 20 = .ok (.ireturn, 1) := by decide +kernel
theorem dX5_firsHelp_0 : decode cX5_firsHelp 0 = .ok (.aload_n 0, 1) := by decide +kernel
theorem dX5_firsHelp_1 : decode cX5_firsHelp 1 = .ok (.getfield 37, 3) := by decide +kernel
theorem dX5_firsHelp_4 : decode cX5_firsHelp 4 = .ok (.iload_n 1, 1) := by decide +kernel
theorem dX5_firsHelp_5 : decode cX5_firsHelp 5 = .ok (.bipush 9, 2) := by decide +kernel
theorem dX5_firsHelp_7 : decode cX5_firsHelp 7 = .ok (.invokevirtual 264, 3) := by decide +kernel
theorem dX5_firsHelp_10 : decode cX5_firsHelp 10 = .ok (.aload_n 0, 1) := by decide +kernel
theorem dX5_firsHelp_11 : decode cX5_firsHelp 11 = .ok (.getfield 37, 3) := by decide +kernel
theorem dX5_firsHelp_14 : decode cX5_firsHelp 14 = .ok (.iload_n 2, 1) := by decide +kernel
theorem dX5_firsHelp_15 : decode cX5_firsHelp 15 = .ok (.bipush 9, 2) := by decide +kernel
theorem dX5_firsHelp_17 : decode cX5_firsHelp 17 = .ok (.invokevirtual 264, 3) := by decide +kernel
theorem dX5_firsHelp_20 : decode cX5_firsHelp 20 = .ok (.aload_n 0, 1) := by decide +kernel
theorem dX5_firsHelp_21 : decode cX5_firsHelp 21 = .ok (.getfield 37, 3) := by decide +kernel
theorem dX5_firsHelp_24 : decode cX5_firsHelp 24 = .ok (.iload_n 3, 1) := by decide +kernel
theorem dX5_firsHelp_25 : decode cX5_firsHelp 25 = .ok (.iload 4, 2) := by decide +kernel
theorem dX5_firsHelp_27 : decode cX5_firsHelp 27 = .ok (.invokevirtual 244, 3) := by decide +kernel
theorem dX5_firsHelp_30 : decode cX5_firsHelp 30 = .ok (.istore 5, 2) := by decide +kernel
theorem dX5_firsHelp_32 : decode cX5_firsHelp 32 = .ok (.aload_n 0, 1) := by decide +kernel
theorem dX5_firsHelp_33 : decode cX5_firsHelp 33 = .ok (.getfield 37, 3) := by decide +kernel
theorem dX5_firsHelp_36 : decode cX5_firsHelp 36 = .ok (.iload_n 1, 1) := by decide +kernel
theorem dX5_firsHelp_37 : decode cX5_firsHelp 37 = .ok (.bipush (-9), 2) := by decide +kernel
theorem dX5_firsHelp_39 : decode cX5_firsHelp 39 = .ok (.invokevirtual 264, 3) := by decide +kernel
theorem dX5_firsHelp_42 : decode cX5_firsHelp 42 = .ok (.aload_n 0, 1) := by decide +kernel
theorem dX5_firsHelp_43 : decode cX5_firsHelp 43 = .ok (.getfield 37, 3) := by decide +kernel
theorem dX5_firsHelp_46 : decode cX5_firsHelp 46 = .ok (.iload_n 2, 1) := by decide +kernel
theorem dX5_firsHelp_47 : decode cX5_firsHelp 47 = .ok (.bipush (-9), 2) := by decide +kernel
theorem dX5_firsHelp_49 : decode cX5_firsHelp 49 = .ok (.invokevirtual 264, 3) := by decide +kernel
theorem dX5_firsHelp_52 : decode cX5_firsHelp 52 = .ok (.iload 5, 2) := by decide +kernel
theorem dX5_firsHelp_54 : decode cX5_firsHelp 54 = .ok (.ireturn, 1) := by decide +kernel
theorem dX5_ruin_0 : decode cX5_ruin 0 = .ok (.aload_n 0, 1) := by decide +kernel
theorem dX5_ruin_1 : decode cX5_ruin 1 = .ok (.invokevirtual 126, 3) := by decide +kernel
theorem dX5_ruin_4 : decode cX5_ruin 4 = .ok (.invokevirtual 275, 3) := by decide +kernel
theorem dX5_ruin_7 : decode cX5_ruin 7 = .ok (.istore_n 1, 1) := by decide +kernel
theorem dX5_ruin_8 : decode cX5_ruin 8 = .ok (.iconst 0, 1) := by decide +kernel
theorem dX5_ruin_9 : decode cX5_ruin 9 = .ok (.istore_n 2, 1) := by decide +kernel
theorem dX5_ruin_10 : decode cX5_ruin 10 = .ok (.iconst 0, 1) := by decide +kernel
theorem dX5_ruin_11 : decode cX5_ruin 11 = .ok (.istore_n 3, 1) := by decide +kernel
theorem dX5_ruin_12 : decode cX5_ruin 12 = .ok (.iload_n 3, 1) := by decide +kernel
theorem dX5_ruin_13 : decode cX5_ruin 13 = .ok (.bipush 12, 2) := by decide +kernel
theorem dX5_ruin_15 : decode cX5_ruin 15 = .ok (.if_icmp .ge 52, 3) := by decide +kernel
theorem dX5_ruin_18 : decode cX5_ruin 18 = .ok (.aload_n 0, 1) := by decide +kernel
theorem dX5_ruin_19 : decode cX5_ruin 19 = .ok (.getfield 44, 3) := by decide +kernel
theorem dX5_ruin_22 : decode cX5_ruin 22 = .ok (.getfield 109, 3) := by decide +kernel
theorem dX5_ruin_25 : decode cX5_ruin 25 = .ok (.iconst 0, 1) := by decide +kernel
theorem dX5_ruin_26 : decode cX5_ruin 26 = .ok (.iload_n 3, 1) := by decide +kernel
theorem dX5_ruin_27 : decode cX5_ruin 27 = .ok (.iadd, 1) := by decide +kernel
theorem dX5_ruin_28 : decode cX5_ruin 28 = .ok (.iaload, 1) := by decide +kernel
theorem dX5_ruin_29 : decode cX5_ruin 29 = .ok (.iconst (-1), 1) := by decide +kernel
theorem dX5_ruin_30 : decode cX5_ruin 30 = .ok (.if_icmp .eq 31, 3) := by decide +kernel
theorem dX5_ruin_33 : decode cX5_ruin 33 = .ok (.aload_n 0, 1) := by decide +kernel
theorem dX5_ruin_34 : decode cX5_ruin 34 = .ok (.invokevirtual 126, 3) := by decide +kernel
theorem dX5_ruin_37 : decode cX5_ruin 37 = .ok (.iload_n 3, 1) := by decide +kernel
theorem dX5_ruin_38 : decode cX5_ruin 38 = .ok (.invokevirtual 272, 3) := by decide +kernel
theorem dX5_ruin_41 : decode cX5_ruin 41 = .ok (.iload_n 1, 1) := by decide +kernel
theorem dX5_ruin_42 : decode cX5_ruin 42 = .ok (.aload_n 0, 1) := by decide +kernel
theorem dX5_ruin_43 : decode cX5_ruin 43 = .ok (.getfield 37, 3) := by decide +kernel
theorem dX5_ruin_46 : decode cX5_ruin 46 = .ok (.invokevirtual 275, 3) := by decide +kernel
theorem dX5_ruin_49 : decode cX5_ruin 49 = .ok (.iconst (-1), 1) := by decide +kernel
theorem dX5_ruin_50 : decode cX5_ruin 50 = .ok (.ixor, 1) := by decide +kernel
theorem dX5_ruin_51 : decode cX5_ruin 51 = .ok (.iand, 1) := by decide +kernel
theorem dX5_ruin_52 : decode cX5_ruin 52 = .ok (.ifCond .eq 9, 3) := by decide +kernel
theorem dX5_ruin_55 : decode cX5_ruin 55 = .ok (.iload_n 2, 1) := by decide +kernel
theorem dX5_ruin_56 : decode cX5_ruin 56 = .ok (.iconst 1, 1) := by decide +kernel
theorem dX5_ruin_57 : decode cX5_ruin 57 = .ok (.iload_n 3, 1) := by decide +kernel
theorem dX5_ruin_58 : decode cX5_ruin 58 = .ok (.ishl, 1) := by decide +kernel
theorem dX5_ruin_59 : decode cX5_ruin 59 = .ok (.ior, 1) := by decide +kernel
theorem dX5_ruin_60 : decode cX5_ruin 60 = .ok (.istore_n 2, 1) := by decide +kernel
theorem dX5_ruin_61 : decode cX5_ruin 61 = .ok (.iinc 3 1, 3) := by decide +kernel
theorem dX5_ruin_64 : decode cX5_ruin 64 = .ok (.goto (-52), 3) := by decide +kernel
theorem dX5_ruin_67 : decode cX5_ruin 67 = .ok (.iload_n 2, 1) := by decide +kernel
theorem dX5_ruin_68 : decode cX5_ruin 68 = .ok (.ireturn, 1) := by decide +kernel
theorem dX5_lossOf_0 : decode cX5_lossOf 0 = .ok (.aload_n 0, 1) := by decide +kernel
theorem dX5_lossOf_1 : decode cX5_lossOf 1 = .ok (.invokevirtual 126, 3) := by decide +kernel
theorem dX5_lossOf_4 : decode cX5_lossOf 4 = .ok (.pop, 1) := by decide +kernel
theorem dX5_lossOf_5 : decode cX5_lossOf 5 = .ok (.aload_n 0, 1) := by decide +kernel
theorem dX5_lossOf_6 : decode cX5_lossOf 6 = .ok (.getfield 37, 3) := by decide +kernel
theorem dX5_lossOf_9 : decode cX5_lossOf 9 = .ok (.aload_n 0, 1) := by decide +kernel
theorem dX5_lossOf_10 : decode cX5_lossOf 10 = .ok (.getfield 10, 3) := by decide +kernel
theorem dX5_lossOf_13 : decode cX5_lossOf 13 = .ok (.getfield 176, 3) := by decide +kernel
theorem dX5_lossOf_16 : decode cX5_lossOf 16 = .ok (.iload_n 1, 1) := by decide +kernel
theorem dX5_lossOf_17 : decode cX5_lossOf 17 = .ok (.iaload, 1) := by decide +kernel
theorem dX5_lossOf_18 : decode cX5_lossOf 18 = .ok (.iload 4, 2) := by decide +kernel
theorem dX5_lossOf_20 : decode cX5_lossOf 20 = .ok (.iload_n 3, 1) := by decide +kernel
theorem dX5_lossOf_21 : decode cX5_lossOf 21 = .ok (.imul, 1) := by decide +kernel
theorem dX5_lossOf_22 : decode cX5_lossOf 22 = .ok (.invokevirtual 264, 3) := by decide +kernel
theorem dX5_lossOf_25 : decode cX5_lossOf 25 = .ok (.aload_n 0, 1) := by decide +kernel
theorem dX5_lossOf_26 : decode cX5_lossOf 26 = .ok (.getfield 37, 3) := by decide +kernel
theorem dX5_lossOf_29 : decode cX5_lossOf 29 = .ok (.aload_n 0, 1) := by decide +kernel
theorem dX5_lossOf_30 : decode cX5_lossOf 30 = .ok (.getfield 10, 3) := by decide +kernel
theorem dX5_lossOf_33 : decode cX5_lossOf 33 = .ok (.getfield 176, 3) := by decide +kernel
theorem dX5_lossOf_36 : decode cX5_lossOf 36 = .ok (.iload_n 2, 1) := by decide +kernel
theorem dX5_lossOf_37 : decode cX5_lossOf 37 = .ok (.iaload, 1) := by decide +kernel
theorem dX5_lossOf_38 : decode cX5_lossOf 38 = .ok (.iload 5, 2) := by decide +kernel
theorem dX5_lossOf_40 : decode cX5_lossOf 40 = .ok (.iload_n 3, 1) := by decide +kernel
theorem dX5_lossOf_41 : decode cX5_lossOf 41 = .ok (.imul, 1) := by decide +kernel
theorem dX5_lossOf_42 : decode cX5_lossOf 42 = .ok (.invokevirtual 264, 3) := by decide +kernel
theorem dX5_lossOf_45 : decode cX5_lossOf 45 = .ok (.aload_n 0, 1) := by decide +kernel
theorem dX5_lossOf_46 : decode cX5_lossOf 46 = .ok (.getfield 37, 3) := by decide +kernel
theorem dX5_lossOf_49 : decode cX5_lossOf 49 = .ok (.iload_n 1, 1) := by decide +kernel
theorem dX5_lossOf_50 : decode cX5_lossOf 50 = .ok (.invokevirtual 185, 3) := by decide +kernel
theorem dX5_lossOf_53 : decode cX5_lossOf 53 = .ok (.ireturn, 1) := by decide +kernel
theorem dX5_restsWith_0 : decode cX5_restsWith 0 = .ok (.aload_n 0, 1) := by decide +kernel
theorem dX5_restsWith_1 : decode cX5_restsWith 1 = .ok (.iload_n 1, 1) := by decide +kernel
theorem dX5_restsWith_2 : decode cX5_restsWith 2 = .ok (.iload_n 2, 1) := by decide +kernel
theorem dX5_restsWith_3 : decode cX5_restsWith 3 = .ok (.iload_n 3, 1) := by decide +kernel
theorem dX5_restsWith_4 : decode cX5_restsWith 4 = .ok (.iload 5, 2) := by decide +kernel
theorem dX5_restsWith_6 : decode cX5_restsWith 6 = .ok (.iload 6, 2) := by decide +kernel
theorem dX5_restsWith_8 : decode cX5_restsWith 8 = .ok (.invokevirtual 304, 3) := by decide +kernel
theorem dX5_restsWith_11 : decode cX5_restsWith 11 = .ok (.iload 5, 2) := by decide +kernel
theorem dX5_restsWith_13 : decode cX5_restsWith 13 = .ok (.iload 4, 2) := by decide +kernel
theorem dX5_restsWith_15 : decode cX5_restsWith 15 = .ok (.imul, 1) := by decide +kernel
theorem dX5_restsWith_16 : decode cX5_restsWith 16 = .ok (.iadd, 1) := by decide +kernel
theorem dX5_restsWith_17 : decode cX5_restsWith 17 = .ok (.istore 7, 2) := by decide +kernel
theorem dX5_restsWith_19 : decode cX5_restsWith 19 = .ok (.aload_n 0, 1) := by decide +kernel
theorem dX5_restsWith_20 : decode cX5_restsWith 20 = .ok (.iload_n 1, 1) := by decide +kernel
theorem dX5_restsWith_21 : decode cX5_restsWith 21 = .ok (.iload_n 2, 1) := by decide +kernel
theorem dX5_restsWith_22 : decode cX5_restsWith 22 = .ok (.iload_n 3, 1) := by decide +kernel
theorem dX5_restsWith_23 : decode cX5_restsWith 23 = .ok (.iconst 1, 1) := by decide +kernel
theorem dX5_restsWith_24 : decode cX5_restsWith 24 = .ok (.iload 5, 2) := by decide +kernel
theorem dX5_restsWith_26 : decode cX5_restsWith 26 = .ok (.isub, 1) := by decide +kernel
theorem dX5_restsWith_27 : decode cX5_restsWith 27 = .ok (.iload 6, 2) := by decide +kernel
theorem dX5_restsWith_29 : decode cX5_restsWith 29 = .ok (.invokevirtual 304, 3) := by decide +kernel
theorem dX5_restsWith_32 : decode cX5_restsWith 32 = .ok (.iconst 1, 1) := by decide +kernel
theorem dX5_restsWith_33 : decode cX5_restsWith 33 = .ok (.iload 5, 2) := by decide +kernel
theorem dX5_restsWith_35 : decode cX5_restsWith 35 = .ok (.isub, 1) := by decide +kernel
theorem dX5_restsWith_36 : decode cX5_restsWith 36 = .ok (.iload 4, 2) := by decide +kernel
theorem dX5_restsWith_38 : decode cX5_restsWith 38 = .ok (.imul, 1) := by decide +kernel
theorem dX5_restsWith_39 : decode cX5_restsWith 39 = .ok (.iadd, 1) := by decide +kernel
theorem dX5_restsWith_40 : decode cX5_restsWith 40 = .ok (.istore 8, 2) := by decide +kernel
theorem dX5_restsWith_42 : decode cX5_restsWith 42 = .ok (.iload 8, 2) := by decide +kernel
theorem dX5_restsWith_44 : decode cX5_restsWith 44 = .ok (.iload 7, 2) := by decide +kernel
theorem dX5_restsWith_46 : decode cX5_restsWith 46 = .ok (.if_icmp .lt 7, 3) := by decide +kernel
theorem dX5_restsWith_49 : decode cX5_restsWith 49 = .ok (.iconst 1, 1) := by decide +kernel
theorem dX5_restsWith_50 : decode cX5_restsWith 50 = .ok (.goto 4, 3) := by decide +kernel
theorem dX5_restsWith_53 : decode cX5_restsWith 53 = .ok (.iconst 0, 1) := by decide +kernel
theorem dX5_restsWith_54 : decode cX5_restsWith 54 = .ok (.ireturn, 1) := by decide +kernel
theorem dX5_forget_0 : decode cX5_forget 0 = .ok (.aload_n 0, 1) := by decide +kernel
theorem dX5_forget_1 : decode cX5_forget 1 = .ok (.getfield 44, 3) := by decide +kernel
theorem dX5_forget_4 : decode cX5_forget 4 = .ok (.iconst 0, 1) := by decide +kernel
theorem dX5_forget_5 : decode cX5_forget 5 = .ok (.putfield 137, 3) := by decide +kernel
theorem dX5_forget_8 : decode cX5_forget 8 = .ok (.return_, 1) := by decide +kernel
theorem dX5_liars_0 : decode cX5_liars 0 = .ok (.aload_n 0, 1) := by decide +kernel
theorem dX5_liars_1 : decode cX5_liars 1 = .ok (.invokevirtual 126, 3) := by decide +kernel
theorem dX5_liars_4 : decode cX5_liars 4 = .ok (.aload_n 0, 1) := by decide +kernel
theorem dX5_liars_5 : decode cX5_liars 5 = .ok (.getfield 44, 3) := by decide +kernel
theorem dX5_liars_8 : decode cX5_liars 8 = .ok (.invokevirtual 311, 3) := by decide +kernel
theorem dX5_liars_11 : decode cX5_liars 11 = .ok (.ireturn, 1) := by decide +kernel
theorem dX5_cheat_0 : decode cX5_cheat 0 = .ok (.aload_n 0, 1) := by decide +kernel
theorem dX5_cheat_1 : decode cX5_cheat 1 = .ok (.invokevirtual 126, 3) := by decide +kernel
theorem dX5_cheat_4 : decode cX5_cheat 4 = .ok (.aload_n 0, 1) := by decide +kernel
theorem dX5_cheat_5 : decode cX5_cheat 5 = .ok (.getfield 44, 3) := by decide +kernel
theorem dX5_cheat_8 : decode cX5_cheat 8 = .ok (.invokevirtual 311, 3) := by decide +kernel
theorem dX5_cheat_11 : decode cX5_cheat 11 = .ok (.istore_n 1, 1) := by decide +kernel
theorem dX5_cheat_12 : decode cX5_cheat 12 = .ok (.aload_n 0, 1) := by decide +kernel
theorem dX5_cheat_13 : decode cX5_cheat 13 = .ok (.getfield 37, 3) := by decide +kernel
theorem dX5_cheat_16 : decode cX5_cheat 16 = .ok (.iload_n 1, 1) := by decide +kernel
theorem dX5_cheat_17 : decode cX5_cheat 17 = .ok (.invokevirtual 256, 3) := by decide +kernel
theorem dX5_cheat_20 : decode cX5_cheat 20 = .ok (.lstore_n 2, 1) := by decide +kernel
theorem dX5_cheat_21 : decode cX5_cheat 21 = .ok (.iload_n 1, 1) := by decide +kernel
theorem dX5_cheat_22 : decode cX5_cheat 22 = .ok (.invokestatic 318, 3) := by decide +kernel
theorem dX5_cheat_25 : decode cX5_cheat 25 = .ok (.istore 4, 2) := by decide +kernel
theorem dX5_cheat_27 : decode cX5_cheat 27 = .ok (.iconst (-1), 1) := by decide +kernel
theorem dX5_cheat_28 : decode cX5_cheat 28 = .ok (.istore 5, 2) := by decide +kernel
theorem dX5_cheat_30 : decode cX5_cheat 30 = .ok (.iconst 0, 1) := by decide +kernel
theorem dX5_cheat_31 : decode cX5_cheat 31 = .ok (.istore 6, 2) := by decide +kernel
theorem dX5_cheat_33 : decode cX5_cheat 33 = .ok (.iload 6, 2) := by decide +kernel
theorem dX5_cheat_35 : decode cX5_cheat 35 = .ok (.aload_n 0, 1) := by decide +kernel
theorem dX5_cheat_36 : decode cX5_cheat 36 = .ok (.getfield 10, 3) := by decide +kernel
theorem dX5_cheat_39 : decode cX5_cheat 39 = .ok (.invokevirtual 323, 3) := by decide +kernel
theorem dX5_cheat_42 : decode cX5_cheat 42 = .ok (.if_icmp .ge 130, 3) := by decide +kernel
theorem dX5_cheat_45 : decode cX5_cheat 45 = .ok (.lload_n 2, 1) := by decide +kernel
theorem dX5_cheat_46 : decode cX5_cheat 46 = .ok (.iload 6, 2) := by decide +kernel
theorem dX5_cheat_48 : decode cX5_cheat 48 = .ok (.invokestatic 224, 3) := by decide +kernel
theorem dX5_cheat_51 : decode cX5_cheat 51 = .ok (.ifCond .eq 20, 3) := by decide +kernel
theorem dX5_cheat_54 : decode cX5_cheat 54 = .ok (.aload_n 0, 1) := by decide +kernel
theorem dX5_cheat_55 : decode cX5_cheat 55 = .ok (.getfield 10, 3) := by decide +kernel
theorem dX5_cheat_58 : decode cX5_cheat 58 = .ok (.iload 6, 2) := by decide +kernel
theorem dX5_cheat_60 : decode cX5_cheat 60 = .ok (.invokevirtual 164, 3) := by decide +kernel
theorem dX5_cheat_63 : decode cX5_cheat 63 = .ok (.iconst (-1), 1) := by decide +kernel
theorem dX5_cheat_64 : decode cX5_cheat 64 = .ok (.if_icmp .ne 7, 3) := by decide +kernel
theorem dX5_cheat_67 : decode cX5_cheat 67 = .ok (.iconst 1, 1) := by decide +kernel
theorem dX5_cheat_68 : decode cX5_cheat 68 = .ok (.goto 4, 3) := by decide +kernel
theorem dX5_cheat_71 : decode cX5_cheat 71 = .ok (.iconst 0, 1) := by decide +kernel
theorem dX5_cheat_72 : decode cX5_cheat 72 = .ok (.istore 7, 2) := by decide +kernel
theorem dX5_cheat_74 : decode cX5_cheat 74 = .ok (.aload_n 0, 1) := by decide +kernel
theorem dX5_cheat_75 : decode cX5_cheat 75 = .ok (.getfield 37, 3) := by decide +kernel
theorem dX5_cheat_78 : decode cX5_cheat 78 = .ok (.getfield 326, 3) := by decide +kernel
theorem dX5_cheat_81 : decode cX5_cheat 81 = .ok (.iload 6, 2) := by decide +kernel
theorem dX5_cheat_83 : decode cX5_cheat 83 = .ok (.iaload, 1) := by decide +kernel
theorem dX5_cheat_84 : decode cX5_cheat 84 = .ok (.istore 8, 2) := by decide +kernel
theorem dX5_cheat_86 : decode cX5_cheat 86 = .ok (.iconst 0, 1) := by decide +kernel
theorem dX5_cheat_87 : decode cX5_cheat 87 = .ok (.istore 9, 2) := by decide +kernel
theorem dX5_cheat_89 : decode cX5_cheat 89 = .ok (.iload 9, 2) := by decide +kernel
theorem dX5_cheat_91 : decode cX5_cheat 91 = .ok (.bipush 9, 2) := by decide +kernel
theorem dX5_cheat_93 : decode cX5_cheat 93 = .ok (.if_icmp .gt 62, 3) := by decide +kernel
theorem dX5_cheat_96 : decode cX5_cheat 96 = .ok (.iload 7, 2) := by decide +kernel
theorem dX5_cheat_98 : decode cX5_cheat 98 = .ok (.ifCond .eq 57, 3) := by decide +kernel
theorem dX5_cheat_101 : decode cX5_cheat 101 = .ok (.aload_n 0, 1) := by decide +kernel
theorem dX5_cheat_102 : decode cX5_cheat 102 = .ok (.getfield 37, 3) := by decide +kernel
theorem dX5_cheat_105 : decode cX5_cheat 105 = .ok (.iload 6, 2) := by decide +kernel
theorem dX5_cheat_107 : decode cX5_cheat 107 = .ok (.iload 9, 2) := by decide +kernel
theorem dX5_cheat_109 : decode cX5_cheat 109 = .ok (.invokevirtual 315, 3) := by decide +kernel
theorem dX5_cheat_112 : decode cX5_cheat 112 = .ok (.aload_n 0, 1) := by decide +kernel
theorem dX5_cheat_113 : decode cX5_cheat 113 = .ok (.getfield 37, 3) := by decide +kernel
theorem dX5_cheat_116 : decode cX5_cheat 116 = .ok (.aload_n 0, 1) := by decide +kernel
theorem dX5_cheat_117 : decode cX5_cheat 117 = .ok (.getfield 44, 3) := by decide +kernel
theorem dX5_cheat_120 : decode cX5_cheat 120 = .ok (.invokevirtual 311, 3) := by decide +kernel
theorem dX5_cheat_123 : decode cX5_cheat 123 = .ok (.invokestatic 318, 3) := by decide +kernel
theorem dX5_cheat_126 : decode cX5_cheat 126 = .ok (.istore 10, 2) := by decide +kernel
theorem dX5_cheat_128 : decode cX5_cheat 128 = .ok (.iload 10, 2) := by decide +kernel
theorem dX5_cheat_130 : decode cX5_cheat 130 = .ok (.iload 4, 2) := by decide +kernel
theorem dX5_cheat_132 : decode cX5_cheat 132 = .ok (.if_icmp .ge 17, 3) := by decide +kernel
theorem dX5_cheat_135 : decode cX5_cheat 135 = .ok (.iload 10, 2) := by decide +kernel
theorem dX5_cheat_137 : decode cX5_cheat 137 = .ok (.istore 4, 2) := by decide +kernel
theorem dX5_cheat_139 : decode cX5_cheat 139 = .ok (.bipush 10, 2) := by decide +kernel
theorem dX5_cheat_141 : decode cX5_cheat 141 = .ok (.iload 6, 2) := by decide +kernel
theorem dX5_cheat_143 : decode cX5_cheat 143 = .ok (.imul, 1) := by decide +kernel
theorem dX5_cheat_144 : decode cX5_cheat 144 = .ok (.iload 9, 2) := by decide +kernel
theorem dX5_cheat_146 : decode cX5_cheat 146 = .ok (.iadd, 1) := by decide +kernel
theorem dX5_cheat_147 : decode cX5_cheat 147 = .ok (.istore 5, 2) := by decide +kernel
theorem dX5_cheat_149 : decode cX5_cheat 149 = .ok (.iinc 9 1, 3) := by decide +kernel
theorem dX5_cheat_152 : decode cX5_cheat 152 = .ok (.goto (-63), 3) := by decide +kernel
theorem dX5_cheat_155 : decode cX5_cheat 155 = .ok (.aload_n 0, 1) := by decide +kernel
theorem dX5_cheat_156 : decode cX5_cheat 156 = .ok (.getfield 37, 3) := by decide +kernel
theorem dX5_cheat_159 : decode cX5_cheat 159 = .ok (.iload 6, 2) := by decide +kernel
theorem dX5_cheat_161 : decode cX5_cheat 161 = .ok (.iload 8, 2) := by decide +kernel
theorem dX5_cheat_163 : decode cX5_cheat 163 = .ok (.invokevirtual 315, 3) := by decide +kernel
theorem dX5_cheat_166 : decode cX5_cheat 166 = .ok (.iinc 6 1, 3) := by decide +kernel
theorem dX5_cheat_169 : decode cX5_cheat 169 = .ok (.goto (-136), 3) := by decide +kernel
theorem dX5_cheat_172 : decode cX5_cheat 172 = .ok (.iload 5, 2) := by decide +kernel
theorem dX5_cheat_174 : decode cX5_cheat 174 = .ok (.ireturn, 1) := by decide +kernel
theorem dX5_ruined_0 : decode cX5_ruined 0 = .ok (.aload_n 0, 1) := by decide +kernel
theorem dX5_ruined_1 : decode cX5_ruined 1 = .ok (.invokevirtual 126, 3) := by decide +kernel
theorem dX5_ruined_4 : decode cX5_ruined 4 = .ok (.pop, 1) := by decide +kernel
theorem dX5_ruined_5 : decode cX5_ruined 5 = .ok (.iconst 0, 1) := by decide +kernel
theorem dX5_ruined_6 : decode cX5_ruined 6 = .ok (.istore_n 1, 1) := by decide +kernel
theorem dX5_ruined_7 : decode cX5_ruined 7 = .ok (.iload_n 1, 1) := by decide +kernel
theorem dX5_ruined_8 : decode cX5_ruined 8 = .ok (.bipush 50, 2) := by decide +kernel
theorem dX5_ruined_10 : decode cX5_ruined 10 = .ok (.if_icmp .gt 29, 3) := by decide +kernel
theorem dX5_ruined_13 : decode cX5_ruined 13 = .ok (.aload_n 0, 1) := by decide +kernel
theorem dX5_ruined_14 : decode cX5_ruined 14 = .ok (.getfield 37, 3) := by decide +kernel
theorem dX5_ruined_17 : decode cX5_ruined 17 = .ok (.invokevirtual 327, 3) := by decide +kernel
theorem dX5_ruined_20 : decode cX5_ruined 20 = .ok (.ifCond .ge 5, 3) := by decide +kernel
theorem dX5_ruined_23 : decode cX5_ruined 23 = .ok (.iload_n 1, 1) := by decide +kernel
theorem dX5_ruined_24 : decode cX5_ruined 24 = .ok (.ireturn, 1) := by decide +kernel
theorem dX5_ruined_25 : decode cX5_ruined 25 = .ok (.aload_n 0, 1) := by decide +kernel
theorem dX5_ruined_26 : decode cX5_ruined 26 = .ok (.getfield 37, 3) := by decide +kernel
theorem dX5_ruined_29 : decode cX5_ruined 29 = .ok (.invokevirtual 207, 3) := by decide +kernel
theorem dX5_ruined_32 : decode cX5_ruined 32 = .ok (.pop, 1) := by decide +kernel
theorem dX5_ruined_33 : decode cX5_ruined 33 = .ok (.iinc 1 1, 3) := by decide +kernel
theorem dX5_ruined_36 : decode cX5_ruined 36 = .ok (.goto (-29), 3) := by decide +kernel
theorem dX5_ruined_39 : decode cX5_ruined 39 = .ok (.iconst (-1), 1) := by decide +kernel
theorem dX5_ruined_40 : decode cX5_ruined 40 = .ok (.ireturn, 1) := by decide +kernel
theorem dX5_nextSeed_0 : decode cX5_nextSeed 0 = .ok (.iload_n 0, 1) := by decide +kernel
theorem dX5_nextSeed_1 : decode cX5_nextSeed 1 = .ok (.ldc_w 341, 3) := by decide +kernel
theorem dX5_nextSeed_4 : decode cX5_nextSeed 4 = .ok (.imul, 1) := by decide +kernel
theorem dX5_nextSeed_5 : decode cX5_nextSeed 5 = .ok (.sipush 12345, 3) := by decide +kernel
theorem dX5_nextSeed_8 : decode cX5_nextSeed 8 = .ok (.iadd, 1) := by decide +kernel
theorem dX5_nextSeed_9 : decode cX5_nextSeed 9 = .ok (.ireturn, 1) := by decide +kernel
theorem dX5_draw_0 : decode cX5_draw 0 = .ok (.iload_n 1, 1) := by decide +kernel
theorem dX5_draw_1 : decode cX5_draw 1 = .ok (.ifCond .le 16, 3) := by decide +kernel
theorem dX5_draw_4 : decode cX5_draw 4 = .ok (.iload_n 0, 1) := by decide +kernel
theorem dX5_draw_5 : decode cX5_draw 5 = .ok (.bipush 16, 2) := by decide +kernel
theorem dX5_draw_7 : decode cX5_draw 7 = .ok (.iushr, 1) := by decide +kernel
theorem dX5_draw_8 : decode cX5_draw 8 = .ok (.sipush 32767, 3) := by decide +kernel
theorem dX5_draw_11 : decode cX5_draw 11 = .ok (.iand, 1) := by decide +kernel
theorem dX5_draw_12 : decode cX5_draw 12 = .ok (.iload_n 1, 1) := by decide +kernel
theorem dX5_draw_13 : decode cX5_draw 13 = .ok (.irem, 1) := by decide +kernel
theorem dX5_draw_14 : decode cX5_draw 14 = .ok (.goto 4, 3) := by decide +kernel
theorem dX5_draw_17 : decode cX5_draw 17 = .ok (.iconst 0, 1) := by decide +kernel
theorem dX5_draw_18 : decode cX5_draw 18 = .ok (.ireturn, 1) := by decide +kernel
theorem dX5_isTax_0 : decode cX5_isTax 0 = .ok (.iload_n 0, 1) := by decide +kernel
theorem dX5_isTax_1 : decode cX5_isTax 1 = .ok (.ifCond .lt 14, 3) := by decide +kernel
theorem dX5_isTax_4 : decode cX5_isTax 4 = .ok (.iload_n 0, 1) := by decide +kernel
theorem dX5_isTax_5 : decode cX5_isTax 5 = .ok (.sipush 999, 3) := by decide +kernel
theorem dX5_isTax_8 : decode cX5_isTax 8 = .ok (.if_icmp .gt 7, 3) := by decide +kernel
theorem dX5_isTax_11 : decode cX5_isTax 11 = .ok (.iconst 1, 1) := by decide +kernel
theorem dX5_isTax_12 : decode cX5_isTax 12 = .ok (.goto 4, 3) := by decide +kernel
theorem dX5_isTax_15 : decode cX5_isTax 15 = .ok (.iconst 0, 1) := by decide +kernel
theorem dX5_isTax_16 : decode cX5_isTax 16 = .ok (.ireturn, 1) := by decide +kernel
theorem dX5_houseBits_0 : decode cX5_houseBits 0 = .ok (.iconst 1, 1) := by decide +kernel
theorem dX5_houseBits_1 : decode cX5_houseBits 1 = .ok (.aload_n 0, 1) := by decide +kernel
theorem dX5_houseBits_2 : decode cX5_houseBits 2 = .ok (.getfield 10, 3) := by decide +kernel
theorem dX5_houseBits_5 : decode cX5_houseBits 5 = .ok (.getfield 116, 3) := by decide +kernel
theorem dX5_houseBits_8 : decode cX5_houseBits 8 = .ok (.ishl, 1) := by decide +kernel
theorem dX5_houseBits_9 : decode cX5_houseBits 9 = .ok (.iconst 1, 1) := by decide +kernel
theorem dX5_houseBits_10 : decode cX5_houseBits 10 = .ok (.isub, 1) := by decide +kernel
theorem dX5_houseBits_11 : decode cX5_houseBits 11 = .ok (.ireturn, 1) := by decide +kernel
