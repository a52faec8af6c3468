theorem dX0_begin_0 : decode cX0_begin 0 = .ok (.aload_n 1, 1) := by decide +kernel
theorem dX0_begin_1 : decode cX0_begin 1 = .ok (.getfield 24, 3) := by decide +kernel
theorem dX0_begin_4 : decode cX0_begin 4 = .ok (.iconst 0, 1) := by decide +kernel
theorem dX0_begin_5 : decode cX0_begin 5 = .ok (.aload_n 0, 1) := by decide +kernel
theorem dX0_begin_6 : decode cX0_begin 6 = .ok (.getfield 9, 3) := by decide +kernel
theorem dX0_begin_9 : decode cX0_begin 9 = .ok (.iconst 0, 1) := by decide +kernel
theorem dX0_begin_10 : decode cX0_begin 10 = .ok (.bipush 62, 2) := by decide +kernel
theorem dX0_begin_12 : decode cX0_begin 12 = .ok (.invokestatic 29, 3) := by decide +kernel
theorem dX0_begin_15 : decode cX0_begin 15 = .ok (.aload_n 0, 1) := by decide +kernel
theorem dX0_begin_16 : decode cX0_begin 16 = .ok (.iconst 0, 1) := by decide +kernel
theorem dX0_begin_17 : decode cX0_begin 17 = .ok (.putfield 35, 3) := by decide +kernel
theorem dX0_begin_20 : decode cX0_begin 20 = .ok (.aload_n 0, 1) := by decide +kernel
theorem dX0_begin_21 : decode cX0_begin 21 = .ok (.iconst 0, 1) := by decide +kernel
theorem dX0_begin_22 : decode cX0_begin 22 = .ok (.putfield 39, 3) := by decide +kernel
theorem dX0_begin_25 : decode cX0_begin 25 = .ok (.aload_n 0, 1) := by decide +kernel
theorem dX0_begin_26 : decode cX0_begin 26 = .ok (.iconst 0, 1) := by decide +kernel
theorem dX0_begin_27 : decode cX0_begin 27 = .ok (.putfield 42, 3) := by decide +kernel
theorem dX0_begin_30 : decode cX0_begin 30 = .ok (.return_, 1) := by decide +kernel
theorem dX0_latest_0 : decode cX0_latest 0 = .ok (.aload_n 0, 1) := by decide +kernel
theorem dX0_latest_1 : decode cX0_latest 1 = .ok (.getfield 35, 3) := by decide +kernel
theorem dX0_latest_4 : decode cX0_latest 4 = .ok (.aload_n 0, 1) := by decide +kernel
theorem dX0_latest_5 : decode cX0_latest 5 = .ok (.getfield 39, 3) := by decide +kernel
theorem dX0_latest_8 : decode cX0_latest 8 = .ok (.iadd, 1) := by decide +kernel
theorem dX0_latest_9 : decode cX0_latest 9 = .ok (.iconst 1, 1) := by decide +kernel
theorem dX0_latest_10 : decode cX0_latest 10 = .ok (.isub, 1) := by decide +kernel
theorem dX0_latest_11 : decode cX0_latest 11 = .ok (.bipush 40, 2) := by decide +kernel
theorem dX0_latest_13 : decode cX0_latest 13 = .ok (.irem, 1) := by decide +kernel
theorem dX0_latest_14 : decode cX0_latest 14 = .ok (.bipush 62, 2) := by decide +kernel
theorem dX0_latest_16 : decode cX0_latest 16 = .ok (.imul, 1) := by decide +kernel
theorem dX0_latest_17 : decode cX0_latest 17 = .ok (.ireturn, 1) := by decide +kernel
theorem dX0_remember_0 : decode cX0_remember 0 = .ok (.aload_n 0, 1) := by decide +kernel
theorem dX0_remember_1 : decode cX0_remember 1 = .ok (.getfield 39, 3) := by decide +kernel
theorem dX0_remember_4 : decode cX0_remember 4 = .ok (.bipush 40, 2) := by decide +kernel
theorem dX0_remember_6 : decode cX0_remember 6 = .ok (.if_icmp .ge 16, 3) := by decide +kernel
theorem dX0_remember_9 : decode cX0_remember 9 = .ok (.aload_n 0, 1) := by decide +kernel
theorem dX0_remember_10 : decode cX0_remember 10 = .ok (.dup, 1) := by decide +kernel
theorem dX0_remember_11 : decode cX0_remember 11 = .ok (.getfield 39, 3) := by decide +kernel
theorem dX0_remember_14 : decode cX0_remember 14 = .ok (.iconst 1, 1) := by decide +kernel
theorem dX0_remember_15 : decode cX0_remember 15 = .ok (.iadd, 1) := by decide +kernel
theorem dX0_remember_16 : decode cX0_remember 16 = .ok (.putfield 39, 3) := by decide +kernel
theorem dX0_remember_19 : decode cX0_remember 19 = .ok (.goto 16, 3) := by decide +kernel
theorem dX0_remember_22 : decode cX0_remember 22 = .ok (.aload_n 0, 1) := by decide +kernel
theorem dX0_remember_23 : decode cX0_remember 23 = .ok (.aload_n 0, 1) := by decide +kernel
theorem dX0_remember_24 : decode cX0_remember 24 = .ok (.getfield 35, 3) := by decide +kernel
theorem dX0_remember_27 : decode cX0_remember 27 = .ok (.iconst 1, 1) := by decide +kernel
theorem dX0_remember_28 : decode cX0_remember 28 = .ok (.iadd, 1) := by decide +kernel
theorem dX0_remember_29 : decode cX0_remember 29 = .ok (.bipush 40, 2) := by decide +kernel
theorem dX0_remember_31 : decode cX0_remember 31 = .ok (.irem, 1) := by decide +kernel
theorem dX0_remember_32 : decode cX0_remember 32 = .ok (.putfield 35, 3) := by decide +kernel
theorem dX0_remember_35 : decode cX0_remember 35 = .ok (.aload_n 0, 1) := by decide +kernel
theorem dX0_remember_36 : decode cX0_remember 36 = .ok (.getfield 9, 3) := by decide +kernel
theorem dX0_remember_39 : decode cX0_remember 39 = .ok (.iconst 0, 1) := by decide +kernel
theorem dX0_remember_40 : decode cX0_remember 40 = .ok (.aload_n 0, 1) := by decide +kernel
theorem dX0_remember_41 : decode cX0_remember 41 = .ok (.getfield 15, 3) := by decide +kernel
theorem dX0_remember_44 : decode cX0_remember 44 = .ok (.aload_n 0, 1) := by decide +kernel
theorem dX0_remember_45 : decode cX0_remember 45 = .ok (.invokevirtual 45, 3) := by decide +kernel
theorem dX0_remember_48 : decode cX0_remember 48 = .ok (.bipush 62, 2) := by decide +kernel
theorem dX0_remember_50 : decode cX0_remember 50 = .ok (.invokestatic 29, 3) := by decide +kernel
theorem dX0_remember_53 : decode cX0_remember 53 = .ok (.return_, 1) := by decide +kernel
theorem dX0_recall_0 : decode cX0_recall 0 = .ok (.aload_n 0, 1) := by decide +kernel
theorem dX0_recall_1 : decode cX0_recall 1 = .ok (.getfield 39, 3) := by decide +kernel
theorem dX0_recall_4 : decode cX0_recall 4 = .ok (.ifCond .ne 5, 3) := by decide +kernel
theorem dX0_recall_7 : decode cX0_recall 7 = .ok (.iconst 0, 1) := by decide +kernel
theorem dX0_recall_8 : decode cX0_recall 8 = .ok (.ireturn, 1) := by decide +kernel
theorem dX0_recall_9 : decode cX0_recall 9 = .ok (.aload_n 0, 1) := by decide +kernel
theorem dX0_recall_10 : decode cX0_recall 10 = .ok (.getfield 15, 3) := by decide +kernel
theorem dX0_recall_13 : decode cX0_recall 13 = .ok (.aload_n 0, 1) := by decide +kernel
theorem dX0_recall_14 : decode cX0_recall 14 = .ok (.invokevirtual 45, 3) := by decide +kernel
theorem dX0_recall_17 : decode cX0_recall 17 = .ok (.aload_n 0, 1) := by decide +kernel
theorem dX0_recall_18 : decode cX0_recall 18 = .ok (.getfield 9, 3) := by decide +kernel
theorem dX0_recall_21 : decode cX0_recall 21 = .ok (.iconst 0, 1) := by decide +kernel
theorem dX0_recall_22 : decode cX0_recall 22 = .ok (.bipush 62, 2) := by decide +kernel
theorem dX0_recall_24 : decode cX0_recall 24 = .ok (.invokestatic 29, 3) := by decide +kernel
theorem dX0_recall_27 : decode cX0_recall 27 = .ok (.aload_n 0, 1) := by decide +kernel
theorem dX0_recall_28 : decode cX0_recall 28 = .ok (.dup, 1) := by decide +kernel
theorem dX0_recall_29 : decode cX0_recall 29 = .ok (.getfield 39, 3) := by decide +kernel
theorem dX0_recall_32 : decode cX0_recall 32 = .ok (.iconst 1, 1) := by decide +kernel
theorem dX0_recall_33 : decode cX0_recall 33 = .ok (.isub, 1) := by decide +kernel
theorem dX0_recall_34 : decode cX0_recall 34 = .ok (.putfield 39, 3) := by decide +kernel
theorem dX0_recall_37 : decode cX0_recall 37 = .ok (.iconst 1, 1) := by decide +kernel
theorem dX0_recall_38 : decode cX0_recall 38 = .ok (.ireturn, 1) := by decide +kernel
theorem dX0_write_0 : decode cX0_write 0 = .ok (.aload_n 0, 1) := by decide +kernel
theorem dX0_write_1 : decode cX0_write 1 = .ok (.getfield 42, 3) := by decide +kernel
theorem dX0_write_4 : decode cX0_write 4 = .ok (.bipush 6, 2) := by decide +kernel
theorem dX0_write_6 : decode cX0_write 6 = .ok (.if_icmp .lt 5, 3) := by decide +kernel
theorem dX0_write_9 : decode cX0_write 9 = .ok (.iconst 0, 1) := by decide +kernel
theorem dX0_write_10 : decode cX0_write 10 = .ok (.ireturn, 1) := by decide +kernel
theorem dX0_write_11 : decode cX0_write 11 = .ok (.aload_n 0, 1) := by decide +kernel
theorem dX0_write_12 : decode cX0_write 12 = .ok (.getfield 18, 3) := by decide +kernel
theorem dX0_write_15 : decode cX0_write 15 = .ok (.aload_n 0, 1) := by decide +kernel
theorem dX0_write_16 : decode cX0_write 16 = .ok (.getfield 42, 3) := by decide +kernel
theorem dX0_write_19 : decode cX0_write 19 = .ok (.iload_n 1, 1) := by decide +kernel
theorem dX0_write_20 : decode cX0_write 20 = .ok (.iastore, 1) := by decide +kernel
theorem dX0_write_21 : decode cX0_write 21 = .ok (.aload_n 0, 1) := by decide +kernel
theorem dX0_write_22 : decode cX0_write 22 = .ok (.getfield 21, 3) := by decide +kernel
theorem dX0_write_25 : decode cX0_write 25 = .ok (.aload_n 0, 1) := by decide +kernel
theorem dX0_write_26 : decode cX0_write 26 = .ok (.getfield 42, 3) := by decide +kernel
theorem dX0_write_29 : decode cX0_write 29 = .ok (.iload_n 2, 1) := by decide +kernel
theorem dX0_write_30 : decode cX0_write 30 = .ok (.iastore, 1) := by decide +kernel
theorem dX0_write_31 : decode cX0_write 31 = .ok (.aload_n 0, 1) := by decide +kernel
theorem dX0_write_32 : decode cX0_write 32 = .ok (.dup, 1) := by decide +kernel
theorem dX0_write_33 : decode cX0_write 33 = .ok (.getfield 42, 3) := by decide +kernel
theorem dX0_write_36 : decode cX0_write 36 = .ok (.iconst 1, 1) := by decide +kernel
theorem dX0_write_37 : decode cX0_write 37 = .ok (.iadd, 1) := by decide +kernel
theorem dX0_write_38 : decode cX0_write 38 = .ok (.putfield 42, 3) := by decide +kernel
theorem dX0_write_41 : decode cX0_write 41 = .ok (.iconst 1, 1) := by decide +kernel
theorem dX0_write_42 : decode cX0_write 42 = .ok (.ireturn, 1) := by decide +kernel
theorem dX1_clear_0 : decode cX1_clear 0 = .ok (.aload_n 0, 1) := by decide +kernel
theorem dX1_clear_1 : decode cX1_clear 1 = .ok (.bipush 8, 2) := by decide +kernel
theorem dX1_clear_3 : decode cX1_clear 3 = .ok (.putfield 9, 3) := by decide +kernel
theorem dX1_clear_6 : decode cX1_clear 6 = .ok (.aload_n 0, 1) := by decide +kernel
theorem dX1_clear_7 : decode cX1_clear 7 = .ok (.bipush 8, 2) := by decide +kernel
theorem dX1_clear_9 : decode cX1_clear 9 = .ok (.putfield 15, 3) := by decide +kernel
theorem dX1_clear_12 : decode cX1_clear 12 = .ok (.aload_n 0, 1) := by decide +kernel
theorem dX1_clear_13 : decode cX1_clear 13 = .ok (.iconst 0, 1) := by decide +kernel
theorem dX1_clear_14 : decode cX1_clear 14 = .ok (.putfield 43, 3) := by decide +kernel
theorem dX1_clear_17 : decode cX1_clear 17 = .ok (.aload_n 0, 1) := by decide +kernel
theorem dX1_clear_18 : decode cX1_clear 18 = .ok (.iconst 0, 1) := by decide +kernel
theorem dX1_clear_19 : decode cX1_clear 19 = .ok (.putfield 46, 3) := by decide +kernel
theorem dX1_clear_22 : decode cX1_clear 22 = .ok (.aload_n 0, 1) := by decide +kernel
theorem dX1_clear_23 : decode cX1_clear 23 = .ok (.iconst 0, 1) := by decide +kernel
theorem dX1_clear_24 : decode cX1_clear 24 = .ok (.putfield 49, 3) := by decide +kernel
theorem dX1_clear_27 : decode cX1_clear 27 = .ok (.iconst 0, 1) := by decide +kernel
theorem dX1_clear_28 : decode cX1_clear 28 = .ok (.istore_n 1, 1) := by decide +kernel
theorem dX1_clear_29 : decode cX1_clear 29 = .ok (.iload_n 1, 1) := by decide +kernel
theorem dX1_clear_30 : decode cX1_clear 30 = .ok (.aload_n 0, 1) := by decide +kernel
theorem dX1_clear_31 : decode cX1_clear 31 = .ok (.getfield 18, 3) := by decide +kernel
theorem dX1_clear_34 : decode cX1_clear 34 = .ok (.arraylength, 1) := by decide +kernel
theorem dX1_clear_35 : decode cX1_clear 35 = .ok (.if_icmp .ge 16, 3) := by decide +kernel
theorem dX1_clear_38 : decode cX1_clear 38 = .ok (.aload_n 0, 1) := by decide +kernel
theorem dX1_clear_39 : decode cX1_clear 39 = .ok (.getfield 18, 3) := by decide +kernel
theorem dX1_clear_42 : decode cX1_clear 42 = .ok (.iload_n 1, 1) := by decide +kernel
theorem dX1_clear_43 : decode cX1_clear 43 = .ok (.iconst 0, 1) := by decide +kernel
theorem dX1_clear_44 : decode cX1_clear 44 = .ok (.iastore, 1) := by decide +kernel
theorem dX1_clear_45 : decode cX1_clear 45 = .ok (.iinc 1 1, 3) := by decide +kernel
theorem dX1_clear_48 : decode cX1_clear 48 = .ok (.goto (-19), 3) := by decide +kernel
theorem dX1_clear_51 : decode cX1_clear 51 = .ok (.iconst 0, 1) := by decide +kernel
theorem dX1_clear_52 : decode cX1_clear 52 = .ok (.istore_n 1, 1) := by decide +kernel
theorem dX1_clear_53 : decode cX1_clear 53 = .ok (.iload_n 1, 1) := by decide +kernel
theorem dX1_clear_54 : decode cX1_clear 54 = .ok (.aload_n 0, 1) := by decide +kernel
theorem dX1_clear_55 : decode cX1_clear 55 = .ok (.getfield 37, 3) := by decide +kernel
theorem dX1_clear_58 : decode cX1_clear 58 = .ok (.arraylength, 1) := by decide +kernel
theorem dX1_clear_59 : decode cX1_clear 59 = .ok (.if_icmp .ge 16, 3) := by decide +kernel
theorem dX1_clear_62 : decode cX1_clear 62 = .ok (.aload_n 0, 1) := by decide +kernel
theorem dX1_clear_63 : decode cX1_clear 63 = .ok (.getfield 37, 3) := by decide +kernel
theorem dX1_clear_66 : decode cX1_clear 66 = .ok (.iload_n 1, 1) := by decide +kernel
theorem dX1_clear_67 : decode cX1_clear 67 = .ok (.iconst 0, 1) := by decide +kernel
theorem dX1_clear_68 : decode cX1_clear 68 = .ok (.iastore, 1) := by decide +kernel
theorem dX1_clear_69 : decode cX1_clear 69 = .ok (.iinc 1 1, 3) := by decide +kernel
theorem dX1_clear_72 : decode cX1_clear 72 = .ok (.goto (-19), 3) := by decide +kernel
theorem dX1_clear_75 : decode cX1_clear 75 = .ok (.iconst 0, 1) := by decide +kernel
theorem dX1_clear_76 : decode cX1_clear 76 = .ok (.istore_n 1, 1) := by decide +kernel
theorem dX1_clear_77 : decode cX1_clear 77 = .ok (.iload_n 1, 1) := by decide +kernel
theorem dX1_clear_78 : decode cX1_clear 78 = .ok (.bipush 12, 2) := by decide +kernel
theorem dX1_clear_80 : decode cX1_clear 80 = .ok (.if_icmp .ge 18, 3) := by decide +kernel
theorem dX1_clear_83 : decode cX1_clear 83 = .ok (.aload_n 0, 1) := by decide +kernel
theorem dX1_clear_84 : decode cX1_clear 84 = .ok (.getfield 37, 3) := by decide +kernel
theorem dX1_clear_87 : decode cX1_clear 87 = .ok (.iconst 0, 1) := by decide +kernel
theorem dX1_clear_88 : decode cX1_clear 88 = .ok (.iload_n 1, 1) := by decide +kernel
theorem dX1_clear_89 : decode cX1_clear 89 = .ok (.iadd, 1) := by decide +kernel
theorem dX1_clear_90 : decode cX1_clear 90 = .ok (.iconst (-1), 1) := by decide +kernel
theorem dX1_clear_91 : decode cX1_clear 91 = .ok (.iastore, 1) := by decide +kernel
theorem dX1_clear_92 : decode cX1_clear 92 = .ok (.iinc 1 1, 3) := by decide +kernel
theorem dX1_clear_95 : decode cX1_clear 95 = .ok (.goto (-18), 3) := by decide +kernel
theorem dX1_clear_98 : decode cX1_clear 98 = .ok (.aload_n 0, 1) := by decide +kernel
theorem dX1_clear_99 : decode cX1_clear 99 = .ok (.getfield 37, 3) := by decide +kernel
theorem dX1_clear_102 : decode cX1_clear 102 = .ok (.bipush 60, 2) := by decide +kernel
theorem dX1_clear_104 : decode cX1_clear 104 = .ok (.iconst (-1), 1) := by decide +kernel
theorem dX1_clear_105 : decode cX1_clear 105 = .ok (.iastore, 1) := by decide +kernel
theorem dX1_clear_106 : decode cX1_clear 106 = .ok (.return_, 1) := by decide +kernel
theorem dX1_cells_0 : decode cX1_cells 0 = .ok (.aload_n 0, 1) := by decide +kernel
theorem dX1_cells_1 : decode cX1_cells 1 = .ok (.getfield 9, 3) := by decide +kernel
theorem dX1_cells_4 : decode cX1_cells 4 = .ok (.aload_n 0, 1) := by decide +kernel
theorem dX1_cells_5 : decode cX1_cells 5 = .ok (.getfield 15, 3) := by decide +kernel
theorem dX1_cells_8 : decode cX1_cells 8 = .ok (.imul, 1) := by decide +kernel
theorem dX1_cells_9 : decode cX1_cells 9 = .ok (.ireturn, 1) := by decide +kernel
theorem dX1_fogOf_0 : decode cX1_fogOf 0 = .ok (.aload_n 0, 1) := by decide +kernel
theorem dX1_fogOf_1 : decode cX1_fogOf 1 = .ok (.getfield 46, 3) := by decide +kernel
theorem dX1_fogOf_4 : decode cX1_fogOf 4 = .ok (.ifCond .le 21, 3) := by decide +kernel
theorem dX1_fogOf_7 : decode cX1_fogOf 7 = .ok (.iload_n 1, 1) := by decide +kernel
theorem dX1_fogOf_8 : decode cX1_fogOf 8 = .ok (.ifCond .lt 17, 3) := by decide +kernel
theorem dX1_fogOf_11 : decode cX1_fogOf 11 = .ok (.aload_n 0, 1) := by decide +kernel
theorem dX1_fogOf_12 : decode cX1_fogOf 12 = .ok (.getfield 28, 3) := by decide +kernel
theorem dX1_fogOf_15 : decode cX1_fogOf 15 = .ok (.iload_n 1, 1) := by decide +kernel
theorem dX1_fogOf_16 : decode cX1_fogOf 16 = .ok (.aload_n 0, 1) := by decide +kernel
theorem dX1_fogOf_17 : decode cX1_fogOf 17 = .ok (.getfield 46, 3) := by decide +kernel
theorem dX1_fogOf_20 : decode cX1_fogOf 20 = .ok (.irem, 1) := by decide +kernel
theorem dX1_fogOf_21 : decode cX1_fogOf 21 = .ok (.iaload, 1) := by decide +kernel
theorem dX1_fogOf_22 : decode cX1_fogOf 22 = .ok (.goto 5, 3) := by decide +kernel
theorem dX1_fogOf_25 : decode cX1_fogOf 25 = .ok (.bipush 9, 2) := by decide +kernel
theorem dX1_fogOf_27 : decode cX1_fogOf 27 = .ok (.ireturn, 1) := by decide +kernel
theorem dX1_houseIn_0 : decode cX1_houseIn 0 = .ok (.iconst 0, 1) := by decide +kernel
theorem dX1_houseIn_1 : decode cX1_houseIn 1 = .ok (.istore_n 2, 1) := by decide +kernel
theorem dX1_houseIn_2 : decode cX1_houseIn 2 = .ok (.iload_n 2, 1) := by decide +kernel
theorem dX1_houseIn_3 : decode cX1_houseIn 3 = .ok (.aload_n 0, 1) := by decide +kernel
theorem dX1_houseIn_4 : decode cX1_houseIn 4 = .ok (.getfield 43, 3) := by decide +kernel
theorem dX1_houseIn_7 : decode cX1_houseIn 7 = .ok (.if_icmp .ge 21, 3) := by decide +kernel
theorem dX1_houseIn_10 : decode cX1_houseIn 10 = .ok (.aload_n 0, 1) := by decide +kernel
theorem dX1_houseIn_11 : decode cX1_houseIn 11 = .ok (.getfield 22, 3) := by decide +kernel
theorem dX1_houseIn_14 : decode cX1_houseIn 14 = .ok (.iload_n 2, 1) := by decide +kernel
theorem dX1_houseIn_15 : decode cX1_houseIn 15 = .ok (.iaload, 1) := by decide +kernel
theorem dX1_houseIn_16 : decode cX1_houseIn 16 = .ok (.iload_n 1, 1) := by decide +kernel
theorem dX1_houseIn_17 : decode cX1_houseIn 17 = .ok (.if_icmp .ne 5, 3) := by decide +kernel
theorem dX1_houseIn_20 : decode cX1_houseIn 20 = .ok (.iload_n 2, 1) := by decide +kernel
theorem dX1_houseIn_21 : decode cX1_houseIn 21 = .ok (.ireturn, 1) := by decide +kernel
theorem dX1_houseIn_22 : decode cX1_houseIn 22 = .ok (.iinc 2 1, 3) := by decide +kernel
theorem dX1_houseIn_25 : decode cX1_houseIn 25 = .ok (.goto (-23), 3) := by decide +kernel
theorem dX1_houseIn_28 : decode cX1_houseIn 28 = .ok (.iconst (-1), 1) := by decide +kernel
theorem dX1_houseIn_29 : decode cX1_houseIn 29 = .ok (.ireturn, 1) := by decide +kernel
theorem dX5_hasBit_0 : decode cX5_hasBit 0 = .ok (.lload_n 0, 1) := by decide +kernel
theorem dX5_hasBit_1 : decode cX5_hasBit 1 = .ok (.iload_n 2, 1) := by decide +kernel
theorem dX5_hasBit_2 : decode cX5_hasBit 2 = .ok (.lushr, 1) := by decide +kernel
theorem dX5_hasBit_3 : decode cX5_hasBit 3 = .ok (.lconst 1, 1) := by decide +kernel
theorem dX5_hasBit_4 : decode cX5_hasBit 4 = .ok (.land, 1) := by decide +kernel
theorem dX5_hasBit_5 : decode cX5_hasBit 5 = .ok (.lconst 0, 1) := by decide +kernel
theorem dX5_hasBit_6 : decode cX5_hasBit 6 = .ok (.lcmp, 1) := by decide +kernel
theorem dX5_hasBit_7 : decode cX5_hasBit 7 = .ok (.ifCond .eq 7, 3) := by decide +kernel
theorem dX5_hasBit_10 : decode cX5_hasBit 10 = .ok (.iconst 1, 1) := by decide +kernel
theorem dX5_hasBit_11 : decode cX5_hasBit 11 = .ok (.goto 4, 3) := by decide +kernel
theorem dX5_hasBit_14 : decode cX5_hasBit 14 = .ok (.iconst 0, 1) := by decide +kernel
theorem dX5_hasBit_15 : decode cX5_hasBit 15 = .ok (.ireturn, 1) := by decide +kernel
theorem dX5_treeIn_0 : decode cX5_treeIn 0 = .ok (.iconst 0, 1) := by decide +kernel
theorem dX5_treeIn_1 : decode cX5_treeIn 1 = .ok (.istore_n 2, 1) := by decide +kernel
theorem dX5_treeIn_2 : decode cX5_treeIn 2 = .ok (.iload_n 2, 1) := by decide +kernel
theorem dX5_treeIn_3 : decode cX5_treeIn 3 = .ok (.bipush 12, 2) := by decide +kernel
theorem dX5_treeIn_5 : decode cX5_treeIn 5 = .ok (.if_icmp .ge 20, 3) := by decide +kernel
theorem dX5_treeIn_8 : decode cX5_treeIn 8 = .ok (.aload_n 0, 1) := by decide +kernel
theorem dX5_treeIn_9 : decode cX5_treeIn 9 = .ok (.iconst 0, 1) := by decide +kernel
theorem dX5_treeIn_10 : decode cX5_treeIn 10 = .ok (.iload_n 2, 1) := by decide +kernel
theorem dX5_treeIn_11 : decode cX5_treeIn 11 = .ok (.iadd, 1) := by decide +kernel
theorem dX5_treeIn_12 : decode cX5_treeIn 12 = .ok (.iaload, 1) := by decide +kernel
theorem dX5_treeIn_13 : decode cX5_treeIn 13 = .ok (.iload_n 1, 1) := by decide +kernel
theorem dX5_treeIn_14 : decode cX5_treeIn 14 = .ok (.if_icmp .ne 5, 3) := by decide +kernel
theorem dX5_treeIn_17 : decode cX5_treeIn 17 = .ok (.iload_n 2, 1) := by decide +kernel
theorem dX5_treeIn_18 : decode cX5_treeIn 18 = .ok (.ireturn, 1) := by decide +kernel
theorem dX5_treeIn_19 : decode cX5_treeIn 19 = .ok (.iinc 2 1, 3) := by decide +kernel
theorem dX5_treeIn_22 : decode cX5_treeIn 22 = .ok (.goto (-20), 3) := by decide +kernel
theorem dX5_treeIn_25 : decode cX5_treeIn 25 = .ok (.iconst (-1), 1) := by decide +kernel
theorem dX5_treeIn_26 : decode cX5_treeIn 26 = .ok (.ireturn, 1) := by decide +kernel
theorem dX4_stepsBetween_0 : decode cX4_stepsBetween 0 = .ok (.aload_n 0, 1) := by decide +kernel
theorem dX4_stepsBetween_1 : decode cX4_stepsBetween 1 = .ok (.getfield 18, 3) := by decide +kernel
theorem dX4_stepsBetween_4 : decode cX4_stepsBetween 4 = .ok (.getfield 55, 3) := by decide +kernel
theorem dX4_stepsBetween_7 : decode cX4_stepsBetween 7 = .ok (.istore_n 3, 1) := by decide +kernel
theorem dX4_stepsBetween_8 : decode cX4_stepsBetween 8 = .ok (.iload_n 3, 1) := by decide +kernel
theorem dX4_stepsBetween_9 : decode cX4_stepsBetween 9 = .ok (.iconst 1, 1) := by decide +kernel
theorem dX4_stepsBetween_10 : decode cX4_stepsBetween 10 = .ok (.if_icmp .ge 5, 3) := by decide +kernel
theorem dX4_stepsBetween_13 : decode cX4_stepsBetween 13 = .ok (.iconst 0, 1) := by decide +kernel
theorem dX4_stepsBetween_14 : decode cX4_stepsBetween 14 = .ok (.ireturn, 1) := by decide +kernel
theorem dX4_stepsBetween_15 : decode cX4_stepsBetween 15 = .ok (.iload_n 1, 1) := by decide +kernel
theorem dX4_stepsBetween_16 : decode cX4_stepsBetween 16 = .ok (.iload_n 3, 1) := by decide +kernel
theorem dX4_stepsBetween_17 : decode cX4_stepsBetween 17 = .ok (.irem, 1) := by decide +kernel
theorem dX4_stepsBetween_18 : decode cX4_stepsBetween 18 = .ok (.iload_n 2, 1) := by decide +kernel
theorem dX4_stepsBetween_19 : decode cX4_stepsBetween 19 = .ok (.iload_n 3, 1) := by decide +kernel
theorem dX4_stepsBetween_20 : decode cX4_stepsBetween 20 = .ok (.irem, 1) := by decide +kernel
theorem dX4_stepsBetween_21 : decode cX4_stepsBetween 21 = .ok (.isub, 1) := by decide +kernel
theorem dX4_stepsBetween_22 : decode cX4_stepsBetween 22 = .ok (.invokestatic 58, 3) := by decide +kernel
theorem dX4_stepsBetween_25 : decode cX4_stepsBetween 25 = .ok (.iload_n 1, 1) := by decide +kernel
theorem dX4_stepsBetween_26 : decode cX4_stepsBetween 26 = .ok (.iload_n 3, 1) := by decide +kernel
theorem dX4_stepsBetween_27 : decode cX4_stepsBetween 27 = .ok (.idiv, 1) := by decide +kernel
theorem dX4_stepsBetween_28 : decode cX4_stepsBetween 28 = .ok (.iload_n 2, 1) := by decide +kernel
theorem dX4_stepsBetween_29 : decode cX4_stepsBetween 29 = .ok (.iload_n 3, 1) := by decide +kernel
theorem dX4_stepsBetween_30 : decode cX4_stepsBetween 30 = .ok (.idiv, 1) := by decide +kernel
theorem dX4_stepsBetween_31 : decode cX4_stepsBetween 31 = .ok (.isub, 1) := by decide +kernel
theorem dX4_stepsBetween_32 : decode cX4_stepsBetween 32 = .ok (.invokestatic 58, 3) := by decide +kernel
theorem dX4_stepsBetween_35 : decode cX4_stepsBetween 35 = .ok (.invokestatic 64, 3) := by decide +kernel
theorem dX4_stepsBetween_38 : decode cX4_stepsBetween 38 = .ok (.ireturn, 1) := by decide +kernel
