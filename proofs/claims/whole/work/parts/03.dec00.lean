theorem dX0_init_0 : decode cX0_init 0 = .ok (.aload_n 0, 1) := by decide +kernel
theorem dX0_init_1 : decode cX0_init 1 = .ok (.invokespecial 3, 3) := by decide +kernel
theorem dX0_init_4 : decode cX0_init 4 = .ok (.aload_n 0, 1) := by decide +kernel
theorem dX0_init_5 : decode cX0_init 5 = .ok (.bipush 62, 2) := by decide +kernel
theorem dX0_init_7 : decode cX0_init 7 = .ok (.newarray .int, 2) := by decide +kernel
theorem dX0_init_9 : decode cX0_init 9 = .ok (.putfield 9, 3) := by decide +kernel
theorem dX0_init_12 : decode cX0_init 12 = .ok (.aload_n 0, 1) := by decide +kernel
theorem dX0_init_13 : decode cX0_init 13 = .ok (.sipush 2480, 3) := by decide +kernel
theorem dX0_init_16 : decode cX0_init 16 = .ok (.newarray .int, 2) := by decide +kernel
theorem dX0_init_18 : decode cX0_init 18 = .ok (.putfield 15, 3) := by decide +kernel
theorem dX0_init_21 : decode cX0_init 21 = .ok (.aload_n 0, 1) := by decide +kernel
theorem dX0_init_22 : decode cX0_init 22 = .ok (.bipush 6, 2) := by decide +kernel
theorem dX0_init_24 : decode cX0_init 24 = .ok (.newarray .int, 2) := by decide +kernel
theorem dX0_init_26 : decode cX0_init 26 = .ok (.putfield 18, 3) := by decide +kernel
theorem dX0_init_29 : decode cX0_init 29 = .ok (.aload_n 0, 1) := by decide +kernel
theorem dX0_init_30 : decode cX0_init 30 = .ok (.bipush 6, 2) := by decide +kernel
theorem dX0_init_32 : decode cX0_init 32 = .ok (.newarray .int, 2) := by decide +kernel
theorem dX0_init_34 : decode cX0_init 34 = .ok (.putfield 21, 3) := by decide +kernel
theorem dX0_init_37 : decode cX0_init 37 = .ok (.return_, 1) := by decide +kernel
theorem dX0_begin_0 : decode cX0_begin 0 = .ok (.aload_n 1, 1) := by decide +kernel
theorem dX0_begin_1 : decode cX0_begin 1 = .ok (.getfield 24, 3) := by decide +kernel
theorem dX0_begin_4 : decode cX0_begin 4 = .ok (.iconst 0, 1) := by decide +kernel
theorem dX0_begin_5 : decode cX0_begin 5 = .ok (.aload_n 0, 1) := by decide +kernel
theorem dX0_begin_6 : decode cX0_begin 6 = .ok (.getfield 9, 3) := by decide +kernel
theorem dX0_begin_9 : decode cX0_begin 9 = .ok (.iconst 0, 1) := by decide +kernel
theorem dX0_begin_10 : decode cX0_begin 10 = .ok (.bipush 62, 2) := by decide +kernel
theorem dX0_begin_12 : decode cX0_begin 12 = .ok (.invokestatic 29, 3) := by decide +kernel
theorem dX0_begin_15 : decode cX0_begin 15 = .ok (.aload_n 0, 1) := by decide +kernel
theorem dX0_begin_16 : decode cX0_begin 16 = .ok (.iconst 0, 1) := by decide +kernel
theorem dX0_begin_17 : decode cX0_begin 17 = .ok (.putfield 35, 3) := by decide +kernel
theorem dX0_begin_20 : decode cX0_begin 20 = .ok (.aload_n 0, 1) := by decide +kernel
theorem dX0_begin_21 : decode cX0_begin 21 = .ok (.iconst 0, 1) := by decide +kernel
theorem dX0_begin_22 : decode cX0_begin 22 = .ok (.putfield 39, 3) := by decide +kernel
theorem dX0_begin_25 : decode cX0_begin 25 = .ok (.aload_n 0, 1) := by decide +kernel
theorem dX0_begin_26 : decode cX0_begin 26 = .ok (.iconst 0, 1) := by decide +kernel
theorem dX0_begin_27 : decode cX0_begin 27 = .ok (.putfield 42, 3) := by decide +kernel
theorem dX0_begin_30 : decode cX0_begin 30 = .ok (.return_, 1) := by decide +kernel
theorem dX0_remember_0 : decode cX0_remember 0 = .ok (.aload_n 0, 1) := by decide +kernel
theorem dX0_remember_1 : decode cX0_remember 1 = .ok (.getfield 39, 3) := by decide +kernel
theorem dX0_remember_4 : decode cX0_remember 4 = .ok (.bipush 40, 2) := by decide +kernel
theorem dX0_remember_6 : decode cX0_remember 6 = .ok (.if_icmp .ge 16, 3) := by decide +kernel
theorem dX0_remember_9 : decode cX0_remember 9 = .ok (.aload_n 0, 1) := by decide +kernel
theorem dX0_remember_10 : decode cX0_remember 10 = .ok (.dup, 1) := by decide +kernel
theorem dX0_remember_11 : decode cX0_remember 11 = .ok (.getfield 39, 3) := by decide +kernel
theorem dX0_remember_14 : decode cX0_remember 14 = .ok (.iconst 1, 1) := by decide +kernel
theorem dX0_remember_15 : decode cX0_remember 15 = .ok (.iadd, 1) := by decide +kernel
theorem dX0_remember_16 : decode cX0_remember 16 = .ok (.putfield 39, 3) := by decide +kernel
theorem dX0_remember_19 : decode cX0_remember 19 = .ok (.goto 16, 3) := by decide +kernel
theorem dX0_remember_22 : decode cX0_remember 22 = .ok (.aload_n 0, 1) := by decide +kernel
theorem dX0_remember_23 : decode cX0_remember 23 = .ok (.aload_n 0, 1) := by decide +kernel
theorem dX0_remember_24 : decode cX0_remember 24 = .ok (.getfield 35, 3) := by decide +kernel
theorem dX0_remember_27 : decode cX0_remember 27 = .ok (.iconst 1, 1) := by decide +kernel
theorem dX0_remember_28 : decode cX0_remember 28 = .ok (.iadd, 1) := by decide +kernel
theorem dX0_remember_29 : decode cX0_remember 29 = .ok (.bipush 40, 2) := by decide +kernel
theorem dX0_remember_31 : decode cX0_remember 31 = .ok (.irem, 1) := by decide +kernel
theorem dX0_remember_32 : decode cX0_remember 32 = .ok (.putfield 35, 3) := by decide +kernel
theorem dX0_remember_35 : decode cX0_remember 35 = .ok (.aload_n 0, 1) := by decide +kernel
theorem dX0_remember_36 : decode cX0_remember 36 = .ok (.getfield 9, 3) := by decide +kernel
theorem dX0_remember_39 : decode cX0_remember 39 = .ok (.iconst 0, 1) := by decide +kernel
theorem dX0_remember_40 : decode cX0_remember 40 = .ok (.aload_n 0, 1) := by decide +kernel
theorem dX0_remember_41 : decode cX0_remember 41 = .ok (.getfield 15, 3) := by decide +kernel
theorem dX0_remember_44 : decode cX0_remember 44 = .ok (.aload_n 0, 1) := by decide +kernel
theorem dX0_remember_45 : decode cX0_remember 45 = .ok (.invokevirtual 45, 3) := by decide +kernel
theorem dX0_remember_48 : decode cX0_remember 48 = .ok (.bipush 62, 2) := by decide +kernel
theorem dX0_remember_50 : decode cX0_remember 50 = .ok (.invokestatic 29, 3) := by decide +kernel
theorem dX0_remember_53 : decode cX0_remember 53 = .ok (.return_, 1) := by decide +kernel
theorem dX0_recall_0 : decode cX0_recall 0 = .ok (.aload_n 0, 1) := by decide +kernel
theorem dX0_recall_1 : decode cX0_recall 1 = .ok (.getfield 39, 3) := by decide +kernel
theorem dX0_recall_4 : decode cX0_recall 4 = .ok (.ifCond .ne 5, 3) := by decide +kernel
theorem dX0_recall_7 : decode cX0_recall 7 = .ok (.iconst 0, 1) := by decide +kernel
theorem dX0_recall_8 : decode cX0_recall 8 = .ok (.ireturn, 1) := by decide +kernel
theorem dX0_recall_9 : decode cX0_recall 9 = .ok (.aload_n 0, 1) := by decide +kernel
theorem dX0_recall_10 : decode cX0_recall 10 = .ok (.getfield 15, 3) := by decide +kernel
theorem dX0_recall_13 : decode cX0_recall 13 = .ok (.aload_n 0, 1) := by decide +kernel
theorem dX0_recall_14 : decode cX0_recall 14 = .ok (.invokevirtual 45, 3) := by decide +kernel
theorem dX0_recall_17 : decode cX0_recall 17 = .ok (.aload_n 0, 1) := by decide +kernel
theorem dX0_recall_18 : decode cX0_recall 18 = .ok (.getfield 9, 3) := by decide +kernel
theorem dX0_recall_21 : decode cX0_recall 21 = .ok (.iconst 0, 1) := by decide +kernel
theorem dX0_recall_22 : decode cX0_recall 22 = .ok (.bipush 62, 2) := by decide +kernel
theorem dX0_recall_24 : decode cX0_recall 24 = .ok (.invokestatic 29, 3) := by decide +kernel
theorem dX0_recall_27 : decode cX0_recall 27 = .ok (.aload_n 0, 1) := by decide +kernel
theorem dX0_recall_28 : decode cX0_recall 28 = .ok (.dup, 1) := by decide +kernel
theorem dX0_recall_29 : decode cX0_recall 29 = .ok (.getfield 39, 3) := by decide +kernel
theorem dX0_recall_32 : decode cX0_recall 32 = .ok (.iconst 1, 1) := by decide +kernel
theorem dX0_recall_33 : decode cX0_recall 33 = .ok (.isub, 1) := by decide +kernel
theorem dX0_recall_34 : decode cX0_recall 34 = .ok (.putfield 39, 3) := by decide +kernel
theorem dX0_recall_37 : decode cX0_recall 37 = .ok (.iconst 1, 1) := by decide +kernel
theorem dX0_recall_38 : decode cX0_recall 38 = .ok (.ireturn, 1) := by decide +kernel
theorem dX0_latest_0 : decode cX0_latest 0 = .ok (.aload_n 0, 1) := by decide +kernel
theorem dX0_latest_1 : decode cX0_latest 1 = .ok (.getfield 35, 3) := by decide +kernel
theorem dX0_latest_4 : decode cX0_latest 4 = .ok (.aload_n 0, 1) := by decide +kernel
theorem dX0_latest_5 : decode cX0_latest 5 = .ok (.getfield 39, 3) := by decide +kernel
theorem dX0_latest_8 : decode cX0_latest 8 = .ok (.iadd, 1) := by decide +kernel
theorem dX0_latest_9 : decode cX0_latest 9 = .ok (.iconst 1, 1) := by decide +kernel
theorem dX0_latest_10 : decode cX0_latest 10 = .ok (.isub, 1) := by decide +kernel
theorem dX0_latest_11 : decode cX0_latest 11 = .ok (.bipush 40, 2) := by decide +kernel
theorem dX0_latest_13 : decode cX0_latest 13 = .ok (.irem, 1) := by decide +kernel
theorem dX0_latest_14 : decode cX0_latest 14 = .ok (.bipush 62, 2) := by decide +kernel
theorem dX0_latest_16 : decode cX0_latest 16 = .ok (.imul, 1) := by decide +kernel
theorem dX0_latest_17 : decode cX0_latest 17 = .ok (.ireturn, 1) := by decide +kernel
theorem dX0_write_0 : decode cX0_write 0 = .ok (.aload_n 0, 1) := by decide +kernel
theorem dX0_write_1 : decode cX0_write 1 = .ok (.getfield 42, 3) := by decide +kernel
theorem dX0_write_4 : decode cX0_write 4 = .ok (.bipush 6, 2) := by decide +kernel
theorem dX0_write_6 : decode cX0_write 6 = .ok (.if_icmp .lt 5, 3) := by decide +kernel
theorem dX0_write_9 : decode cX0_write 9 = .ok (.iconst 0, 1) := by decide +kernel
theorem dX0_write_10 : decode cX0_write 10 = .ok (.ireturn, 1) := by decide +kernel
theorem dX0_write_11 : decode cX0_write 11 = .ok (.aload_n 0, 1) := by decide +kernel
theorem dX0_write_12 : decode cX0_write 12 = .ok (.getfield 18, 3) := by decide +kernel
theorem dX0_write_15 : decode cX0_write 15 = .ok (.aload_n 0, 1) := by decide +kernel
theorem dX0_write_16 : decode cX0_write 16 = .ok (.getfield 42, 3) := by decide +kernel
theorem dX0_write_19 : decode cX0_write 19 = .ok (.iload_n 1, 1) := by decide +kernel
theorem dX0_write_20 : decode cX0_write 20 = .ok (.iastore, 1) := by decide +kernel
theorem dX0_write_21 : decode cX0_write 21 = .ok (.aload_n 0, 1) := by decide +kernel
theorem dX0_write_22 : decode cX0_write 22 = .ok (.getfield 21, 3) := by decide +kernel
theorem dX0_write_25 : decode cX0_write 25 = .ok (.aload_n 0, 1) := by decide +kernel
theorem dX0_write_26 : decode cX0_write 26 = .ok (.getfield 42, 3) := by decide +kernel
theorem dX0_write_29 : decode cX0_write 29 = .ok (.iload_n 2, 1) := by decide +kernel
theorem dX0_write_30 : decode cX0_write 30 = .ok (.iastore, 1) := by decide +kernel
theorem dX0_write_31 : decode cX0_write 31 = .ok (.aload_n 0, 1) := by decide +kernel
theorem dX0_write_32 : decode cX0_write 32 = .ok (.dup, 1) := by decide +kernel
theorem dX0_write_33 : decode cX0_write 33 = .ok (.getfield 42, 3) := by decide +kernel
theorem dX0_write_36 : decode cX0_write 36 = .ok (.iconst 1, 1) := by decide +kernel
theorem dX0_write_37 : decode cX0_write 37 = .ok (.iadd, 1) := by decide +kernel
theorem dX0_write_38 : decode cX0_write 38 = .ok (.putfield 42, 3) := by decide +kernel
theorem dX0_write_41 : decode cX0_write 41 = .ok (.iconst 1, 1) := by decide +kernel
theorem dX0_write_42 : decode cX0_write 42 = .ok (.ireturn, 1) := by decide +kernel
theorem dX0_copyOf_0 : decode cX0_copyOf 0 = .ok (.aload_n 1, 1) := by decide +kernel
theorem dX0_copyOf_1 : decode cX0_copyOf 1 = .ok (.getfield 9, 3) := by decide +kernel
theorem dX0_copyOf_4 : decode cX0_copyOf 4 = .ok (.iconst 0, 1) := by decide +kernel
theorem dX0_copyOf_5 : decode cX0_copyOf 5 = .ok (.aload_n 0, 1) := by decide +kernel
theorem dX0_copyOf_6 : decode cX0_copyOf 6 = .ok (.getfield 9, 3) := by decide +kernel
theorem dX0_copyOf_9 : decode cX0_copyOf 9 = .ok (.iconst 0, 1) := by decide +kernel
theorem dX0_copyOf_10 : decode cX0_copyOf 10 = .ok (.bipush 62, 2) := by decide +kernel
theorem dX0_copyOf_12 : decode cX0_copyOf 12 = .ok (.invokestatic 29, 3) := by decide +kernel
theorem dX0_copyOf_15 : decode cX0_copyOf 15 = .ok (.aload_n 1, 1) := by decide +kernel
theorem dX0_copyOf_16 : decode cX0_copyOf 16 = .ok (.getfield 15, 3) := by decide +kernel
theorem dX0_copyOf_19 : decode cX0_copyOf 19 = .ok (.iconst 0, 1) := by decide +kernel
theorem dX0_copyOf_20 : decode cX0_copyOf 20 = .ok (.aload_n 0, 1) := by decide +kernel
theorem dX0_copyOf_21 : decode cX0_copyOf 21 = .ok (.getfield 15, 3) := by decide +kernel
theorem dX0_copyOf_24 : decode cX0_copyOf 24 = .ok (.iconst 0, 1) := by decide +kernel
theorem dX0_copyOf_25 : decode cX0_copyOf 25 = .ok (.aload_n 0, 1) := by decide +kernel
theorem dX0_copyOf_26 : decode cX0_copyOf 26 = .ok (.getfield 15, 3) := by decide +kernel
theorem dX0_copyOf_29 : decode cX0_copyOf 29 = .ok (.arraylength, 1) := by decide +kernel
theorem dX0_copyOf_30 : decode cX0_copyOf 30 = .ok (.invokestatic 29, 3) := by decide +kernel
theorem dX0_copyOf_33 : decode cX0_copyOf 33 = .ok (.aload_n 0, 1) := by decide +kernel
theorem dX0_copyOf_34 : decode cX0_copyOf 34 = .ok (.aload_n 1, 1) := by decide +kernel
theorem dX0_copyOf_35 : decode cX0_copyOf 35 = .ok (.getfield 35, 3) := by decide +kernel
theorem dX0_copyOf_38 : decode cX0_copyOf 38 = .ok (.putfield 35, 3) := by decide +kernel
theorem dX0_copyOf_41 : decode cX0_copyOf 41 = .ok (.aload_n 0, 1) := by decide +kernel
theorem dX0_copyOf_42 : decode cX0_copyOf 42 = .ok (.aload_n 1, 1) := by decide +kernel
theorem dX0_copyOf_43 : decode cX0_copyOf 43 = .ok (.getfield 39, 3) := by decide +kernel
theorem dX0_copyOf_46 : decode cX0_copyOf 46 = .ok (.putfield 39, 3) := by decide +kernel
theorem dX0_copyOf_49 : decode cX0_copyOf 49 = .ok (.aload_n 1, 1) := by decide +kernel
theorem dX0_copyOf_50 : decode cX0_copyOf 50 = .ok (.getfield 18, 3) := by decide +kernel
theorem dX0_copyOf_53 : decode cX0_copyOf 53 = .ok (.iconst 0, 1) := by decide +kernel
theorem dX0_copyOf_54 : decode cX0_copyOf 54 = .ok (.aload_n 0, 1) := by decide +kernel
theorem dX0_copyOf_55 : decode cX0_copyOf 55 = .ok (.getfield 18, 3) := by decide +kernel
theorem dX0_copyOf_58 : decode cX0_copyOf 58 = .ok (.iconst 0, 1) := by decide +kernel
theorem dX0_copyOf_59 : decode cX0_copyOf 59 = .ok (.bipush 6, 2) := by decide +kernel
theorem dX0_copyOf_61 : decode cX0_copyOf 61 = .ok (.invokestatic 29, 3) := by decide +kernel
theorem dX0_copyOf_64 : decode cX0_copyOf 64 = .ok (.aload_n 1, 1) := by decide +kernel
theorem dX0_copyOf_65 : decode cX0_copyOf 65 = .ok (.getfield 21, 3) := by decide +kernel
theorem dX0_copyOf_68 : decode cX0_copyOf 68 = .ok (.iconst 0, 1) := by decide +kernel
theorem dX0_copyOf_69 : decode cX0_copyOf 69 = .ok (.aload_n 0, 1) := by decide +kernel
theorem dX0_copyOf_70 : decode cX0_copyOf 70 = .ok (.getfield 21, 3) := by decide +kernel
theorem dX0_copyOf_73 : decode cX0_copyOf 73 = .ok (.iconst 0, 1) := by decide +kernel
theorem dX0_copyOf_74 : decode cX0_copyOf 74 = .ok (.bipush 6, 2) := by decide +kernel
theorem dX0_copyOf_76 : decode cX0_copyOf 76 = .ok (.invokestatic 29, 3) := by decide +kernel
theorem dX0_copyOf_79 : decode cX0_copyOf 79 = .ok (.aload_n 0, 1) := by decide +kernel
theorem dX0_copyOf_80 : decode cX0_copyOf 80 = .ok (.aload_n 1, 1) := by decide +kernel
theorem dX0_copyOf_81 : decode cX0_copyOf 81 = .ok (.getfield 42, 3) := by decide +kernel
theorem dX0_copyOf_84 : decode cX0_copyOf 84 = .ok (.putfield 42, 3) := by decide +kernel
theorem dX0_copyOf_87 : decode cX0_copyOf 87 = .ok (.return_, 1) := by decide +kernel
theorem dX1_init_0 : decode cX1_init 0 = .ok (.aload_n 0, 1) := by decide +kernel
theorem dX1_init_1 : decode cX1_init 1 = .ok (.invokespecial 3, 3) := by decide +kernel
theorem dX1_init_4 : decode cX1_init 4 = .ok (.aload_n 0, 1) := by decide +kernel
theorem dX1_init_5 : decode cX1_init 5 = .ok (.bipush 8, 2) := by decide +kernel
theorem dX1_init_7 : decode cX1_init 7 = .ok (.putfield 9, 3) := by decide +kernel
theorem dX1_init_10 : decode cX1_init 10 = .ok (.aload_n 0, 1) := by decide +kernel
theorem dX1_init_11 : decode cX1_init 11 = .ok (.bipush 8, 2) := by decide +kernel
theorem dX1_init_13 : decode cX1_init 13 = .ok (.putfield 15, 3) := by decide +kernel
theorem dX1_init_16 : decode cX1_init 16 = .ok (.aload_n 0, 1) := by decide +kernel
theorem dX1_init_17 : decode cX1_init 17 = .ok (.bipush 64, 2) := by decide +kernel
theorem dX1_init_19 : decode cX1_init 19 = .ok (.newarray .int, 2) := by decide +kernel
theorem dX1_init_21 : decode cX1_init 21 = .ok (.putfield 18, 3) := by decide +kernel
theorem dX1_init_24 : decode cX1_init 24 = .ok (.aload_n 0, 1) := by decide +kernel
theorem dX1_init_25 : decode cX1_init 25 = .ok (.bipush 6, 2) := by decide +kernel
theorem dX1_init_27 : decode cX1_init 27 = .ok (.newarray .int, 2) := by decide +kernel
theorem dX1_init_29 : decode cX1_init 29 = .ok (.putfield 22, 3) := by decide +kernel
theorem dX1_init_32 : decode cX1_init 32 = .ok (.aload_n 0, 1) := by decide +kernel
theorem dX1_init_33 : decode cX1_init 33 = .ok (.bipush 6, 2) := by decide +kernel
theorem dX1_init_35 : decode cX1_init 35 = .ok (.newarray .int, 2) := by decide +kernel
theorem dX1_init_37 : decode cX1_init 37 = .ok (.putfield 25, 3) := by decide +kernel
theorem dX1_init_40 : decode cX1_init 40 = .ok (.aload_n 0, 1) := by decide +kernel
theorem dX1_init_41 : decode cX1_init 41 = .ok (.bipush 8, 2) := by decide +kernel
theorem dX1_init_43 : decode cX1_init 43 = .ok (.newarray .int, 2) := by decide +kernel
theorem dX1_init_45 : decode cX1_init 45 = .ok (.putfield 28, 3) := by decide +kernel
theorem dX1_init_48 : decode cX1_init 48 = .ok (.aload_n 0, 1) := by decide +kernel
theorem dX1_init_49 : decode cX1_init 49 = .ok (.iconst 4, 1) := by decide +kernel
theorem dX1_init_50 : decode cX1_init 50 = .ok (.newarray .int, 2) := by decide +kernel
theorem dX1_init_52 : decode cX1_init 52 = .ok (.putfield 31, 3) := by decide +kernel
theorem dX1_init_55 : decode cX1_init 55 = .ok (.aload_n 0, 1) := by decide +kernel
theorem dX1_init_56 : decode cX1_init 56 = .ok (.sipush 700, 3) := by decide +kernel
theorem dX1_init_59 : decode cX1_init 59 = .ok (.newarray .int, 2) := by decide +kernel
theorem dX1_init_61 : decode cX1_init 61 = .ok (.putfield 34, 3) := by decide +kernel
theorem dX1_init_64 : decode cX1_init 64 = .ok (.aload_n 0, 1) := by decide +kernel
theorem dX1_init_65 : decode cX1_init 65 = .ok (.bipush 62, 2) := by decide +kernel
theorem dX1_init_67 : decode cX1_init 67 = .ok (.newarray .int, 2) := by decide +kernel
theorem dX1_init_69 : decode cX1_init 69 = .ok (.putfield 37, 3) := by decide +kernel
theorem dX1_init_72 : decode cX1_init 72 = .ok (.aload_n 0, 1) := by decide +kernel
theorem dX1_init_73 : decode cX1_init 73 = .ok (.invokevirtual 40, 3) := by decide +kernel
theorem dX1_init_76 : decode cX1_init 76 = .ok (.return_, 1) := by decide +kernel
theorem dX1_clear_0 : decode cX1_clear 0 = .ok (.aload_n 0, 1) := by decide +kernel
theorem dX1_clear_1 : decode cX1_clear 1 = .ok (.bipush 8, 2) := by decide +kernel
theorem dX1_clear_3 : decode cX1_clear 3 = .ok (.putfield 9, 3) := by decide +kernel
theorem dX1_clear_6 : decode cX1_clear 6 = .ok (.aload_n 0, 1) := by decide +kernel
theorem dX1_clear_7 : decode cX1_clear 7 = .ok (.bipush 8, 2) := by decide +kernel
theorem dX1_clear_9 : decode cX1_clear 9 = .ok (.putfield 15, 3) := by decide +kernel
theorem dX1_clear_12 : decode cX1_clear 12 = .ok (.aload_n 0, 1) := by decide +kernel
theorem dX1_clear_13 : decode cX1_clear 13 = .ok (.iconst 0, 1) := by decide +kernel
theorem dX1_clear_14 : decode cX1_clear 14 = .ok (.putfield 43, 3) := by decide +kernel
theorem dX1_clear_17 : decode cX1_clear 17 = .ok (.aload_n 0, 1) := by decide +kernel
theorem dX1_clear_18 : decode cX1_clear 18 = .ok (.iconst 0, 1) := by decide +kernel
theorem dX1_clear_19 : decode cX1_clear 19 = .ok (.putfield 46, 3) := by decide +kernel
theorem dX1_clear_22 : decode cX1_clear 22 = .ok (.aload_n 0, 1) := by decide +kernel
theorem dX1_clear_23 : decode cX1_clear 23 = .ok (.iconst 0, 1) := by decide +kernel
theorem dX1_clear_24 : decode cX1_clear 24 = .ok (.putfield 49, 3) := by decide +kernel
theorem dX1_clear_27 : decode cX1_clear 27 = .ok (.iconst 0, 1) := by decide +kernel
theorem dX1_clear_28 : decode cX1_clear 28 = .ok (.istore_n 1, 1) := by decide +kernel
theorem dX1_clear_29 : decode cX1_clear 29 = .ok (.iload_n 1, 1) := by decide +kernel
theorem dX1_clear_30 : decode cX1_clear 30 = .ok (.aload_n 0, 1) := by decide +kernel
theorem dX1_clear_31 : decode cX1_clear 31 = .ok (.getfield 18, 3) := by decide +kernel
theorem dX1_clear_34 : decode cX1_clear 34 = .ok (.arraylength, 1) := by decide +kernel
theorem dX1_clear_35 : decode cX1_clear 35 = .ok (.if_icmp .ge 16, 3) := by decide +kernel
theorem dX1_clear_38 : decode cX1_clear 38 = .ok (.aload_n 0, 1) := by decide +kernel
theorem dX1_clear_39 : decode cX1_clear 39 = .ok (.getfield 18, 3) := by decide +kernel
theorem dX1_clear_42 : decode cX1_clear 42 = .ok (.iload_n 1, 1) := by decide +kernel
theorem dX1_clear_43 : decode cX1_clear 43 = .ok (.iconst 0, 1) := by decide +kernel
theorem dX1_clear_44 : decode cX1_clear 44 = .ok (.iastore, 1) := by decide +kernel
theorem dX1_clear_45 : decode cX1_clear 45 = .ok (.iinc 1 1, 3) := by decide +kernel
theorem dX1_clear_48 : decode cX1_clear 48 = .ok (.goto (-19), 3) := by decide +kernel
theorem dX1_clear_51 : decode cX1_clear 51 = .ok (.iconst 0, 1) := by decide +kernel
theorem dX1_clear_52 : decode cX1_clear 52 = .ok (.istore_n 1, 1) := by decide +kernel
theorem dX1_clear_53 : decode cX1_clear 53 = .ok (.iload_n 1, 1) := by decide +kernel
theorem dX1_clear_54 : decode cX1_clear 54 = .ok (.aload_n 0, 1) := by decide +kernel
theorem dX1_clear_55 : decode cX1_clear 55 = .ok (.getfield 37, 3) := by decide +kernel
theorem dX1_clear_58 : decode cX1_clear 58 = .ok (.arraylength, 1) := by decide +kernel
theorem dX1_clear_59 : decode cX1_clear 59 = .ok (.if_icmp .ge 16, 3) := by decide +kernel
theorem dX1_clear_62 : decode cX1_clear 62 = .ok (.aload_n 0, 1) := by decide +kernel
theorem dX1_clear_63 : decode cX1_clear 63 = .ok (.getfield 37, 3) := by decide +kernel
theorem dX1_clear_66 : decode cX1_clear 66 = .ok (.iload_n 1, 1) := by decide +kernel
theorem dX1_clear_67 : decode cX1_clear 67 = .ok (.iconst 0, 1) := by decide +kernel
theorem dX1_clear_68 : decode cX1_clear 68 = .ok (.iastore, 1) := by decide +kernel
theorem dX1_clear_69 : decode cX1_clear 69 = .ok (.iinc 1 1, 3) := by decide +kernel
theorem dX1_clear_72 : decode cX1_clear 72 = .ok (.goto (-19), 3) := by decide +kernel
theorem dX1_clear_75 : decode cX1_clear 75 = .ok (.iconst 0, 1) := by decide +kernel
theorem dX1_clear_76 : decode cX1_clear 76 = .ok (.istore_n 1, 1) := by decide +kernel
theorem dX1_clear_77 : decode cX1_clear 77 = .ok (.iload_n 1, 1) := by decide +kernel
theorem dX1_clear_78 : decode cX1_clear 78 = .ok (.bipush 12, 2) := by decide +kernel
theorem dX1_clear_80 : decode cX1_clear 80 = .ok (.if_icmp .ge 18, 3) := by decide +kernel
theorem dX1_clear_83 : decode cX1_clear 83 = .ok (.aload_n 0, 1) := by decide +kernel
theorem dX1_clear_84 : decode cX1_clear 84 = .ok (.getfield 37, 3) := by decide +kernel
theorem dX1_clear_87 : decode cX1_clear 87 = .ok (.iconst 0, 1) := by decide +kernel
theorem dX1_clear_88 : decode cX1_clear 88 = .ok (.iload_n 1, 1) := by decide +kernel
theorem dX1_clear_89 : decode cX1_clear 89 = .ok (.iadd, 1) := by decide +kernel
theorem dX1_clear_90 : decode cX1_clear 90 = .ok (.iconst (-1), 1) := by decide +kernel
theorem dX1_clear_91 : decode cX1_clear 91 = .ok (.iastore, 1) := by decide +kernel
theorem dX1_clear_92 : decode cX1_clear 92 = .ok (.iinc 1 1, 3) := by decide +kernel
theorem dX1_clear_95 : decode cX1_clear 95 = .ok (.goto (-18), 3) := by decide +kernel
theorem dX1_clear_98 : decode cX1_clear 98 = .ok (.aload_n 0, 1) := by decide +kernel
theorem dX1_clear_99 : decode cX1_clear 99 = .ok (.getfield 37, 3) := by decide +kernel
theorem dX1_clear_102 : decode cX1_clear 102 = .ok (.bipush 60, 2) := by decide +kernel
theorem dX1_clear_104 : decode cX1_clear 104 = .ok (.iconst (-1), 1) := by decide +kernel
theorem dX1_clear_105 : decode cX1_clear 105 = .ok (.iastore, 1) := by decide +kernel
theorem dX1_clear_106 : decode cX1_clear 106 = .ok (.return_, 1) := by decide +kernel
theorem dX1_cells_0 : decode cX1_cells 0 = .ok (.aload_n 0, 1) := by decide +kernel
theorem dX1_cells_1 : decode cX1_cells 1 = .ok (.getfield 9, 3) := by decide +kernel
theorem dX1_cells_4 : decode cX1_cells 4 = .ok (.aload_n 0, 1) := by decide +kernel
theorem dX1_cells_5 : decode cX1_cells 5 = .ok (.getfield 15, 3) := by decide +kernel
theorem dX1_cells_8 : decode cX1_cells 8 = .ok (.imul, 1) := by decide +kernel
theorem dX1_cells_9 : decode cX1_cells 9 = .ok (.ireturn, 1) := by decide +kernel
theorem dX1_fogOf_0 : decode cX1_fogOf 0 = .ok (.aload_n 0, 1) := by decide +kernel
theorem dX1_fogOf_1 : decode cX1_fogOf 1 = .ok (.getfield 46, 3) := by decide +kernel
theorem dX1_fogOf_4 : decode cX1_fogOf 4 = .ok (.ifCond .le 21, 3) := by decide +kernel
theorem dX1_fogOf_7 : decode cX1_fogOf 7 = .ok (.iload_n 1, 1) := by decide +kernel
theorem dX1_fogOf_8 : decode cX1_fogOf 8 = .ok (.ifCond .lt 17, 3) := by decide +kernel
theorem dX1_fogOf_11 : decode cX1_fogOf 11 = .ok (.aload_n 0, 1) := by decide +kernel
theorem dX1_fogOf_12 : decode cX1_fogOf 12 = .ok (.getfield 28, 3) := by decide +kernel
theorem dX1_fogOf_15 : decode cX1_fogOf 15 = .ok (.iload_n 1, 1) := by decide +kernel
theorem dX1_fogOf_16 : decode cX1_fogOf 16 = .ok (.aload_n 0, 1) := by decide +kernel
theorem dX1_fogOf_17 : decode cX1_fogOf 17 = .ok (.getfield 46, 3) := by decide +kernel
theorem dX1_fogOf_20 : decode cX1_fogOf 20 = .ok (.irem, 1) := by decide +kernel
theorem dX1_fogOf_21 : decode cX1_fogOf 21 = .ok (.iaload, 1) := by decide +kernel
theorem dX1_fogOf_22 : decode cX1_fogOf 22 = .ok (.goto 5, 3) := by decide +kernel
theorem dX1_fogOf_25 : decode cX1_fogOf 25 = .ok (.bipush 9, 2) := by decide +kernel
theorem dX1_fogOf_27 : decode cX1_fogOf 27 = .ok (.ireturn, 1) := by decide +kernel
theorem dX1_houseIn_0 : decode cX1_houseIn 0 = .ok (.iconst 0, 1) := by decide +kernel
theorem dX1_houseIn_1 : decode cX1_houseIn 1 = .ok (.istore_n 2, 1) := by decide +kernel
theorem dX1_houseIn_2 : decode cX1_houseIn 2 = .ok (.iload_n 2, 1) := by decide +kernel
theorem dX1_houseIn_3 : decode cX1_houseIn 3 = .ok (.aload_n 0, 1) := by decide +kernel
theorem dX1_houseIn_4 : decode cX1_houseIn 4 = .ok (.getfield 43, 3) := by decide +kernel
theorem dX1_houseIn_7 : decode cX1_houseIn 7 = .ok (.if_icmp .ge 21, 3) := by decide +kernel
theorem dX1_houseIn_10 : decode cX1_houseIn 10 = .ok (.aload_n 0, 1) := by decide +kernel
theorem dX1_houseIn_11 : decode cX1_houseIn 11 = .ok (.getfield 22, 3) := by decide +kernel
theorem dX1_houseIn_14 : decode cX1_houseIn 14 = .ok (.iload_n 2, 1) := by decide +kernel
theorem dX1_houseIn_15 : decode cX1_houseIn 15 = .ok (.iaload, 1) := by decide +kernel
theorem dX1_houseIn_16 : decode cX1_houseIn 16 = .ok (.iload_n 1, 1) := by decide +kernel
theorem dX1_houseIn_17 : decode cX1_houseIn 17 = .ok (.if_icmp .ne 5, 3) := by decide +kernel
theorem dX1_houseIn_20 : decode cX1_houseIn 20 = .ok (.iload_n 2, 1) := by decide +kernel
theorem dX1_houseIn_21 : decode cX1_houseIn 21 = .ok (.ireturn, 1) := by decide +kernel
theorem dX1_houseIn_22 : decode cX1_houseIn 22 = .ok (.iinc 2 1, 3) := by decide +kernel
theorem dX1_houseIn_25 : decode cX1_houseIn 25 = .ok (.goto (-23), 3) := by decide +kernel
theorem dX1_houseIn_28 : decode cX1_houseIn 28 = .ok (.iconst (-1), 1) := by decide +kernel
theorem dX1_houseIn_29 : decode cX1_houseIn 29 = .ok (.ireturn, 1) := by decide +kernel
theorem dX2_init_0 : decode cX2_init 0 = .ok (.aload_n 0, 1) := by decide +kernel
theorem dX2_init_1 : decode cX2_init 1 = .ok (.invokespecial 3, 3) := by decide +kernel
theorem dX2_init_4 : decode cX2_init 4 = .ok (.aload_n 0, 1) := by decide +kernel
theorem dX2_init_5 : decode cX2_init 5 = .ok (.sipush 128, 3) := by decide +kernel
theorem dX2_init_8 : decode cX2_init 8 = .ok (.newarray .int, 2) := by decide +kernel
theorem dX2_init_10 : decode cX2_init 10 = .ok (.putfield 11, 3) := by decide +kernel
theorem dX2_init_13 : decode cX2_init 13 = .ok (.aload_n 0, 1) := by decide +kernel
theorem dX2_init_14 : decode cX2_init 14 = .ok (.aload_n 1, 1) := by decide +kernel
theorem dX2_init_15 : decode cX2_init 15 = .ok (.putfield 15, 3) := by decide +kernel
theorem dX2_init_18 : decode cX2_init 18 = .ok (.aload_n 0, 1) := by decide +kernel
theorem dX2_init_19 : decode cX2_init 19 = .ok (.aload_n 2, 1) := by decide +kernel
theorem dX2_init_20 : decode cX2_init 20 = .ok (.putfield 19, 3) := by decide +kernel
theorem dX2_init_23 : decode cX2_init 23 = .ok (.return_, 1) := by decide +kernel
theorem dX2_read_0 : decode cX2_read 0 = .ok (.aload_n 0, 1) := by decide +kernel
theorem dX2_read_1 : decode cX2_read 1 = .ok (.iload_n 1, 1) := by decide +kernel
theorem dX2_read_2 : decode cX2_read 2 = .ok (.aload_n 0, 1) := by decide +kernel
theorem dX2_read_3 : decode cX2_read 3 = .ok (.getfield 15, 3) := by decide +kernel
theorem dX2_read_6 : decode cX2_read 6 = .ok (.arraylength, 1) := by decide +kernel
theorem dX2_read_7 : decode cX2_read 7 = .ok (.invokestatic 23, 3) := by decide +kernel
theorem dX2_read_10 : decode cX2_read 10 = .ok (.putfield 29, 3) := by decide +kernel
theorem dX2_read_13 : decode cX2_read 13 = .ok (.aload_n 0, 1) := by decide +kernel
theorem dX2_read_14 : decode cX2_read 14 = .ok (.iconst 0, 1) := by decide +kernel
theorem dX2_read_15 : decode cX2_read 15 = .ok (.putfield 33, 3) := by decide +kernel
theorem dX2_read_18 : decode cX2_read 18 = .ok (.aload_n 0, 1) := by decide +kernel
theorem dX2_read_19 : decode cX2_read 19 = .ok (.iconst 0, 1) := by decide +kernel
theorem dX2_read_20 : decode cX2_read 20 = .ok (.putfield 36, 3) := by decide +kernel
theorem dX2_read_23 : decode cX2_read 23 = .ok (.aload_n 0, 1) := by decide +kernel
theorem dX2_read_24 : decode cX2_read 24 = .ok (.iconst (-1), 1) := by decide +kernel
theorem dX2_read_25 : decode cX2_read 25 = .ok (.putfield 39, 3) := by decide +kernel
theorem dX2_read_28 : decode cX2_read 28 = .ok (.aload_n 0, 1) := by decide +kernel
theorem dX2_read_29 : decode cX2_read 29 = .ok (.aload_n 2, 1) := by decide +kernel
theorem dX2_read_30 : decode cX2_read 30 = .ok (.putfield 19, 3) := by decide +kernel
theorem dX2_read_33 : decode cX2_read 33 = .ok (.aload_n 0, 1) := by decide +kernel
theorem dX2_read_34 : decode cX2_read 34 = .ok (.iconst 0, 1) := by decide +kernel
theorem dX2_read_35 : decode cX2_read 35 = .ok (.putfield 42, 3) := by decide +kernel
theorem dX2_read_38 : decode cX2_read 38 = .ok (.aload_n 0, 1) := by decide +kernel
theorem dX2_read_39 : decode cX2_read 39 = .ok (.lconst 0, 1) := by decide +kernel
theorem dX2_read_40 : decode cX2_read 40 = .ok (.putfield 45, 3) := by decide +kernel
theorem dX2_read_43 : decode cX2_read 43 = .ok (.aload_n 0, 1) := by decide +kernel
theorem dX2_read_44 : decode cX2_read 44 = .ok (.lconst 0, 1) := by decide +kernel
theorem dX2_read_45 : decode cX2_read 45 = .ok (.putfield 49, 3) := by decide +kernel
theorem dX2_read_48 : decode cX2_read 48 = .ok (.aload_n 0, 1) := by decide +kernel
theorem dX2_read_49 : decode cX2_read 49 = .ok (.iconst 0, 1) := by decide +kernel
theorem dX2_read_50 : decode cX2_read 50 = .ok (.putfield 52, 3) := by decide +kernel
theorem dX2_read_53 : decode cX2_read 53 = .ok (.aload_n 0, 1) := by decide +kernel
theorem dX2_read_54 : decode cX2_read 54 = .ok (.getfield 19, 3) := by decide +kernel
theorem dX2_read_57 : decode cX2_read 57 = .ok (.invokevirtual 55, 3) := by decide +kernel
theorem dX2_read_60 : decode cX2_read 60 = .ok (.aload_n 0, 1) := by decide +kernel
theorem dX2_read_61 : decode cX2_read 61 = .ok (.invokevirtual 60, 3) := by decide +kernel
theorem dX2_read_64 : decode cX2_read 64 = .ok (.aload_n 0, 1) := by decide +kernel
theorem dX2_read_65 : decode cX2_read 65 = .ok (.ldc 63, 2) := by decide +kernel
theorem dX2_read_67 : decode cX2_read 67 = .ok (.invokevirtual 64, 3) := by decide +kernel
theorem dX2_read_70 : decode cX2_read 70 = .ok (.ifCond .eq 7, 3) := by decide +kernel
theorem dX2_read_73 : decode cX2_read 73 = .ok (.aload_n 0, 1) := by decide +kernel
theorem dX2_read_74 : decode cX2_read 74 = .ok (.invokevirtual 68, 3) := by decide +kernel
theorem dX2_read_77 : decode cX2_read 77 = .ok (.iconst 0, 1) := by decide +kernel
theorem dX2_read_78 : decode cX2_read 78 = .ok (.istore_n 3, 1) := by decide +kernel
theorem dX2_read_79 : decode cX2_read 79 = .ok (.iload_n 3, 1) := by decide +kernel
theorem dX2_read_80 : decode cX2_read 80 = .ok (.aload_n 0, 1) := by decide +kernel
theorem dX2_read_81 : decode cX2_read 81 = .ok (.getfield 29, 3) := by decide +kernel
theorem dX2_read_84 : decode cX2_read 84 = .ok (.if_icmp .gt 27, 3) := by decide +kernel
theorem dX2_read_87 : decode cX2_read 87 = .ok (.aload_n 0, 1) := by decide +kernel
theorem dX2_read_88 : decode cX2_read 88 = .ok (.getfield 36, 3) := by decide +kernel
theorem dX2_read_91 : decode cX2_read 91 = .ok (.ifCond .ne 20, 3) := by decide +kernel
theorem dX2_read_94 : decode cX2_read 94 = .ok (.aload_n 0, 1) := by decide +kernel
theorem dX2_read_95 : decode cX2_read 95 = .ok (.getfield 71, 3) := by decide +kernel
theorem dX2_read_98 : decode cX2_read 98 = .ok (.ifCond .eq 13, 3) := by decide +kernel
theorem dX2_read_101 : decode cX2_read 101 = .ok (.aload_n 0, 1) := by decide +kernel
theorem dX2_read_102 : decode cX2_read 102 = .ok (.invokevirtual 74, 3) := by decide +kernel
theorem dX2_read_105 : decode cX2_read 105 = .ok (.iinc 3 1, 3) := by decide +kernel
theorem dX2_read_108 : decode cX2_read 108 = .ok (.goto (-29), 3) := by decide +kernel
theorem dX2_read_111 : decode cX2_read 111 = .ok (.aload_n 0, 1) := by decide +kernel
theorem dX2_read_112 : decode cX2_read 112 = .ok (.getfield 19, 3) := by decide +kernel
theorem dX2_read_115 : decode cX2_read 115 = .ok (.getfield 77, 3) := by decide +kernel
theorem dX2_read_118 : decode cX2_read 118 = .ok (.bipush 60, 2) := by decide +kernel
theorem dX2_read_120 : decode cX2_read 120 = .ok (.aload_n 0, 1) := by decide +kernel
theorem dX2_read_121 : decode cX2_read 121 = .ok (.getfield 19, 3) := by decide +kernel
theorem dX2_read_124 : decode cX2_read 124 = .ok (.getfield 80, 3) := by decide +kernel
theorem dX2_read_127 : decode cX2_read 127 = .ok (.ifCond .le 7, 3) := by decide +kernel
theorem dX2_read_130 : decode cX2_read 130 = .ok (.iconst 0, 1) := by decide +kernel
theorem dX2_read_131 : decode cX2_read 131 = .ok (.goto 4, 3) := by decide +kernel
theorem dX2_read_134 : decode cX2_read 134 = .ok (.iconst (-1), 1) := by decide +kernel
theorem dX2_read_135 : decode cX2_read 135 = .ok (.iastore, 1) := by decide +kernel
theorem dX2_read_136 : decode cX2_read 136 = .ok (.return_, 1) := by decide +kernel
theorem dX2_refuse_0 : decode cX2_refuse 0 = .ok (.aload_n 0, 1) := by decide +kernel
theorem dX2_refuse_1 : decode cX2_refuse 1 = .ok (.getfield 36, 3) := by decide +kernel
theorem dX2_refuse_4 : decode cX2_refuse 4 = .ok (.ifCond .ne 16, 3) := by decide +kernel
theorem dX2_refuse_7 : decode cX2_refuse 7 = .ok (.aload_n 0, 1) := by decide +kernel
theorem dX2_refuse_8 : decode cX2_refuse 8 = .ok (.iload_n 1, 1) := by decide +kernel
theorem dX2_refuse_9 : decode cX2_refuse 9 = .ok (.putfield 36, 3) := by decide +kernel
theorem dX2_refuse_12 : decode cX2_refuse 12 = .ok (.aload_n 0, 1) := by decide +kernel
theorem dX2_refuse_13 : decode cX2_refuse 13 = .ok (.aload_n 0, 1) := by decide +kernel
theorem dX2_refuse_14 : decode cX2_refuse 14 = .ok (.getfield 83, 3) := by decide +kernel
theorem dX2_refuse_17 : decode cX2_refuse 17 = .ok (.putfield 39, 3) := by decide +kernel
theorem dX2_refuse_20 : decode cX2_refuse 20 = .ok (.return_, 1) := by decide +kernel
theorem dX2_take_0 : decode cX2_take 0 = .ok (.aload_n 0, 1) := by decide +kernel
theorem dX2_take_1 : decode cX2_take 1 = .ok (.aload_n 0, 1) := by decide +kernel
theorem dX2_take_2 : decode cX2_take 2 = .ok (.getfield 33, 3) := by decide +kernel
theorem dX2_take_5 : decode cX2_take 5 = .ok (.putfield 83, 3) := by decide +kernel
theorem dX2_take_8 : decode cX2_take 8 = .ok (.aload_n 0, 1) := by decide +kernel
theorem dX2_take_9 : decode cX2_take 9 = .ok (.getfield 83, 3) := by decide +kernel
theorem dX2_take_12 : decode cX2_take 12 = .ok (.aload_n 0, 1) := by decide +kernel
theorem dX2_take_13 : decode cX2_take 13 = .ok (.getfield 29, 3) := by decide +kernel
theorem dX2_take_16 : decode cX2_take 16 = .ok (.if_icmp .ge 44, 3) := by decide +kernel
theorem dX2_take_19 : decode cX2_take 19 = .ok (.aload_n 0, 1) := by decide +kernel
theorem dX2_take_20 : decode cX2_take 20 = .ok (.getfield 15, 3) := by decide +kernel
theorem dX2_take_23 : decode cX2_take 23 = .ok (.aload_n 0, 1) := by decide +kernel
theorem dX2_take_24 : decode cX2_take 24 = .ok (.getfield 83, 3) := by decide +kernel
theorem dX2_take_27 : decode cX2_take 27 = .ok (.baload, 1) := by decide +kernel
theorem dX2_take_28 : decode cX2_take 28 = .ok (.bipush 32, 2) := by decide +kernel
theorem dX2_take_30 : decode cX2_take 30 = .ok (.if_icmp .eq 17, 3) := by decide +kernel
theorem dX2_take_33 : decode cX2_take 33 = .ok (.aload_n 0, 1) := by decide +kernel
theorem dX2_take_34 : decode cX2_take 34 = .ok (.getfield 15, 3) := by decide +kernel
theorem dX2_take_37 : decode cX2_take 37 = .ok (.aload_n 0, 1) := by decide +kernel
theorem dX2_take_38 : decode cX2_take 38 = .ok (.getfield 83, 3) := by decide +kernel
theorem dX2_take_41 : decode cX2_take 41 = .ok (.baload, 1) := by decide +kernel
theorem dX2_take_42 : decode cX2_take 42 = .ok (.bipush 10, 2) := by decide +kernel
theorem dX2_take_44 : decode cX2_take 44 = .ok (.if_icmp .ne 16, 3) := by decide +kernel
theorem dX2_take_47 : decode cX2_take 47 = .ok (.aload_n 0, 1) := by decide +kernel
theorem dX2_take_48 : decode cX2_take 48 = .ok (.dup, 1) := by decide +kernel
theorem dX2_take_49 : decode cX2_take 49 = .ok (.getfield 83, 3) := by decide +kernel
theorem dX2_take_52 : decode cX2_take 52 = .ok (.iconst 1, 1) := by decide +kernel
theorem dX2_take_53 : decode cX2_take 53 = .ok (.iadd, 1) := by decide +kernel
theorem dX2_take_54 : decode cX2_take 54 = .ok (.putfield 83, 3) := by decide +kernel
theorem dX2_take_57 : decode cX2_take 57 = .ok (.goto (-49), 3) := by decide +kernel
theorem dX2_take_60 : decode cX2_take 60 = .ok (.aload_n 0, 1) := by decide +kernel
theorem dX2_take_61 : decode cX2_take 61 = .ok (.aload_n 0, 1) := by decide +kernel
theorem dX2_take_62 : decode cX2_take 62 = .ok (.getfield 83, 3) := by decide +kernel
theorem dX2_take_65 : decode cX2_take 65 = .ok (.putfield 33, 3) := by decide +kernel
theorem dX2_take_68 : decode cX2_take 68 = .ok (.aload_n 0, 1) := by decide +kernel
theorem dX2_take_69 : decode cX2_take 69 = .ok (.getfield 83, 3) := by decide +kernel
theorem dX2_take_72 : decode cX2_take 72 = .ok (.aload_n 0, 1) := by decide +kernel
theorem dX2_take_73 : decode cX2_take 73 = .ok (.getfield 29, 3) := by decide +kernel
theorem dX2_take_76 : decode cX2_take 76 = .ok (.if_icmp .lt 11, 3) := by decide +kernel
theorem dX2_take_79 : decode cX2_take 79 = .ok (.aload_n 0, 1) := by decide +kernel
theorem dX2_take_80 : decode cX2_take 80 = .ok (.iconst 0, 1) := by decide +kernel
theorem dX2_take_81 : decode cX2_take 81 = .ok (.putfield 71, 3) := by decide +kernel
theorem dX2_take_84 : decode cX2_take 84 = .ok (.goto 211, 3) := by decide +kernel
theorem dX2_take_87 : decode cX2_take 87 = .ok (.aload_n 0, 1) := by decide +kernel
theorem dX2_take_88 : decode cX2_take 88 = .ok (.getfield 15, 3) := by decide +kernel
theorem dX2_take_91 : decode cX2_take 91 = .ok (.aload_n 0, 1) := by decide +kernel
theorem dX2_take_92 : decode cX2_take 92 = .ok (.getfield 83, 3) := by decide +kernel
theorem dX2_take_95 : decode cX2_take 95 = .ok (.baload, 1) := by decide +kernel
theorem dX2_take_96 : decode cX2_take 96 = .ok (.invokestatic 86, 3) := by decide +kernel
theorem dX2_take_99 : decode cX2_take 99 = .ok (.ifCond .eq 47, 3) := by decide +kernel
theorem dX2_take_102 : decode cX2_take 102 = .ok (.aload_n 0, 1) := by decide +kernel
theorem dX2_take_103 : decode cX2_take 103 = .ok (.iconst 1, 1) := by decide +kernel
theorem dX2_take_104 : decode cX2_take 104 = .ok (.putfield 71, 3) := by decide +kernel
theorem dX2_take_107 : decode cX2_take 107 = .ok (.aload_n 0, 1) := by decide +kernel
theorem dX2_take_108 : decode cX2_take 108 = .ok (.getfield 33, 3) := by decide +kernel
theorem dX2_take_111 : decode cX2_take 111 = .ok (.aload_n 0, 1) := by decide +kernel
theorem dX2_take_112 : decode cX2_take 112 = .ok (.getfield 29, 3) := by decide +kernel
theorem dX2_take_115 : decode cX2_take 115 = .ok (.if_icmp .ge 180, 3) := by decide +kernel
theorem dX2_take_118 : decode cX2_take 118 = .ok (.aload_n 0, 1) := by decide +kernel
theorem dX2_take_119 : decode cX2_take 119 = .ok (.getfield 15, 3) := by decide +kernel
theorem dX2_take_122 : decode cX2_take 122 = .ok (.aload_n 0, 1) := by decide +kernel
theorem dX2_take_123 : decode cX2_take 123 = .ok (.getfield 33, 3) := by decide +kernel
theorem dX2_take_126 : decode cX2_take 126 = .ok (.baload, 1) := by decide +kernel
theorem dX2_take_127 : decode cX2_take 127 = .ok (.invokestatic 86, 3) := by decide +kernel
theorem dX2_take_130 : decode cX2_take 130 = .ok (.ifCond .eq 165, 3) := by decide +kernel
theorem dX2_take_133 : decode cX2_take 133 = .ok (.aload_n 0, 1) := by decide +kernel
theorem dX2_take_134 : decode cX2_take 134 = .ok (.dup, 1) := by decide +kernel
theorem dX2_take_135 : decode cX2_take 135 = .ok (.getfield 33, 3) := by decide +kernel
theorem dX2_take_138 : decode cX2_take 138 = .ok (.iconst 1, 1) := by decide +kernel
theorem dX2_take_139 : decode cX2_take 139 = .ok (.iadd, 1) := by decide +kernel
theorem dX2_take_140 : decode cX2_take 140 = .ok (.putfield 33, 3) := by decide +kernel
theorem dX2_take_143 : decode cX2_take 143 = .ok (.goto (-36), 3) := by decide +kernel
theorem dX2_take_146 : decode cX2_take 146 = .ok (.aload_n 0, 1) := by decide +kernel
theorem dX2_take_147 : decode cX2_take 147 = .ok (.getfield 15, 3) := by decide +kernel
theorem dX2_take_150 : decode cX2_take 150 = .ok (.aload_n 0, 1) := by decide +kernel
theorem dX2_take_151 : decode cX2_take 151 = .ok (.getfield 83, 3) := by decide +kernel
theorem dX2_take_154 : decode cX2_take 154 = .ok (.baload, 1) := by decide +kernel
theorem dX2_take_155 : decode cX2_take 155 = .ok (.invokestatic 90, 3) := by decide +kernel
theorem dX2_take_158 : decode cX2_take 158 = .ok (.ifCond .eq 95, 3) := by decide +kernel
theorem dX2_take_161 : decode cX2_take 161 = .ok (.aload_n 0, 1) := by decide +kernel
theorem dX2_take_162 : decode cX2_take 162 = .ok (.iconst 2, 1) := by decide +kernel
theorem dX2_take_163 : decode cX2_take 163 = .ok (.putfield 71, 3) := by decide +kernel
theorem dX2_take_166 : decode cX2_take 166 = .ok (.aload_n 0, 1) := by decide +kernel
theorem dX2_take_167 : decode cX2_take 167 = .ok (.iconst 0, 1) := by decide +kernel
theorem dX2_take_168 : decode cX2_take 168 = .ok (.putfield 93, 3) := by decide +kernel
theorem dX2_take_171 : decode cX2_take 171 = .ok (.aload_n 0, 1) := by decide +kernel
theorem dX2_take_172 : decode cX2_take 172 = .ok (.getfield 33, 3) := by decide +kernel
theorem dX2_take_175 : decode cX2_take 175 = .ok (.aload_n 0, 1) := by decide +kernel
theorem dX2_take_176 : decode cX2_take 176 = .ok (.getfield 29, 3) := by decide +kernel
theorem dX2_take_179 : decode cX2_take 179 = .ok (.if_icmp .ge 116, 3) := by decide +kernel
theorem dX2_take_182 : decode cX2_take 182 = .ok (.aload_n 0, 1) := by decide +kernel
theorem dX2_take_183 : decode cX2_take 183 = .ok (.getfield 15, 3) := by decide +kernel
theorem dX2_take_186 : decode cX2_take 186 = .ok (.aload_n 0, 1) := by decide +kernel
theorem dX2_take_187 : decode cX2_take 187 = .ok (.getfield 33, 3) := by decide +kernel
theorem dX2_take_190 : decode cX2_take 190 = .ok (.baload, 1) := by decide +kernel
theorem dX2_take_191 : decode cX2_take 191 = .ok (.invokestatic 90, 3) := by decide +kernel
theorem dX2_take_194 : decode cX2_take 194 = .ok (.ifCond .eq 101, 3) := by decide +kernel
theorem dX2_take_197 : decode cX2_take 197 = .ok (.aload_n 0, 1) := by decide +kernel
theorem dX2_take_198 : decode cX2_take 198 = .ok (.aload_n 0, 1) := by decide +kernel
theorem dX2_take_199 : decode cX2_take 199 = .ok (.getfield 33, 3) := by decide +kernel
theorem dX2_take_202 : decode cX2_take 202 = .ok (.aload_n 0, 1) := by decide +kernel
theorem dX2_take_203 : decode cX2_take 203 = .ok (.getfield 83, 3) := by decide +kernel
theorem dX2_take_206 : decode cX2_take 206 = .ok (.isub, 1) := by decide +kernel
theorem dX2_take_207 : decode cX2_take 207 = .ok (.iconst 4, 1) := by decide +kernel
theorem dX2_take_208 : decode cX2_take 208 = .ok (.if_icmp .ge 26, 3) := by decide +kernel
theorem dX2_take_211 : decode cX2_take 211 = .ok (.bipush 10, 2) := by decide +kernel
theorem dX2_take_213 : decode cX2_take 213 = .ok (.aload_n 0, 1) := by decide +kernel
theorem dX2_take_214 : decode cX2_take 214 = .ok (.getfield 93, 3) := by decide +kernel
theorem dX2_take_217 : decode cX2_take 217 = .ok (.imul, 1) := by decide +kernel
theorem dX2_take_218 : decode cX2_take 218 = .ok (.aload_n 0, 1) := by decide +kernel
theorem dX2_take_219 : decode cX2_take 219 = .ok (.getfield 15, 3) := by decide +kernel
theorem dX2_take_222 : decode cX2_take 222 = .ok (.aload_n 0, 1) := by decide +kernel
theorem dX2_take_223 : decode cX2_take 223 = .ok (.getfield 33, 3) := by decide +kernel
theorem dX2_take_226 : decode cX2_take 226 = .ok (.baload, 1) := by decide +kernel
theorem dX2_take_227 : decode cX2_take 227 = .ok (.iadd, 1) := by decide +kernel
theorem dX2_take_228 : decode cX2_take 228 = .ok (.bipush 48, 2) := by decide +kernel
theorem dX2_take_230 : decode cX2_take 230 = .ok (.isub, 1) := by decide +kernel
theorem dX2_take_231 : decode cX2_take 231 = .ok (.goto 6, 3) := by decide +kernel
theorem dX2_take_234 : decode cX2_take 234 = .ok (.sipush 10000, 3) := by decide +kernel
theorem dX2_take_237 : decode cX2_take 237 = .ok (.putfield 93, 3) := by decide +kernel
theorem dX2_take_240 : decode cX2_take 240 = .ok (.aload_n 0, 1) := by decide +kernel
theorem dX2_take_241 : decode cX2_take 241 = .ok (.dup, 1) := by decide +kernel
theorem dX2_take_242 : decode cX2_take 242 = .ok (.getfield 33, 3) := by decide +kernel
theorem dX2_take_245 : decode cX2_take 245 = .ok (.iconst 1, 1) := by decide +kernel
theorem dX2_take_246 : decode cX2_take 246 = .ok (.iadd, 1) := by decide +kernel
theorem dX2_take_247 : decode cX2_take 247 = .ok (.putfield 33, 3) := by decide +kernel
theorem dX2_take_250 : decode cX2_take 250 = .ok (.goto (-79), 3) := by decide +kernel
theorem dX2_take_253 : decode cX2_take 253 = .ok (.aload_n 0, 1) := by decide +kernel
theorem dX2_take_254 : decode cX2_take 254 = .ok (.aload_n 0, 1) := by decide +kernel
theorem dX2_take_255 : decode cX2_take 255 = .ok (.getfield 15, 3) := by decide +kernel
theorem dX2_take_258 : decode cX2_take 258 = .ok (.aload_n 0, 1) := by decide +kernel
theorem dX2_take_259 : decode cX2_take 259 = .ok (.getfield 83, 3) := by decide +kernel
theorem dX2_take_262 : decode cX2_take 262 = .ok (.baload, 1) := by decide +kernel
theorem dX2_take_263 : decode cX2_take 263 = .ok (.invokestatic 96, 3) := by decide +kernel
theorem dX2_take_266 : decode cX2_take 266 = .ok (.ifCond .eq 15, 3) := by decide +kernel
theorem dX2_take_269 : decode cX2_take 269 = .ok (.aload_n 0, 1) := by decide +kernel
theorem dX2_take_270 : decode cX2_take 270 = .ok (.getfield 15, 3) := by decide +kernel
theorem dX2_take_273 : decode cX2_take 273 = .ok (.aload_n 0, 1) := by decide +kernel
theorem dX2_take_274 : decode cX2_take 274 = .ok (.getfield 83, 3) := by decide +kernel
theorem dX2_take_277 : decode cX2_take 277 = .ok (.baload, 1) := by decide +kernel
theorem dX2_take_278 : decode cX2_take 278 = .ok (.goto 4, 3) := by decide +kernel
theorem dX2_take_281 : decode cX2_take 281 = .ok (.iconst 3, 1) := by decide +kernel
theorem dX2_take_282 : decode cX2_take 282 = .ok (.putfield 71, 3) := by decide +kernel
theorem dX2_take_285 : decode cX2_take 285 = .ok (.aload_n 0, 1) := by decide +kernel
theorem dX2_take_286 : decode cX2_take 286 = .ok (.aload_n 0, 1) := by decide +kernel
theorem dX2_take_287 : decode cX2_take 287 = .ok (.getfield 83, 3) := by decide +kernel
theorem dX2_take_290 : decode cX2_take 290 = .ok (.iconst 1, 1) := by decide +kernel
theorem dX2_take_291 : decode cX2_take 291 = .ok (.iadd, 1) := by decide +kernel
theorem dX2_take_292 : decode cX2_take 292 = .ok (.putfield 33, 3) := by decide +kernel
theorem dX2_take_295 : decode cX2_take 295 = .ok (.return_, 1) := by decide +kernel
theorem dX2_isLetter_0 : decode cX2_isLetter 0 = .ok (.iload_n 0, 1) := by decide +kernel
theorem dX2_isLetter_1 : decode cX2_isLetter 1 = .ok (.bipush 97, 2) := by decide +kernel
theorem dX2_isLetter_3 : decode cX2_isLetter 3 = .ok (.if_icmp .lt 13, 3) := by decide +kernel
theorem dX2_isLetter_6 : decode cX2_isLetter 6 = .ok (.iload_n 0, 1) := by decide +kernel
theorem dX2_isLetter_7 : decode cX2_isLetter 7 = .ok (.bipush 122, 2) := by decide +kernel
theorem dX2_isLetter_9 : decode cX2_isLetter 9 = .ok (.if_icmp .gt 7, 3) := by decide +kernel
theorem dX2_isLetter_12 : decode cX2_isLetter 12 = .ok (.iconst 1, 1) := by decide +kernel
theorem dX2_isLetter_13 : decode cX2_isLetter 13 = .ok (.goto 4, 3) := by decide +kernel
theorem dX2_isLetter_16 : decode cX2_isLetter 16 = .ok (.iconst 0, 1) := by decide +kernel
theorem dX2_isLetter_17 : decode cX2_isLetter 17 = .ok (.ireturn, 1) := by decide +kernel
theorem dX2_isDigit_0 : decode cX2_isDigit 0 = .ok (.iload_n 0, 1) := by decide +kernel
theorem dX2_isDigit_1 : decode cX2_isDigit 1 = .ok (.bipush 48, 2) := by decide +kernel
theorem dX2_isDigit_3 : decode cX2_isDigit 3 = .ok (.if_icmp .lt 13, 3) := by decide +kernel
theorem dX2_isDigit_6 : decode cX2_isDigit 6 = .ok (.iload_n 0, 1) := by decide +kernel
theorem dX2_isDigit_7 : decode cX2_isDigit 7 = .ok (.bipush 57, 2) := by decide +kernel
theorem dX2_isDigit_9 : decode cX2_isDigit 9 = .ok (.if_icmp .gt 7, 3) := by decide +kernel
theorem dX2_isDigit_12 : decode cX2_isDigit 12 = .ok (.iconst 1, 1) := by decide +kernel
theorem dX2_isDigit_13 : decode cX2_isDigit 13 = .ok (.goto 4, 3) := by decide +kernel
theorem dX2_isDigit_16 : decode cX2_isDigit 16 = .ok (.iconst 0, 1) := by decide +kernel
theorem dX2_isDigit_17 : decode cX2_isDigit 17 = .ok (.ireturn, 1) := by decide +kernel
theorem dX2_isSign_0 : decode cX2_isSign 0 = .ok (.iload_n 0, 1) := by decide +kernel
theorem dX2_isSign_1 : decode cX2_isSign 1 = .ok (.bipush 59, 2) := by decide +kernel
theorem dX2_isSign_3 : decode cX2_isSign 3 = .ok (.if_icmp .eq 51, 3) := by decide +kernel
theorem dX2_isSign_6 : decode cX2_isSign 6 = .ok (.iload_n 0, 1) := by decide +kernel
theorem dX2_isSign_7 : decode cX2_isSign 7 = .ok (.bipush 40, 2) := by decide +kernel
theorem dX2_isSign_9 : decode cX2_isSign 9 = .ok (.if_icmp .eq 45, 3) := by decide +kernel
theorem dX2_isSign_12 : decode cX2_isSign 12 = .ok (.iload_n 0, 1) := by decide +kernel
theorem dX2_isSign_13 : decode cX2_isSign 13 = .ok (.bipush 41, 2) := by decide +kernel
theorem dX2_isSign_15 : decode cX2_isSign 15 = .ok (.if_icmp .eq 39, 3) := by decide +kernel
theorem dX2_isSign_18 : decode cX2_isSign 18 = .ok (.iload_n 0, 1) := by decide +kernel
theorem dX2_isSign_19 : decode cX2_isSign 19 = .ok (.bipush 43, 2) := by decide +kernel
theorem dX2_isSign_21 : decode cX2_isSign 21 = .ok (.if_icmp .eq 33, 3) := by decide +kernel
theorem dX2_isSign_24 : decode cX2_isSign 24 = .ok (.iload_n 0, 1) := by decide +kernel
theorem dX2_isSign_25 : decode cX2_isSign 25 = .ok (.bipush 45, 2) := by decide +kernel
theorem dX2_isSign_27 : decode cX2_isSign 27 = .ok (.if_icmp .eq 27, 3) := by decide +kernel
theorem dX2_isSign_30 : decode cX2_isSign 30 = .ok (.iload_n 0, 1) := by decide +kernel
theorem dX2_isSign_31 : decode cX2_isSign 31 = .ok (.bipush 42, 2) := by decide +kernel
theorem dX2_isSign_33 : decode cX2_isSign 33 = .ok (.if_icmp .eq 21, 3) := by decide +kernel
theorem dX2_isSign_36 : decode cX2_isSign 36 = .ok (.iload_n 0, 1) := by decide +kernel
theorem dX2_isSign_37 : decode cX2_isSign 37 = .ok (.bipush 47, 2) := by decide +kernel
theorem dX2_isSign_39 : decode cX2_isSign 39 = .ok (.if_icmp .eq 15, 3) := by decide +kernel
theorem dX2_isSign_42 : decode cX2_isSign 42 = .ok (.iload_n 0, 1) := by decide +kernel
theorem dX2_isSign_43 : decode cX2_isSign 43 = .ok (.bipush 60, 2) := by decide +kernel
theorem dX2_isSign_45 : decode cX2_isSign 45 = .ok (.if_icmp .eq 9, 3) := by decide +kernel
theorem dX2_isSign_48 : decode cX2_isSign 48 = .ok (.iload_n 0, 1) := by decide +kernel
theorem dX2_isSign_49 : decode cX2_isSign 49 = .ok (.bipush 61, 2) := by decide +kernel
theorem dX2_isSign_51 : decode cX2_isSign 51 = .ok (.if_icmp .ne 7, 3) := by decide +kernel
theorem dX2_isSign_54 : decode cX2_isSign 54 = .ok (.iconst 1, 1) := by decide +kernel
theorem dX2_isSign_55 : decode cX2_isSign 55 = .ok (.goto 4, 3) := by decide +kernel
theorem dX2_isSign_58 : decode cX2_isSign 58 = .ok (.iconst 0, 1) := by decide +kernel
theorem dX2_isSign_59 : decode cX2_isSign 59 = .ok (.ireturn, 1) := by decide +kernel
theorem dX2_isWord_0 : decode cX2_isWord 0 = .ok (.aload_n 0, 1) := by decide +kernel
theorem dX2_isWord_1 : decode cX2_isWord 1 = .ok (.getfield 71, 3) := by decide +kernel
theorem dX2_isWord_4 : decode cX2_isWord 4 = .ok (.iconst 1, 1) := by decide +kernel
theorem dX2_isWord_5 : decode cX2_isWord 5 = .ok (.if_icmp .ne 31, 3) := by decide +kernel
theorem dX2_isWord_8 : decode cX2_isWord 8 = .ok (.aload_n 0, 1) := by decide +kernel
theorem dX2_isWord_9 : decode cX2_isWord 9 = .ok (.getfield 33, 3) := by decide +kernel
theorem dX2_isWord_12 : decode cX2_isWord 12 = .ok (.aload_n 0, 1) := by decide +kernel
theorem dX2_isWord_13 : decode cX2_isWord 13 = .ok (.getfield 83, 3) := by decide +kernel
theorem dX2_isWord_16 : decode cX2_isWord 16 = .ok (.isub, 1) := by decide +kernel
theorem dX2_isWord_17 : decode cX2_isWord 17 = .ok (.aload_n 1, 1) := by decide +kernel
theorem dX2_isWord_18 : decode cX2_isWord 18 = .ok (.invokevirtual 99, 3) := by decide +kernel
theorem dX2_isWord_21 : decode cX2_isWord 21 = .ok (.if_icmp .ne 15, 3) := by decide +kernel
theorem dX2_isWord_24 : decode cX2_isWord 24 = .ok (.aload_n 0, 1) := by decide +kernel
theorem dX2_isWord_25 : decode cX2_isWord 25 = .ok (.getfield 33, 3) := by decide +kernel
theorem dX2_isWord_28 : decode cX2_isWord 28 = .ok (.aload_n 0, 1) := by decide +kernel
theorem dX2_isWord_29 : decode cX2_isWord 29 = .ok (.getfield 15, 3) := by decide +kernel
theorem dX2_isWord_32 : decode cX2_isWord 32 = .ok (.arraylength, 1) := by decide +kernel
theorem dX2_isWord_33 : decode cX2_isWord 33 = .ok (.if_icmp .le 5, 3) := by decide +kernel
theorem dX2_isWord_36 : decode cX2_isWord 36 = .ok (.iconst 0, 1) := by decide +kernel
theorem dX2_isWord_37 : decode cX2_isWord 37 = .ok (.ireturn, 1) := by decide +kernel
theorem dX2_isWord_38 : decode cX2_isWord 38 = .ok (.iconst 0, 1) := by decide +kernel
theorem dX2_isWord_39 : decode cX2_isWord 39 = .ok (.istore_n 2, 1) := by decide +kernel
theorem dX2_isWord_40 : decode cX2_isWord 40 = .ok (.iload_n 2, 1) := by decide +kernel
theorem dX2_isWord_41 : decode cX2_isWord 41 = .ok (.aload_n 1, 1) := by decide +kernel
theorem dX2_isWord_42 : decode cX2_isWord 42 = .ok (.invokevirtual 99, 3) := by decide +kernel
theorem dX2_isWord_45 : decode cX2_isWord 45 = .ok (.if_icmp .ge 30, 3) := by decide +kernel
theorem dX2_isWord_48 : decode cX2_isWord 48 = .ok (.aload_n 0, 1) := by decide +kernel
theorem dX2_isWord_49 : decode cX2_isWord 49 = .ok (.getfield 15, 3) := by decide +kernel
theorem dX2_isWord_52 : decode cX2_isWord 52 = .ok (.aload_n 0, 1) := by decide +kernel
theorem dX2_isWord_53 : decode cX2_isWord 53 = .ok (.getfield 83, 3) := by decide +kernel
theorem dX2_isWord_56 : decode cX2_isWord 56 = .ok (.iload_n 2, 1) := by decide +kernel
theorem dX2_isWord_57 : decode cX2_isWord 57 = .ok (.iadd, 1) := by decide +kernel
theorem dX2_isWord_58 : decode cX2_isWord 58 = .ok (.baload, 1) := by decide +kernel
theorem dX2_isWord_59 : decode cX2_isWord 59 = .ok (.aload_n 1, 1) := by decide +kernel
theorem dX2_isWord_60 : decode cX2_isWord 60 = .ok (.iload_n 2, 1) := by decide +kernel
theorem dX2_isWord_61 : decode cX2_isWord 61 = .ok (.invokevirtual 104, 3) := by decide +kernel
theorem dX2_isWord_64 : decode cX2_isWord 64 = .ok (.if_icmp .eq 5, 3) := by decide +kernel
theorem dX2_isWord_67 : decode cX2_isWord 67 = .ok (.iconst 0, 1) := by decide +kernel
theorem dX2_isWord_68 : decode cX2_isWord 68 = .ok (.ireturn, 1) := by decide +kernel
theorem dX2_isWord_69 : decode cX2_isWord 69 = .ok (.iinc 2 1, 3) := by decide +kernel
theorem dX2_isWord_72 : decode cX2_isWord 72 = .ok (.goto (-32), 3) := by decide +kernel
theorem dX2_isWord_75 : decode cX2_isWord 75 = .ok (.iconst 1, 1) := by decide +kernel
theorem dX2_isWord_76 : decode cX2_isWord 76 = .ok (.ireturn, 1) := by decide +kernel
theorem dX2_numberHere_0 : decode cX2_numberHere 0 = .ok (.aload_n 0, 1) := by decide +kernel
theorem dX2_numberHere_1 : decode cX2_numberHere 1 = .ok (.getfield 71, 3) := by decide +kernel
theorem dX2_numberHere_4 : decode cX2_numberHere 4 = .ok (.iconst 2, 1) := by decide +kernel
theorem dX2_numberHere_5 : decode cX2_numberHere 5 = .ok (.if_icmp .eq 11, 3) := by decide +kernel
theorem dX2_numberHere_8 : decode cX2_numberHere 8 = .ok (.aload_n 0, 1) := by decide +kernel
theorem dX2_numberHere_9 : decode cX2_numberHere 9 = .ok (.iconst 1, 1) := by decide +kernel
theorem dX2_numberHere_10 : decode cX2_numberHere 10 = .ok (.invokevirtual 108, 3) := by decide +kernel
theorem dX2_numberHere_13 : decode cX2_numberHere 13 = .ok (.goto 24, 3) := by decide +kernel
theorem dX2_numberHere_16 : decode cX2_numberHere 16 = .ok (.aload_n 0, 1) := by decide +kernel
theorem dX2_numberHere_17 : decode cX2_numberHere 17 = .ok (.getfield 93, 3) := by decide +kernel
theorem dX2_numberHere_20 : decode cX2_numberHere 20 = .ok (.iload_n 1, 1) := by decide +kernel
theorem dX2_numberHere_21 : decode cX2_numberHere 21 = .ok (.if_icmp .lt 11, 3) := by decide +kernel
theorem dX2_numberHere_24 : decode cX2_numberHere 24 = .ok (.aload_n 0, 1) := by decide +kernel
theorem dX2_numberHere_25 : decode cX2_numberHere 25 = .ok (.getfield 93, 3) := by decide +kernel
theorem dX2_numberHere_28 : decode cX2_numberHere 28 = .ok (.iload_n 2, 1) := by decide +kernel
theorem dX2_numberHere_29 : decode cX2_numberHere 29 = .ok (.if_icmp .le 8, 3) := by decide +kernel
theorem dX2_numberHere_32 : decode cX2_numberHere 32 = .ok (.aload_n 0, 1) := by decide +kernel
theorem dX2_numberHere_33 : decode cX2_numberHere 33 = .ok (.iconst 2, 1) := by decide +kernel
theorem dX2_numberHere_34 : decode cX2_numberHere 34 = .ok (.invokevirtual 108, 3) := by decide +kernel
theorem dX2_numberHere_37 : decode cX2_numberHere 37 = .ok (.aload_n 0, 1) := by decide +kernel
theorem dX2_numberHere_38 : decode cX2_numberHere 38 = .ok (.getfield 36, 3) := by decide +kernel
theorem dX2_numberHere_41 : decode cX2_numberHere 41 = .ok (.ifCond .ne 10, 3) := by decide +kernel
theorem dX2_numberHere_44 : decode cX2_numberHere 44 = .ok (.aload_n 0, 1) := by decide +kernel
theorem dX2_numberHere_45 : decode cX2_numberHere 45 = .ok (.getfield 93, 3) := by decide +kernel
theorem dX2_numberHere_48 : decode cX2_numberHere 48 = .ok (.goto 4, 3) := by decide +kernel
theorem dX2_numberHere_51 : decode cX2_numberHere 51 = .ok (.iload_n 1, 1) := by decide +kernel
theorem dX2_numberHere_52 : decode cX2_numberHere 52 = .ok (.ireturn, 1) := by decide +kernel
theorem dX2_takenNumber_0 : decode cX2_takenNumber 0 = .ok (.aload_n 0, 1) := by decide +kernel
theorem dX2_takenNumber_1 : decode cX2_takenNumber 1 = .ok (.iload_n 1, 1) := by decide +kernel
theorem dX2_takenNumber_2 : decode cX2_takenNumber 2 = .ok (.iload_n 2, 1) := by decide +kernel
theorem dX2_takenNumber_3 : decode cX2_takenNumber 3 = .ok (.invokevirtual 112, 3) := by decide +kernel
theorem dX2_takenNumber_6 : decode cX2_takenNumber 6 = .ok (.istore_n 3, 1) := by decide +kernel
theorem dX2_takenNumber_7 : decode cX2_takenNumber 7 = .ok (.aload_n 0, 1) := by decide +kernel
theorem dX2_takenNumber_8 : decode cX2_takenNumber 8 = .ok (.invokevirtual 60, 3) := by decide +kernel
theorem dX2_takenNumber_11 : decode cX2_takenNumber 11 = .ok (.iload_n 3, 1) := by decide +kernel
theorem dX2_takenNumber_12 : decode cX2_takenNumber 12 = .ok (.ireturn, 1) := by decide +kernel
theorem dX2_takenCell_0 : decode cX2_takenCell 0 = .ok (.aload_n 0, 1) := by decide +kernel
theorem dX2_takenCell_1 : decode cX2_takenCell 1 = .ok (.iconst 0, 1) := by decide +kernel
theorem dX2_takenCell_2 : decode cX2_takenCell 2 = .ok (.aload_n 0, 1) := by decide +kernel
theorem dX2_takenCell_3 : decode cX2_takenCell 3 = .ok (.getfield 19, 3) := by decide +kernel
theorem dX2_takenCell_6 : decode cX2_takenCell 6 = .ok (.getfield 115, 3) := by decide +kernel
theorem dX2_takenCell_9 : decode cX2_takenCell 9 = .ok (.iconst 1, 1) := by decide +kernel
theorem dX2_takenCell_10 : decode cX2_takenCell 10 = .ok (.isub, 1) := by decide +kernel
theorem dX2_takenCell_11 : decode cX2_takenCell 11 = .ok (.invokevirtual 112, 3) := by decide +kernel
theorem dX2_takenCell_14 : decode cX2_takenCell 14 = .ok (.istore_n 3, 1) := by decide +kernel
theorem dX2_takenCell_15 : decode cX2_takenCell 15 = .ok (.aload_n 0, 1) := by decide +kernel
theorem dX2_takenCell_16 : decode cX2_takenCell 16 = .ok (.invokevirtual 60, 3) := by decide +kernel
theorem dX2_takenCell_19 : decode cX2_takenCell 19 = .ok (.aload_n 0, 1) := by decide +kernel
theorem dX2_takenCell_20 : decode cX2_takenCell 20 = .ok (.iconst 0, 1) := by decide +kernel
theorem dX2_takenCell_21 : decode cX2_takenCell 21 = .ok (.aload_n 0, 1) := by decide +kernel
theorem dX2_takenCell_22 : decode cX2_takenCell 22 = .ok (.getfield 19, 3) := by decide +kernel
theorem dX2_takenCell_25 : decode cX2_takenCell 25 = .ok (.getfield 118, 3) := by decide +kernel
theorem dX2_takenCell_28 : decode cX2_takenCell 28 = .ok (.iconst 1, 1) := by decide +kernel
theorem dX2_takenCell_29 : decode cX2_takenCell 29 = .ok (.isub, 1) := by decide +kernel
theorem dX2_takenCell_30 : decode cX2_takenCell 30 = .ok (.invokevirtual 112, 3) := by decide +kernel
theorem dX2_takenCell_33 : decode cX2_takenCell 33 = .ok (.istore 4, 2) := by decide +kernel
theorem dX2_takenCell_35 : decode cX2_takenCell 35 = .ok (.aload_n 0, 1) := by decide +kernel
theorem dX2_takenCell_36 : decode cX2_takenCell 36 = .ok (.getfield 19, 3) := by decide +kernel
theorem dX2_takenCell_39 : decode cX2_takenCell 39 = .ok (.getfield 115, 3) := by decide +kernel
theorem dX2_takenCell_42 : decode cX2_takenCell 42 = .ok (.iload 4, 2) := by decide +kernel
theorem dX2_takenCell_44 : decode cX2_takenCell 44 = .ok (.imul, 1) := by decide +kernel
theorem dX2_takenCell_45 : decode cX2_takenCell 45 = .ok (.iload_n 3, 1) := by decide +kernel
theorem dX2_takenCell_46 : decode cX2_takenCell 46 = .ok (.iadd, 1) := by decide +kernel
theorem dX2_takenCell_47 : decode cX2_takenCell 47 = .ok (.istore 5, 2) := by decide +kernel
theorem dX2_takenCell_49 : decode cX2_takenCell 49 = .ok (.lload_n 1, 1) := by decide +kernel
theorem dX2_takenCell_50 : decode cX2_takenCell 50 = .ok (.iload 5, 2) := by decide +kernel
theorem dX2_takenCell_52 : decode cX2_takenCell 52 = .ok (.invokestatic 121, 3) := by decide +kernel
theorem dX2_takenCell_55 : decode cX2_takenCell 55 = .ok (.ifCond .eq 8, 3) := by decide +kernel
theorem dX2_takenCell_58 : decode cX2_takenCell 58 = .ok (.aload_n 0, 1) := by decide +kernel
theorem dX2_takenCell_59 : decode cX2_takenCell 59 = .ok (.iconst 4, 1) := by decide +kernel
theorem dX2_takenCell_60 : decode cX2_takenCell 60 = .ok (.invokevirtual 108, 3) := by decide +kernel
theorem dX2_takenCell_63 : decode cX2_takenCell 63 = .ok (.aload_n 0, 1) := by decide +kernel
theorem dX2_takenCell_64 : decode cX2_takenCell 64 = .ok (.invokevirtual 60, 3) := by decide +kernel
theorem dX2_takenCell_67 : decode cX2_takenCell 67 = .ok (.iload 5, 2) := by decide +kernel
theorem dX2_takenCell_69 : decode cX2_takenCell 69 = .ok (.ireturn, 1) := by decide +kernel
theorem dX2_takeEndOfLine_0 : decode cX2_takeEndOfLine 0 = .ok (.aload_n 0, 1) := by decide +kernel
theorem dX2_takeEndOfLine_1 : decode cX2_takeEndOfLine 1 = .ok (.getfield 71, 3) := by decide +kernel
theorem dX2_takeEndOfLine_4 : decode cX2_takeEndOfLine 4 = .ok (.bipush 59, 2) := by decide +kernel
theorem dX2_takeEndOfLine_6 : decode cX2_takeEndOfLine 6 = .ok (.if_icmp .eq 8, 3) := by decide +kernel
theorem dX2_takeEndOfLine_9 : decode cX2_takeEndOfLine 9 = .ok (.aload_n 0, 1) := by decide +kernel
theorem dX2_takeEndOfLine_10 : decode cX2_takeEndOfLine 10 = .ok (.iconst 1, 1) := by decide +kernel
theorem dX2_takeEndOfLine_11 : decode cX2_takeEndOfLine 11 = .ok (.invokevirtual 108, 3) := by decide +kernel
theorem dX2_takeEndOfLine_14 : decode cX2_takeEndOfLine 14 = .ok (.aload_n 0, 1) := by decide +kernel
theorem dX2_takeEndOfLine_15 : decode cX2_takeEndOfLine 15 = .ok (.invokevirtual 60, 3) := by decide +kernel
theorem dX2_takeEndOfLine_18 : decode cX2_takeEndOfLine 18 = .ok (.return_, 1) := by decide +kernel
theorem dX2_readSize_0 : decode cX2_readSize 0 = .ok (.aload_n 0, 1) := by decide +kernel
theorem dX2_readSize_1 : decode cX2_readSize 1 = .ok (.invokevirtual 60, 3) := by decide +kernel
theorem dX2_readSize_4 : decode cX2_readSize 4 = .ok (.aload_n 0, 1) := by decide +kernel
theorem dX2_readSize_5 : decode cX2_readSize 5 = .ok (.iconst 1, 1) := by decide +kernel
theorem dX2_readSize_6 : decode cX2_readSize 6 = .ok (.bipush 8, 2) := by decide +kernel
theorem dX2_readSize_8 : decode cX2_readSize 8 = .ok (.invokevirtual 125, 3) := by decide +kernel
theorem dX2_readSize_11 : decode cX2_readSize 11 = .ok (.istore_n 1, 1) := by decide +kernel
theorem dX2_readSize_12 : decode cX2_readSize 12 = .ok (.aload_n 0, 1) := by decide +kernel
theorem dX2_readSize_13 : decode cX2_readSize 13 = .ok (.iconst 1, 1) := by decide +kernel
theorem dX2_readSize_14 : decode cX2_readSize 14 = .ok (.bipush 8, 2) := by decide +kernel
theorem dX2_readSize_16 : decode cX2_readSize 16 = .ok (.invokevirtual 125, 3) := by decide +kernel
theorem dX2_readSize_19 : decode cX2_readSize 19 = .ok (.istore_n 2, 1) := by decide +kernel
theorem dX2_readSize_20 : decode cX2_readSize 20 = .ok (.aload_n 0, 1) := by decide +kernel
theorem dX2_readSize_21 : decode cX2_readSize 21 = .ok (.invokevirtual 128, 3) := by decide +kernel
theorem dX2_readSize_24 : decode cX2_readSize 24 = .ok (.aload_n 0, 1) := by decide +kernel
theorem dX2_readSize_25 : decode cX2_readSize 25 = .ok (.getfield 19, 3) := by decide +kernel
theorem dX2_readSize_28 : decode cX2_readSize 28 = .ok (.iload_n 1, 1) := by decide +kernel
theorem dX2_readSize_29 : decode cX2_readSize 29 = .ok (.putfield 115, 3) := by decide +kernel
theorem dX2_readSize_32 : decode cX2_readSize 32 = .ok (.aload_n 0, 1) := by decide +kernel
theorem dX2_readSize_33 : decode cX2_readSize 33 = .ok (.getfield 19, 3) := by decide +kernel
theorem dX2_readSize_36 : decode cX2_readSize 36 = .ok (.iload_n 2, 1) := by decide +kernel
theorem dX2_readSize_37 : decode cX2_readSize 37 = .ok (.putfield 118, 3) := by decide +kernel
theorem dX2_readSize_40 : decode cX2_readSize 40 = .ok (.return_, 1) := by decide +kernel
theorem dX2_readLine_0 : decode cX2_readLine 0 = .ok (.aload_n 0, 1) := by decide +kernel
theorem dX2_readLine_1 : decode cX2_readLine 1 = .ok (.ldc 131, 2) := by decide +kernel
theorem dX2_readLine_3 : decode cX2_readLine 3 = .ok (.invokevirtual 64, 3) := by decide +kernel
theorem dX2_readLine_6 : decode cX2_readLine 6 = .ok (.ifCond .eq 10, 3) := by decide +kernel
theorem dX2_readLine_9 : decode cX2_readLine 9 = .ok (.aload_n 0, 1) := by decide +kernel
theorem dX2_readLine_10 : decode cX2_readLine 10 = .ok (.invokevirtual 133, 3) := by decide +kernel
theorem dX2_readLine_13 : decode cX2_readLine 13 = .ok (.goto 107, 3) := by decide +kernel
theorem dX2_readLine_16 : decode cX2_readLine 16 = .ok (.aload_n 0, 1) := by decide +kernel
theorem dX2_readLine_17 : decode cX2_readLine 17 = .ok (.ldc 136, 2) := by decide +kernel
theorem dX2_readLine_19 : decode cX2_readLine 19 = .ok (.invokevirtual 64, 3) := by decide +kernel
theorem dX2_readLine_22 : decode cX2_readLine 22 = .ok (.ifCond .eq 10, 3) := by decide +kernel
theorem dX2_readLine_25 : decode cX2_readLine 25 = .ok (.aload_n 0, 1) := by decide +kernel
theorem dX2_readLine_26 : decode cX2_readLine 26 = .ok (.invokevirtual 138, 3) := by decide +kernel
theorem dX2_readLine_29 : decode cX2_readLine 29 = .ok (.goto 91, 3) := by decide +kernel
theorem dX2_readLine_32 : decode cX2_readLine 32 = .ok (.aload_n 0, 1) := by decide +kernel
theorem dX2_readLine_33 : decode cX2_readLine 33 = .ok (.ldc 141, 2) := by decide +kernel
theorem dX2_readLine_35 : decode cX2_readLine 35 = .ok (.invokevirtual 64, 3) := by decide +kernel
theorem dX2_readLine_38 : decode cX2_readLine 38 = .ok (.ifCond .eq 11, 3) := by decide +kernel
theorem dX2_readLine_41 : decode cX2_readLine 41 = .ok (.aload_n 0, 1) := by decide +kernel
theorem dX2_readLine_42 : decode cX2_readLine 42 = .ok (.iconst 0, 1) := by decide +kernel
theorem dX2_readLine_43 : decode cX2_readLine 43 = .ok (.invokevirtual 143, 3) := by decide +kernel
theorem dX2_readLine_46 : decode cX2_readLine 46 = .ok (.goto 74, 3) := by decide +kernel
theorem dX2_readLine_49 : decode cX2_readLine 49 = .ok (.aload_n 0, 1) := by decide +kernel
theorem dX2_readLine_50 : decode cX2_readLine 50 = .ok (.ldc 146, 2) := by decide +kernel
theorem dX2_readLine_52 : decode cX2_readLine 52 = .ok (.invokevirtual 64, 3) := by decide +kernel
theorem dX2_readLine_55 : decode cX2_readLine 55 = .ok (.ifCond .eq 11, 3) := by decide +kernel
theorem dX2_readLine_58 : decode cX2_readLine 58 = .ok (.aload_n 0, 1) := by decide +kernel
theorem dX2_readLine_59 : decode cX2_readLine 59 = .ok (.iconst 1, 1) := by decide +kernel
theorem dX2_readLine_60 : decode cX2_readLine 60 = .ok (.invokevirtual 143, 3) := by decide +kernel
theorem dX2_readLine_63 : decode cX2_readLine 63 = .ok (.goto 57, 3) := by decide +kernel
theorem dX2_readLine_66 : decode cX2_readLine 66 = .ok (.aload_n 0, 1) := by decide +kernel
theorem dX2_readLine_67 : decode cX2_readLine 67 = .ok (.ldc 148, 2) := by decide +kernel
theorem dX2_readLine_69 : decode cX2_readLine 69 = .ok (.invokevirtual 64, 3) := by decide +kernel
theorem dX2_readLine_72 : decode cX2_readLine 72 = .ok (.ifCond .eq 11, 3) := by decide +kernel
theorem dX2_readLine_75 : decode cX2_readLine 75 = .ok (.aload_n 0, 1) := by decide +kernel
theorem dX2_readLine_76 : decode cX2_readLine 76 = .ok (.iconst 2, 1) := by decide +kernel
theorem dX2_readLine_77 : decode cX2_readLine 77 = .ok (.invokevirtual 143, 3) := by decide +kernel
theorem dX2_readLine_80 : decode cX2_readLine 80 = .ok (.goto 40, 3) := by decide +kernel
theorem dX2_readLine_83 : decode cX2_readLine 83 = .ok (.aload_n 0, 1) := by decide +kernel
theorem dX2_readLine_84 : decode cX2_readLine 84 = .ok (.ldc 150, 2) := by decide +kernel
theorem dX2_readLine_86 : decode cX2_readLine 86 = .ok (.invokevirtual 64, 3) := by decide +kernel
theorem dX2_readLine_89 : decode cX2_readLine 89 = .ok (.ifCond .eq 10, 3) := by decide +kernel
theorem dX2_readLine_92 : decode cX2_readLine 92 = .ok (.aload_n 0, 1) := by decide +kernel
theorem dX2_readLine_93 : decode cX2_readLine 93 = .ok (.invokevirtual 152, 3) := by decide +kernel
theorem dX2_readLine_96 : decode cX2_readLine 96 = .ok (.goto 24, 3) := by decide +kernel
theorem dX2_readLine_99 : decode cX2_readLine 99 = .ok (.aload_n 0, 1) := by decide +kernel
theorem dX2_readLine_100 : decode cX2_readLine 100 = .ok (.ldc 155, 2) := by decide +kernel
theorem dX2_readLine_102 : decode cX2_readLine 102 = .ok (.invokevirtual 64, 3) := by decide +kernel
theorem dX2_readLine_105 : decode cX2_readLine 105 = .ok (.ifCond .eq 10, 3) := by decide +kernel
theorem dX2_readLine_108 : decode cX2_readLine 108 = .ok (.aload_n 0, 1) := by decide +kernel
theorem dX2_readLine_109 : decode cX2_readLine 109 = .ok (.invokevirtual 157, 3) := by decide +kernel
theorem dX2_readLine_112 : decode cX2_readLine 112 = .ok (.goto 8, 3) := by decide +kernel
theorem dX2_readLine_115 : decode cX2_readLine 115 = .ok (.aload_n 0, 1) := by decide +kernel
theorem dX2_readLine_116 : decode cX2_readLine 116 = .ok (.iconst 1, 1) := by decide +kernel
theorem dX2_readLine_117 : decode cX2_readLine 117 = .ok (.invokevirtual 108, 3) := by decide +kernel
theorem dX2_readLine_120 : decode cX2_readLine 120 = .ok (.return_, 1) := by decide +kernel
theorem dX2_readHeight_0 : decode cX2_readHeight 0 = .ok (.aload_n 0, 1) := by decide +kernel
theorem dX2_readHeight_1 : decode cX2_readHeight 1 = .ok (.invokevirtual 60, 3) := by decide +kernel
theorem dX2_readHeight_4 : decode cX2_readHeight 4 = .ok (.aload_n 0, 1) := by decide +kernel
theorem dX2_readHeight_5 : decode cX2_readHeight 5 = .ok (.aload_n 0, 1) := by decide +kernel
theorem dX2_readHeight_6 : decode cX2_readHeight 6 = .ok (.getfield 45, 3) := by decide +kernel
theorem dX2_readHeight_9 : decode cX2_readHeight 9 = .ok (.invokevirtual 160, 3) := by decide +kernel
theorem dX2_readHeight_12 : decode cX2_readHeight 12 = .ok (.istore_n 1, 1) := by decide +kernel
theorem dX2_readHeight_13 : decode cX2_readHeight 13 = .ok (.aload_n 0, 1) := by decide +kernel
theorem dX2_readHeight_14 : decode cX2_readHeight 14 = .ok (.iconst 0, 1) := by decide +kernel
theorem dX2_readHeight_15 : decode cX2_readHeight 15 = .ok (.bipush 9, 2) := by decide +kernel
theorem dX2_readHeight_17 : decode cX2_readHeight 17 = .ok (.invokevirtual 125, 3) := by decide +kernel
theorem dX2_readHeight_20 : decode cX2_readHeight 20 = .ok (.istore_n 2, 1) := by decide +kernel
theorem dX2_readHeight_21 : decode cX2_readHeight 21 = .ok (.aload_n 0, 1) := by decide +kernel
theorem dX2_readHeight_22 : decode cX2_readHeight 22 = .ok (.invokevirtual 128, 3) := by decide +kernel
theorem dX2_readHeight_25 : decode cX2_readHeight 25 = .ok (.aload_n 0, 1) := by decide +kernel
theorem dX2_readHeight_26 : decode cX2_readHeight 26 = .ok (.dup, 1) := by decide +kernel
theorem dX2_readHeight_27 : decode cX2_readHeight 27 = .ok (.getfield 45, 3) := by decide +kernel
theorem dX2_readHeight_30 : decode cX2_readHeight 30 = .ok (.lconst 1, 1) := by decide +kernel
theorem dX2_readHeight_31 : decode cX2_readHeight 31 = .ok (.iload_n 1, 1) := by decide +kernel
theorem dX2_readHeight_32 : decode cX2_readHeight 32 = .ok (.lshl, 1) := by decide +kernel
theorem dX2_readHeight_33 : decode cX2_readHeight 33 = .ok (.lor, 1) := by decide +kernel
theorem dX2_readHeight_34 : decode cX2_readHeight 34 = .ok (.putfield 45, 3) := by decide +kernel
theorem dX2_readHeight_37 : decode cX2_readHeight 37 = .ok (.aload_n 0, 1) := by decide +kernel
theorem dX2_readHeight_38 : decode cX2_readHeight 38 = .ok (.getfield 19, 3) := by decide +kernel
theorem dX2_readHeight_41 : decode cX2_readHeight 41 = .ok (.getfield 164, 3) := by decide +kernel
theorem dX2_readHeight_44 : decode cX2_readHeight 44 = .ok (.iload_n 1, 1) := by decide +kernel
theorem dX2_readHeight_45 : decode cX2_readHeight 45 = .ok (.iload_n 2, 1) := by decide +kernel
theorem dX2_readHeight_46 : decode cX2_readHeight 46 = .ok (.iastore, 1) := by decide +kernel
theorem dX2_readHeight_47 : decode cX2_readHeight 47 = .ok (.return_, 1) := by decide +kernel
theorem dX2_readTree_0 : decode cX2_readTree 0 = .ok (.aload_n 0, 1) := by decide +kernel
theorem dX2_readTree_1 : decode cX2_readTree 1 = .ok (.getfield 42, 3) := by decide +kernel
theorem dX2_readTree_4 : decode cX2_readTree 4 = .ok (.bipush 12, 2) := by decide +kernel
theorem dX2_readTree_6 : decode cX2_readTree 6 = .ok (.if_icmp .lt 9, 3) := by decide +kernel
theorem dX2_readTree_9 : decode cX2_readTree 9 = .ok (.aload_n 0, 1) := by decide +kernel
theorem dX2_readTree_10 : decode cX2_readTree 10 = .ok (.iconst 2, 1) := by decide +kernel
theorem dX2_readTree_11 : decode cX2_readTree 11 = .ok (.invokevirtual 108, 3) := by decide +kernel
theorem dX2_readTree_14 : decode cX2_readTree 14 = .ok (.return_, 1) := by decide +kernel
theorem dX2_readTree_15 : decode cX2_readTree 15 = .ok (.aload_n 0, 1) := by decide +kernel
theorem dX2_readTree_16 : decode cX2_readTree 16 = .ok (.invokevirtual 60, 3) := by decide +kernel
theorem dX2_readTree_19 : decode cX2_readTree 19 = .ok (.aload_n 0, 1) := by decide +kernel
theorem dX2_readTree_20 : decode cX2_readTree 20 = .ok (.aload_n 0, 1) := by decide +kernel
theorem dX2_readTree_21 : decode cX2_readTree 21 = .ok (.getfield 49, 3) := by decide +kernel
theorem dX2_readTree_24 : decode cX2_readTree 24 = .ok (.invokevirtual 160, 3) := by decide +kernel
theorem dX2_readTree_27 : decode cX2_readTree 27 = .ok (.istore_n 1, 1) := by decide +kernel
theorem dX2_readTree_28 : decode cX2_readTree 28 = .ok (.aload_n 0, 1) := by decide +kernel
theorem dX2_readTree_29 : decode cX2_readTree 29 = .ok (.iconst 1, 1) := by decide +kernel
theorem dX2_readTree_30 : decode cX2_readTree 30 = .ok (.bipush 9, 2) := by decide +kernel
theorem dX2_readTree_32 : decode cX2_readTree 32 = .ok (.invokevirtual 125, 3) := by decide +kernel
theorem dX2_readTree_35 : decode cX2_readTree 35 = .ok (.istore_n 2, 1) := by decide +kernel
theorem dX2_readTree_36 : decode cX2_readTree 36 = .ok (.aload_n 0, 1) := by decide +kernel
theorem dX2_readTree_37 : decode cX2_readTree 37 = .ok (.iload_n 2, 1) := by decide +kernel
theorem dX2_readTree_38 : decode cX2_readTree 38 = .ok (.bipush 9, 2) := by decide +kernel
theorem dX2_readTree_40 : decode cX2_readTree 40 = .ok (.invokevirtual 125, 3) := by decide +kernel
theorem dX2_readTree_43 : decode cX2_readTree 43 = .ok (.istore_n 3, 1) := by decide +kernel
theorem dX2_readTree_44 : decode cX2_readTree 44 = .ok (.aload_n 0, 1) := by decide +kernel
theorem dX2_readTree_45 : decode cX2_readTree 45 = .ok (.invokevirtual 128, 3) := by decide +kernel
theorem dX2_readTree_48 : decode cX2_readTree 48 = .ok (.aload_n 0, 1) := by decide +kernel
theorem dX2_readTree_49 : decode cX2_readTree 49 = .ok (.dup, 1) := by decide +kernel
theorem dX2_readTree_50 : decode cX2_readTree 50 = .ok (.getfield 49, 3) := by decide +kernel
theorem dX2_readTree_53 : decode cX2_readTree 53 = .ok (.lconst 1, 1) := by decide +kernel
theorem dX2_readTree_54 : decode cX2_readTree 54 = .ok (.iload_n 1, 1) := by decide +kernel
theorem dX2_readTree_55 : decode cX2_readTree 55 = .ok (.lshl, 1) := by decide +kernel
theorem dX2_readTree_56 : decode cX2_readTree 56 = .ok (.lor, 1) := by decide +kernel
theorem dX2_readTree_57 : decode cX2_readTree 57 = .ok (.putfield 49, 3) := by decide +kernel
theorem dX2_readTree_60 : decode cX2_readTree 60 = .ok (.aload_n 0, 1) := by decide +kernel
theorem dX2_readTree_61 : decode cX2_readTree 61 = .ok (.getfield 19, 3) := by decide +kernel
theorem dX2_readTree_64 : decode cX2_readTree 64 = .ok (.getfield 77, 3) := by decide +kernel
theorem dX2_readTree_67 : decode cX2_readTree 67 = .ok (.iconst 0, 1) := by decide +kernel
theorem dX2_readTree_68 : decode cX2_readTree 68 = .ok (.aload_n 0, 1) := by decide +kernel
theorem dX2_readTree_69 : decode cX2_readTree 69 = .ok (.getfield 42, 3) := by decide +kernel
theorem dX2_readTree_72 : decode cX2_readTree 72 = .ok (.iadd, 1) := by decide +kernel
theorem dX2_readTree_73 : decode cX2_readTree 73 = .ok (.iload_n 1, 1) := by decide +kernel
theorem dX2_readTree_74 : decode cX2_readTree 74 = .ok (.iastore, 1) := by decide +kernel
theorem dX2_readTree_75 : decode cX2_readTree 75 = .ok (.aload_n 0, 1) := by decide +kernel
theorem dX2_readTree_76 : decode cX2_readTree 76 = .ok (.getfield 19, 3) := by decide +kernel
theorem dX2_readTree_79 : decode cX2_readTree 79 = .ok (.getfield 77, 3) := by decide +kernel
theorem dX2_readTree_82 : decode cX2_readTree 82 = .ok (.bipush 12, 2) := by decide +kernel
theorem dX2_readTree_84 : decode cX2_readTree 84 = .ok (.aload_n 0, 1) := by decide +kernel
theorem dX2_readTree_85 : decode cX2_readTree 85 = .ok (.getfield 42, 3) := by decide +kernel
theorem dX2_readTree_88 : decode cX2_readTree 88 = .ok (.iadd, 1) := by decide +kernel
theorem dX2_readTree_89 : decode cX2_readTree 89 = .ok (.iload_n 2, 1) := by decide +kernel
theorem dX2_readTree_90 : decode cX2_readTree 90 = .ok (.iastore, 1) := by decide +kernel
theorem dX2_readTree_91 : decode cX2_readTree 91 = .ok (.aload_n 0, 1) := by decide +kernel
theorem dX2_readTree_92 : decode cX2_readTree 92 = .ok (.getfield 19, 3) := by decide +kernel
theorem dX2_readTree_95 : decode cX2_readTree 95 = .ok (.getfield 77, 3) := by decide +kernel
theorem dX2_readTree_98 : decode cX2_readTree 98 = .ok (.bipush 24, 2) := by decide +kernel
theorem dX2_readTree_100 : decode cX2_readTree 100 = .ok (.aload_n 0, 1) := by decide +kernel
theorem dX2_readTree_101 : decode cX2_readTree 101 = .ok (.getfield 42, 3) := by decide +kernel
theorem dX2_readTree_104 : decode cX2_readTree 104 = .ok (.iadd, 1) := by decide +kernel
theorem dX2_readTree_105 : decode cX2_readTree 105 = .ok (.iload_n 3, 1) := by decide +kernel
theorem dX2_readTree_106 : decode cX2_readTree 106 = .ok (.iastore, 1) := by decide +kernel
theorem dX2_readTree_107 : decode cX2_readTree 107 = .ok (.aload_n 0, 1) := by decide +kernel
theorem dX2_readTree_108 : decode cX2_readTree 108 = .ok (.dup, 1) := by decide +kernel
theorem dX2_readTree_109 : decode cX2_readTree 109 = .ok (.getfield 42, 3) := by decide +kernel
theorem dX2_readTree_112 : decode cX2_readTree 112 = .ok (.iconst 1, 1) := by decide +kernel
theorem dX2_readTree_113 : decode cX2_readTree 113 = .ok (.iadd, 1) := by decide +kernel
theorem dX2_readTree_114 : decode cX2_readTree 114 = .ok (.putfield 42, 3) := by decide +kernel
theorem dX2_readTree_117 : decode cX2_readTree 117 = .ok (.return_, 1) := by decide +kernel
theorem dX2_readHouse_0 : decode cX2_readHouse 0 = .ok (.aload_n 0, 1) := by decide +kernel
theorem dX2_readHouse_1 : decode cX2_readHouse 1 = .ok (.getfield 19, 3) := by decide +kernel
theorem dX2_readHouse_4 : decode cX2_readHouse 4 = .ok (.getfield 167, 3) := by decide +kernel
theorem dX2_readHouse_7 : decode cX2_readHouse 7 = .ok (.istore_n 2, 1) := by decide +kernel
theorem dX2_readHouse_8 : decode cX2_readHouse 8 = .ok (.iload_n 2, 1) := by decide +kernel
theorem dX2_readHouse_9 : decode cX2_readHouse 9 = .ok (.bipush 6, 2) := by decide +kernel
theorem dX2_readHouse_11 : decode cX2_readHouse 11 = .ok (.if_icmp .lt 9, 3) := by decide +kernel
theorem dX2_readHouse_14 : decode cX2_readHouse 14 = .ok (.aload_n 0, 1) := by decide +kernel
theorem dX2_readHouse_15 : decode cX2_readHouse 15 = .ok (.iconst 2, 1) := by decide +kernel
theorem dX2_readHouse_16 : decode cX2_readHouse 16 = .ok (.invokevirtual 108, 3) := by decide +kernel
theorem dX2_readHouse_19 : decode cX2_readHouse 19 = .ok (.return_, 1) := by decide +kernel
theorem dX2_readHouse_20 : decode cX2_readHouse 20 = .ok (.aload_n 0, 1) := by decide +kernel
theorem dX2_readHouse_21 : decode cX2_readHouse 21 = .ok (.invokevirtual 60, 3) := by decide +kernel
theorem dX2_readHouse_24 : decode cX2_readHouse 24 = .ok (.aload_n 0, 1) := by decide +kernel
theorem dX2_readHouse_25 : decode cX2_readHouse 25 = .ok (.aload_n 0, 1) := by decide +kernel
theorem dX2_readHouse_26 : decode cX2_readHouse 26 = .ok (.getfield 49, 3) := by decide +kernel
theorem dX2_readHouse_29 : decode cX2_readHouse 29 = .ok (.invokevirtual 160, 3) := by decide +kernel
theorem dX2_readHouse_32 : decode cX2_readHouse 32 = .ok (.istore_n 3, 1) := by decide +kernel
theorem dX2_readHouse_33 : decode cX2_readHouse 33 = .ok (.aload_n 0, 1) := by decide +kernel
theorem dX2_readHouse_34 : decode cX2_readHouse 34 = .ok (.iconst 0, 1) := by decide +kernel
theorem dX2_readHouse_35 : decode cX2_readHouse 35 = .ok (.sipush 999, 3) := by decide +kernel
theorem dX2_readHouse_38 : decode cX2_readHouse 38 = .ok (.invokevirtual 125, 3) := by decide +kernel
theorem dX2_readHouse_41 : decode cX2_readHouse 41 = .ok (.istore 4, 2) := by decide +kernel
theorem dX2_readHouse_43 : decode cX2_readHouse 43 = .ok (.aload_n 0, 1) := by decide +kernel
theorem dX2_readHouse_44 : decode cX2_readHouse 44 = .ok (.invokevirtual 128, 3) := by decide +kernel
theorem dX2_readHouse_47 : decode cX2_readHouse 47 = .ok (.aload_n 0, 1) := by decide +kernel
theorem dX2_readHouse_48 : decode cX2_readHouse 48 = .ok (.dup, 1) := by decide +kernel
theorem dX2_readHouse_49 : decode cX2_readHouse 49 = .ok (.getfield 49, 3) := by decide +kernel
theorem dX2_readHouse_52 : decode cX2_readHouse 52 = .ok (.lconst 1, 1) := by decide +kernel
theorem dX2_readHouse_53 : decode cX2_readHouse 53 = .ok (.iload_n 3, 1) := by decide +kernel
theorem dX2_readHouse_54 : decode cX2_readHouse 54 = .ok (.lshl, 1) := by decide +kernel
theorem dX2_readHouse_55 : decode cX2_readHouse 55 = .ok (.lor, 1) := by decide +kernel
theorem dX2_readHouse_56 : decode cX2_readHouse 56 = .ok (.putfield 49, 3) := by decide +kernel
theorem dX2_readHouse_59 : decode cX2_readHouse 59 = .ok (.aload_n 0, 1) := by decide +kernel
theorem dX2_readHouse_60 : decode cX2_readHouse 60 = .ok (.getfield 19, 3) := by decide +kernel
theorem dX2_readHouse_63 : decode cX2_readHouse 63 = .ok (.getfield 170, 3) := by decide +kernel
theorem dX2_readHouse_66 : decode cX2_readHouse 66 = .ok (.iload_n 2, 1) := by decide +kernel
theorem dX2_readHouse_67 : decode cX2_readHouse 67 = .ok (.iload_n 3, 1) := by decide +kernel
theorem dX2_readHouse_68 : decode cX2_readHouse 68 = .ok (.iastore, 1) := by decide +kernel
theorem dX2_readHouse_69 : decode cX2_readHouse 69 = .ok (.aload_n 0, 1) := by decide +kernel
theorem dX2_readHouse_70 : decode cX2_readHouse 70 = .ok (.getfield 19, 3) := by decide +kernel
theorem dX2_readHouse_73 : decode cX2_readHouse 73 = .ok (.getfield 173, 3) := by decide +kernel
theorem dX2_readHouse_76 : decode cX2_readHouse 76 = .ok (.iload_n 2, 1) := by decide +kernel
theorem dX2_readHouse_77 : decode cX2_readHouse 77 = .ok (.iload_n 1, 1) := by decide +kernel
theorem dX2_readHouse_78 : decode cX2_readHouse 78 = .ok (.iastore, 1) := by decide +kernel
theorem dX2_readHouse_79 : decode cX2_readHouse 79 = .ok (.aload_n 0, 1) := by decide +kernel
theorem dX2_readHouse_80 : decode cX2_readHouse 80 = .ok (.getfield 19, 3) := by decide +kernel
theorem dX2_readHouse_83 : decode cX2_readHouse 83 = .ok (.getfield 77, 3) := by decide +kernel
theorem dX2_readHouse_86 : decode cX2_readHouse 86 = .ok (.bipush 36, 2) := by decide +kernel
theorem dX2_readHouse_88 : decode cX2_readHouse 88 = .ok (.iload_n 2, 1) := by decide +kernel
theorem dX2_readHouse_89 : decode cX2_readHouse 89 = .ok (.iadd, 1) := by decide +kernel
theorem dX2_readHouse_90 : decode cX2_readHouse 90 = .ok (.iload 4, 2) := by decide +kernel
theorem dX2_readHouse_92 : decode cX2_readHouse 92 = .ok (.iastore, 1) := by decide +kernel
theorem dX2_readHouse_93 : decode cX2_readHouse 93 = .ok (.aload_n 0, 1) := by decide +kernel
theorem dX2_readHouse_94 : decode cX2_readHouse 94 = .ok (.getfield 19, 3) := by decide +kernel
theorem dX2_readHouse_97 : decode cX2_readHouse 97 = .ok (.iload_n 2, 1) := by decide +kernel
theorem dX2_readHouse_98 : decode cX2_readHouse 98 = .ok (.iconst 1, 1) := by decide +kernel
theorem dX2_readHouse_99 : decode cX2_readHouse 99 = .ok (.iadd, 1) := by decide +kernel
theorem dX2_readHouse_100 : decode cX2_readHouse 100 = .ok (.putfield 167, 3) := by decide +kernel
theorem dX2_readHouse_103 : decode cX2_readHouse 103 = .ok (.return_, 1) := by decide +kernel
theorem dX2_readFogs_0 : decode cX2_readFogs 0 = .ok (.aload_n 0, 1) := by decide +kernel
theorem dX2_readFogs_1 : decode cX2_readFogs 1 = .ok (.getfield 19, 3) := by decide +kernel
theorem dX2_readFogs_4 : decode cX2_readFogs 4 = .ok (.getfield 176, 3) := by decide +kernel
theorem dX2_readFogs_7 : decode cX2_readFogs 7 = .ok (.ifCond .le 9, 3) := by decide +kernel
theorem dX2_readFogs_10 : decode cX2_readFogs 10 = .ok (.aload_n 0, 1) := by decide +kernel
theorem dX2_readFogs_11 : decode cX2_readFogs 11 = .ok (.iconst 5, 1) := by decide +kernel
theorem dX2_readFogs_12 : decode cX2_readFogs 12 = .ok (.invokevirtual 108, 3) := by decide +kernel
theorem dX2_readFogs_15 : decode cX2_readFogs 15 = .ok (.return_, 1) := by decide +kernel
theorem dX2_readFogs_16 : decode cX2_readFogs 16 = .ok (.aload_n 0, 1) := by decide +kernel
theorem dX2_readFogs_17 : decode cX2_readFogs 17 = .ok (.invokevirtual 60, 3) := by decide +kernel
theorem dX2_readFogs_20 : decode cX2_readFogs 20 = .ok (.aload_n 0, 1) := by decide +kernel
theorem dX2_readFogs_21 : decode cX2_readFogs 21 = .ok (.getfield 19, 3) := by decide +kernel
theorem dX2_readFogs_24 : decode cX2_readFogs 24 = .ok (.getfield 179, 3) := by decide +kernel
theorem dX2_readFogs_27 : decode cX2_readFogs 27 = .ok (.iconst 0, 1) := by decide +kernel
theorem dX2_readFogs_28 : decode cX2_readFogs 28 = .ok (.aload_n 0, 1) := by decide +kernel
theorem dX2_readFogs_29 : decode cX2_readFogs 29 = .ok (.iconst 1, 1) := by decide +kernel
theorem dX2_readFogs_30 : decode cX2_readFogs 30 = .ok (.bipush 9, 2) := by decide +kernel
theorem dX2_readFogs_32 : decode cX2_readFogs 32 = .ok (.invokevirtual 125, 3) := by decide +kernel
theorem dX2_readFogs_35 : decode cX2_readFogs 35 = .ok (.iastore, 1) := by decide +kernel
theorem dX2_readFogs_36 : decode cX2_readFogs 36 = .ok (.aload_n 0, 1) := by decide +kernel
theorem dX2_readFogs_37 : decode cX2_readFogs 37 = .ok (.getfield 19, 3) := by decide +kernel
theorem dX2_readFogs_40 : decode cX2_readFogs 40 = .ok (.iconst 1, 1) := by decide +kernel
theorem dX2_readFogs_41 : decode cX2_readFogs 41 = .ok (.putfield 176, 3) := by decide +kernel
theorem dX2_readFogs_44 : decode cX2_readFogs 44 = .ok (.iconst 1, 1) := by decide +kernel
theorem dX2_readFogs_45 : decode cX2_readFogs 45 = .ok (.istore_n 1, 1) := by decide +kernel
theorem dX2_readFogs_46 : decode cX2_readFogs 46 = .ok (.iload_n 1, 1) := by decide +kernel
theorem dX2_readFogs_47 : decode cX2_readFogs 47 = .ok (.bipush 8, 2) := by decide +kernel
theorem dX2_readFogs_49 : decode cX2_readFogs 49 = .ok (.if_icmp .gt 55, 3) := by decide +kernel
theorem dX2_readFogs_52 : decode cX2_readFogs 52 = .ok (.aload_n 0, 1) := by decide +kernel
theorem dX2_readFogs_53 : decode cX2_readFogs 53 = .ok (.getfield 71, 3) := by decide +kernel
theorem dX2_readFogs_56 : decode cX2_readFogs 56 = .ok (.iconst 2, 1) := by decide +kernel
theorem dX2_readFogs_57 : decode cX2_readFogs 57 = .ok (.if_icmp .ne 47, 3) := by decide +kernel
theorem dX2_readFogs_60 : decode cX2_readFogs 60 = .ok (.iload_n 1, 1) := by decide +kernel
theorem dX2_readFogs_61 : decode cX2_readFogs 61 = .ok (.bipush 8, 2) := by decide +kernel
theorem dX2_readFogs_63 : decode cX2_readFogs 63 = .ok (.if_icmp .ne 9, 3) := by decide +kernel
theorem dX2_readFogs_66 : decode cX2_readFogs 66 = .ok (.aload_n 0, 1) := by decide +kernel
theorem dX2_readFogs_67 : decode cX2_readFogs 67 = .ok (.iconst 2, 1) := by decide +kernel
theorem dX2_readFogs_68 : decode cX2_readFogs 68 = .ok (.invokevirtual 108, 3) := by decide +kernel
theorem dX2_readFogs_71 : decode cX2_readFogs 71 = .ok (.return_, 1) := by decide +kernel
theorem dX2_readFogs_72 : decode cX2_readFogs 72 = .ok (.aload_n 0, 1) := by decide +kernel
theorem dX2_readFogs_73 : decode cX2_readFogs 73 = .ok (.getfield 19, 3) := by decide +kernel
theorem dX2_readFogs_76 : decode cX2_readFogs 76 = .ok (.getfield 179, 3) := by decide +kernel
theorem dX2_readFogs_79 : decode cX2_readFogs 79 = .ok (.iload_n 1, 1) := by decide +kernel
theorem dX2_readFogs_80 : decode cX2_readFogs 80 = .ok (.aload_n 0, 1) := by decide +kernel
theorem dX2_readFogs_81 : decode cX2_readFogs 81 = .ok (.iconst 1, 1) := by decide +kernel
theorem dX2_readFogs_82 : decode cX2_readFogs 82 = .ok (.bipush 9, 2) := by decide +kernel
theorem dX2_readFogs_84 : decode cX2_readFogs 84 = .ok (.invokevirtual 125, 3) := by decide +kernel
theorem dX2_readFogs_87 : decode cX2_readFogs 87 = .ok (.iastore, 1) := by decide +kernel
theorem dX2_readFogs_88 : decode cX2_readFogs 88 = .ok (.aload_n 0, 1) := by decide +kernel
theorem dX2_readFogs_89 : decode cX2_readFogs 89 = .ok (.getfield 19, 3) := by decide +kernel
theorem dX2_readFogs_92 : decode cX2_readFogs 92 = .ok (.iload_n 1, 1) := by decide +kernel
theorem dX2_readFogs_93 : decode cX2_readFogs 93 = .ok (.iconst 1, 1) := by decide +kernel
theorem dX2_readFogs_94 : decode cX2_readFogs 94 = .ok (.iadd, 1) := by decide +kernel
theorem dX2_readFogs_95 : decode cX2_readFogs 95 = .ok (.putfield 176, 3) := by decide +kernel
theorem dX2_readFogs_98 : decode cX2_readFogs 98 = .ok (.iinc 1 1, 3) := by decide +kernel
theorem dX2_readFogs_101 : decode cX2_readFogs 101 = .ok (.goto (-55), 3) := by decide +kernel
theorem dX2_readFogs_104 : decode cX2_readFogs 104 = .ok (.aload_n 0, 1) := by decide +kernel
theorem dX2_readFogs_105 : decode cX2_readFogs 105 = .ok (.invokevirtual 128, 3) := by decide +kernel
theorem dX2_readFogs_108 : decode cX2_readFogs 108 = .ok (.return_, 1) := by decide +kernel
theorem dX2_readLaw_0 : decode cX2_readLaw 0 = .ok (.aload_n 0, 1) := by decide +kernel
theorem dX2_readLaw_1 : decode cX2_readLaw 1 = .ok (.getfield 19, 3) := by decide +kernel
theorem dX2_readLaw_4 : decode cX2_readLaw 4 = .ok (.getfield 80, 3) := by decide +kernel
theorem dX2_readLaw_7 : decode cX2_readLaw 7 = .ok (.iconst 4, 1) := by decide +kernel
theorem dX2_readLaw_8 : decode cX2_readLaw 8 = .ok (.if_icmp .lt 9, 3) := by decide +kernel
theorem dX2_readLaw_11 : decode cX2_readLaw 11 = .ok (.aload_n 0, 1) := by decide +kernel
theorem dX2_readLaw_12 : decode cX2_readLaw 12 = .ok (.iconst 2, 1) := by decide +kernel
theorem dX2_readLaw_13 : decode cX2_readLaw 13 = .ok (.invokevirtual 108, 3) := by decide +kernel
theorem dX2_readLaw_16 : decode cX2_readLaw 16 = .ok (.return_, 1) := by decide +kernel
theorem dX2_readLaw_17 : decode cX2_readLaw 17 = .ok (.aload_n 0, 1) := by decide +kernel
theorem dX2_readLaw_18 : decode cX2_readLaw 18 = .ok (.invokevirtual 60, 3) := by decide +kernel
theorem dX2_readLaw_21 : decode cX2_readLaw 21 = .ok (.aload_n 0, 1) := by decide +kernel
theorem dX2_readLaw_22 : decode cX2_readLaw 22 = .ok (.iconst 0, 1) := by decide +kernel
theorem dX2_readLaw_23 : decode cX2_readLaw 23 = .ok (.putfield 181, 3) := by decide +kernel
theorem dX2_readLaw_26 : decode cX2_readLaw 26 = .ok (.aload_n 0, 1) := by decide +kernel
theorem dX2_readLaw_27 : decode cX2_readLaw 27 = .ok (.iconst 0, 1) := by decide +kernel
theorem dX2_readLaw_28 : decode cX2_readLaw 28 = .ok (.putfield 184, 3) := by decide +kernel
theorem dX2_readLaw_31 : decode cX2_readLaw 31 = .ok (.aload_n 0, 1) := by decide +kernel
theorem dX2_readLaw_32 : decode cX2_readLaw 32 = .ok (.iconst 0, 1) := by decide +kernel
theorem dX2_readLaw_33 : decode cX2_readLaw 33 = .ok (.putfield 187, 3) := by decide +kernel
theorem dX2_readLaw_36 : decode cX2_readLaw 36 = .ok (.iconst 0, 1) := by decide +kernel
theorem dX2_readLaw_37 : decode cX2_readLaw 37 = .ok (.istore_n 1, 1) := by decide +kernel
theorem dX2_readLaw_38 : decode cX2_readLaw 38 = .ok (.iconst 0, 1) := by decide +kernel
theorem dX2_readLaw_39 : decode cX2_readLaw 39 = .ok (.istore_n 2, 1) := by decide +kernel
theorem dX2_readLaw_40 : decode cX2_readLaw 40 = .ok (.iload_n 2, 1) := by decide +kernel
theorem dX2_readLaw_41 : decode cX2_readLaw 41 = .ok (.aload_n 0, 1) := by decide +kernel
theorem dX2_readLaw_42 : decode cX2_readLaw 42 = .ok (.getfield 29, 3) := by decide +kernel
theorem dX2_readLaw_45 : decode cX2_readLaw 45 = .ok (.if_icmp .gt 66, 3) := by decide +kernel
theorem dX2_readLaw_48 : decode cX2_readLaw 48 = .ok (.aload_n 0, 1) := by decide +kernel
theorem dX2_readLaw_49 : decode cX2_readLaw 49 = .ok (.getfield 36, 3) := by decide +kernel
theorem dX2_readLaw_52 : decode cX2_readLaw 52 = .ok (.ifCond .ne 59, 3) := by decide +kernel
theorem dX2_readLaw_55 : decode cX2_readLaw 55 = .ok (.iload_n 1, 1) := by decide +kernel
theorem dX2_readLaw_56 : decode cX2_readLaw 56 = .ok (.iconst 4, 1) := by decide +kernel
theorem dX2_readLaw_57 : decode cX2_readLaw 57 = .ok (.if_icmp .eq 54, 3) := by decide +kernel
theorem dX2_readLaw_60 : decode cX2_readLaw 60 = .ok (.aload_n 0, 1) := by decide +kernel
theorem dX2_readLaw_61 : decode cX2_readLaw 61 = .ok (.aload_n 0, 1) := by decide +kernel
theorem dX2_readLaw_62 : decode cX2_readLaw 62 = .ok (.ldc 190, 2) := by decide +kernel
theorem dX2_readLaw_64 : decode cX2_readLaw 64 = .ok (.invokevirtual 64, 3) := by decide +kernel
theorem dX2_readLaw_67 : decode cX2_readLaw 67 = .ok (.ifCond .eq 12, 3) := by decide +kernel
theorem dX2_readLaw_70 : decode cX2_readLaw 70 = .ok (.aload_n 0, 1) := by decide +kernel
theorem dX2_readLaw_71 : decode cX2_readLaw 71 = .ok (.getfield 187, 3) := by decide +kernel
theorem dX2_readLaw_74 : decode cX2_readLaw 74 = .ok (.iconst 1, 1) := by decide +kernel
theorem dX2_readLaw_75 : decode cX2_readLaw 75 = .ok (.iadd, 1) := by decide +kernel
theorem dX2_readLaw_76 : decode cX2_readLaw 76 = .ok (.goto 4, 3) := by decide +kernel
theorem dX2_readLaw_79 : decode cX2_readLaw 79 = .ok (.iconst 0, 1) := by decide +kernel
theorem dX2_readLaw_80 : decode cX2_readLaw 80 = .ok (.putfield 187, 3) := by decide +kernel
theorem dX2_readLaw_83 : decode cX2_readLaw 83 = .ok (.iload_n 1, 1) := by decide +kernel
theorem dX2_readLaw_84 : decode cX2_readLaw 84 = .ok (.iconst 3, 1) := by decide +kernel
theorem dX2_readLaw_85 : decode cX2_readLaw 85 = .ok (.if_icmp .ne 10, 3) := by decide +kernel
theorem dX2_readLaw_88 : decode cX2_readLaw 88 = .ok (.aload_n 0, 1) := by decide +kernel
theorem dX2_readLaw_89 : decode cX2_readLaw 89 = .ok (.invokevirtual 192, 3) := by decide +kernel
theorem dX2_readLaw_92 : decode cX2_readLaw 92 = .ok (.goto 8, 3) := by decide +kernel
theorem dX2_readLaw_95 : decode cX2_readLaw 95 = .ok (.aload_n 0, 1) := by decide +kernel
theorem dX2_readLaw_96 : decode cX2_readLaw 96 = .ok (.iload_n 1, 1) := by decide +kernel
theorem dX2_readLaw_97 : decode cX2_readLaw 97 = .ok (.invokevirtual 195, 3) := by decide +kernel
theorem dX2_readLaw_100 : decode cX2_readLaw 100 = .ok (.istore_n 1, 1) := by decide +kernel
theorem dX2_readLaw_101 : decode cX2_readLaw 101 = .ok (.aload_n 0, 1) := by decide +kernel
theorem dX2_readLaw_102 : decode cX2_readLaw 102 = .ok (.invokevirtual 60, 3) := by decide +kernel
theorem dX2_readLaw_105 : decode cX2_readLaw 105 = .ok (.iinc 2 1, 3) := by decide +kernel
theorem dX2_readLaw_108 : decode cX2_readLaw 108 = .ok (.goto (-68), 3) := by decide +kernel
theorem dX2_readLaw_111 : decode cX2_readLaw 111 = .ok (.aload_n 0, 1) := by decide +kernel
theorem dX2_readLaw_112 : decode cX2_readLaw 112 = .ok (.getfield 19, 3) := by decide +kernel
theorem dX2_readLaw_115 : decode cX2_readLaw 115 = .ok (.getfield 199, 3) := by decide +kernel
theorem dX2_readLaw_118 : decode cX2_readLaw 118 = .ok (.aload_n 0, 1) := by decide +kernel
theorem dX2_readLaw_119 : decode cX2_readLaw 119 = .ok (.getfield 19, 3) := by decide +kernel
theorem dX2_readLaw_122 : decode cX2_readLaw 122 = .ok (.getfield 80, 3) := by decide +kernel
theorem dX2_readLaw_125 : decode cX2_readLaw 125 = .ok (.aload_n 0, 1) := by decide +kernel
theorem dX2_readLaw_126 : decode cX2_readLaw 126 = .ok (.getfield 52, 3) := by decide +kernel
theorem dX2_readLaw_129 : decode cX2_readLaw 129 = .ok (.iastore, 1) := by decide +kernel
theorem dX2_readLaw_130 : decode cX2_readLaw 130 = .ok (.aload_n 0, 1) := by decide +kernel
theorem dX2_readLaw_131 : decode cX2_readLaw 131 = .ok (.getfield 19, 3) := by decide +kernel
theorem dX2_readLaw_134 : decode cX2_readLaw 134 = .ok (.dup, 1) := by decide +kernel
theorem dX2_readLaw_135 : decode cX2_readLaw 135 = .ok (.getfield 80, 3) := by decide +kernel
theorem dX2_readLaw_138 : decode cX2_readLaw 138 = .ok (.iconst 1, 1) := by decide +kernel
theorem dX2_readLaw_139 : decode cX2_readLaw 139 = .ok (.iadd, 1) := by decide +kernel
theorem dX2_readLaw_140 : decode cX2_readLaw 140 = .ok (.putfield 80, 3) := by decide +kernel
theorem dX2_readLaw_143 : decode cX2_readLaw 143 = .ok (.return_, 1) := by decide +kernel
theorem dX2_readPart_0 : decode cX2_readPart 0 = .ok (.aload_n 0, 1) := by decide +kernel
theorem dX2_readPart_1 : decode cX2_readPart 1 = .ok (.getfield 71, 3) := by decide +kernel
theorem dX2_readPart_4 : decode cX2_readPart 4 = .ok (.iconst 2, 1) := by decide +kernel
theorem dX2_readPart_5 : decode cX2_readPart 5 = .ok (.if_icmp .eq 20, 3) := by decide +kernel
theorem dX2_readPart_8 : decode cX2_readPart 8 = .ok (.aload_n 0, 1) := by decide +kernel
theorem dX2_readPart_9 : decode cX2_readPart 9 = .ok (.getfield 71, 3) := by decide +kernel
theorem dX2_readPart_12 : decode cX2_readPart 12 = .ok (.iconst 1, 1) := by decide +kernel
theorem dX2_readPart_13 : decode cX2_readPart 13 = .ok (.if_icmp .eq 12, 3) := by decide +kernel
theorem dX2_readPart_16 : decode cX2_readPart 16 = .ok (.aload_n 0, 1) := by decide +kernel
theorem dX2_readPart_17 : decode cX2_readPart 17 = .ok (.getfield 71, 3) := by decide +kernel
theorem dX2_readPart_20 : decode cX2_readPart 20 = .ok (.bipush 40, 2) := by decide +kernel
theorem dX2_readPart_22 : decode cX2_readPart 22 = .ok (.if_icmp .ne 7, 3) := by decide +kernel
theorem dX2_readPart_25 : decode cX2_readPart 25 = .ok (.iconst 1, 1) := by decide +kernel
theorem dX2_readPart_26 : decode cX2_readPart 26 = .ok (.goto 4, 3) := by decide +kernel
theorem dX2_readPart_29 : decode cX2_readPart 29 = .ok (.iconst 0, 1) := by decide +kernel
theorem dX2_readPart_30 : decode cX2_readPart 30 = .ok (.istore_n 2, 1) := by decide +kernel
theorem dX2_readPart_31 : decode cX2_readPart 31 = .ok (.iload_n 2, 1) := by decide +kernel
theorem dX2_readPart_32 : decode cX2_readPart 32 = .ok (.ifCond .ne 10, 3) := by decide +kernel
theorem dX2_readPart_35 : decode cX2_readPart 35 = .ok (.aload_n 0, 1) := by decide +kernel
theorem dX2_readPart_36 : decode cX2_readPart 36 = .ok (.iconst 1, 1) := by decide +kernel
theorem dX2_readPart_37 : decode cX2_readPart 37 = .ok (.invokevirtual 108, 3) := by decide +kernel
theorem dX2_readPart_40 : decode cX2_readPart 40 = .ok (.iconst 4, 1) := by decide +kernel
theorem dX2_readPart_41 : decode cX2_readPart 41 = .ok (.ireturn, 1) := by decide +kernel
theorem dX2_readPart_42 : decode cX2_readPart 42 = .ok (.iload_n 1, 1) := by decide +kernel
theorem dX2_readPart_43 : decode cX2_readPart 43 = .ok (.ifCond .ne 12, 3) := by decide +kernel
theorem dX2_readPart_46 : decode cX2_readPart 46 = .ok (.aload_n 0, 1) := by decide +kernel
theorem dX2_readPart_47 : decode cX2_readPart 47 = .ok (.getfield 184, 3) := by decide +kernel
theorem dX2_readPart_50 : decode cX2_readPart 50 = .ok (.bipush 6, 2) := by decide +kernel
theorem dX2_readPart_52 : decode cX2_readPart 52 = .ok (.if_icmp .ge 17, 3) := by decide +kernel
theorem dX2_readPart_55 : decode cX2_readPart 55 = .ok (.aload_n 0, 1) := by decide +kernel
theorem dX2_readPart_56 : decode cX2_readPart 56 = .ok (.getfield 187, 3) := by decide +kernel
theorem dX2_readPart_59 : decode cX2_readPart 59 = .ok (.bipush 6, 2) := by decide +kernel
theorem dX2_readPart_61 : decode cX2_readPart 61 = .ok (.if_icmp .le 15, 3) := by decide +kernel
theorem dX2_readPart_64 : decode cX2_readPart 64 = .ok (.iload_n 1, 1) := by decide +kernel
theorem dX2_readPart_65 : decode cX2_readPart 65 = .ok (.iconst 2, 1) := by decide +kernel
theorem dX2_readPart_66 : decode cX2_readPart 66 = .ok (.if_icmp .eq 10, 3) := by decide +kernel
theorem dX2_readPart_69 : decode cX2_readPart 69 = .ok (.aload_n 0, 1) := by decide +kernel
theorem dX2_readPart_70 : decode cX2_readPart 70 = .ok (.iconst 2, 1) := by decide +kernel
theorem dX2_readPart_71 : decode cX2_readPart 71 = .ok (.invokevirtual 108, 3) := by decide +kernel
theorem dX2_readPart_74 : decode cX2_readPart 74 = .ok (.iconst 4, 1) := by decide +kernel
theorem dX2_readPart_75 : decode cX2_readPart 75 = .ok (.ireturn, 1) := by decide +kernel
theorem dX2_readPart_76 : decode cX2_readPart 76 = .ok (.aload_n 0, 1) := by decide +kernel
theorem dX2_readPart_77 : decode cX2_readPart 77 = .ok (.getfield 71, 3) := by decide +kernel
theorem dX2_readPart_80 : decode cX2_readPart 80 = .ok (.bipush 40, 2) := by decide +kernel
theorem dX2_readPart_82 : decode cX2_readPart 82 = .ok (.if_icmp .ne 20, 3) := by decide +kernel
theorem dX2_readPart_85 : decode cX2_readPart 85 = .ok (.aload_n 0, 1) := by decide +kernel
theorem dX2_readPart_86 : decode cX2_readPart 86 = .ok (.dup, 1) := by decide +kernel
theorem dX2_readPart_87 : decode cX2_readPart 87 = .ok (.getfield 184, 3) := by decide +kernel
theorem dX2_readPart_90 : decode cX2_readPart 90 = .ok (.iconst 1, 1) := by decide +kernel
theorem dX2_readPart_91 : decode cX2_readPart 91 = .ok (.iadd, 1) := by decide +kernel
theorem dX2_readPart_92 : decode cX2_readPart 92 = .ok (.putfield 184, 3) := by decide +kernel
theorem dX2_readPart_95 : decode cX2_readPart 95 = .ok (.aload_n 0, 1) := by decide +kernel
theorem dX2_readPart_96 : decode cX2_readPart 96 = .ok (.iconst 0, 1) := by decide +kernel
theorem dX2_readPart_97 : decode cX2_readPart 97 = .ok (.invokevirtual 202, 3) := by decide +kernel
theorem dX2_readPart_100 : decode cX2_readPart 100 = .ok (.iconst 0, 1) := by decide +kernel
theorem dX2_readPart_101 : decode cX2_readPart 101 = .ok (.ireturn, 1) := by decide +kernel
theorem dX2_readPart_102 : decode cX2_readPart 102 = .ok (.aload_n 0, 1) := by decide +kernel
theorem dX2_readPart_103 : decode cX2_readPart 103 = .ok (.getfield 71, 3) := by decide +kernel
theorem dX2_readPart_106 : decode cX2_readPart 106 = .ok (.iconst 2, 1) := by decide +kernel
theorem dX2_readPart_107 : decode cX2_readPart 107 = .ok (.if_icmp .ne 20, 3) := by decide +kernel
theorem dX2_readPart_110 : decode cX2_readPart 110 = .ok (.aload_n 0, 1) := by decide +kernel
theorem dX2_readPart_111 : decode cX2_readPart 111 = .ok (.bipush 100, 2) := by decide +kernel
theorem dX2_readPart_113 : decode cX2_readPart 113 = .ok (.aload_n 0, 1) := by decide +kernel
theorem dX2_readPart_114 : decode cX2_readPart 114 = .ok (.iconst 0, 1) := by decide +kernel
theorem dX2_readPart_115 : decode cX2_readPart 115 = .ok (.sipush 9999, 3) := by decide +kernel
theorem dX2_readPart_118 : decode cX2_readPart 118 = .ok (.invokevirtual 112, 3) := by decide +kernel
theorem dX2_readPart_121 : decode cX2_readPart 121 = .ok (.iadd, 1) := by decide +kernel
theorem dX2_readPart_122 : decode cX2_readPart 122 = .ok (.invokevirtual 205, 3) := by decide +kernel
theorem dX2_readPart_125 : decode cX2_readPart 125 = .ok (.iconst 3, 1) := by decide +kernel
theorem dX2_readPart_126 : decode cX2_readPart 126 = .ok (.ireturn, 1) := by decide +kernel
theorem dX2_readPart_127 : decode cX2_readPart 127 = .ok (.aload_n 0, 1) := by decide +kernel
theorem dX2_readPart_128 : decode cX2_readPart 128 = .ok (.getfield 187, 3) := by decide +kernel
theorem dX2_readPart_131 : decode cX2_readPart 131 = .ok (.ifCond .le 15, 3) := by decide +kernel
theorem dX2_readPart_134 : decode cX2_readPart 134 = .ok (.iload_n 1, 1) := by decide +kernel
theorem dX2_readPart_135 : decode cX2_readPart 135 = .ok (.iconst 2, 1) := by decide +kernel
theorem dX2_readPart_136 : decode cX2_readPart 136 = .ok (.if_icmp .eq 10, 3) := by decide +kernel
theorem dX2_readPart_139 : decode cX2_readPart 139 = .ok (.aload_n 0, 1) := by decide +kernel
theorem dX2_readPart_140 : decode cX2_readPart 140 = .ok (.iconst 3, 1) := by decide +kernel
theorem dX2_readPart_141 : decode cX2_readPart 141 = .ok (.invokevirtual 202, 3) := by decide +kernel
theorem dX2_readPart_144 : decode cX2_readPart 144 = .ok (.iconst 1, 1) := by decide +kernel
theorem dX2_readPart_145 : decode cX2_readPart 145 = .ok (.ireturn, 1) := by decide +kernel
theorem dX2_readPart_146 : decode cX2_readPart 146 = .ok (.aload_n 0, 1) := by decide +kernel
theorem dX2_readPart_147 : decode cX2_readPart 147 = .ok (.invokevirtual 208, 3) := by decide +kernel
theorem dX2_readPart_150 : decode cX2_readPart 150 = .ok (.istore_n 3, 1) := by decide +kernel
theorem dX2_readPart_151 : decode cX2_readPart 151 = .ok (.iload_n 3, 1) := by decide +kernel
theorem dX2_readPart_152 : decode cX2_readPart 152 = .ok (.iconst (-1), 1) := by decide +kernel
theorem dX2_readPart_153 : decode cX2_readPart 153 = .ok (.if_icmp .ne 10, 3) := by decide +kernel
theorem dX2_readPart_156 : decode cX2_readPart 156 = .ok (.aload_n 0, 1) := by decide +kernel
theorem dX2_readPart_157 : decode cX2_readPart 157 = .ok (.iconst 3, 1) := by decide +kernel
theorem dX2_readPart_158 : decode cX2_readPart 158 = .ok (.invokevirtual 108, 3) := by decide +kernel
theorem dX2_readPart_161 : decode cX2_readPart 161 = .ok (.iconst 4, 1) := by decide +kernel
theorem dX2_readPart_162 : decode cX2_readPart 162 = .ok (.ireturn, 1) := by decide +kernel
theorem dX2_readPart_163 : decode cX2_readPart 163 = .ok (.aload_n 0, 1) := by decide +kernel
theorem dX2_readPart_164 : decode cX2_readPart 164 = .ok (.iload_n 3, 1) := by decide +kernel
theorem dX2_readPart_165 : decode cX2_readPart 165 = .ok (.invokevirtual 205, 3) := by decide +kernel
theorem dX2_readPart_168 : decode cX2_readPart 168 = .ok (.iconst 3, 1) := by decide +kernel
theorem dX2_readPart_169 : decode cX2_readPart 169 = .ok (.ireturn, 1) := by decide +kernel
theorem dX2_readBehind_0 : decode cX2_readBehind 0 = .ok (.aload_n 0, 1) := by decide +kernel
theorem dX2_readBehind_1 : decode cX2_readBehind 1 = .ok (.getfield 71, 3) := by decide +kernel
theorem dX2_readBehind_4 : decode cX2_readBehind 4 = .ok (.bipush 41, 2) := by decide +kernel
theorem dX2_readBehind_6 : decode cX2_readBehind 6 = .ok (.if_icmp .ne 41, 3) := by decide +kernel
theorem dX2_readBehind_9 : decode cX2_readBehind 9 = .ok (.aload_n 0, 1) := by decide +kernel
theorem dX2_readBehind_10 : decode cX2_readBehind 10 = .ok (.getfield 184, 3) := by decide +kernel
theorem dX2_readBehind_13 : decode cX2_readBehind 13 = .ok (.ifCond .le 34, 3) := by decide +kernel
theorem dX2_readBehind_16 : decode cX2_readBehind 16 = .ok (.aload_n 0, 1) := by decide +kernel
theorem dX2_readBehind_17 : decode cX2_readBehind 17 = .ok (.iconst 1, 1) := by decide +kernel
theorem dX2_readBehind_18 : decode cX2_readBehind 18 = .ok (.invokevirtual 211, 3) := by decide +kernel
theorem dX2_readBehind_21 : decode cX2_readBehind 21 = .ok (.aload_n 0, 1) := by decide +kernel
theorem dX2_readBehind_22 : decode cX2_readBehind 22 = .ok (.iconst 0, 1) := by decide +kernel
theorem dX2_readBehind_23 : decode cX2_readBehind 23 = .ok (.aload_n 0, 1) := by decide +kernel
theorem dX2_readBehind_24 : decode cX2_readBehind 24 = .ok (.getfield 181, 3) := by decide +kernel
theorem dX2_readBehind_27 : decode cX2_readBehind 27 = .ok (.iconst 1, 1) := by decide +kernel
theorem dX2_readBehind_28 : decode cX2_readBehind 28 = .ok (.isub, 1) := by decide +kernel
theorem dX2_readBehind_29 : decode cX2_readBehind 29 = .ok (.invokestatic 214, 3) := by decide +kernel
theorem dX2_readBehind_32 : decode cX2_readBehind 32 = .ok (.putfield 181, 3) := by decide +kernel
theorem dX2_readBehind_35 : decode cX2_readBehind 35 = .ok (.aload_n 0, 1) := by decide +kernel
theorem dX2_readBehind_36 : decode cX2_readBehind 36 = .ok (.dup, 1) := by decide +kernel
theorem dX2_readBehind_37 : decode cX2_readBehind 37 = .ok (.getfield 184, 3) := by decide +kernel
theorem dX2_readBehind_40 : decode cX2_readBehind 40 = .ok (.iconst 1, 1) := by decide +kernel
theorem dX2_readBehind_41 : decode cX2_readBehind 41 = .ok (.isub, 1) := by decide +kernel
theorem dX2_readBehind_42 : decode cX2_readBehind 42 = .ok (.putfield 184, 3) := by decide +kernel
theorem dX2_readBehind_45 : decode cX2_readBehind 45 = .ok (.iconst 3, 1) := by decide +kernel
theorem dX2_readBehind_46 : decode cX2_readBehind 46 = .ok (.ireturn, 1) := by decide +kernel
theorem dX2_readBehind_47 : decode cX2_readBehind 47 = .ok (.aload_n 0, 1) := by decide +kernel
theorem dX2_readBehind_48 : decode cX2_readBehind 48 = .ok (.getfield 71, 3) := by decide +kernel
theorem dX2_readBehind_51 : decode cX2_readBehind 51 = .ok (.bipush 59, 2) := by decide +kernel
theorem dX2_readBehind_53 : decode cX2_readBehind 53 = .ok (.if_icmp .ne 17, 3) := by decide +kernel
theorem dX2_readBehind_56 : decode cX2_readBehind 56 = .ok (.aload_n 0, 1) := by decide +kernel
theorem dX2_readBehind_57 : decode cX2_readBehind 57 = .ok (.getfield 184, 3) := by decide +kernel
theorem dX2_readBehind_60 : decode cX2_readBehind 60 = .ok (.ifCond .ne 10, 3) := by decide +kernel
theorem dX2_readBehind_63 : decode cX2_readBehind 63 = .ok (.aload_n 0, 1) := by decide +kernel
theorem dX2_readBehind_64 : decode cX2_readBehind 64 = .ok (.iconst 1, 1) := by decide +kernel
theorem dX2_readBehind_65 : decode cX2_readBehind 65 = .ok (.invokevirtual 211, 3) := by decide +kernel
theorem dX2_readBehind_68 : decode cX2_readBehind 68 = .ok (.iconst 4, 1) := by decide +kernel
theorem dX2_readBehind_69 : decode cX2_readBehind 69 = .ok (.ireturn, 1) := by decide +kernel
theorem dX2_readBehind_70 : decode cX2_readBehind 70 = .ok (.aload_n 0, 1) := by decide +kernel
theorem dX2_readBehind_71 : decode cX2_readBehind 71 = .ok (.invokevirtual 217, 3) := by decide +kernel
theorem dX2_readBehind_74 : decode cX2_readBehind 74 = .ok (.istore_n 1, 1) := by decide +kernel
theorem dX2_readBehind_75 : decode cX2_readBehind 75 = .ok (.iload_n 1, 1) := by decide +kernel
theorem dX2_readBehind_76 : decode cX2_readBehind 76 = .ok (.iconst (-1), 1) := by decide +kernel
theorem dX2_readBehind_77 : decode cX2_readBehind 77 = .ok (.if_icmp .ne 10, 3) := by decide +kernel
theorem dX2_readBehind_80 : decode cX2_readBehind 80 = .ok (.aload_n 0, 1) := by decide +kernel
theorem dX2_readBehind_81 : decode cX2_readBehind 81 = .ok (.iconst 1, 1) := by decide +kernel
theorem dX2_readBehind_82 : decode cX2_readBehind 82 = .ok (.invokevirtual 108, 3) := by decide +kernel
theorem dX2_readBehind_85 : decode cX2_readBehind 85 = .ok (.iconst 4, 1) := by decide +kernel
theorem dX2_readBehind_86 : decode cX2_readBehind 86 = .ok (.ireturn, 1) := by decide +kernel
theorem dX2_readBehind_87 : decode cX2_readBehind 87 = .ok (.iload_n 1, 1) := by decide +kernel
theorem dX2_readBehind_88 : decode cX2_readBehind 88 = .ok (.invokestatic 220, 3) := by decide +kernel
theorem dX2_readBehind_91 : decode cX2_readBehind 91 = .ok (.istore_n 2, 1) := by decide +kernel
theorem dX2_readBehind_92 : decode cX2_readBehind 92 = .ok (.aload_n 0, 1) := by decide +kernel
theorem dX2_readBehind_93 : decode cX2_readBehind 93 = .ok (.iload_n 2, 1) := by decide +kernel
theorem dX2_readBehind_94 : decode cX2_readBehind 94 = .ok (.iconst 4, 1) := by decide +kernel
theorem dX2_readBehind_95 : decode cX2_readBehind 95 = .ok (.if_icmp .ne 9, 3) := by decide +kernel
theorem dX2_readBehind_98 : decode cX2_readBehind 98 = .ok (.iload_n 2, 1) := by decide +kernel
theorem dX2_readBehind_99 : decode cX2_readBehind 99 = .ok (.iconst 1, 1) := by decide +kernel
theorem dX2_readBehind_100 : decode cX2_readBehind 100 = .ok (.iadd, 1) := by decide +kernel
theorem dX2_readBehind_101 : decode cX2_readBehind 101 = .ok (.goto 4, 3) := by decide +kernel
theorem dX2_readBehind_104 : decode cX2_readBehind 104 = .ok (.iload_n 2, 1) := by decide +kernel
theorem dX2_readBehind_105 : decode cX2_readBehind 105 = .ok (.invokevirtual 211, 3) := by decide +kernel
theorem dX2_readBehind_108 : decode cX2_readBehind 108 = .ok (.iload_n 2, 1) := by decide +kernel
theorem dX2_readBehind_109 : decode cX2_readBehind 109 = .ok (.iconst 4, 1) := by decide +kernel
theorem dX2_readBehind_110 : decode cX2_readBehind 110 = .ok (.if_icmp .ne 33, 3) := by decide +kernel
theorem dX2_readBehind_113 : decode cX2_readBehind 113 = .ok (.aload_n 0, 1) := by decide +kernel
theorem dX2_readBehind_114 : decode cX2_readBehind 114 = .ok (.getfield 181, 3) := by decide +kernel
theorem dX2_readBehind_117 : decode cX2_readBehind 117 = .ok (.ifCond .le 26, 3) := by decide +kernel
theorem dX2_readBehind_120 : decode cX2_readBehind 120 = .ok (.aload_n 0, 1) := by decide +kernel
theorem dX2_readBehind_121 : decode cX2_readBehind 121 = .ok (.getfield 11, 3) := by decide +kernel
theorem dX2_readBehind_124 : decode cX2_readBehind 124 = .ok (.aload_n 0, 1) := by decide +kernel
theorem dX2_readBehind_125 : decode cX2_readBehind 125 = .ok (.getfield 181, 3) := by decide +kernel
theorem dX2_readBehind_128 : decode cX2_readBehind 128 = .ok (.iconst 1, 1) := by decide +kernel
theorem dX2_readBehind_129 : decode cX2_readBehind 129 = .ok (.isub, 1) := by decide +kernel
theorem dX2_readBehind_130 : decode cX2_readBehind 130 = .ok (.iaload, 1) := by decide +kernel
theorem dX2_readBehind_131 : decode cX2_readBehind 131 = .ok (.invokestatic 220, 3) := by decide +kernel
theorem dX2_readBehind_134 : decode cX2_readBehind 134 = .ok (.iconst 4, 1) := by decide +kernel
theorem dX2_readBehind_135 : decode cX2_readBehind 135 = .ok (.if_icmp .ne 8, 3) := by decide +kernel
theorem dX2_readBehind_138 : decode cX2_readBehind 138 = .ok (.aload_n 0, 1) := by decide +kernel
theorem dX2_readBehind_139 : decode cX2_readBehind 139 = .ok (.iconst 1, 1) := by decide +kernel
theorem dX2_readBehind_140 : decode cX2_readBehind 140 = .ok (.invokevirtual 108, 3) := by decide +kernel
theorem dX2_readBehind_143 : decode cX2_readBehind 143 = .ok (.aload_n 0, 1) := by decide +kernel
theorem dX2_readBehind_144 : decode cX2_readBehind 144 = .ok (.iload_n 1, 1) := by decide +kernel
theorem dX2_readBehind_145 : decode cX2_readBehind 145 = .ok (.invokevirtual 202, 3) := by decide +kernel
theorem dX2_readBehind_148 : decode cX2_readBehind 148 = .ok (.iload_n 1, 1) := by decide +kernel
theorem dX2_readBehind_149 : decode cX2_readBehind 149 = .ok (.iconst 1, 1) := by decide +kernel
theorem dX2_readBehind_150 : decode cX2_readBehind 150 = .ok (.if_icmp .eq 8, 3) := by decide +kernel
theorem dX2_readBehind_153 : decode cX2_readBehind 153 = .ok (.iload_n 1, 1) := by decide +kernel
theorem dX2_readBehind_154 : decode cX2_readBehind 154 = .ok (.iconst 2, 1) := by decide +kernel
theorem dX2_readBehind_155 : decode cX2_readBehind 155 = .ok (.if_icmp .ne 7, 3) := by decide +kernel
theorem dX2_readBehind_158 : decode cX2_readBehind 158 = .ok (.iconst 1, 1) := by decide +kernel
theorem dX2_readBehind_159 : decode cX2_readBehind 159 = .ok (.goto 4, 3) := by decide +kernel
theorem dX2_readBehind_162 : decode cX2_readBehind 162 = .ok (.iconst 2, 1) := by decide +kernel
theorem dX2_readBehind_163 : decode cX2_readBehind 163 = .ok (.ireturn, 1) := by decide +kernel
theorem dX2_makeWait_0 : decode cX2_makeWait 0 = .ok (.aload_n 0, 1) := by decide +kernel
theorem dX2_makeWait_1 : decode cX2_makeWait 1 = .ok (.getfield 181, 3) := by decide +kernel
theorem dX2_makeWait_4 : decode cX2_makeWait 4 = .ok (.aload_n 0, 1) := by decide +kernel
theorem dX2_makeWait_5 : decode cX2_makeWait 5 = .ok (.getfield 11, 3) := by decide +kernel
theorem dX2_makeWait_8 : decode cX2_makeWait 8 = .ok (.arraylength, 1) := by decide +kernel
theorem dX2_makeWait_9 : decode cX2_makeWait 9 = .ok (.if_icmp .ge 23, 3) := by decide +kernel
theorem dX2_makeWait_12 : decode cX2_makeWait 12 = .ok (.aload_n 0, 1) := by decide +kernel
theorem dX2_makeWait_13 : decode cX2_makeWait 13 = .ok (.getfield 11, 3) := by decide +kernel
theorem dX2_makeWait_16 : decode cX2_makeWait 16 = .ok (.aload_n 0, 1) := by decide +kernel
theorem dX2_makeWait_17 : decode cX2_makeWait 17 = .ok (.getfield 181, 3) := by decide +kernel
theorem dX2_makeWait_20 : decode cX2_makeWait 20 = .ok (.iload_n 1, 1) := by decide +kernel
theorem dX2_makeWait_21 : decode cX2_makeWait 21 = .ok (.iastore, 1) := by decide +kernel
theorem dX2_makeWait_22 : decode cX2_makeWait 22 = .ok (.aload_n 0, 1) := by decide +kernel
theorem dX2_makeWait_23 : decode cX2_makeWait 23 = .ok (.dup, 1) := by decide +kernel
theorem dX2_makeWait_24 : decode cX2_makeWait 24 = .ok (.getfield 181, 3) := by decide +kernel
theorem dX2_makeWait_27 : decode cX2_makeWait 27 = .ok (.iconst 1, 1) := by decide +kernel
theorem dX2_makeWait_28 : decode cX2_makeWait 28 = .ok (.iadd, 1) := by decide +kernel
theorem dX2_makeWait_29 : decode cX2_makeWait 29 = .ok (.putfield 181, 3) := by decide +kernel
theorem dX2_makeWait_32 : decode cX2_makeWait 32 = .ok (.return_, 1) := by decide +kernel
theorem dX2_settle_0 : decode cX2_settle 0 = .ok (.aload_n 0, 1) := by decide +kernel
theorem dX2_settle_1 : decode cX2_settle 1 = .ok (.getfield 181, 3) := by decide +kernel
theorem dX2_settle_4 : decode cX2_settle 4 = .ok (.ifCond .le 59, 3) := by decide +kernel
theorem dX2_settle_7 : decode cX2_settle 7 = .ok (.aload_n 0, 1) := by decide +kernel
theorem dX2_settle_8 : decode cX2_settle 8 = .ok (.getfield 181, 3) := by decide +kernel
theorem dX2_settle_11 : decode cX2_settle 11 = .ok (.aload_n 0, 1) := by decide +kernel
theorem dX2_settle_12 : decode cX2_settle 12 = .ok (.getfield 11, 3) := by decide +kernel
theorem dX2_settle_15 : decode cX2_settle 15 = .ok (.arraylength, 1) := by decide +kernel
theorem dX2_settle_16 : decode cX2_settle 16 = .ok (.if_icmp .gt 47, 3) := by decide +kernel
theorem dX2_settle_19 : decode cX2_settle 19 = .ok (.aload_n 0, 1) := by decide +kernel
theorem dX2_settle_20 : decode cX2_settle 20 = .ok (.getfield 11, 3) := by decide +kernel
theorem dX2_settle_23 : decode cX2_settle 23 = .ok (.aload_n 0, 1) := by decide +kernel
theorem dX2_settle_24 : decode cX2_settle 24 = .ok (.getfield 181, 3) := by decide +kernel
theorem dX2_settle_27 : decode cX2_settle 27 = .ok (.iconst 1, 1) := by decide +kernel
theorem dX2_settle_28 : decode cX2_settle 28 = .ok (.isub, 1) := by decide +kernel
theorem dX2_settle_29 : decode cX2_settle 29 = .ok (.iaload, 1) := by decide +kernel
theorem dX2_settle_30 : decode cX2_settle 30 = .ok (.invokestatic 220, 3) := by decide +kernel
theorem dX2_settle_33 : decode cX2_settle 33 = .ok (.iload_n 1, 1) := by decide +kernel
theorem dX2_settle_34 : decode cX2_settle 34 = .ok (.if_icmp .lt 29, 3) := by decide +kernel
theorem dX2_settle_37 : decode cX2_settle 37 = .ok (.aload_n 0, 1) := by decide +kernel
theorem dX2_settle_38 : decode cX2_settle 38 = .ok (.dup, 1) := by decide +kernel
theorem dX2_settle_39 : decode cX2_settle 39 = .ok (.getfield 181, 3) := by decide +kernel
theorem dX2_settle_42 : decode cX2_settle 42 = .ok (.iconst 1, 1) := by decide +kernel
theorem dX2_settle_43 : decode cX2_settle 43 = .ok (.isub, 1) := by decide +kernel
theorem dX2_settle_44 : decode cX2_settle 44 = .ok (.putfield 181, 3) := by decide +kernel
theorem dX2_settle_47 : decode cX2_settle 47 = .ok (.aload_n 0, 1) := by decide +kernel
theorem dX2_settle_48 : decode cX2_settle 48 = .ok (.aload_n 0, 1) := by decide +kernel
theorem dX2_settle_49 : decode cX2_settle 49 = .ok (.getfield 11, 3) := by decide +kernel
theorem dX2_settle_52 : decode cX2_settle 52 = .ok (.aload_n 0, 1) := by decide +kernel
theorem dX2_settle_53 : decode cX2_settle 53 = .ok (.getfield 181, 3) := by decide +kernel
theorem dX2_settle_56 : decode cX2_settle 56 = .ok (.iaload, 1) := by decide +kernel
theorem dX2_settle_57 : decode cX2_settle 57 = .ok (.invokevirtual 205, 3) := by decide +kernel
theorem dX2_settle_60 : decode cX2_settle 60 = .ok (.goto (-60), 3) := by decide +kernel
theorem dX2_settle_63 : decode cX2_settle 63 = .ok (.return_, 1) := by decide +kernel
theorem dX2_put_0 : decode cX2_put 0 = .ok (.aload_n 0, 1) := by decide +kernel
theorem dX2_put_1 : decode cX2_put 1 = .ok (.getfield 52, 3) := by decide +kernel
theorem dX2_put_4 : decode cX2_put 4 = .ok (.aload_n 0, 1) := by decide +kernel
theorem dX2_put_5 : decode cX2_put 5 = .ok (.getfield 19, 3) := by decide +kernel
theorem dX2_put_8 : decode cX2_put 8 = .ok (.getfield 223, 3) := by decide +kernel
theorem dX2_put_11 : decode cX2_put 11 = .ok (.arraylength, 1) := by decide +kernel
theorem dX2_put_12 : decode cX2_put 12 = .ok (.if_icmp .ge 26, 3) := by decide +kernel
theorem dX2_put_15 : decode cX2_put 15 = .ok (.aload_n 0, 1) := by decide +kernel
theorem dX2_put_16 : decode cX2_put 16 = .ok (.getfield 19, 3) := by decide +kernel
theorem dX2_put_19 : decode cX2_put 19 = .ok (.getfield 223, 3) := by decide +kernel
theorem dX2_put_22 : decode cX2_put 22 = .ok (.aload_n 0, 1) := by decide +kernel
theorem dX2_put_23 : decode cX2_put 23 = .ok (.getfield 52, 3) := by decide +kernel
theorem dX2_put_26 : decode cX2_put 26 = .ok (.iload_n 1, 1) := by decide +kernel
theorem dX2_put_27 : decode cX2_put 27 = .ok (.iastore, 1) := by decide +kernel
theorem dX2_put_28 : decode cX2_put 28 = .ok (.aload_n 0, 1) := by decide +kernel
theorem dX2_put_29 : decode cX2_put 29 = .ok (.dup, 1) := by decide +kernel
theorem dX2_put_30 : decode cX2_put 30 = .ok (.getfield 52, 3) := by decide +kernel
theorem dX2_put_33 : decode cX2_put 33 = .ok (.iconst 1, 1) := by decide +kernel
theorem dX2_put_34 : decode cX2_put 34 = .ok (.iadd, 1) := by decide +kernel
theorem dX2_put_35 : decode cX2_put 35 = .ok (.putfield 52, 3) := by decide +kernel
theorem dX2_put_38 : decode cX2_put 38 = .ok (.return_, 1) := by decide +kernel
theorem dX2_rankOf_0 : decode cX2_rankOf 0 = .ok (.iload_n 0, 1) := by decide +kernel
theorem dX2_rankOf_1 : decode cX2_rankOf 1 = .ok (.tableswitch 64 1 9 #[51, 53, 55, 57, 57, 59, 59, 61, 61], 51) := by decide +kernel
theorem dX2_rankOf_52 : decode cX2_rankOf 52 = .ok (.iconst 1, 1) := by decide +kernel
theorem dX2_rankOf_53 : decode cX2_rankOf 53 = .ok (.ireturn, 1) := by decide +kernel
theorem dX2_rankOf_54 : decode cX2_rankOf 54 = .ok (.iconst 2, 1) := by decide +kernel
theorem dX2_rankOf_55 : decode cX2_rankOf 55 = .ok (.ireturn, 1) := by decide +kernel
theorem dX2_rankOf_56 : decode cX2_rankOf 56 = .ok (.iconst 3, 1) := by decide +kernel
theorem dX2_rankOf_57 : decode cX2_rankOf 57 = .ok (.ireturn, 1) := by decide +kernel
theorem dX2_rankOf_58 : decode cX2_rankOf 58 = .ok (.iconst 4, 1) := by decide +kernel
theorem dX2_rankOf_59 : decode cX2_rankOf 59 = .ok (.ireturn, 1) := by decide +kernel
theorem dX2_rankOf_60 : decode cX2_rankOf 60 = .ok (.iconst 5, 1) := by decide +kernel
theorem dX2_rankOf_61 : decode cX2_rankOf 61 = .ok (.ireturn, 1) := by decide +kernel
theorem dX2_rankOf_62 : decode cX2_rankOf 62 = .ok (.bipush 6, 2) := by decide +kernel
theorem dX2_rankOf_64 : decode cX2_rankOf 64 = .ok (.ireturn, 1) := by decide +kernel
theorem dX2_rankOf_65 : decode cX2_rankOf 65 = .ok (.iconst 0, 1) := by decide +kernel
theorem dX2_rankOf_66 : decode cX2_rankOf 66 = .ok (.ireturn, 1) := by decide +kernel
theorem dX2_operatorHere_0 : decode cX2_operatorHere 0 = .ok (.aload_n 0, 1) := by decide +kernel
theorem dX2_operatorHere_1 : decode cX2_operatorHere 1 = .ok (.getfield 71, 3) := by decide +kernel
theorem dX2_operatorHere_4 : decode cX2_operatorHere 4 = .ok (.tableswitch 112 42 61 #[106, 100, 112, 103, 112, 109, 112, 112, 112, 112, 112, 112, 112, 112, 112, 112, 112, 112, 96, 98], 96) := by decide +kernel
theorem dX2_operatorHere_100 : decode cX2_operatorHere 100 = .ok (.iconst 4, 1) := by decide +kernel
theorem dX2_operatorHere_101 : decode cX2_operatorHere 101 = .ok (.ireturn, 1) := by decide +kernel
theorem dX2_operatorHere_102 : decode cX2_operatorHere 102 = .ok (.iconst 5, 1) := by decide +kernel
theorem dX2_operatorHere_103 : decode cX2_operatorHere 103 = .ok (.ireturn, 1) := by decide +kernel
theorem dX2_operatorHere_104 : decode cX2_operatorHere 104 = .ok (.bipush 6, 2) := by decide +kernel
theorem dX2_operatorHere_106 : decode cX2_operatorHere 106 = .ok (.ireturn, 1) := by decide +kernel
theorem dX2_operatorHere_107 : decode cX2_operatorHere 107 = .ok (.bipush 7, 2) := by decide +kernel
theorem dX2_operatorHere_109 : decode cX2_operatorHere 109 = .ok (.ireturn, 1) := by decide +kernel
theorem dX2_operatorHere_110 : decode cX2_operatorHere 110 = .ok (.bipush 8, 2) := by decide +kernel
theorem dX2_operatorHere_112 : decode cX2_operatorHere 112 = .ok (.ireturn, 1) := by decide +kernel
theorem dX2_operatorHere_113 : decode cX2_operatorHere 113 = .ok (.bipush 9, 2) := by decide +kernel
theorem dX2_operatorHere_115 : decode cX2_operatorHere 115 = .ok (.ireturn, 1) := by decide +kernel
theorem dX2_operatorHere_116 : decode cX2_operatorHere 116 = .ok (.aload_n 0, 1) := by decide +kernel
theorem dX2_operatorHere_117 : decode cX2_operatorHere 117 = .ok (.ldc 226, 2) := by decide +kernel
theorem dX2_operatorHere_119 : decode cX2_operatorHere 119 = .ok (.invokevirtual 64, 3) := by decide +kernel
theorem dX2_operatorHere_122 : decode cX2_operatorHere 122 = .ok (.ifCond .eq 5, 3) := by decide +kernel
theorem dX2_operatorHere_125 : decode cX2_operatorHere 125 = .ok (.iconst 1, 1) := by decide +kernel
theorem dX2_operatorHere_126 : decode cX2_operatorHere 126 = .ok (.ireturn, 1) := by decide +kernel
theorem dX2_operatorHere_127 : decode cX2_operatorHere 127 = .ok (.aload_n 0, 1) := by decide +kernel
theorem dX2_operatorHere_128 : decode cX2_operatorHere 128 = .ok (.ldc 228, 2) := by decide +kernel
theorem dX2_operatorHere_130 : decode cX2_operatorHere 130 = .ok (.invokevirtual 64, 3) := by decide +kernel
theorem dX2_operatorHere_133 : decode cX2_operatorHere 133 = .ok (.ifCond .eq 7, 3) := by decide +kernel
theorem dX2_operatorHere_136 : decode cX2_operatorHere 136 = .ok (.iconst 2, 1) := by decide +kernel
theorem dX2_operatorHere_137 : decode cX2_operatorHere 137 = .ok (.goto 4, 3) := by decide +kernel
theorem dX2_operatorHere_140 : decode cX2_operatorHere 140 = .ok (.iconst (-1), 1) := by decide +kernel
theorem dX2_operatorHere_141 : decode cX2_operatorHere 141 = .ok (.ireturn, 1) := by decide +kernel
theorem dX2_valueHere_0 : decode cX2_valueHere 0 = .ok (.aload_n 0, 1) := by decide +kernel
theorem dX2_valueHere_1 : decode cX2_valueHere 1 = .ok (.ldc 230, 2) := by decide +kernel
theorem dX2_valueHere_3 : decode cX2_valueHere 3 = .ok (.invokevirtual 64, 3) := by decide +kernel
theorem dX2_valueHere_6 : decode cX2_valueHere 6 = .ok (.ifCond .eq 6, 3) := by decide +kernel
theorem dX2_valueHere_9 : decode cX2_valueHere 9 = .ok (.bipush 20, 2) := by decide +kernel
theorem dX2_valueHere_11 : decode cX2_valueHere 11 = .ok (.ireturn, 1) := by decide +kernel
theorem dX2_valueHere_12 : decode cX2_valueHere 12 = .ok (.aload_n 0, 1) := by decide +kernel
theorem dX2_valueHere_13 : decode cX2_valueHere 13 = .ok (.ldc 232, 2) := by decide +kernel
theorem dX2_valueHere_15 : decode cX2_valueHere 15 = .ok (.invokevirtual 64, 3) := by decide +kernel
theorem dX2_valueHere_18 : decode cX2_valueHere 18 = .ok (.ifCond .eq 6, 3) := by decide +kernel
theorem dX2_valueHere_21 : decode cX2_valueHere 21 = .ok (.bipush 21, 2) := by decide +kernel
theorem dX2_valueHere_23 : decode cX2_valueHere 23 = .ok (.ireturn, 1) := by decide +kernel
theorem dX2_valueHere_24 : decode cX2_valueHere 24 = .ok (.aload_n 0, 1) := by decide +kernel
theorem dX2_valueHere_25 : decode cX2_valueHere 25 = .ok (.ldc 131, 2) := by decide +kernel
theorem dX2_valueHere_27 : decode cX2_valueHere 27 = .ok (.invokevirtual 64, 3) := by decide +kernel
theorem dX2_valueHere_30 : decode cX2_valueHere 30 = .ok (.ifCond .eq 6, 3) := by decide +kernel
theorem dX2_valueHere_33 : decode cX2_valueHere 33 = .ok (.bipush 22, 2) := by decide +kernel
theorem dX2_valueHere_35 : decode cX2_valueHere 35 = .ok (.ireturn, 1) := by decide +kernel
theorem dX2_valueHere_36 : decode cX2_valueHere 36 = .ok (.aload_n 0, 1) := by decide +kernel
theorem dX2_valueHere_37 : decode cX2_valueHere 37 = .ok (.ldc 234, 2) := by decide +kernel
theorem dX2_valueHere_39 : decode cX2_valueHere 39 = .ok (.invokevirtual 64, 3) := by decide +kernel
theorem dX2_valueHere_42 : decode cX2_valueHere 42 = .ok (.ifCond .eq 6, 3) := by decide +kernel
theorem dX2_valueHere_45 : decode cX2_valueHere 45 = .ok (.bipush 23, 2) := by decide +kernel
theorem dX2_valueHere_47 : decode cX2_valueHere 47 = .ok (.ireturn, 1) := by decide +kernel
theorem dX2_valueHere_48 : decode cX2_valueHere 48 = .ok (.aload_n 0, 1) := by decide +kernel
theorem dX2_valueHere_49 : decode cX2_valueHere 49 = .ok (.ldc 235, 2) := by decide +kernel
theorem dX2_valueHere_51 : decode cX2_valueHere 51 = .ok (.invokevirtual 64, 3) := by decide +kernel
theorem dX2_valueHere_54 : decode cX2_valueHere 54 = .ok (.ifCond .eq 6, 3) := by decide +kernel
theorem dX2_valueHere_57 : decode cX2_valueHere 57 = .ok (.bipush 24, 2) := by decide +kernel
theorem dX2_valueHere_59 : decode cX2_valueHere 59 = .ok (.ireturn, 1) := by decide +kernel
theorem dX2_valueHere_60 : decode cX2_valueHere 60 = .ok (.aload_n 0, 1) := by decide +kernel
theorem dX2_valueHere_61 : decode cX2_valueHere 61 = .ok (.ldc 237, 2) := by decide +kernel
theorem dX2_valueHere_63 : decode cX2_valueHere 63 = .ok (.invokevirtual 64, 3) := by decide +kernel
theorem dX2_valueHere_66 : decode cX2_valueHere 66 = .ok (.ifCond .eq 6, 3) := by decide +kernel
theorem dX2_valueHere_69 : decode cX2_valueHere 69 = .ok (.bipush 25, 2) := by decide +kernel
theorem dX2_valueHere_71 : decode cX2_valueHere 71 = .ok (.ireturn, 1) := by decide +kernel
theorem dX2_valueHere_72 : decode cX2_valueHere 72 = .ok (.aload_n 0, 1) := by decide +kernel
theorem dX2_valueHere_73 : decode cX2_valueHere 73 = .ok (.ldc 238, 2) := by decide +kernel
theorem dX2_valueHere_75 : decode cX2_valueHere 75 = .ok (.invokevirtual 64, 3) := by decide +kernel
theorem dX2_valueHere_78 : decode cX2_valueHere 78 = .ok (.ifCond .eq 8, 3) := by decide +kernel
theorem dX2_valueHere_81 : decode cX2_valueHere 81 = .ok (.bipush 26, 2) := by decide +kernel
theorem dX2_valueHere_83 : decode cX2_valueHere 83 = .ok (.goto 4, 3) := by decide +kernel
theorem dX2_valueHere_86 : decode cX2_valueHere 86 = .ok (.iconst (-1), 1) := by decide +kernel
theorem dX2_valueHere_87 : decode cX2_valueHere 87 = .ok (.ireturn, 1) := by decide +kernel
theorem dX3_init_0 : decode cX3_init 0 = .ok (.aload_n 0, 1) := by decide +kernel
theorem dX3_init_1 : decode cX3_init 1 = .ok (.invokespecial 3, 3) := by decide +kernel
theorem dX3_init_4 : decode cX3_init 4 = .ok (.aload_n 0, 1) := by decide +kernel
theorem dX3_init_5 : decode cX3_init 5 = .ok (.bipush 62, 2) := by decide +kernel
theorem dX3_init_7 : decode cX3_init 7 = .ok (.newarray .int, 2) := by decide +kernel
theorem dX3_init_9 : decode cX3_init 9 = .ok (.putfield 9, 3) := by decide +kernel
theorem dX3_init_12 : decode cX3_init 12 = .ok (.aload_n 0, 1) := by decide +kernel
theorem dX3_init_13 : decode cX3_init 13 = .ok (.bipush 64, 2) := by decide +kernel
theorem dX3_init_15 : decode cX3_init 15 = .ok (.newarray .int, 2) := by decide +kernel
theorem dX3_init_17 : decode cX3_init 17 = .ok (.putfield 15, 3) := by decide +kernel
theorem dX3_init_20 : decode cX3_init 20 = .ok (.aload_n 0, 1) := by decide +kernel
theorem dX3_init_21 : decode cX3_init 21 = .ok (.bipush 64, 2) := by decide +kernel
theorem dX3_init_23 : decode cX3_init 23 = .ok (.newarray .int, 2) := by decide +kernel
theorem dX3_init_25 : decode cX3_init 25 = .ok (.putfield 18, 3) := by decide +kernel
theorem dX3_init_28 : decode cX3_init 28 = .ok (.aload_n 0, 1) := by decide +kernel
theorem dX3_init_29 : decode cX3_init 29 = .ok (.bipush 8, 2) := by decide +kernel
theorem dX3_init_31 : decode cX3_init 31 = .ok (.newarray .int, 2) := by decide +kernel
theorem dX3_init_33 : decode cX3_init 33 = .ok (.putfield 21, 3) := by decide +kernel
theorem dX3_init_36 : decode cX3_init 36 = .ok (.aload_n 0, 1) := by decide +kernel
theorem dX3_init_37 : decode cX3_init 37 = .ok (.bipush 64, 2) := by decide +kernel
theorem dX3_init_39 : decode cX3_init 39 = .ok (.newarray .int, 2) := by decide +kernel
theorem dX3_init_41 : decode cX3_init 41 = .ok (.putfield 24, 3) := by decide +kernel
theorem dX3_init_44 : decode cX3_init 44 = .ok (.aload_n 0, 1) := by decide +kernel
theorem dX3_init_45 : decode cX3_init 45 = .ok (.aload_n 1, 1) := by decide +kernel
theorem dX3_init_46 : decode cX3_init 46 = .ok (.putfield 27, 3) := by decide +kernel
theorem dX3_init_49 : decode cX3_init 49 = .ok (.return_, 1) := by decide +kernel
theorem dX3_show_0 : decode cX3_show 0 = .ok (.aload_n 0, 1) := by decide +kernel
theorem dX3_show_1 : decode cX3_show 1 = .ok (.aload_n 1, 1) := by decide +kernel
theorem dX3_show_2 : decode cX3_show 2 = .ok (.putfield 27, 3) := by decide +kernel
theorem dX3_show_5 : decode cX3_show 5 = .ok (.aload_n 2, 1) := by decide +kernel
theorem dX3_show_6 : decode cX3_show 6 = .ok (.iconst 0, 1) := by decide +kernel
theorem dX3_show_7 : decode cX3_show 7 = .ok (.aload_n 0, 1) := by decide +kernel
theorem dX3_show_8 : decode cX3_show 8 = .ok (.getfield 9, 3) := by decide +kernel
theorem dX3_show_11 : decode cX3_show 11 = .ok (.iconst 0, 1) := by decide +kernel
theorem dX3_show_12 : decode cX3_show 12 = .ok (.bipush 62, 2) := by decide +kernel
