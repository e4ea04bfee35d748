theorem dX0_init_0 : decode cX0_init 0 = .ok (.aload_n 0, 1) := by decide +kernel
theorem dX0_init_1 : decode cX0_init 1 = .ok (.invokespecial 3, 3) := by decide +kernel
theorem dX0_init_4 : decode cX0_init 4 = .ok (.aload_n 0, 1) := by decide +kernel
theorem dX0_init_5 : decode cX0_init 5 = .ok (.bipush 8, 2) := by decide +kernel
theorem dX0_init_7 : decode cX0_init 7 = .ok (.newarray .int, 2) := by decide +kernel
theorem dX0_init_9 : decode cX0_init 9 = .ok (.putfield 9, 3) := by decide +kernel
theorem dX0_init_12 : decode cX0_init 12 = .ok (.aload_n 0, 1) := by decide +kernel
theorem dX0_init_13 : decode cX0_init 13 = .ok (.bipush 8, 2) := by decide +kernel
theorem dX0_init_15 : decode cX0_init 15 = .ok (.newarray .boolean, 2) := by decide +kernel
theorem dX0_init_17 : decode cX0_init 17 = .ok (.putfield 15, 3) := by decide +kernel
theorem dX0_init_20 : decode cX0_init 20 = .ok (.aload_n 0, 1) := by decide +kernel
theorem dX0_init_21 : decode cX0_init 21 = .ok (.iconst 1, 1) := by decide +kernel
theorem dX0_init_22 : decode cX0_init 22 = .ok (.putfield 19, 3) := by decide +kernel
theorem dX0_init_25 : decode cX0_init 25 = .ok (.return_, 1) := by decide +kernel
theorem dX0_begin_0 : decode cX0_begin 0 = .ok (.aload_n 0, 1) := by decide +kernel
theorem dX0_begin_1 : decode cX0_begin 1 = .ok (.iconst 0, 1) := by decide +kernel
theorem dX0_begin_2 : decode cX0_begin 2 = .ok (.putfield 19, 3) := by decide +kernel
theorem dX0_begin_5 : decode cX0_begin 5 = .ok (.aload_n 0, 1) := by decide +kernel
theorem dX0_begin_6 : decode cX0_begin 6 = .ok (.iconst 0, 1) := by decide +kernel
theorem dX0_begin_7 : decode cX0_begin 7 = .ok (.putfield 23, 3) := by decide +kernel
theorem dX0_begin_10 : decode cX0_begin 10 = .ok (.return_, 1) := by decide +kernel
theorem dX0_vanish_0 : decode cX0_vanish 0 = .ok (.aload_n 0, 1) := by decide +kernel
theorem dX0_vanish_1 : decode cX0_vanish 1 = .ok (.iconst 1, 1) := by decide +kernel
theorem dX0_vanish_2 : decode cX0_vanish 2 = .ok (.putfield 19, 3) := by decide +kernel
theorem dX0_vanish_5 : decode cX0_vanish 5 = .ok (.aload_n 0, 1) := by decide +kernel
theorem dX0_vanish_6 : decode cX0_vanish 6 = .ok (.iconst 0, 1) := by decide +kernel
theorem dX0_vanish_7 : decode cX0_vanish 7 = .ok (.putfield 23, 3) := by decide +kernel
theorem dX0_vanish_10 : decode cX0_vanish 10 = .ok (.return_, 1) := by decide +kernel
theorem dX0_insert_0 : decode cX0_insert 0 = .ok (.aload_n 0, 1) := by decide +kernel
theorem dX0_insert_1 : decode cX0_insert 1 = .ok (.getfield 23, 3) := by decide +kernel
theorem dX0_insert_4 : decode cX0_insert 4 = .ok (.istore 4, 2) := by decide +kernel
theorem dX0_insert_6 : decode cX0_insert 6 = .ok (.iload 4, 2) := by decide +kernel
theorem dX0_insert_8 : decode cX0_insert 8 = .ok (.iload_n 1, 1) := by decide +kernel
theorem dX0_insert_9 : decode cX0_insert 9 = .ok (.if_icmp .le 41, 3) := by decide +kernel
theorem dX0_insert_12 : decode cX0_insert 12 = .ok (.aload_n 0, 1) := by decide +kernel
theorem dX0_insert_13 : decode cX0_insert 13 = .ok (.getfield 9, 3) := by decide +kernel
theorem dX0_insert_16 : decode cX0_insert 16 = .ok (.iload 4, 2) := by decide +kernel
theorem dX0_insert_18 : decode cX0_insert 18 = .ok (.aload_n 0, 1) := by decide +kernel
theorem dX0_insert_19 : decode cX0_insert 19 = .ok (.getfield 9, 3) := by decide +kernel
theorem dX0_insert_22 : decode cX0_insert 22 = .ok (.iload 4, 2) := by decide +kernel
theorem dX0_insert_24 : decode cX0_insert 24 = .ok (.iconst 1, 1) := by decide +kernel
theorem dX0_insert_25 : decode cX0_insert 25 = .ok (.isub, 1) := by decide +kernel
theorem dX0_insert_26 : decode cX0_insert 26 = .ok (.iaload, 1) := by decide +kernel
theorem dX0_insert_27 : decode cX0_insert 27 = .ok (.iastore, 1) := by decide +kernel
theorem dX0_insert_28 : decode cX0_insert 28 = .ok (.aload_n 0, 1) := by decide +kernel
theorem dX0_insert_29 : decode cX0_insert 29 = .ok (.getfield 15, 3) := by decide +kernel
theorem dX0_insert_32 : decode cX0_insert 32 = .ok (.iload 4, 2) := by decide +kernel
theorem dX0_insert_34 : decode cX0_insert 34 = .ok (.aload_n 0, 1) := by decide +kernel
theorem dX0_insert_35 : decode cX0_insert 35 = .ok (.getfield 15, 3) := by decide +kernel
theorem dX0_insert_38 : decode cX0_insert 38 = .ok (.iload 4, 2) := by decide +kernel
theorem dX0_insert_40 : decode cX0_insert 40 = .ok (.iconst 1, 1) := by decide +kernel
theorem dX0_insert_41 : decode cX0_insert 41 = .ok (.isub, 1) := by decide +kernel
theorem dX0_insert_42 : decode cX0_insert 42 = .ok (.baload, 1) := by decide +kernel
theorem dX0_insert_43 : decode cX0_insert 43 = .ok (.bastore, 1) := by decide +kernel
theorem dX0_insert_44 : decode cX0_insert 44 = .ok (.iinc 4 (-1), 3) := by decide +kernel
theorem dX0_insert_47 : decode cX0_insert 47 = .ok (.goto (-41), 3) := by decide +kernel
theorem dX0_insert_50 : decode cX0_insert 50 = .ok (.aload_n 0, 1) := by decide +kernel
theorem dX0_insert_51 : decode cX0_insert 51 = .ok (.getfield 9, 3) := by decide +kernel
theorem dX0_insert_54 : decode cX0_insert 54 = .ok (.iload_n 1, 1) := by decide +kernel
theorem dX0_insert_55 : decode cX0_insert 55 = .ok (.iload_n 2, 1) := by decide +kernel
theorem dX0_insert_56 : decode cX0_insert 56 = .ok (.iastore, 1) := by decide +kernel
theorem dX0_insert_57 : decode cX0_insert 57 = .ok (.aload_n 0, 1) := by decide +kernel
theorem dX0_insert_58 : decode cX0_insert 58 = .ok (.getfield 15, 3) := by decide +kernel
theorem dX0_insert_61 : decode cX0_insert 61 = .ok (.iload_n 1, 1) := by decide +kernel
theorem dX0_insert_62 : decode cX0_insert 62 = .ok (.iload_n 3, 1) := by decide +kernel
theorem dX0_insert_63 : decode cX0_insert 63 = .ok (.bastore, 1) := by decide +kernel
theorem dX0_insert_64 : decode cX0_insert 64 = .ok (.aload_n 0, 1) := by decide +kernel
theorem dX0_insert_65 : decode cX0_insert 65 = .ok (.dup, 1) := by decide +kernel
theorem dX0_insert_66 : decode cX0_insert 66 = .ok (.getfield 23, 3) := by decide +kernel
theorem dX0_insert_69 : decode cX0_insert 69 = .ok (.iconst 1, 1) := by decide +kernel
theorem dX0_insert_70 : decode cX0_insert 70 = .ok (.iadd, 1) := by decide +kernel
theorem dX0_insert_71 : decode cX0_insert 71 = .ok (.putfield 23, 3) := by decide +kernel
theorem dX0_insert_74 : decode cX0_insert 74 = .ok (.return_, 1) := by decide +kernel
theorem dX0_total_0 : decode cX0_total 0 = .ok (.iconst 0, 1) := by decide +kernel
theorem dX0_total_1 : decode cX0_total 1 = .ok (.istore_n 3, 1) := by decide +kernel
theorem dX0_total_2 : decode cX0_total 2 = .ok (.iconst 0, 1) := by decide +kernel
theorem dX0_total_3 : decode cX0_total 3 = .ok (.istore 4, 2) := by decide +kernel
theorem dX0_total_5 : decode cX0_total 5 = .ok (.iload 4, 2) := by decide +kernel
theorem dX0_total_7 : decode cX0_total 7 = .ok (.aload_n 0, 1) := by decide +kernel
theorem dX0_total_8 : decode cX0_total 8 = .ok (.getfield 23, 3) := by decide +kernel
theorem dX0_total_11 : decode cX0_total 11 = .ok (.if_icmp .ge 40, 3) := by decide +kernel
theorem dX0_total_14 : decode cX0_total 14 = .ok (.aload_n 0, 1) := by decide +kernel
theorem dX0_total_15 : decode cX0_total 15 = .ok (.getfield 15, 3) := by decide +kernel
theorem dX0_total_18 : decode cX0_total 18 = .ok (.iload 4, 2) := by decide +kernel
theorem dX0_total_20 : decode cX0_total 20 = .ok (.baload, 1) := by decide +kernel
theorem dX0_total_21 : decode cX0_total 21 = .ok (.ifCond .eq 10, 3) := by decide +kernel
theorem dX0_total_24 : decode cX0_total 24 = .ok (.iload_n 2, 1) := by decide +kernel
theorem dX0_total_25 : decode cX0_total 25 = .ok (.ifCond .eq 20, 3) := by decide +kernel
theorem dX0_total_28 : decode cX0_total 28 = .ok (.goto 7, 3) := by decide +kernel
theorem dX0_total_31 : decode cX0_total 31 = .ok (.iload_n 1, 1) := by decide +kernel
theorem dX0_total_32 : decode cX0_total 32 = .ok (.ifCond .eq 13, 3) := by decide +kernel
theorem dX0_total_35 : decode cX0_total 35 = .ok (.iload_n 3, 1) := by decide +kernel
theorem dX0_total_36 : decode cX0_total 36 = .ok (.aload_n 0, 1) := by decide +kernel
theorem dX0_total_37 : decode cX0_total 37 = .ok (.getfield 9, 3) := by decide +kernel
theorem dX0_total_40 : decode cX0_total 40 = .ok (.iload 4, 2) := by decide +kernel
theorem dX0_total_42 : decode cX0_total 42 = .ok (.iaload, 1) := by decide +kernel
theorem dX0_total_43 : decode cX0_total 43 = .ok (.iadd, 1) := by decide +kernel
theorem dX0_total_44 : decode cX0_total 44 = .ok (.istore_n 3, 1) := by decide +kernel
theorem dX0_total_45 : decode cX0_total 45 = .ok (.iinc 4 1, 3) := by decide +kernel
theorem dX0_total_48 : decode cX0_total 48 = .ok (.goto (-43), 3) := by decide +kernel
theorem dX0_total_51 : decode cX0_total 51 = .ok (.iload_n 3, 1) := by decide +kernel
theorem dX0_total_52 : decode cX0_total 52 = .ok (.ireturn, 1) := by decide +kernel
