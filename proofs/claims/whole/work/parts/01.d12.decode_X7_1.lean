theorem dX7_doClause_86 : decode cX7_doClause 86 = .ok (.iload_n 2, 1) := by decide +kernel
theorem dX7_doClause_87 : decode cX7_doClause 87 = .ok (.iload_n 3, 1) := by decide +kernel
theorem dX7_doClause_88 : decode cX7_doClause 88 = .ok (.invokevirtual 165, 3) := by decide +kernel
theorem dX7_doClause_91 : decode cX7_doClause 91 = .ok (.aload_n 0, 1) := by decide +kernel
theorem dX7_doClause_92 : decode cX7_doClause 92 = .ok (.iload_n 2, 1) := by decide +kernel
theorem dX7_doClause_93 : decode cX7_doClause 93 = .ok (.iload 4, 2) := by decide +kernel
theorem dX7_doClause_95 : decode cX7_doClause 95 = .ok (.invokevirtual 165, 3) := by decide +kernel
theorem dX7_doClause_98 : decode cX7_doClause 98 = .ok (.goto 33, 3) := by decide +kernel
theorem dX7_doClause_101 : decode cX7_doClause 101 = .ok (.aload_n 0, 1) := by decide +kernel
theorem dX7_doClause_102 : decode cX7_doClause 102 = .ok (.iload_n 2, 1) := by decide +kernel
theorem dX7_doClause_103 : decode cX7_doClause 103 = .ok (.iload_n 3, 1) := by decide +kernel
theorem dX7_doClause_104 : decode cX7_doClause 104 = .ok (.invokevirtual 165, 3) := by decide +kernel
theorem dX7_doClause_107 : decode cX7_doClause 107 = .ok (.aload_n 0, 1) := by decide +kernel
theorem dX7_doClause_108 : decode cX7_doClause 108 = .ok (.iload_n 3, 1) := by decide +kernel
theorem dX7_doClause_109 : decode cX7_doClause 109 = .ok (.iload 4, 2) := by decide +kernel
theorem dX7_doClause_111 : decode cX7_doClause 111 = .ok (.invokevirtual 165, 3) := by decide +kernel
theorem dX7_doClause_114 : decode cX7_doClause 114 = .ok (.aload_n 0, 1) := by decide +kernel
theorem dX7_doClause_115 : decode cX7_doClause 115 = .ok (.getfield 35, 3) := by decide +kernel
theorem dX7_doClause_118 : decode cX7_doClause 118 = .ok (.iload_n 1, 1) := by decide +kernel
theorem dX7_doClause_119 : decode cX7_doClause 119 = .ok (.iaload, 1) := by decide +kernel
theorem dX7_doClause_120 : decode cX7_doClause 120 = .ok (.iconst 2, 1) := by decide +kernel
theorem dX7_doClause_121 : decode cX7_doClause 121 = .ok (.if_icmp .ne 10, 3) := by decide +kernel
theorem dX7_doClause_124 : decode cX7_doClause 124 = .ok (.aload_n 0, 1) := by decide +kernel
theorem dX7_doClause_125 : decode cX7_doClause 125 = .ok (.iload 4, 2) := by decide +kernel
theorem dX7_doClause_127 : decode cX7_doClause 127 = .ok (.iload_n 2, 1) := by decide +kernel
theorem dX7_doClause_128 : decode cX7_doClause 128 = .ok (.invokevirtual 165, 3) := by decide +kernel
theorem dX7_doClause_131 : decode cX7_doClause 131 = .ok (.return_, 1) := by decide +kernel
theorem dX7_loseChains_0 : decode cX7_loseChains 0 = .ok (.iconst 0, 1) := by decide +kernel
theorem dX7_loseChains_1 : decode cX7_loseChains 1 = .ok (.istore_n 1, 1) := by decide +kernel
theorem dX7_loseChains_2 : decode cX7_loseChains 2 = .ok (.iload_n 1, 1) := by decide +kernel
theorem dX7_loseChains_3 : decode cX7_loseChains 3 = .ok (.iconst 3, 1) := by decide +kernel
theorem dX7_loseChains_4 : decode cX7_loseChains 4 = .ok (.if_icmp .ge 16, 3) := by decide +kernel
theorem dX7_loseChains_7 : decode cX7_loseChains 7 = .ok (.aload_n 0, 1) := by decide +kernel
theorem dX7_loseChains_8 : decode cX7_loseChains 8 = .ok (.getfield 50, 3) := by decide +kernel
theorem dX7_loseChains_11 : decode cX7_loseChains 11 = .ok (.iload_n 1, 1) := by decide +kernel
theorem dX7_loseChains_12 : decode cX7_loseChains 12 = .ok (.iconst (-1), 1) := by decide +kernel
theorem dX7_loseChains_13 : decode cX7_loseChains 13 = .ok (.iastore, 1) := by decide +kernel
theorem dX7_loseChains_14 : decode cX7_loseChains 14 = .ok (.iinc 1 1, 3) := by decide +kernel
theorem dX7_loseChains_17 : decode cX7_loseChains 17 = .ok (.goto (-15), 3) := by decide +kernel
theorem dX7_loseChains_20 : decode cX7_loseChains 20 = .ok (.return_, 1) := by decide +kernel
theorem dX7_net_0 : decode cX7_net 0 = .ok (.aload_n 0, 1) := by decide +kernel
theorem dX7_net_1 : decode cX7_net 1 = .ok (.invokevirtual 156, 3) := by decide +kernel
theorem dX7_net_4 : decode cX7_net 4 = .ok (.ifCond .ne 6, 3) := by decide +kernel
theorem dX7_net_7 : decode cX7_net 7 = .ok (.bipush (-4), 2) := by decide +kernel
theorem dX7_net_9 : decode cX7_net 9 = .ok (.ireturn, 1) := by decide +kernel
theorem dX7_net_10 : decode cX7_net 10 = .ok (.iconst 0, 1) := by decide +kernel
theorem dX7_net_11 : decode cX7_net 11 = .ok (.istore_n 1, 1) := by decide +kernel
theorem dX7_net_12 : decode cX7_net 12 = .ok (.iload_n 1, 1) := by decide +kernel
theorem dX7_net_13 : decode cX7_net 13 = .ok (.aload_n 0, 1) := by decide +kernel
theorem dX7_net_14 : decode cX7_net 14 = .ok (.getfield 147, 3) := by decide +kernel
theorem dX7_net_17 : decode cX7_net 17 = .ok (.if_icmp .ge 16, 3) := by decide +kernel
theorem dX7_net_20 : decode cX7_net 20 = .ok (.aload_n 0, 1) := by decide +kernel
theorem dX7_net_21 : decode cX7_net 21 = .ok (.iconst 4, 1) := by decide +kernel
theorem dX7_net_22 : decode cX7_net 22 = .ok (.iload_n 1, 1) := by decide +kernel
theorem dX7_net_23 : decode cX7_net 23 = .ok (.imul, 1) := by decide +kernel
theorem dX7_net_24 : decode cX7_net 24 = .ok (.invokevirtual 168, 3) := by decide +kernel
theorem dX7_net_27 : decode cX7_net 27 = .ok (.iinc 1 1, 3) := by decide +kernel
theorem dX7_net_30 : decode cX7_net 30 = .ok (.goto (-18), 3) := by decide +kernel
theorem dX7_net_33 : decode cX7_net 33 = .ok (.aload_n 0, 1) := by decide +kernel
theorem dX7_net_34 : decode cX7_net 34 = .ok (.iconst 0, 1) := by decide +kernel
theorem dX7_net_35 : decode cX7_net 35 = .ok (.putfield 97, 3) := by decide +kernel
theorem dX7_net_38 : decode cX7_net 38 = .ok (.aload_n 0, 1) := by decide +kernel
theorem dX7_net_39 : decode cX7_net 39 = .ok (.iconst 0, 1) := by decide +kernel
theorem dX7_net_40 : decode cX7_net 40 = .ok (.putfield 92, 3) := by decide +kernel
theorem dX7_net_43 : decode cX7_net 43 = .ok (.aload_n 0, 1) := by decide +kernel
theorem dX7_net_44 : decode cX7_net 44 = .ok (.getfield 23, 3) := by decide +kernel
theorem dX7_net_47 : decode cX7_net 47 = .ok (.iconst 0, 1) := by decide +kernel
theorem dX7_net_48 : decode cX7_net 48 = .ok (.iconst 0, 1) := by decide +kernel
theorem dX7_net_49 : decode cX7_net 49 = .ok (.iastore, 1) := by decide +kernel
theorem dX7_net_50 : decode cX7_net 50 = .ok (.aload_n 0, 1) := by decide +kernel
theorem dX7_net_51 : decode cX7_net 51 = .ok (.getfield 23, 3) := by decide +kernel
theorem dX7_net_54 : decode cX7_net 54 = .ok (.iconst 1, 1) := by decide +kernel
theorem dX7_net_55 : decode cX7_net 55 = .ok (.iconst 0, 1) := by decide +kernel
theorem dX7_net_56 : decode cX7_net 56 = .ok (.iastore, 1) := by decide +kernel
theorem dX7_net_57 : decode cX7_net 57 = .ok (.aload_n 0, 1) := by decide +kernel
theorem dX7_net_58 : decode cX7_net 58 = .ok (.invokevirtual 63, 3) := by decide +kernel
theorem dX7_net_61 : decode cX7_net 61 = .ok (.aload_n 0, 1) := by decide +kernel
theorem dX7_net_62 : decode cX7_net 62 = .ok (.getfield 147, 3) := by decide +kernel
theorem dX7_net_65 : decode cX7_net 65 = .ok (.ireturn, 1) := by decide +kernel
theorem dX7_put_0 : decode cX7_put 0 = .ok (.aload_n 0, 1) := by decide +kernel
theorem dX7_put_1 : decode cX7_put 1 = .ok (.iload_n 1, 1) := by decide +kernel
theorem dX7_put_2 : decode cX7_put 2 = .ok (.iload_n 2, 1) := by decide +kernel
theorem dX7_put_3 : decode cX7_put 3 = .ok (.invokevirtual 74, 3) := by decide +kernel
theorem dX7_put_6 : decode cX7_put 6 = .ok (.ifCond .ne 6, 3) := by decide +kernel
theorem dX7_put_9 : decode cX7_put 9 = .ok (.bipush (-2), 2) := by decide +kernel
theorem dX7_put_11 : decode cX7_put 11 = .ok (.ireturn, 1) := by decide +kernel
theorem dX7_put_12 : decode cX7_put 12 = .ok (.aload_n 0, 1) := by decide +kernel
theorem dX7_put_13 : decode cX7_put 13 = .ok (.iload_n 1, 1) := by decide +kernel
theorem dX7_put_14 : decode cX7_put 14 = .ok (.iload_n 2, 1) := by decide +kernel
theorem dX7_put_15 : decode cX7_put 15 = .ok (.invokevirtual 171, 3) := by decide +kernel
theorem dX7_put_18 : decode cX7_put 18 = .ok (.ifCond .eq 6, 3) := by decide +kernel
theorem dX7_put_21 : decode cX7_put 21 = .ok (.bipush (-4), 2) := by decide +kernel
theorem dX7_put_23 : decode cX7_put 23 = .ok (.ireturn, 1) := by decide +kernel
theorem dX7_put_24 : decode cX7_put 24 = .ok (.aload_n 0, 1) := by decide +kernel
theorem dX7_put_25 : decode cX7_put 25 = .ok (.invokevirtual 159, 3) := by decide +kernel
theorem dX7_put_28 : decode cX7_put 28 = .ok (.bipush 40, 2) := by decide +kernel
theorem dX7_put_30 : decode cX7_put 30 = .ok (.if_icmp .ne 6, 3) := by decide +kernel
theorem dX7_put_33 : decode cX7_put 33 = .ok (.bipush (-5), 2) := by decide +kernel
theorem dX7_put_35 : decode cX7_put 35 = .ok (.ireturn, 1) := by decide +kernel
theorem dX7_put_36 : decode cX7_put 36 = .ok (.aload_n 0, 1) := by decide +kernel
theorem dX7_put_37 : decode cX7_put 37 = .ok (.invokevirtual 174, 3) := by decide +kernel
theorem dX7_put_40 : decode cX7_put 40 = .ok (.istore_n 3, 1) := by decide +kernel
theorem dX7_put_41 : decode cX7_put 41 = .ok (.aload_n 0, 1) := by decide +kernel
theorem dX7_put_42 : decode cX7_put 42 = .ok (.invokevirtual 177, 3) := by decide +kernel
theorem dX7_put_45 : decode cX7_put 45 = .ok (.aload_n 0, 1) := by decide +kernel
theorem dX7_put_46 : decode cX7_put 46 = .ok (.iload_n 1, 1) := by decide +kernel
theorem dX7_put_47 : decode cX7_put 47 = .ok (.iload_n 2, 1) := by decide +kernel
theorem dX7_put_48 : decode cX7_put 48 = .ok (.invokevirtual 162, 3) := by decide +kernel
theorem dX7_put_51 : decode cX7_put 51 = .ok (.aload_n 0, 1) := by decide +kernel
theorem dX7_put_52 : decode cX7_put 52 = .ok (.invokevirtual 174, 3) := by decide +kernel
theorem dX7_put_55 : decode cX7_put 55 = .ok (.iload_n 3, 1) := by decide +kernel
theorem dX7_put_56 : decode cX7_put 56 = .ok (.isub, 1) := by decide +kernel
theorem dX7_put_57 : decode cX7_put 57 = .ok (.ireturn, 1) := by decide +kernel
theorem dX7_stoodOn_0 : decode cX7_stoodOn 0 = .ok (.iconst 0, 1) := by decide +kernel
theorem dX7_stoodOn_1 : decode cX7_stoodOn 1 = .ok (.istore 4, 2) := by decide +kernel
theorem dX7_stoodOn_3 : decode cX7_stoodOn 3 = .ok (.iconst 0, 1) := by decide +kernel
theorem dX7_stoodOn_4 : decode cX7_stoodOn 4 = .ok (.istore 5, 2) := by decide +kernel
theorem dX7_stoodOn_6 : decode cX7_stoodOn 6 = .ok (.iload 5, 2) := by decide +kernel
theorem dX7_stoodOn_8 : decode cX7_stoodOn 8 = .ok (.aload_n 0, 1) := by decide +kernel
theorem dX7_stoodOn_9 : decode cX7_stoodOn 9 = .ok (.getfield 7, 3) := by decide +kernel
theorem dX7_stoodOn_12 : decode cX7_stoodOn 12 = .ok (.if_icmp .ge 63, 3) := by decide +kernel
theorem dX7_stoodOn_15 : decode cX7_stoodOn 15 = .ok (.aload_n 0, 1) := by decide +kernel
theorem dX7_stoodOn_16 : decode cX7_stoodOn 16 = .ok (.getfield 13, 3) := by decide +kernel
theorem dX7_stoodOn_19 : decode cX7_stoodOn 19 = .ok (.bipush 10, 2) := by decide +kernel
theorem dX7_stoodOn_21 : decode cX7_stoodOn 21 = .ok (.bipush 10, 2) := by decide +kernel
theorem dX7_stoodOn_23 : decode cX7_stoodOn 23 = .ok (.iload_n 1, 1) := by decide +kernel
theorem dX7_stoodOn_24 : decode cX7_stoodOn 24 = .ok (.imul, 1) := by decide +kernel
theorem dX7_stoodOn_25 : decode cX7_stoodOn 25 = .ok (.iadd, 1) := by decide +kernel
theorem dX7_stoodOn_26 : decode cX7_stoodOn 26 = .ok (.iload 5, 2) := by decide +kernel
theorem dX7_stoodOn_28 : decode cX7_stoodOn 28 = .ok (.iadd, 1) := by decide +kernel
theorem dX7_stoodOn_29 : decode cX7_stoodOn 29 = .ok (.iaload, 1) := by decide +kernel
theorem dX7_stoodOn_30 : decode cX7_stoodOn 30 = .ok (.iconst 2, 1) := by decide +kernel
theorem dX7_stoodOn_31 : decode cX7_stoodOn 31 = .ok (.isub, 1) := by decide +kernel
theorem dX7_stoodOn_32 : decode cX7_stoodOn 32 = .ok (.istore 6, 2) := by decide +kernel
theorem dX7_stoodOn_34 : decode cX7_stoodOn 34 = .ok (.iload 4, 2) := by decide +kernel
theorem dX7_stoodOn_36 : decode cX7_stoodOn 36 = .ok (.ifCond .ne 26, 3) := by decide +kernel
theorem dX7_stoodOn_39 : decode cX7_stoodOn 39 = .ok (.iload 6, 2) := by decide +kernel
theorem dX7_stoodOn_41 : decode cX7_stoodOn 41 = .ok (.ifCond .lt 25, 3) := by decide +kernel
theorem dX7_stoodOn_44 : decode cX7_stoodOn 44 = .ok (.iload_n 3, 1) := by decide +kernel
theorem dX7_stoodOn_45 : decode cX7_stoodOn 45 = .ok (.iload 5, 2) := by decide +kernel
theorem dX7_stoodOn_47 : decode cX7_stoodOn 47 = .ok (.invokestatic 78, 3) := by decide +kernel
theorem dX7_stoodOn_50 : decode cX7_stoodOn 50 = .ok (.ifCond .eq 16, 3) := by decide +kernel
theorem dX7_stoodOn_53 : decode cX7_stoodOn 53 = .ok (.iload_n 2, 1) := by decide +kernel
theorem dX7_stoodOn_54 : decode cX7_stoodOn 54 = .ok (.iload 6, 2) := by decide +kernel
theorem dX7_stoodOn_56 : decode cX7_stoodOn 56 = .ok (.invokestatic 78, 3) := by decide +kernel
theorem dX7_stoodOn_59 : decode cX7_stoodOn 59 = .ok (.ifCond .eq 7, 3) := by decide +kernel
theorem dX7_stoodOn_62 : decode cX7_stoodOn 62 = .ok (.iconst 1, 1) := by decide +kernel
theorem dX7_stoodOn_63 : decode cX7_stoodOn 63 = .ok (.goto 4, 3) := by decide +kernel
theorem dX7_stoodOn_66 : decode cX7_stoodOn 66 = .ok (.iconst 0, 1) := by decide +kernel
theorem dX7_stoodOn_67 : decode cX7_stoodOn 67 = .ok (.istore 4, 2) := by decide +kernel
theorem dX7_stoodOn_69 : decode cX7_stoodOn 69 = .ok (.iinc 5 1, 3) := by decide +kernel
theorem dX7_stoodOn_72 : decode cX7_stoodOn 72 = .ok (.goto (-66), 3) := by decide +kernel
theorem dX7_stoodOn_75 : decode cX7_stoodOn 75 = .ok (.iload 4, 2) := by decide +kernel
theorem dX7_stoodOn_77 : decode cX7_stoodOn 77 = .ok (.ireturn, 1) := by decide +kernel
theorem dX7_take_0 : decode cX7_take 0 = .ok (.iconst 1, 1) := by decide +kernel
theorem dX7_take_1 : decode cX7_take 1 = .ok (.aload_n 0, 1) := by decide +kernel
theorem dX7_take_2 : decode cX7_take 2 = .ok (.getfield 7, 3) := by decide +kernel
theorem dX7_take_5 : decode cX7_take 5 = .ok (.ishl, 1) := by decide +kernel
theorem dX7_take_6 : decode cX7_take 6 = .ok (.iconst 1, 1) := by decide +kernel
theorem dX7_take_7 : decode cX7_take 7 = .ok (.isub, 1) := by decide +kernel
theorem dX7_take_8 : decode cX7_take 8 = .ok (.istore_n 3, 1) := by decide +kernel
theorem dX7_take_9 : decode cX7_take 9 = .ok (.iload_n 1, 1) := by decide +kernel
theorem dX7_take_10 : decode cX7_take 10 = .ok (.iload_n 3, 1) := by decide +kernel
theorem dX7_take_11 : decode cX7_take 11 = .ok (.iconst (-1), 1) := by decide +kernel
theorem dX7_take_12 : decode cX7_take 12 = .ok (.ixor, 1) := by decide +kernel
theorem dX7_take_13 : decode cX7_take 13 = .ok (.iand, 1) := by decide +kernel
theorem dX7_take_14 : decode cX7_take 14 = .ok (.ifCond .ne 11, 3) := by decide +kernel
theorem dX7_take_17 : decode cX7_take 17 = .ok (.iload_n 2, 1) := by decide +kernel
theorem dX7_take_18 : decode cX7_take 18 = .ok (.iload_n 3, 1) := by decide +kernel
theorem dX7_take_19 : decode cX7_take 19 = .ok (.iconst (-1), 1) := by decide +kernel
theorem dX7_take_20 : decode cX7_take 20 = .ok (.ixor, 1) := by decide +kernel
theorem dX7_take_21 : decode cX7_take 21 = .ok (.iand, 1) := by decide +kernel
theorem dX7_take_22 : decode cX7_take 22 = .ok (.ifCond .eq 6, 3) := by decide +kernel
theorem dX7_take_25 : decode cX7_take 25 = .ok (.bipush (-3), 2) := by decide +kernel
theorem dX7_take_27 : decode cX7_take 27 = .ok (.ireturn, 1) := by decide +kernel
theorem dX7_take_28 : decode cX7_take 28 = .ok (.aload_n 0, 1) := by decide +kernel
theorem dX7_take_29 : decode cX7_take 29 = .ok (.invokevirtual 159, 3) := by decide +kernel
theorem dX7_take_32 : decode cX7_take 32 = .ok (.istore 4, 2) := by decide +kernel
theorem dX7_take_34 : decode cX7_take 34 = .ok (.iconst 0, 1) := by decide +kernel
theorem dX7_take_35 : decode cX7_take 35 = .ok (.istore 5, 2) := by decide +kernel
theorem dX7_take_37 : decode cX7_take 37 = .ok (.iconst 0, 1) := by decide +kernel
theorem dX7_take_38 : decode cX7_take 38 = .ok (.istore 6, 2) := by decide +kernel
theorem dX7_take_40 : decode cX7_take 40 = .ok (.iload 6, 2) := by decide +kernel
theorem dX7_take_42 : decode cX7_take 42 = .ok (.aload_n 0, 1) := by decide +kernel
theorem dX7_take_43 : decode cX7_take 43 = .ok (.getfield 7, 3) := by decide +kernel
theorem dX7_take_46 : decode cX7_take 46 = .ok (.if_icmp .ge 41, 3) := by decide +kernel
theorem dX7_take_49 : decode cX7_take 49 = .ok (.iload 5, 2) := by decide +kernel
theorem dX7_take_51 : decode cX7_take 51 = .ok (.iload_n 1, 1) := by decide +kernel
theorem dX7_take_52 : decode cX7_take 52 = .ok (.iload 6, 2) := by decide +kernel
theorem dX7_take_54 : decode cX7_take 54 = .ok (.invokestatic 78, 3) := by decide +kernel
theorem dX7_take_57 : decode cX7_take 57 = .ok (.ifCond .eq 20, 3) := by decide +kernel
theorem dX7_take_60 : decode cX7_take 60 = .ok (.aload_n 0, 1) := by decide +kernel
theorem dX7_take_61 : decode cX7_take 61 = .ok (.getfield 13, 3) := by decide +kernel
theorem dX7_take_64 : decode cX7_take 64 = .ok (.iconst 0, 1) := by decide +kernel
theorem dX7_take_65 : decode cX7_take 65 = .ok (.iload 6, 2) := by decide +kernel
theorem dX7_take_67 : decode cX7_take 67 = .ok (.iadd, 1) := by decide +kernel
theorem dX7_take_68 : decode cX7_take 68 = .ok (.iaload, 1) := by decide +kernel
theorem dX7_take_69 : decode cX7_take 69 = .ok (.iload_n 2, 1) := by decide +kernel
theorem dX7_take_70 : decode cX7_take 70 = .ok (.iand, 1) := by decide +kernel
theorem dX7_take_71 : decode cX7_take 71 = .ok (.invokestatic 81, 3) := by decide +kernel
theorem dX7_take_74 : decode cX7_take 74 = .ok (.goto 4, 3) := by decide +kernel
theorem dX7_take_77 : decode cX7_take 77 = .ok (.iconst 0, 1) := by decide +kernel
theorem dX7_take_78 : decode cX7_take 78 = .ok (.iadd, 1) := by decide +kernel
theorem dX7_take_79 : decode cX7_take 79 = .ok (.istore 5, 2) := by decide +kernel
theorem dX7_take_81 : decode cX7_take 81 = .ok (.iinc 6 1, 3) := by decide +kernel
theorem dX7_take_84 : decode cX7_take 84 = .ok (.goto (-44), 3) := by decide +kernel
theorem dX7_take_87 : decode cX7_take 87 = .ok (.iload 5, 2) := by decide +kernel
theorem dX7_take_89 : decode cX7_take 89 = .ok (.ifCond .ne 6, 3) := by decide +kernel
theorem dX7_take_92 : decode cX7_take 92 = .ok (.bipush (-4), 2) := by decide +kernel
theorem dX7_take_94 : decode cX7_take 94 = .ok (.ireturn, 1) := by decide +kernel
theorem dX7_take_95 : decode cX7_take 95 = .ok (.aload_n 0, 1) := by decide +kernel
theorem dX7_take_96 : decode cX7_take 96 = .ok (.invokevirtual 177, 3) := by decide +kernel
theorem dX7_take_99 : decode cX7_take 99 = .ok (.iconst 0, 1) := by decide +kernel
theorem dX7_take_100 : decode cX7_take 100 = .ok (.istore 6, 2) := by decide +kernel
theorem dX7_take_102 : decode cX7_take 102 = .ok (.iload 6, 2) := by decide +kernel
theorem dX7_take_104 : decode cX7_take 104 = .ok (.aload_n 0, 1) := by decide +kernel
theorem dX7_take_105 : decode cX7_take 105 = .ok (.getfield 7, 3) := by decide +kernel
theorem dX7_take_108 : decode cX7_take 108 = .ok (.if_icmp .ge 37, 3) := by decide +kernel
theorem dX7_take_111 : decode cX7_take 111 = .ok (.aload_n 0, 1) := by decide +kernel
theorem dX7_take_112 : decode cX7_take 112 = .ok (.getfield 13, 3) := by decide +kernel
theorem dX7_take_115 : decode cX7_take 115 = .ok (.iconst 0, 1) := by decide +kernel
theorem dX7_take_116 : decode cX7_take 116 = .ok (.iload 6, 2) := by decide +kernel
theorem dX7_take_118 : decode cX7_take 118 = .ok (.iadd, 1) := by decide +kernel
theorem dX7_take_119 : decode cX7_take 119 = .ok (.dup2, 1) := by decide +kernel
theorem dX7_take_120 : decode cX7_take 120 = .ok (.iaload, 1) := by decide +kernel
theorem dX7_take_121 : decode cX7_take 121 = .ok (.iload_n 1, 1) := by decide +kernel
theorem dX7_take_122 : decode cX7_take 122 = .ok (.iload 6, 2) := by decide +kernel
theorem dX7_take_124 : decode cX7_take 124 = .ok (.invokestatic 78, 3) := by decide +kernel
theorem dX7_take_127 : decode cX7_take 127 = .ok (.ifCond .eq 9, 3) := by decide +kernel
theorem dX7_take_130 : decode cX7_take 130 = .ok (.iload_n 2, 1) := by decide +kernel
theorem dX7_take_131 : decode cX7_take 131 = .ok (.iconst (-1), 1) := by decide +kernel
theorem dX7_take_132 : decode cX7_take 132 = .ok (.ixor, 1) := by decide +kernel
theorem dX7_take_133 : decode cX7_take 133 = .ok (.goto 4, 3) := by decide +kernel
theorem dX7_take_136 : decode cX7_take 136 = .ok (.iload_n 3, 1) := by decide +kernel
theorem dX7_take_137 : decode cX7_take 137 = .ok (.iand, 1) := by decide +kernel
theorem dX7_take_138 : decode cX7_take 138 = .ok (.iastore, 1) := by decide +kernel
theorem dX7_take_139 : decode cX7_take 139 = .ok (.iinc 6 1, 3) := by decide +kernel
theorem dX7_take_142 : decode cX7_take 142 = .ok (.goto (-40), 3) := by decide +kernel
theorem dX7_take_145 : decode cX7_take 145 = .ok (.iconst 0, 1) := by decide +kernel
theorem dX7_take_146 : decode cX7_take 146 = .ok (.istore 6, 2) := by decide +kernel
theorem dX7_take_148 : decode cX7_take 148 = .ok (.iload 6, 2) := by decide +kernel
theorem dX7_take_150 : decode cX7_take 150 = .ok (.aload_n 0, 1) := by decide +kernel
theorem dX7_take_151 : decode cX7_take 151 = .ok (.getfield 7, 3) := by decide +kernel
theorem dX7_take_154 : decode cX7_take 154 = .ok (.if_icmp .ge 26, 3) := by decide +kernel
theorem dX7_take_157 : decode cX7_take 157 = .ok (.aload_n 0, 1) := by decide +kernel
theorem dX7_take_158 : decode cX7_take 158 = .ok (.iload 6, 2) := by decide +kernel
theorem dX7_take_160 : decode cX7_take 160 = .ok (.iload_n 1, 1) := by decide +kernel
theorem dX7_take_161 : decode cX7_take 161 = .ok (.iload_n 2, 1) := by decide +kernel
theorem dX7_take_162 : decode cX7_take 162 = .ok (.invokevirtual 180, 3) := by decide +kernel
theorem dX7_take_165 : decode cX7_take 165 = .ok (.ifCond .eq 9, 3) := by decide +kernel
theorem dX7_take_168 : decode cX7_take 168 = .ok (.aload_n 0, 1) := by decide +kernel
theorem dX7_take_169 : decode cX7_take 169 = .ok (.iload 6, 2) := by decide +kernel
theorem dX7_take_171 : decode cX7_take 171 = .ok (.invokevirtual 184, 3) := by decide +kernel
theorem dX7_take_174 : decode cX7_take 174 = .ok (.iinc 6 1, 3) := by decide +kernel
theorem dX7_take_177 : decode cX7_take 177 = .ok (.goto (-29), 3) := by decide +kernel
theorem dX7_take_180 : decode cX7_take 180 = .ok (.iload 4, 2) := by decide +kernel
theorem dX7_take_182 : decode cX7_take 182 = .ok (.aload_n 0, 1) := by decide +kernel
theorem dX7_take_183 : decode cX7_take 183 = .ok (.invokevirtual 159, 3) := by decide +kernel
theorem dX7_take_186 : decode cX7_take 186 = .ok (.isub, 1) := by decide +kernel
theorem dX7_take_187 : decode cX7_take 187 = .ok (.ireturn, 1) := by decide +kernel
theorem dX7_clear_0 : decode cX7_clear 0 = .ok (.aload_n 0, 1) := by decide +kernel
theorem dX7_clear_1 : decode cX7_clear 1 = .ok (.getfield 13, 3) := by decide +kernel
theorem dX7_clear_4 : decode cX7_clear 4 = .ok (.bipush 110, 2) := by decide +kernel
theorem dX7_clear_6 : decode cX7_clear 6 = .ok (.iaload, 1) := by decide +kernel
theorem dX7_clear_7 : decode cX7_clear 7 = .ok (.ifCond .ne 6, 3) := by decide +kernel
theorem dX7_clear_10 : decode cX7_clear 10 = .ok (.bipush (-4), 2) := by decide +kernel
theorem dX7_clear_12 : decode cX7_clear 12 = .ok (.ireturn, 1) := by decide +kernel
theorem dX7_clear_13 : decode cX7_clear 13 = .ok (.aload_n 0, 1) := by decide +kernel
theorem dX7_clear_14 : decode cX7_clear 14 = .ok (.invokevirtual 177, 3) := by decide +kernel
theorem dX7_clear_17 : decode cX7_clear 17 = .ok (.aload_n 0, 1) := by decide +kernel
theorem dX7_clear_18 : decode cX7_clear 18 = .ok (.getfield 13, 3) := by decide +kernel
theorem dX7_clear_21 : decode cX7_clear 21 = .ok (.bipush 110, 2) := by decide +kernel
theorem dX7_clear_23 : decode cX7_clear 23 = .ok (.iaload, 1) := by decide +kernel
theorem dX7_clear_24 : decode cX7_clear 24 = .ok (.istore_n 1, 1) := by decide +kernel
theorem dX7_clear_25 : decode cX7_clear 25 = .ok (.aload_n 0, 1) := by decide +kernel
theorem dX7_clear_26 : decode cX7_clear 26 = .ok (.getfield 13, 3) := by decide +kernel
theorem dX7_clear_29 : decode cX7_clear 29 = .ok (.bipush 110, 2) := by decide +kernel
theorem dX7_clear_31 : decode cX7_clear 31 = .ok (.iconst 0, 1) := by decide +kernel
theorem dX7_clear_32 : decode cX7_clear 32 = .ok (.iastore, 1) := by decide +kernel
theorem dX7_clear_33 : decode cX7_clear 33 = .ok (.iload_n 1, 1) := by decide +kernel
theorem dX7_clear_34 : decode cX7_clear 34 = .ok (.ireturn, 1) := by decide +kernel
theorem dX7_undo_0 : decode cX7_undo 0 = .ok (.aload_n 0, 1) := by decide +kernel
theorem dX7_undo_1 : decode cX7_undo 1 = .ok (.getfield 92, 3) := by decide +kernel
theorem dX7_undo_4 : decode cX7_undo 4 = .ok (.ifCond .ne 6, 3) := by decide +kernel
theorem dX7_undo_7 : decode cX7_undo 7 = .ok (.bipush (-4), 2) := by decide +kernel
theorem dX7_undo_9 : decode cX7_undo 9 = .ok (.ireturn, 1) := by decide +kernel
theorem dX7_undo_10 : decode cX7_undo 10 = .ok (.aload_n 0, 1) := by decide +kernel
theorem dX7_undo_11 : decode cX7_undo 11 = .ok (.dup, 1) := by decide +kernel
theorem dX7_undo_12 : decode cX7_undo 12 = .ok (.getfield 92, 3) := by decide +kernel
theorem dX7_undo_15 : decode cX7_undo 15 = .ok (.iconst 1, 1) := by decide +kernel
theorem dX7_undo_16 : decode cX7_undo 16 = .ok (.isub, 1) := by decide +kernel
theorem dX7_undo_17 : decode cX7_undo 17 = .ok (.putfield 92, 3) := by decide +kernel
theorem dX7_undo_20 : decode cX7_undo 20 = .ok (.iconst 0, 1) := by decide +kernel
theorem dX7_undo_21 : decode cX7_undo 21 = .ok (.istore_n 1, 1) := by decide +kernel
theorem dX7_undo_22 : decode cX7_undo 22 = .ok (.iload_n 1, 1) := by decide +kernel
theorem dX7_undo_23 : decode cX7_undo 23 = .ok (.bipush 111, 2) := by decide +kernel
theorem dX7_undo_25 : decode cX7_undo 25 = .ok (.if_icmp .ge 29, 3) := by decide +kernel
theorem dX7_undo_28 : decode cX7_undo 28 = .ok (.aload_n 0, 1) := by decide +kernel
theorem dX7_undo_29 : decode cX7_undo 29 = .ok (.getfield 13, 3) := by decide +kernel
theorem dX7_undo_32 : decode cX7_undo 32 = .ok (.iload_n 1, 1) := by decide +kernel
theorem dX7_undo_33 : decode cX7_undo 33 = .ok (.aload_n 0, 1) := by decide +kernel
theorem dX7_undo_34 : decode cX7_undo 34 = .ok (.getfield 17, 3) := by decide +kernel
theorem dX7_undo_37 : decode cX7_undo 37 = .ok (.bipush 111, 2) := by decide +kernel
theorem dX7_undo_39 : decode cX7_undo 39 = .ok (.aload_n 0, 1) := by decide +kernel
theorem dX7_undo_40 : decode cX7_undo 40 = .ok (.getfield 92, 3) := by decide +kernel
theorem dX7_undo_43 : decode cX7_undo 43 = .ok (.imul, 1) := by decide +kernel
theorem dX7_undo_44 : decode cX7_undo 44 = .ok (.iload_n 1, 1) := by decide +kernel
theorem dX7_undo_45 : decode cX7_undo 45 = .ok (.iadd, 1) := by decide +kernel
theorem dX7_undo_46 : decode cX7_undo 46 = .ok (.iaload, 1) := by decide +kernel
theorem dX7_undo_47 : decode cX7_undo 47 = .ok (.iastore, 1) := by decide +kernel
theorem dX7_undo_48 : decode cX7_undo 48 = .ok (.iinc 1 1, 3) := by decide +kernel
theorem dX7_undo_51 : decode cX7_undo 51 = .ok (.goto (-29), 3) := by decide +kernel
theorem dX7_undo_54 : decode cX7_undo 54 = .ok (.aload_n 0, 1) := by decide +kernel
theorem dX7_undo_55 : decode cX7_undo 55 = .ok (.getfield 92, 3) := by decide +kernel
theorem dX7_undo_58 : decode cX7_undo 58 = .ok (.ireturn, 1) := by decide +kernel
theorem dX7_keep_0 : decode cX7_keep 0 = .ok (.iload_n 1, 1) := by decide +kernel
theorem dX7_keep_1 : decode cX7_keep 1 = .ok (.i2l, 1) := by decide +kernel
theorem dX7_keep_2 : decode cX7_keep 2 = .ok (.lconst 0, 1) := by decide +kernel
theorem dX7_keep_3 : decode cX7_keep 3 = .ok (.lconst 1, 1) := by decide +kernel
theorem dX7_keep_4 : decode cX7_keep 4 = .ok (.invokestatic 66, 3) := by decide +kernel
theorem dX7_keep_7 : decode cX7_keep 7 = .ok (.ifCond .ne 6, 3) := by decide +kernel
theorem dX7_keep_10 : decode cX7_keep 10 = .ok (.bipush (-2), 2) := by decide +kernel
theorem dX7_keep_12 : decode cX7_keep 12 = .ok (.ireturn, 1) := by decide +kernel
theorem dX7_keep_13 : decode cX7_keep 13 = .ok (.iconst 0, 1) := by decide +kernel
theorem dX7_keep_14 : decode cX7_keep 14 = .ok (.istore_n 2, 1) := by decide +kernel
theorem dX7_keep_15 : decode cX7_keep 15 = .ok (.iload_n 2, 1) := by decide +kernel
theorem dX7_keep_16 : decode cX7_keep 16 = .ok (.bipush 111, 2) := by decide +kernel
theorem dX7_keep_18 : decode cX7_keep 18 = .ok (.if_icmp .ge 26, 3) := by decide +kernel
theorem dX7_keep_21 : decode cX7_keep 21 = .ok (.aload_n 0, 1) := by decide +kernel
theorem dX7_keep_22 : decode cX7_keep 22 = .ok (.getfield 20, 3) := by decide +kernel
theorem dX7_keep_25 : decode cX7_keep 25 = .ok (.bipush 111, 2) := by decide +kernel
theorem dX7_keep_27 : decode cX7_keep 27 = .ok (.iload_n 1, 1) := by decide +kernel
theorem dX7_keep_28 : decode cX7_keep 28 = .ok (.imul, 1) := by decide +kernel
theorem dX7_keep_29 : decode cX7_keep 29 = .ok (.iload_n 2, 1) := by decide +kernel
theorem dX7_keep_30 : decode cX7_keep 30 = .ok (.iadd, 1) := by decide +kernel
theorem dX7_keep_31 : decode cX7_keep 31 = .ok (.aload_n 0, 1) := by decide +kernel
theorem dX7_keep_32 : decode cX7_keep 32 = .ok (.getfield 13, 3) := by decide +kernel
theorem dX7_keep_35 : decode cX7_keep 35 = .ok (.iload_n 2, 1) := by decide +kernel
theorem dX7_keep_36 : decode cX7_keep 36 = .ok (.iaload, 1) := by decide +kernel
theorem dX7_keep_37 : decode cX7_keep 37 = .ok (.iastore, 1) := by decide +kernel
theorem dX7_keep_38 : decode cX7_keep 38 = .ok (.iinc 2 1, 3) := by decide +kernel
theorem dX7_keep_41 : decode cX7_keep 41 = .ok (.goto (-26), 3) := by decide +kernel
theorem dX7_keep_44 : decode cX7_keep 44 = .ok (.aload_n 0, 1) := by decide +kernel
theorem dX7_keep_45 : decode cX7_keep 45 = .ok (.getfield 23, 3) := by decide +kernel
theorem dX7_keep_48 : decode cX7_keep 48 = .ok (.iload_n 1, 1) := by decide +kernel
theorem dX7_keep_49 : decode cX7_keep 49 = .ok (.iconst 1, 1) := by decide +kernel
theorem dX7_keep_50 : decode cX7_keep 50 = .ok (.iastore, 1) := by decide +kernel
theorem dX7_keep_51 : decode cX7_keep 51 = .ok (.aload_n 0, 1) := by decide +kernel
theorem dX7_keep_52 : decode cX7_keep 52 = .ok (.invokevirtual 159, 3) := by decide +kernel
theorem dX7_keep_55 : decode cX7_keep 55 = .ok (.ireturn, 1) := by decide +kernel
theorem dX7_back_0 : decode cX7_back 0 = .ok (.iload_n 1, 1) := by decide +kernel
theorem dX7_back_1 : decode cX7_back 1 = .ok (.i2l, 1) := by decide +kernel
theorem dX7_back_2 : decode cX7_back 2 = .ok (.lconst 0, 1) := by decide +kernel
theorem dX7_back_3 : decode cX7_back 3 = .ok (.lconst 1, 1) := by decide +kernel
theorem dX7_back_4 : decode cX7_back 4 = .ok (.invokestatic 66, 3) := by decide +kernel
theorem dX7_back_7 : decode cX7_back 7 = .ok (.ifCond .ne 6, 3) := by decide +kernel
theorem dX7_back_10 : decode cX7_back 10 = .ok (.bipush (-2), 2) := by decide +kernel
theorem dX7_back_12 : decode cX7_back 12 = .ok (.ireturn, 1) := by decide +kernel
theorem dX7_back_13 : decode cX7_back 13 = .ok (.aload_n 0, 1) := by decide +kernel
theorem dX7_back_14 : decode cX7_back 14 = .ok (.getfield 23, 3) := by decide +kernel
theorem dX7_back_17 : decode cX7_back 17 = .ok (.iload_n 1, 1) := by decide +kernel
theorem dX7_back_18 : decode cX7_back 18 = .ok (.iaload, 1) := by decide +kernel
theorem dX7_back_19 : decode cX7_back 19 = .ok (.ifCond .ne 6, 3) := by decide +kernel
theorem dX7_back_22 : decode cX7_back 22 = .ok (.bipush (-4), 2) := by decide +kernel
theorem dX7_back_24 : decode cX7_back 24 = .ok (.ireturn, 1) := by decide +kernel
theorem dX7_back_25 : decode cX7_back 25 = .ok (.iconst 0, 1) := by decide +kernel
theorem dX7_back_26 : decode cX7_back 26 = .ok (.istore_n 2, 1) := by decide +kernel
theorem dX7_back_27 : decode cX7_back 27 = .ok (.iload_n 2, 1) := by decide +kernel
theorem dX7_back_28 : decode cX7_back 28 = .ok (.bipush 111, 2) := by decide +kernel
theorem dX7_back_30 : decode cX7_back 30 = .ok (.if_icmp .ge 26, 3) := by decide +kernel
theorem dX7_back_33 : decode cX7_back 33 = .ok (.aload_n 0, 1) := by decide +kernel
theorem dX7_back_34 : decode cX7_back 34 = .ok (.getfield 13, 3) := by decide +kernel
theorem dX7_back_37 : decode cX7_back 37 = .ok (.iload_n 2, 1) := by decide +kernel
theorem dX7_back_38 : decode cX7_back 38 = .ok (.aload_n 0, 1) := by decide +kernel
theorem dX7_back_39 : decode cX7_back 39 = .ok (.getfield 20, 3) := by decide +kernel
theorem dX7_back_42 : decode cX7_back 42 = .ok (.bipush 111, 2) := by decide +kernel
theorem dX7_back_44 : decode cX7_back 44 = .ok (.iload_n 1, 1) := by decide +kernel
theorem dX7_back_45 : decode cX7_back 45 = .ok (.imul, 1) := by decide +kernel
theorem dX7_back_46 : decode cX7_back 46 = .ok (.iload_n 2, 1) := by decide +kernel
theorem dX7_back_47 : decode cX7_back 47 = .ok (.iadd, 1) := by decide +kernel
theorem dX7_back_48 : decode cX7_back 48 = .ok (.iaload, 1) := by decide +kernel
theorem dX7_back_49 : decode cX7_back 49 = .ok (.iastore, 1) := by decide +kernel
theorem dX7_back_50 : decode cX7_back 50 = .ok (.iinc 2 1, 3) := by decide +kernel
theorem dX7_back_53 : decode cX7_back 53 = .ok (.goto (-26), 3) := by decide +kernel
theorem dX7_back_56 : decode cX7_back 56 = .ok (.aload_n 0, 1) := by decide +kernel
theorem dX7_back_57 : decode cX7_back 57 = .ok (.iconst 0, 1) := by decide +kernel
theorem dX7_back_58 : decode cX7_back 58 = .ok (.putfield 92, 3) := by decide +kernel
theorem dX7_back_61 : decode cX7_back 61 = .ok (.aload_n 0, 1) := by decide +kernel
theorem dX7_back_62 : decode cX7_back 62 = .ok (.invokevirtual 159, 3) := by decide +kernel
theorem dX7_back_65 : decode cX7_back 65 = .ok (.ireturn, 1) := by decide +kernel
theorem dX7_arc_0 : decode cX7_arc 0 = .ok (.aload_n 0, 1) := by decide +kernel
theorem dX7_arc_1 : decode cX7_arc 1 = .ok (.iload_n 1, 1) := by decide +kernel
theorem dX7_arc_2 : decode cX7_arc 2 = .ok (.iload_n 2, 1) := by decide +kernel
theorem dX7_arc_3 : decode cX7_arc 3 = .ok (.invokevirtual 74, 3) := by decide +kernel
theorem dX7_arc_6 : decode cX7_arc 6 = .ok (.ifCond .ne 8, 3) := by decide +kernel
theorem dX7_arc_9 : decode cX7_arc 9 = .ok (.bipush (-2), 2) := by decide +kernel
theorem dX7_arc_11 : decode cX7_arc 11 = .ok (.goto 17, 3) := by decide +kernel
theorem dX7_arc_14 : decode cX7_arc 14 = .ok (.aload_n 0, 1) := by decide +kernel
theorem dX7_arc_15 : decode cX7_arc 15 = .ok (.iload_n 1, 1) := by decide +kernel
theorem dX7_arc_16 : decode cX7_arc 16 = .ok (.iload_n 2, 1) := by decide +kernel
theorem dX7_arc_17 : decode cX7_arc 17 = .ok (.invokevirtual 171, 3) := by decide +kernel
theorem dX7_arc_20 : decode cX7_arc 20 = .ok (.ifCond .eq 7, 3) := by decide +kernel
theorem dX7_arc_23 : decode cX7_arc 23 = .ok (.iconst 1, 1) := by decide +kernel
theorem dX7_arc_24 : decode cX7_arc 24 = .ok (.goto 4, 3) := by decide +kernel
theorem dX7_arc_27 : decode cX7_arc 27 = .ok (.iconst 0, 1) := by decide +kernel
theorem dX7_arc_28 : decode cX7_arc 28 = .ok (.ireturn, 1) := by decide +kernel
theorem dX7_reaches_0 : decode cX7_reaches 0 = .ok (.aload_n 0, 1) := by decide +kernel
theorem dX7_reaches_1 : decode cX7_reaches 1 = .ok (.iload_n 1, 1) := by decide +kernel
theorem dX7_reaches_2 : decode cX7_reaches 2 = .ok (.invokevirtual 70, 3) := by decide +kernel
theorem dX7_reaches_5 : decode cX7_reaches 5 = .ok (.ifCond .eq 11, 3) := by decide +kernel
theorem dX7_reaches_8 : decode cX7_reaches 8 = .ok (.aload_n 0, 1) := by decide +kernel
theorem dX7_reaches_9 : decode cX7_reaches 9 = .ok (.iload_n 2, 1) := by decide +kernel
theorem dX7_reaches_10 : decode cX7_reaches 10 = .ok (.invokevirtual 70, 3) := by decide +kernel
theorem dX7_reaches_13 : decode cX7_reaches 13 = .ok (.ifCond .ne 8, 3) := by decide +kernel
theorem dX7_reaches_16 : decode cX7_reaches 16 = .ok (.bipush (-2), 2) := by decide +kernel
theorem dX7_reaches_18 : decode cX7_reaches 18 = .ok (.goto 17, 3) := by decide +kernel
theorem dX7_reaches_21 : decode cX7_reaches 21 = .ok (.aload_n 0, 1) := by decide +kernel
theorem dX7_reaches_22 : decode cX7_reaches 22 = .ok (.iload_n 1, 1) := by decide +kernel
theorem dX7_reaches_23 : decode cX7_reaches 23 = .ok (.iload_n 2, 1) := by decide +kernel
theorem dX7_reaches_24 : decode cX7_reaches 24 = .ok (.invokevirtual 85, 3) := by decide +kernel
theorem dX7_reaches_27 : decode cX7_reaches 27 = .ok (.ifCond .eq 7, 3) := by decide +kernel
theorem dX7_reaches_30 : decode cX7_reaches 30 = .ok (.iconst 1, 1) := by decide +kernel
theorem dX7_reaches_31 : decode cX7_reaches 31 = .ok (.goto 4, 3) := by decide +kernel
theorem dX7_reaches_34 : decode cX7_reaches 34 = .ok (.iconst 0, 1) := by decide +kernel
theorem dX7_reaches_35 : decode cX7_reaches 35 = .ok (.ireturn, 1) := by decide +kernel
theorem dX7_aboveOf_0 : decode cX7_aboveOf 0 = .ok (.aload_n 0, 1) := by decide +kernel
theorem dX7_aboveOf_1 : decode cX7_aboveOf 1 = .ok (.getfield 13, 3) := by decide +kernel
theorem dX7_aboveOf_4 : decode cX7_aboveOf 4 = .ok (.bipush 10, 2) := by decide +kernel
theorem dX7_aboveOf_6 : decode cX7_aboveOf 6 = .ok (.bipush 10, 2) := by decide +kernel
theorem dX7_aboveOf_8 : decode cX7_aboveOf 8 = .ok (.iload_n 1, 1) := by decide +kernel
theorem dX7_aboveOf_9 : decode cX7_aboveOf 9 = .ok (.imul, 1) := by decide +kernel
theorem dX7_aboveOf_10 : decode cX7_aboveOf 10 = .ok (.iadd, 1) := by decide +kernel
theorem dX7_aboveOf_11 : decode cX7_aboveOf 11 = .ok (.iload_n 2, 1) := by decide +kernel
theorem dX7_aboveOf_12 : decode cX7_aboveOf 12 = .ok (.iadd, 1) := by decide +kernel
theorem dX7_aboveOf_13 : decode cX7_aboveOf 13 = .ok (.iaload, 1) := by decide +kernel
theorem dX7_aboveOf_14 : decode cX7_aboveOf 14 = .ok (.istore_n 3, 1) := by decide +kernel
theorem dX7_aboveOf_15 : decode cX7_aboveOf 15 = .ok (.iload_n 3, 1) := by decide +kernel
theorem dX7_aboveOf_16 : decode cX7_aboveOf 16 = .ok (.iconst 2, 1) := by decide +kernel
theorem dX7_aboveOf_17 : decode cX7_aboveOf 17 = .ok (.if_icmp .ge 7, 3) := by decide +kernel
theorem dX7_aboveOf_20 : decode cX7_aboveOf 20 = .ok (.iconst (-1), 1) := by decide +kernel
theorem dX7_aboveOf_21 : decode cX7_aboveOf 21 = .ok (.goto 6, 3) := by decide +kernel
theorem dX7_aboveOf_24 : decode cX7_aboveOf 24 = .ok (.iload_n 3, 1) := by decide +kernel
theorem dX7_aboveOf_25 : decode cX7_aboveOf 25 = .ok (.iconst 2, 1) := by decide +kernel
theorem dX7_aboveOf_26 : decode cX7_aboveOf 26 = .ok (.isub, 1) := by decide +kernel
theorem dX7_aboveOf_27 : decode cX7_aboveOf 27 = .ok (.ireturn, 1) := by decide +kernel
theorem dX7_above_0 : decode cX7_above 0 = .ok (.aload_n 0, 1) := by decide +kernel
theorem dX7_above_1 : decode cX7_above 1 = .ok (.iload_n 1, 1) := by decide +kernel
theorem dX7_above_2 : decode cX7_above 2 = .ok (.invokevirtual 70, 3) := by decide +kernel
theorem dX7_above_5 : decode cX7_above 5 = .ok (.ifCond .eq 20, 3) := by decide +kernel
theorem dX7_above_8 : decode cX7_above 8 = .ok (.aload_n 0, 1) := by decide +kernel
theorem dX7_above_9 : decode cX7_above 9 = .ok (.iload_n 2, 1) := by decide +kernel
theorem dX7_above_10 : decode cX7_above 10 = .ok (.invokevirtual 70, 3) := by decide +kernel
theorem dX7_above_13 : decode cX7_above 13 = .ok (.ifCond .eq 12, 3) := by decide +kernel
theorem dX7_above_16 : decode cX7_above 16 = .ok (.aload_n 0, 1) := by decide +kernel
theorem dX7_above_17 : decode cX7_above 17 = .ok (.iload_n 1, 1) := by decide +kernel
theorem dX7_above_18 : decode cX7_above 18 = .ok (.iload_n 2, 1) := by decide +kernel
theorem dX7_above_19 : decode cX7_above 19 = .ok (.invokevirtual 187, 3) := by decide +kernel
theorem dX7_above_22 : decode cX7_above 22 = .ok (.goto 5, 3) := by decide +kernel
theorem dX7_above_25 : decode cX7_above 25 = .ok (.bipush (-2), 2) := by decide +kernel
theorem dX7_above_27 : decode cX7_above 27 = .ok (.ireturn, 1) := by decide +kernel
theorem dX7_way_0 : decode cX7_way 0 = .ok (.aload_n 0, 1) := by decide +kernel
theorem dX7_way_1 : decode cX7_way 1 = .ok (.iload_n 1, 1) := by decide +kernel
theorem dX7_way_2 : decode cX7_way 2 = .ok (.invokevirtual 70, 3) := by decide +kernel
theorem dX7_way_5 : decode cX7_way 5 = .ok (.ifCond .eq 11, 3) := by decide +kernel
theorem dX7_way_8 : decode cX7_way 8 = .ok (.aload_n 0, 1) := by decide +kernel
theorem dX7_way_9 : decode cX7_way 9 = .ok (.iload_n 2, 1) := by decide +kernel
theorem dX7_way_10 : decode cX7_way 10 = .ok (.invokevirtual 70, 3) := by decide +kernel
theorem dX7_way_13 : decode cX7_way 13 = .ok (.ifCond .ne 6, 3) := by decide +kernel
theorem dX7_way_16 : decode cX7_way 16 = .ok (.bipush (-2), 2) := by decide +kernel
theorem dX7_way_18 : decode cX7_way 18 = .ok (.ireturn, 1) := by decide +kernel
theorem dX7_way_19 : decode cX7_way 19 = .ok (.iload_n 3, 1) := by decide +kernel
theorem dX7_way_20 : decode cX7_way 20 = .ok (.ifCond .ge 6, 3) := by decide +kernel
theorem dX7_way_23 : decode cX7_way 23 = .ok (.bipush (-3), 2) := by decide +kernel
theorem dX7_way_25 : decode cX7_way 25 = .ok (.ireturn, 1) := by decide +kernel
theorem dX7_way_26 : decode cX7_way 26 = .ok (.aload_n 0, 1) := by decide +kernel
theorem dX7_way_27 : decode cX7_way 27 = .ok (.iload_n 1, 1) := by decide +kernel
theorem dX7_way_28 : decode cX7_way 28 = .ok (.iload_n 2, 1) := by decide +kernel
theorem dX7_way_29 : decode cX7_way 29 = .ok (.invokevirtual 85, 3) := by decide +kernel
theorem dX7_way_32 : decode cX7_way 32 = .ok (.ifCond .ne 5, 3) := by decide +kernel
theorem dX7_way_35 : decode cX7_way 35 = .ok (.iconst (-1), 1) := by decide +kernel
theorem dX7_way_36 : decode cX7_way 36 = .ok (.ireturn, 1) := by decide +kernel
theorem dX7_way_37 : decode cX7_way 37 = .ok (.iconst 0, 1) := by decide +kernel
theorem dX7_way_38 : decode cX7_way 38 = .ok (.istore 4, 2) := by decide +kernel
theorem dX7_way_40 : decode cX7_way 40 = .ok (.iload_n 2, 1) := by decide +kernel
theorem dX7_way_41 : decode cX7_way 41 = .ok (.istore 5, 2) := by decide +kernel
theorem dX7_way_43 : decode cX7_way 43 = .ok (.iload 5, 2) := by decide +kernel
theorem dX7_way_45 : decode cX7_way 45 = .ok (.iload_n 1, 1) := by decide +kernel
theorem dX7_way_46 : decode cX7_way 46 = .ok (.if_icmp .eq 18, 3) := by decide +kernel
theorem dX7_way_49 : decode cX7_way 49 = .ok (.iinc 4 1, 3) := by decide +kernel
theorem dX7_way_52 : decode cX7_way 52 = .ok (.aload_n 0, 1) := by decide +kernel
theorem dX7_way_53 : decode cX7_way 53 = .ok (.iload_n 1, 1) := by decide +kernel
theorem dX7_way_54 : decode cX7_way 54 = .ok (.iload 5, 2) := by decide +kernel
theorem dX7_way_56 : decode cX7_way 56 = .ok (.invokevirtual 187, 3) := by decide +kernel
theorem dX7_way_59 : decode cX7_way 59 = .ok (.istore 5, 2) := by decide +kernel
theorem dX7_way_61 : decode cX7_way 61 = .ok (.goto (-18), 3) := by decide +kernel
theorem dX7_way_64 : decode cX7_way 64 = .ok (.iload_n 3, 1) := by decide +kernel
theorem dX7_way_65 : decode cX7_way 65 = .ok (.iload 4, 2) := by decide +kernel
theorem dX7_way_67 : decode cX7_way 67 = .ok (.if_icmp .le 5, 3) := by decide +kernel
theorem dX7_way_70 : decode cX7_way 70 = .ok (.iconst (-1), 1) := by decide +kernel
theorem dX7_way_71 : decode cX7_way 71 = .ok (.ireturn, 1) := by decide +kernel
theorem dX7_way_72 : decode cX7_way 72 = .ok (.iload_n 2, 1) := by decide +kernel
theorem dX7_way_73 : decode cX7_way 73 = .ok (.istore 5, 2) := by decide +kernel
theorem dX7_way_75 : decode cX7_way 75 = .ok (.iload 4, 2) := by decide +kernel
theorem dX7_way_77 : decode cX7_way 77 = .ok (.istore 6, 2) := by decide +kernel
theorem dX7_way_79 : decode cX7_way 79 = .ok (.iload 6, 2) := by decide +kernel
theorem dX7_way_81 : decode cX7_way 81 = .ok (.iload_n 3, 1) := by decide +kernel
theorem dX7_way_82 : decode cX7_way 82 = .ok (.if_icmp .le 18, 3) := by decide +kernel
theorem dX7_way_85 : decode cX7_way 85 = .ok (.aload_n 0, 1) := by decide +kernel
theorem dX7_way_86 : decode cX7_way 86 = .ok (.iload_n 1, 1) := by decide +kernel
theorem dX7_way_87 : decode cX7_way 87 = .ok (.iload 5, 2) := by decide +kernel
theorem dX7_way_89 : decode cX7_way 89 = .ok (.invokevirtual 187, 3) := by decide +kernel
theorem dX7_way_92 : decode cX7_way 92 = .ok (.istore 5, 2) := by decide +kernel
theorem dX7_way_94 : decode cX7_way 94 = .ok (.iinc 6 (-1), 3) := by decide +kernel
theorem dX7_way_97 : decode cX7_way 97 = .ok (.goto (-18), 3) := by decide +kernel
theorem dX7_way_100 : decode cX7_way 100 = .ok (.iload 5, 2) := by decide +kernel
theorem dX7_way_102 : decode cX7_way 102 = .ok (.ireturn, 1) := by decide +kernel
theorem dX7_treeOf_0 : decode cX7_treeOf 0 = .ok (.iconst 0, 1) := by decide +kernel
theorem dX7_treeOf_1 : decode cX7_treeOf 1 = .ok (.istore_n 2, 1) := by decide +kernel
theorem dX7_treeOf_2 : decode cX7_treeOf 2 = .ok (.iconst 0, 1) := by decide +kernel
theorem dX7_treeOf_3 : decode cX7_treeOf 3 = .ok (.istore_n 3, 1) := by decide +kernel
theorem dX7_treeOf_4 : decode cX7_treeOf 4 = .ok (.iload_n 3, 1) := by decide +kernel
theorem dX7_treeOf_5 : decode cX7_treeOf 5 = .ok (.aload_n 0, 1) := by decide +kernel
theorem dX7_treeOf_6 : decode cX7_treeOf 6 = .ok (.getfield 7, 3) := by decide +kernel
theorem dX7_treeOf_9 : decode cX7_treeOf 9 = .ok (.if_icmp .ge 28, 3) := by decide +kernel
theorem dX7_treeOf_12 : decode cX7_treeOf 12 = .ok (.iload_n 2, 1) := by decide +kernel
theorem dX7_treeOf_13 : decode cX7_treeOf 13 = .ok (.aload_n 0, 1) := by decide +kernel
theorem dX7_treeOf_14 : decode cX7_treeOf 14 = .ok (.iload_n 1, 1) := by decide +kernel
theorem dX7_treeOf_15 : decode cX7_treeOf 15 = .ok (.iload_n 3, 1) := by decide +kernel
theorem dX7_treeOf_16 : decode cX7_treeOf 16 = .ok (.invokevirtual 85, 3) := by decide +kernel
theorem dX7_treeOf_19 : decode cX7_treeOf 19 = .ok (.ifCond .eq 9, 3) := by decide +kernel
theorem dX7_treeOf_22 : decode cX7_treeOf 22 = .ok (.iconst 1, 1) := by decide +kernel
theorem dX7_treeOf_23 : decode cX7_treeOf 23 = .ok (.iload_n 3, 1) := by decide +kernel
theorem dX7_treeOf_24 : decode cX7_treeOf 24 = .ok (.ishl, 1) := by decide +kernel
theorem dX7_treeOf_25 : decode cX7_treeOf 25 = .ok (.goto 4, 3) := by decide +kernel
theorem dX7_treeOf_28 : decode cX7_treeOf 28 = .ok (.iconst 0, 1) := by decide +kernel
theorem dX7_treeOf_29 : decode cX7_treeOf 29 = .ok (.ior, 1) := by decide +kernel
theorem dX7_treeOf_30 : decode cX7_treeOf 30 = .ok (.istore_n 2, 1) := by decide +kernel
theorem dX7_treeOf_31 : decode cX7_treeOf 31 = .ok (.iinc 3 1, 3) := by decide +kernel
theorem dX7_treeOf_34 : decode cX7_treeOf 34 = .ok (.goto (-30), 3) := by decide +kernel
theorem dX7_treeOf_37 : decode cX7_treeOf 37 = .ok (.iload_n 2, 1) := by decide +kernel
theorem dX7_treeOf_38 : decode cX7_treeOf 38 = .ok (.ireturn, 1) := by decide +kernel
theorem dX7_comingTo_0 : decode cX7_comingTo 0 = .ok (.iconst 0, 1) := by decide +kernel
theorem dX7_comingTo_1 : decode cX7_comingTo 1 = .ok (.istore_n 2, 1) := by decide +kernel
theorem dX7_comingTo_2 : decode cX7_comingTo 2 = .ok (.iconst 0, 1) := by decide +kernel
theorem dX7_comingTo_3 : decode cX7_comingTo 3 = .ok (.istore_n 3, 1) := by decide +kernel
theorem dX7_comingTo_4 : decode cX7_comingTo 4 = .ok (.iload_n 3, 1) := by decide +kernel
theorem dX7_comingTo_5 : decode cX7_comingTo 5 = .ok (.aload_n 0, 1) := by decide +kernel
theorem dX7_comingTo_6 : decode cX7_comingTo 6 = .ok (.getfield 7, 3) := by decide +kernel
theorem dX7_comingTo_9 : decode cX7_comingTo 9 = .ok (.if_icmp .ge 28, 3) := by decide +kernel
theorem dX7_comingTo_12 : decode cX7_comingTo 12 = .ok (.iload_n 2, 1) := by decide +kernel
theorem dX7_comingTo_13 : decode cX7_comingTo 13 = .ok (.aload_n 0, 1) := by decide +kernel
theorem dX7_comingTo_14 : decode cX7_comingTo 14 = .ok (.iload_n 3, 1) := by decide +kernel
theorem dX7_comingTo_15 : decode cX7_comingTo 15 = .ok (.iload_n 1, 1) := by decide +kernel
theorem dX7_comingTo_16 : decode cX7_comingTo 16 = .ok (.invokevirtual 85, 3) := by decide +kernel
theorem dX7_comingTo_19 : decode cX7_comingTo 19 = .ok (.ifCond .eq 9, 3) := by decide +kernel
theorem dX7_comingTo_22 : decode cX7_comingTo 22 = .ok (.iconst 1, 1) := by decide +kernel
theorem dX7_comingTo_23 : decode cX7_comingTo 23 = .ok (.iload_n 3, 1) := by decide +kernel
theorem dX7_comingTo_24 : decode cX7_comingTo 24 = .ok (.ishl, 1) := by decide +kernel
theorem dX7_comingTo_25 : decode cX7_comingTo 25 = .ok (.goto 4, 3) := by decide +kernel
theorem dX7_comingTo_28 : decode cX7_comingTo 28 = .ok (.iconst 0, 1) := by decide +kernel
theorem dX7_comingTo_29 : decode cX7_comingTo 29 = .ok (.ior, 1) := by decide +kernel
theorem dX7_comingTo_30 : decode cX7_comingTo 30 = .ok (.istore_n 2, 1) := by decide +kernel
theorem dX7_comingTo_31 : decode cX7_comingTo 31 = .ok (.iinc 3 1, 3) := by decide +kernel
theorem dX7_comingTo_34 : decode cX7_comingTo 34 = .ok (.goto (-30), 3) := by decide +kernel
theorem dX7_comingTo_37 : decode cX7_comingTo 37 = .ok (.iload_n 2, 1) := by decide +kernel
theorem dX7_comingTo_38 : decode cX7_comingTo 38 = .ok (.ireturn, 1) := by decide +kernel
theorem dX7_ringOf_0 : decode cX7_ringOf 0 = .ok (.aload_n 0, 1) := by decide +kernel
theorem dX7_ringOf_1 : decode cX7_ringOf 1 = .ok (.iload_n 1, 1) := by decide +kernel
theorem dX7_ringOf_2 : decode cX7_ringOf 2 = .ok (.invokevirtual 191, 3) := by decide +kernel
theorem dX7_ringOf_5 : decode cX7_ringOf 5 = .ok (.aload_n 0, 1) := by decide +kernel
theorem dX7_ringOf_6 : decode cX7_ringOf 6 = .ok (.iload_n 1, 1) := by decide +kernel
theorem dX7_ringOf_7 : decode cX7_ringOf 7 = .ok (.invokevirtual 194, 3) := by decide +kernel
theorem dX7_ringOf_10 : decode cX7_ringOf 10 = .ok (.iand, 1) := by decide +kernel
theorem dX7_ringOf_11 : decode cX7_ringOf 11 = .ok (.ireturn, 1) := by decide +kernel
theorem dX7_around_0 : decode cX7_around 0 = .ok (.aload_n 0, 1) := by decide +kernel
theorem dX7_around_1 : decode cX7_around 1 = .ok (.iload_n 1, 1) := by decide +kernel
theorem dX7_around_2 : decode cX7_around 2 = .ok (.invokevirtual 70, 3) := by decide +kernel
theorem dX7_around_5 : decode cX7_around 5 = .ok (.ifCond .ne 6, 3) := by decide +kernel
theorem dX7_around_8 : decode cX7_around 8 = .ok (.bipush (-2), 2) := by decide +kernel
theorem dX7_around_10 : decode cX7_around 10 = .ok (.ireturn, 1) := by decide +kernel
theorem dX7_around_11 : decode cX7_around 11 = .ok (.iload_n 2, 1) := by decide +kernel
theorem dX7_around_12 : decode cX7_around 12 = .ok (.ifCond .ne 11, 3) := by decide +kernel
theorem dX7_around_15 : decode cX7_around 15 = .ok (.aload_n 0, 1) := by decide +kernel
theorem dX7_around_16 : decode cX7_around 16 = .ok (.iload_n 1, 1) := by decide +kernel
theorem dX7_around_17 : decode cX7_around 17 = .ok (.invokevirtual 191, 3) := by decide +kernel
theorem dX7_around_20 : decode cX7_around 20 = .ok (.goto 31, 3) := by decide +kernel
theorem dX7_around_23 : decode cX7_around 23 = .ok (.iload_n 2, 1) := by decide +kernel
theorem dX7_around_24 : decode cX7_around 24 = .ok (.iconst 1, 1) := by decide +kernel
theorem dX7_around_25 : decode cX7_around 25 = .ok (.if_icmp .ne 11, 3) := by decide +kernel
theorem dX7_around_28 : decode cX7_around 28 = .ok (.aload_n 0, 1) := by decide +kernel
theorem dX7_around_29 : decode cX7_around 29 = .ok (.iload_n 1, 1) := by decide +kernel
theorem dX7_around_30 : decode cX7_around 30 = .ok (.invokevirtual 194, 3) := by decide +kernel
theorem dX7_around_33 : decode cX7_around 33 = .ok (.goto 18, 3) := by decide +kernel
theorem dX7_around_36 : decode cX7_around 36 = .ok (.iload_n 2, 1) := by decide +kernel
theorem dX7_around_37 : decode cX7_around 37 = .ok (.iconst 2, 1) := by decide +kernel
theorem dX7_around_38 : decode cX7_around 38 = .ok (.if_icmp .ne 11, 3) := by decide +kernel
theorem dX7_around_41 : decode cX7_around 41 = .ok (.aload_n 0, 1) := by decide +kernel
theorem dX7_around_42 : decode cX7_around 42 = .ok (.iload_n 1, 1) := by decide +kernel
theorem dX7_around_43 : decode cX7_around 43 = .ok (.invokevirtual 197, 3) := by decide +kernel
theorem dX7_around_46 : decode cX7_around 46 = .ok (.goto 5, 3) := by decide +kernel
theorem dX7_around_49 : decode cX7_around 49 = .ok (.bipush (-3), 2) := by decide +kernel
theorem dX7_around_51 : decode cX7_around 51 = .ok (.ireturn, 1) := by decide +kernel
theorem dX7_without_0 : decode cX7_without 0 = .ok (.iconst 1, 1) := by decide +kernel
theorem dX7_without_1 : decode cX7_without 1 = .ok (.iload_n 1, 1) := by decide +kernel
theorem dX7_without_2 : decode cX7_without 2 = .ok (.ishl, 1) := by decide +kernel
theorem dX7_without_3 : decode cX7_without 3 = .ok (.istore 4, 2) := by decide +kernel
theorem dX7_without_5 : decode cX7_without 5 = .ok (.iconst 0, 1) := by decide +kernel
theorem dX7_without_6 : decode cX7_without 6 = .ok (.istore 5, 2) := by decide +kernel
theorem dX7_without_8 : decode cX7_without 8 = .ok (.iload 4, 2) := by decide +kernel
theorem dX7_without_10 : decode cX7_without 10 = .ok (.iload 5, 2) := by decide +kernel
theorem dX7_without_12 : decode cX7_without 12 = .ok (.if_icmp .eq 84, 3) := by decide +kernel
theorem dX7_without_15 : decode cX7_without 15 = .ok (.iload 4, 2) := by decide +kernel
theorem dX7_without_17 : decode cX7_without 17 = .ok (.istore 5, 2) := by decide +kernel
theorem dX7_without_19 : decode cX7_without 19 = .ok (.iconst 0, 1) := by decide +kernel
theorem dX7_without_20 : decode cX7_without 20 = .ok (.istore 6, 2) := by decide +kernel
theorem dX7_without_22 : decode cX7_without 22 = .ok (.iload 6, 2) := by decide +kernel
theorem dX7_without_24 : decode cX7_without 24 = .ok (.aload_n 0, 1) := by decide +kernel
theorem dX7_without_25 : decode cX7_without 25 = .ok (.getfield 7, 3) := by decide +kernel
theorem dX7_without_28 : decode cX7_without 28 = .ok (.if_icmp .ge 65, 3) := by decide +kernel
theorem dX7_without_31 : decode cX7_without 31 = .ok (.iload 6, 2) := by decide +kernel
theorem dX7_without_33 : decode cX7_without 33 = .ok (.iload_n 2, 1) := by decide +kernel
theorem dX7_without_34 : decode cX7_without 34 = .ok (.if_icmp .ne 21, 3) := by decide +kernel
theorem dX7_without_37 : decode cX7_without 37 = .ok (.aload_n 0, 1) := by decide +kernel
theorem dX7_without_38 : decode cX7_without 38 = .ok (.getfield 13, 3) := by decide +kernel
theorem dX7_without_41 : decode cX7_without 41 = .ok (.iconst 0, 1) := by decide +kernel
theorem dX7_without_42 : decode cX7_without 42 = .ok (.iload 6, 2) := by decide +kernel
theorem dX7_without_44 : decode cX7_without 44 = .ok (.iadd, 1) := by decide +kernel
theorem dX7_without_45 : decode cX7_without 45 = .ok (.iaload, 1) := by decide +kernel
theorem dX7_without_46 : decode cX7_without 46 = .ok (.iconst 1, 1) := by decide +kernel
theorem dX7_without_47 : decode cX7_without 47 = .ok (.iload_n 3, 1) := by decide +kernel
theorem dX7_without_48 : decode cX7_without 48 = .ok (.ishl, 1) := by decide +kernel
theorem dX7_without_49 : decode cX7_without 49 = .ok (.iconst (-1), 1) := by decide +kernel
theorem dX7_without_50 : decode cX7_without 50 = .ok (.ixor, 1) := by decide +kernel
theorem dX7_without_51 : decode cX7_without 51 = .ok (.iand, 1) := by decide +kernel
theorem dX7_without_52 : decode cX7_without 52 = .ok (.goto 12, 3) := by decide +kernel
theorem dX7_without_55 : decode cX7_without 55 = .ok (.aload_n 0, 1) := by decide +kernel
theorem dX7_without_56 : decode cX7_without 56 = .ok (.getfield 13, 3) := by decide +kernel
theorem dX7_without_59 : decode cX7_without 59 = .ok (.iconst 0, 1) := by decide +kernel
theorem dX7_without_60 : decode cX7_without 60 = .ok (.iload 6, 2) := by decide +kernel
theorem dX7_without_62 : decode cX7_without 62 = .ok (.iadd, 1) := by decide +kernel
theorem dX7_without_63 : decode cX7_without 63 = .ok (.iaload, 1) := by decide +kernel
theorem dX7_without_64 : decode cX7_without 64 = .ok (.istore 7, 2) := by decide +kernel
theorem dX7_without_66 : decode cX7_without 66 = .ok (.iload 4, 2) := by decide +kernel
theorem dX7_without_68 : decode cX7_without 68 = .ok (.iload 4, 2) := by decide +kernel
theorem dX7_without_70 : decode cX7_without 70 = .ok (.iload 6, 2) := by decide +kernel
theorem dX7_without_72 : decode cX7_without 72 = .ok (.invokestatic 78, 3) := by decide +kernel
theorem dX7_without_75 : decode cX7_without 75 = .ok (.ifCond .eq 8, 3) := by decide +kernel
theorem dX7_without_78 : decode cX7_without 78 = .ok (.iload 7, 2) := by decide +kernel
theorem dX7_without_80 : decode cX7_without 80 = .ok (.goto 4, 3) := by decide +kernel
theorem dX7_without_83 : decode cX7_without 83 = .ok (.iconst 0, 1) := by decide +kernel
theorem dX7_without_84 : decode cX7_without 84 = .ok (.ior, 1) := by decide +kernel
theorem dX7_without_85 : decode cX7_without 85 = .ok (.istore 4, 2) := by decide +kernel
theorem dX7_without_87 : decode cX7_without 87 = .ok (.iinc 6 1, 3) := by decide +kernel
theorem dX7_without_90 : decode cX7_without 90 = .ok (.goto (-68), 3) := by decide +kernel
theorem dX7_without_93 : decode cX7_without 93 = .ok (.goto (-85), 3) := by decide +kernel
theorem dX7_without_96 : decode cX7_without 96 = .ok (.iload 4, 2) := by decide +kernel
theorem dX7_without_98 : decode cX7_without 98 = .ok (.ireturn, 1) := by decide +kernel
theorem dX7_isNeedless_0 : decode cX7_isNeedless 0 = .ok (.aload_n 0, 1) := by decide +kernel
theorem dX7_isNeedless_1 : decode cX7_isNeedless 1 = .ok (.iload_n 1, 1) := by decide +kernel
theorem dX7_isNeedless_2 : decode cX7_isNeedless 2 = .ok (.iload_n 1, 1) := by decide +kernel
theorem dX7_isNeedless_3 : decode cX7_isNeedless 3 = .ok (.iload_n 2, 1) := by decide +kernel
theorem dX7_isNeedless_4 : decode cX7_isNeedless 4 = .ok (.invokevirtual 200, 3) := by decide +kernel
theorem dX7_isNeedless_7 : decode cX7_isNeedless 7 = .ok (.iload_n 2, 1) := by decide +kernel
theorem dX7_isNeedless_8 : decode cX7_isNeedless 8 = .ok (.invokestatic 78, 3) := by decide +kernel
theorem dX7_isNeedless_11 : decode cX7_isNeedless 11 = .ok (.ireturn, 1) := by decide +kernel
theorem dX7_needless_0 : decode cX7_needless 0 = .ok (.aload_n 0, 1) := by decide +kernel
theorem dX7_needless_1 : decode cX7_needless 1 = .ok (.iload_n 1, 1) := by decide +kernel
theorem dX7_needless_2 : decode cX7_needless 2 = .ok (.iload_n 2, 1) := by decide +kernel
theorem dX7_needless_3 : decode cX7_needless 3 = .ok (.invokevirtual 171, 3) := by decide +kernel
theorem dX7_needless_6 : decode cX7_needless 6 = .ok (.ifCond .ne 8, 3) := by decide +kernel
theorem dX7_needless_9 : decode cX7_needless 9 = .ok (.bipush (-2), 2) := by decide +kernel
theorem dX7_needless_11 : decode cX7_needless 11 = .ok (.goto 17, 3) := by decide +kernel
theorem dX7_needless_14 : decode cX7_needless 14 = .ok (.aload_n 0, 1) := by decide +kernel
theorem dX7_needless_15 : decode cX7_needless 15 = .ok (.iload_n 1, 1) := by decide +kernel
theorem dX7_needless_16 : decode cX7_needless 16 = .ok (.iload_n 2, 1) := by decide +kernel
theorem dX7_needless_17 : decode cX7_needless 17 = .ok (.invokevirtual 204, 3) := by decide +kernel
theorem dX7_needless_20 : decode cX7_needless 20 = .ok (.ifCond .eq 7, 3) := by decide +kernel
theorem dX7_needless_23 : decode cX7_needless 23 = .ok (.iconst 1, 1) := by decide +kernel
theorem dX7_needless_24 : decode cX7_needless 24 = .ok (.goto 4, 3) := by decide +kernel
theorem dX7_needless_27 : decode cX7_needless 27 = .ok (.iconst 0, 1) := by decide +kernel
theorem dX7_needless_28 : decode cX7_needless 28 = .ok (.ireturn, 1) := by decide +kernel
theorem dX7_needlessMany_0 : decode cX7_needlessMany 0 = .ok (.iconst 0, 1) := by decide +kernel
theorem dX7_needlessMany_1 : decode cX7_needlessMany 1 = .ok (.istore_n 1, 1) := by decide +kernel
theorem dX7_needlessMany_2 : decode cX7_needlessMany 2 = .ok (.iconst 0, 1) := by decide +kernel
theorem dX7_needlessMany_3 : decode cX7_needlessMany 3 = .ok (.istore_n 2, 1) := by decide +kernel
theorem dX7_needlessMany_4 : decode cX7_needlessMany 4 = .ok (.iload_n 2, 1) := by decide +kernel
theorem dX7_needlessMany_5 : decode cX7_needlessMany 5 = .ok (.aload_n 0, 1) := by decide +kernel
theorem dX7_needlessMany_6 : decode cX7_needlessMany 6 = .ok (.getfield 7, 3) := by decide +kernel
theorem dX7_needlessMany_9 : decode cX7_needlessMany 9 = .ok (.if_icmp .ge 51, 3) := by decide +kernel
theorem dX7_needlessMany_12 : decode cX7_needlessMany 12 = .ok (.iconst 0, 1) := by decide +kernel
theorem dX7_needlessMany_13 : decode cX7_needlessMany 13 = .ok (.istore_n 3, 1) := by decide +kernel
theorem dX7_needlessMany_14 : decode cX7_needlessMany 14 = .ok (.iload_n 3, 1) := by decide +kernel
theorem dX7_needlessMany_15 : decode cX7_needlessMany 15 = .ok (.aload_n 0, 1) := by decide +kernel
theorem dX7_needlessMany_16 : decode cX7_needlessMany 16 = .ok (.getfield 7, 3) := by decide +kernel
theorem dX7_needlessMany_19 : decode cX7_needlessMany 19 = .ok (.if_icmp .ge 35, 3) := by decide +kernel
theorem dX7_needlessMany_22 : decode cX7_needlessMany 22 = .ok (.iload_n 1, 1) := by decide +kernel
theorem dX7_needlessMany_23 : decode cX7_needlessMany 23 = .ok (.aload_n 0, 1) := by decide +kernel
theorem dX7_needlessMany_24 : decode cX7_needlessMany 24 = .ok (.iload_n 2, 1) := by decide +kernel
theorem dX7_needlessMany_25 : decode cX7_needlessMany 25 = .ok (.iload_n 3, 1) := by decide +kernel
theorem dX7_needlessMany_26 : decode cX7_needlessMany 26 = .ok (.invokevirtual 171, 3) := by decide +kernel
theorem dX7_needlessMany_29 : decode cX7_needlessMany 29 = .ok (.ifCond .eq 16, 3) := by decide +kernel
theorem dX7_needlessMany_32 : decode cX7_needlessMany 32 = .ok (.aload_n 0, 1) := by decide +kernel
theorem dX7_needlessMany_33 : decode cX7_needlessMany 33 = .ok (.iload_n 2, 1) := by decide +kernel
theorem dX7_needlessMany_34 : decode cX7_needlessMany 34 = .ok (.iload_n 3, 1) := by decide +kernel
theorem dX7_needlessMany_35 : decode cX7_needlessMany 35 = .ok (.invokevirtual 204, 3) := by decide +kernel
theorem dX7_needlessMany_38 : decode cX7_needlessMany 38 = .ok (.ifCond .eq 7, 3) := by decide +kernel
theorem dX7_needlessMany_41 : decode cX7_needlessMany 41 = .ok (.iconst 1, 1) := by decide +kernel
theorem dX7_needlessMany_42 : decode cX7_needlessMany 42 = .ok (.goto 4, 3) := by decide +kernel
theorem dX7_needlessMany_45 : decode cX7_needlessMany 45 = .ok (.iconst 0, 1) := by decide +kernel
theorem dX7_needlessMany_46 : decode cX7_needlessMany 46 = .ok (.iadd, 1) := by decide +kernel
theorem dX7_needlessMany_47 : decode cX7_needlessMany 47 = .ok (.istore_n 1, 1) := by decide +kernel
theorem dX7_needlessMany_48 : decode cX7_needlessMany 48 = .ok (.iinc 3 1, 3) := by decide +kernel
theorem dX7_needlessMany_51 : decode cX7_needlessMany 51 = .ok (.goto (-37), 3) := by decide +kernel
theorem dX7_needlessMany_54 : decode cX7_needlessMany 54 = .ok (.iinc 2 1, 3) := by decide +kernel
theorem dX7_needlessMany_57 : decode cX7_needlessMany 57 = .ok (.goto (-53), 3) := by decide +kernel
theorem dX7_needlessMany_60 : decode cX7_needlessMany 60 = .ok (.iload_n 1, 1) := by decide +kernel
theorem dX7_needlessMany_61 : decode cX7_needlessMany 61 = .ok (.ireturn, 1) := by decide +kernel
theorem dX7_rings_0 : decode cX7_rings 0 = .ok (.iconst 0, 1) := by decide +kernel
theorem dX7_rings_1 : decode cX7_rings 1 = .ok (.istore_n 1, 1) := by decide +kernel
theorem dX7_rings_2 : decode cX7_rings 2 = .ok (.iconst 0, 1) := by decide +kernel
theorem dX7_rings_3 : decode cX7_rings 3 = .ok (.istore_n 2, 1) := by decide +kernel
theorem dX7_rings_4 : decode cX7_rings 4 = .ok (.iload_n 2, 1) := by decide +kernel
theorem dX7_rings_5 : decode cX7_rings 5 = .ok (.aload_n 0, 1) := by decide +kernel
theorem dX7_rings_6 : decode cX7_rings 6 = .ok (.getfield 7, 3) := by decide +kernel
theorem dX7_rings_9 : decode cX7_rings 9 = .ok (.if_icmp .ge 31, 3) := by decide +kernel
theorem dX7_rings_12 : decode cX7_rings 12 = .ok (.iload_n 1, 1) := by decide +kernel
theorem dX7_rings_13 : decode cX7_rings 13 = .ok (.aload_n 0, 1) := by decide +kernel
theorem dX7_rings_14 : decode cX7_rings 14 = .ok (.iload_n 2, 1) := by decide +kernel
theorem dX7_rings_15 : decode cX7_rings 15 = .ok (.invokevirtual 197, 3) := by decide +kernel
theorem dX7_rings_18 : decode cX7_rings 18 = .ok (.iconst 1, 1) := by decide +kernel
theorem dX7_rings_19 : decode cX7_rings 19 = .ok (.iload_n 2, 1) := by decide +kernel
theorem dX7_rings_20 : decode cX7_rings 20 = .ok (.ishl, 1) := by decide +kernel
theorem dX7_rings_21 : decode cX7_rings 21 = .ok (.iconst 1, 1) := by decide +kernel
theorem dX7_rings_22 : decode cX7_rings 22 = .ok (.isub, 1) := by decide +kernel
theorem dX7_rings_23 : decode cX7_rings 23 = .ok (.iand, 1) := by decide +kernel
theorem dX7_rings_24 : decode cX7_rings 24 = .ok (.ifCond .ne 7, 3) := by decide +kernel
theorem dX7_rings_27 : decode cX7_rings 27 = .ok (.iconst 1, 1) := by decide +kernel
theorem dX7_rings_28 : decode cX7_rings 28 = .ok (.goto 4, 3) := by decide +kernel
theorem dX7_rings_31 : decode cX7_rings 31 = .ok (.iconst 0, 1) := by decide +kernel
theorem dX7_rings_32 : decode cX7_rings 32 = .ok (.iadd, 1) := by decide +kernel
theorem dX7_rings_33 : decode cX7_rings 33 = .ok (.istore_n 1, 1) := by decide +kernel
theorem dX7_rings_34 : decode cX7_rings 34 = .ok (.iinc 2 1, 3) := by decide +kernel
theorem dX7_rings_37 : decode cX7_rings 37 = .ok (.goto (-33), 3) := by decide +kernel
theorem dX7_rings_40 : decode cX7_rings 40 = .ok (.iload_n 1, 1) := by decide +kernel
theorem dX7_rings_41 : decode cX7_rings 41 = .ok (.ireturn, 1) := by decide +kernel
theorem dX7_reduced_0 : decode cX7_reduced 0 = .ok (.aload_n 0, 1) := by decide +kernel
theorem dX7_reduced_1 : decode cX7_reduced 1 = .ok (.invokevirtual 207, 3) := by decide +kernel
theorem dX7_reduced_4 : decode cX7_reduced 4 = .ok (.aload_n 0, 1) := by decide +kernel
theorem dX7_reduced_5 : decode cX7_reduced 5 = .ok (.getfield 7, 3) := by decide +kernel
theorem dX7_reduced_8 : decode cX7_reduced 8 = .ok (.if_icmp .ge 8, 3) := by decide +kernel
theorem dX7_reduced_11 : decode cX7_reduced 11 = .ok (.bipush (-4), 2) := by decide +kernel
theorem dX7_reduced_13 : decode cX7_reduced 13 = .ok (.goto 12, 3) := by decide +kernel
theorem dX7_reduced_16 : decode cX7_reduced 16 = .ok (.aload_n 0, 1) := by decide +kernel
theorem dX7_reduced_17 : decode cX7_reduced 17 = .ok (.invokevirtual 159, 3) := by decide +kernel
theorem dX7_reduced_20 : decode cX7_reduced 20 = .ok (.aload_n 0, 1) := by decide +kernel
theorem dX7_reduced_21 : decode cX7_reduced 21 = .ok (.invokevirtual 210, 3) := by decide +kernel
theorem dX7_reduced_24 : decode cX7_reduced 24 = .ok (.isub, 1) := by decide +kernel
theorem dX7_reduced_25 : decode cX7_reduced 25 = .ok (.ireturn, 1) := by decide +kernel
theorem dX7_fold_0 : decode cX7_fold 0 = .ok (.iload_n 1, 1) := by decide +kernel
theorem dX7_fold_1 : decode cX7_fold 1 = .ok (.i2l, 1) := by decide +kernel
theorem dX7_fold_2 : decode cX7_fold 2 = .ok (.lconst 0, 1) := by decide +kernel
theorem dX7_fold_3 : decode cX7_fold 3 = .ok (.ldc2_w 213, 3) := by decide +kernel
theorem dX7_fold_6 : decode cX7_fold 6 = .ok (.invokestatic 66, 3) := by decide +kernel
theorem dX7_fold_9 : decode cX7_fold 9 = .ok (.ifCond .eq 15, 3) := by decide +kernel
theorem dX7_fold_12 : decode cX7_fold 12 = .ok (.iload_n 2, 1) := by decide +kernel
theorem dX7_fold_13 : decode cX7_fold 13 = .ok (.i2l, 1) := by decide +kernel
theorem dX7_fold_14 : decode cX7_fold 14 = .ok (.lconst 0, 1) := by decide +kernel
theorem dX7_fold_15 : decode cX7_fold 15 = .ok (.ldc2_w 215, 3) := by decide +kernel
theorem dX7_fold_18 : decode cX7_fold 18 = .ok (.invokestatic 66, 3) := by decide +kernel
theorem dX7_fold_21 : decode cX7_fold 21 = .ok (.ifCond .ne 6, 3) := by decide +kernel
theorem dX7_fold_24 : decode cX7_fold 24 = .ok (.bipush (-3), 2) := by decide +kernel
theorem dX7_fold_26 : decode cX7_fold 26 = .ok (.ireturn, 1) := by decide +kernel
theorem dX7_fold_27 : decode cX7_fold 27 = .ok (.iload_n 2, 1) := by decide +kernel
theorem dX7_fold_28 : decode cX7_fold 28 = .ok (.istore_n 3, 1) := by decide +kernel
theorem dX7_fold_29 : decode cX7_fold 29 = .ok (.iconst 0, 1) := by decide +kernel
theorem dX7_fold_30 : decode cX7_fold 30 = .ok (.istore 4, 2) := by decide +kernel
theorem dX7_fold_32 : decode cX7_fold 32 = .ok (.iload 4, 2) := by decide +kernel
theorem dX7_fold_34 : decode cX7_fold 34 = .ok (.aload_n 0, 1) := by decide +kernel
theorem dX7_fold_35 : decode cX7_fold 35 = .ok (.getfield 7, 3) := by decide +kernel
theorem dX7_fold_38 : decode cX7_fold 38 = .ok (.aload_n 0, 1) := by decide +kernel
theorem dX7_fold_39 : decode cX7_fold 39 = .ok (.getfield 7, 3) := by decide +kernel
theorem dX7_fold_42 : decode cX7_fold 42 = .ok (.imul, 1) := by decide +kernel
theorem dX7_fold_43 : decode cX7_fold 43 = .ok (.if_icmp .ge 139, 3) := by decide +kernel
theorem dX7_fold_46 : decode cX7_fold 46 = .ok (.iload 4, 2) := by decide +kernel
theorem dX7_fold_48 : decode cX7_fold 48 = .ok (.aload_n 0, 1) := by decide +kernel
theorem dX7_fold_49 : decode cX7_fold 49 = .ok (.getfield 7, 3) := by decide +kernel
theorem dX7_fold_52 : decode cX7_fold 52 = .ok (.idiv, 1) := by decide +kernel
theorem dX7_fold_53 : decode cX7_fold 53 = .ok (.istore 5, 2) := by decide +kernel
theorem dX7_fold_55 : decode cX7_fold 55 = .ok (.iload 4, 2) := by decide +kernel
theorem dX7_fold_57 : decode cX7_fold 57 = .ok (.aload_n 0, 1) := by decide +kernel
theorem dX7_fold_58 : decode cX7_fold 58 = .ok (.getfield 7, 3) := by decide +kernel
theorem dX7_fold_61 : decode cX7_fold 61 = .ok (.irem, 1) := by decide +kernel
theorem dX7_fold_62 : decode cX7_fold 62 = .ok (.istore 6, 2) := by decide +kernel
theorem dX7_fold_64 : decode cX7_fold 64 = .ok (.aload_n 0, 1) := by decide +kernel
theorem dX7_fold_65 : decode cX7_fold 65 = .ok (.iload 5, 2) := by decide +kernel
theorem dX7_fold_67 : decode cX7_fold 67 = .ok (.iload 6, 2) := by decide +kernel
theorem dX7_fold_69 : decode cX7_fold 69 = .ok (.invokevirtual 85, 3) := by decide +kernel
theorem dX7_fold_72 : decode cX7_fold 72 = .ok (.istore 7, 2) := by decide +kernel
theorem dX7_fold_74 : decode cX7_fold 74 = .ok (.iload 5, 2) := by decide +kernel
theorem dX7_fold_76 : decode cX7_fold 76 = .ok (.iload 6, 2) := by decide +kernel
theorem dX7_fold_78 : decode cX7_fold 78 = .ok (.if_icmp .eq 98, 3) := by decide +kernel
theorem dX7_fold_81 : decode cX7_fold 81 = .ok (.iload_n 1, 1) := by decide +kernel
theorem dX7_fold_82 : decode cX7_fold 82 = .ok (.ifCond .ne 9, 3) := by decide +kernel
theorem dX7_fold_85 : decode cX7_fold 85 = .ok (.iload_n 3, 1) := by decide +kernel
theorem dX7_fold_86 : decode cX7_fold 86 = .ok (.iconst 1, 1) := by decide +kernel
theorem dX7_fold_87 : decode cX7_fold 87 = .ok (.iadd, 1) := by decide +kernel
theorem dX7_fold_88 : decode cX7_fold 88 = .ok (.goto 59, 3) := by decide +kernel
theorem dX7_fold_91 : decode cX7_fold 91 = .ok (.iload_n 1, 1) := by decide +kernel
theorem dX7_fold_92 : decode cX7_fold 92 = .ok (.iconst 1, 1) := by decide +kernel
theorem dX7_fold_93 : decode cX7_fold 93 = .ok (.if_icmp .ne 13, 3) := by decide +kernel
theorem dX7_fold_96 : decode cX7_fold 96 = .ok (.iload_n 3, 1) := by decide +kernel
theorem dX7_fold_97 : decode cX7_fold 97 = .ok (.iload 5, 2) := by decide +kernel
theorem dX7_fold_99 : decode cX7_fold 99 = .ok (.iadd, 1) := by decide +kernel
theorem dX7_fold_100 : decode cX7_fold 100 = .ok (.iload 6, 2) := by decide +kernel
theorem dX7_fold_102 : decode cX7_fold 102 = .ok (.iadd, 1) := by decide +kernel
theorem dX7_fold_103 : decode cX7_fold 103 = .ok (.goto 44, 3) := by decide +kernel
theorem dX7_fold_106 : decode cX7_fold 106 = .ok (.iload_n 1, 1) := by decide +kernel
theorem dX7_fold_107 : decode cX7_fold 107 = .ok (.iconst 2, 1) := by decide +kernel
theorem dX7_fold_108 : decode cX7_fold 108 = .ok (.if_icmp .ne 30, 3) := by decide +kernel
theorem dX7_fold_111 : decode cX7_fold 111 = .ok (.bipush 10, 2) := by decide +kernel
theorem dX7_fold_113 : decode cX7_fold 113 = .ok (.iload 5, 2) := by decide +kernel
theorem dX7_fold_115 : decode cX7_fold 115 = .ok (.imul, 1) := by decide +kernel
theorem dX7_fold_116 : decode cX7_fold 116 = .ok (.iload 6, 2) := by decide +kernel
theorem dX7_fold_118 : decode cX7_fold 118 = .ok (.iadd, 1) := by decide +kernel
theorem dX7_fold_119 : decode cX7_fold 119 = .ok (.iload_n 3, 1) := by decide +kernel
theorem dX7_fold_120 : decode cX7_fold 120 = .ok (.if_icmp .le 14, 3) := by decide +kernel
theorem dX7_fold_123 : decode cX7_fold 123 = .ok (.bipush 10, 2) := by decide +kernel
theorem dX7_fold_125 : decode cX7_fold 125 = .ok (.iload 5, 2) := by decide +kernel
theorem dX7_fold_127 : decode cX7_fold 127 = .ok (.imul, 1) := by decide +kernel
theorem dX7_fold_128 : decode cX7_fold 128 = .ok (.iload 6, 2) := by decide +kernel
theorem dX7_fold_130 : decode cX7_fold 130 = .ok (.iadd, 1) := by decide +kernel
theorem dX7_fold_131 : decode cX7_fold 131 = .ok (.goto 16, 3) := by decide +kernel
theorem dX7_fold_134 : decode cX7_fold 134 = .ok (.iload_n 3, 1) := by decide +kernel
theorem dX7_fold_135 : decode cX7_fold 135 = .ok (.goto 12, 3) := by decide +kernel
theorem dX7_fold_138 : decode cX7_fold 138 = .ok (.iconst 2, 1) := by decide +kernel
theorem dX7_fold_139 : decode cX7_fold 139 = .ok (.iload_n 3, 1) := by decide +kernel
theorem dX7_fold_140 : decode cX7_fold 140 = .ok (.imul, 1) := by decide +kernel
theorem dX7_fold_141 : decode cX7_fold 141 = .ok (.iconst 1, 1) := by decide +kernel
theorem dX7_fold_142 : decode cX7_fold 142 = .ok (.iadd, 1) := by decide +kernel
theorem dX7_fold_143 : decode cX7_fold 143 = .ok (.sipush 1000, 3) := by decide +kernel
theorem dX7_fold_146 : decode cX7_fold 146 = .ok (.irem, 1) := by decide +kernel
theorem dX7_fold_147 : decode cX7_fold 147 = .ok (.istore 8, 2) := by decide +kernel
theorem dX7_fold_149 : decode cX7_fold 149 = .ok (.iload 7, 2) := by decide +kernel
theorem dX7_fold_151 : decode cX7_fold 151 = .ok (.ifCond .eq 8, 3) := by decide +kernel
theorem dX7_fold_154 : decode cX7_fold 154 = .ok (.iload 8, 2) := by decide +kernel
theorem dX7_fold_156 : decode cX7_fold 156 = .ok (.goto 19, 3) := by decide +kernel
theorem dX7_fold_159 : decode cX7_fold 159 = .ok (.iload_n 1, 1) := by decide +kernel
theorem dX7_fold_160 : decode cX7_fold 160 = .ok (.iconst 3, 1) := by decide +kernel
theorem dX7_fold_161 : decode cX7_fold 161 = .ok (.if_icmp .ne 13, 3) := by decide +kernel
theorem dX7_fold_164 : decode cX7_fold 164 = .ok (.iconst 2, 1) := by decide +kernel
theorem dX7_fold_165 : decode cX7_fold 165 = .ok (.iload_n 3, 1) := by decide +kernel
theorem dX7_fold_166 : decode cX7_fold 166 = .ok (.imul, 1) := by decide +kernel
theorem dX7_fold_167 : decode cX7_fold 167 = .ok (.sipush 1000, 3) := by decide +kernel
theorem dX7_fold_170 : decode cX7_fold 170 = .ok (.irem, 1) := by decide +kernel
theorem dX7_fold_171 : decode cX7_fold 171 = .ok (.goto 4, 3) := by decide +kernel
theorem dX7_fold_174 : decode cX7_fold 174 = .ok (.iload_n 3, 1) := by decide +kernel
theorem dX7_fold_175 : decode cX7_fold 175 = .ok (.istore_n 3, 1) := by decide +kernel
theorem dX7_fold_176 : decode cX7_fold 176 = .ok (.iinc 4 1, 3) := by decide +kernel
theorem dX7_fold_179 : decode cX7_fold 179 = .ok (.goto (-147), 3) := by decide +kernel
theorem dX7_fold_182 : decode cX7_fold 182 = .ok (.iload_n 3, 1) := by decide +kernel
theorem dX7_fold_183 : decode cX7_fold 183 = .ok (.ireturn, 1) := by decide +kernel
theorem dX7_gainOf_0 : decode cX7_gainOf 0 = .ok (.iconst 0, 1) := by decide +kernel
theorem dX7_gainOf_1 : decode cX7_gainOf 1 = .ok (.istore 4, 2) := by decide +kernel
theorem dX7_gainOf_3 : decode cX7_gainOf 3 = .ok (.iload 4, 2) := by decide +kernel
theorem dX7_gainOf_5 : decode cX7_gainOf 5 = .ok (.bipush 111, 2) := by decide +kernel
theorem dX7_gainOf_7 : decode cX7_gainOf 7 = .ok (.if_icmp .ge 23, 3) := by decide +kernel
theorem dX7_gainOf_10 : decode cX7_gainOf 10 = .ok (.aload_n 0, 1) := by decide +kernel
theorem dX7_gainOf_11 : decode cX7_gainOf 11 = .ok (.getfield 38, 3) := by decide +kernel
theorem dX7_gainOf_14 : decode cX7_gainOf 14 = .ok (.iload 4, 2) := by decide +kernel
theorem dX7_gainOf_16 : decode cX7_gainOf 16 = .ok (.aload_n 0, 1) := by decide +kernel
theorem dX7_gainOf_17 : decode cX7_gainOf 17 = .ok (.getfield 13, 3) := by decide +kernel
theorem dX7_gainOf_20 : decode cX7_gainOf 20 = .ok (.iload 4, 2) := by decide +kernel
theorem dX7_gainOf_22 : decode cX7_gainOf 22 = .ok (.iaload, 1) := by decide +kernel
theorem dX7_gainOf_23 : decode cX7_gainOf 23 = .ok (.iastore, 1) := by decide +kernel
theorem dX7_gainOf_24 : decode cX7_gainOf 24 = .ok (.iinc 4 1, 3) := by decide +kernel
theorem dX7_gainOf_27 : decode cX7_gainOf 27 = .ok (.goto (-24), 3) := by decide +kernel
theorem dX7_gainOf_30 : decode cX7_gainOf 30 = .ok (.iload_n 3, 1) := by decide +kernel
theorem dX7_gainOf_31 : decode cX7_gainOf 31 = .ok (.ifCond .ne 10, 3) := by decide +kernel
theorem dX7_gainOf_34 : decode cX7_gainOf 34 = .ok (.aload_n 0, 1) := by decide +kernel
theorem dX7_gainOf_35 : decode cX7_gainOf 35 = .ok (.invokevirtual 174, 3) := by decide +kernel
theorem dX7_gainOf_38 : decode cX7_gainOf 38 = .ok (.goto 10, 3) := by decide +kernel
theorem dX7_gainOf_41 : decode cX7_gainOf 41 = .ok (.aload_n 0, 1) := by decide +kernel
theorem dX7_gainOf_42 : decode cX7_gainOf 42 = .ok (.getfield 13, 3) := by decide +kernel
theorem dX7_gainOf_45 : decode cX7_gainOf 45 = .ok (.bipush 110, 2) := by decide +kernel
theorem dX7_gainOf_47 : decode cX7_gainOf 47 = .ok (.iaload, 1) := by decide +kernel
theorem dX7_gainOf_48 : decode cX7_gainOf 48 = .ok (.istore 4, 2) := by decide +kernel
theorem dX7_gainOf_50 : decode cX7_gainOf 50 = .ok (.aload_n 0, 1) := by decide +kernel
theorem dX7_gainOf_51 : decode cX7_gainOf 51 = .ok (.iload_n 1, 1) := by decide +kernel
theorem dX7_gainOf_52 : decode cX7_gainOf 52 = .ok (.iload_n 2, 1) := by decide +kernel
theorem dX7_gainOf_53 : decode cX7_gainOf 53 = .ok (.invokevirtual 162, 3) := by decide +kernel
theorem dX7_gainOf_56 : decode cX7_gainOf 56 = .ok (.iload_n 3, 1) := by decide +kernel
theorem dX7_gainOf_57 : decode cX7_gainOf 57 = .ok (.ifCond .ne 10, 3) := by decide +kernel
theorem dX7_gainOf_60 : decode cX7_gainOf 60 = .ok (.aload_n 0, 1) := by decide +kernel
theorem dX7_gainOf_61 : decode cX7_gainOf 61 = .ok (.invokevirtual 174, 3) := by decide +kernel
theorem dX7_gainOf_64 : decode cX7_gainOf 64 = .ok (.goto 10, 3) := by decide +kernel
theorem dX7_gainOf_67 : decode cX7_gainOf 67 = .ok (.aload_n 0, 1) := by decide +kernel
theorem dX7_gainOf_68 : decode cX7_gainOf 68 = .ok (.getfield 13, 3) := by decide +kernel
theorem dX7_gainOf_71 : decode cX7_gainOf 71 = .ok (.bipush 110, 2) := by decide +kernel
theorem dX7_gainOf_73 : decode cX7_gainOf 73 = .ok (.iaload, 1) := by decide +kernel
theorem dX7_gainOf_74 : decode cX7_gainOf 74 = .ok (.iload 4, 2) := by decide +kernel
theorem dX7_gainOf_76 : decode cX7_gainOf 76 = .ok (.isub, 1) := by decide +kernel
theorem dX7_gainOf_77 : decode cX7_gainOf 77 = .ok (.istore 5, 2) := by decide +kernel
theorem dX7_gainOf_79 : decode cX7_gainOf 79 = .ok (.iconst 0, 1) := by decide +kernel
theorem dX7_gainOf_80 : decode cX7_gainOf 80 = .ok (.istore 6, 2) := by decide +kernel
theorem dX7_gainOf_82 : decode cX7_gainOf 82 = .ok (.iload 6, 2) := by decide +kernel
theorem dX7_gainOf_84 : decode cX7_gainOf 84 = .ok (.bipush 111, 2) := by decide +kernel
theorem dX7_gainOf_86 : decode cX7_gainOf 86 = .ok (.if_icmp .ge 23, 3) := by decide +kernel
theorem dX7_gainOf_89 : decode cX7_gainOf 89 = .ok (.aload_n 0, 1) := by decide +kernel
theorem dX7_gainOf_90 : decode cX7_gainOf 90 = .ok (.getfield 13, 3) := by decide +kernel
theorem dX7_gainOf_93 : decode cX7_gainOf 93 = .ok (.iload 6, 2) := by decide +kernel
theorem dX7_gainOf_95 : decode cX7_gainOf 95 = .ok (.aload_n 0, 1) := by decide +kernel
theorem dX7_gainOf_96 : decode cX7_gainOf 96 = .ok (.getfield 38, 3) := by decide +kernel
theorem dX7_gainOf_99 : decode cX7_gainOf 99 = .ok (.iload 6, 2) := by decide +kernel
theorem dX7_gainOf_101 : decode cX7_gainOf 101 = .ok (.iaload, 1) := by decide +kernel
theorem dX7_gainOf_102 : decode cX7_gainOf 102 = .ok (.iastore, 1) := by decide +kernel
theorem dX7_gainOf_103 : decode cX7_gainOf 103 = .ok (.iinc 6 1, 3) := by decide +kernel
theorem dX7_gainOf_106 : decode cX7_gainOf 106 = .ok (.goto (-24), 3) := by decide +kernel
theorem dX7_gainOf_109 : decode cX7_gainOf 109 = .ok (.iload 5, 2) := by decide +kernel
theorem dX7_gainOf_111 : decode cX7_gainOf 111 = .ok (.ireturn, 1) := by decide +kernel
theorem dX7_gain_0 : decode cX7_gain 0 = .ok (.aload_n 0, 1) := by decide +kernel
theorem dX7_gain_1 : decode cX7_gain 1 = .ok (.iload_n 1, 1) := by decide +kernel
theorem dX7_gain_2 : decode cX7_gain 2 = .ok (.iload_n 2, 1) := by decide +kernel
theorem dX7_gain_3 : decode cX7_gain 3 = .ok (.invokevirtual 74, 3) := by decide +kernel
theorem dX7_gain_6 : decode cX7_gain 6 = .ok (.ifCond .ne 6, 3) := by decide +kernel
theorem dX7_gain_9 : decode cX7_gain 9 = .ok (.bipush (-2), 2) := by decide +kernel
theorem dX7_gain_11 : decode cX7_gain 11 = .ok (.ireturn, 1) := by decide +kernel
theorem dX7_gain_12 : decode cX7_gain 12 = .ok (.iload_n 3, 1) := by decide +kernel
theorem dX7_gain_13 : decode cX7_gain 13 = .ok (.i2l, 1) := by decide +kernel
theorem dX7_gain_14 : decode cX7_gain 14 = .ok (.lconst 0, 1) := by decide +kernel
theorem dX7_gain_15 : decode cX7_gain 15 = .ok (.lconst 1, 1) := by decide +kernel
theorem dX7_gain_16 : decode cX7_gain 16 = .ok (.invokestatic 66, 3) := by decide +kernel
theorem dX7_gain_19 : decode cX7_gain 19 = .ok (.ifCond .ne 6, 3) := by decide +kernel
theorem dX7_gain_22 : decode cX7_gain 22 = .ok (.bipush (-3), 2) := by decide +kernel
theorem dX7_gain_24 : decode cX7_gain 24 = .ok (.ireturn, 1) := by decide +kernel
theorem dX7_gain_25 : decode cX7_gain 25 = .ok (.aload_n 0, 1) := by decide +kernel
theorem dX7_gain_26 : decode cX7_gain 26 = .ok (.iload_n 1, 1) := by decide +kernel
theorem dX7_gain_27 : decode cX7_gain 27 = .ok (.iload_n 2, 1) := by decide +kernel
theorem dX7_gain_28 : decode cX7_gain 28 = .ok (.invokevirtual 171, 3) := by decide +kernel
theorem dX7_gain_31 : decode cX7_gain 31 = .ok (.ifCond .eq 8, 3) := by decide +kernel
theorem dX7_gain_34 : decode cX7_gain 34 = .ok (.bipush (-4), 2) := by decide +kernel
theorem dX7_gain_36 : decode cX7_gain 36 = .ok (.goto 10, 3) := by decide +kernel
theorem dX7_gain_39 : decode cX7_gain 39 = .ok (.aload_n 0, 1) := by decide +kernel
theorem dX7_gain_40 : decode cX7_gain 40 = .ok (.iload_n 1, 1) := by decide +kernel
theorem dX7_gain_41 : decode cX7_gain 41 = .ok (.iload_n 2, 1) := by decide +kernel
theorem dX7_gain_42 : decode cX7_gain 42 = .ok (.iload_n 3, 1) := by decide +kernel
theorem dX7_gain_43 : decode cX7_gain 43 = .ok (.invokevirtual 217, 3) := by decide +kernel
theorem dX7_gain_46 : decode cX7_gain 46 = .ok (.ireturn, 1) := by decide +kernel
theorem dX7_best_0 : decode cX7_best 0 = .ok (.iconst (-1), 1) := by decide +kernel
theorem dX7_best_1 : decode cX7_best 1 = .ok (.istore_n 1, 1) := by decide +kernel
theorem dX7_best_2 : decode cX7_best 2 = .ok (.iconst (-1), 1) := by decide +kernel
theorem dX7_best_3 : decode cX7_best 3 = .ok (.istore_n 2, 1) := by decide +kernel
theorem dX7_best_4 : decode cX7_best 4 = .ok (.iconst 0, 1) := by decide +kernel
theorem dX7_best_5 : decode cX7_best 5 = .ok (.istore_n 3, 1) := by decide +kernel
theorem dX7_best_6 : decode cX7_best 6 = .ok (.iload_n 3, 1) := by decide +kernel
theorem dX7_best_7 : decode cX7_best 7 = .ok (.aload_n 0, 1) := by decide +kernel
theorem dX7_best_8 : decode cX7_best 8 = .ok (.getfield 7, 3) := by decide +kernel
theorem dX7_best_11 : decode cX7_best 11 = .ok (.if_icmp .ge 88, 3) := by decide +kernel
theorem dX7_best_14 : decode cX7_best 14 = .ok (.iconst 0, 1) := by decide +kernel
theorem dX7_best_15 : decode cX7_best 15 = .ok (.istore 4, 2) := by decide +kernel
theorem dX7_best_17 : decode cX7_best 17 = .ok (.iload 4, 2) := by decide +kernel
theorem dX7_best_19 : decode cX7_best 19 = .ok (.aload_n 0, 1) := by decide +kernel
theorem dX7_best_20 : decode cX7_best 20 = .ok (.getfield 7, 3) := by decide +kernel
theorem dX7_best_23 : decode cX7_best 23 = .ok (.if_icmp .ge 70, 3) := by decide +kernel
theorem dX7_best_26 : decode cX7_best 26 = .ok (.iload_n 3, 1) := by decide +kernel
theorem dX7_best_27 : decode cX7_best 27 = .ok (.iload 4, 2) := by decide +kernel
theorem dX7_best_29 : decode cX7_best 29 = .ok (.if_icmp .eq 24, 3) := by decide +kernel
theorem dX7_best_32 : decode cX7_best 32 = .ok (.aload_n 0, 1) := by decide +kernel
theorem dX7_best_33 : decode cX7_best 33 = .ok (.iload_n 3, 1) := by decide +kernel
theorem dX7_best_34 : decode cX7_best 34 = .ok (.iload 4, 2) := by decide +kernel
theorem dX7_best_36 : decode cX7_best 36 = .ok (.invokevirtual 171, 3) := by decide +kernel
theorem dX7_best_39 : decode cX7_best 39 = .ok (.ifCond .ne 14, 3) := by decide +kernel
theorem dX7_best_42 : decode cX7_best 42 = .ok (.aload_n 0, 1) := by decide +kernel
theorem dX7_best_43 : decode cX7_best 43 = .ok (.iload_n 3, 1) := by decide +kernel
theorem dX7_best_44 : decode cX7_best 44 = .ok (.iload 4, 2) := by decide +kernel
theorem dX7_best_46 : decode cX7_best 46 = .ok (.iconst 0, 1) := by decide +kernel
theorem dX7_best_47 : decode cX7_best 47 = .ok (.invokevirtual 217, 3) := by decide +kernel
theorem dX7_best_50 : decode cX7_best 50 = .ok (.goto 4, 3) := by decide +kernel
theorem dX7_best_53 : decode cX7_best 53 = .ok (.iconst (-1), 1) := by decide +kernel
theorem dX7_best_54 : decode cX7_best 54 = .ok (.istore 5, 2) := by decide +kernel
theorem dX7_best_56 : decode cX7_best 56 = .ok (.iload 5, 2) := by decide +kernel
theorem dX7_best_58 : decode cX7_best 58 = .ok (.iload_n 2, 1) := by decide +kernel
theorem dX7_best_59 : decode cX7_best 59 = .ok (.if_icmp .le 13, 3) := by decide +kernel
theorem dX7_best_62 : decode cX7_best 62 = .ok (.bipush 10, 2) := by decide +kernel
theorem dX7_best_64 : decode cX7_best 64 = .ok (.iload_n 3, 1) := by decide +kernel
theorem dX7_best_65 : decode cX7_best 65 = .ok (.imul, 1) := by decide +kernel
theorem dX7_best_66 : decode cX7_best 66 = .ok (.iload 4, 2) := by decide +kernel
theorem dX7_best_68 : decode cX7_best 68 = .ok (.iadd, 1) := by decide +kernel
theorem dX7_best_69 : decode cX7_best 69 = .ok (.goto 4, 3) := by decide +kernel
theorem dX7_best_72 : decode cX7_best 72 = .ok (.iload_n 1, 1) := by decide +kernel
theorem dX7_best_73 : decode cX7_best 73 = .ok (.istore_n 1, 1) := by decide +kernel
theorem dX7_best_74 : decode cX7_best 74 = .ok (.iload 5, 2) := by decide +kernel
theorem dX7_best_76 : decode cX7_best 76 = .ok (.iload_n 2, 1) := by decide +kernel
theorem dX7_best_77 : decode cX7_best 77 = .ok (.if_icmp .le 8, 3) := by decide +kernel
theorem dX7_best_80 : decode cX7_best 80 = .ok (.iload 5, 2) := by decide +kernel
theorem dX7_best_82 : decode cX7_best 82 = .ok (.goto 4, 3) := by decide +kernel
theorem dX7_best_85 : decode cX7_best 85 = .ok (.iload_n 2, 1) := by decide +kernel
theorem dX7_best_86 : decode cX7_best 86 = .ok (.istore_n 2, 1) := by decide +kernel
theorem dX7_best_87 : decode cX7_best 87 = .ok (.iinc 4 1, 3) := by decide +kernel
theorem dX7_best_90 : decode cX7_best 90 = .ok (.goto (-73), 3) := by decide +kernel
theorem dX7_best_93 : decode cX7_best 93 = .ok (.iinc 3 1, 3) := by decide +kernel
