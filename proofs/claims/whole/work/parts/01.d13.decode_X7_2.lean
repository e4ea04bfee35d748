theorem dX7_best_96 : decode cX7_best 96 = .ok (.goto (-90), 3) := by decide +kernel
theorem dX7_best_99 : decode cX7_best 99 = .ok (.iload_n 1, 1) := by decide +kernel
theorem dX7_best_100 : decode cX7_best 100 = .ok (.ireturn, 1) := by decide +kernel
theorem dX7_lossOf_0 : decode cX7_lossOf 0 = .ok (.aload_n 0, 1) := by decide +kernel
theorem dX7_lossOf_1 : decode cX7_lossOf 1 = .ok (.getfield 7, 3) := by decide +kernel
theorem dX7_lossOf_4 : decode cX7_lossOf 4 = .ok (.ineg, 1) := by decide +kernel
theorem dX7_lossOf_5 : decode cX7_lossOf 5 = .ok (.istore_n 3, 1) := by decide +kernel
theorem dX7_lossOf_6 : decode cX7_lossOf 6 = .ok (.iconst 0, 1) := by decide +kernel
theorem dX7_lossOf_7 : decode cX7_lossOf 7 = .ok (.istore 4, 2) := by decide +kernel
theorem dX7_lossOf_9 : decode cX7_lossOf 9 = .ok (.iload 4, 2) := by decide +kernel
theorem dX7_lossOf_11 : decode cX7_lossOf 11 = .ok (.aload_n 0, 1) := by decide +kernel
theorem dX7_lossOf_12 : decode cX7_lossOf 12 = .ok (.getfield 7, 3) := by decide +kernel
theorem dX7_lossOf_15 : decode cX7_lossOf 15 = .ok (.if_icmp .ge 23, 3) := by decide +kernel
theorem dX7_lossOf_18 : decode cX7_lossOf 18 = .ok (.iload_n 3, 1) := by decide +kernel
theorem dX7_lossOf_19 : decode cX7_lossOf 19 = .ok (.aload_n 0, 1) := by decide +kernel
theorem dX7_lossOf_20 : decode cX7_lossOf 20 = .ok (.iload 4, 2) := by decide +kernel
theorem dX7_lossOf_22 : decode cX7_lossOf 22 = .ok (.iload_n 1, 1) := by decide +kernel
theorem dX7_lossOf_23 : decode cX7_lossOf 23 = .ok (.iload_n 2, 1) := by decide +kernel
theorem dX7_lossOf_24 : decode cX7_lossOf 24 = .ok (.invokevirtual 200, 3) := by decide +kernel
theorem dX7_lossOf_27 : decode cX7_lossOf 27 = .ok (.invokestatic 81, 3) := by decide +kernel
theorem dX7_lossOf_30 : decode cX7_lossOf 30 = .ok (.iadd, 1) := by decide +kernel
theorem dX7_lossOf_31 : decode cX7_lossOf 31 = .ok (.istore_n 3, 1) := by decide +kernel
theorem dX7_lossOf_32 : decode cX7_lossOf 32 = .ok (.iinc 4 1, 3) := by decide +kernel
theorem dX7_lossOf_35 : decode cX7_lossOf 35 = .ok (.goto (-26), 3) := by decide +kernel
theorem dX7_lossOf_38 : decode cX7_lossOf 38 = .ok (.aload_n 0, 1) := by decide +kernel
theorem dX7_lossOf_39 : decode cX7_lossOf 39 = .ok (.invokevirtual 174, 3) := by decide +kernel
theorem dX7_lossOf_42 : decode cX7_lossOf 42 = .ok (.iload_n 3, 1) := by decide +kernel
theorem dX7_lossOf_43 : decode cX7_lossOf 43 = .ok (.isub, 1) := by decide +kernel
theorem dX7_lossOf_44 : decode cX7_lossOf 44 = .ok (.ireturn, 1) := by decide +kernel
theorem dX7_loss_0 : decode cX7_loss 0 = .ok (.aload_n 0, 1) := by decide +kernel
theorem dX7_loss_1 : decode cX7_loss 1 = .ok (.iload_n 1, 1) := by decide +kernel
theorem dX7_loss_2 : decode cX7_loss 2 = .ok (.iload_n 2, 1) := by decide +kernel
theorem dX7_loss_3 : decode cX7_loss 3 = .ok (.invokevirtual 171, 3) := by decide +kernel
theorem dX7_loss_6 : decode cX7_loss 6 = .ok (.ifCond .eq 12, 3) := by decide +kernel
theorem dX7_loss_9 : decode cX7_loss 9 = .ok (.aload_n 0, 1) := by decide +kernel
theorem dX7_loss_10 : decode cX7_loss 10 = .ok (.iload_n 1, 1) := by decide +kernel
theorem dX7_loss_11 : decode cX7_loss 11 = .ok (.iload_n 2, 1) := by decide +kernel
theorem dX7_loss_12 : decode cX7_loss 12 = .ok (.invokevirtual 220, 3) := by decide +kernel
theorem dX7_loss_15 : decode cX7_loss 15 = .ok (.goto 5, 3) := by decide +kernel
theorem dX7_loss_18 : decode cX7_loss 18 = .ok (.bipush (-2), 2) := by decide +kernel
theorem dX7_loss_20 : decode cX7_loss 20 = .ok (.ireturn, 1) := by decide +kernel
theorem dX7_worst_0 : decode cX7_worst 0 = .ok (.iconst (-1), 1) := by decide +kernel
theorem dX7_worst_1 : decode cX7_worst 1 = .ok (.istore_n 1, 1) := by decide +kernel
theorem dX7_worst_2 : decode cX7_worst 2 = .ok (.iconst (-1), 1) := by decide +kernel
theorem dX7_worst_3 : decode cX7_worst 3 = .ok (.istore_n 2, 1) := by decide +kernel
theorem dX7_worst_4 : decode cX7_worst 4 = .ok (.iconst 0, 1) := by decide +kernel
theorem dX7_worst_5 : decode cX7_worst 5 = .ok (.istore_n 3, 1) := by decide +kernel
theorem dX7_worst_6 : decode cX7_worst 6 = .ok (.iload_n 3, 1) := by decide +kernel
theorem dX7_worst_7 : decode cX7_worst 7 = .ok (.aload_n 0, 1) := by decide +kernel
theorem dX7_worst_8 : decode cX7_worst 8 = .ok (.getfield 7, 3) := by decide +kernel
theorem dX7_worst_11 : decode cX7_worst 11 = .ok (.if_icmp .ge 81, 3) := by decide +kernel
theorem dX7_worst_14 : decode cX7_worst 14 = .ok (.iconst 0, 1) := by decide +kernel
theorem dX7_worst_15 : decode cX7_worst 15 = .ok (.istore 4, 2) := by decide +kernel
theorem dX7_worst_17 : decode cX7_worst 17 = .ok (.iload 4, 2) := by decide +kernel
theorem dX7_worst_19 : decode cX7_worst 19 = .ok (.aload_n 0, 1) := by decide +kernel
theorem dX7_worst_20 : decode cX7_worst 20 = .ok (.getfield 7, 3) := by decide +kernel
theorem dX7_worst_23 : decode cX7_worst 23 = .ok (.if_icmp .ge 63, 3) := by decide +kernel
theorem dX7_worst_26 : decode cX7_worst 26 = .ok (.aload_n 0, 1) := by decide +kernel
theorem dX7_worst_27 : decode cX7_worst 27 = .ok (.iload_n 3, 1) := by decide +kernel
theorem dX7_worst_28 : decode cX7_worst 28 = .ok (.iload 4, 2) := by decide +kernel
theorem dX7_worst_30 : decode cX7_worst 30 = .ok (.invokevirtual 171, 3) := by decide +kernel
theorem dX7_worst_33 : decode cX7_worst 33 = .ok (.ifCond .eq 13, 3) := by decide +kernel
theorem dX7_worst_36 : decode cX7_worst 36 = .ok (.aload_n 0, 1) := by decide +kernel
theorem dX7_worst_37 : decode cX7_worst 37 = .ok (.iload_n 3, 1) := by decide +kernel
theorem dX7_worst_38 : decode cX7_worst 38 = .ok (.iload 4, 2) := by decide +kernel
theorem dX7_worst_40 : decode cX7_worst 40 = .ok (.invokevirtual 220, 3) := by decide +kernel
theorem dX7_worst_43 : decode cX7_worst 43 = .ok (.goto 4, 3) := by decide +kernel
theorem dX7_worst_46 : decode cX7_worst 46 = .ok (.iconst (-1), 1) := by decide +kernel
theorem dX7_worst_47 : decode cX7_worst 47 = .ok (.istore 5, 2) := by decide +kernel
theorem dX7_worst_49 : decode cX7_worst 49 = .ok (.iload 5, 2) := by decide +kernel
theorem dX7_worst_51 : decode cX7_worst 51 = .ok (.iload_n 2, 1) := by decide +kernel
theorem dX7_worst_52 : decode cX7_worst 52 = .ok (.if_icmp .le 13, 3) := by decide +kernel
theorem dX7_worst_55 : decode cX7_worst 55 = .ok (.bipush 10, 2) := by decide +kernel
theorem dX7_worst_57 : decode cX7_worst 57 = .ok (.iload_n 3, 1) := by decide +kernel
theorem dX7_worst_58 : decode cX7_worst 58 = .ok (.imul, 1) := by decide +kernel
theorem dX7_worst_59 : decode cX7_worst 59 = .ok (.iload 4, 2) := by decide +kernel
theorem dX7_worst_61 : decode cX7_worst 61 = .ok (.iadd, 1) := by decide +kernel
theorem dX7_worst_62 : decode cX7_worst 62 = .ok (.goto 4, 3) := by decide +kernel
theorem dX7_worst_65 : decode cX7_worst 65 = .ok (.iload_n 1, 1) := by decide +kernel
theorem dX7_worst_66 : decode cX7_worst 66 = .ok (.istore_n 1, 1) := by decide +kernel
theorem dX7_worst_67 : decode cX7_worst 67 = .ok (.iload 5, 2) := by decide +kernel
theorem dX7_worst_69 : decode cX7_worst 69 = .ok (.iload_n 2, 1) := by decide +kernel
theorem dX7_worst_70 : decode cX7_worst 70 = .ok (.if_icmp .le 8, 3) := by decide +kernel
theorem dX7_worst_73 : decode cX7_worst 73 = .ok (.iload 5, 2) := by decide +kernel
theorem dX7_worst_75 : decode cX7_worst 75 = .ok (.goto 4, 3) := by decide +kernel
theorem dX7_worst_78 : decode cX7_worst 78 = .ok (.iload_n 2, 1) := by decide +kernel
theorem dX7_worst_79 : decode cX7_worst 79 = .ok (.istore_n 2, 1) := by decide +kernel
theorem dX7_worst_80 : decode cX7_worst 80 = .ok (.iinc 4 1, 3) := by decide +kernel
theorem dX7_worst_83 : decode cX7_worst 83 = .ok (.goto (-66), 3) := by decide +kernel
theorem dX7_worst_86 : decode cX7_worst 86 = .ok (.iinc 3 1, 3) := by decide +kernel
theorem dX7_worst_89 : decode cX7_worst 89 = .ok (.goto (-83), 3) := by decide +kernel
theorem dX7_worst_92 : decode cX7_worst 92 = .ok (.iload_n 1, 1) := by decide +kernel
theorem dX7_worst_93 : decode cX7_worst 93 = .ok (.ireturn, 1) := by decide +kernel
theorem dX7_findsWay_0 : decode cX7_findsWay 0 = .ok (.iconst 0, 1) := by decide +kernel
theorem dX7_findsWay_1 : decode cX7_findsWay 1 = .ok (.istore_n 3, 1) := by decide +kernel
theorem dX7_findsWay_2 : decode cX7_findsWay 2 = .ok (.iload_n 3, 1) := by decide +kernel
theorem dX7_findsWay_3 : decode cX7_findsWay 3 = .ok (.aload_n 0, 1) := by decide +kernel
theorem dX7_findsWay_4 : decode cX7_findsWay 4 = .ok (.getfield 7, 3) := by decide +kernel
theorem dX7_findsWay_7 : decode cX7_findsWay 7 = .ok (.if_icmp .ge 25, 3) := by decide +kernel
theorem dX7_findsWay_10 : decode cX7_findsWay 10 = .ok (.aload_n 0, 1) := by decide +kernel
theorem dX7_findsWay_11 : decode cX7_findsWay 11 = .ok (.getfield 44, 3) := by decide +kernel
theorem dX7_findsWay_14 : decode cX7_findsWay 14 = .ok (.iload_n 3, 1) := by decide +kernel
theorem dX7_findsWay_15 : decode cX7_findsWay 15 = .ok (.iload_n 3, 1) := by decide +kernel
theorem dX7_findsWay_16 : decode cX7_findsWay 16 = .ok (.iload_n 1, 1) := by decide +kernel
theorem dX7_findsWay_17 : decode cX7_findsWay 17 = .ok (.if_icmp .ne 7, 3) := by decide +kernel
theorem dX7_findsWay_20 : decode cX7_findsWay 20 = .ok (.iload_n 1, 1) := by decide +kernel
theorem dX7_findsWay_21 : decode cX7_findsWay 21 = .ok (.goto 4, 3) := by decide +kernel
theorem dX7_findsWay_24 : decode cX7_findsWay 24 = .ok (.iconst (-1), 1) := by decide +kernel
theorem dX7_findsWay_25 : decode cX7_findsWay 25 = .ok (.iastore, 1) := by decide +kernel
theorem dX7_findsWay_26 : decode cX7_findsWay 26 = .ok (.iinc 3 1, 3) := by decide +kernel
theorem dX7_findsWay_29 : decode cX7_findsWay 29 = .ok (.goto (-27), 3) := by decide +kernel
theorem dX7_findsWay_32 : decode cX7_findsWay 32 = .ok (.iconst 1, 1) := by decide +kernel
theorem dX7_findsWay_33 : decode cX7_findsWay 33 = .ok (.istore_n 3, 1) := by decide +kernel
theorem dX7_findsWay_34 : decode cX7_findsWay 34 = .ok (.iload_n 3, 1) := by decide +kernel
theorem dX7_findsWay_35 : decode cX7_findsWay 35 = .ok (.ifCond .eq 99, 3) := by decide +kernel
theorem dX7_findsWay_38 : decode cX7_findsWay 38 = .ok (.aload_n 0, 1) := by decide +kernel
theorem dX7_findsWay_39 : decode cX7_findsWay 39 = .ok (.getfield 44, 3) := by decide +kernel
theorem dX7_findsWay_42 : decode cX7_findsWay 42 = .ok (.iload_n 2, 1) := by decide +kernel
theorem dX7_findsWay_43 : decode cX7_findsWay 43 = .ok (.iaload, 1) := by decide +kernel
theorem dX7_findsWay_44 : decode cX7_findsWay 44 = .ok (.ifCond .ge 90, 3) := by decide +kernel
theorem dX7_findsWay_47 : decode cX7_findsWay 47 = .ok (.iconst 0, 1) := by decide +kernel
theorem dX7_findsWay_48 : decode cX7_findsWay 48 = .ok (.istore_n 3, 1) := by decide +kernel
theorem dX7_findsWay_49 : decode cX7_findsWay 49 = .ok (.iconst 0, 1) := by decide +kernel
theorem dX7_findsWay_50 : decode cX7_findsWay 50 = .ok (.istore 4, 2) := by decide +kernel
theorem dX7_findsWay_52 : decode cX7_findsWay 52 = .ok (.iload 4, 2) := by decide +kernel
theorem dX7_findsWay_54 : decode cX7_findsWay 54 = .ok (.aload_n 0, 1) := by decide +kernel
theorem dX7_findsWay_55 : decode cX7_findsWay 55 = .ok (.getfield 7, 3) := by decide +kernel
theorem dX7_findsWay_58 : decode cX7_findsWay 58 = .ok (.if_icmp .ge 73, 3) := by decide +kernel
theorem dX7_findsWay_61 : decode cX7_findsWay 61 = .ok (.iconst 0, 1) := by decide +kernel
theorem dX7_findsWay_62 : decode cX7_findsWay 62 = .ok (.istore 5, 2) := by decide +kernel
theorem dX7_findsWay_64 : decode cX7_findsWay 64 = .ok (.iload 5, 2) := by decide +kernel
theorem dX7_findsWay_66 : decode cX7_findsWay 66 = .ok (.aload_n 0, 1) := by decide +kernel
theorem dX7_findsWay_67 : decode cX7_findsWay 67 = .ok (.getfield 7, 3) := by decide +kernel
theorem dX7_findsWay_70 : decode cX7_findsWay 70 = .ok (.if_icmp .ge 55, 3) := by decide +kernel
theorem dX7_findsWay_73 : decode cX7_findsWay 73 = .ok (.aload_n 0, 1) := by decide +kernel
theorem dX7_findsWay_74 : decode cX7_findsWay 74 = .ok (.getfield 44, 3) := by decide +kernel
theorem dX7_findsWay_77 : decode cX7_findsWay 77 = .ok (.iload 4, 2) := by decide +kernel
theorem dX7_findsWay_79 : decode cX7_findsWay 79 = .ok (.iaload, 1) := by decide +kernel
theorem dX7_findsWay_80 : decode cX7_findsWay 80 = .ok (.ifCond .lt 39, 3) := by decide +kernel
theorem dX7_findsWay_83 : decode cX7_findsWay 83 = .ok (.aload_n 0, 1) := by decide +kernel
theorem dX7_findsWay_84 : decode cX7_findsWay 84 = .ok (.getfield 44, 3) := by decide +kernel
theorem dX7_findsWay_87 : decode cX7_findsWay 87 = .ok (.iload 5, 2) := by decide +kernel
theorem dX7_findsWay_89 : decode cX7_findsWay 89 = .ok (.iaload, 1) := by decide +kernel
theorem dX7_findsWay_90 : decode cX7_findsWay 90 = .ok (.ifCond .ge 29, 3) := by decide +kernel
theorem dX7_findsWay_93 : decode cX7_findsWay 93 = .ok (.aload_n 0, 1) := by decide +kernel
theorem dX7_findsWay_94 : decode cX7_findsWay 94 = .ok (.getfield 41, 3) := by decide +kernel
theorem dX7_findsWay_97 : decode cX7_findsWay 97 = .ok (.iload 4, 2) := by decide +kernel
theorem dX7_findsWay_99 : decode cX7_findsWay 99 = .ok (.iaload, 1) := by decide +kernel
theorem dX7_findsWay_100 : decode cX7_findsWay 100 = .ok (.iload 5, 2) := by decide +kernel
theorem dX7_findsWay_102 : decode cX7_findsWay 102 = .ok (.invokestatic 78, 3) := by decide +kernel
theorem dX7_findsWay_105 : decode cX7_findsWay 105 = .ok (.ifCond .eq 14, 3) := by decide +kernel
theorem dX7_findsWay_108 : decode cX7_findsWay 108 = .ok (.aload_n 0, 1) := by decide +kernel
theorem dX7_findsWay_109 : decode cX7_findsWay 109 = .ok (.getfield 44, 3) := by decide +kernel
theorem dX7_findsWay_112 : decode cX7_findsWay 112 = .ok (.iload 5, 2) := by decide +kernel
theorem dX7_findsWay_114 : decode cX7_findsWay 114 = .ok (.iload 4, 2) := by decide +kernel
theorem dX7_findsWay_116 : decode cX7_findsWay 116 = .ok (.iastore, 1) := by decide +kernel
theorem dX7_findsWay_117 : decode cX7_findsWay 117 = .ok (.iconst 1, 1) := by decide +kernel
theorem dX7_findsWay_118 : decode cX7_findsWay 118 = .ok (.istore_n 3, 1) := by decide +kernel
theorem dX7_findsWay_119 : decode cX7_findsWay 119 = .ok (.iinc 5 1, 3) := by decide +kernel
theorem dX7_findsWay_122 : decode cX7_findsWay 122 = .ok (.goto (-58), 3) := by decide +kernel
theorem dX7_findsWay_125 : decode cX7_findsWay 125 = .ok (.iinc 4 1, 3) := by decide +kernel
theorem dX7_findsWay_128 : decode cX7_findsWay 128 = .ok (.goto (-76), 3) := by decide +kernel
theorem dX7_findsWay_131 : decode cX7_findsWay 131 = .ok (.goto (-97), 3) := by decide +kernel
theorem dX7_findsWay_134 : decode cX7_findsWay 134 = .ok (.aload_n 0, 1) := by decide +kernel
theorem dX7_findsWay_135 : decode cX7_findsWay 135 = .ok (.getfield 44, 3) := by decide +kernel
theorem dX7_findsWay_138 : decode cX7_findsWay 138 = .ok (.iload_n 2, 1) := by decide +kernel
theorem dX7_findsWay_139 : decode cX7_findsWay 139 = .ok (.iaload, 1) := by decide +kernel
theorem dX7_findsWay_140 : decode cX7_findsWay 140 = .ok (.ifCond .lt 7, 3) := by decide +kernel
theorem dX7_findsWay_143 : decode cX7_findsWay 143 = .ok (.iconst 1, 1) := by decide +kernel
theorem dX7_findsWay_144 : decode cX7_findsWay 144 = .ok (.goto 4, 3) := by decide +kernel
theorem dX7_findsWay_147 : decode cX7_findsWay 147 = .ok (.iconst 0, 1) := by decide +kernel
theorem dX7_findsWay_148 : decode cX7_findsWay 148 = .ok (.ireturn, 1) := by decide +kernel
theorem dX7_sever_0 : decode cX7_sever 0 = .ok (.aload_n 0, 1) := by decide +kernel
theorem dX7_sever_1 : decode cX7_sever 1 = .ok (.iload_n 1, 1) := by decide +kernel
theorem dX7_sever_2 : decode cX7_sever 2 = .ok (.iload_n 2, 1) := by decide +kernel
theorem dX7_sever_3 : decode cX7_sever 3 = .ok (.invokevirtual 74, 3) := by decide +kernel
theorem dX7_sever_6 : decode cX7_sever 6 = .ok (.ifCond .ne 6, 3) := by decide +kernel
theorem dX7_sever_9 : decode cX7_sever 9 = .ok (.bipush (-2), 2) := by decide +kernel
theorem dX7_sever_11 : decode cX7_sever 11 = .ok (.ireturn, 1) := by decide +kernel
theorem dX7_sever_12 : decode cX7_sever 12 = .ok (.iconst 0, 1) := by decide +kernel
theorem dX7_sever_13 : decode cX7_sever 13 = .ok (.istore_n 3, 1) := by decide +kernel
theorem dX7_sever_14 : decode cX7_sever 14 = .ok (.iload_n 3, 1) := by decide +kernel
theorem dX7_sever_15 : decode cX7_sever 15 = .ok (.aload_n 0, 1) := by decide +kernel
theorem dX7_sever_16 : decode cX7_sever 16 = .ok (.getfield 7, 3) := by decide +kernel
theorem dX7_sever_19 : decode cX7_sever 19 = .ok (.if_icmp .ge 30, 3) := by decide +kernel
theorem dX7_sever_22 : decode cX7_sever 22 = .ok (.aload_n 0, 1) := by decide +kernel
theorem dX7_sever_23 : decode cX7_sever 23 = .ok (.getfield 41, 3) := by decide +kernel
theorem dX7_sever_26 : decode cX7_sever 26 = .ok (.iload_n 3, 1) := by decide +kernel
theorem dX7_sever_27 : decode cX7_sever 27 = .ok (.aload_n 0, 1) := by decide +kernel
theorem dX7_sever_28 : decode cX7_sever 28 = .ok (.getfield 13, 3) := by decide +kernel
theorem dX7_sever_31 : decode cX7_sever 31 = .ok (.iconst 0, 1) := by decide +kernel
theorem dX7_sever_32 : decode cX7_sever 32 = .ok (.iload_n 3, 1) := by decide +kernel
theorem dX7_sever_33 : decode cX7_sever 33 = .ok (.iadd, 1) := by decide +kernel
theorem dX7_sever_34 : decode cX7_sever 34 = .ok (.iaload, 1) := by decide +kernel
theorem dX7_sever_35 : decode cX7_sever 35 = .ok (.iastore, 1) := by decide +kernel
theorem dX7_sever_36 : decode cX7_sever 36 = .ok (.aload_n 0, 1) := by decide +kernel
theorem dX7_sever_37 : decode cX7_sever 37 = .ok (.getfield 47, 3) := by decide +kernel
theorem dX7_sever_40 : decode cX7_sever 40 = .ok (.iload_n 3, 1) := by decide +kernel
theorem dX7_sever_41 : decode cX7_sever 41 = .ok (.iconst 0, 1) := by decide +kernel
theorem dX7_sever_42 : decode cX7_sever 42 = .ok (.iastore, 1) := by decide +kernel
theorem dX7_sever_43 : decode cX7_sever 43 = .ok (.iinc 3 1, 3) := by decide +kernel
theorem dX7_sever_46 : decode cX7_sever 46 = .ok (.goto (-32), 3) := by decide +kernel
theorem dX7_sever_49 : decode cX7_sever 49 = .ok (.iconst 0, 1) := by decide +kernel
theorem dX7_sever_50 : decode cX7_sever 50 = .ok (.istore_n 3, 1) := by decide +kernel
theorem dX7_sever_51 : decode cX7_sever 51 = .ok (.aload_n 0, 1) := by decide +kernel
theorem dX7_sever_52 : decode cX7_sever 52 = .ok (.iload_n 1, 1) := by decide +kernel
theorem dX7_sever_53 : decode cX7_sever 53 = .ok (.iload_n 2, 1) := by decide +kernel
theorem dX7_sever_54 : decode cX7_sever 54 = .ok (.invokevirtual 223, 3) := by decide +kernel
theorem dX7_sever_57 : decode cX7_sever 57 = .ok (.ifCond .eq 43, 3) := by decide +kernel
theorem dX7_sever_60 : decode cX7_sever 60 = .ok (.iload_n 2, 1) := by decide +kernel
theorem dX7_sever_61 : decode cX7_sever 61 = .ok (.istore 4, 2) := by decide +kernel
theorem dX7_sever_63 : decode cX7_sever 63 = .ok (.iload 4, 2) := by decide +kernel
theorem dX7_sever_65 : decode cX7_sever 65 = .ok (.iload_n 1, 1) := by decide +kernel
theorem dX7_sever_66 : decode cX7_sever 66 = .ok (.if_icmp .eq 28, 3) := by decide +kernel
theorem dX7_sever_69 : decode cX7_sever 69 = .ok (.aload_n 0, 1) := by decide +kernel
theorem dX7_sever_70 : decode cX7_sever 70 = .ok (.aload_n 0, 1) := by decide +kernel
theorem dX7_sever_71 : decode cX7_sever 71 = .ok (.getfield 44, 3) := by decide +kernel
theorem dX7_sever_74 : decode cX7_sever 74 = .ok (.iload 4, 2) := by decide +kernel
theorem dX7_sever_76 : decode cX7_sever 76 = .ok (.iaload, 1) := by decide +kernel
theorem dX7_sever_77 : decode cX7_sever 77 = .ok (.iload 4, 2) := by decide +kernel
theorem dX7_sever_79 : decode cX7_sever 79 = .ok (.invokevirtual 226, 3) := by decide +kernel
theorem dX7_sever_82 : decode cX7_sever 82 = .ok (.aload_n 0, 1) := by decide +kernel
theorem dX7_sever_83 : decode cX7_sever 83 = .ok (.getfield 44, 3) := by decide +kernel
theorem dX7_sever_86 : decode cX7_sever 86 = .ok (.iload 4, 2) := by decide +kernel
theorem dX7_sever_88 : decode cX7_sever 88 = .ok (.iaload, 1) := by decide +kernel
theorem dX7_sever_89 : decode cX7_sever 89 = .ok (.istore 4, 2) := by decide +kernel
theorem dX7_sever_91 : decode cX7_sever 91 = .ok (.goto (-28), 3) := by decide +kernel
theorem dX7_sever_94 : decode cX7_sever 94 = .ok (.iinc 3 1, 3) := by decide +kernel
theorem dX7_sever_97 : decode cX7_sever 97 = .ok (.goto (-46), 3) := by decide +kernel
theorem dX7_sever_100 : decode cX7_sever 100 = .ok (.iload_n 3, 1) := by decide +kernel
theorem dX7_sever_101 : decode cX7_sever 101 = .ok (.ireturn, 1) := by decide +kernel
theorem dX7_goAlong_0 : decode cX7_goAlong 0 = .ok (.aload_n 0, 1) := by decide +kernel
theorem dX7_goAlong_1 : decode cX7_goAlong 1 = .ok (.getfield 47, 3) := by decide +kernel
theorem dX7_goAlong_4 : decode cX7_goAlong 4 = .ok (.iload_n 1, 1) := by decide +kernel
theorem dX7_goAlong_5 : decode cX7_goAlong 5 = .ok (.iaload, 1) := by decide +kernel
theorem dX7_goAlong_6 : decode cX7_goAlong 6 = .ok (.iload_n 2, 1) := by decide +kernel
theorem dX7_goAlong_7 : decode cX7_goAlong 7 = .ok (.invokestatic 78, 3) := by decide +kernel
theorem dX7_goAlong_10 : decode cX7_goAlong 10 = .ok (.istore_n 3, 1) := by decide +kernel
theorem dX7_goAlong_11 : decode cX7_goAlong 11 = .ok (.aload_n 0, 1) := by decide +kernel
theorem dX7_goAlong_12 : decode cX7_goAlong 12 = .ok (.getfield 41, 3) := by decide +kernel
theorem dX7_goAlong_15 : decode cX7_goAlong 15 = .ok (.iload_n 1, 1) := by decide +kernel
theorem dX7_goAlong_16 : decode cX7_goAlong 16 = .ok (.dup2, 1) := by decide +kernel
theorem dX7_goAlong_17 : decode cX7_goAlong 17 = .ok (.iaload, 1) := by decide +kernel
theorem dX7_goAlong_18 : decode cX7_goAlong 18 = .ok (.iload_n 3, 1) := by decide +kernel
theorem dX7_goAlong_19 : decode cX7_goAlong 19 = .ok (.ifCond .eq 12, 3) := by decide +kernel
theorem dX7_goAlong_22 : decode cX7_goAlong 22 = .ok (.aload_n 0, 1) := by decide +kernel
theorem dX7_goAlong_23 : decode cX7_goAlong 23 = .ok (.getfield 41, 3) := by decide +kernel
theorem dX7_goAlong_26 : decode cX7_goAlong 26 = .ok (.iload_n 1, 1) := by decide +kernel
theorem dX7_goAlong_27 : decode cX7_goAlong 27 = .ok (.iaload, 1) := by decide +kernel
theorem dX7_goAlong_28 : decode cX7_goAlong 28 = .ok (.goto 8, 3) := by decide +kernel
theorem dX7_goAlong_31 : decode cX7_goAlong 31 = .ok (.iconst 1, 1) := by decide +kernel
theorem dX7_goAlong_32 : decode cX7_goAlong 32 = .ok (.iload_n 2, 1) := by decide +kernel
theorem dX7_goAlong_33 : decode cX7_goAlong 33 = .ok (.ishl, 1) := by decide +kernel
theorem dX7_goAlong_34 : decode cX7_goAlong 34 = .ok (.iconst (-1), 1) := by decide +kernel
theorem dX7_goAlong_35 : decode cX7_goAlong 35 = .ok (.ixor, 1) := by decide +kernel
theorem dX7_goAlong_36 : decode cX7_goAlong 36 = .ok (.iand, 1) := by decide +kernel
theorem dX7_goAlong_37 : decode cX7_goAlong 37 = .ok (.iastore, 1) := by decide +kernel
theorem dX7_goAlong_38 : decode cX7_goAlong 38 = .ok (.aload_n 0, 1) := by decide +kernel
theorem dX7_goAlong_39 : decode cX7_goAlong 39 = .ok (.getfield 47, 3) := by decide +kernel
theorem dX7_goAlong_42 : decode cX7_goAlong 42 = .ok (.iload_n 1, 1) := by decide +kernel
theorem dX7_goAlong_43 : decode cX7_goAlong 43 = .ok (.dup2, 1) := by decide +kernel
theorem dX7_goAlong_44 : decode cX7_goAlong 44 = .ok (.iaload, 1) := by decide +kernel
theorem dX7_goAlong_45 : decode cX7_goAlong 45 = .ok (.iconst 1, 1) := by decide +kernel
theorem dX7_goAlong_46 : decode cX7_goAlong 46 = .ok (.iload_n 2, 1) := by decide +kernel
theorem dX7_goAlong_47 : decode cX7_goAlong 47 = .ok (.ishl, 1) := by decide +kernel
theorem dX7_goAlong_48 : decode cX7_goAlong 48 = .ok (.iconst (-1), 1) := by decide +kernel
theorem dX7_goAlong_49 : decode cX7_goAlong 49 = .ok (.ixor, 1) := by decide +kernel
theorem dX7_goAlong_50 : decode cX7_goAlong 50 = .ok (.iand, 1) := by decide +kernel
theorem dX7_goAlong_51 : decode cX7_goAlong 51 = .ok (.iastore, 1) := by decide +kernel
theorem dX7_goAlong_52 : decode cX7_goAlong 52 = .ok (.aload_n 0, 1) := by decide +kernel
theorem dX7_goAlong_53 : decode cX7_goAlong 53 = .ok (.getfield 47, 3) := by decide +kernel
theorem dX7_goAlong_56 : decode cX7_goAlong 56 = .ok (.iload_n 2, 1) := by decide +kernel
theorem dX7_goAlong_57 : decode cX7_goAlong 57 = .ok (.dup2, 1) := by decide +kernel
theorem dX7_goAlong_58 : decode cX7_goAlong 58 = .ok (.iaload, 1) := by decide +kernel
theorem dX7_goAlong_59 : decode cX7_goAlong 59 = .ok (.aload_n 0, 1) := by decide +kernel
theorem dX7_goAlong_60 : decode cX7_goAlong 60 = .ok (.getfield 41, 3) := by decide +kernel
theorem dX7_goAlong_63 : decode cX7_goAlong 63 = .ok (.iload_n 2, 1) := by decide +kernel
theorem dX7_goAlong_64 : decode cX7_goAlong 64 = .ok (.iaload, 1) := by decide +kernel
theorem dX7_goAlong_65 : decode cX7_goAlong 65 = .ok (.iload_n 1, 1) := by decide +kernel
theorem dX7_goAlong_66 : decode cX7_goAlong 66 = .ok (.invokestatic 78, 3) := by decide +kernel
theorem dX7_goAlong_69 : decode cX7_goAlong 69 = .ok (.ifCond .eq 9, 3) := by decide +kernel
theorem dX7_goAlong_72 : decode cX7_goAlong 72 = .ok (.iconst 1, 1) := by decide +kernel
theorem dX7_goAlong_73 : decode cX7_goAlong 73 = .ok (.iload_n 1, 1) := by decide +kernel
theorem dX7_goAlong_74 : decode cX7_goAlong 74 = .ok (.ishl, 1) := by decide +kernel
theorem dX7_goAlong_75 : decode cX7_goAlong 75 = .ok (.goto 4, 3) := by decide +kernel
theorem dX7_goAlong_78 : decode cX7_goAlong 78 = .ok (.iconst 0, 1) := by decide +kernel
theorem dX7_goAlong_79 : decode cX7_goAlong 79 = .ok (.ior, 1) := by decide +kernel
theorem dX7_goAlong_80 : decode cX7_goAlong 80 = .ok (.iastore, 1) := by decide +kernel
theorem dX7_goAlong_81 : decode cX7_goAlong 81 = .ok (.aload_n 0, 1) := by decide +kernel
theorem dX7_goAlong_82 : decode cX7_goAlong 82 = .ok (.getfield 41, 3) := by decide +kernel
theorem dX7_goAlong_85 : decode cX7_goAlong 85 = .ok (.iload_n 2, 1) := by decide +kernel
theorem dX7_goAlong_86 : decode cX7_goAlong 86 = .ok (.dup2, 1) := by decide +kernel
theorem dX7_goAlong_87 : decode cX7_goAlong 87 = .ok (.iaload, 1) := by decide +kernel
theorem dX7_goAlong_88 : decode cX7_goAlong 88 = .ok (.iconst 1, 1) := by decide +kernel
theorem dX7_goAlong_89 : decode cX7_goAlong 89 = .ok (.iload_n 1, 1) := by decide +kernel
theorem dX7_goAlong_90 : decode cX7_goAlong 90 = .ok (.ishl, 1) := by decide +kernel
theorem dX7_goAlong_91 : decode cX7_goAlong 91 = .ok (.ior, 1) := by decide +kernel
theorem dX7_goAlong_92 : decode cX7_goAlong 92 = .ok (.iastore, 1) := by decide +kernel
theorem dX7_goAlong_93 : decode cX7_goAlong 93 = .ok (.return_, 1) := by decide +kernel
theorem dX7_isChain_0 : decode cX7_isChain 0 = .ok (.iload_n 0, 1) := by decide +kernel
theorem dX7_isChain_1 : decode cX7_isChain 1 = .ok (.i2l, 1) := by decide +kernel
theorem dX7_isChain_2 : decode cX7_isChain 2 = .ok (.lconst 0, 1) := by decide +kernel
theorem dX7_isChain_3 : decode cX7_isChain 3 = .ok (.ldc2_w 229, 3) := by decide +kernel
theorem dX7_isChain_6 : decode cX7_isChain 6 = .ok (.invokestatic 66, 3) := by decide +kernel
theorem dX7_isChain_9 : decode cX7_isChain 9 = .ok (.ireturn, 1) := by decide +kernel
theorem dX7_isOneOf_0 : decode cX7_isOneOf 0 = .ok (.iload_n 0, 1) := by decide +kernel
theorem dX7_isOneOf_1 : decode cX7_isOneOf 1 = .ok (.i2l, 1) := by decide +kernel
theorem dX7_isOneOf_2 : decode cX7_isOneOf 2 = .ok (.lconst 0, 1) := by decide +kernel
theorem dX7_isOneOf_3 : decode cX7_isOneOf 3 = .ok (.iload_n 1, 1) := by decide +kernel
theorem dX7_isOneOf_4 : decode cX7_isOneOf 4 = .ok (.i2l, 1) := by decide +kernel
theorem dX7_isOneOf_5 : decode cX7_isOneOf 5 = .ok (.invokestatic 66, 3) := by decide +kernel
theorem dX7_isOneOf_8 : decode cX7_isOneOf 8 = .ok (.ireturn, 1) := by decide +kernel
theorem dX7_chain_0 : decode cX7_chain 0 = .ok (.iload_n 1, 1) := by decide +kernel
theorem dX7_chain_1 : decode cX7_chain 1 = .ok (.invokestatic 231, 3) := by decide +kernel
theorem dX7_chain_4 : decode cX7_chain 4 = .ok (.ifCond .ne 6, 3) := by decide +kernel
theorem dX7_chain_7 : decode cX7_chain 7 = .ok (.bipush (-2), 2) := by decide +kernel
theorem dX7_chain_9 : decode cX7_chain 9 = .ok (.ireturn, 1) := by decide +kernel
theorem dX7_chain_10 : decode cX7_chain 10 = .ok (.aload_n 0, 1) := by decide +kernel
theorem dX7_chain_11 : decode cX7_chain 11 = .ok (.getfield 50, 3) := by decide +kernel
theorem dX7_chain_14 : decode cX7_chain 14 = .ok (.iload_n 1, 1) := by decide +kernel
theorem dX7_chain_15 : decode cX7_chain 15 = .ok (.iconst 0, 1) := by decide +kernel
theorem dX7_chain_16 : decode cX7_chain 16 = .ok (.iastore, 1) := by decide +kernel
theorem dX7_chain_17 : decode cX7_chain 17 = .ok (.iconst 0, 1) := by decide +kernel
theorem dX7_chain_18 : decode cX7_chain 18 = .ok (.ireturn, 1) := by decide +kernel
theorem dX7_add_0 : decode cX7_add 0 = .ok (.iload_n 1, 1) := by decide +kernel
theorem dX7_add_1 : decode cX7_add 1 = .ok (.invokestatic 231, 3) := by decide +kernel
theorem dX7_add_4 : decode cX7_add 4 = .ok (.ifCond .eq 30, 3) := by decide +kernel
theorem dX7_add_7 : decode cX7_add 7 = .ok (.iload_n 2, 1) := by decide +kernel
theorem dX7_add_8 : decode cX7_add 8 = .ok (.iconst 1, 1) := by decide +kernel
theorem dX7_add_9 : decode cX7_add 9 = .ok (.if_icmp .ne 28, 3) := by decide +kernel
theorem dX7_add_12 : decode cX7_add 12 = .ok (.iload 4, 2) := by decide +kernel
theorem dX7_add_14 : decode cX7_add 14 = .ok (.ifCond .lt 20, 3) := by decide +kernel
theorem dX7_add_17 : decode cX7_add 17 = .ok (.aload_n 0, 1) := by decide +kernel
theorem dX7_add_18 : decode cX7_add 18 = .ok (.iload 4, 2) := by decide +kernel
theorem dX7_add_20 : decode cX7_add 20 = .ok (.bipush 10, 2) := by decide +kernel
theorem dX7_add_22 : decode cX7_add 22 = .ok (.idiv, 1) := by decide +kernel
theorem dX7_add_23 : decode cX7_add 23 = .ok (.iload 4, 2) := by decide +kernel
theorem dX7_add_25 : decode cX7_add 25 = .ok (.bipush 10, 2) := by decide +kernel
theorem dX7_add_27 : decode cX7_add 27 = .ok (.irem, 1) := by decide +kernel
theorem dX7_add_28 : decode cX7_add 28 = .ok (.invokevirtual 74, 3) := by decide +kernel
theorem dX7_add_31 : decode cX7_add 31 = .ok (.ifCond .ne 6, 3) := by decide +kernel
theorem dX7_add_34 : decode cX7_add 34 = .ok (.bipush (-2), 2) := by decide +kernel
theorem dX7_add_36 : decode cX7_add 36 = .ok (.ireturn, 1) := by decide +kernel
theorem dX7_add_37 : decode cX7_add 37 = .ok (.iload_n 2, 1) := by decide +kernel
theorem dX7_add_38 : decode cX7_add 38 = .ok (.iconst 1, 1) := by decide +kernel
theorem dX7_add_39 : decode cX7_add 39 = .ok (.invokestatic 234, 3) := by decide +kernel
theorem dX7_add_42 : decode cX7_add 42 = .ok (.ifCond .eq 30, 3) := by decide +kernel
theorem dX7_add_45 : decode cX7_add 45 = .ok (.iload_n 3, 1) := by decide +kernel
theorem dX7_add_46 : decode cX7_add 46 = .ok (.iconst 1, 1) := by decide +kernel
theorem dX7_add_47 : decode cX7_add 47 = .ok (.invokestatic 234, 3) := by decide +kernel
theorem dX7_add_50 : decode cX7_add 50 = .ok (.ifCond .eq 22, 3) := by decide +kernel
theorem dX7_add_53 : decode cX7_add 53 = .ok (.iload_n 2, 1) := by decide +kernel
theorem dX7_add_54 : decode cX7_add 54 = .ok (.ifCond .ne 21, 3) := by decide +kernel
theorem dX7_add_57 : decode cX7_add 57 = .ok (.iload 4, 2) := by decide +kernel
theorem dX7_add_59 : decode cX7_add 59 = .ok (.i2l, 1) := by decide +kernel
theorem dX7_add_60 : decode cX7_add 60 = .ok (.ldc2_w 237, 3) := by decide +kernel
theorem dX7_add_63 : decode cX7_add 63 = .ok (.ldc2_w 239, 3) := by decide +kernel
theorem dX7_add_66 : decode cX7_add 66 = .ok (.invokestatic 66, 3) := by decide +kernel
theorem dX7_add_69 : decode cX7_add 69 = .ok (.ifCond .ne 6, 3) := by decide +kernel
theorem dX7_add_72 : decode cX7_add 72 = .ok (.bipush (-3), 2) := by decide +kernel
theorem dX7_add_74 : decode cX7_add 74 = .ok (.ireturn, 1) := by decide +kernel
theorem dX7_add_75 : decode cX7_add 75 = .ok (.aload_n 0, 1) := by decide +kernel
theorem dX7_add_76 : decode cX7_add 76 = .ok (.getfield 50, 3) := by decide +kernel
theorem dX7_add_79 : decode cX7_add 79 = .ok (.iload_n 1, 1) := by decide +kernel
theorem dX7_add_80 : decode cX7_add 80 = .ok (.iaload, 1) := by decide +kernel
theorem dX7_add_81 : decode cX7_add 81 = .ok (.ifCond .ge 6, 3) := by decide +kernel
theorem dX7_add_84 : decode cX7_add 84 = .ok (.bipush (-11), 2) := by decide +kernel
theorem dX7_add_86 : decode cX7_add 86 = .ok (.ireturn, 1) := by decide +kernel
theorem dX7_add_87 : decode cX7_add 87 = .ok (.aload_n 0, 1) := by decide +kernel
theorem dX7_add_88 : decode cX7_add 88 = .ok (.getfield 50, 3) := by decide +kernel
theorem dX7_add_91 : decode cX7_add 91 = .ok (.iload_n 1, 1) := by decide +kernel
theorem dX7_add_92 : decode cX7_add 92 = .ok (.iaload, 1) := by decide +kernel
theorem dX7_add_93 : decode cX7_add 93 = .ok (.bipush 8, 2) := by decide +kernel
theorem dX7_add_95 : decode cX7_add 95 = .ok (.if_icmp .ne 6, 3) := by decide +kernel
theorem dX7_add_98 : decode cX7_add 98 = .ok (.bipush (-14), 2) := by decide +kernel
theorem dX7_add_100 : decode cX7_add 100 = .ok (.ireturn, 1) := by decide +kernel
theorem dX7_add_101 : decode cX7_add 101 = .ok (.bipush 8, 2) := by decide +kernel
theorem dX7_add_103 : decode cX7_add 103 = .ok (.iload_n 1, 1) := by decide +kernel
theorem dX7_add_104 : decode cX7_add 104 = .ok (.imul, 1) := by decide +kernel
theorem dX7_add_105 : decode cX7_add 105 = .ok (.istore 5, 2) := by decide +kernel
theorem dX7_add_107 : decode cX7_add 107 = .ok (.iload_n 3, 1) := by decide +kernel
theorem dX7_add_108 : decode cX7_add 108 = .ok (.iconst 1, 1) := by decide +kernel
theorem dX7_add_109 : decode cX7_add 109 = .ok (.if_icmp .ne 12, 3) := by decide +kernel
theorem dX7_add_112 : decode cX7_add 112 = .ok (.aload_n 0, 1) := by decide +kernel
theorem dX7_add_113 : decode cX7_add 113 = .ok (.getfield 50, 3) := by decide +kernel
theorem dX7_add_116 : decode cX7_add 116 = .ok (.iload_n 1, 1) := by decide +kernel
theorem dX7_add_117 : decode cX7_add 117 = .ok (.iaload, 1) := by decide +kernel
theorem dX7_add_118 : decode cX7_add 118 = .ok (.goto 4, 3) := by decide +kernel
theorem dX7_add_121 : decode cX7_add 121 = .ok (.iconst 0, 1) := by decide +kernel
theorem dX7_add_122 : decode cX7_add 122 = .ok (.istore 6, 2) := by decide +kernel
theorem dX7_add_124 : decode cX7_add 124 = .ok (.aload_n 0, 1) := by decide +kernel
theorem dX7_add_125 : decode cX7_add 125 = .ok (.getfield 50, 3) := by decide +kernel
theorem dX7_add_128 : decode cX7_add 128 = .ok (.iload_n 1, 1) := by decide +kernel
theorem dX7_add_129 : decode cX7_add 129 = .ok (.iaload, 1) := by decide +kernel
theorem dX7_add_130 : decode cX7_add 130 = .ok (.istore 7, 2) := by decide +kernel
theorem dX7_add_132 : decode cX7_add 132 = .ok (.iload 7, 2) := by decide +kernel
theorem dX7_add_134 : decode cX7_add 134 = .ok (.iload 6, 2) := by decide +kernel
theorem dX7_add_136 : decode cX7_add 136 = .ok (.if_icmp .le 53, 3) := by decide +kernel
theorem dX7_add_139 : decode cX7_add 139 = .ok (.aload_n 0, 1) := by decide +kernel
theorem dX7_add_140 : decode cX7_add 140 = .ok (.getfield 53, 3) := by decide +kernel
theorem dX7_add_143 : decode cX7_add 143 = .ok (.iload 5, 2) := by decide +kernel
theorem dX7_add_145 : decode cX7_add 145 = .ok (.iload 7, 2) := by decide +kernel
theorem dX7_add_147 : decode cX7_add 147 = .ok (.iadd, 1) := by decide +kernel
theorem dX7_add_148 : decode cX7_add 148 = .ok (.aload_n 0, 1) := by decide +kernel
theorem dX7_add_149 : decode cX7_add 149 = .ok (.getfield 53, 3) := by decide +kernel
theorem dX7_add_152 : decode cX7_add 152 = .ok (.iload 5, 2) := by decide +kernel
theorem dX7_add_154 : decode cX7_add 154 = .ok (.iload 7, 2) := by decide +kernel
theorem dX7_add_156 : decode cX7_add 156 = .ok (.iadd, 1) := by decide +kernel
theorem dX7_add_157 : decode cX7_add 157 = .ok (.iconst 1, 1) := by decide +kernel
theorem dX7_add_158 : decode cX7_add 158 = .ok (.isub, 1) := by decide +kernel
theorem dX7_add_159 : decode cX7_add 159 = .ok (.iaload, 1) := by decide +kernel
theorem dX7_add_160 : decode cX7_add 160 = .ok (.iastore, 1) := by decide +kernel
theorem dX7_add_161 : decode cX7_add 161 = .ok (.aload_n 0, 1) := by decide +kernel
theorem dX7_add_162 : decode cX7_add 162 = .ok (.getfield 56, 3) := by decide +kernel
theorem dX7_add_165 : decode cX7_add 165 = .ok (.iload 5, 2) := by decide +kernel
theorem dX7_add_167 : decode cX7_add 167 = .ok (.iload 7, 2) := by decide +kernel
theorem dX7_add_169 : decode cX7_add 169 = .ok (.iadd, 1) := by decide +kernel
theorem dX7_add_170 : decode cX7_add 170 = .ok (.aload_n 0, 1) := by decide +kernel
theorem dX7_add_171 : decode cX7_add 171 = .ok (.getfield 56, 3) := by decide +kernel
theorem dX7_add_174 : decode cX7_add 174 = .ok (.iload 5, 2) := by decide +kernel
theorem dX7_add_176 : decode cX7_add 176 = .ok (.iload 7, 2) := by decide +kernel
theorem dX7_add_178 : decode cX7_add 178 = .ok (.iadd, 1) := by decide +kernel
theorem dX7_add_179 : decode cX7_add 179 = .ok (.iconst 1, 1) := by decide +kernel
theorem dX7_add_180 : decode cX7_add 180 = .ok (.isub, 1) := by decide +kernel
theorem dX7_add_181 : decode cX7_add 181 = .ok (.iaload, 1) := by decide +kernel
theorem dX7_add_182 : decode cX7_add 182 = .ok (.iastore, 1) := by decide +kernel
theorem dX7_add_183 : decode cX7_add 183 = .ok (.iinc 7 (-1), 3) := by decide +kernel
theorem dX7_add_186 : decode cX7_add 186 = .ok (.goto (-54), 3) := by decide +kernel
theorem dX7_add_189 : decode cX7_add 189 = .ok (.aload_n 0, 1) := by decide +kernel
theorem dX7_add_190 : decode cX7_add 190 = .ok (.getfield 53, 3) := by decide +kernel
theorem dX7_add_193 : decode cX7_add 193 = .ok (.iload 5, 2) := by decide +kernel
theorem dX7_add_195 : decode cX7_add 195 = .ok (.iload 6, 2) := by decide +kernel
theorem dX7_add_197 : decode cX7_add 197 = .ok (.iadd, 1) := by decide +kernel
theorem dX7_add_198 : decode cX7_add 198 = .ok (.iload_n 2, 1) := by decide +kernel
theorem dX7_add_199 : decode cX7_add 199 = .ok (.iastore, 1) := by decide +kernel
theorem dX7_add_200 : decode cX7_add 200 = .ok (.aload_n 0, 1) := by decide +kernel
theorem dX7_add_201 : decode cX7_add 201 = .ok (.getfield 56, 3) := by decide +kernel
theorem dX7_add_204 : decode cX7_add 204 = .ok (.iload 5, 2) := by decide +kernel
theorem dX7_add_206 : decode cX7_add 206 = .ok (.iload 6, 2) := by decide +kernel
theorem dX7_add_208 : decode cX7_add 208 = .ok (.iadd, 1) := by decide +kernel
theorem dX7_add_209 : decode cX7_add 209 = .ok (.iload 4, 2) := by decide +kernel
theorem dX7_add_211 : decode cX7_add 211 = .ok (.iastore, 1) := by decide +kernel
theorem dX7_add_212 : decode cX7_add 212 = .ok (.aload_n 0, 1) := by decide +kernel
theorem dX7_add_213 : decode cX7_add 213 = .ok (.getfield 50, 3) := by decide +kernel
theorem dX7_add_216 : decode cX7_add 216 = .ok (.iload_n 1, 1) := by decide +kernel
theorem dX7_add_217 : decode cX7_add 217 = .ok (.dup2, 1) := by decide +kernel
theorem dX7_add_218 : decode cX7_add 218 = .ok (.iaload, 1) := by decide +kernel
theorem dX7_add_219 : decode cX7_add 219 = .ok (.iconst 1, 1) := by decide +kernel
theorem dX7_add_220 : decode cX7_add 220 = .ok (.iadd, 1) := by decide +kernel
theorem dX7_add_221 : decode cX7_add 221 = .ok (.iastore, 1) := by decide +kernel
theorem dX7_add_222 : decode cX7_add 222 = .ok (.aload_n 0, 1) := by decide +kernel
theorem dX7_add_223 : decode cX7_add 223 = .ok (.getfield 50, 3) := by decide +kernel
theorem dX7_add_226 : decode cX7_add 226 = .ok (.iload_n 1, 1) := by decide +kernel
theorem dX7_add_227 : decode cX7_add 227 = .ok (.iaload, 1) := by decide +kernel
theorem dX7_add_228 : decode cX7_add 228 = .ok (.ireturn, 1) := by decide +kernel
theorem dX7_last_0 : decode cX7_last 0 = .ok (.iload_n 1, 1) := by decide +kernel
theorem dX7_last_1 : decode cX7_last 1 = .ok (.invokestatic 231, 3) := by decide +kernel
theorem dX7_last_4 : decode cX7_last 4 = .ok (.ifCond .ne 6, 3) := by decide +kernel
theorem dX7_last_7 : decode cX7_last 7 = .ok (.bipush (-2), 2) := by decide +kernel
theorem dX7_last_9 : decode cX7_last 9 = .ok (.ireturn, 1) := by decide +kernel
theorem dX7_last_10 : decode cX7_last 10 = .ok (.iload_n 2, 1) := by decide +kernel
theorem dX7_last_11 : decode cX7_last 11 = .ok (.iconst 1, 1) := by decide +kernel
theorem dX7_last_12 : decode cX7_last 12 = .ok (.invokestatic 234, 3) := by decide +kernel
theorem dX7_last_15 : decode cX7_last 15 = .ok (.ifCond .ne 6, 3) := by decide +kernel
theorem dX7_last_18 : decode cX7_last 18 = .ok (.bipush (-3), 2) := by decide +kernel
theorem dX7_last_20 : decode cX7_last 20 = .ok (.ireturn, 1) := by decide +kernel
theorem dX7_last_21 : decode cX7_last 21 = .ok (.aload_n 0, 1) := by decide +kernel
theorem dX7_last_22 : decode cX7_last 22 = .ok (.getfield 50, 3) := by decide +kernel
theorem dX7_last_25 : decode cX7_last 25 = .ok (.iload_n 1, 1) := by decide +kernel
theorem dX7_last_26 : decode cX7_last 26 = .ok (.iaload, 1) := by decide +kernel
theorem dX7_last_27 : decode cX7_last 27 = .ok (.ifCond .gt 20, 3) := by decide +kernel
theorem dX7_last_30 : decode cX7_last 30 = .ok (.aload_n 0, 1) := by decide +kernel
theorem dX7_last_31 : decode cX7_last 31 = .ok (.getfield 50, 3) := by decide +kernel
theorem dX7_last_34 : decode cX7_last 34 = .ok (.iload_n 1, 1) := by decide +kernel
theorem dX7_last_35 : decode cX7_last 35 = .ok (.iaload, 1) := by decide +kernel
theorem dX7_last_36 : decode cX7_last 36 = .ok (.ifCond .ge 8, 3) := by decide +kernel
theorem dX7_last_39 : decode cX7_last 39 = .ok (.bipush (-11), 2) := by decide +kernel
theorem dX7_last_41 : decode cX7_last 41 = .ok (.goto 5, 3) := by decide +kernel
theorem dX7_last_44 : decode cX7_last 44 = .ok (.bipush (-12), 2) := by decide +kernel
theorem dX7_last_46 : decode cX7_last 46 = .ok (.ireturn, 1) := by decide +kernel
theorem dX7_last_47 : decode cX7_last 47 = .ok (.bipush 8, 2) := by decide +kernel
theorem dX7_last_49 : decode cX7_last 49 = .ok (.iload_n 1, 1) := by decide +kernel
theorem dX7_last_50 : decode cX7_last 50 = .ok (.imul, 1) := by decide +kernel
theorem dX7_last_51 : decode cX7_last 51 = .ok (.aload_n 0, 1) := by decide +kernel
theorem dX7_last_52 : decode cX7_last 52 = .ok (.getfield 50, 3) := by decide +kernel
theorem dX7_last_55 : decode cX7_last 55 = .ok (.iload_n 1, 1) := by decide +kernel
theorem dX7_last_56 : decode cX7_last 56 = .ok (.iaload, 1) := by decide +kernel
theorem dX7_last_57 : decode cX7_last 57 = .ok (.iadd, 1) := by decide +kernel
theorem dX7_last_58 : decode cX7_last 58 = .ok (.iconst 1, 1) := by decide +kernel
theorem dX7_last_59 : decode cX7_last 59 = .ok (.isub, 1) := by decide +kernel
theorem dX7_last_60 : decode cX7_last 60 = .ok (.istore_n 3, 1) := by decide +kernel
theorem dX7_last_61 : decode cX7_last 61 = .ok (.aload_n 0, 1) := by decide +kernel
theorem dX7_last_62 : decode cX7_last 62 = .ok (.getfield 53, 3) := by decide +kernel
theorem dX7_last_65 : decode cX7_last 65 = .ok (.iload_n 3, 1) := by decide +kernel
theorem dX7_last_66 : decode cX7_last 66 = .ok (.iaload, 1) := by decide +kernel
theorem dX7_last_67 : decode cX7_last 67 = .ok (.iload_n 2, 1) := by decide +kernel
theorem dX7_last_68 : decode cX7_last 68 = .ok (.if_icmp .eq 6, 3) := by decide +kernel
theorem dX7_last_71 : decode cX7_last 71 = .ok (.bipush (-13), 2) := by decide +kernel
theorem dX7_last_73 : decode cX7_last 73 = .ok (.ireturn, 1) := by decide +kernel
theorem dX7_last_74 : decode cX7_last 74 = .ok (.aload_n 0, 1) := by decide +kernel
theorem dX7_last_75 : decode cX7_last 75 = .ok (.getfield 50, 3) := by decide +kernel
theorem dX7_last_78 : decode cX7_last 78 = .ok (.iload_n 1, 1) := by decide +kernel
theorem dX7_last_79 : decode cX7_last 79 = .ok (.dup2, 1) := by decide +kernel
theorem dX7_last_80 : decode cX7_last 80 = .ok (.iaload, 1) := by decide +kernel
theorem dX7_last_81 : decode cX7_last 81 = .ok (.iconst 1, 1) := by decide +kernel
theorem dX7_last_82 : decode cX7_last 82 = .ok (.isub, 1) := by decide +kernel
theorem dX7_last_83 : decode cX7_last 83 = .ok (.iastore, 1) := by decide +kernel
theorem dX7_last_84 : decode cX7_last 84 = .ok (.iload_n 2, 1) := by decide +kernel
theorem dX7_last_85 : decode cX7_last 85 = .ok (.ifCond .ne 15, 3) := by decide +kernel
theorem dX7_last_88 : decode cX7_last 88 = .ok (.aload_n 0, 1) := by decide +kernel
theorem dX7_last_89 : decode cX7_last 89 = .ok (.getfield 56, 3) := by decide +kernel
theorem dX7_last_92 : decode cX7_last 92 = .ok (.iload_n 3, 1) := by decide +kernel
theorem dX7_last_93 : decode cX7_last 93 = .ok (.iaload, 1) := by decide +kernel
theorem dX7_last_94 : decode cX7_last 94 = .ok (.ldc 241, 2) := by decide +kernel
theorem dX7_last_96 : decode cX7_last 96 = .ok (.iadd, 1) := by decide +kernel
theorem dX7_last_97 : decode cX7_last 97 = .ok (.goto 9, 3) := by decide +kernel
theorem dX7_last_100 : decode cX7_last 100 = .ok (.aload_n 0, 1) := by decide +kernel
theorem dX7_last_101 : decode cX7_last 101 = .ok (.getfield 56, 3) := by decide +kernel
theorem dX7_last_104 : decode cX7_last 104 = .ok (.iload_n 3, 1) := by decide +kernel
theorem dX7_last_105 : decode cX7_last 105 = .ok (.iaload, 1) := by decide +kernel
theorem dX7_last_106 : decode cX7_last 106 = .ok (.ireturn, 1) := by decide +kernel
theorem dX7_sum_0 : decode cX7_sum 0 = .ok (.iload_n 1, 1) := by decide +kernel
theorem dX7_sum_1 : decode cX7_sum 1 = .ok (.invokestatic 231, 3) := by decide +kernel
theorem dX7_sum_4 : decode cX7_sum 4 = .ok (.ifCond .ne 6, 3) := by decide +kernel
theorem dX7_sum_7 : decode cX7_sum 7 = .ok (.bipush (-2), 2) := by decide +kernel
theorem dX7_sum_9 : decode cX7_sum 9 = .ok (.ireturn, 1) := by decide +kernel
theorem dX7_sum_10 : decode cX7_sum 10 = .ok (.iload_n 2, 1) := by decide +kernel
theorem dX7_sum_11 : decode cX7_sum 11 = .ok (.iconst 2, 1) := by decide +kernel
theorem dX7_sum_12 : decode cX7_sum 12 = .ok (.invokestatic 234, 3) := by decide +kernel
theorem dX7_sum_15 : decode cX7_sum 15 = .ok (.ifCond .ne 6, 3) := by decide +kernel
theorem dX7_sum_18 : decode cX7_sum 18 = .ok (.bipush (-3), 2) := by decide +kernel
theorem dX7_sum_20 : decode cX7_sum 20 = .ok (.ireturn, 1) := by decide +kernel
theorem dX7_sum_21 : decode cX7_sum 21 = .ok (.aload_n 0, 1) := by decide +kernel
theorem dX7_sum_22 : decode cX7_sum 22 = .ok (.getfield 50, 3) := by decide +kernel
theorem dX7_sum_25 : decode cX7_sum 25 = .ok (.iload_n 1, 1) := by decide +kernel
theorem dX7_sum_26 : decode cX7_sum 26 = .ok (.iaload, 1) := by decide +kernel
theorem dX7_sum_27 : decode cX7_sum 27 = .ok (.ifCond .ge 6, 3) := by decide +kernel
theorem dX7_sum_30 : decode cX7_sum 30 = .ok (.bipush (-11), 2) := by decide +kernel
theorem dX7_sum_32 : decode cX7_sum 32 = .ok (.ireturn, 1) := by decide +kernel
theorem dX7_sum_33 : decode cX7_sum 33 = .ok (.ldc 242, 2) := by decide +kernel
theorem dX7_sum_35 : decode cX7_sum 35 = .ok (.istore_n 3, 1) := by decide +kernel
theorem dX7_sum_36 : decode cX7_sum 36 = .ok (.iconst 0, 1) := by decide +kernel
theorem dX7_sum_37 : decode cX7_sum 37 = .ok (.istore 4, 2) := by decide +kernel
theorem dX7_sum_39 : decode cX7_sum 39 = .ok (.iload 4, 2) := by decide +kernel
theorem dX7_sum_41 : decode cX7_sum 41 = .ok (.aload_n 0, 1) := by decide +kernel
theorem dX7_sum_42 : decode cX7_sum 42 = .ok (.getfield 50, 3) := by decide +kernel
theorem dX7_sum_45 : decode cX7_sum 45 = .ok (.iload_n 1, 1) := by decide +kernel
theorem dX7_sum_46 : decode cX7_sum 46 = .ok (.iaload, 1) := by decide +kernel
theorem dX7_sum_47 : decode cX7_sum 47 = .ok (.if_icmp .ge 48, 3) := by decide +kernel
theorem dX7_sum_50 : decode cX7_sum 50 = .ok (.bipush 8, 2) := by decide +kernel
theorem dX7_sum_52 : decode cX7_sum 52 = .ok (.iload_n 1, 1) := by decide +kernel
theorem dX7_sum_53 : decode cX7_sum 53 = .ok (.imul, 1) := by decide +kernel
theorem dX7_sum_54 : decode cX7_sum 54 = .ok (.iload 4, 2) := by decide +kernel
theorem dX7_sum_56 : decode cX7_sum 56 = .ok (.iadd, 1) := by decide +kernel
theorem dX7_sum_57 : decode cX7_sum 57 = .ok (.istore 5, 2) := by decide +kernel
theorem dX7_sum_59 : decode cX7_sum 59 = .ok (.iload_n 3, 1) := by decide +kernel
theorem dX7_sum_60 : decode cX7_sum 60 = .ok (.iload_n 2, 1) := by decide +kernel
theorem dX7_sum_61 : decode cX7_sum 61 = .ok (.iconst 2, 1) := by decide +kernel
theorem dX7_sum_62 : decode cX7_sum 62 = .ok (.if_icmp .eq 14, 3) := by decide +kernel
theorem dX7_sum_65 : decode cX7_sum 65 = .ok (.aload_n 0, 1) := by decide +kernel
theorem dX7_sum_66 : decode cX7_sum 66 = .ok (.getfield 53, 3) := by decide +kernel
theorem dX7_sum_69 : decode cX7_sum 69 = .ok (.iload 5, 2) := by decide +kernel
theorem dX7_sum_71 : decode cX7_sum 71 = .ok (.iaload, 1) := by decide +kernel
theorem dX7_sum_72 : decode cX7_sum 72 = .ok (.iload_n 2, 1) := by decide +kernel
theorem dX7_sum_73 : decode cX7_sum 73 = .ok (.if_icmp .ne 13, 3) := by decide +kernel
theorem dX7_sum_76 : decode cX7_sum 76 = .ok (.aload_n 0, 1) := by decide +kernel
theorem dX7_sum_77 : decode cX7_sum 77 = .ok (.getfield 56, 3) := by decide +kernel
theorem dX7_sum_80 : decode cX7_sum 80 = .ok (.iload 5, 2) := by decide +kernel
theorem dX7_sum_82 : decode cX7_sum 82 = .ok (.iaload, 1) := by decide +kernel
theorem dX7_sum_83 : decode cX7_sum 83 = .ok (.goto 4, 3) := by decide +kernel
theorem dX7_sum_86 : decode cX7_sum 86 = .ok (.iconst 0, 1) := by decide +kernel
theorem dX7_sum_87 : decode cX7_sum 87 = .ok (.iadd, 1) := by decide +kernel
theorem dX7_sum_88 : decode cX7_sum 88 = .ok (.istore_n 3, 1) := by decide +kernel
theorem dX7_sum_89 : decode cX7_sum 89 = .ok (.iinc 4 1, 3) := by decide +kernel
theorem dX7_sum_92 : decode cX7_sum 92 = .ok (.goto (-53), 3) := by decide +kernel
theorem dX7_sum_95 : decode cX7_sum 95 = .ok (.iload_n 3, 1) := by decide +kernel
theorem dX7_sum_96 : decode cX7_sum 96 = .ok (.ireturn, 1) := by decide +kernel
theorem dX7_strike_0 : decode cX7_strike 0 = .ok (.iload_n 1, 1) := by decide +kernel
theorem dX7_strike_1 : decode cX7_strike 1 = .ok (.invokestatic 231, 3) := by decide +kernel
theorem dX7_strike_4 : decode cX7_strike 4 = .ok (.ifCond .ne 6, 3) := by decide +kernel
theorem dX7_strike_7 : decode cX7_strike 7 = .ok (.bipush (-2), 2) := by decide +kernel
theorem dX7_strike_9 : decode cX7_strike 9 = .ok (.ireturn, 1) := by decide +kernel
theorem dX7_strike_10 : decode cX7_strike 10 = .ok (.iload_n 2, 1) := by decide +kernel
theorem dX7_strike_11 : decode cX7_strike 11 = .ok (.iconst 1, 1) := by decide +kernel
theorem dX7_strike_12 : decode cX7_strike 12 = .ok (.invokestatic 234, 3) := by decide +kernel
theorem dX7_strike_15 : decode cX7_strike 15 = .ok (.ifCond .ne 6, 3) := by decide +kernel
theorem dX7_strike_18 : decode cX7_strike 18 = .ok (.bipush (-3), 2) := by decide +kernel
theorem dX7_strike_20 : decode cX7_strike 20 = .ok (.ireturn, 1) := by decide +kernel
theorem dX7_strike_21 : decode cX7_strike 21 = .ok (.aload_n 0, 1) := by decide +kernel
theorem dX7_strike_22 : decode cX7_strike 22 = .ok (.getfield 50, 3) := by decide +kernel
theorem dX7_strike_25 : decode cX7_strike 25 = .ok (.iload_n 1, 1) := by decide +kernel
theorem dX7_strike_26 : decode cX7_strike 26 = .ok (.iaload, 1) := by decide +kernel
theorem dX7_strike_27 : decode cX7_strike 27 = .ok (.ifCond .ge 6, 3) := by decide +kernel
theorem dX7_strike_30 : decode cX7_strike 30 = .ok (.bipush (-11), 2) := by decide +kernel
theorem dX7_strike_32 : decode cX7_strike 32 = .ok (.ireturn, 1) := by decide +kernel
theorem dX7_strike_33 : decode cX7_strike 33 = .ok (.iconst 0, 1) := by decide +kernel
theorem dX7_strike_34 : decode cX7_strike 34 = .ok (.istore_n 3, 1) := by decide +kernel
theorem dX7_strike_35 : decode cX7_strike 35 = .ok (.aload_n 0, 1) := by decide +kernel
theorem dX7_strike_36 : decode cX7_strike 36 = .ok (.getfield 50, 3) := by decide +kernel
theorem dX7_strike_39 : decode cX7_strike 39 = .ok (.iload_n 1, 1) := by decide +kernel
theorem dX7_strike_40 : decode cX7_strike 40 = .ok (.iaload, 1) := by decide +kernel
theorem dX7_strike_41 : decode cX7_strike 41 = .ok (.istore 4, 2) := by decide +kernel
theorem dX7_strike_43 : decode cX7_strike 43 = .ok (.iconst 0, 1) := by decide +kernel
theorem dX7_strike_44 : decode cX7_strike 44 = .ok (.istore 5, 2) := by decide +kernel
theorem dX7_strike_46 : decode cX7_strike 46 = .ok (.iload 5, 2) := by decide +kernel
theorem dX7_strike_48 : decode cX7_strike 48 = .ok (.iload 4, 2) := by decide +kernel
theorem dX7_strike_50 : decode cX7_strike 50 = .ok (.if_icmp .ge 117, 3) := by decide +kernel
theorem dX7_strike_53 : decode cX7_strike 53 = .ok (.bipush 8, 2) := by decide +kernel
theorem dX7_strike_55 : decode cX7_strike 55 = .ok (.iload_n 1, 1) := by decide +kernel
theorem dX7_strike_56 : decode cX7_strike 56 = .ok (.imul, 1) := by decide +kernel
theorem dX7_strike_57 : decode cX7_strike 57 = .ok (.iload 5, 2) := by decide +kernel
theorem dX7_strike_59 : decode cX7_strike 59 = .ok (.iadd, 1) := by decide +kernel
theorem dX7_strike_60 : decode cX7_strike 60 = .ok (.istore 6, 2) := by decide +kernel
theorem dX7_strike_62 : decode cX7_strike 62 = .ok (.aload_n 0, 1) := by decide +kernel
theorem dX7_strike_63 : decode cX7_strike 63 = .ok (.getfield 53, 3) := by decide +kernel
theorem dX7_strike_66 : decode cX7_strike 66 = .ok (.iload 6, 2) := by decide +kernel
theorem dX7_strike_68 : decode cX7_strike 68 = .ok (.iaload, 1) := by decide +kernel
theorem dX7_strike_69 : decode cX7_strike 69 = .ok (.iconst 1, 1) := by decide +kernel
theorem dX7_strike_70 : decode cX7_strike 70 = .ok (.if_icmp .ne 44, 3) := by decide +kernel
theorem dX7_strike_73 : decode cX7_strike 73 = .ok (.aload_n 0, 1) := by decide +kernel
theorem dX7_strike_74 : decode cX7_strike 74 = .ok (.aload_n 0, 1) := by decide +kernel
theorem dX7_strike_75 : decode cX7_strike 75 = .ok (.getfield 56, 3) := by decide +kernel
theorem dX7_strike_78 : decode cX7_strike 78 = .ok (.iload 6, 2) := by decide +kernel
theorem dX7_strike_80 : decode cX7_strike 80 = .ok (.iaload, 1) := by decide +kernel
theorem dX7_strike_81 : decode cX7_strike 81 = .ok (.bipush 10, 2) := by decide +kernel
theorem dX7_strike_83 : decode cX7_strike 83 = .ok (.idiv, 1) := by decide +kernel
theorem dX7_strike_84 : decode cX7_strike 84 = .ok (.aload_n 0, 1) := by decide +kernel
theorem dX7_strike_85 : decode cX7_strike 85 = .ok (.getfield 56, 3) := by decide +kernel
theorem dX7_strike_88 : decode cX7_strike 88 = .ok (.iload 6, 2) := by decide +kernel
theorem dX7_strike_90 : decode cX7_strike 90 = .ok (.iaload, 1) := by decide +kernel
theorem dX7_strike_91 : decode cX7_strike 91 = .ok (.bipush 10, 2) := by decide +kernel
theorem dX7_strike_93 : decode cX7_strike 93 = .ok (.irem, 1) := by decide +kernel
theorem dX7_strike_94 : decode cX7_strike 94 = .ok (.invokevirtual 171, 3) := by decide +kernel
theorem dX7_strike_97 : decode cX7_strike 97 = .ok (.iload_n 2, 1) := by decide +kernel
theorem dX7_strike_98 : decode cX7_strike 98 = .ok (.iconst 1, 1) := by decide +kernel
theorem dX7_strike_99 : decode cX7_strike 99 = .ok (.if_icmp .ne 7, 3) := by decide +kernel
theorem dX7_strike_102 : decode cX7_strike 102 = .ok (.iconst 1, 1) := by decide +kernel
theorem dX7_strike_103 : decode cX7_strike 103 = .ok (.goto 4, 3) := by decide +kernel
theorem dX7_strike_106 : decode cX7_strike 106 = .ok (.iconst 0, 1) := by decide +kernel
theorem dX7_strike_107 : decode cX7_strike 107 = .ok (.if_icmp .ne 7, 3) := by decide +kernel
theorem dX7_strike_110 : decode cX7_strike 110 = .ok (.iconst 1, 1) := by decide +kernel
theorem dX7_strike_111 : decode cX7_strike 111 = .ok (.goto 4, 3) := by decide +kernel
theorem dX7_strike_114 : decode cX7_strike 114 = .ok (.iconst 0, 1) := by decide +kernel
theorem dX7_strike_115 : decode cX7_strike 115 = .ok (.istore 7, 2) := by decide +kernel
theorem dX7_strike_117 : decode cX7_strike 117 = .ok (.iload 7, 2) := by decide +kernel
theorem dX7_strike_119 : decode cX7_strike 119 = .ok (.ifCond .ne 42, 3) := by decide +kernel
theorem dX7_strike_122 : decode cX7_strike 122 = .ok (.aload_n 0, 1) := by decide +kernel
theorem dX7_strike_123 : decode cX7_strike 123 = .ok (.getfield 53, 3) := by decide +kernel
theorem dX7_strike_126 : decode cX7_strike 126 = .ok (.bipush 8, 2) := by decide +kernel
theorem dX7_strike_128 : decode cX7_strike 128 = .ok (.iload_n 1, 1) := by decide +kernel
theorem dX7_strike_129 : decode cX7_strike 129 = .ok (.imul, 1) := by decide +kernel
theorem dX7_strike_130 : decode cX7_strike 130 = .ok (.iload_n 3, 1) := by decide +kernel
theorem dX7_strike_131 : decode cX7_strike 131 = .ok (.iadd, 1) := by decide +kernel
theorem dX7_strike_132 : decode cX7_strike 132 = .ok (.aload_n 0, 1) := by decide +kernel
theorem dX7_strike_133 : decode cX7_strike 133 = .ok (.getfield 53, 3) := by decide +kernel
theorem dX7_strike_136 : decode cX7_strike 136 = .ok (.iload 6, 2) := by decide +kernel
theorem dX7_strike_138 : decode cX7_strike 138 = .ok (.iaload, 1) := by decide +kernel
theorem dX7_strike_139 : decode cX7_strike 139 = .ok (.iastore, 1) := by decide +kernel
theorem dX7_strike_140 : decode cX7_strike 140 = .ok (.aload_n 0, 1) := by decide +kernel
theorem dX7_strike_141 : decode cX7_strike 141 = .ok (.getfield 56, 3) := by decide +kernel
theorem dX7_strike_144 : decode cX7_strike 144 = .ok (.bipush 8, 2) := by decide +kernel
theorem dX7_strike_146 : decode cX7_strike 146 = .ok (.iload_n 1, 1) := by decide +kernel
theorem dX7_strike_147 : decode cX7_strike 147 = .ok (.imul, 1) := by decide +kernel
theorem dX7_strike_148 : decode cX7_strike 148 = .ok (.iload_n 3, 1) := by decide +kernel
theorem dX7_strike_149 : decode cX7_strike 149 = .ok (.iadd, 1) := by decide +kernel
theorem dX7_strike_150 : decode cX7_strike 150 = .ok (.aload_n 0, 1) := by decide +kernel
theorem dX7_strike_151 : decode cX7_strike 151 = .ok (.getfield 56, 3) := by decide +kernel
theorem dX7_strike_154 : decode cX7_strike 154 = .ok (.iload 6, 2) := by decide +kernel
theorem dX7_strike_156 : decode cX7_strike 156 = .ok (.iaload, 1) := by decide +kernel
theorem dX7_strike_157 : decode cX7_strike 157 = .ok (.iastore, 1) := by decide +kernel
theorem dX7_strike_158 : decode cX7_strike 158 = .ok (.iinc 3 1, 3) := by decide +kernel
theorem dX7_strike_161 : decode cX7_strike 161 = .ok (.iinc 5 1, 3) := by decide +kernel
theorem dX7_strike_164 : decode cX7_strike 164 = .ok (.goto (-118), 3) := by decide +kernel
theorem dX7_strike_167 : decode cX7_strike 167 = .ok (.aload_n 0, 1) := by decide +kernel
theorem dX7_strike_168 : decode cX7_strike 168 = .ok (.getfield 50, 3) := by decide +kernel
theorem dX7_strike_171 : decode cX7_strike 171 = .ok (.iload_n 1, 1) := by decide +kernel
theorem dX7_strike_172 : decode cX7_strike 172 = .ok (.iload_n 3, 1) := by decide +kernel
theorem dX7_strike_173 : decode cX7_strike 173 = .ok (.iastore, 1) := by decide +kernel
theorem dX7_strike_174 : decode cX7_strike 174 = .ok (.iload 4, 2) := by decide +kernel
theorem dX7_strike_176 : decode cX7_strike 176 = .ok (.iload_n 3, 1) := by decide +kernel
theorem dX7_strike_177 : decode cX7_strike 177 = .ok (.isub, 1) := by decide +kernel
theorem dX7_strike_178 : decode cX7_strike 178 = .ok (.ireturn, 1) := by decide +kernel
theorem dX7_append_0 : decode cX7_append 0 = .ok (.iload_n 1, 1) := by decide +kernel
theorem dX7_append_1 : decode cX7_append 1 = .ok (.invokestatic 231, 3) := by decide +kernel
theorem dX7_append_4 : decode cX7_append 4 = .ok (.ifCond .eq 10, 3) := by decide +kernel
theorem dX7_append_7 : decode cX7_append 7 = .ok (.iload_n 2, 1) := by decide +kernel
theorem dX7_append_8 : decode cX7_append 8 = .ok (.invokestatic 231, 3) := by decide +kernel
theorem dX7_append_11 : decode cX7_append 11 = .ok (.ifCond .ne 6, 3) := by decide +kernel
theorem dX7_append_14 : decode cX7_append 14 = .ok (.bipush (-2), 2) := by decide +kernel
theorem dX7_append_16 : decode cX7_append 16 = .ok (.ireturn, 1) := by decide +kernel
theorem dX7_append_17 : decode cX7_append 17 = .ok (.aload_n 0, 1) := by decide +kernel
theorem dX7_append_18 : decode cX7_append 18 = .ok (.getfield 50, 3) := by decide +kernel
theorem dX7_append_21 : decode cX7_append 21 = .ok (.iload_n 1, 1) := by decide +kernel
theorem dX7_append_22 : decode cX7_append 22 = .ok (.iaload, 1) := by decide +kernel
theorem dX7_append_23 : decode cX7_append 23 = .ok (.ifCond .lt 12, 3) := by decide +kernel
theorem dX7_append_26 : decode cX7_append 26 = .ok (.aload_n 0, 1) := by decide +kernel
theorem dX7_append_27 : decode cX7_append 27 = .ok (.getfield 50, 3) := by decide +kernel
theorem dX7_append_30 : decode cX7_append 30 = .ok (.iload_n 2, 1) := by decide +kernel
theorem dX7_append_31 : decode cX7_append 31 = .ok (.iaload, 1) := by decide +kernel
theorem dX7_append_32 : decode cX7_append 32 = .ok (.ifCond .ge 6, 3) := by decide +kernel
theorem dX7_append_35 : decode cX7_append 35 = .ok (.bipush (-11), 2) := by decide +kernel
theorem dX7_append_37 : decode cX7_append 37 = .ok (.ireturn, 1) := by decide +kernel
theorem dX7_append_38 : decode cX7_append 38 = .ok (.aload_n 0, 1) := by decide +kernel
theorem dX7_append_39 : decode cX7_append 39 = .ok (.getfield 50, 3) := by decide +kernel
theorem dX7_append_42 : decode cX7_append 42 = .ok (.iload_n 1, 1) := by decide +kernel
theorem dX7_append_43 : decode cX7_append 43 = .ok (.iaload, 1) := by decide +kernel
theorem dX7_append_44 : decode cX7_append 44 = .ok (.istore_n 3, 1) := by decide +kernel
theorem dX7_append_45 : decode cX7_append 45 = .ok (.iload_n 3, 1) := by decide +kernel
theorem dX7_append_46 : decode cX7_append 46 = .ok (.aload_n 0, 1) := by decide +kernel
theorem dX7_append_47 : decode cX7_append 47 = .ok (.getfield 50, 3) := by decide +kernel
theorem dX7_append_50 : decode cX7_append 50 = .ok (.iload_n 2, 1) := by decide +kernel
theorem dX7_append_51 : decode cX7_append 51 = .ok (.iaload, 1) := by decide +kernel
theorem dX7_append_52 : decode cX7_append 52 = .ok (.iadd, 1) := by decide +kernel
theorem dX7_append_53 : decode cX7_append 53 = .ok (.bipush 8, 2) := by decide +kernel
theorem dX7_append_55 : decode cX7_append 55 = .ok (.if_icmp .le 6, 3) := by decide +kernel
theorem dX7_append_58 : decode cX7_append 58 = .ok (.bipush (-14), 2) := by decide +kernel
theorem dX7_append_60 : decode cX7_append 60 = .ok (.ireturn, 1) := by decide +kernel
theorem dX7_append_61 : decode cX7_append 61 = .ok (.iconst 0, 1) := by decide +kernel
theorem dX7_append_62 : decode cX7_append 62 = .ok (.istore 4, 2) := by decide +kernel
theorem dX7_append_64 : decode cX7_append 64 = .ok (.iload 4, 2) := by decide +kernel
theorem dX7_append_66 : decode cX7_append 66 = .ok (.iload_n 3, 1) := by decide +kernel
theorem dX7_append_67 : decode cX7_append 67 = .ok (.if_icmp .ge 75, 3) := by decide +kernel
theorem dX7_append_70 : decode cX7_append 70 = .ok (.aload_n 0, 1) := by decide +kernel
theorem dX7_append_71 : decode cX7_append 71 = .ok (.getfield 53, 3) := by decide +kernel
theorem dX7_append_74 : decode cX7_append 74 = .ok (.bipush 8, 2) := by decide +kernel
theorem dX7_append_76 : decode cX7_append 76 = .ok (.iload_n 2, 1) := by decide +kernel
theorem dX7_append_77 : decode cX7_append 77 = .ok (.imul, 1) := by decide +kernel
theorem dX7_append_78 : decode cX7_append 78 = .ok (.aload_n 0, 1) := by decide +kernel
theorem dX7_append_79 : decode cX7_append 79 = .ok (.getfield 50, 3) := by decide +kernel
theorem dX7_append_82 : decode cX7_append 82 = .ok (.iload_n 2, 1) := by decide +kernel
theorem dX7_append_83 : decode cX7_append 83 = .ok (.iaload, 1) := by decide +kernel
theorem dX7_append_84 : decode cX7_append 84 = .ok (.iadd, 1) := by decide +kernel
theorem dX7_append_85 : decode cX7_append 85 = .ok (.aload_n 0, 1) := by decide +kernel
theorem dX7_append_86 : decode cX7_append 86 = .ok (.getfield 53, 3) := by decide +kernel
theorem dX7_append_89 : decode cX7_append 89 = .ok (.bipush 8, 2) := by decide +kernel
theorem dX7_append_91 : decode cX7_append 91 = .ok (.iload_n 1, 1) := by decide +kernel
theorem dX7_append_92 : decode cX7_append 92 = .ok (.imul, 1) := by decide +kernel
theorem dX7_append_93 : decode cX7_append 93 = .ok (.iload 4, 2) := by decide +kernel
theorem dX7_append_95 : decode cX7_append 95 = .ok (.iadd, 1) := by decide +kernel
theorem dX7_append_96 : decode cX7_append 96 = .ok (.iaload, 1) := by decide +kernel
theorem dX7_append_97 : decode cX7_append 97 = .ok (.iastore, 1) := by decide +kernel
theorem dX7_append_98 : decode cX7_append 98 = .ok (.aload_n 0, 1) := by decide +kernel
theorem dX7_append_99 : decode cX7_append 99 = .ok (.getfield 56, 3) := by decide +kernel
theorem dX7_append_102 : decode cX7_append 102 = .ok (.bipush 8, 2) := by decide +kernel
theorem dX7_append_104 : decode cX7_append 104 = .ok (.iload_n 2, 1) := by decide +kernel
theorem dX7_append_105 : decode cX7_append 105 = .ok (.imul, 1) := by decide +kernel
theorem dX7_append_106 : decode cX7_append 106 = .ok (.aload_n 0, 1) := by decide +kernel
theorem dX7_append_107 : decode cX7_append 107 = .ok (.getfield 50, 3) := by decide +kernel
theorem dX7_append_110 : decode cX7_append 110 = .ok (.iload_n 2, 1) := by decide +kernel
theorem dX7_append_111 : decode cX7_append 111 = .ok (.iaload, 1) := by decide +kernel
theorem dX7_append_112 : decode cX7_append 112 = .ok (.iadd, 1) := by decide +kernel
theorem dX7_append_113 : decode cX7_append 113 = .ok (.aload_n 0, 1) := by decide +kernel
theorem dX7_append_114 : decode cX7_append 114 = .ok (.getfield 56, 3) := by decide +kernel
theorem dX7_append_117 : decode cX7_append 117 = .ok (.bipush 8, 2) := by decide +kernel
theorem dX7_append_119 : decode cX7_append 119 = .ok (.iload_n 1, 1) := by decide +kernel
theorem dX7_append_120 : decode cX7_append 120 = .ok (.imul, 1) := by decide +kernel
theorem dX7_append_121 : decode cX7_append 121 = .ok (.iload 4, 2) := by decide +kernel
theorem dX7_append_123 : decode cX7_append 123 = .ok (.iadd, 1) := by decide +kernel
theorem dX7_append_124 : decode cX7_append 124 = .ok (.iaload, 1) := by decide +kernel
theorem dX7_append_125 : decode cX7_append 125 = .ok (.iastore, 1) := by decide +kernel
theorem dX7_append_126 : decode cX7_append 126 = .ok (.aload_n 0, 1) := by decide +kernel
theorem dX7_append_127 : decode cX7_append 127 = .ok (.getfield 50, 3) := by decide +kernel
theorem dX7_append_130 : decode cX7_append 130 = .ok (.iload_n 2, 1) := by decide +kernel
theorem dX7_append_131 : decode cX7_append 131 = .ok (.dup2, 1) := by decide +kernel
theorem dX7_append_132 : decode cX7_append 132 = .ok (.iaload, 1) := by decide +kernel
theorem dX7_append_133 : decode cX7_append 133 = .ok (.iconst 1, 1) := by decide +kernel
theorem dX7_append_134 : decode cX7_append 134 = .ok (.iadd, 1) := by decide +kernel
theorem dX7_append_135 : decode cX7_append 135 = .ok (.iastore, 1) := by decide +kernel
theorem dX7_append_136 : decode cX7_append 136 = .ok (.iinc 4 1, 3) := by decide +kernel
theorem dX7_append_139 : decode cX7_append 139 = .ok (.goto (-75), 3) := by decide +kernel
theorem dX7_append_142 : decode cX7_append 142 = .ok (.aload_n 0, 1) := by decide +kernel
theorem dX7_append_143 : decode cX7_append 143 = .ok (.getfield 50, 3) := by decide +kernel
theorem dX7_append_146 : decode cX7_append 146 = .ok (.iload_n 2, 1) := by decide +kernel
theorem dX7_append_147 : decode cX7_append 147 = .ok (.iaload, 1) := by decide +kernel
theorem dX7_append_148 : decode cX7_append 148 = .ok (.ireturn, 1) := by decide +kernel
theorem dX7_drop_0 : decode cX7_drop 0 = .ok (.iload_n 1, 1) := by decide +kernel
theorem dX7_drop_1 : decode cX7_drop 1 = .ok (.invokestatic 231, 3) := by decide +kernel
theorem dX7_drop_4 : decode cX7_drop 4 = .ok (.ifCond .ne 6, 3) := by decide +kernel
theorem dX7_drop_7 : decode cX7_drop 7 = .ok (.bipush (-2), 2) := by decide +kernel
theorem dX7_drop_9 : decode cX7_drop 9 = .ok (.ireturn, 1) := by decide +kernel
theorem dX7_drop_10 : decode cX7_drop 10 = .ok (.aload_n 0, 1) := by decide +kernel
theorem dX7_drop_11 : decode cX7_drop 11 = .ok (.getfield 50, 3) := by decide +kernel
theorem dX7_drop_14 : decode cX7_drop 14 = .ok (.iload_n 1, 1) := by decide +kernel
theorem dX7_drop_15 : decode cX7_drop 15 = .ok (.iaload, 1) := by decide +kernel
theorem dX7_drop_16 : decode cX7_drop 16 = .ok (.istore_n 2, 1) := by decide +kernel
theorem dX7_drop_17 : decode cX7_drop 17 = .ok (.aload_n 0, 1) := by decide +kernel
theorem dX7_drop_18 : decode cX7_drop 18 = .ok (.getfield 50, 3) := by decide +kernel
theorem dX7_drop_21 : decode cX7_drop 21 = .ok (.iload_n 1, 1) := by decide +kernel
theorem dX7_drop_22 : decode cX7_drop 22 = .ok (.iconst (-1), 1) := by decide +kernel
theorem dX7_drop_23 : decode cX7_drop 23 = .ok (.iastore, 1) := by decide +kernel
theorem dX7_drop_24 : decode cX7_drop 24 = .ok (.iload_n 2, 1) := by decide +kernel
theorem dX7_drop_25 : decode cX7_drop 25 = .ok (.ifCond .ge 8, 3) := by decide +kernel
theorem dX7_drop_28 : decode cX7_drop 28 = .ok (.bipush (-11), 2) := by decide +kernel
theorem dX7_drop_30 : decode cX7_drop 30 = .ok (.goto 4, 3) := by decide +kernel
theorem dX7_drop_33 : decode cX7_drop 33 = .ok (.iload_n 2, 1) := by decide +kernel
theorem dX7_drop_34 : decode cX7_drop 34 = .ok (.ireturn, 1) := by decide +kernel
theorem dX7_allThings_0 : decode cX7_allThings 0 = .ok (.iconst 0, 1) := by decide +kernel
theorem dX7_allThings_1 : decode cX7_allThings 1 = .ok (.istore_n 1, 1) := by decide +kernel
theorem dX7_allThings_2 : decode cX7_allThings 2 = .ok (.iconst 0, 1) := by decide +kernel
theorem dX7_allThings_3 : decode cX7_allThings 3 = .ok (.istore_n 2, 1) := by decide +kernel
theorem dX7_allThings_4 : decode cX7_allThings 4 = .ok (.iload_n 2, 1) := by decide +kernel
theorem dX7_allThings_5 : decode cX7_allThings 5 = .ok (.iconst 3, 1) := by decide +kernel
theorem dX7_allThings_6 : decode cX7_allThings 6 = .ok (.if_icmp .ge 31, 3) := by decide +kernel
theorem dX7_allThings_9 : decode cX7_allThings 9 = .ok (.iload_n 1, 1) := by decide +kernel
theorem dX7_allThings_10 : decode cX7_allThings 10 = .ok (.aload_n 0, 1) := by decide +kernel
theorem dX7_allThings_11 : decode cX7_allThings 11 = .ok (.getfield 50, 3) := by decide +kernel
theorem dX7_allThings_14 : decode cX7_allThings 14 = .ok (.iload_n 2, 1) := by decide +kernel
theorem dX7_allThings_15 : decode cX7_allThings 15 = .ok (.iaload, 1) := by decide +kernel
theorem dX7_allThings_16 : decode cX7_allThings 16 = .ok (.ifCond .le 12, 3) := by decide +kernel
theorem dX7_allThings_19 : decode cX7_allThings 19 = .ok (.aload_n 0, 1) := by decide +kernel
theorem dX7_allThings_20 : decode cX7_allThings 20 = .ok (.getfield 50, 3) := by decide +kernel
theorem dX7_allThings_23 : decode cX7_allThings 23 = .ok (.iload_n 2, 1) := by decide +kernel
theorem dX7_allThings_24 : decode cX7_allThings 24 = .ok (.iaload, 1) := by decide +kernel
theorem dX7_allThings_25 : decode cX7_allThings 25 = .ok (.goto 4, 3) := by decide +kernel
theorem dX7_allThings_28 : decode cX7_allThings 28 = .ok (.iconst 0, 1) := by decide +kernel
theorem dX7_allThings_29 : decode cX7_allThings 29 = .ok (.iadd, 1) := by decide +kernel
theorem dX7_allThings_30 : decode cX7_allThings 30 = .ok (.istore_n 1, 1) := by decide +kernel
theorem dX7_allThings_31 : decode cX7_allThings 31 = .ok (.iinc 2 1, 3) := by decide +kernel
theorem dX7_allThings_34 : decode cX7_allThings 34 = .ok (.goto (-30), 3) := by decide +kernel
theorem dX7_allThings_37 : decode cX7_allThings 37 = .ok (.iload_n 1, 1) := by decide +kernel
theorem dX7_allThings_38 : decode cX7_allThings 38 = .ok (.ireturn, 1) := by decide +kernel
theorem dX7_count_0 : decode cX7_count 0 = .ok (.iload_n 1, 1) := by decide +kernel
theorem dX7_count_1 : decode cX7_count 1 = .ok (.tableswitch 99 0 8 #[51, 56, 61, 66, 74, 79, 84, 89, 94], 51) := by decide +kernel
theorem dX7_count_52 : decode cX7_count 52 = .ok (.aload_n 0, 1) := by decide +kernel
theorem dX7_count_53 : decode cX7_count 53 = .ok (.getfield 7, 3) := by decide +kernel
theorem dX7_count_56 : decode cX7_count 56 = .ok (.ireturn, 1) := by decide +kernel
theorem dX7_count_57 : decode cX7_count 57 = .ok (.aload_n 0, 1) := by decide +kernel
theorem dX7_count_58 : decode cX7_count 58 = .ok (.invokevirtual 159, 3) := by decide +kernel
theorem dX7_count_61 : decode cX7_count 61 = .ok (.ireturn, 1) := by decide +kernel
theorem dX7_count_62 : decode cX7_count 62 = .ok (.aload_n 0, 1) := by decide +kernel
theorem dX7_count_63 : decode cX7_count 63 = .ok (.invokevirtual 174, 3) := by decide +kernel
theorem dX7_count_66 : decode cX7_count 66 = .ok (.ireturn, 1) := by decide +kernel
theorem dX7_count_67 : decode cX7_count 67 = .ok (.aload_n 0, 1) := by decide +kernel
theorem dX7_count_68 : decode cX7_count 68 = .ok (.getfield 13, 3) := by decide +kernel
theorem dX7_count_71 : decode cX7_count 71 = .ok (.bipush 110, 2) := by decide +kernel
theorem dX7_count_73 : decode cX7_count 73 = .ok (.iaload, 1) := by decide +kernel
theorem dX7_count_74 : decode cX7_count 74 = .ok (.ireturn, 1) := by decide +kernel
theorem dX7_count_75 : decode cX7_count 75 = .ok (.aload_n 0, 1) := by decide +kernel
theorem dX7_count_76 : decode cX7_count 76 = .ok (.invokevirtual 207, 3) := by decide +kernel
theorem dX7_count_79 : decode cX7_count 79 = .ok (.ireturn, 1) := by decide +kernel
theorem dX7_count_80 : decode cX7_count 80 = .ok (.aload_n 0, 1) := by decide +kernel
theorem dX7_count_81 : decode cX7_count 81 = .ok (.invokevirtual 210, 3) := by decide +kernel
theorem dX7_count_84 : decode cX7_count 84 = .ok (.ireturn, 1) := by decide +kernel
theorem dX7_count_85 : decode cX7_count 85 = .ok (.aload_n 0, 1) := by decide +kernel
theorem dX7_count_86 : decode cX7_count 86 = .ok (.invokevirtual 243, 3) := by decide +kernel
theorem dX7_count_89 : decode cX7_count 89 = .ok (.ireturn, 1) := by decide +kernel
theorem dX7_count_90 : decode cX7_count 90 = .ok (.aload_n 0, 1) := by decide +kernel
theorem dX7_count_91 : decode cX7_count 91 = .ok (.getfield 92, 3) := by decide +kernel
theorem dX7_count_94 : decode cX7_count 94 = .ok (.ireturn, 1) := by decide +kernel
theorem dX7_count_95 : decode cX7_count 95 = .ok (.aload_n 0, 1) := by decide +kernel
theorem dX7_count_96 : decode cX7_count 96 = .ok (.getfield 97, 3) := by decide +kernel
theorem dX7_count_99 : decode cX7_count 99 = .ok (.ireturn, 1) := by decide +kernel
theorem dX7_count_100 : decode cX7_count 100 = .ok (.bipush (-3), 2) := by decide +kernel
theorem dX7_count_102 : decode cX7_count 102 = .ok (.ireturn, 1) := by decide +kernel
