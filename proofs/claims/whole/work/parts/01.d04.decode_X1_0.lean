theorem dX1_init_0 : decode cX1_init 0 = .ok (.aload_n 0, 1) := by decide +kernel
theorem dX1_init_1 : decode cX1_init 1 = .ok (.invokespecial 3, 3) := by decide +kernel
theorem dX1_init_4 : decode cX1_init 4 = .ok (.aload_n 0, 1) := by decide +kernel
theorem dX1_init_5 : decode cX1_init 5 = .ok (.bipush 10, 2) := by decide +kernel
theorem dX1_init_7 : decode cX1_init 7 = .ok (.newarray .int, 2) := by decide +kernel
theorem dX1_init_9 : decode cX1_init 9 = .ok (.putfield 9, 3) := by decide +kernel
theorem dX1_init_12 : decode cX1_init 12 = .ok (.aload_n 0, 1) := by decide +kernel
theorem dX1_init_13 : decode cX1_init 13 = .ok (.bipush 10, 2) := by decide +kernel
theorem dX1_init_15 : decode cX1_init 15 = .ok (.newarray .int, 2) := by decide +kernel
theorem dX1_init_17 : decode cX1_init 17 = .ok (.putfield 15, 3) := by decide +kernel
theorem dX1_init_20 : decode cX1_init 20 = .ok (.aload_n 0, 1) := by decide +kernel
theorem dX1_init_21 : decode cX1_init 21 = .ok (.bipush 10, 2) := by decide +kernel
theorem dX1_init_23 : decode cX1_init 23 = .ok (.newarray .int, 2) := by decide +kernel
theorem dX1_init_25 : decode cX1_init 25 = .ok (.putfield 18, 3) := by decide +kernel
theorem dX1_init_28 : decode cX1_init 28 = .ok (.return_, 1) := by decide +kernel
theorem dX1_fewestArcs_0 : decode cX1_fewestArcs 0 = .ok (.aload_n 0, 1) := by decide +kernel
theorem dX1_fewestArcs_1 : decode cX1_fewestArcs 1 = .ok (.getfield 9, 3) := by decide +kernel
theorem dX1_fewestArcs_4 : decode cX1_fewestArcs 4 = .ok (.iconst 0, 1) := by decide +kernel
theorem dX1_fewestArcs_5 : decode cX1_fewestArcs 5 = .ok (.invokestatic 21, 3) := by decide +kernel
theorem dX1_fewestArcs_8 : decode cX1_fewestArcs 8 = .ok (.aload_n 0, 1) := by decide +kernel
theorem dX1_fewestArcs_9 : decode cX1_fewestArcs 9 = .ok (.getfield 15, 3) := by decide +kernel
theorem dX1_fewestArcs_12 : decode cX1_fewestArcs 12 = .ok (.iconst 0, 1) := by decide +kernel
theorem dX1_fewestArcs_13 : decode cX1_fewestArcs 13 = .ok (.invokestatic 21, 3) := by decide +kernel
theorem dX1_fewestArcs_16 : decode cX1_fewestArcs 16 = .ok (.iconst 0, 1) := by decide +kernel
theorem dX1_fewestArcs_17 : decode cX1_fewestArcs 17 = .ok (.istore 4, 2) := by decide +kernel
theorem dX1_fewestArcs_19 : decode cX1_fewestArcs 19 = .ok (.iload 4, 2) := by decide +kernel
theorem dX1_fewestArcs_21 : decode cX1_fewestArcs 21 = .ok (.bipush 10, 2) := by decide +kernel
theorem dX1_fewestArcs_23 : decode cX1_fewestArcs 23 = .ok (.if_icmp .ge 25, 3) := by decide +kernel
theorem dX1_fewestArcs_26 : decode cX1_fewestArcs 26 = .ok (.aload_n 0, 1) := by decide +kernel
theorem dX1_fewestArcs_27 : decode cX1_fewestArcs 27 = .ok (.aload_n 1, 1) := by decide +kernel
theorem dX1_fewestArcs_28 : decode cX1_fewestArcs 28 = .ok (.iload_n 2, 1) := by decide +kernel
theorem dX1_fewestArcs_29 : decode cX1_fewestArcs 29 = .ok (.iload_n 3, 1) := by decide +kernel
theorem dX1_fewestArcs_30 : decode cX1_fewestArcs 30 = .ok (.invokevirtual 27, 3) := by decide +kernel
theorem dX1_fewestArcs_33 : decode cX1_fewestArcs 33 = .ok (.ifCond .eq 15, 3) := by decide +kernel
theorem dX1_fewestArcs_36 : decode cX1_fewestArcs 36 = .ok (.aload_n 0, 1) := by decide +kernel
theorem dX1_fewestArcs_37 : decode cX1_fewestArcs 37 = .ok (.iload_n 2, 1) := by decide +kernel
theorem dX1_fewestArcs_38 : decode cX1_fewestArcs 38 = .ok (.iload_n 3, 1) := by decide +kernel
theorem dX1_fewestArcs_39 : decode cX1_fewestArcs 39 = .ok (.invokevirtual 31, 3) := by decide +kernel
theorem dX1_fewestArcs_42 : decode cX1_fewestArcs 42 = .ok (.iinc 4 1, 3) := by decide +kernel
theorem dX1_fewestArcs_45 : decode cX1_fewestArcs 45 = .ok (.goto (-26), 3) := by decide +kernel
theorem dX1_fewestArcs_48 : decode cX1_fewestArcs 48 = .ok (.iload 4, 2) := by decide +kernel
theorem dX1_fewestArcs_50 : decode cX1_fewestArcs 50 = .ok (.ireturn, 1) := by decide +kernel
theorem dX1_findWay_0 : decode cX1_findWay 0 = .ok (.iconst 1, 1) := by decide +kernel
theorem dX1_findWay_1 : decode cX1_findWay 1 = .ok (.iload_n 2, 1) := by decide +kernel
theorem dX1_findWay_2 : decode cX1_findWay 2 = .ok (.ishl, 1) := by decide +kernel
theorem dX1_findWay_3 : decode cX1_findWay 3 = .ok (.istore 4, 2) := by decide +kernel
theorem dX1_findWay_5 : decode cX1_findWay 5 = .ok (.iload 4, 2) := by decide +kernel
theorem dX1_findWay_7 : decode cX1_findWay 7 = .ok (.istore 5, 2) := by decide +kernel
theorem dX1_findWay_9 : decode cX1_findWay 9 = .ok (.iconst 0, 1) := by decide +kernel
theorem dX1_findWay_10 : decode cX1_findWay 10 = .ok (.istore 6, 2) := by decide +kernel
theorem dX1_findWay_12 : decode cX1_findWay 12 = .ok (.iload 6, 2) := by decide +kernel
theorem dX1_findWay_14 : decode cX1_findWay 14 = .ok (.bipush 10, 2) := by decide +kernel
theorem dX1_findWay_16 : decode cX1_findWay 16 = .ok (.if_icmp .ge 120, 3) := by decide +kernel
theorem dX1_findWay_19 : decode cX1_findWay 19 = .ok (.iload 5, 2) := by decide +kernel
theorem dX1_findWay_21 : decode cX1_findWay 21 = .ok (.ifCond .eq 115, 3) := by decide +kernel
theorem dX1_findWay_24 : decode cX1_findWay 24 = .ok (.iload 4, 2) := by decide +kernel
theorem dX1_findWay_26 : decode cX1_findWay 26 = .ok (.iload_n 3, 1) := by decide +kernel
theorem dX1_findWay_27 : decode cX1_findWay 27 = .ok (.invokestatic 35, 3) := by decide +kernel
theorem dX1_findWay_30 : decode cX1_findWay 30 = .ok (.ifCond .ne 106, 3) := by decide +kernel
theorem dX1_findWay_33 : decode cX1_findWay 33 = .ok (.iload 5, 2) := by decide +kernel
theorem dX1_findWay_35 : decode cX1_findWay 35 = .ok (.invokestatic 39, 3) := by decide +kernel
theorem dX1_findWay_38 : decode cX1_findWay 38 = .ok (.istore 7, 2) := by decide +kernel
theorem dX1_findWay_40 : decode cX1_findWay 40 = .ok (.aload_n 1, 1) := by decide +kernel
theorem dX1_findWay_41 : decode cX1_findWay 41 = .ok (.getfield 43, 3) := by decide +kernel
theorem dX1_findWay_44 : decode cX1_findWay 44 = .ok (.iload 7, 2) := by decide +kernel
theorem dX1_findWay_46 : decode cX1_findWay 46 = .ok (.iaload, 1) := by decide +kernel
theorem dX1_findWay_47 : decode cX1_findWay 47 = .ok (.aload_n 0, 1) := by decide +kernel
theorem dX1_findWay_48 : decode cX1_findWay 48 = .ok (.getfield 9, 3) := by decide +kernel
theorem dX1_findWay_51 : decode cX1_findWay 51 = .ok (.iload 7, 2) := by decide +kernel
theorem dX1_findWay_53 : decode cX1_findWay 53 = .ok (.iaload, 1) := by decide +kernel
theorem dX1_findWay_54 : decode cX1_findWay 54 = .ok (.iconst (-1), 1) := by decide +kernel
theorem dX1_findWay_55 : decode cX1_findWay 55 = .ok (.ixor, 1) := by decide +kernel
theorem dX1_findWay_56 : decode cX1_findWay 56 = .ok (.iand, 1) := by decide +kernel
theorem dX1_findWay_57 : decode cX1_findWay 57 = .ok (.aload_n 0, 1) := by decide +kernel
theorem dX1_findWay_58 : decode cX1_findWay 58 = .ok (.getfield 15, 3) := by decide +kernel
theorem dX1_findWay_61 : decode cX1_findWay 61 = .ok (.iload 7, 2) := by decide +kernel
theorem dX1_findWay_63 : decode cX1_findWay 63 = .ok (.iaload, 1) := by decide +kernel
theorem dX1_findWay_64 : decode cX1_findWay 64 = .ok (.ior, 1) := by decide +kernel
theorem dX1_findWay_65 : decode cX1_findWay 65 = .ok (.iload 4, 2) := by decide +kernel
theorem dX1_findWay_67 : decode cX1_findWay 67 = .ok (.iconst (-1), 1) := by decide +kernel
theorem dX1_findWay_68 : decode cX1_findWay 68 = .ok (.ixor, 1) := by decide +kernel
theorem dX1_findWay_69 : decode cX1_findWay 69 = .ok (.iand, 1) := by decide +kernel
theorem dX1_findWay_70 : decode cX1_findWay 70 = .ok (.istore 8, 2) := by decide +kernel
theorem dX1_findWay_72 : decode cX1_findWay 72 = .ok (.iconst 0, 1) := by decide +kernel
theorem dX1_findWay_73 : decode cX1_findWay 73 = .ok (.istore 9, 2) := by decide +kernel
theorem dX1_findWay_75 : decode cX1_findWay 75 = .ok (.iload 9, 2) := by decide +kernel
theorem dX1_findWay_77 : decode cX1_findWay 77 = .ok (.aload_n 1, 1) := by decide +kernel
theorem dX1_findWay_78 : decode cX1_findWay 78 = .ok (.getfield 48, 3) := by decide +kernel
theorem dX1_findWay_81 : decode cX1_findWay 81 = .ok (.if_icmp .ge 28, 3) := by decide +kernel
theorem dX1_findWay_84 : decode cX1_findWay 84 = .ok (.iload 8, 2) := by decide +kernel
theorem dX1_findWay_86 : decode cX1_findWay 86 = .ok (.iload 9, 2) := by decide +kernel
theorem dX1_findWay_88 : decode cX1_findWay 88 = .ok (.invokestatic 35, 3) := by decide +kernel
theorem dX1_findWay_91 : decode cX1_findWay 91 = .ok (.ifCond .eq 12, 3) := by decide +kernel
theorem dX1_findWay_94 : decode cX1_findWay 94 = .ok (.aload_n 0, 1) := by decide +kernel
theorem dX1_findWay_95 : decode cX1_findWay 95 = .ok (.getfield 18, 3) := by decide +kernel
theorem dX1_findWay_98 : decode cX1_findWay 98 = .ok (.iload 9, 2) := by decide +kernel
theorem dX1_findWay_100 : decode cX1_findWay 100 = .ok (.iload 7, 2) := by decide +kernel
theorem dX1_findWay_102 : decode cX1_findWay 102 = .ok (.iastore, 1) := by decide +kernel
theorem dX1_findWay_103 : decode cX1_findWay 103 = .ok (.iinc 9 1, 3) := by decide +kernel
theorem dX1_findWay_106 : decode cX1_findWay 106 = .ok (.goto (-31), 3) := by decide +kernel
theorem dX1_findWay_109 : decode cX1_findWay 109 = .ok (.iload 4, 2) := by decide +kernel
theorem dX1_findWay_111 : decode cX1_findWay 111 = .ok (.iload 8, 2) := by decide +kernel
theorem dX1_findWay_113 : decode cX1_findWay 113 = .ok (.ior, 1) := by decide +kernel
theorem dX1_findWay_114 : decode cX1_findWay 114 = .ok (.istore 4, 2) := by decide +kernel
theorem dX1_findWay_116 : decode cX1_findWay 116 = .ok (.iload 5, 2) := by decide +kernel
theorem dX1_findWay_118 : decode cX1_findWay 118 = .ok (.iconst 1, 1) := by decide +kernel
theorem dX1_findWay_119 : decode cX1_findWay 119 = .ok (.iload 7, 2) := by decide +kernel
theorem dX1_findWay_121 : decode cX1_findWay 121 = .ok (.ishl, 1) := by decide +kernel
theorem dX1_findWay_122 : decode cX1_findWay 122 = .ok (.iconst (-1), 1) := by decide +kernel
theorem dX1_findWay_123 : decode cX1_findWay 123 = .ok (.ixor, 1) := by decide +kernel
theorem dX1_findWay_124 : decode cX1_findWay 124 = .ok (.iand, 1) := by decide +kernel
theorem dX1_findWay_125 : decode cX1_findWay 125 = .ok (.iload 8, 2) := by decide +kernel
theorem dX1_findWay_127 : decode cX1_findWay 127 = .ok (.ior, 1) := by decide +kernel
theorem dX1_findWay_128 : decode cX1_findWay 128 = .ok (.istore 5, 2) := by decide +kernel
theorem dX1_findWay_130 : decode cX1_findWay 130 = .ok (.iinc 6 1, 3) := by decide +kernel
theorem dX1_findWay_133 : decode cX1_findWay 133 = .ok (.goto (-121), 3) := by decide +kernel
theorem dX1_findWay_136 : decode cX1_findWay 136 = .ok (.iload 4, 2) := by decide +kernel
theorem dX1_findWay_138 : decode cX1_findWay 138 = .ok (.iload_n 3, 1) := by decide +kernel
theorem dX1_findWay_139 : decode cX1_findWay 139 = .ok (.invokestatic 35, 3) := by decide +kernel
theorem dX1_findWay_142 : decode cX1_findWay 142 = .ok (.ireturn, 1) := by decide +kernel
theorem dX1_useWay_0 : decode cX1_useWay 0 = .ok (.iload_n 2, 1) := by decide +kernel
theorem dX1_useWay_1 : decode cX1_useWay 1 = .ok (.istore_n 3, 1) := by decide +kernel
theorem dX1_useWay_2 : decode cX1_useWay 2 = .ok (.iconst 0, 1) := by decide +kernel
theorem dX1_useWay_3 : decode cX1_useWay 3 = .ok (.istore 4, 2) := by decide +kernel
theorem dX1_useWay_5 : decode cX1_useWay 5 = .ok (.iload 4, 2) := by decide +kernel
theorem dX1_useWay_7 : decode cX1_useWay 7 = .ok (.bipush 10, 2) := by decide +kernel
theorem dX1_useWay_9 : decode cX1_useWay 9 = .ok (.if_icmp .ge 32, 3) := by decide +kernel
theorem dX1_useWay_12 : decode cX1_useWay 12 = .ok (.iload_n 3, 1) := by decide +kernel
theorem dX1_useWay_13 : decode cX1_useWay 13 = .ok (.iload_n 1, 1) := by decide +kernel
theorem dX1_useWay_14 : decode cX1_useWay 14 = .ok (.if_icmp .eq 27, 3) := by decide +kernel
theorem dX1_useWay_17 : decode cX1_useWay 17 = .ok (.aload_n 0, 1) := by decide +kernel
theorem dX1_useWay_18 : decode cX1_useWay 18 = .ok (.getfield 18, 3) := by decide +kernel
theorem dX1_useWay_21 : decode cX1_useWay 21 = .ok (.iload_n 3, 1) := by decide +kernel
theorem dX1_useWay_22 : decode cX1_useWay 22 = .ok (.iaload, 1) := by decide +kernel
theorem dX1_useWay_23 : decode cX1_useWay 23 = .ok (.istore 5, 2) := by decide +kernel
theorem dX1_useWay_25 : decode cX1_useWay 25 = .ok (.aload_n 0, 1) := by decide +kernel
theorem dX1_useWay_26 : decode cX1_useWay 26 = .ok (.iload 5, 2) := by decide +kernel
theorem dX1_useWay_28 : decode cX1_useWay 28 = .ok (.iload_n 3, 1) := by decide +kernel
theorem dX1_useWay_29 : decode cX1_useWay 29 = .ok (.invokevirtual 52, 3) := by decide +kernel
theorem dX1_useWay_32 : decode cX1_useWay 32 = .ok (.iload 5, 2) := by decide +kernel
theorem dX1_useWay_34 : decode cX1_useWay 34 = .ok (.istore_n 3, 1) := by decide +kernel
theorem dX1_useWay_35 : decode cX1_useWay 35 = .ok (.iinc 4 1, 3) := by decide +kernel
theorem dX1_useWay_38 : decode cX1_useWay 38 = .ok (.goto (-33), 3) := by decide +kernel
theorem dX1_useWay_41 : decode cX1_useWay 41 = .ok (.return_, 1) := by decide +kernel
theorem dX1_useStep_0 : decode cX1_useStep 0 = .ok (.aload_n 0, 1) := by decide +kernel
theorem dX1_useStep_1 : decode cX1_useStep 1 = .ok (.getfield 15, 3) := by decide +kernel
theorem dX1_useStep_4 : decode cX1_useStep 4 = .ok (.iload_n 1, 1) := by decide +kernel
theorem dX1_useStep_5 : decode cX1_useStep 5 = .ok (.iaload, 1) := by decide +kernel
theorem dX1_useStep_6 : decode cX1_useStep 6 = .ok (.iload_n 2, 1) := by decide +kernel
theorem dX1_useStep_7 : decode cX1_useStep 7 = .ok (.invokestatic 35, 3) := by decide +kernel
theorem dX1_useStep_10 : decode cX1_useStep 10 = .ok (.ifCond .eq 34, 3) := by decide +kernel
theorem dX1_useStep_13 : decode cX1_useStep 13 = .ok (.aload_n 0, 1) := by decide +kernel
theorem dX1_useStep_14 : decode cX1_useStep 14 = .ok (.getfield 9, 3) := by decide +kernel
theorem dX1_useStep_17 : decode cX1_useStep 17 = .ok (.iload_n 2, 1) := by decide +kernel
theorem dX1_useStep_18 : decode cX1_useStep 18 = .ok (.dup2, 1) := by decide +kernel
theorem dX1_useStep_19 : decode cX1_useStep 19 = .ok (.iaload, 1) := by decide +kernel
theorem dX1_useStep_20 : decode cX1_useStep 20 = .ok (.iconst 1, 1) := by decide +kernel
theorem dX1_useStep_21 : decode cX1_useStep 21 = .ok (.iload_n 1, 1) := by decide +kernel
theorem dX1_useStep_22 : decode cX1_useStep 22 = .ok (.ishl, 1) := by decide +kernel
theorem dX1_useStep_23 : decode cX1_useStep 23 = .ok (.iconst (-1), 1) := by decide +kernel
theorem dX1_useStep_24 : decode cX1_useStep 24 = .ok (.ixor, 1) := by decide +kernel
theorem dX1_useStep_25 : decode cX1_useStep 25 = .ok (.iand, 1) := by decide +kernel
theorem dX1_useStep_26 : decode cX1_useStep 26 = .ok (.iastore, 1) := by decide +kernel
theorem dX1_useStep_27 : decode cX1_useStep 27 = .ok (.aload_n 0, 1) := by decide +kernel
theorem dX1_useStep_28 : decode cX1_useStep 28 = .ok (.getfield 15, 3) := by decide +kernel
theorem dX1_useStep_31 : decode cX1_useStep 31 = .ok (.iload_n 1, 1) := by decide +kernel
theorem dX1_useStep_32 : decode cX1_useStep 32 = .ok (.dup2, 1) := by decide +kernel
theorem dX1_useStep_33 : decode cX1_useStep 33 = .ok (.iaload, 1) := by decide +kernel
theorem dX1_useStep_34 : decode cX1_useStep 34 = .ok (.iconst 1, 1) := by decide +kernel
theorem dX1_useStep_35 : decode cX1_useStep 35 = .ok (.iload_n 2, 1) := by decide +kernel
theorem dX1_useStep_36 : decode cX1_useStep 36 = .ok (.ishl, 1) := by decide +kernel
theorem dX1_useStep_37 : decode cX1_useStep 37 = .ok (.iconst (-1), 1) := by decide +kernel
theorem dX1_useStep_38 : decode cX1_useStep 38 = .ok (.ixor, 1) := by decide +kernel
theorem dX1_useStep_39 : decode cX1_useStep 39 = .ok (.iand, 1) := by decide +kernel
theorem dX1_useStep_40 : decode cX1_useStep 40 = .ok (.iastore, 1) := by decide +kernel
theorem dX1_useStep_41 : decode cX1_useStep 41 = .ok (.goto 27, 3) := by decide +kernel
theorem dX1_useStep_44 : decode cX1_useStep 44 = .ok (.aload_n 0, 1) := by decide +kernel
theorem dX1_useStep_45 : decode cX1_useStep 45 = .ok (.getfield 9, 3) := by decide +kernel
theorem dX1_useStep_48 : decode cX1_useStep 48 = .ok (.iload_n 1, 1) := by decide +kernel
theorem dX1_useStep_49 : decode cX1_useStep 49 = .ok (.dup2, 1) := by decide +kernel
theorem dX1_useStep_50 : decode cX1_useStep 50 = .ok (.iaload, 1) := by decide +kernel
theorem dX1_useStep_51 : decode cX1_useStep 51 = .ok (.iconst 1, 1) := by decide +kernel
theorem dX1_useStep_52 : decode cX1_useStep 52 = .ok (.iload_n 2, 1) := by decide +kernel
theorem dX1_useStep_53 : decode cX1_useStep 53 = .ok (.ishl, 1) := by decide +kernel
theorem dX1_useStep_54 : decode cX1_useStep 54 = .ok (.ior, 1) := by decide +kernel
theorem dX1_useStep_55 : decode cX1_useStep 55 = .ok (.iastore, 1) := by decide +kernel
theorem dX1_useStep_56 : decode cX1_useStep 56 = .ok (.aload_n 0, 1) := by decide +kernel
theorem dX1_useStep_57 : decode cX1_useStep 57 = .ok (.getfield 15, 3) := by decide +kernel
theorem dX1_useStep_60 : decode cX1_useStep 60 = .ok (.iload_n 2, 1) := by decide +kernel
theorem dX1_useStep_61 : decode cX1_useStep 61 = .ok (.dup2, 1) := by decide +kernel
theorem dX1_useStep_62 : decode cX1_useStep 62 = .ok (.iaload, 1) := by decide +kernel
theorem dX1_useStep_63 : decode cX1_useStep 63 = .ok (.iconst 1, 1) := by decide +kernel
theorem dX1_useStep_64 : decode cX1_useStep 64 = .ok (.iload_n 1, 1) := by decide +kernel
theorem dX1_useStep_65 : decode cX1_useStep 65 = .ok (.ishl, 1) := by decide +kernel
theorem dX1_useStep_66 : decode cX1_useStep 66 = .ok (.ior, 1) := by decide +kernel
theorem dX1_useStep_67 : decode cX1_useStep 67 = .ok (.iastore, 1) := by decide +kernel
theorem dX1_useStep_68 : decode cX1_useStep 68 = .ok (.return_, 1) := by decide +kernel
