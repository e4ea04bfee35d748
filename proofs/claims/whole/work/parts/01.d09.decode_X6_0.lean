theorem dX6_init_0 : decode cX6_init 0 = .ok (.aload_n 0, 1) := by decide +kernel
theorem dX6_init_1 : decode cX6_init 1 = .ok (.invokespecial 1, 3) := by decide +kernel
theorem dX6_init_4 : decode cX6_init 4 = .ok (.aload_n 0, 1) := by decide +kernel
theorem dX6_init_5 : decode cX6_init 5 = .ok (.new 7, 3) := by decide +kernel
theorem dX6_init_8 : decode cX6_init 8 = .ok (.dup, 1) := by decide +kernel
theorem dX6_init_9 : decode cX6_init 9 = .ok (.invokespecial 9, 3) := by decide +kernel
theorem dX6_init_12 : decode cX6_init 12 = .ok (.putfield 10, 3) := by decide +kernel
theorem dX6_init_15 : decode cX6_init 15 = .ok (.aload_n 0, 1) := by decide +kernel
theorem dX6_init_16 : decode cX6_init 16 = .ok (.new 16, 3) := by decide +kernel
theorem dX6_init_19 : decode cX6_init 19 = .ok (.dup, 1) := by decide +kernel
theorem dX6_init_20 : decode cX6_init 20 = .ok (.aload_n 0, 1) := by decide +kernel
theorem dX6_init_21 : decode cX6_init 21 = .ok (.getfield 10, 3) := by decide +kernel
theorem dX6_init_24 : decode cX6_init 24 = .ok (.invokespecial 18, 3) := by decide +kernel
theorem dX6_init_27 : decode cX6_init 27 = .ok (.putfield 21, 3) := by decide +kernel
theorem dX6_init_30 : decode cX6_init 30 = .ok (.aload_n 0, 1) := by decide +kernel
theorem dX6_init_31 : decode cX6_init 31 = .ok (.new 25, 3) := by decide +kernel
theorem dX6_init_34 : decode cX6_init 34 = .ok (.dup, 1) := by decide +kernel
theorem dX6_init_35 : decode cX6_init 35 = .ok (.invokespecial 27, 3) := by decide +kernel
theorem dX6_init_38 : decode cX6_init 38 = .ok (.putfield 28, 3) := by decide +kernel
theorem dX6_init_41 : decode cX6_init 41 = .ok (.aload_n 0, 1) := by decide +kernel
theorem dX6_init_42 : decode cX6_init 42 = .ok (.new 32, 3) := by decide +kernel
theorem dX6_init_45 : decode cX6_init 45 = .ok (.dup, 1) := by decide +kernel
theorem dX6_init_46 : decode cX6_init 46 = .ok (.invokespecial 34, 3) := by decide +kernel
theorem dX6_init_49 : decode cX6_init 49 = .ok (.putfield 35, 3) := by decide +kernel
theorem dX6_init_52 : decode cX6_init 52 = .ok (.aload_n 0, 1) := by decide +kernel
theorem dX6_init_53 : decode cX6_init 53 = .ok (.iconst 2, 1) := by decide +kernel
theorem dX6_init_54 : decode cX6_init 54 = .ok (.anewarray 25, 3) := by decide +kernel
theorem dX6_init_57 : decode cX6_init 57 = .ok (.putfield 39, 3) := by decide +kernel
theorem dX6_init_60 : decode cX6_init 60 = .ok (.iconst 0, 1) := by decide +kernel
theorem dX6_init_61 : decode cX6_init 61 = .ok (.istore_n 1, 1) := by decide +kernel
theorem dX6_init_62 : decode cX6_init 62 = .ok (.iload_n 1, 1) := by decide +kernel
theorem dX6_init_63 : decode cX6_init 63 = .ok (.iconst 2, 1) := by decide +kernel
theorem dX6_init_64 : decode cX6_init 64 = .ok (.if_icmp .ge 22, 3) := by decide +kernel
theorem dX6_init_67 : decode cX6_init 67 = .ok (.aload_n 0, 1) := by decide +kernel
theorem dX6_init_68 : decode cX6_init 68 = .ok (.getfield 39, 3) := by decide +kernel
theorem dX6_init_71 : decode cX6_init 71 = .ok (.iload_n 1, 1) := by decide +kernel
theorem dX6_init_72 : decode cX6_init 72 = .ok (.new 25, 3) := by decide +kernel
theorem dX6_init_75 : decode cX6_init 75 = .ok (.dup, 1) := by decide +kernel
theorem dX6_init_76 : decode cX6_init 76 = .ok (.invokespecial 27, 3) := by decide +kernel
theorem dX6_init_79 : decode cX6_init 79 = .ok (.aastore, 1) := by decide +kernel
theorem dX6_init_80 : decode cX6_init 80 = .ok (.iinc 1 1, 3) := by decide +kernel
theorem dX6_init_83 : decode cX6_init 83 = .ok (.goto (-21), 3) := by decide +kernel
theorem dX6_init_86 : decode cX6_init 86 = .ok (.aload_n 0, 1) := by decide +kernel
theorem dX6_init_87 : decode cX6_init 87 = .ok (.iconst 0, 1) := by decide +kernel
theorem dX6_init_88 : decode cX6_init 88 = .ok (.putfield 43, 3) := by decide +kernel
theorem dX6_init_91 : decode cX6_init 91 = .ok (.aload_n 0, 1) := by decide +kernel
theorem dX6_init_92 : decode cX6_init 92 = .ok (.new 47, 3) := by decide +kernel
theorem dX6_init_95 : decode cX6_init 95 = .ok (.dup, 1) := by decide +kernel
theorem dX6_init_96 : decode cX6_init 96 = .ok (.invokespecial 49, 3) := by decide +kernel
theorem dX6_init_99 : decode cX6_init 99 = .ok (.putfield 50, 3) := by decide +kernel
theorem dX6_init_102 : decode cX6_init 102 = .ok (.aload_n 0, 1) := by decide +kernel
theorem dX6_init_103 : decode cX6_init 103 = .ok (.iconst 3, 1) := by decide +kernel
theorem dX6_init_104 : decode cX6_init 104 = .ok (.anewarray 54, 3) := by decide +kernel
theorem dX6_init_107 : decode cX6_init 107 = .ok (.putfield 56, 3) := by decide +kernel
theorem dX6_init_110 : decode cX6_init 110 = .ok (.iconst 0, 1) := by decide +kernel
theorem dX6_init_111 : decode cX6_init 111 = .ok (.istore_n 1, 1) := by decide +kernel
theorem dX6_init_112 : decode cX6_init 112 = .ok (.iload_n 1, 1) := by decide +kernel
theorem dX6_init_113 : decode cX6_init 113 = .ok (.iconst 3, 1) := by decide +kernel
theorem dX6_init_114 : decode cX6_init 114 = .ok (.if_icmp .ge 22, 3) := by decide +kernel
theorem dX6_init_117 : decode cX6_init 117 = .ok (.aload_n 0, 1) := by decide +kernel
theorem dX6_init_118 : decode cX6_init 118 = .ok (.getfield 56, 3) := by decide +kernel
theorem dX6_init_121 : decode cX6_init 121 = .ok (.iload_n 1, 1) := by decide +kernel
theorem dX6_init_122 : decode cX6_init 122 = .ok (.new 54, 3) := by decide +kernel
theorem dX6_init_125 : decode cX6_init 125 = .ok (.dup, 1) := by decide +kernel
theorem dX6_init_126 : decode cX6_init 126 = .ok (.invokespecial 60, 3) := by decide +kernel
theorem dX6_init_129 : decode cX6_init 129 = .ok (.aastore, 1) := by decide +kernel
theorem dX6_init_130 : decode cX6_init 130 = .ok (.iinc 1 1, 3) := by decide +kernel
theorem dX6_init_133 : decode cX6_init 133 = .ok (.goto (-21), 3) := by decide +kernel
theorem dX6_init_136 : decode cX6_init 136 = .ok (.return_, 1) := by decide +kernel
theorem dX6_write_0 : decode cX6_write 0 = .ok (.iload_n 1, 1) := by decide +kernel
theorem dX6_write_1 : decode cX6_write 1 = .ok (.ifCond .lt 10, 3) := by decide +kernel
theorem dX6_write_4 : decode cX6_write 4 = .ok (.iload_n 1, 1) := by decide +kernel
theorem dX6_write_5 : decode cX6_write 5 = .ok (.sipush 255, 3) := by decide +kernel
theorem dX6_write_8 : decode cX6_write 8 = .ok (.if_icmp .le 6, 3) := by decide +kernel
theorem dX6_write_11 : decode cX6_write 11 = .ok (.bipush (-3), 2) := by decide +kernel
theorem dX6_write_13 : decode cX6_write 13 = .ok (.ireturn, 1) := by decide +kernel
theorem dX6_write_14 : decode cX6_write 14 = .ok (.aload_n 0, 1) := by decide +kernel
theorem dX6_write_15 : decode cX6_write 15 = .ok (.getfield 10, 3) := by decide +kernel
theorem dX6_write_18 : decode cX6_write 18 = .ok (.getfield 61, 3) := by decide +kernel
theorem dX6_write_21 : decode cX6_write 21 = .ok (.sipush 200, 3) := by decide +kernel
theorem dX6_write_24 : decode cX6_write 24 = .ok (.if_icmp .lt 6, 3) := by decide +kernel
theorem dX6_write_27 : decode cX6_write 27 = .ok (.bipush (-5), 2) := by decide +kernel
theorem dX6_write_29 : decode cX6_write 29 = .ok (.ireturn, 1) := by decide +kernel
theorem dX6_write_30 : decode cX6_write 30 = .ok (.aload_n 0, 1) := by decide +kernel
theorem dX6_write_31 : decode cX6_write 31 = .ok (.getfield 10, 3) := by decide +kernel
theorem dX6_write_34 : decode cX6_write 34 = .ok (.getfield 64, 3) := by decide +kernel
theorem dX6_write_37 : decode cX6_write 37 = .ok (.aload_n 0, 1) := by decide +kernel
theorem dX6_write_38 : decode cX6_write 38 = .ok (.getfield 10, 3) := by decide +kernel
theorem dX6_write_41 : decode cX6_write 41 = .ok (.getfield 61, 3) := by decide +kernel
theorem dX6_write_44 : decode cX6_write 44 = .ok (.iload_n 1, 1) := by decide +kernel
theorem dX6_write_45 : decode cX6_write 45 = .ok (.iastore, 1) := by decide +kernel
theorem dX6_write_46 : decode cX6_write 46 = .ok (.aload_n 0, 1) := by decide +kernel
theorem dX6_write_47 : decode cX6_write 47 = .ok (.getfield 10, 3) := by decide +kernel
theorem dX6_write_50 : decode cX6_write 50 = .ok (.dup, 1) := by decide +kernel
theorem dX6_write_51 : decode cX6_write 51 = .ok (.getfield 61, 3) := by decide +kernel
theorem dX6_write_54 : decode cX6_write 54 = .ok (.iconst 1, 1) := by decide +kernel
theorem dX6_write_55 : decode cX6_write 55 = .ok (.iadd, 1) := by decide +kernel
theorem dX6_write_56 : decode cX6_write 56 = .ok (.putfield 61, 3) := by decide +kernel
theorem dX6_write_59 : decode cX6_write 59 = .ok (.aload_n 0, 1) := by decide +kernel
theorem dX6_write_60 : decode cX6_write 60 = .ok (.getfield 10, 3) := by decide +kernel
theorem dX6_write_63 : decode cX6_write 63 = .ok (.getfield 61, 3) := by decide +kernel
theorem dX6_write_66 : decode cX6_write 66 = .ok (.ireturn, 1) := by decide +kernel
theorem dX6_erase_0 : decode cX6_erase 0 = .ok (.aload_n 0, 1) := by decide +kernel
theorem dX6_erase_1 : decode cX6_erase 1 = .ok (.getfield 10, 3) := by decide +kernel
theorem dX6_erase_4 : decode cX6_erase 4 = .ok (.getfield 61, 3) := by decide +kernel
theorem dX6_erase_7 : decode cX6_erase 7 = .ok (.istore_n 1, 1) := by decide +kernel
theorem dX6_erase_8 : decode cX6_erase 8 = .ok (.aload_n 0, 1) := by decide +kernel
theorem dX6_erase_9 : decode cX6_erase 9 = .ok (.getfield 10, 3) := by decide +kernel
theorem dX6_erase_12 : decode cX6_erase 12 = .ok (.iconst 0, 1) := by decide +kernel
theorem dX6_erase_13 : decode cX6_erase 13 = .ok (.putfield 61, 3) := by decide +kernel
theorem dX6_erase_16 : decode cX6_erase 16 = .ok (.iload_n 1, 1) := by decide +kernel
theorem dX6_erase_17 : decode cX6_erase 17 = .ok (.ireturn, 1) := by decide +kernel
theorem dX6_fault_0 : decode cX6_fault 0 = .ok (.aload_n 0, 1) := by decide +kernel
theorem dX6_fault_1 : decode cX6_fault 1 = .ok (.getfield 21, 3) := by decide +kernel
theorem dX6_fault_4 : decode cX6_fault 4 = .ok (.aload_n 0, 1) := by decide +kernel
theorem dX6_fault_5 : decode cX6_fault 5 = .ok (.getfield 28, 3) := by decide +kernel
theorem dX6_fault_8 : decode cX6_fault 8 = .ok (.getfield 68, 3) := by decide +kernel
theorem dX6_fault_11 : decode cX6_fault 11 = .ok (.invokevirtual 71, 3) := by decide +kernel
theorem dX6_fault_14 : decode cX6_fault 14 = .ok (.ireturn, 1) := by decide +kernel
theorem dX6_net_0 : decode cX6_net 0 = .ok (.aload_n 0, 1) := by decide +kernel
theorem dX6_net_1 : decode cX6_net 1 = .ok (.getfield 21, 3) := by decide +kernel
theorem dX6_net_4 : decode cX6_net 4 = .ok (.aload_n 0, 1) := by decide +kernel
theorem dX6_net_5 : decode cX6_net 5 = .ok (.getfield 28, 3) := by decide +kernel
theorem dX6_net_8 : decode cX6_net 8 = .ok (.getfield 68, 3) := by decide +kernel
theorem dX6_net_11 : decode cX6_net 11 = .ok (.invokevirtual 71, 3) := by decide +kernel
theorem dX6_net_14 : decode cX6_net 14 = .ok (.iconst (-1), 1) := by decide +kernel
theorem dX6_net_15 : decode cX6_net 15 = .ok (.if_icmp .eq 6, 3) := by decide +kernel
theorem dX6_net_18 : decode cX6_net 18 = .ok (.bipush (-4), 2) := by decide +kernel
theorem dX6_net_20 : decode cX6_net 20 = .ok (.ireturn, 1) := by decide +kernel
theorem dX6_net_21 : decode cX6_net 21 = .ok (.iconst 0, 1) := by decide +kernel
theorem dX6_net_22 : decode cX6_net 22 = .ok (.istore_n 1, 1) := by decide +kernel
theorem dX6_net_23 : decode cX6_net 23 = .ok (.iload_n 1, 1) := by decide +kernel
theorem dX6_net_24 : decode cX6_net 24 = .ok (.aload_n 0, 1) := by decide +kernel
theorem dX6_net_25 : decode cX6_net 25 = .ok (.getfield 21, 3) := by decide +kernel
theorem dX6_net_28 : decode cX6_net 28 = .ok (.getfield 75, 3) := by decide +kernel
theorem dX6_net_31 : decode cX6_net 31 = .ok (.if_icmp .ge 14, 3) := by decide +kernel
theorem dX6_net_34 : decode cX6_net 34 = .ok (.aload_n 0, 1) := by decide +kernel
theorem dX6_net_35 : decode cX6_net 35 = .ok (.iload_n 1, 1) := by decide +kernel
theorem dX6_net_36 : decode cX6_net 36 = .ok (.invokevirtual 78, 3) := by decide +kernel
theorem dX6_net_39 : decode cX6_net 39 = .ok (.iinc 1 1, 3) := by decide +kernel
theorem dX6_net_42 : decode cX6_net 42 = .ok (.goto (-19), 3) := by decide +kernel
theorem dX6_net_45 : decode cX6_net 45 = .ok (.aload_n 0, 1) := by decide +kernel
theorem dX6_net_46 : decode cX6_net 46 = .ok (.getfield 10, 3) := by decide +kernel
theorem dX6_net_49 : decode cX6_net 49 = .ok (.iconst 0, 1) := by decide +kernel
theorem dX6_net_50 : decode cX6_net 50 = .ok (.putfield 61, 3) := by decide +kernel
theorem dX6_net_53 : decode cX6_net 53 = .ok (.aload_n 0, 1) := by decide +kernel
theorem dX6_net_54 : decode cX6_net 54 = .ok (.getfield 35, 3) := by decide +kernel
theorem dX6_net_57 : decode cX6_net 57 = .ok (.invokevirtual 82, 3) := by decide +kernel
theorem dX6_net_60 : decode cX6_net 60 = .ok (.aload_n 0, 1) := by decide +kernel
theorem dX6_net_61 : decode cX6_net 61 = .ok (.iconst 0, 1) := by decide +kernel
theorem dX6_net_62 : decode cX6_net 62 = .ok (.putfield 43, 3) := by decide +kernel
theorem dX6_net_65 : decode cX6_net 65 = .ok (.iconst 0, 1) := by decide +kernel
theorem dX6_net_66 : decode cX6_net 66 = .ok (.istore_n 1, 1) := by decide +kernel
theorem dX6_net_67 : decode cX6_net 67 = .ok (.iload_n 1, 1) := by decide +kernel
theorem dX6_net_68 : decode cX6_net 68 = .ok (.iconst 3, 1) := by decide +kernel
theorem dX6_net_69 : decode cX6_net 69 = .ok (.if_icmp .ge 18, 3) := by decide +kernel
theorem dX6_net_72 : decode cX6_net 72 = .ok (.aload_n 0, 1) := by decide +kernel
theorem dX6_net_73 : decode cX6_net 73 = .ok (.getfield 56, 3) := by decide +kernel
theorem dX6_net_76 : decode cX6_net 76 = .ok (.iload_n 1, 1) := by decide +kernel
theorem dX6_net_77 : decode cX6_net 77 = .ok (.aaload, 1) := by decide +kernel
theorem dX6_net_78 : decode cX6_net 78 = .ok (.invokevirtual 85, 3) := by decide +kernel
theorem dX6_net_81 : decode cX6_net 81 = .ok (.iinc 1 1, 3) := by decide +kernel
theorem dX6_net_84 : decode cX6_net 84 = .ok (.goto (-17), 3) := by decide +kernel
theorem dX6_net_87 : decode cX6_net 87 = .ok (.aload_n 0, 1) := by decide +kernel
theorem dX6_net_88 : decode cX6_net 88 = .ok (.getfield 21, 3) := by decide +kernel
theorem dX6_net_91 : decode cX6_net 91 = .ok (.getfield 75, 3) := by decide +kernel
theorem dX6_net_94 : decode cX6_net 94 = .ok (.ireturn, 1) := by decide +kernel
theorem dX6_doClause_0 : decode cX6_doClause 0 = .ok (.aload_n 0, 1) := by decide +kernel
theorem dX6_doClause_1 : decode cX6_doClause 1 = .ok (.getfield 21, 3) := by decide +kernel
theorem dX6_doClause_4 : decode cX6_doClause 4 = .ok (.iload_n 1, 1) := by decide +kernel
theorem dX6_doClause_5 : decode cX6_doClause 5 = .ok (.iconst 0, 1) := by decide +kernel
theorem dX6_doClause_6 : decode cX6_doClause 6 = .ok (.invokevirtual 88, 3) := by decide +kernel
theorem dX6_doClause_9 : decode cX6_doClause 9 = .ok (.istore_n 2, 1) := by decide +kernel
theorem dX6_doClause_10 : decode cX6_doClause 10 = .ok (.aload_n 0, 1) := by decide +kernel
theorem dX6_doClause_11 : decode cX6_doClause 11 = .ok (.getfield 21, 3) := by decide +kernel
theorem dX6_doClause_14 : decode cX6_doClause 14 = .ok (.iload_n 1, 1) := by decide +kernel
theorem dX6_doClause_15 : decode cX6_doClause 15 = .ok (.iconst 1, 1) := by decide +kernel
theorem dX6_doClause_16 : decode cX6_doClause 16 = .ok (.invokevirtual 88, 3) := by decide +kernel
theorem dX6_doClause_19 : decode cX6_doClause 19 = .ok (.istore_n 3, 1) := by decide +kernel
theorem dX6_doClause_20 : decode cX6_doClause 20 = .ok (.aload_n 0, 1) := by decide +kernel
theorem dX6_doClause_21 : decode cX6_doClause 21 = .ok (.getfield 21, 3) := by decide +kernel
theorem dX6_doClause_24 : decode cX6_doClause 24 = .ok (.iload_n 1, 1) := by decide +kernel
theorem dX6_doClause_25 : decode cX6_doClause 25 = .ok (.iconst 2, 1) := by decide +kernel
theorem dX6_doClause_26 : decode cX6_doClause 26 = .ok (.invokevirtual 88, 3) := by decide +kernel
theorem dX6_doClause_29 : decode cX6_doClause 29 = .ok (.istore 4, 2) := by decide +kernel
theorem dX6_doClause_31 : decode cX6_doClause 31 = .ok (.aload_n 0, 1) := by decide +kernel
theorem dX6_doClause_32 : decode cX6_doClause 32 = .ok (.getfield 21, 3) := by decide +kernel
theorem dX6_doClause_35 : decode cX6_doClause 35 = .ok (.getfield 92, 3) := by decide +kernel
theorem dX6_doClause_38 : decode cX6_doClause 38 = .ok (.iload_n 1, 1) := by decide +kernel
theorem dX6_doClause_39 : decode cX6_doClause 39 = .ok (.iaload, 1) := by decide +kernel
theorem dX6_doClause_40 : decode cX6_doClause 40 = .ok (.tableswitch 91 0 3 #[32, 43, 52, 75], 32) := by decide +kernel
theorem dX6_doClause_72 : decode cX6_doClause 72 = .ok (.aload_n 0, 1) := by decide +kernel
theorem dX6_doClause_73 : decode cX6_doClause 73 = .ok (.getfield 28, 3) := by decide +kernel
theorem dX6_doClause_76 : decode cX6_doClause 76 = .ok (.iload_n 2, 1) := by decide +kernel
theorem dX6_doClause_77 : decode cX6_doClause 77 = .ok (.invokevirtual 95, 3) := by decide +kernel
theorem dX6_doClause_80 : decode cX6_doClause 80 = .ok (.goto 64, 3) := by decide +kernel
theorem dX6_doClause_83 : decode cX6_doClause 83 = .ok (.aload_n 0, 1) := by decide +kernel
theorem dX6_doClause_84 : decode cX6_doClause 84 = .ok (.iload_n 2, 1) := by decide +kernel
theorem dX6_doClause_85 : decode cX6_doClause 85 = .ok (.iload_n 3, 1) := by decide +kernel
theorem dX6_doClause_86 : decode cX6_doClause 86 = .ok (.invokevirtual 98, 3) := by decide +kernel
theorem dX6_doClause_89 : decode cX6_doClause 89 = .ok (.goto 55, 3) := by decide +kernel
theorem dX6_doClause_92 : decode cX6_doClause 92 = .ok (.aload_n 0, 1) := by decide +kernel
theorem dX6_doClause_93 : decode cX6_doClause 93 = .ok (.iload_n 2, 1) := by decide +kernel
theorem dX6_doClause_94 : decode cX6_doClause 94 = .ok (.iload_n 3, 1) := by decide +kernel
theorem dX6_doClause_95 : decode cX6_doClause 95 = .ok (.invokevirtual 98, 3) := by decide +kernel
theorem dX6_doClause_98 : decode cX6_doClause 98 = .ok (.aload_n 0, 1) := by decide +kernel
theorem dX6_doClause_99 : decode cX6_doClause 99 = .ok (.iload_n 3, 1) := by decide +kernel
theorem dX6_doClause_100 : decode cX6_doClause 100 = .ok (.iload 4, 2) := by decide +kernel
theorem dX6_doClause_102 : decode cX6_doClause 102 = .ok (.invokevirtual 98, 3) := by decide +kernel
theorem dX6_doClause_105 : decode cX6_doClause 105 = .ok (.aload_n 0, 1) := by decide +kernel
theorem dX6_doClause_106 : decode cX6_doClause 106 = .ok (.iload 4, 2) := by decide +kernel
theorem dX6_doClause_108 : decode cX6_doClause 108 = .ok (.iload_n 2, 1) := by decide +kernel
theorem dX6_doClause_109 : decode cX6_doClause 109 = .ok (.invokevirtual 98, 3) := by decide +kernel
theorem dX6_doClause_112 : decode cX6_doClause 112 = .ok (.goto 32, 3) := by decide +kernel
theorem dX6_doClause_115 : decode cX6_doClause 115 = .ok (.aload_n 0, 1) := by decide +kernel
theorem dX6_doClause_116 : decode cX6_doClause 116 = .ok (.iload_n 2, 1) := by decide +kernel
theorem dX6_doClause_117 : decode cX6_doClause 117 = .ok (.iload_n 3, 1) := by decide +kernel
theorem dX6_doClause_118 : decode cX6_doClause 118 = .ok (.invokevirtual 98, 3) := by decide +kernel
theorem dX6_doClause_121 : decode cX6_doClause 121 = .ok (.aload_n 0, 1) := by decide +kernel
theorem dX6_doClause_122 : decode cX6_doClause 122 = .ok (.iload_n 3, 1) := by decide +kernel
theorem dX6_doClause_123 : decode cX6_doClause 123 = .ok (.iload 4, 2) := by decide +kernel
theorem dX6_doClause_125 : decode cX6_doClause 125 = .ok (.invokevirtual 98, 3) := by decide +kernel
theorem dX6_doClause_128 : decode cX6_doClause 128 = .ok (.goto 16, 3) := by decide +kernel
theorem dX6_doClause_131 : decode cX6_doClause 131 = .ok (.aload_n 0, 1) := by decide +kernel
theorem dX6_doClause_132 : decode cX6_doClause 132 = .ok (.iload_n 2, 1) := by decide +kernel
theorem dX6_doClause_133 : decode cX6_doClause 133 = .ok (.iload_n 3, 1) := by decide +kernel
theorem dX6_doClause_134 : decode cX6_doClause 134 = .ok (.invokevirtual 98, 3) := by decide +kernel
theorem dX6_doClause_137 : decode cX6_doClause 137 = .ok (.aload_n 0, 1) := by decide +kernel
theorem dX6_doClause_138 : decode cX6_doClause 138 = .ok (.iload_n 2, 1) := by decide +kernel
theorem dX6_doClause_139 : decode cX6_doClause 139 = .ok (.iload 4, 2) := by decide +kernel
theorem dX6_doClause_141 : decode cX6_doClause 141 = .ok (.invokevirtual 98, 3) := by decide +kernel
theorem dX6_doClause_144 : decode cX6_doClause 144 = .ok (.return_, 1) := by decide +kernel
theorem dX6_putIfNew_0 : decode cX6_putIfNew 0 = .ok (.aload_n 0, 1) := by decide +kernel
theorem dX6_putIfNew_1 : decode cX6_putIfNew 1 = .ok (.getfield 28, 3) := by decide +kernel
theorem dX6_putIfNew_4 : decode cX6_putIfNew 4 = .ok (.iload_n 1, 1) := by decide +kernel
theorem dX6_putIfNew_5 : decode cX6_putIfNew 5 = .ok (.iload_n 2, 1) := by decide +kernel
theorem dX6_putIfNew_6 : decode cX6_putIfNew 6 = .ok (.invokevirtual 102, 3) := by decide +kernel
theorem dX6_putIfNew_9 : decode cX6_putIfNew 9 = .ok (.ifCond .ne 24, 3) := by decide +kernel
theorem dX6_putIfNew_12 : decode cX6_putIfNew 12 = .ok (.aload_n 0, 1) := by decide +kernel
theorem dX6_putIfNew_13 : decode cX6_putIfNew 13 = .ok (.getfield 28, 3) := by decide +kernel
theorem dX6_putIfNew_16 : decode cX6_putIfNew 16 = .ok (.invokevirtual 106, 3) := by decide +kernel
theorem dX6_putIfNew_19 : decode cX6_putIfNew 19 = .ok (.bipush 40, 2) := by decide +kernel
theorem dX6_putIfNew_21 : decode cX6_putIfNew 21 = .ok (.if_icmp .ge 12, 3) := by decide +kernel
theorem dX6_putIfNew_24 : decode cX6_putIfNew 24 = .ok (.aload_n 0, 1) := by decide +kernel
theorem dX6_putIfNew_25 : decode cX6_putIfNew 25 = .ok (.getfield 28, 3) := by decide +kernel
theorem dX6_putIfNew_28 : decode cX6_putIfNew 28 = .ok (.iload_n 1, 1) := by decide +kernel
theorem dX6_putIfNew_29 : decode cX6_putIfNew 29 = .ok (.iload_n 2, 1) := by decide +kernel
theorem dX6_putIfNew_30 : decode cX6_putIfNew 30 = .ok (.invokevirtual 110, 3) := by decide +kernel
theorem dX6_putIfNew_33 : decode cX6_putIfNew 33 = .ok (.return_, 1) := by decide +kernel
theorem dX6_put_0 : decode cX6_put 0 = .ok (.aload_n 0, 1) := by decide +kernel
theorem dX6_put_1 : decode cX6_put 1 = .ok (.iload_n 1, 1) := by decide +kernel
theorem dX6_put_2 : decode cX6_put 2 = .ok (.iload_n 2, 1) := by decide +kernel
theorem dX6_put_3 : decode cX6_put 3 = .ok (.invokevirtual 113, 3) := by decide +kernel
theorem dX6_put_6 : decode cX6_put 6 = .ok (.ifCond .ne 6, 3) := by decide +kernel
theorem dX6_put_9 : decode cX6_put 9 = .ok (.bipush (-2), 2) := by decide +kernel
theorem dX6_put_11 : decode cX6_put 11 = .ok (.ireturn, 1) := by decide +kernel
theorem dX6_put_12 : decode cX6_put 12 = .ok (.aload_n 0, 1) := by decide +kernel
theorem dX6_put_13 : decode cX6_put 13 = .ok (.getfield 28, 3) := by decide +kernel
theorem dX6_put_16 : decode cX6_put 16 = .ok (.iload_n 1, 1) := by decide +kernel
theorem dX6_put_17 : decode cX6_put 17 = .ok (.iload_n 2, 1) := by decide +kernel
theorem dX6_put_18 : decode cX6_put 18 = .ok (.invokevirtual 102, 3) := by decide +kernel
theorem dX6_put_21 : decode cX6_put 21 = .ok (.ifCond .eq 6, 3) := by decide +kernel
theorem dX6_put_24 : decode cX6_put 24 = .ok (.bipush (-4), 2) := by decide +kernel
theorem dX6_put_26 : decode cX6_put 26 = .ok (.ireturn, 1) := by decide +kernel
theorem dX6_put_27 : decode cX6_put 27 = .ok (.aload_n 0, 1) := by decide +kernel
theorem dX6_put_28 : decode cX6_put 28 = .ok (.getfield 28, 3) := by decide +kernel
theorem dX6_put_31 : decode cX6_put 31 = .ok (.invokevirtual 106, 3) := by decide +kernel
theorem dX6_put_34 : decode cX6_put 34 = .ok (.bipush 40, 2) := by decide +kernel
theorem dX6_put_36 : decode cX6_put 36 = .ok (.if_icmp .lt 6, 3) := by decide +kernel
theorem dX6_put_39 : decode cX6_put 39 = .ok (.bipush (-5), 2) := by decide +kernel
theorem dX6_put_41 : decode cX6_put 41 = .ok (.ireturn, 1) := by decide +kernel
theorem dX6_put_42 : decode cX6_put 42 = .ok (.aload_n 0, 1) := by decide +kernel
theorem dX6_put_43 : decode cX6_put 43 = .ok (.getfield 35, 3) := by decide +kernel
theorem dX6_put_46 : decode cX6_put 46 = .ok (.aload_n 0, 1) := by decide +kernel
theorem dX6_put_47 : decode cX6_put 47 = .ok (.getfield 28, 3) := by decide +kernel
theorem dX6_put_50 : decode cX6_put 50 = .ok (.invokevirtual 116, 3) := by decide +kernel
theorem dX6_put_53 : decode cX6_put 53 = .ok (.aload_n 0, 1) := by decide +kernel
theorem dX6_put_54 : decode cX6_put 54 = .ok (.getfield 28, 3) := by decide +kernel
theorem dX6_put_57 : decode cX6_put 57 = .ok (.invokevirtual 120, 3) := by decide +kernel
theorem dX6_put_60 : decode cX6_put 60 = .ok (.istore_n 3, 1) := by decide +kernel
theorem dX6_put_61 : decode cX6_put 61 = .ok (.aload_n 0, 1) := by decide +kernel
theorem dX6_put_62 : decode cX6_put 62 = .ok (.getfield 28, 3) := by decide +kernel
theorem dX6_put_65 : decode cX6_put 65 = .ok (.iload_n 1, 1) := by decide +kernel
theorem dX6_put_66 : decode cX6_put 66 = .ok (.iload_n 2, 1) := by decide +kernel
theorem dX6_put_67 : decode cX6_put 67 = .ok (.invokevirtual 110, 3) := by decide +kernel
theorem dX6_put_70 : decode cX6_put 70 = .ok (.aload_n 0, 1) := by decide +kernel
theorem dX6_put_71 : decode cX6_put 71 = .ok (.getfield 28, 3) := by decide +kernel
theorem dX6_put_74 : decode cX6_put 74 = .ok (.invokevirtual 120, 3) := by decide +kernel
theorem dX6_put_77 : decode cX6_put 77 = .ok (.iload_n 3, 1) := by decide +kernel
theorem dX6_put_78 : decode cX6_put 78 = .ok (.isub, 1) := by decide +kernel
theorem dX6_put_79 : decode cX6_put 79 = .ok (.ireturn, 1) := by decide +kernel
theorem dX6_take_0 : decode cX6_take 0 = .ok (.aload_n 0, 1) := by decide +kernel
theorem dX6_take_1 : decode cX6_take 1 = .ok (.getfield 28, 3) := by decide +kernel
theorem dX6_take_4 : decode cX6_take 4 = .ok (.invokevirtual 123, 3) := by decide +kernel
theorem dX6_take_7 : decode cX6_take 7 = .ok (.istore_n 3, 1) := by decide +kernel
theorem dX6_take_8 : decode cX6_take 8 = .ok (.iload_n 1, 1) := by decide +kernel
theorem dX6_take_9 : decode cX6_take 9 = .ok (.iload_n 3, 1) := by decide +kernel
theorem dX6_take_10 : decode cX6_take 10 = .ok (.iconst (-1), 1) := by decide +kernel
theorem dX6_take_11 : decode cX6_take 11 = .ok (.ixor, 1) := by decide +kernel
theorem dX6_take_12 : decode cX6_take 12 = .ok (.iand, 1) := by decide +kernel
theorem dX6_take_13 : decode cX6_take 13 = .ok (.ifCond .ne 11, 3) := by decide +kernel
theorem dX6_take_16 : decode cX6_take 16 = .ok (.iload_n 2, 1) := by decide +kernel
theorem dX6_take_17 : decode cX6_take 17 = .ok (.iload_n 3, 1) := by decide +kernel
theorem dX6_take_18 : decode cX6_take 18 = .ok (.iconst (-1), 1) := by decide +kernel
theorem dX6_take_19 : decode cX6_take 19 = .ok (.ixor, 1) := by decide +kernel
theorem dX6_take_20 : decode cX6_take 20 = .ok (.iand, 1) := by decide +kernel
theorem dX6_take_21 : decode cX6_take 21 = .ok (.ifCond .eq 6, 3) := by decide +kernel
theorem dX6_take_24 : decode cX6_take 24 = .ok (.bipush (-3), 2) := by decide +kernel
theorem dX6_take_26 : decode cX6_take 26 = .ok (.ireturn, 1) := by decide +kernel
theorem dX6_take_27 : decode cX6_take 27 = .ok (.aload_n 0, 1) := by decide +kernel
theorem dX6_take_28 : decode cX6_take 28 = .ok (.getfield 28, 3) := by decide +kernel
theorem dX6_take_31 : decode cX6_take 31 = .ok (.iload_n 1, 1) := by decide +kernel
theorem dX6_take_32 : decode cX6_take 32 = .ok (.iload_n 2, 1) := by decide +kernel
theorem dX6_take_33 : decode cX6_take 33 = .ok (.invokevirtual 126, 3) := by decide +kernel
theorem dX6_take_36 : decode cX6_take 36 = .ok (.istore 4, 2) := by decide +kernel
theorem dX6_take_38 : decode cX6_take 38 = .ok (.iload 4, 2) := by decide +kernel
theorem dX6_take_40 : decode cX6_take 40 = .ok (.ifCond .ne 6, 3) := by decide +kernel
theorem dX6_take_43 : decode cX6_take 43 = .ok (.bipush (-4), 2) := by decide +kernel
theorem dX6_take_45 : decode cX6_take 45 = .ok (.ireturn, 1) := by decide +kernel
theorem dX6_take_46 : decode cX6_take 46 = .ok (.aload_n 0, 1) := by decide +kernel
theorem dX6_take_47 : decode cX6_take 47 = .ok (.getfield 35, 3) := by decide +kernel
theorem dX6_take_50 : decode cX6_take 50 = .ok (.aload_n 0, 1) := by decide +kernel
theorem dX6_take_51 : decode cX6_take 51 = .ok (.getfield 28, 3) := by decide +kernel
theorem dX6_take_54 : decode cX6_take 54 = .ok (.invokevirtual 116, 3) := by decide +kernel
theorem dX6_take_57 : decode cX6_take 57 = .ok (.aload_n 0, 1) := by decide +kernel
theorem dX6_take_58 : decode cX6_take 58 = .ok (.getfield 28, 3) := by decide +kernel
theorem dX6_take_61 : decode cX6_take 61 = .ok (.iload_n 1, 1) := by decide +kernel
theorem dX6_take_62 : decode cX6_take 62 = .ok (.iload_n 2, 1) := by decide +kernel
theorem dX6_take_63 : decode cX6_take 63 = .ok (.invokevirtual 129, 3) := by decide +kernel
theorem dX6_take_66 : decode cX6_take 66 = .ok (.iload 4, 2) := by decide +kernel
theorem dX6_take_68 : decode cX6_take 68 = .ok (.ireturn, 1) := by decide +kernel
theorem dX6_clear_0 : decode cX6_clear 0 = .ok (.aload_n 0, 1) := by decide +kernel
theorem dX6_clear_1 : decode cX6_clear 1 = .ok (.getfield 28, 3) := by decide +kernel
theorem dX6_clear_4 : decode cX6_clear 4 = .ok (.getfield 132, 3) := by decide +kernel
theorem dX6_clear_7 : decode cX6_clear 7 = .ok (.istore_n 1, 1) := by decide +kernel
theorem dX6_clear_8 : decode cX6_clear 8 = .ok (.iload_n 1, 1) := by decide +kernel
theorem dX6_clear_9 : decode cX6_clear 9 = .ok (.ifCond .ne 6, 3) := by decide +kernel
theorem dX6_clear_12 : decode cX6_clear 12 = .ok (.bipush (-4), 2) := by decide +kernel
theorem dX6_clear_14 : decode cX6_clear 14 = .ok (.ireturn, 1) := by decide +kernel
theorem dX6_clear_15 : decode cX6_clear 15 = .ok (.aload_n 0, 1) := by decide +kernel
theorem dX6_clear_16 : decode cX6_clear 16 = .ok (.getfield 35, 3) := by decide +kernel
theorem dX6_clear_19 : decode cX6_clear 19 = .ok (.aload_n 0, 1) := by decide +kernel
theorem dX6_clear_20 : decode cX6_clear 20 = .ok (.getfield 28, 3) := by decide +kernel
theorem dX6_clear_23 : decode cX6_clear 23 = .ok (.invokevirtual 116, 3) := by decide +kernel
theorem dX6_clear_26 : decode cX6_clear 26 = .ok (.aload_n 0, 1) := by decide +kernel
theorem dX6_clear_27 : decode cX6_clear 27 = .ok (.getfield 28, 3) := by decide +kernel
theorem dX6_clear_30 : decode cX6_clear 30 = .ok (.iconst 0, 1) := by decide +kernel
theorem dX6_clear_31 : decode cX6_clear 31 = .ok (.putfield 132, 3) := by decide +kernel
theorem dX6_clear_34 : decode cX6_clear 34 = .ok (.iload_n 1, 1) := by decide +kernel
theorem dX6_clear_35 : decode cX6_clear 35 = .ok (.ireturn, 1) := by decide +kernel
theorem dX6_undo_0 : decode cX6_undo 0 = .ok (.aload_n 0, 1) := by decide +kernel
theorem dX6_undo_1 : decode cX6_undo 1 = .ok (.getfield 35, 3) := by decide +kernel
theorem dX6_undo_4 : decode cX6_undo 4 = .ok (.getfield 135, 3) := by decide +kernel
theorem dX6_undo_7 : decode cX6_undo 7 = .ok (.ifCond .ne 6, 3) := by decide +kernel
theorem dX6_undo_10 : decode cX6_undo 10 = .ok (.bipush (-4), 2) := by decide +kernel
theorem dX6_undo_12 : decode cX6_undo 12 = .ok (.ireturn, 1) := by decide +kernel
theorem dX6_undo_13 : decode cX6_undo 13 = .ok (.aload_n 0, 1) := by decide +kernel
theorem dX6_undo_14 : decode cX6_undo 14 = .ok (.getfield 35, 3) := by decide +kernel
theorem dX6_undo_17 : decode cX6_undo 17 = .ok (.aload_n 0, 1) := by decide +kernel
theorem dX6_undo_18 : decode cX6_undo 18 = .ok (.getfield 28, 3) := by decide +kernel
theorem dX6_undo_21 : decode cX6_undo 21 = .ok (.invokevirtual 138, 3) := by decide +kernel
theorem dX6_undo_24 : decode cX6_undo 24 = .ok (.aload_n 0, 1) := by decide +kernel
theorem dX6_undo_25 : decode cX6_undo 25 = .ok (.getfield 35, 3) := by decide +kernel
theorem dX6_undo_28 : decode cX6_undo 28 = .ok (.getfield 135, 3) := by decide +kernel
theorem dX6_undo_31 : decode cX6_undo 31 = .ok (.ireturn, 1) := by decide +kernel
theorem dX6_keep_0 : decode cX6_keep 0 = .ok (.iload_n 1, 1) := by decide +kernel
theorem dX6_keep_1 : decode cX6_keep 1 = .ok (.ifCond .lt 8, 3) := by decide +kernel
theorem dX6_keep_4 : decode cX6_keep 4 = .ok (.iload_n 1, 1) := by decide +kernel
theorem dX6_keep_5 : decode cX6_keep 5 = .ok (.iconst 2, 1) := by decide +kernel
theorem dX6_keep_6 : decode cX6_keep 6 = .ok (.if_icmp .lt 6, 3) := by decide +kernel
theorem dX6_keep_9 : decode cX6_keep 9 = .ok (.bipush (-2), 2) := by decide +kernel
theorem dX6_keep_11 : decode cX6_keep 11 = .ok (.ireturn, 1) := by decide +kernel
theorem dX6_keep_12 : decode cX6_keep 12 = .ok (.aload_n 0, 1) := by decide +kernel
theorem dX6_keep_13 : decode cX6_keep 13 = .ok (.getfield 39, 3) := by decide +kernel
theorem dX6_keep_16 : decode cX6_keep 16 = .ok (.iload_n 1, 1) := by decide +kernel
theorem dX6_keep_17 : decode cX6_keep 17 = .ok (.aaload, 1) := by decide +kernel
theorem dX6_keep_18 : decode cX6_keep 18 = .ok (.aload_n 0, 1) := by decide +kernel
theorem dX6_keep_19 : decode cX6_keep 19 = .ok (.getfield 28, 3) := by decide +kernel
theorem dX6_keep_22 : decode cX6_keep 22 = .ok (.invokevirtual 141, 3) := by decide +kernel
theorem dX6_keep_25 : decode cX6_keep 25 = .ok (.aload_n 0, 1) := by decide +kernel
theorem dX6_keep_26 : decode cX6_keep 26 = .ok (.dup, 1) := by decide +kernel
theorem dX6_keep_27 : decode cX6_keep 27 = .ok (.getfield 43, 3) := by decide +kernel
theorem dX6_keep_30 : decode cX6_keep 30 = .ok (.iconst 1, 1) := by decide +kernel
theorem dX6_keep_31 : decode cX6_keep 31 = .ok (.iload_n 1, 1) := by decide +kernel
theorem dX6_keep_32 : decode cX6_keep 32 = .ok (.ishl, 1) := by decide +kernel
theorem dX6_keep_33 : decode cX6_keep 33 = .ok (.ior, 1) := by decide +kernel
theorem dX6_keep_34 : decode cX6_keep 34 = .ok (.putfield 43, 3) := by decide +kernel
theorem dX6_keep_37 : decode cX6_keep 37 = .ok (.aload_n 0, 1) := by decide +kernel
theorem dX6_keep_38 : decode cX6_keep 38 = .ok (.getfield 28, 3) := by decide +kernel
theorem dX6_keep_41 : decode cX6_keep 41 = .ok (.invokevirtual 106, 3) := by decide +kernel
theorem dX6_keep_44 : decode cX6_keep 44 = .ok (.ireturn, 1) := by decide +kernel
theorem dX6_back_0 : decode cX6_back 0 = .ok (.iload_n 1, 1) := by decide +kernel
theorem dX6_back_1 : decode cX6_back 1 = .ok (.ifCond .lt 8, 3) := by decide +kernel
theorem dX6_back_4 : decode cX6_back 4 = .ok (.iload_n 1, 1) := by decide +kernel
theorem dX6_back_5 : decode cX6_back 5 = .ok (.iconst 2, 1) := by decide +kernel
theorem dX6_back_6 : decode cX6_back 6 = .ok (.if_icmp .lt 6, 3) := by decide +kernel
theorem dX6_back_9 : decode cX6_back 9 = .ok (.bipush (-2), 2) := by decide +kernel
theorem dX6_back_11 : decode cX6_back 11 = .ok (.ireturn, 1) := by decide +kernel
theorem dX6_back_12 : decode cX6_back 12 = .ok (.aload_n 0, 1) := by decide +kernel
theorem dX6_back_13 : decode cX6_back 13 = .ok (.getfield 43, 3) := by decide +kernel
theorem dX6_back_16 : decode cX6_back 16 = .ok (.iload_n 1, 1) := by decide +kernel
theorem dX6_back_17 : decode cX6_back 17 = .ok (.invokestatic 144, 3) := by decide +kernel
theorem dX6_back_20 : decode cX6_back 20 = .ok (.ifCond .ne 6, 3) := by decide +kernel
theorem dX6_back_23 : decode cX6_back 23 = .ok (.bipush (-4), 2) := by decide +kernel
theorem dX6_back_25 : decode cX6_back 25 = .ok (.ireturn, 1) := by decide +kernel
theorem dX6_back_26 : decode cX6_back 26 = .ok (.aload_n 0, 1) := by decide +kernel
theorem dX6_back_27 : decode cX6_back 27 = .ok (.getfield 28, 3) := by decide +kernel
theorem dX6_back_30 : decode cX6_back 30 = .ok (.aload_n 0, 1) := by decide +kernel
theorem dX6_back_31 : decode cX6_back 31 = .ok (.getfield 39, 3) := by decide +kernel
theorem dX6_back_34 : decode cX6_back 34 = .ok (.iload_n 1, 1) := by decide +kernel
theorem dX6_back_35 : decode cX6_back 35 = .ok (.aaload, 1) := by decide +kernel
theorem dX6_back_36 : decode cX6_back 36 = .ok (.invokevirtual 141, 3) := by decide +kernel
theorem dX6_back_39 : decode cX6_back 39 = .ok (.aload_n 0, 1) := by decide +kernel
theorem dX6_back_40 : decode cX6_back 40 = .ok (.getfield 35, 3) := by decide +kernel
theorem dX6_back_43 : decode cX6_back 43 = .ok (.invokevirtual 82, 3) := by decide +kernel
theorem dX6_back_46 : decode cX6_back 46 = .ok (.aload_n 0, 1) := by decide +kernel
theorem dX6_back_47 : decode cX6_back 47 = .ok (.getfield 28, 3) := by decide +kernel
theorem dX6_back_50 : decode cX6_back 50 = .ok (.invokevirtual 106, 3) := by decide +kernel
theorem dX6_back_53 : decode cX6_back 53 = .ok (.ireturn, 1) := by decide +kernel
theorem dX6_arc_0 : decode cX6_arc 0 = .ok (.aload_n 0, 1) := by decide +kernel
theorem dX6_arc_1 : decode cX6_arc 1 = .ok (.iload_n 1, 1) := by decide +kernel
theorem dX6_arc_2 : decode cX6_arc 2 = .ok (.iload_n 2, 1) := by decide +kernel
theorem dX6_arc_3 : decode cX6_arc 3 = .ok (.invokevirtual 113, 3) := by decide +kernel
theorem dX6_arc_6 : decode cX6_arc 6 = .ok (.ifCond .ne 6, 3) := by decide +kernel
theorem dX6_arc_9 : decode cX6_arc 9 = .ok (.bipush (-2), 2) := by decide +kernel
theorem dX6_arc_11 : decode cX6_arc 11 = .ok (.ireturn, 1) := by decide +kernel
theorem dX6_arc_12 : decode cX6_arc 12 = .ok (.aload_n 0, 1) := by decide +kernel
theorem dX6_arc_13 : decode cX6_arc 13 = .ok (.getfield 28, 3) := by decide +kernel
theorem dX6_arc_16 : decode cX6_arc 16 = .ok (.iload_n 1, 1) := by decide +kernel
theorem dX6_arc_17 : decode cX6_arc 17 = .ok (.iload_n 2, 1) := by decide +kernel
theorem dX6_arc_18 : decode cX6_arc 18 = .ok (.invokevirtual 102, 3) := by decide +kernel
theorem dX6_arc_21 : decode cX6_arc 21 = .ok (.ifCond .eq 7, 3) := by decide +kernel
theorem dX6_arc_24 : decode cX6_arc 24 = .ok (.iconst 1, 1) := by decide +kernel
theorem dX6_arc_25 : decode cX6_arc 25 = .ok (.goto 4, 3) := by decide +kernel
theorem dX6_arc_28 : decode cX6_arc 28 = .ok (.iconst 0, 1) := by decide +kernel
theorem dX6_arc_29 : decode cX6_arc 29 = .ok (.ireturn, 1) := by decide +kernel
theorem dX6_reaches_0 : decode cX6_reaches 0 = .ok (.aload_n 0, 1) := by decide +kernel
theorem dX6_reaches_1 : decode cX6_reaches 1 = .ok (.iload_n 1, 1) := by decide +kernel
theorem dX6_reaches_2 : decode cX6_reaches 2 = .ok (.invokevirtual 147, 3) := by decide +kernel
theorem dX6_reaches_5 : decode cX6_reaches 5 = .ok (.ifCond .eq 11, 3) := by decide +kernel
theorem dX6_reaches_8 : decode cX6_reaches 8 = .ok (.aload_n 0, 1) := by decide +kernel
theorem dX6_reaches_9 : decode cX6_reaches 9 = .ok (.iload_n 2, 1) := by decide +kernel
theorem dX6_reaches_10 : decode cX6_reaches 10 = .ok (.invokevirtual 147, 3) := by decide +kernel
theorem dX6_reaches_13 : decode cX6_reaches 13 = .ok (.ifCond .ne 6, 3) := by decide +kernel
theorem dX6_reaches_16 : decode cX6_reaches 16 = .ok (.bipush (-2), 2) := by decide +kernel
theorem dX6_reaches_18 : decode cX6_reaches 18 = .ok (.ireturn, 1) := by decide +kernel
theorem dX6_reaches_19 : decode cX6_reaches 19 = .ok (.aload_n 0, 1) := by decide +kernel
theorem dX6_reaches_20 : decode cX6_reaches 20 = .ok (.getfield 28, 3) := by decide +kernel
theorem dX6_reaches_23 : decode cX6_reaches 23 = .ok (.iload_n 1, 1) := by decide +kernel
theorem dX6_reaches_24 : decode cX6_reaches 24 = .ok (.iload_n 2, 1) := by decide +kernel
theorem dX6_reaches_25 : decode cX6_reaches 25 = .ok (.invokevirtual 151, 3) := by decide +kernel
theorem dX6_reaches_28 : decode cX6_reaches 28 = .ok (.ifCond .eq 7, 3) := by decide +kernel
theorem dX6_reaches_31 : decode cX6_reaches 31 = .ok (.iconst 1, 1) := by decide +kernel
theorem dX6_reaches_32 : decode cX6_reaches 32 = .ok (.goto 4, 3) := by decide +kernel
theorem dX6_reaches_35 : decode cX6_reaches 35 = .ok (.iconst 0, 1) := by decide +kernel
theorem dX6_reaches_36 : decode cX6_reaches 36 = .ok (.ireturn, 1) := by decide +kernel
theorem dX6_above_0 : decode cX6_above 0 = .ok (.aload_n 0, 1) := by decide +kernel
theorem dX6_above_1 : decode cX6_above 1 = .ok (.iload_n 1, 1) := by decide +kernel
theorem dX6_above_2 : decode cX6_above 2 = .ok (.invokevirtual 147, 3) := by decide +kernel
theorem dX6_above_5 : decode cX6_above 5 = .ok (.ifCond .eq 11, 3) := by decide +kernel
theorem dX6_above_8 : decode cX6_above 8 = .ok (.aload_n 0, 1) := by decide +kernel
theorem dX6_above_9 : decode cX6_above 9 = .ok (.iload_n 2, 1) := by decide +kernel
theorem dX6_above_10 : decode cX6_above 10 = .ok (.invokevirtual 147, 3) := by decide +kernel
theorem dX6_above_13 : decode cX6_above 13 = .ok (.ifCond .ne 6, 3) := by decide +kernel
theorem dX6_above_16 : decode cX6_above 16 = .ok (.bipush (-2), 2) := by decide +kernel
theorem dX6_above_18 : decode cX6_above 18 = .ok (.ireturn, 1) := by decide +kernel
theorem dX6_above_19 : decode cX6_above 19 = .ok (.aload_n 0, 1) := by decide +kernel
theorem dX6_above_20 : decode cX6_above 20 = .ok (.getfield 28, 3) := by decide +kernel
theorem dX6_above_23 : decode cX6_above 23 = .ok (.iload_n 1, 1) := by decide +kernel
theorem dX6_above_24 : decode cX6_above 24 = .ok (.iload_n 2, 1) := by decide +kernel
theorem dX6_above_25 : decode cX6_above 25 = .ok (.invokevirtual 154, 3) := by decide +kernel
theorem dX6_above_28 : decode cX6_above 28 = .ok (.ireturn, 1) := by decide +kernel
theorem dX6_way_0 : decode cX6_way 0 = .ok (.aload_n 0, 1) := by decide +kernel
theorem dX6_way_1 : decode cX6_way 1 = .ok (.iload_n 1, 1) := by decide +kernel
theorem dX6_way_2 : decode cX6_way 2 = .ok (.invokevirtual 147, 3) := by decide +kernel
theorem dX6_way_5 : decode cX6_way 5 = .ok (.ifCond .eq 11, 3) := by decide +kernel
theorem dX6_way_8 : decode cX6_way 8 = .ok (.aload_n 0, 1) := by decide +kernel
theorem dX6_way_9 : decode cX6_way 9 = .ok (.iload_n 2, 1) := by decide +kernel
theorem dX6_way_10 : decode cX6_way 10 = .ok (.invokevirtual 147, 3) := by decide +kernel
theorem dX6_way_13 : decode cX6_way 13 = .ok (.ifCond .ne 6, 3) := by decide +kernel
theorem dX6_way_16 : decode cX6_way 16 = .ok (.bipush (-2), 2) := by decide +kernel
theorem dX6_way_18 : decode cX6_way 18 = .ok (.ireturn, 1) := by decide +kernel
theorem dX6_way_19 : decode cX6_way 19 = .ok (.iload_n 3, 1) := by decide +kernel
theorem dX6_way_20 : decode cX6_way 20 = .ok (.ifCond .ge 6, 3) := by decide +kernel
theorem dX6_way_23 : decode cX6_way 23 = .ok (.bipush (-3), 2) := by decide +kernel
theorem dX6_way_25 : decode cX6_way 25 = .ok (.ireturn, 1) := by decide +kernel
theorem dX6_way_26 : decode cX6_way 26 = .ok (.aload_n 0, 1) := by decide +kernel
theorem dX6_way_27 : decode cX6_way 27 = .ok (.getfield 28, 3) := by decide +kernel
theorem dX6_way_30 : decode cX6_way 30 = .ok (.iload_n 1, 1) := by decide +kernel
theorem dX6_way_31 : decode cX6_way 31 = .ok (.iload_n 2, 1) := by decide +kernel
theorem dX6_way_32 : decode cX6_way 32 = .ok (.invokevirtual 151, 3) := by decide +kernel
theorem dX6_way_35 : decode cX6_way 35 = .ok (.ifCond .ne 5, 3) := by decide +kernel
theorem dX6_way_38 : decode cX6_way 38 = .ok (.iconst (-1), 1) := by decide +kernel
theorem dX6_way_39 : decode cX6_way 39 = .ok (.ireturn, 1) := by decide +kernel
theorem dX6_way_40 : decode cX6_way 40 = .ok (.aload_n 0, 1) := by decide +kernel
theorem dX6_way_41 : decode cX6_way 41 = .ok (.getfield 28, 3) := by decide +kernel
theorem dX6_way_44 : decode cX6_way 44 = .ok (.iload_n 1, 1) := by decide +kernel
theorem dX6_way_45 : decode cX6_way 45 = .ok (.iload_n 2, 1) := by decide +kernel
theorem dX6_way_46 : decode cX6_way 46 = .ok (.invokevirtual 157, 3) := by decide +kernel
theorem dX6_way_49 : decode cX6_way 49 = .ok (.istore 4, 2) := by decide +kernel
theorem dX6_way_51 : decode cX6_way 51 = .ok (.iload_n 3, 1) := by decide +kernel
theorem dX6_way_52 : decode cX6_way 52 = .ok (.iload 4, 2) := by decide +kernel
theorem dX6_way_54 : decode cX6_way 54 = .ok (.if_icmp .le 7, 3) := by decide +kernel
theorem dX6_way_57 : decode cX6_way 57 = .ok (.iconst (-1), 1) := by decide +kernel
theorem dX6_way_58 : decode cX6_way 58 = .ok (.goto 16, 3) := by decide +kernel
theorem dX6_way_61 : decode cX6_way 61 = .ok (.aload_n 0, 1) := by decide +kernel
theorem dX6_way_62 : decode cX6_way 62 = .ok (.getfield 28, 3) := by decide +kernel
theorem dX6_way_65 : decode cX6_way 65 = .ok (.iload_n 1, 1) := by decide +kernel
theorem dX6_way_66 : decode cX6_way 66 = .ok (.iload_n 2, 1) := by decide +kernel
theorem dX6_way_67 : decode cX6_way 67 = .ok (.iload 4, 2) := by decide +kernel
theorem dX6_way_69 : decode cX6_way 69 = .ok (.iload_n 3, 1) := by decide +kernel
theorem dX6_way_70 : decode cX6_way 70 = .ok (.isub, 1) := by decide +kernel
theorem dX6_way_71 : decode cX6_way 71 = .ok (.invokevirtual 160, 3) := by decide +kernel
theorem dX6_way_74 : decode cX6_way 74 = .ok (.ireturn, 1) := by decide +kernel
theorem dX6_around_0 : decode cX6_around 0 = .ok (.aload_n 0, 1) := by decide +kernel
theorem dX6_around_1 : decode cX6_around 1 = .ok (.iload_n 1, 1) := by decide +kernel
theorem dX6_around_2 : decode cX6_around 2 = .ok (.invokevirtual 147, 3) := by decide +kernel
theorem dX6_around_5 : decode cX6_around 5 = .ok (.ifCond .ne 6, 3) := by decide +kernel
theorem dX6_around_8 : decode cX6_around 8 = .ok (.bipush (-2), 2) := by decide +kernel
theorem dX6_around_10 : decode cX6_around 10 = .ok (.ireturn, 1) := by decide +kernel
theorem dX6_around_11 : decode cX6_around 11 = .ok (.iload_n 2, 1) := by decide +kernel
theorem dX6_around_12 : decode cX6_around 12 = .ok (.tableswitch 56 0 2 #[28, 38, 47], 28) := by decide +kernel
theorem dX6_around_40 : decode cX6_around 40 = .ok (.aload_n 0, 1) := by decide +kernel
theorem dX6_around_41 : decode cX6_around 41 = .ok (.getfield 28, 3) := by decide +kernel
theorem dX6_around_44 : decode cX6_around 44 = .ok (.getfield 164, 3) := by decide +kernel
theorem dX6_around_47 : decode cX6_around 47 = .ok (.iload_n 1, 1) := by decide +kernel
theorem dX6_around_48 : decode cX6_around 48 = .ok (.iaload, 1) := by decide +kernel
theorem dX6_around_49 : decode cX6_around 49 = .ok (.ireturn, 1) := by decide +kernel
theorem dX6_around_50 : decode cX6_around 50 = .ok (.aload_n 0, 1) := by decide +kernel
theorem dX6_around_51 : decode cX6_around 51 = .ok (.getfield 28, 3) := by decide +kernel
theorem dX6_around_54 : decode cX6_around 54 = .ok (.iload_n 1, 1) := by decide +kernel
theorem dX6_around_55 : decode cX6_around 55 = .ok (.invokevirtual 167, 3) := by decide +kernel
theorem dX6_around_58 : decode cX6_around 58 = .ok (.ireturn, 1) := by decide +kernel
theorem dX6_around_59 : decode cX6_around 59 = .ok (.aload_n 0, 1) := by decide +kernel
theorem dX6_around_60 : decode cX6_around 60 = .ok (.getfield 28, 3) := by decide +kernel
theorem dX6_around_63 : decode cX6_around 63 = .ok (.iload_n 1, 1) := by decide +kernel
theorem dX6_around_64 : decode cX6_around 64 = .ok (.invokevirtual 170, 3) := by decide +kernel
theorem dX6_around_67 : decode cX6_around 67 = .ok (.ireturn, 1) := by decide +kernel
theorem dX6_around_68 : decode cX6_around 68 = .ok (.bipush (-3), 2) := by decide +kernel
theorem dX6_around_70 : decode cX6_around 70 = .ok (.ireturn, 1) := by decide +kernel
theorem dX6_needless_0 : decode cX6_needless 0 = .ok (.aload_n 0, 1) := by decide +kernel
theorem dX6_needless_1 : decode cX6_needless 1 = .ok (.iload_n 1, 1) := by decide +kernel
theorem dX6_needless_2 : decode cX6_needless 2 = .ok (.iload_n 2, 1) := by decide +kernel
theorem dX6_needless_3 : decode cX6_needless 3 = .ok (.invokevirtual 173, 3) := by decide +kernel
theorem dX6_needless_6 : decode cX6_needless 6 = .ok (.ifCond .ne 6, 3) := by decide +kernel
theorem dX6_needless_9 : decode cX6_needless 9 = .ok (.bipush (-2), 2) := by decide +kernel
theorem dX6_needless_11 : decode cX6_needless 11 = .ok (.ireturn, 1) := by decide +kernel
theorem dX6_needless_12 : decode cX6_needless 12 = .ok (.aload_n 0, 1) := by decide +kernel
theorem dX6_needless_13 : decode cX6_needless 13 = .ok (.getfield 28, 3) := by decide +kernel
theorem dX6_needless_16 : decode cX6_needless 16 = .ok (.iload_n 1, 1) := by decide +kernel
theorem dX6_needless_17 : decode cX6_needless 17 = .ok (.iload_n 2, 1) := by decide +kernel
theorem dX6_needless_18 : decode cX6_needless 18 = .ok (.invokevirtual 176, 3) := by decide +kernel
theorem dX6_needless_21 : decode cX6_needless 21 = .ok (.ifCond .eq 7, 3) := by decide +kernel
theorem dX6_needless_24 : decode cX6_needless 24 = .ok (.iconst 1, 1) := by decide +kernel
theorem dX6_needless_25 : decode cX6_needless 25 = .ok (.goto 4, 3) := by decide +kernel
theorem dX6_needless_28 : decode cX6_needless 28 = .ok (.iconst 0, 1) := by decide +kernel
theorem dX6_needless_29 : decode cX6_needless 29 = .ok (.ireturn, 1) := by decide +kernel
theorem dX6_reduced_0 : decode cX6_reduced 0 = .ok (.aload_n 0, 1) := by decide +kernel
theorem dX6_reduced_1 : decode cX6_reduced 1 = .ok (.getfield 28, 3) := by decide +kernel
theorem dX6_reduced_4 : decode cX6_reduced 4 = .ok (.invokevirtual 179, 3) := by decide +kernel
theorem dX6_reduced_7 : decode cX6_reduced 7 = .ok (.aload_n 0, 1) := by decide +kernel
theorem dX6_reduced_8 : decode cX6_reduced 8 = .ok (.getfield 28, 3) := by decide +kernel
theorem dX6_reduced_11 : decode cX6_reduced 11 = .ok (.getfield 68, 3) := by decide +kernel
theorem dX6_reduced_14 : decode cX6_reduced 14 = .ok (.if_icmp .ge 6, 3) := by decide +kernel
theorem dX6_reduced_17 : decode cX6_reduced 17 = .ok (.bipush (-4), 2) := by decide +kernel
theorem dX6_reduced_19 : decode cX6_reduced 19 = .ok (.ireturn, 1) := by decide +kernel
theorem dX6_reduced_20 : decode cX6_reduced 20 = .ok (.aload_n 0, 1) := by decide +kernel
theorem dX6_reduced_21 : decode cX6_reduced 21 = .ok (.getfield 28, 3) := by decide +kernel
theorem dX6_reduced_24 : decode cX6_reduced 24 = .ok (.invokevirtual 106, 3) := by decide +kernel
theorem dX6_reduced_27 : decode cX6_reduced 27 = .ok (.aload_n 0, 1) := by decide +kernel
theorem dX6_reduced_28 : decode cX6_reduced 28 = .ok (.getfield 28, 3) := by decide +kernel
theorem dX6_reduced_31 : decode cX6_reduced 31 = .ok (.invokevirtual 182, 3) := by decide +kernel
theorem dX6_reduced_34 : decode cX6_reduced 34 = .ok (.isub, 1) := by decide +kernel
theorem dX6_reduced_35 : decode cX6_reduced 35 = .ok (.ireturn, 1) := by decide +kernel
theorem dX6_fold_0 : decode cX6_fold 0 = .ok (.iload_n 1, 1) := by decide +kernel
theorem dX6_fold_1 : decode cX6_fold 1 = .ok (.ifCond .lt 19, 3) := by decide +kernel
theorem dX6_fold_4 : decode cX6_fold 4 = .ok (.iload_n 1, 1) := by decide +kernel
theorem dX6_fold_5 : decode cX6_fold 5 = .ok (.iconst 3, 1) := by decide +kernel
theorem dX6_fold_6 : decode cX6_fold 6 = .ok (.if_icmp .gt 14, 3) := by decide +kernel
theorem dX6_fold_9 : decode cX6_fold 9 = .ok (.iload_n 2, 1) := by decide +kernel
theorem dX6_fold_10 : decode cX6_fold 10 = .ok (.ifCond .lt 10, 3) := by decide +kernel
theorem dX6_fold_13 : decode cX6_fold 13 = .ok (.iload_n 2, 1) := by decide +kernel
theorem dX6_fold_14 : decode cX6_fold 14 = .ok (.sipush 1000, 3) := by decide +kernel
theorem dX6_fold_17 : decode cX6_fold 17 = .ok (.if_icmp .lt 6, 3) := by decide +kernel
theorem dX6_fold_20 : decode cX6_fold 20 = .ok (.bipush (-3), 2) := by decide +kernel
theorem dX6_fold_22 : decode cX6_fold 22 = .ok (.ireturn, 1) := by decide +kernel
theorem dX6_fold_23 : decode cX6_fold 23 = .ok (.iload_n 2, 1) := by decide +kernel
theorem dX6_fold_24 : decode cX6_fold 24 = .ok (.istore_n 3, 1) := by decide +kernel
theorem dX6_fold_25 : decode cX6_fold 25 = .ok (.iconst 0, 1) := by decide +kernel
theorem dX6_fold_26 : decode cX6_fold 26 = .ok (.istore 4, 2) := by decide +kernel
theorem dX6_fold_28 : decode cX6_fold 28 = .ok (.iload 4, 2) := by decide +kernel
theorem dX6_fold_30 : decode cX6_fold 30 = .ok (.aload_n 0, 1) := by decide +kernel
theorem dX6_fold_31 : decode cX6_fold 31 = .ok (.getfield 28, 3) := by decide +kernel
theorem dX6_fold_34 : decode cX6_fold 34 = .ok (.getfield 68, 3) := by decide +kernel
theorem dX6_fold_37 : decode cX6_fold 37 = .ok (.if_icmp .ge 48, 3) := by decide +kernel
theorem dX6_fold_40 : decode cX6_fold 40 = .ok (.iconst 0, 1) := by decide +kernel
theorem dX6_fold_41 : decode cX6_fold 41 = .ok (.istore 5, 2) := by decide +kernel
theorem dX6_fold_43 : decode cX6_fold 43 = .ok (.iload 5, 2) := by decide +kernel
theorem dX6_fold_45 : decode cX6_fold 45 = .ok (.aload_n 0, 1) := by decide +kernel
theorem dX6_fold_46 : decode cX6_fold 46 = .ok (.getfield 28, 3) := by decide +kernel
theorem dX6_fold_49 : decode cX6_fold 49 = .ok (.getfield 68, 3) := by decide +kernel
theorem dX6_fold_52 : decode cX6_fold 52 = .ok (.if_icmp .ge 27, 3) := by decide +kernel
theorem dX6_fold_55 : decode cX6_fold 55 = .ok (.iload 4, 2) := by decide +kernel
theorem dX6_fold_57 : decode cX6_fold 57 = .ok (.iload 5, 2) := by decide +kernel
theorem dX6_fold_59 : decode cX6_fold 59 = .ok (.if_icmp .eq 14, 3) := by decide +kernel
theorem dX6_fold_62 : decode cX6_fold 62 = .ok (.aload_n 0, 1) := by decide +kernel
theorem dX6_fold_63 : decode cX6_fold 63 = .ok (.iload_n 1, 1) := by decide +kernel
theorem dX6_fold_64 : decode cX6_fold 64 = .ok (.iload_n 3, 1) := by decide +kernel
theorem dX6_fold_65 : decode cX6_fold 65 = .ok (.iload 4, 2) := by decide +kernel
theorem dX6_fold_67 : decode cX6_fold 67 = .ok (.iload 5, 2) := by decide +kernel
theorem dX6_fold_69 : decode cX6_fold 69 = .ok (.invokevirtual 185, 3) := by decide +kernel
theorem dX6_fold_72 : decode cX6_fold 72 = .ok (.istore_n 3, 1) := by decide +kernel
theorem dX6_fold_73 : decode cX6_fold 73 = .ok (.iinc 5 1, 3) := by decide +kernel
theorem dX6_fold_76 : decode cX6_fold 76 = .ok (.goto (-33), 3) := by decide +kernel
theorem dX6_fold_79 : decode cX6_fold 79 = .ok (.iinc 4 1, 3) := by decide +kernel
theorem dX6_fold_82 : decode cX6_fold 82 = .ok (.goto (-54), 3) := by decide +kernel
theorem dX6_fold_85 : decode cX6_fold 85 = .ok (.iload_n 3, 1) := by decide +kernel
theorem dX6_fold_86 : decode cX6_fold 86 = .ok (.ireturn, 1) := by decide +kernel
theorem dX6_foldPair_0 : decode cX6_foldPair 0 = .ok (.aload_n 0, 1) := by decide +kernel
theorem dX6_foldPair_1 : decode cX6_foldPair 1 = .ok (.getfield 28, 3) := by decide +kernel
theorem dX6_foldPair_4 : decode cX6_foldPair 4 = .ok (.iload_n 3, 1) := by decide +kernel
theorem dX6_foldPair_5 : decode cX6_foldPair 5 = .ok (.iload 4, 2) := by decide +kernel
theorem dX6_foldPair_7 : decode cX6_foldPair 7 = .ok (.invokevirtual 151, 3) := by decide +kernel
theorem dX6_foldPair_10 : decode cX6_foldPair 10 = .ok (.istore 5, 2) := by decide +kernel
theorem dX6_foldPair_12 : decode cX6_foldPair 12 = .ok (.iload_n 1, 1) := by decide +kernel
theorem dX6_foldPair_13 : decode cX6_foldPair 13 = .ok (.iconst 3, 1) := by decide +kernel
theorem dX6_foldPair_14 : decode cX6_foldPair 14 = .ok (.if_icmp .ne 22, 3) := by decide +kernel
theorem dX6_foldPair_17 : decode cX6_foldPair 17 = .ok (.iconst 2, 1) := by decide +kernel
theorem dX6_foldPair_18 : decode cX6_foldPair 18 = .ok (.iload_n 2, 1) := by decide +kernel
theorem dX6_foldPair_19 : decode cX6_foldPair 19 = .ok (.imul, 1) := by decide +kernel
theorem dX6_foldPair_20 : decode cX6_foldPair 20 = .ok (.iload 5, 2) := by decide +kernel
theorem dX6_foldPair_22 : decode cX6_foldPair 22 = .ok (.ifCond .eq 7, 3) := by decide +kernel
theorem dX6_foldPair_25 : decode cX6_foldPair 25 = .ok (.iconst 1, 1) := by decide +kernel
theorem dX6_foldPair_26 : decode cX6_foldPair 26 = .ok (.goto 4, 3) := by decide +kernel
theorem dX6_foldPair_29 : decode cX6_foldPair 29 = .ok (.iconst 0, 1) := by decide +kernel
theorem dX6_foldPair_30 : decode cX6_foldPair 30 = .ok (.iadd, 1) := by decide +kernel
theorem dX6_foldPair_31 : decode cX6_foldPair 31 = .ok (.sipush 1000, 3) := by decide +kernel
theorem dX6_foldPair_34 : decode cX6_foldPair 34 = .ok (.irem, 1) := by decide +kernel
theorem dX6_foldPair_35 : decode cX6_foldPair 35 = .ok (.ireturn, 1) := by decide +kernel
theorem dX6_foldPair_36 : decode cX6_foldPair 36 = .ok (.iload 5, 2) := by decide +kernel
theorem dX6_foldPair_38 : decode cX6_foldPair 38 = .ok (.ifCond .ne 5, 3) := by decide +kernel
theorem dX6_foldPair_41 : decode cX6_foldPair 41 = .ok (.iload_n 2, 1) := by decide +kernel
theorem dX6_foldPair_42 : decode cX6_foldPair 42 = .ok (.ireturn, 1) := by decide +kernel
theorem dX6_foldPair_43 : decode cX6_foldPair 43 = .ok (.iload_n 1, 1) := by decide +kernel
theorem dX6_foldPair_44 : decode cX6_foldPair 44 = .ok (.lookupswitch 39 #[(0, 28), (1, 32)], 28) := by decide +kernel
theorem dX6_foldPair_72 : decode cX6_foldPair 72 = .ok (.iload_n 2, 1) := by decide +kernel
theorem dX6_foldPair_73 : decode cX6_foldPair 73 = .ok (.iconst 1, 1) := by decide +kernel
theorem dX6_foldPair_74 : decode cX6_foldPair 74 = .ok (.iadd, 1) := by decide +kernel
theorem dX6_foldPair_75 : decode cX6_foldPair 75 = .ok (.ireturn, 1) := by decide +kernel
theorem dX6_foldPair_76 : decode cX6_foldPair 76 = .ok (.iload_n 2, 1) := by decide +kernel
theorem dX6_foldPair_77 : decode cX6_foldPair 77 = .ok (.iload_n 3, 1) := by decide +kernel
theorem dX6_foldPair_78 : decode cX6_foldPair 78 = .ok (.iadd, 1) := by decide +kernel
theorem dX6_foldPair_79 : decode cX6_foldPair 79 = .ok (.iload 4, 2) := by decide +kernel
theorem dX6_foldPair_81 : decode cX6_foldPair 81 = .ok (.iadd, 1) := by decide +kernel
theorem dX6_foldPair_82 : decode cX6_foldPair 82 = .ok (.ireturn, 1) := by decide +kernel
theorem dX6_foldPair_83 : decode cX6_foldPair 83 = .ok (.iload_n 2, 1) := by decide +kernel
theorem dX6_foldPair_84 : decode cX6_foldPair 84 = .ok (.iload_n 3, 1) := by decide +kernel
theorem dX6_foldPair_85 : decode cX6_foldPair 85 = .ok (.iload 4, 2) := by decide +kernel
theorem dX6_foldPair_87 : decode cX6_foldPair 87 = .ok (.invokestatic 189, 3) := by decide +kernel
theorem dX6_foldPair_90 : decode cX6_foldPair 90 = .ok (.invokestatic 192, 3) := by decide +kernel
theorem dX6_foldPair_93 : decode cX6_foldPair 93 = .ok (.ireturn, 1) := by decide +kernel
theorem dX6_gain_0 : decode cX6_gain 0 = .ok (.aload_n 0, 1) := by decide +kernel
theorem dX6_gain_1 : decode cX6_gain 1 = .ok (.iload_n 1, 1) := by decide +kernel
theorem dX6_gain_2 : decode cX6_gain 2 = .ok (.iload_n 2, 1) := by decide +kernel
theorem dX6_gain_3 : decode cX6_gain 3 = .ok (.invokevirtual 113, 3) := by decide +kernel
theorem dX6_gain_6 : decode cX6_gain 6 = .ok (.ifCond .ne 6, 3) := by decide +kernel
theorem dX6_gain_9 : decode cX6_gain 9 = .ok (.bipush (-2), 2) := by decide +kernel
theorem dX6_gain_11 : decode cX6_gain 11 = .ok (.ireturn, 1) := by decide +kernel
theorem dX6_gain_12 : decode cX6_gain 12 = .ok (.iload_n 3, 1) := by decide +kernel
theorem dX6_gain_13 : decode cX6_gain 13 = .ok (.ifCond .lt 8, 3) := by decide +kernel
theorem dX6_gain_16 : decode cX6_gain 16 = .ok (.iload_n 3, 1) := by decide +kernel
theorem dX6_gain_17 : decode cX6_gain 17 = .ok (.iconst 1, 1) := by decide +kernel
theorem dX6_gain_18 : decode cX6_gain 18 = .ok (.if_icmp .le 6, 3) := by decide +kernel
theorem dX6_gain_21 : decode cX6_gain 21 = .ok (.bipush (-3), 2) := by decide +kernel
theorem dX6_gain_23 : decode cX6_gain 23 = .ok (.ireturn, 1) := by decide +kernel
theorem dX6_gain_24 : decode cX6_gain 24 = .ok (.aload_n 0, 1) := by decide +kernel
theorem dX6_gain_25 : decode cX6_gain 25 = .ok (.getfield 28, 3) := by decide +kernel
theorem dX6_gain_28 : decode cX6_gain 28 = .ok (.iload_n 1, 1) := by decide +kernel
theorem dX6_gain_29 : decode cX6_gain 29 = .ok (.iload_n 2, 1) := by decide +kernel
theorem dX6_gain_30 : decode cX6_gain 30 = .ok (.invokevirtual 102, 3) := by decide +kernel
theorem dX6_gain_33 : decode cX6_gain 33 = .ok (.ifCond .eq 6, 3) := by decide +kernel
theorem dX6_gain_36 : decode cX6_gain 36 = .ok (.bipush (-4), 2) := by decide +kernel
theorem dX6_gain_38 : decode cX6_gain 38 = .ok (.ireturn, 1) := by decide +kernel
theorem dX6_gain_39 : decode cX6_gain 39 = .ok (.iload_n 3, 1) := by decide +kernel
theorem dX6_gain_40 : decode cX6_gain 40 = .ok (.ifCond .ne 15, 3) := by decide +kernel
theorem dX6_gain_43 : decode cX6_gain 43 = .ok (.aload_n 0, 1) := by decide +kernel
theorem dX6_gain_44 : decode cX6_gain 44 = .ok (.getfield 28, 3) := by decide +kernel
theorem dX6_gain_47 : decode cX6_gain 47 = .ok (.iload_n 1, 1) := by decide +kernel
theorem dX6_gain_48 : decode cX6_gain 48 = .ok (.iload_n 2, 1) := by decide +kernel
theorem dX6_gain_49 : decode cX6_gain 49 = .ok (.invokevirtual 197, 3) := by decide +kernel
theorem dX6_gain_52 : decode cX6_gain 52 = .ok (.goto 12, 3) := by decide +kernel
theorem dX6_gain_55 : decode cX6_gain 55 = .ok (.aload_n 0, 1) := by decide +kernel
theorem dX6_gain_56 : decode cX6_gain 56 = .ok (.getfield 28, 3) := by decide +kernel
theorem dX6_gain_59 : decode cX6_gain 59 = .ok (.iload_n 1, 1) := by decide +kernel
theorem dX6_gain_60 : decode cX6_gain 60 = .ok (.iload_n 2, 1) := by decide +kernel
theorem dX6_gain_61 : decode cX6_gain 61 = .ok (.invokevirtual 200, 3) := by decide +kernel
theorem dX6_gain_64 : decode cX6_gain 64 = .ok (.ireturn, 1) := by decide +kernel
theorem dX6_best_0 : decode cX6_best 0 = .ok (.iconst (-1), 1) := by decide +kernel
theorem dX6_best_1 : decode cX6_best 1 = .ok (.istore_n 1, 1) := by decide +kernel
theorem dX6_best_2 : decode cX6_best 2 = .ok (.iconst (-1), 1) := by decide +kernel
theorem dX6_best_3 : decode cX6_best 3 = .ok (.istore_n 2, 1) := by decide +kernel
theorem dX6_best_4 : decode cX6_best 4 = .ok (.iconst 0, 1) := by decide +kernel
theorem dX6_best_5 : decode cX6_best 5 = .ok (.istore_n 3, 1) := by decide +kernel
theorem dX6_best_6 : decode cX6_best 6 = .ok (.iload_n 3, 1) := by decide +kernel
theorem dX6_best_7 : decode cX6_best 7 = .ok (.aload_n 0, 1) := by decide +kernel
theorem dX6_best_8 : decode cX6_best 8 = .ok (.getfield 28, 3) := by decide +kernel
theorem dX6_best_11 : decode cX6_best 11 = .ok (.getfield 68, 3) := by decide +kernel
theorem dX6_best_14 : decode cX6_best 14 = .ok (.if_icmp .ge 77, 3) := by decide +kernel
theorem dX6_best_17 : decode cX6_best 17 = .ok (.iconst 0, 1) := by decide +kernel
theorem dX6_best_18 : decode cX6_best 18 = .ok (.istore 4, 2) := by decide +kernel
theorem dX6_best_20 : decode cX6_best 20 = .ok (.iload 4, 2) := by decide +kernel
theorem dX6_best_22 : decode cX6_best 22 = .ok (.aload_n 0, 1) := by decide +kernel
theorem dX6_best_23 : decode cX6_best 23 = .ok (.getfield 28, 3) := by decide +kernel
theorem dX6_best_26 : decode cX6_best 26 = .ok (.getfield 68, 3) := by decide +kernel
theorem dX6_best_29 : decode cX6_best 29 = .ok (.if_icmp .ge 56, 3) := by decide +kernel
theorem dX6_best_32 : decode cX6_best 32 = .ok (.iload_n 3, 1) := by decide +kernel
theorem dX6_best_33 : decode cX6_best 33 = .ok (.iload 4, 2) := by decide +kernel
theorem dX6_best_35 : decode cX6_best 35 = .ok (.if_icmp .eq 44, 3) := by decide +kernel
theorem dX6_best_38 : decode cX6_best 38 = .ok (.aload_n 0, 1) := by decide +kernel
theorem dX6_best_39 : decode cX6_best 39 = .ok (.getfield 28, 3) := by decide +kernel
theorem dX6_best_42 : decode cX6_best 42 = .ok (.iload_n 3, 1) := by decide +kernel
theorem dX6_best_43 : decode cX6_best 43 = .ok (.iload 4, 2) := by decide +kernel
theorem dX6_best_45 : decode cX6_best 45 = .ok (.invokevirtual 102, 3) := by decide +kernel
theorem dX6_best_48 : decode cX6_best 48 = .ok (.ifCond .ne 31, 3) := by decide +kernel
theorem dX6_best_51 : decode cX6_best 51 = .ok (.aload_n 0, 1) := by decide +kernel
theorem dX6_best_52 : decode cX6_best 52 = .ok (.getfield 28, 3) := by decide +kernel
theorem dX6_best_55 : decode cX6_best 55 = .ok (.iload_n 3, 1) := by decide +kernel
theorem dX6_best_56 : decode cX6_best 56 = .ok (.iload 4, 2) := by decide +kernel
theorem dX6_best_58 : decode cX6_best 58 = .ok (.invokevirtual 197, 3) := by decide +kernel
theorem dX6_best_61 : decode cX6_best 61 = .ok (.istore 5, 2) := by decide +kernel
theorem dX6_best_63 : decode cX6_best 63 = .ok (.iload 5, 2) := by decide +kernel
theorem dX6_best_65 : decode cX6_best 65 = .ok (.iload_n 2, 1) := by decide +kernel
theorem dX6_best_66 : decode cX6_best 66 = .ok (.if_icmp .le 13, 3) := by decide +kernel
theorem dX6_best_69 : decode cX6_best 69 = .ok (.iload 5, 2) := by decide +kernel
theorem dX6_best_71 : decode cX6_best 71 = .ok (.istore_n 2, 1) := by decide +kernel
theorem dX6_best_72 : decode cX6_best 72 = .ok (.iload_n 3, 1) := by decide +kernel
theorem dX6_best_73 : decode cX6_best 73 = .ok (.iload 4, 2) := by decide +kernel
theorem dX6_best_75 : decode cX6_best 75 = .ok (.invokestatic 189, 3) := by decide +kernel
theorem dX6_best_78 : decode cX6_best 78 = .ok (.istore_n 1, 1) := by decide +kernel
theorem dX6_best_79 : decode cX6_best 79 = .ok (.iinc 4 1, 3) := by decide +kernel
theorem dX6_best_82 : decode cX6_best 82 = .ok (.goto (-62), 3) := by decide +kernel
theorem dX6_best_85 : decode cX6_best 85 = .ok (.iinc 3 1, 3) := by decide +kernel
theorem dX6_best_88 : decode cX6_best 88 = .ok (.goto (-82), 3) := by decide +kernel
theorem dX6_best_91 : decode cX6_best 91 = .ok (.iload_n 1, 1) := by decide +kernel
theorem dX6_best_92 : decode cX6_best 92 = .ok (.ireturn, 1) := by decide +kernel
theorem dX6_loss_0 : decode cX6_loss 0 = .ok (.aload_n 0, 1) := by decide +kernel
theorem dX6_loss_1 : decode cX6_loss 1 = .ok (.iload_n 1, 1) := by decide +kernel
theorem dX6_loss_2 : decode cX6_loss 2 = .ok (.iload_n 2, 1) := by decide +kernel
theorem dX6_loss_3 : decode cX6_loss 3 = .ok (.invokevirtual 173, 3) := by decide +kernel
theorem dX6_loss_6 : decode cX6_loss 6 = .ok (.ifCond .ne 6, 3) := by decide +kernel
theorem dX6_loss_9 : decode cX6_loss 9 = .ok (.bipush (-2), 2) := by decide +kernel
theorem dX6_loss_11 : decode cX6_loss 11 = .ok (.ireturn, 1) := by decide +kernel
theorem dX6_loss_12 : decode cX6_loss 12 = .ok (.aload_n 0, 1) := by decide +kernel
theorem dX6_loss_13 : decode cX6_loss 13 = .ok (.getfield 28, 3) := by decide +kernel
theorem dX6_loss_16 : decode cX6_loss 16 = .ok (.iload_n 1, 1) := by decide +kernel
theorem dX6_loss_17 : decode cX6_loss 17 = .ok (.iload_n 2, 1) := by decide +kernel
theorem dX6_loss_18 : decode cX6_loss 18 = .ok (.invokevirtual 203, 3) := by decide +kernel
theorem dX6_loss_21 : decode cX6_loss 21 = .ok (.ireturn, 1) := by decide +kernel
theorem dX6_worst_0 : decode cX6_worst 0 = .ok (.iconst (-1), 1) := by decide +kernel
theorem dX6_worst_1 : decode cX6_worst 1 = .ok (.istore_n 1, 1) := by decide +kernel
theorem dX6_worst_2 : decode cX6_worst 2 = .ok (.iconst (-1), 1) := by decide +kernel
theorem dX6_worst_3 : decode cX6_worst 3 = .ok (.istore_n 2, 1) := by decide +kernel
theorem dX6_worst_4 : decode cX6_worst 4 = .ok (.iconst 0, 1) := by decide +kernel
theorem dX6_worst_5 : decode cX6_worst 5 = .ok (.istore_n 3, 1) := by decide +kernel
theorem dX6_worst_6 : decode cX6_worst 6 = .ok (.iload_n 3, 1) := by decide +kernel
theorem dX6_worst_7 : decode cX6_worst 7 = .ok (.aload_n 0, 1) := by decide +kernel
theorem dX6_worst_8 : decode cX6_worst 8 = .ok (.getfield 28, 3) := by decide +kernel
theorem dX6_worst_11 : decode cX6_worst 11 = .ok (.getfield 68, 3) := by decide +kernel
theorem dX6_worst_14 : decode cX6_worst 14 = .ok (.if_icmp .ge 71, 3) := by decide +kernel
theorem dX6_worst_17 : decode cX6_worst 17 = .ok (.iconst 0, 1) := by decide +kernel
theorem dX6_worst_18 : decode cX6_worst 18 = .ok (.istore 4, 2) := by decide +kernel
theorem dX6_worst_20 : decode cX6_worst 20 = .ok (.iload 4, 2) := by decide +kernel
theorem dX6_worst_22 : decode cX6_worst 22 = .ok (.aload_n 0, 1) := by decide +kernel
theorem dX6_worst_23 : decode cX6_worst 23 = .ok (.getfield 28, 3) := by decide +kernel
theorem dX6_worst_26 : decode cX6_worst 26 = .ok (.getfield 68, 3) := by decide +kernel
theorem dX6_worst_29 : decode cX6_worst 29 = .ok (.if_icmp .ge 50, 3) := by decide +kernel
theorem dX6_worst_32 : decode cX6_worst 32 = .ok (.aload_n 0, 1) := by decide +kernel
theorem dX6_worst_33 : decode cX6_worst 33 = .ok (.getfield 28, 3) := by decide +kernel
theorem dX6_worst_36 : decode cX6_worst 36 = .ok (.iload_n 3, 1) := by decide +kernel
theorem dX6_worst_37 : decode cX6_worst 37 = .ok (.iload 4, 2) := by decide +kernel
theorem dX6_worst_39 : decode cX6_worst 39 = .ok (.invokevirtual 102, 3) := by decide +kernel
theorem dX6_worst_42 : decode cX6_worst 42 = .ok (.ifCond .eq 31, 3) := by decide +kernel
theorem dX6_worst_45 : decode cX6_worst 45 = .ok (.aload_n 0, 1) := by decide +kernel
theorem dX6_worst_46 : decode cX6_worst 46 = .ok (.getfield 28, 3) := by decide +kernel
theorem dX6_worst_49 : decode cX6_worst 49 = .ok (.iload_n 3, 1) := by decide +kernel
theorem dX6_worst_50 : decode cX6_worst 50 = .ok (.iload 4, 2) := by decide +kernel
theorem dX6_worst_52 : decode cX6_worst 52 = .ok (.invokevirtual 203, 3) := by decide +kernel
theorem dX6_worst_55 : decode cX6_worst 55 = .ok (.istore 5, 2) := by decide +kernel
theorem dX6_worst_57 : decode cX6_worst 57 = .ok (.iload 5, 2) := by decide +kernel
theorem dX6_worst_59 : decode cX6_worst 59 = .ok (.iload_n 2, 1) := by decide +kernel
theorem dX6_worst_60 : decode cX6_worst 60 = .ok (.if_icmp .le 13, 3) := by decide +kernel
theorem dX6_worst_63 : decode cX6_worst 63 = .ok (.iload 5, 2) := by decide +kernel
theorem dX6_worst_65 : decode cX6_worst 65 = .ok (.istore_n 2, 1) := by decide +kernel
theorem dX6_worst_66 : decode cX6_worst 66 = .ok (.iload_n 3, 1) := by decide +kernel
theorem dX6_worst_67 : decode cX6_worst 67 = .ok (.iload 4, 2) := by decide +kernel
theorem dX6_worst_69 : decode cX6_worst 69 = .ok (.invokestatic 189, 3) := by decide +kernel
theorem dX6_worst_72 : decode cX6_worst 72 = .ok (.istore_n 1, 1) := by decide +kernel
theorem dX6_worst_73 : decode cX6_worst 73 = .ok (.iinc 4 1, 3) := by decide +kernel
theorem dX6_worst_76 : decode cX6_worst 76 = .ok (.goto (-56), 3) := by decide +kernel
theorem dX6_worst_79 : decode cX6_worst 79 = .ok (.iinc 3 1, 3) := by decide +kernel
theorem dX6_worst_82 : decode cX6_worst 82 = .ok (.goto (-76), 3) := by decide +kernel
theorem dX6_worst_85 : decode cX6_worst 85 = .ok (.iload_n 1, 1) := by decide +kernel
theorem dX6_worst_86 : decode cX6_worst 86 = .ok (.ireturn, 1) := by decide +kernel
theorem dX6_sever_0 : decode cX6_sever 0 = .ok (.aload_n 0, 1) := by decide +kernel
theorem dX6_sever_1 : decode cX6_sever 1 = .ok (.iload_n 1, 1) := by decide +kernel
theorem dX6_sever_2 : decode cX6_sever 2 = .ok (.iload_n 2, 1) := by decide +kernel
theorem dX6_sever_3 : decode cX6_sever 3 = .ok (.invokevirtual 113, 3) := by decide +kernel
theorem dX6_sever_6 : decode cX6_sever 6 = .ok (.ifCond .ne 6, 3) := by decide +kernel
theorem dX6_sever_9 : decode cX6_sever 9 = .ok (.bipush (-2), 2) := by decide +kernel
theorem dX6_sever_11 : decode cX6_sever 11 = .ok (.ireturn, 1) := by decide +kernel
theorem dX6_sever_12 : decode cX6_sever 12 = .ok (.aload_n 0, 1) := by decide +kernel
theorem dX6_sever_13 : decode cX6_sever 13 = .ok (.getfield 50, 3) := by decide +kernel
theorem dX6_sever_16 : decode cX6_sever 16 = .ok (.aload_n 0, 1) := by decide +kernel
theorem dX6_sever_17 : decode cX6_sever 17 = .ok (.getfield 28, 3) := by decide +kernel
theorem dX6_sever_20 : decode cX6_sever 20 = .ok (.iload_n 1, 1) := by decide +kernel
theorem dX6_sever_21 : decode cX6_sever 21 = .ok (.iload_n 2, 1) := by decide +kernel
theorem dX6_sever_22 : decode cX6_sever 22 = .ok (.invokevirtual 206, 3) := by decide +kernel
theorem dX6_sever_25 : decode cX6_sever 25 = .ok (.ireturn, 1) := by decide +kernel
theorem dX6_chain_0 : decode cX6_chain 0 = .ok (.iload_n 1, 1) := by decide +kernel
theorem dX6_chain_1 : decode cX6_chain 1 = .ok (.invokestatic 210, 3) := by decide +kernel
theorem dX6_chain_4 : decode cX6_chain 4 = .ok (.ifCond .ne 6, 3) := by decide +kernel
theorem dX6_chain_7 : decode cX6_chain 7 = .ok (.bipush (-2), 2) := by decide +kernel
theorem dX6_chain_9 : decode cX6_chain 9 = .ok (.ireturn, 1) := by decide +kernel
theorem dX6_chain_10 : decode cX6_chain 10 = .ok (.aload_n 0, 1) := by decide +kernel
theorem dX6_chain_11 : decode cX6_chain 11 = .ok (.getfield 56, 3) := by decide +kernel
theorem dX6_chain_14 : decode cX6_chain 14 = .ok (.iload_n 1, 1) := by decide +kernel
theorem dX6_chain_15 : decode cX6_chain 15 = .ok (.aaload, 1) := by decide +kernel
theorem dX6_chain_16 : decode cX6_chain 16 = .ok (.invokevirtual 213, 3) := by decide +kernel
theorem dX6_chain_19 : decode cX6_chain 19 = .ok (.iconst 0, 1) := by decide +kernel
theorem dX6_chain_20 : decode cX6_chain 20 = .ok (.ireturn, 1) := by decide +kernel
theorem dX6_add_0 : decode cX6_add 0 = .ok (.iload_n 1, 1) := by decide +kernel
theorem dX6_add_1 : decode cX6_add 1 = .ok (.invokestatic 210, 3) := by decide +kernel
theorem dX6_add_4 : decode cX6_add 4 = .ok (.ifCond .eq 17, 3) := by decide +kernel
theorem dX6_add_7 : decode cX6_add 7 = .ok (.iload_n 2, 1) := by decide +kernel
theorem dX6_add_8 : decode cX6_add 8 = .ok (.iconst 1, 1) := by decide +kernel
theorem dX6_add_9 : decode cX6_add 9 = .ok (.if_icmp .ne 15, 3) := by decide +kernel
theorem dX6_add_12 : decode cX6_add 12 = .ok (.aload_n 0, 1) := by decide +kernel
theorem dX6_add_13 : decode cX6_add 13 = .ok (.iload 4, 2) := by decide +kernel
theorem dX6_add_15 : decode cX6_add 15 = .ok (.invokevirtual 216, 3) := by decide +kernel
theorem dX6_add_18 : decode cX6_add 18 = .ok (.ifCond .ne 6, 3) := by decide +kernel
theorem dX6_add_21 : decode cX6_add 21 = .ok (.bipush (-2), 2) := by decide +kernel
theorem dX6_add_23 : decode cX6_add 23 = .ok (.ireturn, 1) := by decide +kernel
theorem dX6_add_24 : decode cX6_add 24 = .ok (.iload_n 2, 1) := by decide +kernel
theorem dX6_add_25 : decode cX6_add 25 = .ok (.ifCond .lt 17, 3) := by decide +kernel
theorem dX6_add_28 : decode cX6_add 28 = .ok (.iload_n 2, 1) := by decide +kernel
theorem dX6_add_29 : decode cX6_add 29 = .ok (.iconst 1, 1) := by decide +kernel
theorem dX6_add_30 : decode cX6_add 30 = .ok (.if_icmp .gt 12, 3) := by decide +kernel
theorem dX6_add_33 : decode cX6_add 33 = .ok (.iload_n 3, 1) := by decide +kernel
theorem dX6_add_34 : decode cX6_add 34 = .ok (.ifCond .lt 8, 3) := by decide +kernel
theorem dX6_add_37 : decode cX6_add 37 = .ok (.iload_n 3, 1) := by decide +kernel
theorem dX6_add_38 : decode cX6_add 38 = .ok (.iconst 1, 1) := by decide +kernel
theorem dX6_add_39 : decode cX6_add 39 = .ok (.if_icmp .le 6, 3) := by decide +kernel
theorem dX6_add_42 : decode cX6_add 42 = .ok (.bipush (-3), 2) := by decide +kernel
theorem dX6_add_44 : decode cX6_add 44 = .ok (.ireturn, 1) := by decide +kernel
theorem dX6_add_45 : decode cX6_add 45 = .ok (.iload_n 2, 1) := by decide +kernel
theorem dX6_add_46 : decode cX6_add 46 = .ok (.ifCond .ne 22, 3) := by decide +kernel
theorem dX6_add_49 : decode cX6_add 49 = .ok (.iload 4, 2) := by decide +kernel
theorem dX6_add_51 : decode cX6_add 51 = .ok (.sipush (-9999), 3) := by decide +kernel
theorem dX6_add_54 : decode cX6_add 54 = .ok (.if_icmp .lt 11, 3) := by decide +kernel
theorem dX6_add_57 : decode cX6_add 57 = .ok (.iload 4, 2) := by decide +kernel
theorem dX6_add_59 : decode cX6_add 59 = .ok (.sipush 9999, 3) := by decide +kernel
theorem dX6_add_62 : decode cX6_add 62 = .ok (.if_icmp .le 6, 3) := by decide +kernel
theorem dX6_add_65 : decode cX6_add 65 = .ok (.bipush (-3), 2) := by decide +kernel
theorem dX6_add_67 : decode cX6_add 67 = .ok (.ireturn, 1) := by decide +kernel
theorem dX6_add_68 : decode cX6_add 68 = .ok (.aload_n 0, 1) := by decide +kernel
theorem dX6_add_69 : decode cX6_add 69 = .ok (.getfield 56, 3) := by decide +kernel
theorem dX6_add_72 : decode cX6_add 72 = .ok (.iload_n 1, 1) := by decide +kernel
theorem dX6_add_73 : decode cX6_add 73 = .ok (.aaload, 1) := by decide +kernel
theorem dX6_add_74 : decode cX6_add 74 = .ok (.astore 5, 2) := by decide +kernel
theorem dX6_add_76 : decode cX6_add 76 = .ok (.aload 5, 2) := by decide +kernel
theorem dX6_add_78 : decode cX6_add 78 = .ok (.getfield 219, 3) := by decide +kernel
theorem dX6_add_81 : decode cX6_add 81 = .ok (.ifCond .eq 6, 3) := by decide +kernel
theorem dX6_add_84 : decode cX6_add 84 = .ok (.bipush (-11), 2) := by decide +kernel
theorem dX6_add_86 : decode cX6_add 86 = .ok (.ireturn, 1) := by decide +kernel
theorem dX6_add_87 : decode cX6_add 87 = .ok (.aload 5, 2) := by decide +kernel
theorem dX6_add_89 : decode cX6_add 89 = .ok (.getfield 223, 3) := by decide +kernel
theorem dX6_add_92 : decode cX6_add 92 = .ok (.bipush 8, 2) := by decide +kernel
theorem dX6_add_94 : decode cX6_add 94 = .ok (.if_icmp .lt 6, 3) := by decide +kernel
theorem dX6_add_97 : decode cX6_add 97 = .ok (.bipush (-14), 2) := by decide +kernel
theorem dX6_add_99 : decode cX6_add 99 = .ok (.ireturn, 1) := by decide +kernel
theorem dX6_add_100 : decode cX6_add 100 = .ok (.aload 5, 2) := by decide +kernel
theorem dX6_add_102 : decode cX6_add 102 = .ok (.iload_n 3, 1) := by decide +kernel
theorem dX6_add_103 : decode cX6_add 103 = .ok (.iconst 1, 1) := by decide +kernel
theorem dX6_add_104 : decode cX6_add 104 = .ok (.if_icmp .ne 11, 3) := by decide +kernel
theorem dX6_add_107 : decode cX6_add 107 = .ok (.aload 5, 2) := by decide +kernel
theorem dX6_add_109 : decode cX6_add 109 = .ok (.getfield 223, 3) := by decide +kernel
theorem dX6_add_112 : decode cX6_add 112 = .ok (.goto 4, 3) := by decide +kernel
theorem dX6_add_115 : decode cX6_add 115 = .ok (.iconst 0, 1) := by decide +kernel
theorem dX6_add_116 : decode cX6_add 116 = .ok (.iload 4, 2) := by decide +kernel
theorem dX6_add_118 : decode cX6_add 118 = .ok (.iload_n 2, 1) := by decide +kernel
theorem dX6_add_119 : decode cX6_add 119 = .ok (.iconst 1, 1) := by decide +kernel
theorem dX6_add_120 : decode cX6_add 120 = .ok (.if_icmp .ne 7, 3) := by decide +kernel
theorem dX6_add_123 : decode cX6_add 123 = .ok (.iconst 1, 1) := by decide +kernel
theorem dX6_add_124 : decode cX6_add 124 = .ok (.goto 4, 3) := by decide +kernel
theorem dX6_add_127 : decode cX6_add 127 = .ok (.iconst 0, 1) := by decide +kernel
theorem dX6_add_128 : decode cX6_add 128 = .ok (.invokevirtual 224, 3) := by decide +kernel
theorem dX6_add_131 : decode cX6_add 131 = .ok (.aload 5, 2) := by decide +kernel
theorem dX6_add_133 : decode cX6_add 133 = .ok (.getfield 223, 3) := by decide +kernel
theorem dX6_add_136 : decode cX6_add 136 = .ok (.ireturn, 1) := by decide +kernel
theorem dX6_last_0 : decode cX6_last 0 = .ok (.iload_n 1, 1) := by decide +kernel
theorem dX6_last_1 : decode cX6_last 1 = .ok (.invokestatic 210, 3) := by decide +kernel
theorem dX6_last_4 : decode cX6_last 4 = .ok (.ifCond .ne 6, 3) := by decide +kernel
theorem dX6_last_7 : decode cX6_last 7 = .ok (.bipush (-2), 2) := by decide +kernel
theorem dX6_last_9 : decode cX6_last 9 = .ok (.ireturn, 1) := by decide +kernel
theorem dX6_last_10 : decode cX6_last 10 = .ok (.iload_n 2, 1) := by decide +kernel
theorem dX6_last_11 : decode cX6_last 11 = .ok (.ifCond .lt 8, 3) := by decide +kernel
theorem dX6_last_14 : decode cX6_last 14 = .ok (.iload_n 2, 1) := by decide +kernel
theorem dX6_last_15 : decode cX6_last 15 = .ok (.iconst 1, 1) := by decide +kernel
theorem dX6_last_16 : decode cX6_last 16 = .ok (.if_icmp .le 6, 3) := by decide +kernel
theorem dX6_last_19 : decode cX6_last 19 = .ok (.bipush (-3), 2) := by decide +kernel
theorem dX6_last_21 : decode cX6_last 21 = .ok (.ireturn, 1) := by decide +kernel
theorem dX6_last_22 : decode cX6_last 22 = .ok (.aload_n 0, 1) := by decide +kernel
theorem dX6_last_23 : decode cX6_last 23 = .ok (.getfield 56, 3) := by decide +kernel
theorem dX6_last_26 : decode cX6_last 26 = .ok (.iload_n 1, 1) := by decide +kernel
theorem dX6_last_27 : decode cX6_last 27 = .ok (.aaload, 1) := by decide +kernel
theorem dX6_last_28 : decode cX6_last 28 = .ok (.astore_n 3, 1) := by decide +kernel
theorem dX6_last_29 : decode cX6_last 29 = .ok (.aload_n 3, 1) := by decide +kernel
theorem dX6_last_30 : decode cX6_last 30 = .ok (.getfield 219, 3) := by decide +kernel
theorem dX6_last_33 : decode cX6_last 33 = .ok (.ifCond .eq 6, 3) := by decide +kernel
theorem dX6_last_36 : decode cX6_last 36 = .ok (.bipush (-11), 2) := by decide +kernel
theorem dX6_last_38 : decode cX6_last 38 = .ok (.ireturn, 1) := by decide +kernel
theorem dX6_last_39 : decode cX6_last 39 = .ok (.aload_n 3, 1) := by decide +kernel
theorem dX6_last_40 : decode cX6_last 40 = .ok (.getfield 223, 3) := by decide +kernel
theorem dX6_last_43 : decode cX6_last 43 = .ok (.ifCond .ne 6, 3) := by decide +kernel
theorem dX6_last_46 : decode cX6_last 46 = .ok (.bipush (-12), 2) := by decide +kernel
theorem dX6_last_48 : decode cX6_last 48 = .ok (.ireturn, 1) := by decide +kernel
theorem dX6_last_49 : decode cX6_last 49 = .ok (.aload_n 3, 1) := by decide +kernel
theorem dX6_last_50 : decode cX6_last 50 = .ok (.getfield 223, 3) := by decide +kernel
theorem dX6_last_53 : decode cX6_last 53 = .ok (.iconst 1, 1) := by decide +kernel
theorem dX6_last_54 : decode cX6_last 54 = .ok (.isub, 1) := by decide +kernel
theorem dX6_last_55 : decode cX6_last 55 = .ok (.istore 4, 2) := by decide +kernel
theorem dX6_last_57 : decode cX6_last 57 = .ok (.aload_n 3, 1) := by decide +kernel
theorem dX6_last_58 : decode cX6_last 58 = .ok (.getfield 228, 3) := by decide +kernel
theorem dX6_last_61 : decode cX6_last 61 = .ok (.iload 4, 2) := by decide +kernel
theorem dX6_last_63 : decode cX6_last 63 = .ok (.baload, 1) := by decide +kernel
theorem dX6_last_64 : decode cX6_last 64 = .ok (.iload_n 2, 1) := by decide +kernel
theorem dX6_last_65 : decode cX6_last 65 = .ok (.iconst 1, 1) := by decide +kernel
theorem dX6_last_66 : decode cX6_last 66 = .ok (.if_icmp .ne 7, 3) := by decide +kernel
theorem dX6_last_69 : decode cX6_last 69 = .ok (.iconst 1, 1) := by decide +kernel
theorem dX6_last_70 : decode cX6_last 70 = .ok (.goto 4, 3) := by decide +kernel
theorem dX6_last_73 : decode cX6_last 73 = .ok (.iconst 0, 1) := by decide +kernel
theorem dX6_last_74 : decode cX6_last 74 = .ok (.if_icmp .eq 6, 3) := by decide +kernel
theorem dX6_last_77 : decode cX6_last 77 = .ok (.bipush (-13), 2) := by decide +kernel
theorem dX6_last_79 : decode cX6_last 79 = .ok (.ireturn, 1) := by decide +kernel
theorem dX6_last_80 : decode cX6_last 80 = .ok (.aload_n 3, 1) := by decide +kernel
theorem dX6_last_81 : decode cX6_last 81 = .ok (.iload 4, 2) := by decide +kernel
theorem dX6_last_83 : decode cX6_last 83 = .ok (.putfield 223, 3) := by decide +kernel
theorem dX6_last_86 : decode cX6_last 86 = .ok (.iload_n 2, 1) := by decide +kernel
theorem dX6_last_87 : decode cX6_last 87 = .ok (.iconst 1, 1) := by decide +kernel
theorem dX6_last_88 : decode cX6_last 88 = .ok (.if_icmp .ne 13, 3) := by decide +kernel
theorem dX6_last_91 : decode cX6_last 91 = .ok (.aload_n 3, 1) := by decide +kernel
theorem dX6_last_92 : decode cX6_last 92 = .ok (.getfield 232, 3) := by decide +kernel
theorem dX6_last_95 : decode cX6_last 95 = .ok (.iload 4, 2) := by decide +kernel
theorem dX6_last_97 : decode cX6_last 97 = .ok (.iaload, 1) := by decide +kernel
theorem dX6_last_98 : decode cX6_last 98 = .ok (.goto 13, 3) := by decide +kernel
theorem dX6_last_101 : decode cX6_last 101 = .ok (.aload_n 3, 1) := by decide +kernel
theorem dX6_last_102 : decode cX6_last 102 = .ok (.getfield 232, 3) := by decide +kernel
theorem dX6_last_105 : decode cX6_last 105 = .ok (.iload 4, 2) := by decide +kernel
theorem dX6_last_107 : decode cX6_last 107 = .ok (.iaload, 1) := by decide +kernel
theorem dX6_last_108 : decode cX6_last 108 = .ok (.ldc 235, 2) := by decide +kernel
theorem dX6_last_110 : decode cX6_last 110 = .ok (.iadd, 1) := by decide +kernel
theorem dX6_last_111 : decode cX6_last 111 = .ok (.ireturn, 1) := by decide +kernel
theorem dX6_sum_0 : decode cX6_sum 0 = .ok (.iload_n 1, 1) := by decide +kernel
theorem dX6_sum_1 : decode cX6_sum 1 = .ok (.invokestatic 210, 3) := by decide +kernel
theorem dX6_sum_4 : decode cX6_sum 4 = .ok (.ifCond .ne 6, 3) := by decide +kernel
theorem dX6_sum_7 : decode cX6_sum 7 = .ok (.bipush (-2), 2) := by decide +kernel
theorem dX6_sum_9 : decode cX6_sum 9 = .ok (.ireturn, 1) := by decide +kernel
theorem dX6_sum_10 : decode cX6_sum 10 = .ok (.iload_n 2, 1) := by decide +kernel
theorem dX6_sum_11 : decode cX6_sum 11 = .ok (.ifCond .lt 8, 3) := by decide +kernel
theorem dX6_sum_14 : decode cX6_sum 14 = .ok (.iload_n 2, 1) := by decide +kernel
theorem dX6_sum_15 : decode cX6_sum 15 = .ok (.iconst 2, 1) := by decide +kernel
theorem dX6_sum_16 : decode cX6_sum 16 = .ok (.if_icmp .le 6, 3) := by decide +kernel
theorem dX6_sum_19 : decode cX6_sum 19 = .ok (.bipush (-3), 2) := by decide +kernel
theorem dX6_sum_21 : decode cX6_sum 21 = .ok (.ireturn, 1) := by decide +kernel
theorem dX6_sum_22 : decode cX6_sum 22 = .ok (.aload_n 0, 1) := by decide +kernel
theorem dX6_sum_23 : decode cX6_sum 23 = .ok (.getfield 56, 3) := by decide +kernel
theorem dX6_sum_26 : decode cX6_sum 26 = .ok (.iload_n 1, 1) := by decide +kernel
theorem dX6_sum_27 : decode cX6_sum 27 = .ok (.aaload, 1) := by decide +kernel
theorem dX6_sum_28 : decode cX6_sum 28 = .ok (.getfield 219, 3) := by decide +kernel
theorem dX6_sum_31 : decode cX6_sum 31 = .ok (.ifCond .eq 6, 3) := by decide +kernel
theorem dX6_sum_34 : decode cX6_sum 34 = .ok (.bipush (-11), 2) := by decide +kernel
theorem dX6_sum_36 : decode cX6_sum 36 = .ok (.ireturn, 1) := by decide +kernel
theorem dX6_sum_37 : decode cX6_sum 37 = .ok (.aload_n 0, 1) := by decide +kernel
theorem dX6_sum_38 : decode cX6_sum 38 = .ok (.getfield 56, 3) := by decide +kernel
theorem dX6_sum_41 : decode cX6_sum 41 = .ok (.iload_n 1, 1) := by decide +kernel
theorem dX6_sum_42 : decode cX6_sum 42 = .ok (.aaload, 1) := by decide +kernel
theorem dX6_sum_43 : decode cX6_sum 43 = .ok (.iload_n 2, 1) := by decide +kernel
theorem dX6_sum_44 : decode cX6_sum 44 = .ok (.iconst 1, 1) := by decide +kernel
theorem dX6_sum_45 : decode cX6_sum 45 = .ok (.if_icmp .eq 7, 3) := by decide +kernel
theorem dX6_sum_48 : decode cX6_sum 48 = .ok (.iconst 1, 1) := by decide +kernel
theorem dX6_sum_49 : decode cX6_sum 49 = .ok (.goto 4, 3) := by decide +kernel
theorem dX6_sum_52 : decode cX6_sum 52 = .ok (.iconst 0, 1) := by decide +kernel
theorem dX6_sum_53 : decode cX6_sum 53 = .ok (.iload_n 2, 1) := by decide +kernel
theorem dX6_sum_54 : decode cX6_sum 54 = .ok (.ifCond .eq 7, 3) := by decide +kernel
theorem dX6_sum_57 : decode cX6_sum 57 = .ok (.iconst 1, 1) := by decide +kernel
theorem dX6_sum_58 : decode cX6_sum 58 = .ok (.goto 4, 3) := by decide +kernel
theorem dX6_sum_61 : decode cX6_sum 61 = .ok (.iconst 0, 1) := by decide +kernel
theorem dX6_sum_62 : decode cX6_sum 62 = .ok (.invokevirtual 236, 3) := by decide +kernel
theorem dX6_sum_65 : decode cX6_sum 65 = .ok (.ldc 240, 2) := by decide +kernel
theorem dX6_sum_67 : decode cX6_sum 67 = .ok (.iadd, 1) := by decide +kernel
