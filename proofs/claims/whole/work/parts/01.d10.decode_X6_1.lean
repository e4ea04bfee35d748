theorem dX6_sum_68 : decode cX6_sum 68 = .ok (.ireturn, 1) := by decide +kernel
theorem dX6_strike_0 : decode cX6_strike 0 = .ok (.iload_n 1, 1) := by decide +kernel
theorem dX6_strike_1 : decode cX6_strike 1 = .ok (.invokestatic 210, 3) := by decide +kernel
theorem dX6_strike_4 : decode cX6_strike 4 = .ok (.ifCond .ne 6, 3) := by decide +kernel
theorem dX6_strike_7 : decode cX6_strike 7 = .ok (.bipush (-2), 2) := by decide +kernel
theorem dX6_strike_9 : decode cX6_strike 9 = .ok (.ireturn, 1) := by decide +kernel
theorem dX6_strike_10 : decode cX6_strike 10 = .ok (.iload_n 2, 1) := by decide +kernel
theorem dX6_strike_11 : decode cX6_strike 11 = .ok (.ifCond .lt 8, 3) := by decide +kernel
theorem dX6_strike_14 : decode cX6_strike 14 = .ok (.iload_n 2, 1) := by decide +kernel
theorem dX6_strike_15 : decode cX6_strike 15 = .ok (.iconst 1, 1) := by decide +kernel
theorem dX6_strike_16 : decode cX6_strike 16 = .ok (.if_icmp .le 6, 3) := by decide +kernel
theorem dX6_strike_19 : decode cX6_strike 19 = .ok (.bipush (-3), 2) := by decide +kernel
theorem dX6_strike_21 : decode cX6_strike 21 = .ok (.ireturn, 1) := by decide +kernel
theorem dX6_strike_22 : decode cX6_strike 22 = .ok (.aload_n 0, 1) := by decide +kernel
theorem dX6_strike_23 : decode cX6_strike 23 = .ok (.getfield 56, 3) := by decide +kernel
theorem dX6_strike_26 : decode cX6_strike 26 = .ok (.iload_n 1, 1) := by decide +kernel
theorem dX6_strike_27 : decode cX6_strike 27 = .ok (.aaload, 1) := by decide +kernel
theorem dX6_strike_28 : decode cX6_strike 28 = .ok (.getfield 219, 3) := by decide +kernel
theorem dX6_strike_31 : decode cX6_strike 31 = .ok (.ifCond .eq 6, 3) := by decide +kernel
theorem dX6_strike_34 : decode cX6_strike 34 = .ok (.bipush (-11), 2) := by decide +kernel
theorem dX6_strike_36 : decode cX6_strike 36 = .ok (.ireturn, 1) := by decide +kernel
theorem dX6_strike_37 : decode cX6_strike 37 = .ok (.aload_n 0, 1) := by decide +kernel
theorem dX6_strike_38 : decode cX6_strike 38 = .ok (.aload_n 0, 1) := by decide +kernel
theorem dX6_strike_39 : decode cX6_strike 39 = .ok (.getfield 56, 3) := by decide +kernel
theorem dX6_strike_42 : decode cX6_strike 42 = .ok (.iload_n 1, 1) := by decide +kernel
theorem dX6_strike_43 : decode cX6_strike 43 = .ok (.aaload, 1) := by decide +kernel
theorem dX6_strike_44 : decode cX6_strike 44 = .ok (.iload_n 2, 1) := by decide +kernel
theorem dX6_strike_45 : decode cX6_strike 45 = .ok (.iconst 1, 1) := by decide +kernel
theorem dX6_strike_46 : decode cX6_strike 46 = .ok (.if_icmp .ne 7, 3) := by decide +kernel
theorem dX6_strike_49 : decode cX6_strike 49 = .ok (.iconst 1, 1) := by decide +kernel
theorem dX6_strike_50 : decode cX6_strike 50 = .ok (.goto 4, 3) := by decide +kernel
theorem dX6_strike_53 : decode cX6_strike 53 = .ok (.iconst 0, 1) := by decide +kernel
theorem dX6_strike_54 : decode cX6_strike 54 = .ok (.invokevirtual 241, 3) := by decide +kernel
theorem dX6_strike_57 : decode cX6_strike 57 = .ok (.ireturn, 1) := by decide +kernel
theorem dX6_strikeArcs_0 : decode cX6_strikeArcs 0 = .ok (.aload_n 1, 1) := by decide +kernel
theorem dX6_strikeArcs_1 : decode cX6_strikeArcs 1 = .ok (.getfield 223, 3) := by decide +kernel
theorem dX6_strikeArcs_4 : decode cX6_strikeArcs 4 = .ok (.istore_n 3, 1) := by decide +kernel
theorem dX6_strikeArcs_5 : decode cX6_strikeArcs 5 = .ok (.iconst 0, 1) := by decide +kernel
theorem dX6_strikeArcs_6 : decode cX6_strikeArcs 6 = .ok (.istore 4, 2) := by decide +kernel
theorem dX6_strikeArcs_8 : decode cX6_strikeArcs 8 = .ok (.iconst 0, 1) := by decide +kernel
theorem dX6_strikeArcs_9 : decode cX6_strikeArcs 9 = .ok (.istore 5, 2) := by decide +kernel
theorem dX6_strikeArcs_11 : decode cX6_strikeArcs 11 = .ok (.iload 5, 2) := by decide +kernel
theorem dX6_strikeArcs_13 : decode cX6_strikeArcs 13 = .ok (.iload_n 3, 1) := by decide +kernel
theorem dX6_strikeArcs_14 : decode cX6_strikeArcs 14 = .ok (.if_icmp .ge 93, 3) := by decide +kernel
theorem dX6_strikeArcs_17 : decode cX6_strikeArcs 17 = .ok (.aload_n 1, 1) := by decide +kernel
theorem dX6_strikeArcs_18 : decode cX6_strikeArcs 18 = .ok (.getfield 228, 3) := by decide +kernel
theorem dX6_strikeArcs_21 : decode cX6_strikeArcs 21 = .ok (.iload 5, 2) := by decide +kernel
theorem dX6_strikeArcs_23 : decode cX6_strikeArcs 23 = .ok (.baload, 1) := by decide +kernel
theorem dX6_strikeArcs_24 : decode cX6_strikeArcs 24 = .ok (.ifCond .eq 38, 3) := by decide +kernel
theorem dX6_strikeArcs_27 : decode cX6_strikeArcs 27 = .ok (.aload_n 0, 1) := by decide +kernel
theorem dX6_strikeArcs_28 : decode cX6_strikeArcs 28 = .ok (.getfield 28, 3) := by decide +kernel
theorem dX6_strikeArcs_31 : decode cX6_strikeArcs 31 = .ok (.aload_n 1, 1) := by decide +kernel
theorem dX6_strikeArcs_32 : decode cX6_strikeArcs 32 = .ok (.getfield 232, 3) := by decide +kernel
theorem dX6_strikeArcs_35 : decode cX6_strikeArcs 35 = .ok (.iload 5, 2) := by decide +kernel
theorem dX6_strikeArcs_37 : decode cX6_strikeArcs 37 = .ok (.iaload, 1) := by decide +kernel
theorem dX6_strikeArcs_38 : decode cX6_strikeArcs 38 = .ok (.bipush 10, 2) := by decide +kernel
theorem dX6_strikeArcs_40 : decode cX6_strikeArcs 40 = .ok (.idiv, 1) := by decide +kernel
theorem dX6_strikeArcs_41 : decode cX6_strikeArcs 41 = .ok (.aload_n 1, 1) := by decide +kernel
theorem dX6_strikeArcs_42 : decode cX6_strikeArcs 42 = .ok (.getfield 232, 3) := by decide +kernel
theorem dX6_strikeArcs_45 : decode cX6_strikeArcs 45 = .ok (.iload 5, 2) := by decide +kernel
theorem dX6_strikeArcs_47 : decode cX6_strikeArcs 47 = .ok (.iaload, 1) := by decide +kernel
theorem dX6_strikeArcs_48 : decode cX6_strikeArcs 48 = .ok (.bipush 10, 2) := by decide +kernel
theorem dX6_strikeArcs_50 : decode cX6_strikeArcs 50 = .ok (.irem, 1) := by decide +kernel
theorem dX6_strikeArcs_51 : decode cX6_strikeArcs 51 = .ok (.invokevirtual 102, 3) := by decide +kernel
theorem dX6_strikeArcs_54 : decode cX6_strikeArcs 54 = .ok (.iload_n 2, 1) := by decide +kernel
theorem dX6_strikeArcs_55 : decode cX6_strikeArcs 55 = .ok (.if_icmp .ne 7, 3) := by decide +kernel
theorem dX6_strikeArcs_58 : decode cX6_strikeArcs 58 = .ok (.iconst 1, 1) := by decide +kernel
theorem dX6_strikeArcs_59 : decode cX6_strikeArcs 59 = .ok (.goto 4, 3) := by decide +kernel
theorem dX6_strikeArcs_62 : decode cX6_strikeArcs 62 = .ok (.iconst 0, 1) := by decide +kernel
theorem dX6_strikeArcs_63 : decode cX6_strikeArcs 63 = .ok (.istore 6, 2) := by decide +kernel
theorem dX6_strikeArcs_65 : decode cX6_strikeArcs 65 = .ok (.iload 6, 2) := by decide +kernel
theorem dX6_strikeArcs_67 : decode cX6_strikeArcs 67 = .ok (.ifCond .ne 34, 3) := by decide +kernel
theorem dX6_strikeArcs_70 : decode cX6_strikeArcs 70 = .ok (.aload_n 1, 1) := by decide +kernel
theorem dX6_strikeArcs_71 : decode cX6_strikeArcs 71 = .ok (.getfield 232, 3) := by decide +kernel
theorem dX6_strikeArcs_74 : decode cX6_strikeArcs 74 = .ok (.iload 4, 2) := by decide +kernel
theorem dX6_strikeArcs_76 : decode cX6_strikeArcs 76 = .ok (.aload_n 1, 1) := by decide +kernel
theorem dX6_strikeArcs_77 : decode cX6_strikeArcs 77 = .ok (.getfield 232, 3) := by decide +kernel
theorem dX6_strikeArcs_80 : decode cX6_strikeArcs 80 = .ok (.iload 5, 2) := by decide +kernel
theorem dX6_strikeArcs_82 : decode cX6_strikeArcs 82 = .ok (.iaload, 1) := by decide +kernel
theorem dX6_strikeArcs_83 : decode cX6_strikeArcs 83 = .ok (.iastore, 1) := by decide +kernel
theorem dX6_strikeArcs_84 : decode cX6_strikeArcs 84 = .ok (.aload_n 1, 1) := by decide +kernel
theorem dX6_strikeArcs_85 : decode cX6_strikeArcs 85 = .ok (.getfield 228, 3) := by decide +kernel
theorem dX6_strikeArcs_88 : decode cX6_strikeArcs 88 = .ok (.iload 4, 2) := by decide +kernel
theorem dX6_strikeArcs_90 : decode cX6_strikeArcs 90 = .ok (.aload_n 1, 1) := by decide +kernel
theorem dX6_strikeArcs_91 : decode cX6_strikeArcs 91 = .ok (.getfield 228, 3) := by decide +kernel
theorem dX6_strikeArcs_94 : decode cX6_strikeArcs 94 = .ok (.iload 5, 2) := by decide +kernel
theorem dX6_strikeArcs_96 : decode cX6_strikeArcs 96 = .ok (.baload, 1) := by decide +kernel
theorem dX6_strikeArcs_97 : decode cX6_strikeArcs 97 = .ok (.bastore, 1) := by decide +kernel
theorem dX6_strikeArcs_98 : decode cX6_strikeArcs 98 = .ok (.iinc 4 1, 3) := by decide +kernel
theorem dX6_strikeArcs_101 : decode cX6_strikeArcs 101 = .ok (.iinc 5 1, 3) := by decide +kernel
theorem dX6_strikeArcs_104 : decode cX6_strikeArcs 104 = .ok (.goto (-93), 3) := by decide +kernel
theorem dX6_strikeArcs_107 : decode cX6_strikeArcs 107 = .ok (.aload_n 1, 1) := by decide +kernel
theorem dX6_strikeArcs_108 : decode cX6_strikeArcs 108 = .ok (.iload 4, 2) := by decide +kernel
theorem dX6_strikeArcs_110 : decode cX6_strikeArcs 110 = .ok (.putfield 223, 3) := by decide +kernel
theorem dX6_strikeArcs_113 : decode cX6_strikeArcs 113 = .ok (.iload_n 3, 1) := by decide +kernel
theorem dX6_strikeArcs_114 : decode cX6_strikeArcs 114 = .ok (.iload 4, 2) := by decide +kernel
theorem dX6_strikeArcs_116 : decode cX6_strikeArcs 116 = .ok (.isub, 1) := by decide +kernel
theorem dX6_strikeArcs_117 : decode cX6_strikeArcs 117 = .ok (.ireturn, 1) := by decide +kernel
theorem dX6_append_0 : decode cX6_append 0 = .ok (.iload_n 1, 1) := by decide +kernel
theorem dX6_append_1 : decode cX6_append 1 = .ok (.invokestatic 210, 3) := by decide +kernel
theorem dX6_append_4 : decode cX6_append 4 = .ok (.ifCond .eq 10, 3) := by decide +kernel
theorem dX6_append_7 : decode cX6_append 7 = .ok (.iload_n 2, 1) := by decide +kernel
theorem dX6_append_8 : decode cX6_append 8 = .ok (.invokestatic 210, 3) := by decide +kernel
theorem dX6_append_11 : decode cX6_append 11 = .ok (.ifCond .ne 6, 3) := by decide +kernel
theorem dX6_append_14 : decode cX6_append 14 = .ok (.bipush (-2), 2) := by decide +kernel
theorem dX6_append_16 : decode cX6_append 16 = .ok (.ireturn, 1) := by decide +kernel
theorem dX6_append_17 : decode cX6_append 17 = .ok (.aload_n 0, 1) := by decide +kernel
theorem dX6_append_18 : decode cX6_append 18 = .ok (.getfield 56, 3) := by decide +kernel
theorem dX6_append_21 : decode cX6_append 21 = .ok (.iload_n 1, 1) := by decide +kernel
theorem dX6_append_22 : decode cX6_append 22 = .ok (.aaload, 1) := by decide +kernel
theorem dX6_append_23 : decode cX6_append 23 = .ok (.astore_n 3, 1) := by decide +kernel
theorem dX6_append_24 : decode cX6_append 24 = .ok (.aload_n 0, 1) := by decide +kernel
theorem dX6_append_25 : decode cX6_append 25 = .ok (.getfield 56, 3) := by decide +kernel
theorem dX6_append_28 : decode cX6_append 28 = .ok (.iload_n 2, 1) := by decide +kernel
theorem dX6_append_29 : decode cX6_append 29 = .ok (.aaload, 1) := by decide +kernel
theorem dX6_append_30 : decode cX6_append 30 = .ok (.astore 4, 2) := by decide +kernel
theorem dX6_append_32 : decode cX6_append 32 = .ok (.aload_n 3, 1) := by decide +kernel
theorem dX6_append_33 : decode cX6_append 33 = .ok (.getfield 219, 3) := by decide +kernel
theorem dX6_append_36 : decode cX6_append 36 = .ok (.ifCond .ne 11, 3) := by decide +kernel
theorem dX6_append_39 : decode cX6_append 39 = .ok (.aload 4, 2) := by decide +kernel
theorem dX6_append_41 : decode cX6_append 41 = .ok (.getfield 219, 3) := by decide +kernel
theorem dX6_append_44 : decode cX6_append 44 = .ok (.ifCond .eq 6, 3) := by decide +kernel
theorem dX6_append_47 : decode cX6_append 47 = .ok (.bipush (-11), 2) := by decide +kernel
theorem dX6_append_49 : decode cX6_append 49 = .ok (.ireturn, 1) := by decide +kernel
theorem dX6_append_50 : decode cX6_append 50 = .ok (.aload_n 3, 1) := by decide +kernel
theorem dX6_append_51 : decode cX6_append 51 = .ok (.getfield 223, 3) := by decide +kernel
theorem dX6_append_54 : decode cX6_append 54 = .ok (.istore 5, 2) := by decide +kernel
theorem dX6_append_56 : decode cX6_append 56 = .ok (.aload 4, 2) := by decide +kernel
theorem dX6_append_58 : decode cX6_append 58 = .ok (.getfield 223, 3) := by decide +kernel
theorem dX6_append_61 : decode cX6_append 61 = .ok (.iload 5, 2) := by decide +kernel
theorem dX6_append_63 : decode cX6_append 63 = .ok (.iadd, 1) := by decide +kernel
theorem dX6_append_64 : decode cX6_append 64 = .ok (.bipush 8, 2) := by decide +kernel
theorem dX6_append_66 : decode cX6_append 66 = .ok (.if_icmp .le 6, 3) := by decide +kernel
theorem dX6_append_69 : decode cX6_append 69 = .ok (.bipush (-14), 2) := by decide +kernel
theorem dX6_append_71 : decode cX6_append 71 = .ok (.ireturn, 1) := by decide +kernel
theorem dX6_append_72 : decode cX6_append 72 = .ok (.iconst 0, 1) := by decide +kernel
theorem dX6_append_73 : decode cX6_append 73 = .ok (.istore 6, 2) := by decide +kernel
theorem dX6_append_75 : decode cX6_append 75 = .ok (.iload 6, 2) := by decide +kernel
theorem dX6_append_77 : decode cX6_append 77 = .ok (.iload 5, 2) := by decide +kernel
theorem dX6_append_79 : decode cX6_append 79 = .ok (.if_icmp .ge 33, 3) := by decide +kernel
theorem dX6_append_82 : decode cX6_append 82 = .ok (.aload 4, 2) := by decide +kernel
theorem dX6_append_84 : decode cX6_append 84 = .ok (.aload 4, 2) := by decide +kernel
theorem dX6_append_86 : decode cX6_append 86 = .ok (.getfield 223, 3) := by decide +kernel
theorem dX6_append_89 : decode cX6_append 89 = .ok (.aload_n 3, 1) := by decide +kernel
theorem dX6_append_90 : decode cX6_append 90 = .ok (.getfield 232, 3) := by decide +kernel
theorem dX6_append_93 : decode cX6_append 93 = .ok (.iload 6, 2) := by decide +kernel
theorem dX6_append_95 : decode cX6_append 95 = .ok (.iaload, 1) := by decide +kernel
theorem dX6_append_96 : decode cX6_append 96 = .ok (.aload_n 3, 1) := by decide +kernel
theorem dX6_append_97 : decode cX6_append 97 = .ok (.getfield 228, 3) := by decide +kernel
theorem dX6_append_100 : decode cX6_append 100 = .ok (.iload 6, 2) := by decide +kernel
theorem dX6_append_102 : decode cX6_append 102 = .ok (.baload, 1) := by decide +kernel
theorem dX6_append_103 : decode cX6_append 103 = .ok (.invokevirtual 224, 3) := by decide +kernel
theorem dX6_append_106 : decode cX6_append 106 = .ok (.iinc 6 1, 3) := by decide +kernel
theorem dX6_append_109 : decode cX6_append 109 = .ok (.goto (-34), 3) := by decide +kernel
theorem dX6_append_112 : decode cX6_append 112 = .ok (.aload 4, 2) := by decide +kernel
theorem dX6_append_114 : decode cX6_append 114 = .ok (.getfield 223, 3) := by decide +kernel
theorem dX6_append_117 : decode cX6_append 117 = .ok (.ireturn, 1) := by decide +kernel
theorem dX6_drop_0 : decode cX6_drop 0 = .ok (.iload_n 1, 1) := by decide +kernel
theorem dX6_drop_1 : decode cX6_drop 1 = .ok (.invokestatic 210, 3) := by decide +kernel
theorem dX6_drop_4 : decode cX6_drop 4 = .ok (.ifCond .ne 6, 3) := by decide +kernel
theorem dX6_drop_7 : decode cX6_drop 7 = .ok (.bipush (-2), 2) := by decide +kernel
theorem dX6_drop_9 : decode cX6_drop 9 = .ok (.ireturn, 1) := by decide +kernel
theorem dX6_drop_10 : decode cX6_drop 10 = .ok (.aload_n 0, 1) := by decide +kernel
theorem dX6_drop_11 : decode cX6_drop 11 = .ok (.getfield 56, 3) := by decide +kernel
theorem dX6_drop_14 : decode cX6_drop 14 = .ok (.iload_n 1, 1) := by decide +kernel
theorem dX6_drop_15 : decode cX6_drop 15 = .ok (.aaload, 1) := by decide +kernel
theorem dX6_drop_16 : decode cX6_drop 16 = .ok (.getfield 219, 3) := by decide +kernel
theorem dX6_drop_19 : decode cX6_drop 19 = .ok (.ifCond .eq 6, 3) := by decide +kernel
theorem dX6_drop_22 : decode cX6_drop 22 = .ok (.bipush (-11), 2) := by decide +kernel
theorem dX6_drop_24 : decode cX6_drop 24 = .ok (.ireturn, 1) := by decide +kernel
theorem dX6_drop_25 : decode cX6_drop 25 = .ok (.aload_n 0, 1) := by decide +kernel
theorem dX6_drop_26 : decode cX6_drop 26 = .ok (.getfield 56, 3) := by decide +kernel
theorem dX6_drop_29 : decode cX6_drop 29 = .ok (.iload_n 1, 1) := by decide +kernel
theorem dX6_drop_30 : decode cX6_drop 30 = .ok (.aaload, 1) := by decide +kernel
theorem dX6_drop_31 : decode cX6_drop 31 = .ok (.getfield 223, 3) := by decide +kernel
theorem dX6_drop_34 : decode cX6_drop 34 = .ok (.istore_n 2, 1) := by decide +kernel
theorem dX6_drop_35 : decode cX6_drop 35 = .ok (.aload_n 0, 1) := by decide +kernel
theorem dX6_drop_36 : decode cX6_drop 36 = .ok (.getfield 56, 3) := by decide +kernel
theorem dX6_drop_39 : decode cX6_drop 39 = .ok (.iload_n 1, 1) := by decide +kernel
theorem dX6_drop_40 : decode cX6_drop 40 = .ok (.aaload, 1) := by decide +kernel
theorem dX6_drop_41 : decode cX6_drop 41 = .ok (.invokevirtual 85, 3) := by decide +kernel
theorem dX6_drop_44 : decode cX6_drop 44 = .ok (.iload_n 2, 1) := by decide +kernel
theorem dX6_drop_45 : decode cX6_drop 45 = .ok (.ireturn, 1) := by decide +kernel
theorem dX6_count_0 : decode cX6_count 0 = .ok (.iload_n 1, 1) := by decide +kernel
theorem dX6_count_1 : decode cX6_count 1 = .ok (.tableswitch 120 0 8 #[51, 59, 67, 75, 83, 91, 99, 104, 112], 51) := by decide +kernel
theorem dX6_count_52 : decode cX6_count 52 = .ok (.aload_n 0, 1) := by decide +kernel
theorem dX6_count_53 : decode cX6_count 53 = .ok (.getfield 28, 3) := by decide +kernel
theorem dX6_count_56 : decode cX6_count 56 = .ok (.getfield 68, 3) := by decide +kernel
theorem dX6_count_59 : decode cX6_count 59 = .ok (.ireturn, 1) := by decide +kernel
theorem dX6_count_60 : decode cX6_count 60 = .ok (.aload_n 0, 1) := by decide +kernel
theorem dX6_count_61 : decode cX6_count 61 = .ok (.getfield 28, 3) := by decide +kernel
theorem dX6_count_64 : decode cX6_count 64 = .ok (.invokevirtual 106, 3) := by decide +kernel
theorem dX6_count_67 : decode cX6_count 67 = .ok (.ireturn, 1) := by decide +kernel
theorem dX6_count_68 : decode cX6_count 68 = .ok (.aload_n 0, 1) := by decide +kernel
theorem dX6_count_69 : decode cX6_count 69 = .ok (.getfield 28, 3) := by decide +kernel
theorem dX6_count_72 : decode cX6_count 72 = .ok (.invokevirtual 120, 3) := by decide +kernel
theorem dX6_count_75 : decode cX6_count 75 = .ok (.ireturn, 1) := by decide +kernel
theorem dX6_count_76 : decode cX6_count 76 = .ok (.aload_n 0, 1) := by decide +kernel
theorem dX6_count_77 : decode cX6_count 77 = .ok (.getfield 28, 3) := by decide +kernel
theorem dX6_count_80 : decode cX6_count 80 = .ok (.getfield 132, 3) := by decide +kernel
theorem dX6_count_83 : decode cX6_count 83 = .ok (.ireturn, 1) := by decide +kernel
theorem dX6_count_84 : decode cX6_count 84 = .ok (.aload_n 0, 1) := by decide +kernel
theorem dX6_count_85 : decode cX6_count 85 = .ok (.getfield 28, 3) := by decide +kernel
theorem dX6_count_88 : decode cX6_count 88 = .ok (.invokevirtual 179, 3) := by decide +kernel
theorem dX6_count_91 : decode cX6_count 91 = .ok (.ireturn, 1) := by decide +kernel
theorem dX6_count_92 : decode cX6_count 92 = .ok (.aload_n 0, 1) := by decide +kernel
theorem dX6_count_93 : decode cX6_count 93 = .ok (.getfield 28, 3) := by decide +kernel
theorem dX6_count_96 : decode cX6_count 96 = .ok (.invokevirtual 182, 3) := by decide +kernel
theorem dX6_count_99 : decode cX6_count 99 = .ok (.ireturn, 1) := by decide +kernel
theorem dX6_count_100 : decode cX6_count 100 = .ok (.aload_n 0, 1) := by decide +kernel
theorem dX6_count_101 : decode cX6_count 101 = .ok (.invokevirtual 245, 3) := by decide +kernel
theorem dX6_count_104 : decode cX6_count 104 = .ok (.ireturn, 1) := by decide +kernel
theorem dX6_count_105 : decode cX6_count 105 = .ok (.aload_n 0, 1) := by decide +kernel
theorem dX6_count_106 : decode cX6_count 106 = .ok (.getfield 35, 3) := by decide +kernel
theorem dX6_count_109 : decode cX6_count 109 = .ok (.getfield 135, 3) := by decide +kernel
theorem dX6_count_112 : decode cX6_count 112 = .ok (.ireturn, 1) := by decide +kernel
theorem dX6_count_113 : decode cX6_count 113 = .ok (.aload_n 0, 1) := by decide +kernel
theorem dX6_count_114 : decode cX6_count 114 = .ok (.getfield 10, 3) := by decide +kernel
theorem dX6_count_117 : decode cX6_count 117 = .ok (.getfield 61, 3) := by decide +kernel
theorem dX6_count_120 : decode cX6_count 120 = .ok (.ireturn, 1) := by decide +kernel
theorem dX6_count_121 : decode cX6_count 121 = .ok (.bipush (-3), 2) := by decide +kernel
theorem dX6_count_123 : decode cX6_count 123 = .ok (.ireturn, 1) := by decide +kernel
theorem dX6_thingsOfChains_0 : decode cX6_thingsOfChains 0 = .ok (.iconst 0, 1) := by decide +kernel
theorem dX6_thingsOfChains_1 : decode cX6_thingsOfChains 1 = .ok (.istore_n 1, 1) := by decide +kernel
theorem dX6_thingsOfChains_2 : decode cX6_thingsOfChains 2 = .ok (.iconst 0, 1) := by decide +kernel
theorem dX6_thingsOfChains_3 : decode cX6_thingsOfChains 3 = .ok (.istore_n 2, 1) := by decide +kernel
theorem dX6_thingsOfChains_4 : decode cX6_thingsOfChains 4 = .ok (.iload_n 2, 1) := by decide +kernel
theorem dX6_thingsOfChains_5 : decode cX6_thingsOfChains 5 = .ok (.iconst 3, 1) := by decide +kernel
theorem dX6_thingsOfChains_6 : decode cX6_thingsOfChains 6 = .ok (.if_icmp .ge 21, 3) := by decide +kernel
theorem dX6_thingsOfChains_9 : decode cX6_thingsOfChains 9 = .ok (.iload_n 1, 1) := by decide +kernel
theorem dX6_thingsOfChains_10 : decode cX6_thingsOfChains 10 = .ok (.aload_n 0, 1) := by decide +kernel
theorem dX6_thingsOfChains_11 : decode cX6_thingsOfChains 11 = .ok (.getfield 56, 3) := by decide +kernel
theorem dX6_thingsOfChains_14 : decode cX6_thingsOfChains 14 = .ok (.iload_n 2, 1) := by decide +kernel
theorem dX6_thingsOfChains_15 : decode cX6_thingsOfChains 15 = .ok (.aaload, 1) := by decide +kernel
theorem dX6_thingsOfChains_16 : decode cX6_thingsOfChains 16 = .ok (.getfield 223, 3) := by decide +kernel
theorem dX6_thingsOfChains_19 : decode cX6_thingsOfChains 19 = .ok (.iadd, 1) := by decide +kernel
theorem dX6_thingsOfChains_20 : decode cX6_thingsOfChains 20 = .ok (.istore_n 1, 1) := by decide +kernel
theorem dX6_thingsOfChains_21 : decode cX6_thingsOfChains 21 = .ok (.iinc 2 1, 3) := by decide +kernel
theorem dX6_thingsOfChains_24 : decode cX6_thingsOfChains 24 = .ok (.goto (-20), 3) := by decide +kernel
theorem dX6_thingsOfChains_27 : decode cX6_thingsOfChains 27 = .ok (.iload_n 1, 1) := by decide +kernel
theorem dX6_thingsOfChains_28 : decode cX6_thingsOfChains 28 = .ok (.ireturn, 1) := by decide +kernel
theorem dX6_isPoint_0 : decode cX6_isPoint 0 = .ok (.iload_n 1, 1) := by decide +kernel
theorem dX6_isPoint_1 : decode cX6_isPoint 1 = .ok (.ifCond .lt 18, 3) := by decide +kernel
theorem dX6_isPoint_4 : decode cX6_isPoint 4 = .ok (.iload_n 1, 1) := by decide +kernel
theorem dX6_isPoint_5 : decode cX6_isPoint 5 = .ok (.aload_n 0, 1) := by decide +kernel
theorem dX6_isPoint_6 : decode cX6_isPoint 6 = .ok (.getfield 28, 3) := by decide +kernel
theorem dX6_isPoint_9 : decode cX6_isPoint 9 = .ok (.getfield 68, 3) := by decide +kernel
theorem dX6_isPoint_12 : decode cX6_isPoint 12 = .ok (.if_icmp .ge 7, 3) := by decide +kernel
theorem dX6_isPoint_15 : decode cX6_isPoint 15 = .ok (.iconst 1, 1) := by decide +kernel
theorem dX6_isPoint_16 : decode cX6_isPoint 16 = .ok (.goto 4, 3) := by decide +kernel
theorem dX6_isPoint_19 : decode cX6_isPoint 19 = .ok (.iconst 0, 1) := by decide +kernel
theorem dX6_isPoint_20 : decode cX6_isPoint 20 = .ok (.ireturn, 1) := by decide +kernel
theorem dX6_arePair_0 : decode cX6_arePair 0 = .ok (.aload_n 0, 1) := by decide +kernel
theorem dX6_arePair_1 : decode cX6_arePair 1 = .ok (.iload_n 1, 1) := by decide +kernel
theorem dX6_arePair_2 : decode cX6_arePair 2 = .ok (.invokevirtual 147, 3) := by decide +kernel
theorem dX6_arePair_5 : decode cX6_arePair 5 = .ok (.ifCond .eq 20, 3) := by decide +kernel
theorem dX6_arePair_8 : decode cX6_arePair 8 = .ok (.aload_n 0, 1) := by decide +kernel
theorem dX6_arePair_9 : decode cX6_arePair 9 = .ok (.iload_n 2, 1) := by decide +kernel
theorem dX6_arePair_10 : decode cX6_arePair 10 = .ok (.invokevirtual 147, 3) := by decide +kernel
theorem dX6_arePair_13 : decode cX6_arePair 13 = .ok (.ifCond .eq 12, 3) := by decide +kernel
theorem dX6_arePair_16 : decode cX6_arePair 16 = .ok (.iload_n 1, 1) := by decide +kernel
theorem dX6_arePair_17 : decode cX6_arePair 17 = .ok (.iload_n 2, 1) := by decide +kernel
theorem dX6_arePair_18 : decode cX6_arePair 18 = .ok (.if_icmp .eq 7, 3) := by decide +kernel
theorem dX6_arePair_21 : decode cX6_arePair 21 = .ok (.iconst 1, 1) := by decide +kernel
theorem dX6_arePair_22 : decode cX6_arePair 22 = .ok (.goto 4, 3) := by decide +kernel
theorem dX6_arePair_25 : decode cX6_arePair 25 = .ok (.iconst 0, 1) := by decide +kernel
theorem dX6_arePair_26 : decode cX6_arePair 26 = .ok (.ireturn, 1) := by decide +kernel
theorem dX6_isArcThere_0 : decode cX6_isArcThere 0 = .ok (.aload_n 0, 1) := by decide +kernel
theorem dX6_isArcThere_1 : decode cX6_isArcThere 1 = .ok (.iload_n 1, 1) := by decide +kernel
theorem dX6_isArcThere_2 : decode cX6_isArcThere 2 = .ok (.iload_n 2, 1) := by decide +kernel
theorem dX6_isArcThere_3 : decode cX6_isArcThere 3 = .ok (.invokevirtual 113, 3) := by decide +kernel
theorem dX6_isArcThere_6 : decode cX6_isArcThere 6 = .ok (.ifCond .eq 19, 3) := by decide +kernel
theorem dX6_isArcThere_9 : decode cX6_isArcThere 9 = .ok (.aload_n 0, 1) := by decide +kernel
theorem dX6_isArcThere_10 : decode cX6_isArcThere 10 = .ok (.getfield 28, 3) := by decide +kernel
theorem dX6_isArcThere_13 : decode cX6_isArcThere 13 = .ok (.iload_n 1, 1) := by decide +kernel
theorem dX6_isArcThere_14 : decode cX6_isArcThere 14 = .ok (.iload_n 2, 1) := by decide +kernel
theorem dX6_isArcThere_15 : decode cX6_isArcThere 15 = .ok (.invokevirtual 102, 3) := by decide +kernel
theorem dX6_isArcThere_18 : decode cX6_isArcThere 18 = .ok (.ifCond .eq 7, 3) := by decide +kernel
theorem dX6_isArcThere_21 : decode cX6_isArcThere 21 = .ok (.iconst 1, 1) := by decide +kernel
theorem dX6_isArcThere_22 : decode cX6_isArcThere 22 = .ok (.goto 4, 3) := by decide +kernel
theorem dX6_isArcThere_25 : decode cX6_isArcThere 25 = .ok (.iconst 0, 1) := by decide +kernel
theorem dX6_isArcThere_26 : decode cX6_isArcThere 26 = .ok (.ireturn, 1) := by decide +kernel
theorem dX6_isTellable_0 : decode cX6_isTellable 0 = .ok (.iload_n 1, 1) := by decide +kernel
theorem dX6_isTellable_1 : decode cX6_isTellable 1 = .ok (.ifCond .lt 22, 3) := by decide +kernel
theorem dX6_isTellable_4 : decode cX6_isTellable 4 = .ok (.aload_n 0, 1) := by decide +kernel
theorem dX6_isTellable_5 : decode cX6_isTellable 5 = .ok (.iload_n 1, 1) := by decide +kernel
theorem dX6_isTellable_6 : decode cX6_isTellable 6 = .ok (.bipush 10, 2) := by decide +kernel
theorem dX6_isTellable_8 : decode cX6_isTellable 8 = .ok (.idiv, 1) := by decide +kernel
theorem dX6_isTellable_9 : decode cX6_isTellable 9 = .ok (.iload_n 1, 1) := by decide +kernel
theorem dX6_isTellable_10 : decode cX6_isTellable 10 = .ok (.bipush 10, 2) := by decide +kernel
theorem dX6_isTellable_12 : decode cX6_isTellable 12 = .ok (.irem, 1) := by decide +kernel
theorem dX6_isTellable_13 : decode cX6_isTellable 13 = .ok (.invokevirtual 113, 3) := by decide +kernel
theorem dX6_isTellable_16 : decode cX6_isTellable 16 = .ok (.ifCond .eq 7, 3) := by decide +kernel
theorem dX6_isTellable_19 : decode cX6_isTellable 19 = .ok (.iconst 1, 1) := by decide +kernel
theorem dX6_isTellable_20 : decode cX6_isTellable 20 = .ok (.goto 4, 3) := by decide +kernel
theorem dX6_isTellable_23 : decode cX6_isTellable 23 = .ok (.iconst 0, 1) := by decide +kernel
theorem dX6_isTellable_24 : decode cX6_isTellable 24 = .ok (.ireturn, 1) := by decide +kernel
theorem dX6_isChain_0 : decode cX6_isChain 0 = .ok (.iload_n 0, 1) := by decide +kernel
theorem dX6_isChain_1 : decode cX6_isChain 1 = .ok (.ifCond .lt 12, 3) := by decide +kernel
theorem dX6_isChain_4 : decode cX6_isChain 4 = .ok (.iload_n 0, 1) := by decide +kernel
theorem dX6_isChain_5 : decode cX6_isChain 5 = .ok (.iconst 3, 1) := by decide +kernel
theorem dX6_isChain_6 : decode cX6_isChain 6 = .ok (.if_icmp .ge 7, 3) := by decide +kernel
theorem dX6_isChain_9 : decode cX6_isChain 9 = .ok (.iconst 1, 1) := by decide +kernel
theorem dX6_isChain_10 : decode cX6_isChain 10 = .ok (.goto 4, 3) := by decide +kernel
theorem dX6_isChain_13 : decode cX6_isChain 13 = .ok (.iconst 0, 1) := by decide +kernel
theorem dX6_isChain_14 : decode cX6_isChain 14 = .ok (.ireturn, 1) := by decide +kernel
theorem dX6_tell_0 : decode cX6_tell 0 = .ok (.bipush 10, 2) := by decide +kernel
theorem dX6_tell_2 : decode cX6_tell 2 = .ok (.iload_n 0, 1) := by decide +kernel
theorem dX6_tell_3 : decode cX6_tell 3 = .ok (.imul, 1) := by decide +kernel
theorem dX6_tell_4 : decode cX6_tell 4 = .ok (.iload_n 1, 1) := by decide +kernel
theorem dX6_tell_5 : decode cX6_tell 5 = .ok (.iadd, 1) := by decide +kernel
theorem dX6_tell_6 : decode cX6_tell 6 = .ok (.ireturn, 1) := by decide +kernel
theorem dX6_has_0 : decode cX6_has 0 = .ok (.iload_n 0, 1) := by decide +kernel
theorem dX6_has_1 : decode cX6_has 1 = .ok (.iconst 1, 1) := by decide +kernel
theorem dX6_has_2 : decode cX6_has 2 = .ok (.iload_n 1, 1) := by decide +kernel
theorem dX6_has_3 : decode cX6_has 3 = .ok (.ishl, 1) := by decide +kernel
theorem dX6_has_4 : decode cX6_has 4 = .ok (.iand, 1) := by decide +kernel
theorem dX6_has_5 : decode cX6_has 5 = .ok (.ifCond .eq 7, 3) := by decide +kernel
theorem dX6_has_8 : decode cX6_has 8 = .ok (.iconst 1, 1) := by decide +kernel
theorem dX6_has_9 : decode cX6_has 9 = .ok (.goto 4, 3) := by decide +kernel
theorem dX6_has_12 : decode cX6_has 12 = .ok (.iconst 0, 1) := by decide +kernel
theorem dX6_has_13 : decode cX6_has 13 = .ok (.ireturn, 1) := by decide +kernel
theorem dX6_lowest_0 : decode cX6_lowest 0 = .ok (.iload_n 0, 1) := by decide +kernel
theorem dX6_lowest_1 : decode cX6_lowest 1 = .ok (.iload_n 0, 1) := by decide +kernel
theorem dX6_lowest_2 : decode cX6_lowest 2 = .ok (.ineg, 1) := by decide +kernel
theorem dX6_lowest_3 : decode cX6_lowest 3 = .ok (.iand, 1) := by decide +kernel
theorem dX6_lowest_4 : decode cX6_lowest 4 = .ok (.iconst 1, 1) := by decide +kernel
theorem dX6_lowest_5 : decode cX6_lowest 5 = .ok (.isub, 1) := by decide +kernel
theorem dX6_lowest_6 : decode cX6_lowest 6 = .ok (.invokestatic 248, 3) := by decide +kernel
theorem dX6_lowest_9 : decode cX6_lowest 9 = .ok (.ireturn, 1) := by decide +kernel
