theorem dX3_init_0 : decode cX3_init 0 = .ok (.aload_n 0, 1) := by decide +kernel
theorem dX3_init_1 : decode cX3_init 1 = .ok (.invokespecial 3, 3) := by decide +kernel
theorem dX3_init_4 : decode cX3_init 4 = .ok (.aload_n 0, 1) := by decide +kernel
theorem dX3_init_5 : decode cX3_init 5 = .ok (.bipush 10, 2) := by decide +kernel
theorem dX3_init_7 : decode cX3_init 7 = .ok (.newarray .int, 2) := by decide +kernel
theorem dX3_init_9 : decode cX3_init 9 = .ok (.putfield 9, 3) := by decide +kernel
theorem dX3_init_12 : decode cX3_init 12 = .ok (.aload_n 0, 1) := by decide +kernel
theorem dX3_init_13 : decode cX3_init 13 = .ok (.bipush 10, 2) := by decide +kernel
theorem dX3_init_15 : decode cX3_init 15 = .ok (.newarray .int, 2) := by decide +kernel
theorem dX3_init_17 : decode cX3_init 17 = .ok (.putfield 15, 3) := by decide +kernel
theorem dX3_init_20 : decode cX3_init 20 = .ok (.aload_n 0, 1) := by decide +kernel
theorem dX3_init_21 : decode cX3_init 21 = .ok (.bipush 100, 2) := by decide +kernel
theorem dX3_init_23 : decode cX3_init 23 = .ok (.newarray .int, 2) := by decide +kernel
theorem dX3_init_25 : decode cX3_init 25 = .ok (.putfield 18, 3) := by decide +kernel
theorem dX3_init_28 : decode cX3_init 28 = .ok (.aload_n 0, 1) := by decide +kernel
theorem dX3_init_29 : decode cX3_init 29 = .ok (.iconst 4, 1) := by decide +kernel
theorem dX3_init_30 : decode cX3_init 30 = .ok (.invokevirtual 21, 3) := by decide +kernel
theorem dX3_init_33 : decode cX3_init 33 = .ok (.return_, 1) := by decide +kernel
theorem dX3_makeEmpty_0 : decode cX3_makeEmpty 0 = .ok (.aload_n 0, 1) := by decide +kernel
theorem dX3_makeEmpty_1 : decode cX3_makeEmpty 1 = .ok (.iload_n 1, 1) := by decide +kernel
theorem dX3_makeEmpty_2 : decode cX3_makeEmpty 2 = .ok (.putfield 25, 3) := by decide +kernel
theorem dX3_makeEmpty_5 : decode cX3_makeEmpty 5 = .ok (.aload_n 0, 1) := by decide +kernel
theorem dX3_makeEmpty_6 : decode cX3_makeEmpty 6 = .ok (.iconst 0, 1) := by decide +kernel
theorem dX3_makeEmpty_7 : decode cX3_makeEmpty 7 = .ok (.putfield 29, 3) := by decide +kernel
theorem dX3_makeEmpty_10 : decode cX3_makeEmpty 10 = .ok (.aload_n 0, 1) := by decide +kernel
theorem dX3_makeEmpty_11 : decode cX3_makeEmpty 11 = .ok (.getfield 9, 3) := by decide +kernel
theorem dX3_makeEmpty_14 : decode cX3_makeEmpty 14 = .ok (.iconst 0, 1) := by decide +kernel
theorem dX3_makeEmpty_15 : decode cX3_makeEmpty 15 = .ok (.invokestatic 32, 3) := by decide +kernel
theorem dX3_makeEmpty_18 : decode cX3_makeEmpty 18 = .ok (.aload_n 0, 1) := by decide +kernel
theorem dX3_makeEmpty_19 : decode cX3_makeEmpty 19 = .ok (.getfield 18, 3) := by decide +kernel
theorem dX3_makeEmpty_22 : decode cX3_makeEmpty 22 = .ok (.iconst (-1), 1) := by decide +kernel
theorem dX3_makeEmpty_23 : decode cX3_makeEmpty 23 = .ok (.invokestatic 32, 3) := by decide +kernel
theorem dX3_makeEmpty_26 : decode cX3_makeEmpty 26 = .ok (.iconst 0, 1) := by decide +kernel
theorem dX3_makeEmpty_27 : decode cX3_makeEmpty 27 = .ok (.istore_n 2, 1) := by decide +kernel
theorem dX3_makeEmpty_28 : decode cX3_makeEmpty 28 = .ok (.iload_n 2, 1) := by decide +kernel
theorem dX3_makeEmpty_29 : decode cX3_makeEmpty 29 = .ok (.bipush 10, 2) := by decide +kernel
theorem dX3_makeEmpty_31 : decode cX3_makeEmpty 31 = .ok (.if_icmp .ge 18, 3) := by decide +kernel
theorem dX3_makeEmpty_34 : decode cX3_makeEmpty 34 = .ok (.aload_n 0, 1) := by decide +kernel
theorem dX3_makeEmpty_35 : decode cX3_makeEmpty 35 = .ok (.getfield 15, 3) := by decide +kernel
theorem dX3_makeEmpty_38 : decode cX3_makeEmpty 38 = .ok (.iload_n 2, 1) := by decide +kernel
theorem dX3_makeEmpty_39 : decode cX3_makeEmpty 39 = .ok (.iconst 1, 1) := by decide +kernel
theorem dX3_makeEmpty_40 : decode cX3_makeEmpty 40 = .ok (.iload_n 2, 1) := by decide +kernel
theorem dX3_makeEmpty_41 : decode cX3_makeEmpty 41 = .ok (.ishl, 1) := by decide +kernel
theorem dX3_makeEmpty_42 : decode cX3_makeEmpty 42 = .ok (.iastore, 1) := by decide +kernel
theorem dX3_makeEmpty_43 : decode cX3_makeEmpty 43 = .ok (.iinc 2 1, 3) := by decide +kernel
theorem dX3_makeEmpty_46 : decode cX3_makeEmpty 46 = .ok (.goto (-18), 3) := by decide +kernel
theorem dX3_makeEmpty_49 : decode cX3_makeEmpty 49 = .ok (.return_, 1) := by decide +kernel
theorem dX3_copyFrom_0 : decode cX3_copyFrom 0 = .ok (.aload_n 0, 1) := by decide +kernel
theorem dX3_copyFrom_1 : decode cX3_copyFrom 1 = .ok (.aload_n 1, 1) := by decide +kernel
theorem dX3_copyFrom_2 : decode cX3_copyFrom 2 = .ok (.getfield 25, 3) := by decide +kernel
theorem dX3_copyFrom_5 : decode cX3_copyFrom 5 = .ok (.putfield 25, 3) := by decide +kernel
theorem dX3_copyFrom_8 : decode cX3_copyFrom 8 = .ok (.aload_n 0, 1) := by decide +kernel
theorem dX3_copyFrom_9 : decode cX3_copyFrom 9 = .ok (.aload_n 1, 1) := by decide +kernel
theorem dX3_copyFrom_10 : decode cX3_copyFrom 10 = .ok (.getfield 29, 3) := by decide +kernel
theorem dX3_copyFrom_13 : decode cX3_copyFrom 13 = .ok (.putfield 29, 3) := by decide +kernel
theorem dX3_copyFrom_16 : decode cX3_copyFrom 16 = .ok (.aload_n 1, 1) := by decide +kernel
theorem dX3_copyFrom_17 : decode cX3_copyFrom 17 = .ok (.getfield 9, 3) := by decide +kernel
theorem dX3_copyFrom_20 : decode cX3_copyFrom 20 = .ok (.iconst 0, 1) := by decide +kernel
theorem dX3_copyFrom_21 : decode cX3_copyFrom 21 = .ok (.aload_n 0, 1) := by decide +kernel
theorem dX3_copyFrom_22 : decode cX3_copyFrom 22 = .ok (.getfield 9, 3) := by decide +kernel
theorem dX3_copyFrom_25 : decode cX3_copyFrom 25 = .ok (.iconst 0, 1) := by decide +kernel
theorem dX3_copyFrom_26 : decode cX3_copyFrom 26 = .ok (.bipush 10, 2) := by decide +kernel
theorem dX3_copyFrom_28 : decode cX3_copyFrom 28 = .ok (.invokestatic 38, 3) := by decide +kernel
theorem dX3_copyFrom_31 : decode cX3_copyFrom 31 = .ok (.aload_n 1, 1) := by decide +kernel
theorem dX3_copyFrom_32 : decode cX3_copyFrom 32 = .ok (.getfield 15, 3) := by decide +kernel
theorem dX3_copyFrom_35 : decode cX3_copyFrom 35 = .ok (.iconst 0, 1) := by decide +kernel
theorem dX3_copyFrom_36 : decode cX3_copyFrom 36 = .ok (.aload_n 0, 1) := by decide +kernel
theorem dX3_copyFrom_37 : decode cX3_copyFrom 37 = .ok (.getfield 15, 3) := by decide +kernel
theorem dX3_copyFrom_40 : decode cX3_copyFrom 40 = .ok (.iconst 0, 1) := by decide +kernel
theorem dX3_copyFrom_41 : decode cX3_copyFrom 41 = .ok (.bipush 10, 2) := by decide +kernel
theorem dX3_copyFrom_43 : decode cX3_copyFrom 43 = .ok (.invokestatic 38, 3) := by decide +kernel
theorem dX3_copyFrom_46 : decode cX3_copyFrom 46 = .ok (.aload_n 1, 1) := by decide +kernel
theorem dX3_copyFrom_47 : decode cX3_copyFrom 47 = .ok (.getfield 18, 3) := by decide +kernel
theorem dX3_copyFrom_50 : decode cX3_copyFrom 50 = .ok (.iconst 0, 1) := by decide +kernel
theorem dX3_copyFrom_51 : decode cX3_copyFrom 51 = .ok (.aload_n 0, 1) := by decide +kernel
theorem dX3_copyFrom_52 : decode cX3_copyFrom 52 = .ok (.getfield 18, 3) := by decide +kernel
theorem dX3_copyFrom_55 : decode cX3_copyFrom 55 = .ok (.iconst 0, 1) := by decide +kernel
theorem dX3_copyFrom_56 : decode cX3_copyFrom 56 = .ok (.bipush 100, 2) := by decide +kernel
theorem dX3_copyFrom_58 : decode cX3_copyFrom 58 = .ok (.invokestatic 38, 3) := by decide +kernel
theorem dX3_copyFrom_61 : decode cX3_copyFrom 61 = .ok (.return_, 1) := by decide +kernel
theorem dX3_allPoints_0 : decode cX3_allPoints 0 = .ok (.iconst 1, 1) := by decide +kernel
theorem dX3_allPoints_1 : decode cX3_allPoints 1 = .ok (.aload_n 0, 1) := by decide +kernel
theorem dX3_allPoints_2 : decode cX3_allPoints 2 = .ok (.getfield 25, 3) := by decide +kernel
theorem dX3_allPoints_5 : decode cX3_allPoints 5 = .ok (.ishl, 1) := by decide +kernel
theorem dX3_allPoints_6 : decode cX3_allPoints 6 = .ok (.iconst 1, 1) := by decide +kernel
theorem dX3_allPoints_7 : decode cX3_allPoints 7 = .ok (.isub, 1) := by decide +kernel
theorem dX3_allPoints_8 : decode cX3_allPoints 8 = .ok (.ireturn, 1) := by decide +kernel
theorem dX3_hasArc_0 : decode cX3_hasArc 0 = .ok (.aload_n 0, 1) := by decide +kernel
theorem dX3_hasArc_1 : decode cX3_hasArc 1 = .ok (.getfield 9, 3) := by decide +kernel
theorem dX3_hasArc_4 : decode cX3_hasArc 4 = .ok (.iload_n 1, 1) := by decide +kernel
theorem dX3_hasArc_5 : decode cX3_hasArc 5 = .ok (.iaload, 1) := by decide +kernel
theorem dX3_hasArc_6 : decode cX3_hasArc 6 = .ok (.iload_n 2, 1) := by decide +kernel
theorem dX3_hasArc_7 : decode cX3_hasArc 7 = .ok (.invokestatic 44, 3) := by decide +kernel
theorem dX3_hasArc_10 : decode cX3_hasArc 10 = .ok (.ireturn, 1) := by decide +kernel
theorem dX3_arcs_0 : decode cX3_arcs 0 = .ok (.aload_n 0, 1) := by decide +kernel
theorem dX3_arcs_1 : decode cX3_arcs 1 = .ok (.aload_n 0, 1) := by decide +kernel
theorem dX3_arcs_2 : decode cX3_arcs 2 = .ok (.invokevirtual 48, 3) := by decide +kernel
theorem dX3_arcs_5 : decode cX3_arcs 5 = .ok (.aload_n 0, 1) := by decide +kernel
theorem dX3_arcs_6 : decode cX3_arcs 6 = .ok (.invokevirtual 48, 3) := by decide +kernel
theorem dX3_arcs_9 : decode cX3_arcs 9 = .ok (.invokevirtual 52, 3) := by decide +kernel
theorem dX3_arcs_12 : decode cX3_arcs 12 = .ok (.ireturn, 1) := by decide +kernel
theorem dX3_arcsBetween_0 : decode cX3_arcsBetween 0 = .ok (.iconst 0, 1) := by decide +kernel
theorem dX3_arcsBetween_1 : decode cX3_arcsBetween 1 = .ok (.istore_n 3, 1) := by decide +kernel
theorem dX3_arcsBetween_2 : decode cX3_arcsBetween 2 = .ok (.iconst 0, 1) := by decide +kernel
theorem dX3_arcsBetween_3 : decode cX3_arcsBetween 3 = .ok (.istore 4, 2) := by decide +kernel
theorem dX3_arcsBetween_5 : decode cX3_arcsBetween 5 = .ok (.iload 4, 2) := by decide +kernel
theorem dX3_arcsBetween_7 : decode cX3_arcsBetween 7 = .ok (.aload_n 0, 1) := by decide +kernel
theorem dX3_arcsBetween_8 : decode cX3_arcsBetween 8 = .ok (.getfield 25, 3) := by decide +kernel
theorem dX3_arcsBetween_11 : decode cX3_arcsBetween 11 = .ok (.if_icmp .ge 33, 3) := by decide +kernel
theorem dX3_arcsBetween_14 : decode cX3_arcsBetween 14 = .ok (.iload_n 1, 1) := by decide +kernel
theorem dX3_arcsBetween_15 : decode cX3_arcsBetween 15 = .ok (.iload 4, 2) := by decide +kernel
theorem dX3_arcsBetween_17 : decode cX3_arcsBetween 17 = .ok (.invokestatic 44, 3) := by decide +kernel
theorem dX3_arcsBetween_20 : decode cX3_arcsBetween 20 = .ok (.ifCond .eq 18, 3) := by decide +kernel
theorem dX3_arcsBetween_23 : decode cX3_arcsBetween 23 = .ok (.iload_n 3, 1) := by decide +kernel
theorem dX3_arcsBetween_24 : decode cX3_arcsBetween 24 = .ok (.aload_n 0, 1) := by decide +kernel
theorem dX3_arcsBetween_25 : decode cX3_arcsBetween 25 = .ok (.getfield 9, 3) := by decide +kernel
theorem dX3_arcsBetween_28 : decode cX3_arcsBetween 28 = .ok (.iload 4, 2) := by decide +kernel
theorem dX3_arcsBetween_30 : decode cX3_arcsBetween 30 = .ok (.iaload, 1) := by decide +kernel
theorem dX3_arcsBetween_31 : decode cX3_arcsBetween 31 = .ok (.iload_n 2, 1) := by decide +kernel
theorem dX3_arcsBetween_32 : decode cX3_arcsBetween 32 = .ok (.iand, 1) := by decide +kernel
theorem dX3_arcsBetween_33 : decode cX3_arcsBetween 33 = .ok (.invokestatic 56, 3) := by decide +kernel
theorem dX3_arcsBetween_36 : decode cX3_arcsBetween 36 = .ok (.iadd, 1) := by decide +kernel
theorem dX3_arcsBetween_37 : decode cX3_arcsBetween 37 = .ok (.istore_n 3, 1) := by decide +kernel
theorem dX3_arcsBetween_38 : decode cX3_arcsBetween 38 = .ok (.iinc 4 1, 3) := by decide +kernel
theorem dX3_arcsBetween_41 : decode cX3_arcsBetween 41 = .ok (.goto (-36), 3) := by decide +kernel
theorem dX3_arcsBetween_44 : decode cX3_arcsBetween 44 = .ok (.iload_n 3, 1) := by decide +kernel
theorem dX3_arcsBetween_45 : decode cX3_arcsBetween 45 = .ok (.ireturn, 1) := by decide +kernel
theorem dX3_comesTo_0 : decode cX3_comesTo 0 = .ok (.aload_n 0, 1) := by decide +kernel
theorem dX3_comesTo_1 : decode cX3_comesTo 1 = .ok (.getfield 15, 3) := by decide +kernel
theorem dX3_comesTo_4 : decode cX3_comesTo 4 = .ok (.iload_n 1, 1) := by decide +kernel
theorem dX3_comesTo_5 : decode cX3_comesTo 5 = .ok (.iaload, 1) := by decide +kernel
theorem dX3_comesTo_6 : decode cX3_comesTo 6 = .ok (.iload_n 2, 1) := by decide +kernel
theorem dX3_comesTo_7 : decode cX3_comesTo 7 = .ok (.invokestatic 44, 3) := by decide +kernel
theorem dX3_comesTo_10 : decode cX3_comesTo 10 = .ok (.ireturn, 1) := by decide +kernel
theorem dX3_pairs_0 : decode cX3_pairs 0 = .ok (.iconst 0, 1) := by decide +kernel
theorem dX3_pairs_1 : decode cX3_pairs 1 = .ok (.istore_n 1, 1) := by decide +kernel
theorem dX3_pairs_2 : decode cX3_pairs 2 = .ok (.iconst 0, 1) := by decide +kernel
theorem dX3_pairs_3 : decode cX3_pairs 3 = .ok (.istore_n 2, 1) := by decide +kernel
theorem dX3_pairs_4 : decode cX3_pairs 4 = .ok (.iload_n 2, 1) := by decide +kernel
theorem dX3_pairs_5 : decode cX3_pairs 5 = .ok (.aload_n 0, 1) := by decide +kernel
theorem dX3_pairs_6 : decode cX3_pairs 6 = .ok (.getfield 25, 3) := by decide +kernel
theorem dX3_pairs_9 : decode cX3_pairs 9 = .ok (.if_icmp .ge 23, 3) := by decide +kernel
theorem dX3_pairs_12 : decode cX3_pairs 12 = .ok (.iload_n 1, 1) := by decide +kernel
theorem dX3_pairs_13 : decode cX3_pairs 13 = .ok (.aload_n 0, 1) := by decide +kernel
theorem dX3_pairs_14 : decode cX3_pairs 14 = .ok (.getfield 15, 3) := by decide +kernel
theorem dX3_pairs_17 : decode cX3_pairs 17 = .ok (.iload_n 2, 1) := by decide +kernel
theorem dX3_pairs_18 : decode cX3_pairs 18 = .ok (.iaload, 1) := by decide +kernel
theorem dX3_pairs_19 : decode cX3_pairs 19 = .ok (.invokestatic 56, 3) := by decide +kernel
theorem dX3_pairs_22 : decode cX3_pairs 22 = .ok (.iconst 1, 1) := by decide +kernel
theorem dX3_pairs_23 : decode cX3_pairs 23 = .ok (.isub, 1) := by decide +kernel
theorem dX3_pairs_24 : decode cX3_pairs 24 = .ok (.iadd, 1) := by decide +kernel
theorem dX3_pairs_25 : decode cX3_pairs 25 = .ok (.istore_n 1, 1) := by decide +kernel
theorem dX3_pairs_26 : decode cX3_pairs 26 = .ok (.iinc 2 1, 3) := by decide +kernel
theorem dX3_pairs_29 : decode cX3_pairs 29 = .ok (.goto (-25), 3) := by decide +kernel
theorem dX3_pairs_32 : decode cX3_pairs 32 = .ok (.iload_n 1, 1) := by decide +kernel
theorem dX3_pairs_33 : decode cX3_pairs 33 = .ok (.ireturn, 1) := by decide +kernel
theorem dX3_aboveOf_0 : decode cX3_aboveOf 0 = .ok (.aload_n 0, 1) := by decide +kernel
theorem dX3_aboveOf_1 : decode cX3_aboveOf 1 = .ok (.getfield 18, 3) := by decide +kernel
theorem dX3_aboveOf_4 : decode cX3_aboveOf 4 = .ok (.iload_n 1, 1) := by decide +kernel
theorem dX3_aboveOf_5 : decode cX3_aboveOf 5 = .ok (.bipush 10, 2) := by decide +kernel
theorem dX3_aboveOf_7 : decode cX3_aboveOf 7 = .ok (.imul, 1) := by decide +kernel
theorem dX3_aboveOf_8 : decode cX3_aboveOf 8 = .ok (.iload_n 2, 1) := by decide +kernel
theorem dX3_aboveOf_9 : decode cX3_aboveOf 9 = .ok (.iadd, 1) := by decide +kernel
theorem dX3_aboveOf_10 : decode cX3_aboveOf 10 = .ok (.iaload, 1) := by decide +kernel
theorem dX3_aboveOf_11 : decode cX3_aboveOf 11 = .ok (.ireturn, 1) := by decide +kernel
theorem dX3_depthOf_0 : decode cX3_depthOf 0 = .ok (.iconst 0, 1) := by decide +kernel
theorem dX3_depthOf_1 : decode cX3_depthOf 1 = .ok (.istore_n 3, 1) := by decide +kernel
theorem dX3_depthOf_2 : decode cX3_depthOf 2 = .ok (.iload_n 2, 1) := by decide +kernel
theorem dX3_depthOf_3 : decode cX3_depthOf 3 = .ok (.istore 4, 2) := by decide +kernel
theorem dX3_depthOf_5 : decode cX3_depthOf 5 = .ok (.iload 4, 2) := by decide +kernel
theorem dX3_depthOf_7 : decode cX3_depthOf 7 = .ok (.iload_n 1, 1) := by decide +kernel
theorem dX3_depthOf_8 : decode cX3_depthOf 8 = .ok (.if_icmp .eq 30, 3) := by decide +kernel
theorem dX3_depthOf_11 : decode cX3_depthOf 11 = .ok (.iload 4, 2) := by decide +kernel
theorem dX3_depthOf_13 : decode cX3_depthOf 13 = .ok (.iconst (-1), 1) := by decide +kernel
theorem dX3_depthOf_14 : decode cX3_depthOf 14 = .ok (.if_icmp .eq 24, 3) := by decide +kernel
theorem dX3_depthOf_17 : decode cX3_depthOf 17 = .ok (.iload_n 3, 1) := by decide +kernel
theorem dX3_depthOf_18 : decode cX3_depthOf 18 = .ok (.bipush 10, 2) := by decide +kernel
theorem dX3_depthOf_20 : decode cX3_depthOf 20 = .ok (.if_icmp .ge 18, 3) := by decide +kernel
theorem dX3_depthOf_23 : decode cX3_depthOf 23 = .ok (.aload_n 0, 1) := by decide +kernel
theorem dX3_depthOf_24 : decode cX3_depthOf 24 = .ok (.iload_n 1, 1) := by decide +kernel
theorem dX3_depthOf_25 : decode cX3_depthOf 25 = .ok (.iload 4, 2) := by decide +kernel
theorem dX3_depthOf_27 : decode cX3_depthOf 27 = .ok (.invokevirtual 62, 3) := by decide +kernel
theorem dX3_depthOf_30 : decode cX3_depthOf 30 = .ok (.istore 4, 2) := by decide +kernel
theorem dX3_depthOf_32 : decode cX3_depthOf 32 = .ok (.iinc 3 1, 3) := by decide +kernel
theorem dX3_depthOf_35 : decode cX3_depthOf 35 = .ok (.goto (-30), 3) := by decide +kernel
theorem dX3_depthOf_38 : decode cX3_depthOf 38 = .ok (.iload_n 3, 1) := by decide +kernel
theorem dX3_depthOf_39 : decode cX3_depthOf 39 = .ok (.ireturn, 1) := by decide +kernel
theorem dX3_climb_0 : decode cX3_climb 0 = .ok (.iload_n 2, 1) := by decide +kernel
theorem dX3_climb_1 : decode cX3_climb 1 = .ok (.istore 4, 2) := by decide +kernel
theorem dX3_climb_3 : decode cX3_climb 3 = .ok (.iconst 0, 1) := by decide +kernel
theorem dX3_climb_4 : decode cX3_climb 4 = .ok (.istore 5, 2) := by decide +kernel
theorem dX3_climb_6 : decode cX3_climb 6 = .ok (.iload 5, 2) := by decide +kernel
theorem dX3_climb_8 : decode cX3_climb 8 = .ok (.iload_n 3, 1) := by decide +kernel
theorem dX3_climb_9 : decode cX3_climb 9 = .ok (.if_icmp .ge 24, 3) := by decide +kernel
theorem dX3_climb_12 : decode cX3_climb 12 = .ok (.iload 4, 2) := by decide +kernel
theorem dX3_climb_14 : decode cX3_climb 14 = .ok (.iconst (-1), 1) := by decide +kernel
theorem dX3_climb_15 : decode cX3_climb 15 = .ok (.if_icmp .eq 18, 3) := by decide +kernel
theorem dX3_climb_18 : decode cX3_climb 18 = .ok (.aload_n 0, 1) := by decide +kernel
theorem dX3_climb_19 : decode cX3_climb 19 = .ok (.iload_n 1, 1) := by decide +kernel
theorem dX3_climb_20 : decode cX3_climb 20 = .ok (.iload 4, 2) := by decide +kernel
theorem dX3_climb_22 : decode cX3_climb 22 = .ok (.invokevirtual 62, 3) := by decide +kernel
theorem dX3_climb_25 : decode cX3_climb 25 = .ok (.istore 4, 2) := by decide +kernel
theorem dX3_climb_27 : decode cX3_climb 27 = .ok (.iinc 5 1, 3) := by decide +kernel
theorem dX3_climb_30 : decode cX3_climb 30 = .ok (.goto (-24), 3) := by decide +kernel
theorem dX3_climb_33 : decode cX3_climb 33 = .ok (.iload 4, 2) := by decide +kernel
theorem dX3_climb_35 : decode cX3_climb 35 = .ok (.ireturn, 1) := by decide +kernel
theorem dX3_putIn_0 : decode cX3_putIn 0 = .ok (.aload_n 0, 1) := by decide +kernel
theorem dX3_putIn_1 : decode cX3_putIn 1 = .ok (.getfield 9, 3) := by decide +kernel
theorem dX3_putIn_4 : decode cX3_putIn 4 = .ok (.iload_n 1, 1) := by decide +kernel
theorem dX3_putIn_5 : decode cX3_putIn 5 = .ok (.dup2, 1) := by decide +kernel
theorem dX3_putIn_6 : decode cX3_putIn 6 = .ok (.iaload, 1) := by decide +kernel
theorem dX3_putIn_7 : decode cX3_putIn 7 = .ok (.iconst 1, 1) := by decide +kernel
theorem dX3_putIn_8 : decode cX3_putIn 8 = .ok (.iload_n 2, 1) := by decide +kernel
theorem dX3_putIn_9 : decode cX3_putIn 9 = .ok (.ishl, 1) := by decide +kernel
theorem dX3_putIn_10 : decode cX3_putIn 10 = .ok (.ior, 1) := by decide +kernel
theorem dX3_putIn_11 : decode cX3_putIn 11 = .ok (.iastore, 1) := by decide +kernel
theorem dX3_putIn_12 : decode cX3_putIn 12 = .ok (.iconst 0, 1) := by decide +kernel
theorem dX3_putIn_13 : decode cX3_putIn 13 = .ok (.istore_n 3, 1) := by decide +kernel
theorem dX3_putIn_14 : decode cX3_putIn 14 = .ok (.iload_n 3, 1) := by decide +kernel
theorem dX3_putIn_15 : decode cX3_putIn 15 = .ok (.aload_n 0, 1) := by decide +kernel
theorem dX3_putIn_16 : decode cX3_putIn 16 = .ok (.getfield 25, 3) := by decide +kernel
theorem dX3_putIn_19 : decode cX3_putIn 19 = .ok (.if_icmp .ge 45, 3) := by decide +kernel
theorem dX3_putIn_22 : decode cX3_putIn 22 = .ok (.aload_n 0, 1) := by decide +kernel
theorem dX3_putIn_23 : decode cX3_putIn 23 = .ok (.iload_n 3, 1) := by decide +kernel
theorem dX3_putIn_24 : decode cX3_putIn 24 = .ok (.iload_n 1, 1) := by decide +kernel
theorem dX3_putIn_25 : decode cX3_putIn 25 = .ok (.invokevirtual 65, 3) := by decide +kernel
theorem dX3_putIn_28 : decode cX3_putIn 28 = .ok (.ifCond .eq 30, 3) := by decide +kernel
theorem dX3_putIn_31 : decode cX3_putIn 31 = .ok (.aload_n 0, 1) := by decide +kernel
theorem dX3_putIn_32 : decode cX3_putIn 32 = .ok (.dup, 1) := by decide +kernel
theorem dX3_putIn_33 : decode cX3_putIn 33 = .ok (.getfield 29, 3) := by decide +kernel
theorem dX3_putIn_36 : decode cX3_putIn 36 = .ok (.iconst 1, 1) := by decide +kernel
theorem dX3_putIn_37 : decode cX3_putIn 37 = .ok (.iadd, 1) := by decide +kernel
theorem dX3_putIn_38 : decode cX3_putIn 38 = .ok (.putfield 29, 3) := by decide +kernel
theorem dX3_putIn_41 : decode cX3_putIn 41 = .ok (.aload_n 0, 1) := by decide +kernel
theorem dX3_putIn_42 : decode cX3_putIn 42 = .ok (.iload_n 3, 1) := by decide +kernel
theorem dX3_putIn_43 : decode cX3_putIn 43 = .ok (.iload_n 2, 1) := by decide +kernel
theorem dX3_putIn_44 : decode cX3_putIn 44 = .ok (.invokevirtual 65, 3) := by decide +kernel
theorem dX3_putIn_47 : decode cX3_putIn 47 = .ok (.ifCond .ne 11, 3) := by decide +kernel
theorem dX3_putIn_50 : decode cX3_putIn 50 = .ok (.aload_n 0, 1) := by decide +kernel
theorem dX3_putIn_51 : decode cX3_putIn 51 = .ok (.iload_n 3, 1) := by decide +kernel
theorem dX3_putIn_52 : decode cX3_putIn 52 = .ok (.iload_n 2, 1) := by decide +kernel
theorem dX3_putIn_53 : decode cX3_putIn 53 = .ok (.iload_n 1, 1) := by decide +kernel
theorem dX3_putIn_54 : decode cX3_putIn 54 = .ok (.iconst 1, 1) := by decide +kernel
theorem dX3_putIn_55 : decode cX3_putIn 55 = .ok (.invokevirtual 68, 3) := by decide +kernel
theorem dX3_putIn_58 : decode cX3_putIn 58 = .ok (.iinc 3 1, 3) := by decide +kernel
theorem dX3_putIn_61 : decode cX3_putIn 61 = .ok (.goto (-47), 3) := by decide +kernel
theorem dX3_putIn_64 : decode cX3_putIn 64 = .ok (.return_, 1) := by decide +kernel
theorem dX3_graft_0 : decode cX3_graft 0 = .ok (.iload 4, 2) := by decide +kernel
theorem dX3_graft_2 : decode cX3_graft 2 = .ok (.bipush 10, 2) := by decide +kernel
theorem dX3_graft_4 : decode cX3_graft 4 = .ok (.if_icmp .le 4, 3) := by decide +kernel
theorem dX3_graft_7 : decode cX3_graft 7 = .ok (.return_, 1) := by decide +kernel
theorem dX3_graft_8 : decode cX3_graft 8 = .ok (.aload_n 0, 1) := by decide +kernel
theorem dX3_graft_9 : decode cX3_graft 9 = .ok (.getfield 15, 3) := by decide +kernel
theorem dX3_graft_12 : decode cX3_graft 12 = .ok (.iload_n 1, 1) := by decide +kernel
theorem dX3_graft_13 : decode cX3_graft 13 = .ok (.dup2, 1) := by decide +kernel
theorem dX3_graft_14 : decode cX3_graft 14 = .ok (.iaload, 1) := by decide +kernel
theorem dX3_graft_15 : decode cX3_graft 15 = .ok (.iconst 1, 1) := by decide +kernel
theorem dX3_graft_16 : decode cX3_graft 16 = .ok (.iload_n 2, 1) := by decide +kernel
theorem dX3_graft_17 : decode cX3_graft 17 = .ok (.ishl, 1) := by decide +kernel
theorem dX3_graft_18 : decode cX3_graft 18 = .ok (.ior, 1) := by decide +kernel
theorem dX3_graft_19 : decode cX3_graft 19 = .ok (.iastore, 1) := by decide +kernel
theorem dX3_graft_20 : decode cX3_graft 20 = .ok (.aload_n 0, 1) := by decide +kernel
theorem dX3_graft_21 : decode cX3_graft 21 = .ok (.getfield 18, 3) := by decide +kernel
theorem dX3_graft_24 : decode cX3_graft 24 = .ok (.iload_n 1, 1) := by decide +kernel
theorem dX3_graft_25 : decode cX3_graft 25 = .ok (.bipush 10, 2) := by decide +kernel
theorem dX3_graft_27 : decode cX3_graft 27 = .ok (.imul, 1) := by decide +kernel
theorem dX3_graft_28 : decode cX3_graft 28 = .ok (.iload_n 2, 1) := by decide +kernel
theorem dX3_graft_29 : decode cX3_graft 29 = .ok (.iadd, 1) := by decide +kernel
theorem dX3_graft_30 : decode cX3_graft 30 = .ok (.iload_n 3, 1) := by decide +kernel
theorem dX3_graft_31 : decode cX3_graft 31 = .ok (.iastore, 1) := by decide +kernel
theorem dX3_graft_32 : decode cX3_graft 32 = .ok (.aload_n 0, 1) := by decide +kernel
theorem dX3_graft_33 : decode cX3_graft 33 = .ok (.iload_n 1, 1) := by decide +kernel
theorem dX3_graft_34 : decode cX3_graft 34 = .ok (.iload_n 2, 1) := by decide +kernel
theorem dX3_graft_35 : decode cX3_graft 35 = .ok (.iload 4, 2) := by decide +kernel
theorem dX3_graft_37 : decode cX3_graft 37 = .ok (.invokevirtual 72, 3) := by decide +kernel
theorem dX3_graft_40 : decode cX3_graft 40 = .ok (.return_, 1) := by decide +kernel
theorem dX3_followArcs_0 : decode cX3_followArcs 0 = .ok (.iconst 0, 1) := by decide +kernel
theorem dX3_followArcs_1 : decode cX3_followArcs 1 = .ok (.istore 4, 2) := by decide +kernel
theorem dX3_followArcs_3 : decode cX3_followArcs 3 = .ok (.iload 4, 2) := by decide +kernel
theorem dX3_followArcs_5 : decode cX3_followArcs 5 = .ok (.aload_n 0, 1) := by decide +kernel
theorem dX3_followArcs_6 : decode cX3_followArcs 6 = .ok (.getfield 25, 3) := by decide +kernel
theorem dX3_followArcs_9 : decode cX3_followArcs 9 = .ok (.if_icmp .ge 50, 3) := by decide +kernel
theorem dX3_followArcs_12 : decode cX3_followArcs 12 = .ok (.aload_n 0, 1) := by decide +kernel
theorem dX3_followArcs_13 : decode cX3_followArcs 13 = .ok (.iload_n 2, 1) := by decide +kernel
theorem dX3_followArcs_14 : decode cX3_followArcs 14 = .ok (.iload 4, 2) := by decide +kernel
theorem dX3_followArcs_16 : decode cX3_followArcs 16 = .ok (.invokevirtual 76, 3) := by decide +kernel
theorem dX3_followArcs_19 : decode cX3_followArcs 19 = .ok (.ifCond .eq 34, 3) := by decide +kernel
theorem dX3_followArcs_22 : decode cX3_followArcs 22 = .ok (.aload_n 0, 1) := by decide +kernel
theorem dX3_followArcs_23 : decode cX3_followArcs 23 = .ok (.dup, 1) := by decide +kernel
theorem dX3_followArcs_24 : decode cX3_followArcs 24 = .ok (.getfield 29, 3) := by decide +kernel
theorem dX3_followArcs_27 : decode cX3_followArcs 27 = .ok (.iconst 1, 1) := by decide +kernel
theorem dX3_followArcs_28 : decode cX3_followArcs 28 = .ok (.iadd, 1) := by decide +kernel
theorem dX3_followArcs_29 : decode cX3_followArcs 29 = .ok (.putfield 29, 3) := by decide +kernel
theorem dX3_followArcs_32 : decode cX3_followArcs 32 = .ok (.aload_n 0, 1) := by decide +kernel
theorem dX3_followArcs_33 : decode cX3_followArcs 33 = .ok (.iload_n 1, 1) := by decide +kernel
theorem dX3_followArcs_34 : decode cX3_followArcs 34 = .ok (.iload 4, 2) := by decide +kernel
theorem dX3_followArcs_36 : decode cX3_followArcs 36 = .ok (.invokevirtual 65, 3) := by decide +kernel
theorem dX3_followArcs_39 : decode cX3_followArcs 39 = .ok (.ifCond .ne 14, 3) := by decide +kernel
theorem dX3_followArcs_42 : decode cX3_followArcs 42 = .ok (.aload_n 0, 1) := by decide +kernel
theorem dX3_followArcs_43 : decode cX3_followArcs 43 = .ok (.iload_n 1, 1) := by decide +kernel
theorem dX3_followArcs_44 : decode cX3_followArcs 44 = .ok (.iload 4, 2) := by decide +kernel
theorem dX3_followArcs_46 : decode cX3_followArcs 46 = .ok (.iload_n 2, 1) := by decide +kernel
theorem dX3_followArcs_47 : decode cX3_followArcs 47 = .ok (.iload_n 3, 1) := by decide +kernel
theorem dX3_followArcs_48 : decode cX3_followArcs 48 = .ok (.iconst 1, 1) := by decide +kernel
theorem dX3_followArcs_49 : decode cX3_followArcs 49 = .ok (.iadd, 1) := by decide +kernel
theorem dX3_followArcs_50 : decode cX3_followArcs 50 = .ok (.invokevirtual 68, 3) := by decide +kernel
theorem dX3_followArcs_53 : decode cX3_followArcs 53 = .ok (.iinc 4 1, 3) := by decide +kernel
theorem dX3_followArcs_56 : decode cX3_followArcs 56 = .ok (.goto (-53), 3) := by decide +kernel
theorem dX3_followArcs_59 : decode cX3_followArcs 59 = .ok (.return_, 1) := by decide +kernel
theorem dX3_takeOut_0 : decode cX3_takeOut 0 = .ok (.iconst 0, 1) := by decide +kernel
theorem dX3_takeOut_1 : decode cX3_takeOut 1 = .ok (.istore_n 3, 1) := by decide +kernel
theorem dX3_takeOut_2 : decode cX3_takeOut 2 = .ok (.iload_n 3, 1) := by decide +kernel
theorem dX3_takeOut_3 : decode cX3_takeOut 3 = .ok (.aload_n 0, 1) := by decide +kernel
theorem dX3_takeOut_4 : decode cX3_takeOut 4 = .ok (.getfield 25, 3) := by decide +kernel
theorem dX3_takeOut_7 : decode cX3_takeOut 7 = .ok (.if_icmp .ge 29, 3) := by decide +kernel
theorem dX3_takeOut_10 : decode cX3_takeOut 10 = .ok (.iload_n 1, 1) := by decide +kernel
theorem dX3_takeOut_11 : decode cX3_takeOut 11 = .ok (.iload_n 3, 1) := by decide +kernel
theorem dX3_takeOut_12 : decode cX3_takeOut 12 = .ok (.invokestatic 44, 3) := by decide +kernel
theorem dX3_takeOut_15 : decode cX3_takeOut 15 = .ok (.ifCond .eq 15, 3) := by decide +kernel
theorem dX3_takeOut_18 : decode cX3_takeOut 18 = .ok (.aload_n 0, 1) := by decide +kernel
theorem dX3_takeOut_19 : decode cX3_takeOut 19 = .ok (.getfield 9, 3) := by decide +kernel
theorem dX3_takeOut_22 : decode cX3_takeOut 22 = .ok (.iload_n 3, 1) := by decide +kernel
theorem dX3_takeOut_23 : decode cX3_takeOut 23 = .ok (.dup2, 1) := by decide +kernel
theorem dX3_takeOut_24 : decode cX3_takeOut 24 = .ok (.iaload, 1) := by decide +kernel
theorem dX3_takeOut_25 : decode cX3_takeOut 25 = .ok (.iload_n 2, 1) := by decide +kernel
theorem dX3_takeOut_26 : decode cX3_takeOut 26 = .ok (.iconst (-1), 1) := by decide +kernel
theorem dX3_takeOut_27 : decode cX3_takeOut 27 = .ok (.ixor, 1) := by decide +kernel
theorem dX3_takeOut_28 : decode cX3_takeOut 28 = .ok (.iand, 1) := by decide +kernel
theorem dX3_takeOut_29 : decode cX3_takeOut 29 = .ok (.iastore, 1) := by decide +kernel
theorem dX3_takeOut_30 : decode cX3_takeOut 30 = .ok (.iinc 3 1, 3) := by decide +kernel
theorem dX3_takeOut_33 : decode cX3_takeOut 33 = .ok (.goto (-31), 3) := by decide +kernel
theorem dX3_takeOut_36 : decode cX3_takeOut 36 = .ok (.iconst 0, 1) := by decide +kernel
theorem dX3_takeOut_37 : decode cX3_takeOut 37 = .ok (.istore_n 3, 1) := by decide +kernel
theorem dX3_takeOut_38 : decode cX3_takeOut 38 = .ok (.iload_n 3, 1) := by decide +kernel
theorem dX3_takeOut_39 : decode cX3_takeOut 39 = .ok (.aload_n 0, 1) := by decide +kernel
theorem dX3_takeOut_40 : decode cX3_takeOut 40 = .ok (.getfield 25, 3) := by decide +kernel
theorem dX3_takeOut_43 : decode cX3_takeOut 43 = .ok (.if_icmp .ge 24, 3) := by decide +kernel
theorem dX3_takeOut_46 : decode cX3_takeOut 46 = .ok (.aload_n 0, 1) := by decide +kernel
theorem dX3_takeOut_47 : decode cX3_takeOut 47 = .ok (.iload_n 3, 1) := by decide +kernel
theorem dX3_takeOut_48 : decode cX3_takeOut 48 = .ok (.iload_n 1, 1) := by decide +kernel
theorem dX3_takeOut_49 : decode cX3_takeOut 49 = .ok (.iload_n 2, 1) := by decide +kernel
theorem dX3_takeOut_50 : decode cX3_takeOut 50 = .ok (.invokevirtual 79, 3) := by decide +kernel
theorem dX3_takeOut_53 : decode cX3_takeOut 53 = .ok (.ifCond .eq 8, 3) := by decide +kernel
theorem dX3_takeOut_56 : decode cX3_takeOut 56 = .ok (.aload_n 0, 1) := by decide +kernel
theorem dX3_takeOut_57 : decode cX3_takeOut 57 = .ok (.iload_n 3, 1) := by decide +kernel
theorem dX3_takeOut_58 : decode cX3_takeOut 58 = .ok (.invokevirtual 83, 3) := by decide +kernel
theorem dX3_takeOut_61 : decode cX3_takeOut 61 = .ok (.iinc 3 1, 3) := by decide +kernel
theorem dX3_takeOut_64 : decode cX3_takeOut 64 = .ok (.goto (-26), 3) := by decide +kernel
theorem dX3_takeOut_67 : decode cX3_takeOut 67 = .ok (.return_, 1) := by decide +kernel
theorem dX3_stoodOn_0 : decode cX3_stoodOn 0 = .ok (.iconst 0, 1) := by decide +kernel
theorem dX3_stoodOn_1 : decode cX3_stoodOn 1 = .ok (.istore 4, 2) := by decide +kernel
theorem dX3_stoodOn_3 : decode cX3_stoodOn 3 = .ok (.iload 4, 2) := by decide +kernel
theorem dX3_stoodOn_5 : decode cX3_stoodOn 5 = .ok (.aload_n 0, 1) := by decide +kernel
theorem dX3_stoodOn_6 : decode cX3_stoodOn 6 = .ok (.getfield 25, 3) := by decide +kernel
theorem dX3_stoodOn_9 : decode cX3_stoodOn 9 = .ok (.if_icmp .ge 44, 3) := by decide +kernel
theorem dX3_stoodOn_12 : decode cX3_stoodOn 12 = .ok (.aload_n 0, 1) := by decide +kernel
theorem dX3_stoodOn_13 : decode cX3_stoodOn 13 = .ok (.iload_n 1, 1) := by decide +kernel
theorem dX3_stoodOn_14 : decode cX3_stoodOn 14 = .ok (.iload 4, 2) := by decide +kernel
theorem dX3_stoodOn_16 : decode cX3_stoodOn 16 = .ok (.invokevirtual 62, 3) := by decide +kernel
theorem dX3_stoodOn_19 : decode cX3_stoodOn 19 = .ok (.istore 5, 2) := by decide +kernel
theorem dX3_stoodOn_21 : decode cX3_stoodOn 21 = .ok (.iload 5, 2) := by decide +kernel
theorem dX3_stoodOn_23 : decode cX3_stoodOn 23 = .ok (.iconst (-1), 1) := by decide +kernel
theorem dX3_stoodOn_24 : decode cX3_stoodOn 24 = .ok (.if_icmp .eq 23, 3) := by decide +kernel
theorem dX3_stoodOn_27 : decode cX3_stoodOn 27 = .ok (.iload_n 2, 1) := by decide +kernel
theorem dX3_stoodOn_28 : decode cX3_stoodOn 28 = .ok (.iload 5, 2) := by decide +kernel
theorem dX3_stoodOn_30 : decode cX3_stoodOn 30 = .ok (.invokestatic 44, 3) := by decide +kernel
theorem dX3_stoodOn_33 : decode cX3_stoodOn 33 = .ok (.ifCond .eq 14, 3) := by decide +kernel
theorem dX3_stoodOn_36 : decode cX3_stoodOn 36 = .ok (.iload_n 3, 1) := by decide +kernel
theorem dX3_stoodOn_37 : decode cX3_stoodOn 37 = .ok (.iload 4, 2) := by decide +kernel
theorem dX3_stoodOn_39 : decode cX3_stoodOn 39 = .ok (.invokestatic 44, 3) := by decide +kernel
theorem dX3_stoodOn_42 : decode cX3_stoodOn 42 = .ok (.ifCond .eq 5, 3) := by decide +kernel
theorem dX3_stoodOn_45 : decode cX3_stoodOn 45 = .ok (.iconst 1, 1) := by decide +kernel
theorem dX3_stoodOn_46 : decode cX3_stoodOn 46 = .ok (.ireturn, 1) := by decide +kernel
theorem dX3_stoodOn_47 : decode cX3_stoodOn 47 = .ok (.iinc 4 1, 3) := by decide +kernel
theorem dX3_stoodOn_50 : decode cX3_stoodOn 50 = .ok (.goto (-47), 3) := by decide +kernel
theorem dX3_stoodOn_53 : decode cX3_stoodOn 53 = .ok (.iconst 0, 1) := by decide +kernel
theorem dX3_stoodOn_54 : decode cX3_stoodOn 54 = .ok (.ireturn, 1) := by decide +kernel
theorem dX3_makeAnew_0 : decode cX3_makeAnew 0 = .ok (.aload_n 0, 1) := by decide +kernel
theorem dX3_makeAnew_1 : decode cX3_makeAnew 1 = .ok (.getfield 15, 3) := by decide +kernel
theorem dX3_makeAnew_4 : decode cX3_makeAnew 4 = .ok (.iload_n 1, 1) := by decide +kernel
theorem dX3_makeAnew_5 : decode cX3_makeAnew 5 = .ok (.iconst 1, 1) := by decide +kernel
theorem dX3_makeAnew_6 : decode cX3_makeAnew 6 = .ok (.iload_n 1, 1) := by decide +kernel
theorem dX3_makeAnew_7 : decode cX3_makeAnew 7 = .ok (.ishl, 1) := by decide +kernel
theorem dX3_makeAnew_8 : decode cX3_makeAnew 8 = .ok (.iastore, 1) := by decide +kernel
theorem dX3_makeAnew_9 : decode cX3_makeAnew 9 = .ok (.iconst 0, 1) := by decide +kernel
theorem dX3_makeAnew_10 : decode cX3_makeAnew 10 = .ok (.istore_n 2, 1) := by decide +kernel
theorem dX3_makeAnew_11 : decode cX3_makeAnew 11 = .ok (.iload_n 2, 1) := by decide +kernel
theorem dX3_makeAnew_12 : decode cX3_makeAnew 12 = .ok (.aload_n 0, 1) := by decide +kernel
theorem dX3_makeAnew_13 : decode cX3_makeAnew 13 = .ok (.getfield 25, 3) := by decide +kernel
theorem dX3_makeAnew_16 : decode cX3_makeAnew 16 = .ok (.if_icmp .ge 21, 3) := by decide +kernel
theorem dX3_makeAnew_19 : decode cX3_makeAnew 19 = .ok (.aload_n 0, 1) := by decide +kernel
theorem dX3_makeAnew_20 : decode cX3_makeAnew 20 = .ok (.getfield 18, 3) := by decide +kernel
theorem dX3_makeAnew_23 : decode cX3_makeAnew 23 = .ok (.iload_n 1, 1) := by decide +kernel
theorem dX3_makeAnew_24 : decode cX3_makeAnew 24 = .ok (.bipush 10, 2) := by decide +kernel
theorem dX3_makeAnew_26 : decode cX3_makeAnew 26 = .ok (.imul, 1) := by decide +kernel
theorem dX3_makeAnew_27 : decode cX3_makeAnew 27 = .ok (.iload_n 2, 1) := by decide +kernel
theorem dX3_makeAnew_28 : decode cX3_makeAnew 28 = .ok (.iadd, 1) := by decide +kernel
theorem dX3_makeAnew_29 : decode cX3_makeAnew 29 = .ok (.iconst (-1), 1) := by decide +kernel
theorem dX3_makeAnew_30 : decode cX3_makeAnew 30 = .ok (.iastore, 1) := by decide +kernel
theorem dX3_makeAnew_31 : decode cX3_makeAnew 31 = .ok (.iinc 2 1, 3) := by decide +kernel
theorem dX3_makeAnew_34 : decode cX3_makeAnew 34 = .ok (.goto (-23), 3) := by decide +kernel
theorem dX3_makeAnew_37 : decode cX3_makeAnew 37 = .ok (.aload_n 0, 1) := by decide +kernel
theorem dX3_makeAnew_38 : decode cX3_makeAnew 38 = .ok (.iload_n 1, 1) := by decide +kernel
theorem dX3_makeAnew_39 : decode cX3_makeAnew 39 = .ok (.iload_n 1, 1) := by decide +kernel
theorem dX3_makeAnew_40 : decode cX3_makeAnew 40 = .ok (.iconst 0, 1) := by decide +kernel
theorem dX3_makeAnew_41 : decode cX3_makeAnew 41 = .ok (.invokevirtual 72, 3) := by decide +kernel
theorem dX3_makeAnew_44 : decode cX3_makeAnew 44 = .ok (.return_, 1) := by decide +kernel
theorem dX3_comersTo_0 : decode cX3_comersTo 0 = .ok (.iconst 0, 1) := by decide +kernel
theorem dX3_comersTo_1 : decode cX3_comersTo 1 = .ok (.istore_n 2, 1) := by decide +kernel
theorem dX3_comersTo_2 : decode cX3_comersTo 2 = .ok (.iconst 0, 1) := by decide +kernel
theorem dX3_comersTo_3 : decode cX3_comersTo 3 = .ok (.istore_n 3, 1) := by decide +kernel
theorem dX3_comersTo_4 : decode cX3_comersTo 4 = .ok (.iload_n 3, 1) := by decide +kernel
theorem dX3_comersTo_5 : decode cX3_comersTo 5 = .ok (.aload_n 0, 1) := by decide +kernel
theorem dX3_comersTo_6 : decode cX3_comersTo 6 = .ok (.getfield 25, 3) := by decide +kernel
theorem dX3_comersTo_9 : decode cX3_comersTo 9 = .ok (.if_icmp .ge 24, 3) := by decide +kernel
theorem dX3_comersTo_12 : decode cX3_comersTo 12 = .ok (.aload_n 0, 1) := by decide +kernel
theorem dX3_comersTo_13 : decode cX3_comersTo 13 = .ok (.iload_n 3, 1) := by decide +kernel
theorem dX3_comersTo_14 : decode cX3_comersTo 14 = .ok (.iload_n 1, 1) := by decide +kernel
theorem dX3_comersTo_15 : decode cX3_comersTo 15 = .ok (.invokevirtual 65, 3) := by decide +kernel
theorem dX3_comersTo_18 : decode cX3_comersTo 18 = .ok (.ifCond .eq 9, 3) := by decide +kernel
theorem dX3_comersTo_21 : decode cX3_comersTo 21 = .ok (.iload_n 2, 1) := by decide +kernel
theorem dX3_comersTo_22 : decode cX3_comersTo 22 = .ok (.iconst 1, 1) := by decide +kernel
theorem dX3_comersTo_23 : decode cX3_comersTo 23 = .ok (.iload_n 3, 1) := by decide +kernel
theorem dX3_comersTo_24 : decode cX3_comersTo 24 = .ok (.ishl, 1) := by decide +kernel
theorem dX3_comersTo_25 : decode cX3_comersTo 25 = .ok (.ior, 1) := by decide +kernel
theorem dX3_comersTo_26 : decode cX3_comersTo 26 = .ok (.istore_n 2, 1) := by decide +kernel
theorem dX3_comersTo_27 : decode cX3_comersTo 27 = .ok (.iinc 3 1, 3) := by decide +kernel
theorem dX3_comersTo_30 : decode cX3_comersTo 30 = .ok (.goto (-26), 3) := by decide +kernel
theorem dX3_comersTo_33 : decode cX3_comersTo 33 = .ok (.iload_n 2, 1) := by decide +kernel
theorem dX3_comersTo_34 : decode cX3_comersTo 34 = .ok (.ireturn, 1) := by decide +kernel
theorem dX3_ringOf_0 : decode cX3_ringOf 0 = .ok (.aload_n 0, 1) := by decide +kernel
theorem dX3_ringOf_1 : decode cX3_ringOf 1 = .ok (.getfield 15, 3) := by decide +kernel
theorem dX3_ringOf_4 : decode cX3_ringOf 4 = .ok (.iload_n 1, 1) := by decide +kernel
theorem dX3_ringOf_5 : decode cX3_ringOf 5 = .ok (.iaload, 1) := by decide +kernel
theorem dX3_ringOf_6 : decode cX3_ringOf 6 = .ok (.aload_n 0, 1) := by decide +kernel
theorem dX3_ringOf_7 : decode cX3_ringOf 7 = .ok (.iload_n 1, 1) := by decide +kernel
theorem dX3_ringOf_8 : decode cX3_ringOf 8 = .ok (.invokevirtual 86, 3) := by decide +kernel
theorem dX3_ringOf_11 : decode cX3_ringOf 11 = .ok (.iand, 1) := by decide +kernel
theorem dX3_ringOf_12 : decode cX3_ringOf 12 = .ok (.ireturn, 1) := by decide +kernel
theorem dX3_rings_0 : decode cX3_rings 0 = .ok (.iconst 0, 1) := by decide +kernel
theorem dX3_rings_1 : decode cX3_rings 1 = .ok (.istore_n 1, 1) := by decide +kernel
theorem dX3_rings_2 : decode cX3_rings 2 = .ok (.iconst 0, 1) := by decide +kernel
theorem dX3_rings_3 : decode cX3_rings 3 = .ok (.istore_n 2, 1) := by decide +kernel
theorem dX3_rings_4 : decode cX3_rings 4 = .ok (.iload_n 2, 1) := by decide +kernel
theorem dX3_rings_5 : decode cX3_rings 5 = .ok (.aload_n 0, 1) := by decide +kernel
theorem dX3_rings_6 : decode cX3_rings 6 = .ok (.getfield 25, 3) := by decide +kernel
theorem dX3_rings_9 : decode cX3_rings 9 = .ok (.if_icmp .ge 24, 3) := by decide +kernel
theorem dX3_rings_12 : decode cX3_rings 12 = .ok (.aload_n 0, 1) := by decide +kernel
theorem dX3_rings_13 : decode cX3_rings 13 = .ok (.iload_n 2, 1) := by decide +kernel
theorem dX3_rings_14 : decode cX3_rings 14 = .ok (.invokevirtual 89, 3) := by decide +kernel
theorem dX3_rings_17 : decode cX3_rings 17 = .ok (.invokestatic 92, 3) := by decide +kernel
theorem dX3_rings_20 : decode cX3_rings 20 = .ok (.iload_n 2, 1) := by decide +kernel
theorem dX3_rings_21 : decode cX3_rings 21 = .ok (.if_icmp .ne 6, 3) := by decide +kernel
theorem dX3_rings_24 : decode cX3_rings 24 = .ok (.iinc 1 1, 3) := by decide +kernel
theorem dX3_rings_27 : decode cX3_rings 27 = .ok (.iinc 2 1, 3) := by decide +kernel
theorem dX3_rings_30 : decode cX3_rings 30 = .ok (.goto (-26), 3) := by decide +kernel
theorem dX3_rings_33 : decode cX3_rings 33 = .ok (.iload_n 1, 1) := by decide +kernel
theorem dX3_rings_34 : decode cX3_rings 34 = .ok (.ireturn, 1) := by decide +kernel
theorem dX3_isNeedless_0 : decode cX3_isNeedless 0 = .ok (.aload_n 0, 1) := by decide +kernel
theorem dX3_isNeedless_1 : decode cX3_isNeedless 1 = .ok (.iload_n 1, 1) := by decide +kernel
theorem dX3_isNeedless_2 : decode cX3_isNeedless 2 = .ok (.iload_n 1, 1) := by decide +kernel
theorem dX3_isNeedless_3 : decode cX3_isNeedless 3 = .ok (.iload_n 2, 1) := by decide +kernel
theorem dX3_isNeedless_4 : decode cX3_isNeedless 4 = .ok (.invokevirtual 95, 3) := by decide +kernel
theorem dX3_isNeedless_7 : decode cX3_isNeedless 7 = .ok (.iload_n 2, 1) := by decide +kernel
theorem dX3_isNeedless_8 : decode cX3_isNeedless 8 = .ok (.invokestatic 44, 3) := by decide +kernel
theorem dX3_isNeedless_11 : decode cX3_isNeedless 11 = .ok (.ireturn, 1) := by decide +kernel
theorem dX3_needlessArcs_0 : decode cX3_needlessArcs 0 = .ok (.iconst 0, 1) := by decide +kernel
theorem dX3_needlessArcs_1 : decode cX3_needlessArcs 1 = .ok (.istore_n 1, 1) := by decide +kernel
theorem dX3_needlessArcs_2 : decode cX3_needlessArcs 2 = .ok (.iconst 0, 1) := by decide +kernel
theorem dX3_needlessArcs_3 : decode cX3_needlessArcs 3 = .ok (.istore_n 2, 1) := by decide +kernel
theorem dX3_needlessArcs_4 : decode cX3_needlessArcs 4 = .ok (.iload_n 2, 1) := by decide +kernel
theorem dX3_needlessArcs_5 : decode cX3_needlessArcs 5 = .ok (.aload_n 0, 1) := by decide +kernel
theorem dX3_needlessArcs_6 : decode cX3_needlessArcs 6 = .ok (.getfield 25, 3) := by decide +kernel
theorem dX3_needlessArcs_9 : decode cX3_needlessArcs 9 = .ok (.if_icmp .ge 46, 3) := by decide +kernel
theorem dX3_needlessArcs_12 : decode cX3_needlessArcs 12 = .ok (.iconst 0, 1) := by decide +kernel
theorem dX3_needlessArcs_13 : decode cX3_needlessArcs 13 = .ok (.istore_n 3, 1) := by decide +kernel
theorem dX3_needlessArcs_14 : decode cX3_needlessArcs 14 = .ok (.iload_n 3, 1) := by decide +kernel
theorem dX3_needlessArcs_15 : decode cX3_needlessArcs 15 = .ok (.aload_n 0, 1) := by decide +kernel
theorem dX3_needlessArcs_16 : decode cX3_needlessArcs 16 = .ok (.getfield 25, 3) := by decide +kernel
theorem dX3_needlessArcs_19 : decode cX3_needlessArcs 19 = .ok (.if_icmp .ge 30, 3) := by decide +kernel
theorem dX3_needlessArcs_22 : decode cX3_needlessArcs 22 = .ok (.aload_n 0, 1) := by decide +kernel
theorem dX3_needlessArcs_23 : decode cX3_needlessArcs 23 = .ok (.iload_n 2, 1) := by decide +kernel
theorem dX3_needlessArcs_24 : decode cX3_needlessArcs 24 = .ok (.iload_n 3, 1) := by decide +kernel
theorem dX3_needlessArcs_25 : decode cX3_needlessArcs 25 = .ok (.invokevirtual 76, 3) := by decide +kernel
theorem dX3_needlessArcs_28 : decode cX3_needlessArcs 28 = .ok (.ifCond .eq 15, 3) := by decide +kernel
theorem dX3_needlessArcs_31 : decode cX3_needlessArcs 31 = .ok (.aload_n 0, 1) := by decide +kernel
theorem dX3_needlessArcs_32 : decode cX3_needlessArcs 32 = .ok (.iload_n 2, 1) := by decide +kernel
theorem dX3_needlessArcs_33 : decode cX3_needlessArcs 33 = .ok (.iload_n 3, 1) := by decide +kernel
theorem dX3_needlessArcs_34 : decode cX3_needlessArcs 34 = .ok (.invokevirtual 99, 3) := by decide +kernel
theorem dX3_needlessArcs_37 : decode cX3_needlessArcs 37 = .ok (.ifCond .eq 6, 3) := by decide +kernel
theorem dX3_needlessArcs_40 : decode cX3_needlessArcs 40 = .ok (.iinc 1 1, 3) := by decide +kernel
theorem dX3_needlessArcs_43 : decode cX3_needlessArcs 43 = .ok (.iinc 3 1, 3) := by decide +kernel
theorem dX3_needlessArcs_46 : decode cX3_needlessArcs 46 = .ok (.goto (-32), 3) := by decide +kernel
theorem dX3_needlessArcs_49 : decode cX3_needlessArcs 49 = .ok (.iinc 2 1, 3) := by decide +kernel
theorem dX3_needlessArcs_52 : decode cX3_needlessArcs 52 = .ok (.goto (-48), 3) := by decide +kernel
theorem dX3_needlessArcs_55 : decode cX3_needlessArcs 55 = .ok (.iload_n 1, 1) := by decide +kernel
theorem dX3_needlessArcs_56 : decode cX3_needlessArcs 56 = .ok (.ireturn, 1) := by decide +kernel
theorem dX3_membersWithout_0 : decode cX3_membersWithout 0 = .ok (.iconst 1, 1) := by decide +kernel
theorem dX3_membersWithout_1 : decode cX3_membersWithout 1 = .ok (.iload_n 1, 1) := by decide +kernel
theorem dX3_membersWithout_2 : decode cX3_membersWithout 2 = .ok (.ishl, 1) := by decide +kernel
theorem dX3_membersWithout_3 : decode cX3_membersWithout 3 = .ok (.istore 4, 2) := by decide +kernel
theorem dX3_membersWithout_5 : decode cX3_membersWithout 5 = .ok (.iload 4, 2) := by decide +kernel
theorem dX3_membersWithout_7 : decode cX3_membersWithout 7 = .ok (.istore 5, 2) := by decide +kernel
theorem dX3_membersWithout_9 : decode cX3_membersWithout 9 = .ok (.iconst 0, 1) := by decide +kernel
theorem dX3_membersWithout_10 : decode cX3_membersWithout 10 = .ok (.istore 6, 2) := by decide +kernel
theorem dX3_membersWithout_12 : decode cX3_membersWithout 12 = .ok (.iload 6, 2) := by decide +kernel
theorem dX3_membersWithout_14 : decode cX3_membersWithout 14 = .ok (.bipush 10, 2) := by decide +kernel
theorem dX3_membersWithout_16 : decode cX3_membersWithout 16 = .ok (.if_icmp .ge 78, 3) := by decide +kernel
theorem dX3_membersWithout_19 : decode cX3_membersWithout 19 = .ok (.iload 5, 2) := by decide +kernel
theorem dX3_membersWithout_21 : decode cX3_membersWithout 21 = .ok (.ifCond .eq 73, 3) := by decide +kernel
theorem dX3_membersWithout_24 : decode cX3_membersWithout 24 = .ok (.iload 5, 2) := by decide +kernel
theorem dX3_membersWithout_26 : decode cX3_membersWithout 26 = .ok (.invokestatic 92, 3) := by decide +kernel
theorem dX3_membersWithout_29 : decode cX3_membersWithout 29 = .ok (.istore 7, 2) := by decide +kernel
theorem dX3_membersWithout_31 : decode cX3_membersWithout 31 = .ok (.iload 7, 2) := by decide +kernel
theorem dX3_membersWithout_33 : decode cX3_membersWithout 33 = .ok (.iload_n 2, 1) := by decide +kernel
theorem dX3_membersWithout_34 : decode cX3_membersWithout 34 = .ok (.if_icmp .ne 19, 3) := by decide +kernel
theorem dX3_membersWithout_37 : decode cX3_membersWithout 37 = .ok (.aload_n 0, 1) := by decide +kernel
theorem dX3_membersWithout_38 : decode cX3_membersWithout 38 = .ok (.getfield 9, 3) := by decide +kernel
theorem dX3_membersWithout_41 : decode cX3_membersWithout 41 = .ok (.iload 7, 2) := by decide +kernel
theorem dX3_membersWithout_43 : decode cX3_membersWithout 43 = .ok (.iaload, 1) := by decide +kernel
theorem dX3_membersWithout_44 : decode cX3_membersWithout 44 = .ok (.iconst 1, 1) := by decide +kernel
theorem dX3_membersWithout_45 : decode cX3_membersWithout 45 = .ok (.iload_n 3, 1) := by decide +kernel
theorem dX3_membersWithout_46 : decode cX3_membersWithout 46 = .ok (.ishl, 1) := by decide +kernel
theorem dX3_membersWithout_47 : decode cX3_membersWithout 47 = .ok (.iconst (-1), 1) := by decide +kernel
theorem dX3_membersWithout_48 : decode cX3_membersWithout 48 = .ok (.ixor, 1) := by decide +kernel
theorem dX3_membersWithout_49 : decode cX3_membersWithout 49 = .ok (.iand, 1) := by decide +kernel
theorem dX3_membersWithout_50 : decode cX3_membersWithout 50 = .ok (.goto 10, 3) := by decide +kernel
theorem dX3_membersWithout_53 : decode cX3_membersWithout 53 = .ok (.aload_n 0, 1) := by decide +kernel
theorem dX3_membersWithout_54 : decode cX3_membersWithout 54 = .ok (.getfield 9, 3) := by decide +kernel
theorem dX3_membersWithout_57 : decode cX3_membersWithout 57 = .ok (.iload 7, 2) := by decide +kernel
theorem dX3_membersWithout_59 : decode cX3_membersWithout 59 = .ok (.iaload, 1) := by decide +kernel
theorem dX3_membersWithout_60 : decode cX3_membersWithout 60 = .ok (.istore 8, 2) := by decide +kernel
theorem dX3_membersWithout_62 : decode cX3_membersWithout 62 = .ok (.iload 5, 2) := by decide +kernel
theorem dX3_membersWithout_64 : decode cX3_membersWithout 64 = .ok (.iconst 1, 1) := by decide +kernel
theorem dX3_membersWithout_65 : decode cX3_membersWithout 65 = .ok (.iload 7, 2) := by decide +kernel
theorem dX3_membersWithout_67 : decode cX3_membersWithout 67 = .ok (.ishl, 1) := by decide +kernel
theorem dX3_membersWithout_68 : decode cX3_membersWithout 68 = .ok (.iconst (-1), 1) := by decide +kernel
theorem dX3_membersWithout_69 : decode cX3_membersWithout 69 = .ok (.ixor, 1) := by decide +kernel
theorem dX3_membersWithout_70 : decode cX3_membersWithout 70 = .ok (.iand, 1) := by decide +kernel
theorem dX3_membersWithout_71 : decode cX3_membersWithout 71 = .ok (.iload 8, 2) := by decide +kernel
theorem dX3_membersWithout_73 : decode cX3_membersWithout 73 = .ok (.iload 4, 2) := by decide +kernel
theorem dX3_membersWithout_75 : decode cX3_membersWithout 75 = .ok (.iconst (-1), 1) := by decide +kernel
theorem dX3_membersWithout_76 : decode cX3_membersWithout 76 = .ok (.ixor, 1) := by decide +kernel
theorem dX3_membersWithout_77 : decode cX3_membersWithout 77 = .ok (.iand, 1) := by decide +kernel
theorem dX3_membersWithout_78 : decode cX3_membersWithout 78 = .ok (.ior, 1) := by decide +kernel
theorem dX3_membersWithout_79 : decode cX3_membersWithout 79 = .ok (.istore 5, 2) := by decide +kernel
theorem dX3_membersWithout_81 : decode cX3_membersWithout 81 = .ok (.iload 4, 2) := by decide +kernel
theorem dX3_membersWithout_83 : decode cX3_membersWithout 83 = .ok (.iload 8, 2) := by decide +kernel
theorem dX3_membersWithout_85 : decode cX3_membersWithout 85 = .ok (.ior, 1) := by decide +kernel
theorem dX3_membersWithout_86 : decode cX3_membersWithout 86 = .ok (.istore 4, 2) := by decide +kernel
theorem dX3_membersWithout_88 : decode cX3_membersWithout 88 = .ok (.iinc 6 1, 3) := by decide +kernel
theorem dX3_membersWithout_91 : decode cX3_membersWithout 91 = .ok (.goto (-79), 3) := by decide +kernel
theorem dX3_membersWithout_94 : decode cX3_membersWithout 94 = .ok (.iload 4, 2) := by decide +kernel
theorem dX3_membersWithout_96 : decode cX3_membersWithout 96 = .ok (.ireturn, 1) := by decide +kernel
theorem dX3_pairsLost_0 : decode cX3_pairsLost 0 = .ok (.iconst 0, 1) := by decide +kernel
theorem dX3_pairsLost_1 : decode cX3_pairsLost 1 = .ok (.istore_n 3, 1) := by decide +kernel
theorem dX3_pairsLost_2 : decode cX3_pairsLost 2 = .ok (.iconst 0, 1) := by decide +kernel
theorem dX3_pairsLost_3 : decode cX3_pairsLost 3 = .ok (.istore 4, 2) := by decide +kernel
theorem dX3_pairsLost_5 : decode cX3_pairsLost 5 = .ok (.iload 4, 2) := by decide +kernel
theorem dX3_pairsLost_7 : decode cX3_pairsLost 7 = .ok (.aload_n 0, 1) := by decide +kernel
theorem dX3_pairsLost_8 : decode cX3_pairsLost 8 = .ok (.getfield 25, 3) := by decide +kernel
theorem dX3_pairsLost_11 : decode cX3_pairsLost 11 = .ok (.if_icmp .ge 44, 3) := by decide +kernel
theorem dX3_pairsLost_14 : decode cX3_pairsLost 14 = .ok (.aload_n 0, 1) := by decide +kernel
theorem dX3_pairsLost_15 : decode cX3_pairsLost 15 = .ok (.iload 4, 2) := by decide +kernel
theorem dX3_pairsLost_17 : decode cX3_pairsLost 17 = .ok (.iload_n 2, 1) := by decide +kernel
theorem dX3_pairsLost_18 : decode cX3_pairsLost 18 = .ok (.invokevirtual 62, 3) := by decide +kernel
theorem dX3_pairsLost_21 : decode cX3_pairsLost 21 = .ok (.iload_n 1, 1) := by decide +kernel
theorem dX3_pairsLost_22 : decode cX3_pairsLost 22 = .ok (.if_icmp .ne 27, 3) := by decide +kernel
theorem dX3_pairsLost_25 : decode cX3_pairsLost 25 = .ok (.iload_n 3, 1) := by decide +kernel
theorem dX3_pairsLost_26 : decode cX3_pairsLost 26 = .ok (.aload_n 0, 1) := by decide +kernel
theorem dX3_pairsLost_27 : decode cX3_pairsLost 27 = .ok (.getfield 15, 3) := by decide +kernel
theorem dX3_pairsLost_30 : decode cX3_pairsLost 30 = .ok (.iload 4, 2) := by decide +kernel
theorem dX3_pairsLost_32 : decode cX3_pairsLost 32 = .ok (.iaload, 1) := by decide +kernel
theorem dX3_pairsLost_33 : decode cX3_pairsLost 33 = .ok (.aload_n 0, 1) := by decide +kernel
theorem dX3_pairsLost_34 : decode cX3_pairsLost 34 = .ok (.iload 4, 2) := by decide +kernel
theorem dX3_pairsLost_36 : decode cX3_pairsLost 36 = .ok (.iload_n 1, 1) := by decide +kernel
theorem dX3_pairsLost_37 : decode cX3_pairsLost 37 = .ok (.iload_n 2, 1) := by decide +kernel
theorem dX3_pairsLost_38 : decode cX3_pairsLost 38 = .ok (.invokevirtual 95, 3) := by decide +kernel
theorem dX3_pairsLost_41 : decode cX3_pairsLost 41 = .ok (.iconst (-1), 1) := by decide +kernel
theorem dX3_pairsLost_42 : decode cX3_pairsLost 42 = .ok (.ixor, 1) := by decide +kernel
theorem dX3_pairsLost_43 : decode cX3_pairsLost 43 = .ok (.iand, 1) := by decide +kernel
theorem dX3_pairsLost_44 : decode cX3_pairsLost 44 = .ok (.invokestatic 56, 3) := by decide +kernel
theorem dX3_pairsLost_47 : decode cX3_pairsLost 47 = .ok (.iadd, 1) := by decide +kernel
theorem dX3_pairsLost_48 : decode cX3_pairsLost 48 = .ok (.istore_n 3, 1) := by decide +kernel
theorem dX3_pairsLost_49 : decode cX3_pairsLost 49 = .ok (.iinc 4 1, 3) := by decide +kernel
theorem dX3_pairsLost_52 : decode cX3_pairsLost 52 = .ok (.goto (-47), 3) := by decide +kernel
theorem dX3_pairsLost_55 : decode cX3_pairsLost 55 = .ok (.iload_n 3, 1) := by decide +kernel
theorem dX3_pairsLost_56 : decode cX3_pairsLost 56 = .ok (.ireturn, 1) := by decide +kernel
theorem dX3_newMembers_0 : decode cX3_newMembers 0 = .ok (.aload_n 0, 1) := by decide +kernel
theorem dX3_newMembers_1 : decode cX3_newMembers 1 = .ok (.iload_n 1, 1) := by decide +kernel
theorem dX3_newMembers_2 : decode cX3_newMembers 2 = .ok (.iload_n 2, 1) := by decide +kernel
theorem dX3_newMembers_3 : decode cX3_newMembers 3 = .ok (.invokevirtual 65, 3) := by decide +kernel
theorem dX3_newMembers_6 : decode cX3_newMembers 6 = .ok (.ifCond .eq 21, 3) := by decide +kernel
theorem dX3_newMembers_9 : decode cX3_newMembers 9 = .ok (.aload_n 0, 1) := by decide +kernel
theorem dX3_newMembers_10 : decode cX3_newMembers 10 = .ok (.getfield 15, 3) := by decide +kernel
theorem dX3_newMembers_13 : decode cX3_newMembers 13 = .ok (.iload_n 3, 1) := by decide +kernel
theorem dX3_newMembers_14 : decode cX3_newMembers 14 = .ok (.iaload, 1) := by decide +kernel
theorem dX3_newMembers_15 : decode cX3_newMembers 15 = .ok (.aload_n 0, 1) := by decide +kernel
theorem dX3_newMembers_16 : decode cX3_newMembers 16 = .ok (.getfield 15, 3) := by decide +kernel
theorem dX3_newMembers_19 : decode cX3_newMembers 19 = .ok (.iload_n 1, 1) := by decide +kernel
theorem dX3_newMembers_20 : decode cX3_newMembers 20 = .ok (.iaload, 1) := by decide +kernel
theorem dX3_newMembers_21 : decode cX3_newMembers 21 = .ok (.iconst (-1), 1) := by decide +kernel
theorem dX3_newMembers_22 : decode cX3_newMembers 22 = .ok (.ixor, 1) := by decide +kernel
theorem dX3_newMembers_23 : decode cX3_newMembers 23 = .ok (.iand, 1) := by decide +kernel
theorem dX3_newMembers_24 : decode cX3_newMembers 24 = .ok (.goto 4, 3) := by decide +kernel
theorem dX3_newMembers_27 : decode cX3_newMembers 27 = .ok (.iconst 0, 1) := by decide +kernel
theorem dX3_newMembers_28 : decode cX3_newMembers 28 = .ok (.ireturn, 1) := by decide +kernel
theorem dX3_pairsGained_0 : decode cX3_pairsGained 0 = .ok (.iconst 0, 1) := by decide +kernel
theorem dX3_pairsGained_1 : decode cX3_pairsGained 1 = .ok (.istore_n 3, 1) := by decide +kernel
theorem dX3_pairsGained_2 : decode cX3_pairsGained 2 = .ok (.iconst 0, 1) := by decide +kernel
theorem dX3_pairsGained_3 : decode cX3_pairsGained 3 = .ok (.istore 4, 2) := by decide +kernel
theorem dX3_pairsGained_5 : decode cX3_pairsGained 5 = .ok (.iload 4, 2) := by decide +kernel
theorem dX3_pairsGained_7 : decode cX3_pairsGained 7 = .ok (.aload_n 0, 1) := by decide +kernel
theorem dX3_pairsGained_8 : decode cX3_pairsGained 8 = .ok (.getfield 25, 3) := by decide +kernel
theorem dX3_pairsGained_11 : decode cX3_pairsGained 11 = .ok (.if_icmp .ge 23, 3) := by decide +kernel
theorem dX3_pairsGained_14 : decode cX3_pairsGained 14 = .ok (.iload_n 3, 1) := by decide +kernel
theorem dX3_pairsGained_15 : decode cX3_pairsGained 15 = .ok (.aload_n 0, 1) := by decide +kernel
theorem dX3_pairsGained_16 : decode cX3_pairsGained 16 = .ok (.iload 4, 2) := by decide +kernel
theorem dX3_pairsGained_18 : decode cX3_pairsGained 18 = .ok (.iload_n 1, 1) := by decide +kernel
theorem dX3_pairsGained_19 : decode cX3_pairsGained 19 = .ok (.iload_n 2, 1) := by decide +kernel
theorem dX3_pairsGained_20 : decode cX3_pairsGained 20 = .ok (.invokevirtual 102, 3) := by decide +kernel
theorem dX3_pairsGained_23 : decode cX3_pairsGained 23 = .ok (.invokestatic 56, 3) := by decide +kernel
theorem dX3_pairsGained_26 : decode cX3_pairsGained 26 = .ok (.iadd, 1) := by decide +kernel
theorem dX3_pairsGained_27 : decode cX3_pairsGained 27 = .ok (.istore_n 3, 1) := by decide +kernel
theorem dX3_pairsGained_28 : decode cX3_pairsGained 28 = .ok (.iinc 4 1, 3) := by decide +kernel
theorem dX3_pairsGained_31 : decode cX3_pairsGained 31 = .ok (.goto (-26), 3) := by decide +kernel
theorem dX3_pairsGained_34 : decode cX3_pairsGained 34 = .ok (.iload_n 3, 1) := by decide +kernel
theorem dX3_pairsGained_35 : decode cX3_pairsGained 35 = .ok (.ireturn, 1) := by decide +kernel
theorem dX3_workGained_0 : decode cX3_workGained 0 = .ok (.iconst 0, 1) := by decide +kernel
theorem dX3_workGained_1 : decode cX3_workGained 1 = .ok (.istore_n 3, 1) := by decide +kernel
theorem dX3_workGained_2 : decode cX3_workGained 2 = .ok (.iconst 0, 1) := by decide +kernel
theorem dX3_workGained_3 : decode cX3_workGained 3 = .ok (.istore 4, 2) := by decide +kernel
theorem dX3_workGained_5 : decode cX3_workGained 5 = .ok (.iload 4, 2) := by decide +kernel
theorem dX3_workGained_7 : decode cX3_workGained 7 = .ok (.aload_n 0, 1) := by decide +kernel
theorem dX3_workGained_8 : decode cX3_workGained 8 = .ok (.getfield 25, 3) := by decide +kernel
theorem dX3_workGained_11 : decode cX3_workGained 11 = .ok (.if_icmp .ge 40, 3) := by decide +kernel
theorem dX3_workGained_14 : decode cX3_workGained 14 = .ok (.aload_n 0, 1) := by decide +kernel
theorem dX3_workGained_15 : decode cX3_workGained 15 = .ok (.iload 4, 2) := by decide +kernel
theorem dX3_workGained_17 : decode cX3_workGained 17 = .ok (.iload_n 1, 1) := by decide +kernel
theorem dX3_workGained_18 : decode cX3_workGained 18 = .ok (.invokevirtual 65, 3) := by decide +kernel
theorem dX3_workGained_21 : decode cX3_workGained 21 = .ok (.ifCond .eq 24, 3) := by decide +kernel
theorem dX3_workGained_24 : decode cX3_workGained 24 = .ok (.iload_n 3, 1) := by decide +kernel
theorem dX3_workGained_25 : decode cX3_workGained 25 = .ok (.iconst 1, 1) := by decide +kernel
theorem dX3_workGained_26 : decode cX3_workGained 26 = .ok (.aload_n 0, 1) := by decide +kernel
theorem dX3_workGained_27 : decode cX3_workGained 27 = .ok (.aload_n 0, 1) := by decide +kernel
theorem dX3_workGained_28 : decode cX3_workGained 28 = .ok (.iload 4, 2) := by decide +kernel
theorem dX3_workGained_30 : decode cX3_workGained 30 = .ok (.iload_n 1, 1) := by decide +kernel
theorem dX3_workGained_31 : decode cX3_workGained 31 = .ok (.iload_n 2, 1) := by decide +kernel
theorem dX3_workGained_32 : decode cX3_workGained 32 = .ok (.invokevirtual 102, 3) := by decide +kernel
theorem dX3_workGained_35 : decode cX3_workGained 35 = .ok (.aload_n 0, 1) := by decide +kernel
theorem dX3_workGained_36 : decode cX3_workGained 36 = .ok (.invokevirtual 48, 3) := by decide +kernel
theorem dX3_workGained_39 : decode cX3_workGained 39 = .ok (.invokevirtual 52, 3) := by decide +kernel
theorem dX3_workGained_42 : decode cX3_workGained 42 = .ok (.iadd, 1) := by decide +kernel
theorem dX3_workGained_43 : decode cX3_workGained 43 = .ok (.iadd, 1) := by decide +kernel
theorem dX3_workGained_44 : decode cX3_workGained 44 = .ok (.istore_n 3, 1) := by decide +kernel
theorem dX3_workGained_45 : decode cX3_workGained 45 = .ok (.iinc 4 1, 3) := by decide +kernel
theorem dX3_workGained_48 : decode cX3_workGained 48 = .ok (.goto (-43), 3) := by decide +kernel
theorem dX3_workGained_51 : decode cX3_workGained 51 = .ok (.iload_n 3, 1) := by decide +kernel
theorem dX3_workGained_52 : decode cX3_workGained 52 = .ok (.ireturn, 1) := by decide +kernel
