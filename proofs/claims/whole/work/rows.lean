section
-- ===== PART A: goes FIRST, ahead of the names: the tables' words, and 'selects' of the private methods out of them =====
/-- a private method of a class that the tables say can be made, by its rows of tables_1 -/
def lw_okq (q : MethodName × Nat) : Prop := (q.1.cls ≠ "java/lang/invoke/MethodHandle" ∧ q.1.cls ≠ "java/lang/invoke/VarHandle") ∧ Cond.instantiable q.1.cls q.2 ∈ tables_1 ∧ Cond.privateMethod q.1 ∈ tables_1 ∧ Cond.instanceMethod q.1 ∈ tables_1
theorem lw_p0 : lw_okq (⟨"ReachTrees$Reader", "readClause", "(I)Z"⟩, 7) := ⟨⟨by decide +kernel, by decide +kernel⟩, List.mem_of_getElem? (i := 43) (by decide +kernel), List.mem_of_getElem? (i := 209) (by decide +kernel), List.mem_of_getElem? (i := 210) (by decide +kernel)⟩
theorem lw_p1 : lw_okq (⟨"ReachTrees$Reader", "nextToken", "()V"⟩, 7) := ⟨⟨by decide +kernel, by decide +kernel⟩, List.mem_of_getElem? (i := 43) (by decide +kernel), List.mem_of_getElem? (i := 213) (by decide +kernel), List.mem_of_getElem? (i := 214) (by decide +kernel)⟩
theorem lw_p2 : lw_okq (⟨"ReachTrees$Reader", "kindOfToken", "()I"⟩, 7) := ⟨⟨by decide +kernel, by decide +kernel⟩, List.mem_of_getElem? (i := 43) (by decide +kernel), List.mem_of_getElem? (i := 220) (by decide +kernel), List.mem_of_getElem? (i := 221) (by decide +kernel)⟩
theorem lw_p3 : lw_okq (⟨"ReachTrees$Reader", "tokenIs", "(Ljava/lang/String;)Z"⟩, 7) := ⟨⟨by decide +kernel, by decide +kernel⟩, List.mem_of_getElem? (i := 43) (by decide +kernel), List.mem_of_getElem? (i := 232) (by decide +kernel), List.mem_of_getElem? (i := 233) (by decide +kernel)⟩
theorem lw_p4 : lw_okq (⟨"ReachTrees$Reader", "takeNumber", "(III)Z"⟩, 7) := ⟨⟨by decide +kernel, by decide +kernel⟩, List.mem_of_getElem? (i := 43) (by decide +kernel), List.mem_of_getElem? (i := 287) (by decide +kernel), List.mem_of_getElem? (i := 288) (by decide +kernel)⟩
theorem lw_p5 : lw_okq (⟨"ReachTrees$Reader", "tokenNumber", "()I"⟩, 7) := ⟨⟨by decide +kernel, by decide +kernel⟩, List.mem_of_getElem? (i := 43) (by decide +kernel), List.mem_of_getElem? (i := 291) (by decide +kernel), List.mem_of_getElem? (i := 292) (by decide +kernel)⟩
theorem lw_p6 : lw_okq (⟨"ReachTrees$Reader", "isSemicolon", "()Z"⟩, 7) := ⟨⟨by decide +kernel, by decide +kernel⟩, List.mem_of_getElem? (i := 43) (by decide +kernel), List.mem_of_getElem? (i := 299) (by decide +kernel), List.mem_of_getElem? (i := 300) (by decide +kernel)⟩
theorem lw_p7 : lw_okq (⟨"ReachTrees", "doClause", "(I)V"⟩, 8) := ⟨⟨by decide +kernel, by decide +kernel⟩, List.mem_of_getElem? (i := 18) (by decide +kernel), List.mem_of_getElem? (i := 308) (by decide +kernel), List.mem_of_getElem? (i := 309) (by decide +kernel)⟩
theorem lw_p8 : lw_okq (⟨"ReachTrees", "putIfNew", "(II)V"⟩, 8) := ⟨⟨by decide +kernel, by decide +kernel⟩, List.mem_of_getElem? (i := 18) (by decide +kernel), List.mem_of_getElem? (i := 314) (by decide +kernel), List.mem_of_getElem? (i := 315) (by decide +kernel)⟩
theorem lw_p9 : lw_okq (⟨"ReachTrees$Net", "graft", "(IIII)V"⟩, 5) := ⟨⟨by decide +kernel, by decide +kernel⟩, List.mem_of_getElem? (i := 73) (by decide +kernel), List.mem_of_getElem? (i := 351) (by decide +kernel), List.mem_of_getElem? (i := 352) (by decide +kernel)⟩
theorem lw_p10 : lw_okq (⟨"ReachTrees$Net", "followArcs", "(III)V"⟩, 5) := ⟨⟨by decide +kernel, by decide +kernel⟩, List.mem_of_getElem? (i := 73) (by decide +kernel), List.mem_of_getElem? (i := 355) (by decide +kernel), List.mem_of_getElem? (i := 356) (by decide +kernel)⟩
theorem lw_p11 : lw_okq (⟨"ReachTrees", "arePair", "(II)Z"⟩, 8) := ⟨⟨by decide +kernel, by decide +kernel⟩, List.mem_of_getElem? (i := 18) (by decide +kernel), List.mem_of_getElem? (i := 372) (by decide +kernel), List.mem_of_getElem? (i := 373) (by decide +kernel)⟩
theorem lw_p12 : lw_okq (⟨"ReachTrees", "isPoint", "(I)Z"⟩, 8) := ⟨⟨by decide +kernel, by decide +kernel⟩, List.mem_of_getElem? (i := 18) (by decide +kernel), List.mem_of_getElem? (i := 376) (by decide +kernel), List.mem_of_getElem? (i := 377) (by decide +kernel)⟩
theorem lw_p13 : lw_okq (⟨"ReachTrees$Net", "stoodOn", "(III)Z"⟩, 5) := ⟨⟨by decide +kernel, by decide +kernel⟩, List.mem_of_getElem? (i := 73) (by decide +kernel), List.mem_of_getElem? (i := 408) (by decide +kernel), List.mem_of_getElem? (i := 409) (by decide +kernel)⟩
theorem lw_p14 : lw_okq (⟨"ReachTrees$Net", "makeAnew", "(I)V"⟩, 5) := ⟨⟨by decide +kernel, by decide +kernel⟩, List.mem_of_getElem? (i := 73) (by decide +kernel), List.mem_of_getElem? (i := 416) (by decide +kernel), List.mem_of_getElem? (i := 417) (by decide +kernel)⟩
theorem lw_p15 : lw_okq (⟨"ReachTrees", "isArcThere", "(II)Z"⟩, 8) := ⟨⟨by decide +kernel, by decide +kernel⟩, List.mem_of_getElem? (i := 18) (by decide +kernel), List.mem_of_getElem? (i := 485) (by decide +kernel), List.mem_of_getElem? (i := 486) (by decide +kernel)⟩
def lw_privs_1 : List (MethodName × Nat) := [(⟨"ReachTrees$Reader", "readClause", "(I)Z"⟩, 7), (⟨"ReachTrees$Reader", "nextToken", "()V"⟩, 7), (⟨"ReachTrees$Reader", "kindOfToken", "()I"⟩, 7), (⟨"ReachTrees$Reader", "tokenIs", "(Ljava/lang/String;)Z"⟩, 7), (⟨"ReachTrees$Reader", "takeNumber", "(III)Z"⟩, 7), (⟨"ReachTrees$Reader", "tokenNumber", "()I"⟩, 7), (⟨"ReachTrees$Reader", "isSemicolon", "()Z"⟩, 7), (⟨"ReachTrees", "doClause", "(I)V"⟩, 8), (⟨"ReachTrees", "putIfNew", "(II)V"⟩, 8), (⟨"ReachTrees$Net", "graft", "(IIII)V"⟩, 5), (⟨"ReachTrees$Net", "followArcs", "(III)V"⟩, 5), (⟨"ReachTrees", "arePair", "(II)Z"⟩, 8), (⟨"ReachTrees", "isPoint", "(I)Z"⟩, 8), (⟨"ReachTrees$Net", "stoodOn", "(III)Z"⟩, 5), (⟨"ReachTrees$Net", "makeAnew", "(I)V"⟩, 5), (⟨"ReachTrees", "isArcThere", "(II)Z"⟩, 8)]
theorem lw_r1 : ∀ q ∈ lw_privs_1, lw_okq q := List.forall_mem_cons.mpr ⟨lw_p0, List.forall_mem_cons.mpr ⟨lw_p1, List.forall_mem_cons.mpr ⟨lw_p2, List.forall_mem_cons.mpr ⟨lw_p3, List.forall_mem_cons.mpr ⟨lw_p4, List.forall_mem_cons.mpr ⟨lw_p5, List.forall_mem_cons.mpr ⟨lw_p6, List.forall_mem_cons.mpr ⟨lw_p7, List.forall_mem_cons.mpr ⟨lw_p8, List.forall_mem_cons.mpr ⟨lw_p9, List.forall_mem_cons.mpr ⟨lw_p10, List.forall_mem_cons.mpr ⟨lw_p11, List.forall_mem_cons.mpr ⟨lw_p12, List.forall_mem_cons.mpr ⟨lw_p13, List.forall_mem_cons.mpr ⟨lw_p14, List.forall_mem_cons.mpr ⟨lw_p15, fun _ h => absurd h List.not_mem_nil⟩⟩⟩⟩⟩⟩⟩⟩⟩⟩⟩⟩⟩⟩⟩⟩
theorem lw_p16 : lw_okq (⟨"ReachTrees$Net", "membersWithout", "(III)I"⟩, 5) := ⟨⟨by decide +kernel, by decide +kernel⟩, List.mem_of_getElem? (i := 73) (by decide +kernel), List.mem_of_getElem? (i := 493) (by decide +kernel), List.mem_of_getElem? (i := 494) (by decide +kernel)⟩
theorem lw_p17 : lw_okq (⟨"ReachTrees", "foldPair", "(IIII)I"⟩, 8) := ⟨⟨by decide +kernel, by decide +kernel⟩, List.mem_of_getElem? (i := 18) (by decide +kernel), List.mem_of_getElem? (i := 519) (by decide +kernel), List.mem_of_getElem? (i := 520) (by decide +kernel)⟩
theorem lw_p18 : lw_okq (⟨"ReachTrees$Net", "newMembers", "(III)I"⟩, 5) := ⟨⟨by decide +kernel, by decide +kernel⟩, List.mem_of_getElem? (i := 73) (by decide +kernel), List.mem_of_getElem? (i := 537) (by decide +kernel), List.mem_of_getElem? (i := 538) (by decide +kernel)⟩
theorem lw_p19 : lw_okq (⟨"ReachTrees$Cut", "findWay", "(LReachTrees$Net;II)Z"⟩, 3) := ⟨⟨by decide +kernel, by decide +kernel⟩, List.mem_of_getElem? (i := 127) (by decide +kernel), List.mem_of_getElem? (i := 570) (by decide +kernel), List.mem_of_getElem? (i := 571) (by decide +kernel)⟩
theorem lw_p20 : lw_okq (⟨"ReachTrees$Cut", "useWay", "(II)V"⟩, 3) := ⟨⟨by decide +kernel, by decide +kernel⟩, List.mem_of_getElem? (i := 127) (by decide +kernel), List.mem_of_getElem? (i := 576) (by decide +kernel), List.mem_of_getElem? (i := 577) (by decide +kernel)⟩
theorem lw_p21 : lw_okq (⟨"ReachTrees$Cut", "useStep", "(II)V"⟩, 3) := ⟨⟨by decide +kernel, by decide +kernel⟩, List.mem_of_getElem? (i := 127) (by decide +kernel), List.mem_of_getElem? (i := 580) (by decide +kernel), List.mem_of_getElem? (i := 581) (by decide +kernel)⟩
theorem lw_p22 : lw_okq (⟨"ReachTrees", "isTellable", "(I)Z"⟩, 8) := ⟨⟨by decide +kernel, by decide +kernel⟩, List.mem_of_getElem? (i := 18) (by decide +kernel), List.mem_of_getElem? (i := 599) (by decide +kernel), List.mem_of_getElem? (i := 600) (by decide +kernel)⟩
theorem lw_p23 : lw_okq (⟨"ReachTrees", "strikeArcs", "(LReachTrees$Chain;Z)I"⟩, 8) := ⟨⟨by decide +kernel, by decide +kernel⟩, List.mem_of_getElem? (i := 18) (by decide +kernel), List.mem_of_getElem? (i := 625) (by decide +kernel), List.mem_of_getElem? (i := 626) (by decide +kernel)⟩
theorem lw_p24 : lw_okq (⟨"ReachTrees", "thingsOfChains", "()I"⟩, 8) := ⟨⟨by decide +kernel, by decide +kernel⟩, List.mem_of_getElem? (i := 18) (by decide +kernel), List.mem_of_getElem? (i := 641) (by decide +kernel), List.mem_of_getElem? (i := 642) (by decide +kernel)⟩
theorem lw_p25 : lw_okq (⟨"ReachTreesModel", "begin", "(I)V"⟩, 25) := ⟨⟨by decide +kernel, by decide +kernel⟩, List.mem_of_getElem? (i := 645) (by decide +kernel), List.mem_of_getElem? (i := 651) (by decide +kernel), List.mem_of_getElem? (i := 652) (by decide +kernel)⟩
theorem lw_p26 : lw_okq (⟨"ReachTreesModel", "loseChains", "()V"⟩, 25) := ⟨⟨by decide +kernel, by decide +kernel⟩, List.mem_of_getElem? (i := 645) (by decide +kernel), List.mem_of_getElem? (i := 655) (by decide +kernel), List.mem_of_getElem? (i := 656) (by decide +kernel)⟩
theorem lw_p27 : lw_okq (⟨"ReachTreesModel", "readAll", "()Z"⟩, 25) := ⟨⟨by decide +kernel, by decide +kernel⟩, List.mem_of_getElem? (i := 645) (by decide +kernel), List.mem_of_getElem? (i := 751) (by decide +kernel), List.mem_of_getElem? (i := 752) (by decide +kernel)⟩
theorem lw_p28 : lw_okq (⟨"ReachTreesModel", "next", "()V"⟩, 25) := ⟨⟨by decide +kernel, by decide +kernel⟩, List.mem_of_getElem? (i := 645) (by decide +kernel), List.mem_of_getElem? (i := 755) (by decide +kernel), List.mem_of_getElem? (i := 756) (by decide +kernel)⟩
theorem lw_p29 : lw_okq (⟨"ReachTreesModel", "letter", "()I"⟩, 25) := ⟨⟨by decide +kernel, by decide +kernel⟩, List.mem_of_getElem? (i := 645) (by decide +kernel), List.mem_of_getElem? (i := 759) (by decide +kernel), List.mem_of_getElem? (i := 760) (by decide +kernel)⟩
theorem lw_p30 : lw_okq (⟨"ReachTreesModel", "readClause", "()Z"⟩, 25) := ⟨⟨by decide +kernel, by decide +kernel⟩, List.mem_of_getElem? (i := 645) (by decide +kernel), List.mem_of_getElem? (i := 767) (by decide +kernel), List.mem_of_getElem? (i := 768) (by decide +kernel)⟩
theorem lw_p31 : lw_okq (⟨"ReachTreesModel", "wordOf", "()I"⟩, 25) := ⟨⟨by decide +kernel, by decide +kernel⟩, List.mem_of_getElem? (i := 645) (by decide +kernel), List.mem_of_getElem? (i := 771) (by decide +kernel), List.mem_of_getElem? (i := 772) (by decide +kernel)⟩
def lw_privs_2 : List (MethodName × Nat) := [(⟨"ReachTrees$Net", "membersWithout", "(III)I"⟩, 5), (⟨"ReachTrees", "foldPair", "(IIII)I"⟩, 8), (⟨"ReachTrees$Net", "newMembers", "(III)I"⟩, 5), (⟨"ReachTrees$Cut", "findWay", "(LReachTrees$Net;II)Z"⟩, 3), (⟨"ReachTrees$Cut", "useWay", "(II)V"⟩, 3), (⟨"ReachTrees$Cut", "useStep", "(II)V"⟩, 3), (⟨"ReachTrees", "isTellable", "(I)Z"⟩, 8), (⟨"ReachTrees", "strikeArcs", "(LReachTrees$Chain;Z)I"⟩, 8), (⟨"ReachTrees", "thingsOfChains", "()I"⟩, 8), (⟨"ReachTreesModel", "begin", "(I)V"⟩, 25), (⟨"ReachTreesModel", "loseChains", "()V"⟩, 25), (⟨"ReachTreesModel", "readAll", "()Z"⟩, 25), (⟨"ReachTreesModel", "next", "()V"⟩, 25), (⟨"ReachTreesModel", "letter", "()I"⟩, 25), (⟨"ReachTreesModel", "readClause", "()Z"⟩, 25), (⟨"ReachTreesModel", "wordOf", "()I"⟩, 25)]
theorem lw_r2 : ∀ q ∈ lw_privs_2, lw_okq q := List.forall_mem_cons.mpr ⟨lw_p16, List.forall_mem_cons.mpr ⟨lw_p17, List.forall_mem_cons.mpr ⟨lw_p18, List.forall_mem_cons.mpr ⟨lw_p19, List.forall_mem_cons.mpr ⟨lw_p20, List.forall_mem_cons.mpr ⟨lw_p21, List.forall_mem_cons.mpr ⟨lw_p22, List.forall_mem_cons.mpr ⟨lw_p23, List.forall_mem_cons.mpr ⟨lw_p24, List.forall_mem_cons.mpr ⟨lw_p25, List.forall_mem_cons.mpr ⟨lw_p26, List.forall_mem_cons.mpr ⟨lw_p27, List.forall_mem_cons.mpr ⟨lw_p28, List.forall_mem_cons.mpr ⟨lw_p29, List.forall_mem_cons.mpr ⟨lw_p30, List.forall_mem_cons.mpr ⟨lw_p31, fun _ h => absurd h List.not_mem_nil⟩⟩⟩⟩⟩⟩⟩⟩⟩⟩⟩⟩⟩⟩⟩⟩
theorem lw_p32 : lw_okq (⟨"ReachTreesModel", "isWord", "(IIII)Z"⟩, 25) := ⟨⟨by decide +kernel, by decide +kernel⟩, List.mem_of_getElem? (i := 645) (by decide +kernel), List.mem_of_getElem? (i := 775) (by decide +kernel), List.mem_of_getElem? (i := 776) (by decide +kernel)⟩
theorem lw_p33 : lw_okq (⟨"ReachTreesModel", "faults", "()Z"⟩, 25) := ⟨⟨by decide +kernel, by decide +kernel⟩, List.mem_of_getElem? (i := 645) (by decide +kernel), List.mem_of_getElem? (i := 779) (by decide +kernel), List.mem_of_getElem? (i := 780) (by decide +kernel)⟩
theorem lw_p34 : lw_okq (⟨"ReachTreesModel", "takesNumber", "(II)Z"⟩, 25) := ⟨⟨by decide +kernel, by decide +kernel⟩, List.mem_of_getElem? (i := 645) (by decide +kernel), List.mem_of_getElem? (i := 783) (by decide +kernel), List.mem_of_getElem? (i := 784) (by decide +kernel)⟩
theorem lw_p35 : lw_okq (⟨"ReachTreesModel", "takesPoint", "(II)Z"⟩, 25) := ⟨⟨by decide +kernel, by decide +kernel⟩, List.mem_of_getElem? (i := 645) (by decide +kernel), List.mem_of_getElem? (i := 787) (by decide +kernel), List.mem_of_getElem? (i := 788) (by decide +kernel)⟩
theorem lw_p36 : lw_okq (⟨"ReachTreesModel", "doClause", "(I)V"⟩, 25) := ⟨⟨by decide +kernel, by decide +kernel⟩, List.mem_of_getElem? (i := 645) (by decide +kernel), List.mem_of_getElem? (i := 795) (by decide +kernel), List.mem_of_getElem? (i := 796) (by decide +kernel)⟩
theorem lw_p37 : lw_okq (⟨"ReachTreesModel", "putIfNew", "(II)V"⟩, 25) := ⟨⟨by decide +kernel, by decide +kernel⟩, List.mem_of_getElem? (i := 645) (by decide +kernel), List.mem_of_getElem? (i := 799) (by decide +kernel), List.mem_of_getElem? (i := 800) (by decide +kernel)⟩
theorem lw_p38 : lw_okq (⟨"ReachTreesModel", "arcs", "()I"⟩, 25) := ⟨⟨by decide +kernel, by decide +kernel⟩, List.mem_of_getElem? (i := 645) (by decide +kernel), List.mem_of_getElem? (i := 806) (by decide +kernel), List.mem_of_getElem? (i := 807) (by decide +kernel)⟩
theorem lw_p39 : lw_okq (⟨"ReachTreesModel", "putIn", "(II)V"⟩, 25) := ⟨⟨by decide +kernel, by decide +kernel⟩, List.mem_of_getElem? (i := 645) (by decide +kernel), List.mem_of_getElem? (i := 813) (by decide +kernel), List.mem_of_getElem? (i := 814) (by decide +kernel)⟩
theorem lw_p40 : lw_okq (⟨"ReachTreesModel", "isIn", "(II)Z"⟩, 25) := ⟨⟨by decide +kernel, by decide +kernel⟩, List.mem_of_getElem? (i := 645) (by decide +kernel), List.mem_of_getElem? (i := 817) (by decide +kernel), List.mem_of_getElem? (i := 818) (by decide +kernel)⟩
theorem lw_p41 : lw_okq (⟨"ReachTreesModel", "goOn", "(II)V"⟩, 25) := ⟨⟨by decide +kernel, by decide +kernel⟩, List.mem_of_getElem? (i := 645) (by decide +kernel), List.mem_of_getElem? (i := 821) (by decide +kernel), List.mem_of_getElem? (i := 822) (by decide +kernel)⟩
theorem lw_p42 : lw_okq (⟨"ReachTreesModel", "areTwo", "(II)Z"⟩, 25) := ⟨⟨by decide +kernel, by decide +kernel⟩, List.mem_of_getElem? (i := 645) (by decide +kernel), List.mem_of_getElem? (i := 829) (by decide +kernel), List.mem_of_getElem? (i := 830) (by decide +kernel)⟩
theorem lw_p43 : lw_okq (⟨"ReachTreesModel", "isPoint", "(I)Z"⟩, 25) := ⟨⟨by decide +kernel, by decide +kernel⟩, List.mem_of_getElem? (i := 645) (by decide +kernel), List.mem_of_getElem? (i := 833) (by decide +kernel), List.mem_of_getElem? (i := 834) (by decide +kernel)⟩
theorem lw_p44 : lw_okq (⟨"ReachTreesModel", "isArc", "(II)Z"⟩, 25) := ⟨⟨by decide +kernel, by decide +kernel⟩, List.mem_of_getElem? (i := 645) (by decide +kernel), List.mem_of_getElem? (i := 837) (by decide +kernel), List.mem_of_getElem? (i := 838) (by decide +kernel)⟩
theorem lw_p45 : lw_okq (⟨"ReachTreesModel", "pairs", "()I"⟩, 25) := ⟨⟨by decide +kernel, by decide +kernel⟩, List.mem_of_getElem? (i := 645) (by decide +kernel), List.mem_of_getElem? (i := 841) (by decide +kernel), List.mem_of_getElem? (i := 842) (by decide +kernel)⟩
theorem lw_p46 : lw_okq (⟨"ReachTreesModel", "note", "()V"⟩, 25) := ⟨⟨by decide +kernel, by decide +kernel⟩, List.mem_of_getElem? (i := 645) (by decide +kernel), List.mem_of_getElem? (i := 845) (by decide +kernel), List.mem_of_getElem? (i := 846) (by decide +kernel)⟩
theorem lw_p47 : lw_okq (⟨"ReachTreesModel", "stoodOn", "(III)Z"⟩, 25) := ⟨⟨by decide +kernel, by decide +kernel⟩, List.mem_of_getElem? (i := 645) (by decide +kernel), List.mem_of_getElem? (i := 853) (by decide +kernel), List.mem_of_getElem? (i := 854) (by decide +kernel)⟩
def lw_privs_3 : List (MethodName × Nat) := [(⟨"ReachTreesModel", "isWord", "(IIII)Z"⟩, 25), (⟨"ReachTreesModel", "faults", "()Z"⟩, 25), (⟨"ReachTreesModel", "takesNumber", "(II)Z"⟩, 25), (⟨"ReachTreesModel", "takesPoint", "(II)Z"⟩, 25), (⟨"ReachTreesModel", "doClause", "(I)V"⟩, 25), (⟨"ReachTreesModel", "putIfNew", "(II)V"⟩, 25), (⟨"ReachTreesModel", "arcs", "()I"⟩, 25), (⟨"ReachTreesModel", "putIn", "(II)V"⟩, 25), (⟨"ReachTreesModel", "isIn", "(II)Z"⟩, 25), (⟨"ReachTreesModel", "goOn", "(II)V"⟩, 25), (⟨"ReachTreesModel", "areTwo", "(II)Z"⟩, 25), (⟨"ReachTreesModel", "isPoint", "(I)Z"⟩, 25), (⟨"ReachTreesModel", "isArc", "(II)Z"⟩, 25), (⟨"ReachTreesModel", "pairs", "()I"⟩, 25), (⟨"ReachTreesModel", "note", "()V"⟩, 25), (⟨"ReachTreesModel", "stoodOn", "(III)Z"⟩, 25)]
theorem lw_r3 : ∀ q ∈ lw_privs_3, lw_okq q := List.forall_mem_cons.mpr ⟨lw_p32, List.forall_mem_cons.mpr ⟨lw_p33, List.forall_mem_cons.mpr ⟨lw_p34, List.forall_mem_cons.mpr ⟨lw_p35, List.forall_mem_cons.mpr ⟨lw_p36, List.forall_mem_cons.mpr ⟨lw_p37, List.forall_mem_cons.mpr ⟨lw_p38, List.forall_mem_cons.mpr ⟨lw_p39, List.forall_mem_cons.mpr ⟨lw_p40, List.forall_mem_cons.mpr ⟨lw_p41, List.forall_mem_cons.mpr ⟨lw_p42, List.forall_mem_cons.mpr ⟨lw_p43, List.forall_mem_cons.mpr ⟨lw_p44, List.forall_mem_cons.mpr ⟨lw_p45, List.forall_mem_cons.mpr ⟨lw_p46, List.forall_mem_cons.mpr ⟨lw_p47, fun _ h => absurd h List.not_mem_nil⟩⟩⟩⟩⟩⟩⟩⟩⟩⟩⟩⟩⟩⟩⟩⟩
theorem lw_p48 : lw_okq (⟨"ReachTreesModel", "grow", "(I)V"⟩, 25) := ⟨⟨by decide +kernel, by decide +kernel⟩, List.mem_of_getElem? (i := 645) (by decide +kernel), List.mem_of_getElem? (i := 857) (by decide +kernel), List.mem_of_getElem? (i := 858) (by decide +kernel)⟩
theorem lw_p49 : lw_okq (⟨"ReachTreesModel", "aboveOf", "(II)I"⟩, 25) := ⟨⟨by decide +kernel, by decide +kernel⟩, List.mem_of_getElem? (i := 645) (by decide +kernel), List.mem_of_getElem? (i := 889) (by decide +kernel), List.mem_of_getElem? (i := 890) (by decide +kernel)⟩
theorem lw_p50 : lw_okq (⟨"ReachTreesModel", "treeOf", "(I)I"⟩, 25) := ⟨⟨by decide +kernel, by decide +kernel⟩, List.mem_of_getElem? (i := 645) (by decide +kernel), List.mem_of_getElem? (i := 901) (by decide +kernel), List.mem_of_getElem? (i := 902) (by decide +kernel)⟩
theorem lw_p51 : lw_okq (⟨"ReachTreesModel", "comingTo", "(I)I"⟩, 25) := ⟨⟨by decide +kernel, by decide +kernel⟩, List.mem_of_getElem? (i := 645) (by decide +kernel), List.mem_of_getElem? (i := 905) (by decide +kernel), List.mem_of_getElem? (i := 906) (by decide +kernel)⟩
theorem lw_p52 : lw_okq (⟨"ReachTreesModel", "ringOf", "(I)I"⟩, 25) := ⟨⟨by decide +kernel, by decide +kernel⟩, List.mem_of_getElem? (i := 645) (by decide +kernel), List.mem_of_getElem? (i := 909) (by decide +kernel), List.mem_of_getElem? (i := 910) (by decide +kernel)⟩
theorem lw_p53 : lw_okq (⟨"ReachTreesModel", "isNeedless", "(II)Z"⟩, 25) := ⟨⟨by decide +kernel, by decide +kernel⟩, List.mem_of_getElem? (i := 645) (by decide +kernel), List.mem_of_getElem? (i := 917) (by decide +kernel), List.mem_of_getElem? (i := 918) (by decide +kernel)⟩
theorem lw_p54 : lw_okq (⟨"ReachTreesModel", "without", "(III)I"⟩, 25) := ⟨⟨by decide +kernel, by decide +kernel⟩, List.mem_of_getElem? (i := 645) (by decide +kernel), List.mem_of_getElem? (i := 921) (by decide +kernel), List.mem_of_getElem? (i := 922) (by decide +kernel)⟩
theorem lw_p55 : lw_okq (⟨"ReachTreesModel", "rings", "()I"⟩, 25) := ⟨⟨by decide +kernel, by decide +kernel⟩, List.mem_of_getElem? (i := 645) (by decide +kernel), List.mem_of_getElem? (i := 929) (by decide +kernel), List.mem_of_getElem? (i := 930) (by decide +kernel)⟩
theorem lw_p56 : lw_okq (⟨"ReachTreesModel", "needlessMany", "()I"⟩, 25) := ⟨⟨by decide +kernel, by decide +kernel⟩, List.mem_of_getElem? (i := 645) (by decide +kernel), List.mem_of_getElem? (i := 933) (by decide +kernel), List.mem_of_getElem? (i := 934) (by decide +kernel)⟩
theorem lw_p57 : lw_okq (⟨"ReachTreesModel", "gainOf", "(III)I"⟩, 25) := ⟨⟨by decide +kernel, by decide +kernel⟩, List.mem_of_getElem? (i := 645) (by decide +kernel), List.mem_of_getElem? (i := 947) (by decide +kernel), List.mem_of_getElem? (i := 948) (by decide +kernel)⟩
theorem lw_p58 : lw_okq (⟨"ReachTreesModel", "lossOf", "(II)I"⟩, 25) := ⟨⟨by decide +kernel, by decide +kernel⟩, List.mem_of_getElem? (i := 645) (by decide +kernel), List.mem_of_getElem? (i := 959) (by decide +kernel), List.mem_of_getElem? (i := 960) (by decide +kernel)⟩
theorem lw_p59 : lw_okq (⟨"ReachTreesModel", "findsWay", "(II)Z"⟩, 25) := ⟨⟨by decide +kernel, by decide +kernel⟩, List.mem_of_getElem? (i := 645) (by decide +kernel), List.mem_of_getElem? (i := 971) (by decide +kernel), List.mem_of_getElem? (i := 972) (by decide +kernel)⟩
theorem lw_p60 : lw_okq (⟨"ReachTreesModel", "goAlong", "(II)V"⟩, 25) := ⟨⟨by decide +kernel, by decide +kernel⟩, List.mem_of_getElem? (i := 645) (by decide +kernel), List.mem_of_getElem? (i := 975) (by decide +kernel), List.mem_of_getElem? (i := 976) (by decide +kernel)⟩
theorem lw_p61 : lw_okq (⟨"ReachTreesModel", "allThings", "()I"⟩, 25) := ⟨⟨by decide +kernel, by decide +kernel⟩, List.mem_of_getElem? (i := 645) (by decide +kernel), List.mem_of_getElem? (i := 1022) (by decide +kernel), List.mem_of_getElem? (i := 1023) (by decide +kernel)⟩
def lw_privs_4 : List (MethodName × Nat) := [(⟨"ReachTreesModel", "grow", "(I)V"⟩, 25), (⟨"ReachTreesModel", "aboveOf", "(II)I"⟩, 25), (⟨"ReachTreesModel", "treeOf", "(I)I"⟩, 25), (⟨"ReachTreesModel", "comingTo", "(I)I"⟩, 25), (⟨"ReachTreesModel", "ringOf", "(I)I"⟩, 25), (⟨"ReachTreesModel", "isNeedless", "(II)Z"⟩, 25), (⟨"ReachTreesModel", "without", "(III)I"⟩, 25), (⟨"ReachTreesModel", "rings", "()I"⟩, 25), (⟨"ReachTreesModel", "needlessMany", "()I"⟩, 25), (⟨"ReachTreesModel", "gainOf", "(III)I"⟩, 25), (⟨"ReachTreesModel", "lossOf", "(II)I"⟩, 25), (⟨"ReachTreesModel", "findsWay", "(II)Z"⟩, 25), (⟨"ReachTreesModel", "goAlong", "(II)V"⟩, 25), (⟨"ReachTreesModel", "allThings", "()I"⟩, 25)]
theorem lw_r4 : ∀ q ∈ lw_privs_4, lw_okq q := List.forall_mem_cons.mpr ⟨lw_p48, List.forall_mem_cons.mpr ⟨lw_p49, List.forall_mem_cons.mpr ⟨lw_p50, List.forall_mem_cons.mpr ⟨lw_p51, List.forall_mem_cons.mpr ⟨lw_p52, List.forall_mem_cons.mpr ⟨lw_p53, List.forall_mem_cons.mpr ⟨lw_p54, List.forall_mem_cons.mpr ⟨lw_p55, List.forall_mem_cons.mpr ⟨lw_p56, List.forall_mem_cons.mpr ⟨lw_p57, List.forall_mem_cons.mpr ⟨lw_p58, List.forall_mem_cons.mpr ⟨lw_p59, List.forall_mem_cons.mpr ⟨lw_p60, List.forall_mem_cons.mpr ⟨lw_p61, fun _ h => absurd h List.not_mem_nil⟩⟩⟩⟩⟩⟩⟩⟩⟩⟩⟩⟩⟩⟩
def lw_privs : List (MethodName × Nat) := lw_privs_1 ++ (lw_privs_2 ++ (lw_privs_3 ++ (lw_privs_4)))
def lw_tbl : List Cond := k2_sels lw_privs ++ tables_1
theorem lw_privs_ok : ∀ q ∈ lw_privs, lw_okq q := by
  show ∀ q ∈ lw_privs_1 ++ (lw_privs_2 ++ (lw_privs_3 ++ (lw_privs_4))), lw_okq q
  exact List.forall_mem_append.mpr ⟨lw_r1, List.forall_mem_append.mpr ⟨lw_r2, List.forall_mem_append.mpr ⟨lw_r3, lw_r4⟩⟩⟩
end
section
def RX0 : String := "ReachTrees$Chain"
def TX0 : u_T := fun k => match k with
  | 0 => ("ReachTrees$Chain", "values", "[I", true)
  | 1 => ("ReachTrees$Chain", "isArc", "[Z", true)
  | 2 => ("ReachTrees$Chain", "missing", "Z", false)
  | _ => ("ReachTrees$Chain", "size", "I", false)
def tyX0 : Nat → FieldType := fun k => match k with
  | 0 => .array .int
  | 1 => .array .boolean
  | 2 => .boolean
  | _ => .int
theorem nmX0 : ∀ a, a < 4 → ∀ b, b < 4 → a ≠ b → (TX0 a).2.1 ≠ (TX0 b).2.1 := by decide +kernel
theorem tyX0_ok : ∀ k, k < 4 → parseFieldDescriptor (TX0 k).2.2.1 = some (tyX0 k) := by decide +kernel
abbrev cX0_init : ByteArray := prog_2_method_1_code
def yX0_init : MethodName := ⟨RX0, "<init>", "()V"⟩
abbrev cX0_begin : ByteArray := prog_2_method_2_code
def yX0_begin : MethodName := ⟨RX0, "begin", "()V"⟩
abbrev cX0_vanish : ByteArray := prog_2_method_3_code
def yX0_vanish : MethodName := ⟨RX0, "vanish", "()V"⟩
abbrev cX0_insert : ByteArray := prog_2_method_4_code
def yX0_insert : MethodName := ⟨RX0, "insert", "(IIZ)V"⟩
abbrev cX0_total : ByteArray := prog_2_method_5_code
def yX0_total : MethodName := ⟨RX0, "total", "(ZZ)I"⟩
def RX1 : String := "ReachTrees$Cut"
def TX1 : u_T := fun k => match k with
  | 0 => ("ReachTrees$Cut", "used", "[I", true)
  | 1 => ("ReachTrees$Cut", "usedInto", "[I", true)
  | _ => ("ReachTrees$Cut", "cameFrom", "[I", true)
def tyX1 : Nat → FieldType := fun k => match k with
  | 0 => .array .int
  | 1 => .array .int
  | _ => .array .int
theorem nmX1 : ∀ a, a < 3 → ∀ b, b < 3 → a ≠ b → (TX1 a).2.1 ≠ (TX1 b).2.1 := by decide +kernel
theorem tyX1_ok : ∀ k, k < 3 → parseFieldDescriptor (TX1 k).2.2.1 = some (tyX1 k) := by decide +kernel
abbrev cX1_init : ByteArray := prog_3_method_1_code
def yX1_init : MethodName := ⟨RX1, "<init>", "()V"⟩
abbrev cX1_fewestArcs : ByteArray := prog_3_method_2_code
def yX1_fewestArcs : MethodName := ⟨RX1, "fewestArcs", "(LReachTrees$Net;II)I"⟩
abbrev cX1_findWay : ByteArray := prog_3_method_3_code
def yX1_findWay : MethodName := ⟨RX1, "findWay", "(LReachTrees$Net;II)Z"⟩
abbrev cX1_useWay : ByteArray := prog_3_method_4_code
def yX1_useWay : MethodName := ⟨RX1, "useWay", "(II)V"⟩
abbrev cX1_useStep : ByteArray := prog_3_method_5_code
def yX1_useStep : MethodName := ⟨RX1, "useStep", "(II)V"⟩
def RX2 : String := "ReachTrees$Letters"
def TX2 : u_T := fun k => match k with
  | 0 => ("ReachTrees$Letters", "row", "[I", true)
  | _ => ("ReachTrees$Letters", "length", "I", false)
def tyX2 : Nat → FieldType := fun k => match k with
  | 0 => .array .int
  | _ => .int
theorem nmX2 : ∀ a, a < 2 → ∀ b, b < 2 → a ≠ b → (TX2 a).2.1 ≠ (TX2 b).2.1 := by decide +kernel
theorem tyX2_ok : ∀ k, k < 2 → parseFieldDescriptor (TX2 k).2.2.1 = some (tyX2 k) := by decide +kernel
abbrev cX2_init : ByteArray := prog_4_method_1_code
def yX2_init : MethodName := ⟨RX2, "<init>", "()V"⟩
def RX3 : String := "ReachTrees$Net"
def TX3 : u_T := fun k => match k with
  | 0 => ("ReachTrees$Net", "points", "I", false)
  | 1 => ("ReachTrees$Net", "work", "I", false)
  | 2 => ("ReachTrees$Net", "outgoing", "[I", true)
  | 3 => ("ReachTrees$Net", "members", "[I", true)
  | _ => ("ReachTrees$Net", "aboves", "[I", true)
def tyX3 : Nat → FieldType := fun k => match k with
  | 0 => .int
  | 1 => .int
  | 2 => .array .int
  | 3 => .array .int
  | _ => .array .int
theorem nmX3 : ∀ a, a < 5 → ∀ b, b < 5 → a ≠ b → (TX3 a).2.1 ≠ (TX3 b).2.1 := by decide +kernel
theorem tyX3_ok : ∀ k, k < 5 → parseFieldDescriptor (TX3 k).2.2.1 = some (tyX3 k) := by decide +kernel
abbrev cX3_init : ByteArray := prog_5_method_1_code
def yX3_init : MethodName := ⟨RX3, "<init>", "()V"⟩
abbrev cX3_makeEmpty : ByteArray := prog_5_method_2_code
def yX3_makeEmpty : MethodName := ⟨RX3, "makeEmpty", "(I)V"⟩
abbrev cX3_copyFrom : ByteArray := prog_5_method_3_code
def yX3_copyFrom : MethodName := ⟨RX3, "copyFrom", "(LReachTrees$Net;)V"⟩
abbrev cX3_allPoints : ByteArray := prog_5_method_4_code
def yX3_allPoints : MethodName := ⟨RX3, "allPoints", "()I"⟩
abbrev cX3_hasArc : ByteArray := prog_5_method_5_code
def yX3_hasArc : MethodName := ⟨RX3, "hasArc", "(II)Z"⟩
abbrev cX3_arcs : ByteArray := prog_5_method_6_code
def yX3_arcs : MethodName := ⟨RX3, "arcs", "()I"⟩
abbrev cX3_arcsBetween : ByteArray := prog_5_method_7_code
def yX3_arcsBetween : MethodName := ⟨RX3, "arcsBetween", "(II)I"⟩
abbrev cX3_comesTo : ByteArray := prog_5_method_8_code
def yX3_comesTo : MethodName := ⟨RX3, "comesTo", "(II)Z"⟩
abbrev cX3_pairs : ByteArray := prog_5_method_9_code
def yX3_pairs : MethodName := ⟨RX3, "pairs", "()I"⟩
abbrev cX3_aboveOf : ByteArray := prog_5_method_10_code
def yX3_aboveOf : MethodName := ⟨RX3, "aboveOf", "(II)I"⟩
abbrev cX3_depthOf : ByteArray := prog_5_method_11_code
def yX3_depthOf : MethodName := ⟨RX3, "depthOf", "(II)I"⟩
abbrev cX3_climb : ByteArray := prog_5_method_12_code
def yX3_climb : MethodName := ⟨RX3, "climb", "(III)I"⟩
abbrev cX3_putIn : ByteArray := prog_5_method_13_code
def yX3_putIn : MethodName := ⟨RX3, "putIn", "(II)V"⟩
abbrev cX3_graft : ByteArray := prog_5_method_14_code
def yX3_graft : MethodName := ⟨RX3, "graft", "(IIII)V"⟩
abbrev cX3_followArcs : ByteArray := prog_5_method_15_code
def yX3_followArcs : MethodName := ⟨RX3, "followArcs", "(III)V"⟩
abbrev cX3_takeOut : ByteArray := prog_5_method_16_code
def yX3_takeOut : MethodName := ⟨RX3, "takeOut", "(II)V"⟩
abbrev cX3_stoodOn : ByteArray := prog_5_method_17_code
def yX3_stoodOn : MethodName := ⟨RX3, "stoodOn", "(III)Z"⟩
abbrev cX3_makeAnew : ByteArray := prog_5_method_18_code
def yX3_makeAnew : MethodName := ⟨RX3, "makeAnew", "(I)V"⟩
abbrev cX3_comersTo : ByteArray := prog_5_method_19_code
def yX3_comersTo : MethodName := ⟨RX3, "comersTo", "(I)I"⟩
abbrev cX3_ringOf : ByteArray := prog_5_method_20_code
def yX3_ringOf : MethodName := ⟨RX3, "ringOf", "(I)I"⟩
abbrev cX3_rings : ByteArray := prog_5_method_21_code
def yX3_rings : MethodName := ⟨RX3, "rings", "()I"⟩
abbrev cX3_isNeedless : ByteArray := prog_5_method_22_code
def yX3_isNeedless : MethodName := ⟨RX3, "isNeedless", "(II)Z"⟩
abbrev cX3_needlessArcs : ByteArray := prog_5_method_23_code
def yX3_needlessArcs : MethodName := ⟨RX3, "needlessArcs", "()I"⟩
abbrev cX3_membersWithout : ByteArray := prog_5_method_24_code
def yX3_membersWithout : MethodName := ⟨RX3, "membersWithout", "(III)I"⟩
abbrev cX3_pairsLost : ByteArray := prog_5_method_25_code
def yX3_pairsLost : MethodName := ⟨RX3, "pairsLost", "(II)I"⟩
abbrev cX3_newMembers : ByteArray := prog_5_method_26_code
def yX3_newMembers : MethodName := ⟨RX3, "newMembers", "(III)I"⟩
abbrev cX3_pairsGained : ByteArray := prog_5_method_27_code
def yX3_pairsGained : MethodName := ⟨RX3, "pairsGained", "(II)I"⟩
abbrev cX3_workGained : ByteArray := prog_5_method_28_code
def yX3_workGained : MethodName := ⟨RX3, "workGained", "(II)I"⟩
def RX4 : String := "ReachTrees$Past"
def TX4 : u_T := fun k => match k with
  | 0 => ("ReachTrees$Past", "notes", "[LReachTrees$Net;", true)
  | 1 => ("ReachTrees$Past", "next", "I", false)
  | _ => ("ReachTrees$Past", "size", "I", false)
def tyX4 : Nat → FieldType := fun k => match k with
  | 0 => .array (.object "ReachTrees$Net")
  | 1 => .int
  | _ => .int
theorem nmX4 : ∀ a, a < 3 → ∀ b, b < 3 → a ≠ b → (TX4 a).2.1 ≠ (TX4 b).2.1 := by decide +kernel
theorem tyX4_ok : ∀ k, k < 3 → parseFieldDescriptor (TX4 k).2.2.1 = some (tyX4 k) := by decide +kernel
abbrev cX4_init : ByteArray := prog_6_method_1_code
def yX4_init : MethodName := ⟨RX4, "<init>", "()V"⟩
abbrev cX4_note : ByteArray := prog_6_method_2_code
def yX4_note : MethodName := ⟨RX4, "note", "(LReachTrees$Net;)V"⟩
abbrev cX4_restore : ByteArray := prog_6_method_3_code
def yX4_restore : MethodName := ⟨RX4, "restore", "(LReachTrees$Net;)V"⟩
abbrev cX4_forget : ByteArray := prog_6_method_4_code
def yX4_forget : MethodName := ⟨RX4, "forget", "()V"⟩
def RX5 : String := "ReachTrees$Reader"
def TX5 : u_T := fun k => match k with
  | 0 => ("ReachTrees$Reader", "letters", "LReachTrees$Letters;", true)
  | 1 => ("ReachTrees$Reader", "kinds", "[I", true)
  | 2 => ("ReachTrees$Reader", "numbers", "[I", true)
  | 3 => ("ReachTrees$Reader", "clauses", "I", false)
  | 4 => ("ReachTrees$Reader", "tokenSort", "I", false)
  | 5 => ("ReachTrees$Reader", "tokenStart", "I", false)
  | _ => ("ReachTrees$Reader", "tokenEnd", "I", false)
def tyX5 : Nat → FieldType := fun k => match k with
  | 0 => .object "ReachTrees$Letters"
  | 1 => .array .int
  | 2 => .array .int
  | 3 => .int
  | 4 => .int
  | 5 => .int
  | _ => .int
theorem nmX5 : ∀ a, a < 7 → ∀ b, b < 7 → a ≠ b → (TX5 a).2.1 ≠ (TX5 b).2.1 := by decide +kernel
theorem tyX5_ok : ∀ k, k < 7 → parseFieldDescriptor (TX5 k).2.2.1 = some (tyX5 k) := by decide +kernel
abbrev cX5_init : ByteArray := prog_7_method_1_code
def yX5_init : MethodName := ⟨RX5, "<init>", "(LReachTrees$Letters;)V"⟩
abbrev cX5_numberOf : ByteArray := prog_7_method_2_code
def yX5_numberOf : MethodName := ⟨RX5, "numberOf", "(II)I"⟩
abbrev cX5_readAll : ByteArray := prog_7_method_3_code
def yX5_readAll : MethodName := ⟨RX5, "readAll", "(I)I"⟩
abbrev cX5_readClause : ByteArray := prog_7_method_4_code
def yX5_readClause : MethodName := ⟨RX5, "readClause", "(I)Z"⟩
abbrev cX5_takeNumber : ByteArray := prog_7_method_5_code
def yX5_takeNumber : MethodName := ⟨RX5, "takeNumber", "(III)Z"⟩
abbrev cX5_tokenNumber : ByteArray := prog_7_method_6_code
def yX5_tokenNumber : MethodName := ⟨RX5, "tokenNumber", "()I"⟩
abbrev cX5_nextToken : ByteArray := prog_7_method_7_code
def yX5_nextToken : MethodName := ⟨RX5, "nextToken", "()V"⟩
abbrev cX5_sortOf : ByteArray := prog_7_method_8_code
def yX5_sortOf : MethodName := ⟨RX5, "sortOf", "(I)I"⟩
abbrev cX5_isSemicolon : ByteArray := prog_7_method_9_code
def yX5_isSemicolon : MethodName := ⟨RX5, "isSemicolon", "()Z"⟩
abbrev cX5_kindOfToken : ByteArray := prog_7_method_10_code
def yX5_kindOfToken : MethodName := ⟨RX5, "kindOfToken", "()I"⟩
abbrev cX5_tokenIs : ByteArray := prog_7_method_11_code
def yX5_tokenIs : MethodName := ⟨RX5, "tokenIs", "(Ljava/lang/String;)Z"⟩
abbrev cX5_wordOf : ByteArray := prog_7_method_12_code
def yX5_wordOf : MethodName := ⟨RX5, "wordOf", "(I)Ljava/lang/String;"⟩
abbrev cX5_numbersOf : ByteArray := prog_7_method_13_code
def yX5_numbersOf : MethodName := ⟨RX5, "numbersOf", "(I)I"⟩
def RX6 : String := "ReachTrees"
def TX6 : u_T := fun k => match k with
  | 0 => ("ReachTrees", "letters", "LReachTrees$Letters;", true)
  | 1 => ("ReachTrees", "reader", "LReachTrees$Reader;", true)
  | 2 => ("ReachTrees", "live", "LReachTrees$Net;", true)
  | 3 => ("ReachTrees", "past", "LReachTrees$Past;", true)
  | 4 => ("ReachTrees", "kept", "[LReachTrees$Net;", true)
  | 5 => ("ReachTrees", "keptSet", "I", false)
  | 6 => ("ReachTrees", "cut", "LReachTrees$Cut;", true)
  | _ => ("ReachTrees", "chains", "[LReachTrees$Chain;", true)
def tyX6 : Nat → FieldType := fun k => match k with
  | 0 => .object "ReachTrees$Letters"
  | 1 => .object "ReachTrees$Reader"
  | 2 => .object "ReachTrees$Net"
  | 3 => .object "ReachTrees$Past"
  | 4 => .array (.object "ReachTrees$Net")
  | 5 => .int
  | 6 => .object "ReachTrees$Cut"
  | _ => .array (.object "ReachTrees$Chain")
theorem nmX6 : ∀ a, a < 8 → ∀ b, b < 8 → a ≠ b → (TX6 a).2.1 ≠ (TX6 b).2.1 := by decide +kernel
theorem tyX6_ok : ∀ k, k < 8 → parseFieldDescriptor (TX6 k).2.2.1 = some (tyX6 k) := by decide +kernel
abbrev cX6_init : ByteArray := prog_1_method_1_code
def yX6_init : MethodName := ⟨RX6, "<init>", "()V"⟩
abbrev cX6_write : ByteArray := prog_1_method_2_code
def yX6_write : MethodName := ⟨RX6, "write", "(I)I"⟩
abbrev cX6_erase : ByteArray := prog_1_method_3_code
def yX6_erase : MethodName := ⟨RX6, "erase", "()I"⟩
abbrev cX6_fault : ByteArray := prog_1_method_4_code
def yX6_fault : MethodName := ⟨RX6, "fault", "()I"⟩
abbrev cX6_net : ByteArray := prog_1_method_5_code
def yX6_net : MethodName := ⟨RX6, "net", "()I"⟩
abbrev cX6_doClause : ByteArray := prog_1_method_6_code
def yX6_doClause : MethodName := ⟨RX6, "doClause", "(I)V"⟩
abbrev cX6_putIfNew : ByteArray := prog_1_method_7_code
def yX6_putIfNew : MethodName := ⟨RX6, "putIfNew", "(II)V"⟩
abbrev cX6_put : ByteArray := prog_1_method_8_code
def yX6_put : MethodName := ⟨RX6, "put", "(II)I"⟩
abbrev cX6_take : ByteArray := prog_1_method_9_code
def yX6_take : MethodName := ⟨RX6, "take", "(II)I"⟩
abbrev cX6_clear : ByteArray := prog_1_method_10_code
def yX6_clear : MethodName := ⟨RX6, "clear", "()I"⟩
abbrev cX6_undo : ByteArray := prog_1_method_11_code
def yX6_undo : MethodName := ⟨RX6, "undo", "()I"⟩
abbrev cX6_keep : ByteArray := prog_1_method_12_code
def yX6_keep : MethodName := ⟨RX6, "keep", "(I)I"⟩
abbrev cX6_back : ByteArray := prog_1_method_13_code
def yX6_back : MethodName := ⟨RX6, "back", "(I)I"⟩
abbrev cX6_arc : ByteArray := prog_1_method_14_code
def yX6_arc : MethodName := ⟨RX6, "arc", "(II)I"⟩
abbrev cX6_reaches : ByteArray := prog_1_method_15_code
def yX6_reaches : MethodName := ⟨RX6, "reaches", "(II)I"⟩
abbrev cX6_above : ByteArray := prog_1_method_16_code
def yX6_above : MethodName := ⟨RX6, "above", "(II)I"⟩
abbrev cX6_way : ByteArray := prog_1_method_17_code
def yX6_way : MethodName := ⟨RX6, "way", "(III)I"⟩
abbrev cX6_around : ByteArray := prog_1_method_18_code
def yX6_around : MethodName := ⟨RX6, "around", "(II)I"⟩
abbrev cX6_needless : ByteArray := prog_1_method_19_code
def yX6_needless : MethodName := ⟨RX6, "needless", "(II)I"⟩
abbrev cX6_reduced : ByteArray := prog_1_method_20_code
def yX6_reduced : MethodName := ⟨RX6, "reduced", "()I"⟩
abbrev cX6_fold : ByteArray := prog_1_method_21_code
def yX6_fold : MethodName := ⟨RX6, "fold", "(II)I"⟩
abbrev cX6_foldPair : ByteArray := prog_1_method_22_code
def yX6_foldPair : MethodName := ⟨RX6, "foldPair", "(IIII)I"⟩
abbrev cX6_gain : ByteArray := prog_1_method_23_code
def yX6_gain : MethodName := ⟨RX6, "gain", "(III)I"⟩
abbrev cX6_best : ByteArray := prog_1_method_24_code
def yX6_best : MethodName := ⟨RX6, "best", "()I"⟩
abbrev cX6_loss : ByteArray := prog_1_method_25_code
def yX6_loss : MethodName := ⟨RX6, "loss", "(II)I"⟩
abbrev cX6_worst : ByteArray := prog_1_method_26_code
def yX6_worst : MethodName := ⟨RX6, "worst", "()I"⟩
abbrev cX6_sever : ByteArray := prog_1_method_27_code
def yX6_sever : MethodName := ⟨RX6, "sever", "(II)I"⟩
abbrev cX6_chain : ByteArray := prog_1_method_28_code
def yX6_chain : MethodName := ⟨RX6, "chain", "(I)I"⟩
abbrev cX6_add : ByteArray := prog_1_method_29_code
def yX6_add : MethodName := ⟨RX6, "add", "(IIII)I"⟩
abbrev cX6_last : ByteArray := prog_1_method_30_code
def yX6_last : MethodName := ⟨RX6, "last", "(II)I"⟩
abbrev cX6_sum : ByteArray := prog_1_method_31_code
def yX6_sum : MethodName := ⟨RX6, "sum", "(II)I"⟩
abbrev cX6_strike : ByteArray := prog_1_method_32_code
def yX6_strike : MethodName := ⟨RX6, "strike", "(II)I"⟩
abbrev cX6_strikeArcs : ByteArray := prog_1_method_33_code
def yX6_strikeArcs : MethodName := ⟨RX6, "strikeArcs", "(LReachTrees$Chain;Z)I"⟩
abbrev cX6_append : ByteArray := prog_1_method_34_code
def yX6_append : MethodName := ⟨RX6, "append", "(II)I"⟩
abbrev cX6_drop : ByteArray := prog_1_method_35_code
def yX6_drop : MethodName := ⟨RX6, "drop", "(I)I"⟩
abbrev cX6_count : ByteArray := prog_1_method_36_code
def yX6_count : MethodName := ⟨RX6, "count", "(I)I"⟩
abbrev cX6_thingsOfChains : ByteArray := prog_1_method_37_code
def yX6_thingsOfChains : MethodName := ⟨RX6, "thingsOfChains", "()I"⟩
abbrev cX6_isPoint : ByteArray := prog_1_method_38_code
def yX6_isPoint : MethodName := ⟨RX6, "isPoint", "(I)Z"⟩
abbrev cX6_arePair : ByteArray := prog_1_method_39_code
def yX6_arePair : MethodName := ⟨RX6, "arePair", "(II)Z"⟩
abbrev cX6_isArcThere : ByteArray := prog_1_method_40_code
def yX6_isArcThere : MethodName := ⟨RX6, "isArcThere", "(II)Z"⟩
abbrev cX6_isTellable : ByteArray := prog_1_method_41_code
def yX6_isTellable : MethodName := ⟨RX6, "isTellable", "(I)Z"⟩
abbrev cX6_isChain : ByteArray := prog_1_method_42_code
def yX6_isChain : MethodName := ⟨RX6, "isChain", "(I)Z"⟩
abbrev cX6_tell : ByteArray := prog_1_method_43_code
def yX6_tell : MethodName := ⟨RX6, "tell", "(II)I"⟩
abbrev cX6_has : ByteArray := prog_1_method_44_code
def yX6_has : MethodName := ⟨RX6, "has", "(II)Z"⟩
abbrev cX6_lowest : ByteArray := prog_1_method_45_code
def yX6_lowest : MethodName := ⟨RX6, "lowest", "(I)I"⟩
def RX7 : String := "ReachTreesModel"
def TX7 : u_T := fun k => match k with
  | 0 => ("ReachTreesModel", "n", "I", false)
  | 1 => ("ReachTreesModel", "st", "[I", true)
  | 2 => ("ReachTreesModel", "past", "[I", true)
  | 3 => ("ReachTreesModel", "undoMany", "I", false)
  | 4 => ("ReachTreesModel", "kept", "[I", true)
  | 5 => ("ReachTreesModel", "isKept", "[I", true)
  | 6 => ("ReachTreesModel", "pile", "[I", true)
  | 7 => ("ReachTreesModel", "nexts", "[I", true)
  | 8 => ("ReachTreesModel", "text", "[I", true)
  | 9 => ("ReachTreesModel", "length", "I", false)
  | 10 => ("ReachTreesModel", "place", "I", false)
  | 11 => ("ReachTreesModel", "sort", "I", false)
  | 12 => ("ReachTreesModel", "from", "I", false)
  | 13 => ("ReachTreesModel", "number", "I", false)
  | 14 => ("ReachTreesModel", "wrong", "I", false)
  | 15 => ("ReachTreesModel", "clauses", "[I", true)
  | 16 => ("ReachTreesModel", "clauseMany", "I", false)
  | 17 => ("ReachTreesModel", "points", "I", false)
  | 18 => ("ReachTreesModel", "aside", "[I", true)
  | 19 => ("ReachTreesModel", "open", "[I", true)
  | 20 => ("ReachTreesModel", "by", "[I", true)
  | 21 => ("ReachTreesModel", "twice", "[I", true)
  | 22 => ("ReachTreesModel", "sizes", "[I", true)
  | 23 => ("ReachTreesModel", "sorts", "[I", true)
  | _ => ("ReachTreesModel", "things", "[I", true)
def tyX7 : Nat → FieldType := fun k => match k with
  | 0 => .int
  | 1 => .array .int
  | 2 => .array .int
  | 3 => .int
  | 4 => .array .int
  | 5 => .array .int
  | 6 => .array .int
  | 7 => .array .int
  | 8 => .array .int
  | 9 => .int
  | 10 => .int
  | 11 => .int
  | 12 => .int
  | 13 => .int
  | 14 => .int
  | 15 => .array .int
  | 16 => .int
  | 17 => .int
  | 18 => .array .int
  | 19 => .array .int
  | 20 => .array .int
  | 21 => .array .int
  | 22 => .array .int
  | 23 => .array .int
  | _ => .array .int
theorem nmX7 : ∀ a, a < 25 → ∀ b, b < 25 → a ≠ b → (TX7 a).2.1 ≠ (TX7 b).2.1 := by decide +kernel
theorem tyX7_ok : ∀ k, k < 25 → parseFieldDescriptor (TX7 k).2.2.1 = some (tyX7 k) := by decide +kernel
abbrev cX7_init : ByteArray := prog_9_method_1_code
def yX7_init : MethodName := ⟨RX7, "<init>", "()V"⟩
abbrev cX7_in : ByteArray := prog_9_method_2_code
def yX7_in : MethodName := ⟨RX7, "in", "(JJJ)Z"⟩
abbrev cX7_has : ByteArray := prog_9_method_3_code
def yX7_has : MethodName := ⟨RX7, "has", "(II)Z"⟩
abbrev cX7_ones : ByteArray := prog_9_method_4_code
def yX7_ones : MethodName := ⟨RX7, "ones", "(I)I"⟩
abbrev cX7_isPoint : ByteArray := prog_9_method_5_code
def yX7_isPoint : MethodName := ⟨RX7, "isPoint", "(I)Z"⟩
abbrev cX7_areTwo : ByteArray := prog_9_method_6_code
def yX7_areTwo : MethodName := ⟨RX7, "areTwo", "(II)Z"⟩
abbrev cX7_isArc : ByteArray := prog_9_method_7_code
def yX7_isArc : MethodName := ⟨RX7, "isArc", "(II)Z"⟩
abbrev cX7_begin : ByteArray := prog_9_method_8_code
def yX7_begin : MethodName := ⟨RX7, "begin", "(I)V"⟩
abbrev cX7_isIn : ByteArray := prog_9_method_9_code
def yX7_isIn : MethodName := ⟨RX7, "isIn", "(II)Z"⟩
abbrev cX7_arcs : ByteArray := prog_9_method_10_code
def yX7_arcs : MethodName := ⟨RX7, "arcs", "()I"⟩
abbrev cX7_pairs : ByteArray := prog_9_method_11_code
def yX7_pairs : MethodName := ⟨RX7, "pairs", "()I"⟩
abbrev cX7_goOn : ByteArray := prog_9_method_12_code
def yX7_goOn : MethodName := ⟨RX7, "goOn", "(II)V"⟩
abbrev cX7_putIn : ByteArray := prog_9_method_13_code
def yX7_putIn : MethodName := ⟨RX7, "putIn", "(II)V"⟩
abbrev cX7_grow : ByteArray := prog_9_method_14_code
def yX7_grow : MethodName := ⟨RX7, "grow", "(I)V"⟩
abbrev cX7_note : ByteArray := prog_9_method_15_code
def yX7_note : MethodName := ⟨RX7, "note", "()V"⟩
abbrev cX7_write : ByteArray := prog_9_method_16_code
def yX7_write : MethodName := ⟨RX7, "write", "(I)I"⟩
abbrev cX7_erase : ByteArray := prog_9_method_17_code
def yX7_erase : MethodName := ⟨RX7, "erase", "()I"⟩
abbrev cX7_letter : ByteArray := prog_9_method_18_code
def yX7_letter : MethodName := ⟨RX7, "letter", "()I"⟩
abbrev cX7_next : ByteArray := prog_9_method_19_code
def yX7_next : MethodName := ⟨RX7, "next", "()V"⟩
abbrev cX7_faults : ByteArray := prog_9_method_20_code
def yX7_faults : MethodName := ⟨RX7, "faults", "()Z"⟩
abbrev cX7_takesNumber : ByteArray := prog_9_method_21_code
def yX7_takesNumber : MethodName := ⟨RX7, "takesNumber", "(II)Z"⟩
abbrev cX7_isWord : ByteArray := prog_9_method_22_code
def yX7_isWord : MethodName := ⟨RX7, "isWord", "(IIII)Z"⟩
abbrev cX7_wordOf : ByteArray := prog_9_method_23_code
def yX7_wordOf : MethodName := ⟨RX7, "wordOf", "()I"⟩
abbrev cX7_takesPoint : ByteArray := prog_9_method_24_code
def yX7_takesPoint : MethodName := ⟨RX7, "takesPoint", "(II)Z"⟩
abbrev cX7_readClause : ByteArray := prog_9_method_25_code
def yX7_readClause : MethodName := ⟨RX7, "readClause", "()Z"⟩
abbrev cX7_readAll : ByteArray := prog_9_method_26_code
def yX7_readAll : MethodName := ⟨RX7, "readAll", "()Z"⟩
abbrev cX7_fault : ByteArray := prog_9_method_27_code
def yX7_fault : MethodName := ⟨RX7, "fault", "()I"⟩
abbrev cX7_putIfNew : ByteArray := prog_9_method_28_code
def yX7_putIfNew : MethodName := ⟨RX7, "putIfNew", "(II)V"⟩
abbrev cX7_doClause : ByteArray := prog_9_method_29_code
def yX7_doClause : MethodName := ⟨RX7, "doClause", "(I)V"⟩
abbrev cX7_loseChains : ByteArray := prog_9_method_30_code
def yX7_loseChains : MethodName := ⟨RX7, "loseChains", "()V"⟩
abbrev cX7_net : ByteArray := prog_9_method_31_code
def yX7_net : MethodName := ⟨RX7, "net", "()I"⟩
abbrev cX7_put : ByteArray := prog_9_method_32_code
def yX7_put : MethodName := ⟨RX7, "put", "(II)I"⟩
abbrev cX7_stoodOn : ByteArray := prog_9_method_33_code
def yX7_stoodOn : MethodName := ⟨RX7, "stoodOn", "(III)Z"⟩
abbrev cX7_take : ByteArray := prog_9_method_34_code
def yX7_take : MethodName := ⟨RX7, "take", "(II)I"⟩
abbrev cX7_clear : ByteArray := prog_9_method_35_code
def yX7_clear : MethodName := ⟨RX7, "clear", "()I"⟩
abbrev cX7_undo : ByteArray := prog_9_method_36_code
def yX7_undo : MethodName := ⟨RX7, "undo", "()I"⟩
abbrev cX7_keep : ByteArray := prog_9_method_37_code
def yX7_keep : MethodName := ⟨RX7, "keep", "(I)I"⟩
abbrev cX7_back : ByteArray := prog_9_method_38_code
def yX7_back : MethodName := ⟨RX7, "back", "(I)I"⟩
abbrev cX7_arc : ByteArray := prog_9_method_39_code
def yX7_arc : MethodName := ⟨RX7, "arc", "(II)I"⟩
abbrev cX7_reaches : ByteArray := prog_9_method_40_code
def yX7_reaches : MethodName := ⟨RX7, "reaches", "(II)I"⟩
abbrev cX7_aboveOf : ByteArray := prog_9_method_41_code
def yX7_aboveOf : MethodName := ⟨RX7, "aboveOf", "(II)I"⟩
abbrev cX7_above : ByteArray := prog_9_method_42_code
def yX7_above : MethodName := ⟨RX7, "above", "(II)I"⟩
abbrev cX7_way : ByteArray := prog_9_method_43_code
def yX7_way : MethodName := ⟨RX7, "way", "(III)I"⟩
abbrev cX7_treeOf : ByteArray := prog_9_method_44_code
def yX7_treeOf : MethodName := ⟨RX7, "treeOf", "(I)I"⟩
abbrev cX7_comingTo : ByteArray := prog_9_method_45_code
def yX7_comingTo : MethodName := ⟨RX7, "comingTo", "(I)I"⟩
abbrev cX7_ringOf : ByteArray := prog_9_method_46_code
def yX7_ringOf : MethodName := ⟨RX7, "ringOf", "(I)I"⟩
abbrev cX7_around : ByteArray := prog_9_method_47_code
def yX7_around : MethodName := ⟨RX7, "around", "(II)I"⟩
abbrev cX7_without : ByteArray := prog_9_method_48_code
def yX7_without : MethodName := ⟨RX7, "without", "(III)I"⟩
abbrev cX7_isNeedless : ByteArray := prog_9_method_49_code
def yX7_isNeedless : MethodName := ⟨RX7, "isNeedless", "(II)Z"⟩
abbrev cX7_needless : ByteArray := prog_9_method_50_code
def yX7_needless : MethodName := ⟨RX7, "needless", "(II)I"⟩
abbrev cX7_needlessMany : ByteArray := prog_9_method_51_code
def yX7_needlessMany : MethodName := ⟨RX7, "needlessMany", "()I"⟩
abbrev cX7_rings : ByteArray := prog_9_method_52_code
def yX7_rings : MethodName := ⟨RX7, "rings", "()I"⟩
abbrev cX7_reduced : ByteArray := prog_9_method_53_code
def yX7_reduced : MethodName := ⟨RX7, "reduced", "()I"⟩
abbrev cX7_fold : ByteArray := prog_9_method_54_code
def yX7_fold : MethodName := ⟨RX7, "fold", "(II)I"⟩
abbrev cX7_gainOf : ByteArray := prog_9_method_55_code
def yX7_gainOf : MethodName := ⟨RX7, "gainOf", "(III)I"⟩
abbrev cX7_gain : ByteArray := prog_9_method_56_code
def yX7_gain : MethodName := ⟨RX7, "gain", "(III)I"⟩
abbrev cX7_best : ByteArray := prog_9_method_57_code
def yX7_best : MethodName := ⟨RX7, "best", "()I"⟩
abbrev cX7_lossOf : ByteArray := prog_9_method_58_code
def yX7_lossOf : MethodName := ⟨RX7, "lossOf", "(II)I"⟩
abbrev cX7_loss : ByteArray := prog_9_method_59_code
def yX7_loss : MethodName := ⟨RX7, "loss", "(II)I"⟩
abbrev cX7_worst : ByteArray := prog_9_method_60_code
def yX7_worst : MethodName := ⟨RX7, "worst", "()I"⟩
abbrev cX7_findsWay : ByteArray := prog_9_method_61_code
def yX7_findsWay : MethodName := ⟨RX7, "findsWay", "(II)Z"⟩
abbrev cX7_sever : ByteArray := prog_9_method_62_code
def yX7_sever : MethodName := ⟨RX7, "sever", "(II)I"⟩
abbrev cX7_goAlong : ByteArray := prog_9_method_63_code
def yX7_goAlong : MethodName := ⟨RX7, "goAlong", "(II)V"⟩
abbrev cX7_isChain : ByteArray := prog_9_method_64_code
def yX7_isChain : MethodName := ⟨RX7, "isChain", "(I)Z"⟩
abbrev cX7_isOneOf : ByteArray := prog_9_method_65_code
def yX7_isOneOf : MethodName := ⟨RX7, "isOneOf", "(II)Z"⟩
abbrev cX7_chain : ByteArray := prog_9_method_66_code
def yX7_chain : MethodName := ⟨RX7, "chain", "(I)I"⟩
abbrev cX7_add : ByteArray := prog_9_method_67_code
def yX7_add : MethodName := ⟨RX7, "add", "(IIII)I"⟩
abbrev cX7_last : ByteArray := prog_9_method_68_code
def yX7_last : MethodName := ⟨RX7, "last", "(II)I"⟩
abbrev cX7_sum : ByteArray := prog_9_method_69_code
def yX7_sum : MethodName := ⟨RX7, "sum", "(II)I"⟩
abbrev cX7_strike : ByteArray := prog_9_method_70_code
def yX7_strike : MethodName := ⟨RX7, "strike", "(II)I"⟩
abbrev cX7_append : ByteArray := prog_9_method_71_code
def yX7_append : MethodName := ⟨RX7, "append", "(II)I"⟩
abbrev cX7_drop : ByteArray := prog_9_method_72_code
def yX7_drop : MethodName := ⟨RX7, "drop", "(I)I"⟩
abbrev cX7_allThings : ByteArray := prog_9_method_73_code
def yX7_allThings : MethodName := ⟨RX7, "allThings", "()I"⟩
abbrev cX7_count : ByteArray := prog_9_method_74_code
def yX7_count : MethodName := ⟨RX7, "count", "(I)I"⟩
def RJx145de : String := "java/io/Serializable"
def RJx9f9b0 : String := "java/lang/CharSequence"
def RJxb160c : String := "java/lang/Comparable"
def RJ6 : String := "java/lang/Integer"
abbrev cJ6_bitCount_0f7a4 : ByteArray := prog_10_method_49_code
def yJ6_bitCount_0f7a4 : MethodName := ⟨RJ6, "bitCount", "(I)I"⟩
def RJ9 : String := "java/lang/Math"
abbrev cJ9_max_7cf53 : ByteArray := prog_11_method_65_code
def yJ9_max_7cf53 : MethodName := ⟨RJ9, "max", "(II)I"⟩
abbrev cJ9_min_7cf53 : ByteArray := prog_11_method_69_code
def yJ9_min_7cf53 : MethodName := ⟨RJ9, "min", "(II)I"⟩
def RJ0 : String := "java/lang/String"
abbrev cJ0_length_8abf5 : ByteArray := prog_12_method_54_code
def yJ0_length_8abf5 : MethodName := ⟨RJ0, "length", "()I"⟩
abbrev cJ0_charAt_5068e : ByteArray := prog_12_method_56_code
def yJ0_charAt_5068e : MethodName := ⟨RJ0, "charAt", "(I)C"⟩
abbrev cJ0_coder_7d493 : ByteArray := prog_12_method_152_code
def yJ0_coder_7d493 : MethodName := ⟨RJ0, "coder", "()B"⟩
abbrev cJ0_isLatin1_aae02 : ByteArray := prog_12_method_154_code
def yJ0_isLatin1_aae02 : MethodName := ⟨RJ0, "isLatin1", "()Z"⟩
abbrev cJ0_checkIndex_df160 : ByteArray := prog_12_method_155_code
def yJ0_checkIndex_df160 : MethodName := ⟨RJ0, "checkIndex", "(II)V"⟩
def RJ1 : String := "java/lang/StringLatin1"
abbrev cJ1_charAt_3b067 : ByteArray := prog_13_method_2_code
def yJ1_charAt_3b067 : MethodName := ⟨RJ1, "charAt", "([BI)C"⟩
def RJ2 : String := "java/lang/StringUTF16"
abbrev cJ2_getChar_3b067 : ByteArray := prog_14_method_5_code
def yJ2_getChar_3b067 : MethodName := ⟨RJ2, "getChar", "([BI)C"⟩
abbrev cJ2_length_9d52b : ByteArray := prog_14_method_6_code
def yJ2_length_9d52b : MethodName := ⟨RJ2, "length", "([B)I"⟩
abbrev cJ2_charAt_3b067 : ByteArray := prog_14_method_83_code
def yJ2_charAt_3b067 : MethodName := ⟨RJ2, "charAt", "([BI)C"⟩
abbrev cJ2_checkIndex_2214a : ByteArray := prog_14_method_91_code
def yJ2_checkIndex_2214a : MethodName := ⟨RJ2, "checkIndex", "(I[B)V"⟩
def RJ10 : String := "java/lang/System"
def RJxfd54e : String := "java/lang/constant/Constable"
def RJx3cf43 : String := "java/lang/constant/ConstantDesc"
def RJ7 : String := "java/util/Arrays"
abbrev cJ7_fill_53178 : ByteArray := prog_16_method_103_code
def yJ7_fill_53178 : MethodName := ⟨RJ7, "fill", "([II)V"⟩
def RJ3 : String := "jdk/internal/util/Preconditions"
abbrev cJ3_checkIndex_8e157 : ByteArray := prog_17_method_11_code
def yJ3_checkIndex_8e157 : MethodName := ⟨RJ3, "checkIndex", "(IILjava/util/function/BiFunction;)I"⟩
def RL : String := "ReachTreesLaw"
abbrev cL_law : ByteArray := code
def yL_law : MethodName := ⟨RL, "law", "([I)Z"⟩
abbrev vwCl : List vw_C := [(RX0, TX0, 4), (RX1, TX1, 3), (RX2, TX2, 2), (RX3, TX3, 5), (RX4, TX4, 3), (RX5, TX5, 7), (RX6, TX6, 8), (RX7, TX7, 25)]
end
section
theorem dJ6_bitCount_0f7a4_0 : decode cJ6_bitCount_0f7a4 0 = .ok (.iload_n 0, 1) := by decide +kernel
theorem dJ6_bitCount_0f7a4_1 : decode cJ6_bitCount_0f7a4 1 = .ok (.iload_n 0, 1) := by decide +kernel
theorem dJ6_bitCount_0f7a4_2 : decode cJ6_bitCount_0f7a4 2 = .ok (.iconst 1, 1) := by decide +kernel
theorem dJ6_bitCount_0f7a4_3 : decode cJ6_bitCount_0f7a4 3 = .ok (.iushr, 1) := by decide +kernel
theorem dJ6_bitCount_0f7a4_4 : decode cJ6_bitCount_0f7a4 4 = .ok (.ldc_w 265, 3) := by decide +kernel
theorem dJ6_bitCount_0f7a4_7 : decode cJ6_bitCount_0f7a4 7 = .ok (.iand, 1) := by decide +kernel
theorem dJ6_bitCount_0f7a4_8 : decode cJ6_bitCount_0f7a4 8 = .ok (.isub, 1) := by decide +kernel
theorem dJ6_bitCount_0f7a4_9 : decode cJ6_bitCount_0f7a4 9 = .ok (.istore_n 0, 1) := by decide +kernel
theorem dJ6_bitCount_0f7a4_10 : decode cJ6_bitCount_0f7a4 10 = .ok (.iload_n 0, 1) := by decide +kernel
theorem dJ6_bitCount_0f7a4_11 : decode cJ6_bitCount_0f7a4 11 = .ok (.ldc_w 266, 3) := by decide +kernel
theorem dJ6_bitCount_0f7a4_14 : decode cJ6_bitCount_0f7a4 14 = .ok (.iand, 1) := by decide +kernel
theorem dJ6_bitCount_0f7a4_15 : decode cJ6_bitCount_0f7a4 15 = .ok (.iload_n 0, 1) := by decide +kernel
theorem dJ6_bitCount_0f7a4_16 : decode cJ6_bitCount_0f7a4 16 = .ok (.iconst 2, 1) := by decide +kernel
theorem dJ6_bitCount_0f7a4_17 : decode cJ6_bitCount_0f7a4 17 = .ok (.iushr, 1) := by decide +kernel
theorem dJ6_bitCount_0f7a4_18 : decode cJ6_bitCount_0f7a4 18 = .ok (.ldc_w 266, 3) := by decide +kernel
theorem dJ6_bitCount_0f7a4_21 : decode cJ6_bitCount_0f7a4 21 = .ok (.iand, 1) := by decide +kernel
theorem dJ6_bitCount_0f7a4_22 : decode cJ6_bitCount_0f7a4 22 = .ok (.iadd, 1) := by decide +kernel
theorem dJ6_bitCount_0f7a4_23 : decode cJ6_bitCount_0f7a4 23 = .ok (.istore_n 0, 1) := by decide +kernel
theorem dJ6_bitCount_0f7a4_24 : decode cJ6_bitCount_0f7a4 24 = .ok (.iload_n 0, 1) := by decide +kernel
theorem dJ6_bitCount_0f7a4_25 : decode cJ6_bitCount_0f7a4 25 = .ok (.iload_n 0, 1) := by decide +kernel
theorem dJ6_bitCount_0f7a4_26 : decode cJ6_bitCount_0f7a4 26 = .ok (.iconst 4, 1) := by decide +kernel
theorem dJ6_bitCount_0f7a4_27 : decode cJ6_bitCount_0f7a4 27 = .ok (.iushr, 1) := by decide +kernel
theorem dJ6_bitCount_0f7a4_28 : decode cJ6_bitCount_0f7a4 28 = .ok (.iadd, 1) := by decide +kernel
theorem dJ6_bitCount_0f7a4_29 : decode cJ6_bitCount_0f7a4 29 = .ok (.ldc_w 267, 3) := by decide +kernel
theorem dJ6_bitCount_0f7a4_32 : decode cJ6_bitCount_0f7a4 32 = .ok (.iand, 1) := by decide +kernel
theorem dJ6_bitCount_0f7a4_33 : decode cJ6_bitCount_0f7a4 33 = .ok (.istore_n 0, 1) := by decide +kernel
theorem dJ6_bitCount_0f7a4_34 : decode cJ6_bitCount_0f7a4 34 = .ok (.iload_n 0, 1) := by decide +kernel
theorem dJ6_bitCount_0f7a4_35 : decode cJ6_bitCount_0f7a4 35 = .ok (.iload_n 0, 1) := by decide +kernel
theorem dJ6_bitCount_0f7a4_36 : decode cJ6_bitCount_0f7a4 36 = .ok (.bipush 8, 2) := by decide +kernel
theorem dJ6_bitCount_0f7a4_38 : decode cJ6_bitCount_0f7a4 38 = .ok (.iushr, 1) := by decide +kernel
theorem dJ6_bitCount_0f7a4_39 : decode cJ6_bitCount_0f7a4 39 = .ok (.iadd, 1) := by decide +kernel
theorem dJ6_bitCount_0f7a4_40 : decode cJ6_bitCount_0f7a4 40 = .ok (.istore_n 0, 1) := by decide +kernel
theorem dJ6_bitCount_0f7a4_41 : decode cJ6_bitCount_0f7a4 41 = .ok (.iload_n 0, 1) := by decide +kernel
theorem dJ6_bitCount_0f7a4_42 : decode cJ6_bitCount_0f7a4 42 = .ok (.iload_n 0, 1) := by decide +kernel
theorem dJ6_bitCount_0f7a4_43 : decode cJ6_bitCount_0f7a4 43 = .ok (.bipush 16, 2) := by decide +kernel
theorem dJ6_bitCount_0f7a4_45 : decode cJ6_bitCount_0f7a4 45 = .ok (.iushr, 1) := by decide +kernel
theorem dJ6_bitCount_0f7a4_46 : decode cJ6_bitCount_0f7a4 46 = .ok (.iadd, 1) := by decide +kernel
theorem dJ6_bitCount_0f7a4_47 : decode cJ6_bitCount_0f7a4 47 = .ok (.istore_n 0, 1) := by decide +kernel
theorem dJ6_bitCount_0f7a4_48 : decode cJ6_bitCount_0f7a4 48 = .ok (.iload_n 0, 1) := by decide +kernel
theorem dJ6_bitCount_0f7a4_49 : decode cJ6_bitCount_0f7a4 49 = .ok (.bipush 63, 2) := by decide +kernel
theorem dJ6_bitCount_0f7a4_51 : decode cJ6_bitCount_0f7a4 51 = .ok (.iand, 1) := by decide +kernel
theorem dJ6_bitCount_0f7a4_52 : decode cJ6_bitCount_0f7a4 52 = .ok (.ireturn, 1) := by decide +kernel
theorem dJ9_max_7cf53_0 : decode cJ9_max_7cf53 0 = .ok (.iload_n 0, 1) := by decide +kernel
theorem dJ9_max_7cf53_1 : decode cJ9_max_7cf53 1 = .ok (.iload_n 1, 1) := by decide +kernel
theorem dJ9_max_7cf53_2 : decode cJ9_max_7cf53 2 = .ok (.if_icmp .lt 7, 3) := by decide +kernel
theorem dJ9_max_7cf53_5 : decode cJ9_max_7cf53 5 = .ok (.iload_n 0, 1) := by decide +kernel
theorem dJ9_max_7cf53_6 : decode cJ9_max_7cf53 6 = .ok (.goto 4, 3) := by decide +kernel
theorem dJ9_max_7cf53_9 : decode cJ9_max_7cf53 9 = .ok (.iload_n 1, 1) := by decide +kernel
theorem dJ9_max_7cf53_10 : decode cJ9_max_7cf53 10 = .ok (.ireturn, 1) := by decide +kernel
theorem dJ9_min_7cf53_0 : decode cJ9_min_7cf53 0 = .ok (.iload_n 0, 1) := by decide +kernel
theorem dJ9_min_7cf53_1 : decode cJ9_min_7cf53 1 = .ok (.iload_n 1, 1) := by decide +kernel
theorem dJ9_min_7cf53_2 : decode cJ9_min_7cf53 2 = .ok (.if_icmp .gt 7, 3) := by decide +kernel
theorem dJ9_min_7cf53_5 : decode cJ9_min_7cf53 5 = .ok (.iload_n 0, 1) := by decide +kernel
theorem dJ9_min_7cf53_6 : decode cJ9_min_7cf53 6 = .ok (.goto 4, 3) := by decide +kernel
theorem dJ9_min_7cf53_9 : decode cJ9_min_7cf53 9 = .ok (.iload_n 1, 1) := by decide +kernel
theorem dJ9_min_7cf53_10 : decode cJ9_min_7cf53 10 = .ok (.ireturn, 1) := by decide +kernel
theorem dJ0_length_8abf5_0 : decode cJ0_length_8abf5 0 = .ok (.aload_n 0, 1) := by decide +kernel
theorem dJ0_length_8abf5_1 : decode cJ0_length_8abf5 1 = .ok (.getfield 9, 3) := by decide +kernel
theorem dJ0_length_8abf5_4 : decode cJ0_length_8abf5 4 = .ok (.arraylength, 1) := by decide +kernel
theorem dJ0_length_8abf5_5 : decode cJ0_length_8abf5 5 = .ok (.aload_n 0, 1) := by decide +kernel
theorem dJ0_length_8abf5_6 : decode cJ0_length_8abf5 6 = .ok (.invokevirtual 335, 3) := by decide +kernel
theorem dJ0_length_8abf5_9 : decode cJ0_length_8abf5 9 = .ok (.ishr, 1) := by decide +kernel
theorem dJ0_length_8abf5_10 : decode cJ0_length_8abf5 10 = .ok (.ireturn, 1) := by decide +kernel
theorem dJ0_charAt_5068e_0 : decode cJ0_charAt_5068e 0 = .ok (.aload_n 0, 1) := by decide +kernel
theorem dJ0_charAt_5068e_1 : decode cJ0_charAt_5068e 1 = .ok (.invokevirtual 492, 3) := by decide +kernel
theorem dJ0_charAt_5068e_4 : decode cJ0_charAt_5068e 4 = .ok (.ifCond .eq 12, 3) := by decide +kernel
theorem dJ0_charAt_5068e_7 : decode cJ0_charAt_5068e 7 = .ok (.aload_n 0, 1) := by decide +kernel
theorem dJ0_charAt_5068e_8 : decode cJ0_charAt_5068e 8 = .ok (.getfield 9, 3) := by decide +kernel
theorem dJ0_charAt_5068e_11 : decode cJ0_charAt_5068e 11 = .ok (.iload_n 1, 1) := by decide +kernel
theorem dJ0_charAt_5068e_12 : decode cJ0_charAt_5068e 12 = .ok (.invokestatic 495, 3) := by decide +kernel
theorem dJ0_charAt_5068e_15 : decode cJ0_charAt_5068e 15 = .ok (.ireturn, 1) := by decide +kernel
theorem dJ0_charAt_5068e_16 : decode cJ0_charAt_5068e 16 = .ok (.aload_n 0, 1) := by decide +kernel
theorem dJ0_charAt_5068e_17 : decode cJ0_charAt_5068e 17 = .ok (.getfield 9, 3) := by decide +kernel
theorem dJ0_charAt_5068e_20 : decode cJ0_charAt_5068e 20 = .ok (.iload_n 1, 1) := by decide +kernel
theorem dJ0_charAt_5068e_21 : decode cJ0_charAt_5068e 21 = .ok (.invokestatic 498, 3) := by decide +kernel
theorem dJ0_charAt_5068e_24 : decode cJ0_charAt_5068e 24 = .ok (.ireturn, 1) := by decide +kernel
theorem dJ0_coder_7d493_0 : decode cJ0_coder_7d493 0 = .ok (.getstatic 38, 3) := by decide +kernel
theorem dJ0_coder_7d493_3 : decode cJ0_coder_7d493 3 = .ok (.ifCond .eq 10, 3) := by decide +kernel
theorem dJ0_coder_7d493_6 : decode cJ0_coder_7d493 6 = .ok (.aload_n 0, 1) := by decide +kernel
theorem dJ0_coder_7d493_7 : decode cJ0_coder_7d493 7 = .ok (.getfield 15, 3) := by decide +kernel
theorem dJ0_coder_7d493_10 : decode cJ0_coder_7d493 10 = .ok (.goto 4, 3) := by decide +kernel
theorem dJ0_coder_7d493_13 : decode cJ0_coder_7d493 13 = .ok (.iconst 1, 1) := by decide +kernel
theorem dJ0_coder_7d493_14 : decode cJ0_coder_7d493 14 = .ok (.ireturn, 1) := by decide +kernel
theorem dJ0_isLatin1_aae02_0 : decode cJ0_isLatin1_aae02 0 = .ok (.getstatic 38, 3) := by decide +kernel
theorem dJ0_isLatin1_aae02_3 : decode cJ0_isLatin1_aae02 3 = .ok (.ifCond .eq 14, 3) := by decide +kernel
theorem dJ0_isLatin1_aae02_6 : decode cJ0_isLatin1_aae02 6 = .ok (.aload_n 0, 1) := by decide +kernel
theorem dJ0_isLatin1_aae02_7 : decode cJ0_isLatin1_aae02 7 = .ok (.getfield 15, 3) := by decide +kernel
theorem dJ0_isLatin1_aae02_10 : decode cJ0_isLatin1_aae02 10 = .ok (.ifCond .ne 7, 3) := by decide +kernel
theorem dJ0_isLatin1_aae02_13 : decode cJ0_isLatin1_aae02 13 = .ok (.iconst 1, 1) := by decide +kernel
theorem dJ0_isLatin1_aae02_14 : decode cJ0_isLatin1_aae02 14 = .ok (.goto 4, 3) := by decide +kernel
theorem dJ0_isLatin1_aae02_17 : decode cJ0_isLatin1_aae02 17 = .ok (.iconst 0, 1) := by decide +kernel
theorem dJ0_isLatin1_aae02_18 : decode cJ0_isLatin1_aae02 18 = .ok (.ireturn, 1) := by decide +kernel
theorem dJ0_checkIndex_df160_0 : decode cJ0_checkIndex_df160 0 = .ok (.iload_n 0, 1) := by decide +kernel
theorem dJ0_checkIndex_df160_1 : decode cJ0_checkIndex_df160 1 = .ok (.iload_n 1, 1) := by decide +kernel
theorem dJ0_checkIndex_df160_2 : decode cJ0_checkIndex_df160 2 = .ok (.getstatic 1053, 3) := by decide +kernel
theorem dJ0_checkIndex_df160_5 : decode cJ0_checkIndex_df160 5 = .ok (.invokestatic 1059, 3) := by decide +kernel
theorem dJ0_checkIndex_df160_8 : decode cJ0_checkIndex_df160 8 = .ok (.pop, 1) := by decide +kernel
theorem dJ0_checkIndex_df160_9 : decode cJ0_checkIndex_df160 9 = .ok (.return_, 1) := by decide +kernel
theorem dJ1_charAt_3b067_0 : decode cJ1_charAt_3b067 0 = .ok (.iload_n 1, 1) := by decide +kernel
theorem dJ1_charAt_3b067_1 : decode cJ1_charAt_3b067 1 = .ok (.aload_n 0, 1) := by decide +kernel
theorem dJ1_charAt_3b067_2 : decode cJ1_charAt_3b067 2 = .ok (.arraylength, 1) := by decide +kernel
theorem dJ1_charAt_3b067_3 : decode cJ1_charAt_3b067 3 = .ok (.invokestatic 9, 3) := by decide +kernel
theorem dJ1_charAt_3b067_6 : decode cJ1_charAt_3b067 6 = .ok (.aload_n 0, 1) := by decide +kernel
theorem dJ1_charAt_3b067_7 : decode cJ1_charAt_3b067 7 = .ok (.iload_n 1, 1) := by decide +kernel
theorem dJ1_charAt_3b067_8 : decode cJ1_charAt_3b067 8 = .ok (.baload, 1) := by decide +kernel
theorem dJ1_charAt_3b067_9 : decode cJ1_charAt_3b067 9 = .ok (.sipush 255, 3) := by decide +kernel
theorem dJ1_charAt_3b067_12 : decode cJ1_charAt_3b067 12 = .ok (.iand, 1) := by decide +kernel
theorem dJ1_charAt_3b067_13 : decode cJ1_charAt_3b067 13 = .ok (.i2c, 1) := by decide +kernel
theorem dJ1_charAt_3b067_14 : decode cJ1_charAt_3b067 14 = .ok (.ireturn, 1) := by decide +kernel
theorem dJ2_getChar_3b067_0 : decode cJ2_getChar_3b067 0 = .ok (.getstatic 44, 3) := by decide +kernel
theorem dJ2_getChar_3b067_3 : decode cJ2_getChar_3b067 3 = .ok (.ifCond .ne 25, 3) := by decide +kernel
theorem dJ2_getChar_3b067_6 : decode cJ2_getChar_3b067 6 = .ok (.iload_n 1, 1) := by decide +kernel
theorem dJ2_getChar_3b067_7 : decode cJ2_getChar_3b067 7 = .ok (.ifCond .lt 11, 3) := by decide +kernel
theorem dJ2_getChar_3b067_10 : decode cJ2_getChar_3b067 10 = .ok (.iload_n 1, 1) := by decide +kernel
theorem dJ2_getChar_3b067_11 : decode cJ2_getChar_3b067 11 = .ok (.aload_n 0, 1) := by decide +kernel
theorem dJ2_getChar_3b067_12 : decode cJ2_getChar_3b067 12 = .ok (.invokestatic 48, 3) := by decide +kernel
theorem dJ2_getChar_3b067_15 : decode cJ2_getChar_3b067 15 = .ok (.if_icmp .lt 13, 3) := by decide +kernel
theorem dJ2_getChar_3b067_18 : decode cJ2_getChar_3b067 18 = .ok (.new 52, 3) := by decide +kernel
theorem dJ2_getChar_3b067_21 : decode cJ2_getChar_3b067 21 = .ok (.dup, 1) := by decide +kernel
theorem dJ2_getChar_3b067_22 : decode cJ2_getChar_3b067 22 = .ok (.ldc 54, 2) := by decide +kernel
theorem dJ2_getChar_3b067_24 : decode cJ2_getChar_3b067 24 = .ok (.invokespecial 56, 3) := by decide +kernel
theorem dJ2_getChar_3b067_27 : decode cJ2_getChar_3b067 27 = .ok (.athrow, 1) := by decide +kernel
theorem dJ2_getChar_3b067_28 : decode cJ2_getChar_3b067 28 = .ok (.iload_n 1, 1) := by decide +kernel
theorem dJ2_getChar_3b067_29 : decode cJ2_getChar_3b067 29 = .ok (.iconst 1, 1) := by decide +kernel
theorem dJ2_getChar_3b067_30 : decode cJ2_getChar_3b067 30 = .ok (.ishl, 1) := by decide +kernel
theorem dJ2_getChar_3b067_31 : decode cJ2_getChar_3b067 31 = .ok (.istore_n 1, 1) := by decide +kernel
theorem dJ2_getChar_3b067_32 : decode cJ2_getChar_3b067 32 = .ok (.aload_n 0, 1) := by decide +kernel
theorem dJ2_getChar_3b067_33 : decode cJ2_getChar_3b067 33 = .ok (.iload_n 1, 1) := by decide +kernel
theorem dJ2_getChar_3b067_34 : decode cJ2_getChar_3b067 34 = .ok (.iinc 1 1, 3) := by decide +kernel
theorem dJ2_getChar_3b067_37 : decode cJ2_getChar_3b067 37 = .ok (.baload, 1) := by decide +kernel
theorem dJ2_getChar_3b067_38 : decode cJ2_getChar_3b067 38 = .ok (.sipush 255, 3) := by decide +kernel
theorem dJ2_getChar_3b067_41 : decode cJ2_getChar_3b067 41 = .ok (.iand, 1) := by decide +kernel
theorem dJ2_getChar_3b067_42 : decode cJ2_getChar_3b067 42 = .ok (.getstatic 59, 3) := by decide +kernel
theorem dJ2_getChar_3b067_45 : decode cJ2_getChar_3b067 45 = .ok (.ishl, 1) := by decide +kernel
theorem dJ2_getChar_3b067_46 : decode cJ2_getChar_3b067 46 = .ok (.aload_n 0, 1) := by decide +kernel
theorem dJ2_getChar_3b067_47 : decode cJ2_getChar_3b067 47 = .ok (.iload_n 1, 1) := by decide +kernel
theorem dJ2_getChar_3b067_48 : decode cJ2_getChar_3b067 48 = .ok (.baload, 1) := by decide +kernel
theorem dJ2_getChar_3b067_49 : decode cJ2_getChar_3b067 49 = .ok (.sipush 255, 3) := by decide +kernel
theorem dJ2_getChar_3b067_52 : decode cJ2_getChar_3b067 52 = .ok (.iand, 1) := by decide +kernel
theorem dJ2_getChar_3b067_53 : decode cJ2_getChar_3b067 53 = .ok (.getstatic 63, 3) := by decide +kernel
theorem dJ2_getChar_3b067_56 : decode cJ2_getChar_3b067 56 = .ok (.ishl, 1) := by decide +kernel
theorem dJ2_getChar_3b067_57 : decode cJ2_getChar_3b067 57 = .ok (.ior, 1) := by decide +kernel
theorem dJ2_getChar_3b067_58 : decode cJ2_getChar_3b067 58 = .ok (.i2c, 1) := by decide +kernel
theorem dJ2_getChar_3b067_59 : decode cJ2_getChar_3b067 59 = .ok (.ireturn, 1) := by decide +kernel
theorem dJ2_length_9d52b_0 : decode cJ2_length_9d52b 0 = .ok (.aload_n 0, 1) := by decide +kernel
theorem dJ2_length_9d52b_1 : decode cJ2_length_9d52b 1 = .ok (.arraylength, 1) := by decide +kernel
theorem dJ2_length_9d52b_2 : decode cJ2_length_9d52b 2 = .ok (.iconst 1, 1) := by decide +kernel
theorem dJ2_length_9d52b_3 : decode cJ2_length_9d52b 3 = .ok (.ishr, 1) := by decide +kernel
theorem dJ2_length_9d52b_4 : decode cJ2_length_9d52b 4 = .ok (.ireturn, 1) := by decide +kernel
theorem dJ2_charAt_3b067_0 : decode cJ2_charAt_3b067 0 = .ok (.iload_n 1, 1) := by decide +kernel
theorem dJ2_charAt_3b067_1 : decode cJ2_charAt_3b067 1 = .ok (.aload_n 0, 1) := by decide +kernel
theorem dJ2_charAt_3b067_2 : decode cJ2_charAt_3b067 2 = .ok (.invokestatic 67, 3) := by decide +kernel
theorem dJ2_charAt_3b067_5 : decode cJ2_charAt_3b067 5 = .ok (.aload_n 0, 1) := by decide +kernel
theorem dJ2_charAt_3b067_6 : decode cJ2_charAt_3b067 6 = .ok (.iload_n 1, 1) := by decide +kernel
theorem dJ2_charAt_3b067_7 : decode cJ2_charAt_3b067 7 = .ok (.invokestatic 71, 3) := by decide +kernel
theorem dJ2_charAt_3b067_10 : decode cJ2_charAt_3b067 10 = .ok (.ireturn, 1) := by decide +kernel
theorem dJ2_checkIndex_2214a_0 : decode cJ2_checkIndex_2214a 0 = .ok (.iload_n 0, 1) := by decide +kernel
theorem dJ2_checkIndex_2214a_1 : decode cJ2_checkIndex_2214a 1 = .ok (.aload_n 1, 1) := by decide +kernel
theorem dJ2_checkIndex_2214a_2 : decode cJ2_checkIndex_2214a 2 = .ok (.invokestatic 48, 3) := by decide +kernel
theorem dJ2_checkIndex_2214a_5 : decode cJ2_checkIndex_2214a 5 = .ok (.invokestatic 414, 3) := by decide +kernel
theorem dJ2_checkIndex_2214a_8 : decode cJ2_checkIndex_2214a 8 = .ok (.return_, 1) := by decide +kernel
theorem dJ7_fill_53178_0 : decode cJ7_fill_53178 0 = .ok (.iconst 0, 1) := by decide +kernel
theorem dJ7_fill_53178_1 : decode cJ7_fill_53178 1 = .ok (.istore_n 2, 1) := by decide +kernel
theorem dJ7_fill_53178_2 : decode cJ7_fill_53178 2 = .ok (.aload_n 0, 1) := by decide +kernel
theorem dJ7_fill_53178_3 : decode cJ7_fill_53178 3 = .ok (.arraylength, 1) := by decide +kernel
theorem dJ7_fill_53178_4 : decode cJ7_fill_53178 4 = .ok (.istore_n 3, 1) := by decide +kernel
theorem dJ7_fill_53178_5 : decode cJ7_fill_53178 5 = .ok (.iload_n 2, 1) := by decide +kernel
theorem dJ7_fill_53178_6 : decode cJ7_fill_53178 6 = .ok (.iload_n 3, 1) := by decide +kernel
theorem dJ7_fill_53178_7 : decode cJ7_fill_53178 7 = .ok (.if_icmp .ge 13, 3) := by decide +kernel
theorem dJ7_fill_53178_10 : decode cJ7_fill_53178 10 = .ok (.aload_n 0, 1) := by decide +kernel
theorem dJ7_fill_53178_11 : decode cJ7_fill_53178 11 = .ok (.iload_n 2, 1) := by decide +kernel
theorem dJ7_fill_53178_12 : decode cJ7_fill_53178 12 = .ok (.iload_n 1, 1) := by decide +kernel
theorem dJ7_fill_53178_13 : decode cJ7_fill_53178 13 = .ok (.iastore, 1) := by decide +kernel
theorem dJ7_fill_53178_14 : decode cJ7_fill_53178 14 = .ok (.iinc 2 1, 3) := by decide +kernel
theorem dJ7_fill_53178_17 : decode cJ7_fill_53178 17 = .ok (.goto (-12), 3) := by decide +kernel
theorem dJ7_fill_53178_20 : decode cJ7_fill_53178 20 = .ok (.return_, 1) := by decide +kernel
theorem dJ3_checkIndex_8e157_0 : decode cJ3_checkIndex_8e157 0 = .ok (.iload_n 0, 1) := by decide +kernel
theorem dJ3_checkIndex_8e157_1 : decode cJ3_checkIndex_8e157 1 = .ok (.ifCond .lt 8, 3) := by decide +kernel
theorem dJ3_checkIndex_8e157_4 : decode cJ3_checkIndex_8e157 4 = .ok (.iload_n 0, 1) := by decide +kernel
theorem dJ3_checkIndex_8e157_5 : decode cJ3_checkIndex_8e157 5 = .ok (.iload_n 1, 1) := by decide +kernel
theorem dJ3_checkIndex_8e157_6 : decode cJ3_checkIndex_8e157 6 = .ok (.if_icmp .lt 10, 3) := by decide +kernel
theorem dJ3_checkIndex_8e157_9 : decode cJ3_checkIndex_8e157 9 = .ok (.aload_n 2, 1) := by decide +kernel
theorem dJ3_checkIndex_8e157_10 : decode cJ3_checkIndex_8e157 10 = .ok (.iload_n 0, 1) := by decide +kernel
theorem dJ3_checkIndex_8e157_11 : decode cJ3_checkIndex_8e157 11 = .ok (.iload_n 1, 1) := by decide +kernel
theorem dJ3_checkIndex_8e157_12 : decode cJ3_checkIndex_8e157 12 = .ok (.invokestatic 95, 3) := by decide +kernel
theorem dJ3_checkIndex_8e157_15 : decode cJ3_checkIndex_8e157 15 = .ok (.athrow, 1) := by decide +kernel
theorem dJ3_checkIndex_8e157_16 : decode cJ3_checkIndex_8e157 16 = .ok (.iload_n 0, 1) := by decide +kernel
theorem dJ3_checkIndex_8e157_17 : decode cJ3_checkIndex_8e157 17 = .ok (.ireturn, 1) := by decide +kernel
end
section
theorem dL_law_0 : decode cL_law 0 = .ok (.new 7, 3) := by decide +kernel
theorem dL_law_3 : decode cL_law 3 = .ok (.dup, 1) := by decide +kernel
theorem dL_law_4 : decode cL_law 4 = .ok (.invokespecial 9, 3) := by decide +kernel
theorem dL_law_7 : decode cL_law 7 = .ok (.astore_n 1, 1) := by decide +kernel
theorem dL_law_8 : decode cL_law 8 = .ok (.new 10, 3) := by decide +kernel
theorem dL_law_11 : decode cL_law 11 = .ok (.dup, 1) := by decide +kernel
theorem dL_law_12 : decode cL_law 12 = .ok (.invokespecial 12, 3) := by decide +kernel
theorem dL_law_15 : decode cL_law 15 = .ok (.astore_n 2, 1) := by decide +kernel
theorem dL_law_16 : decode cL_law 16 = .ok (.iconst 0, 1) := by decide +kernel
theorem dL_law_17 : decode cL_law 17 = .ok (.istore_n 3, 1) := by decide +kernel
theorem dL_law_18 : decode cL_law 18 = .ok (.iload_n 3, 1) := by decide +kernel
theorem dL_law_19 : decode cL_law 19 = .ok (.aload_n 0, 1) := by decide +kernel
theorem dL_law_20 : decode cL_law 20 = .ok (.arraylength, 1) := by decide +kernel
theorem dL_law_21 : decode cL_law 21 = .ok (.iconst 5, 1) := by decide +kernel
theorem dL_law_22 : decode cL_law 22 = .ok (.isub, 1) := by decide +kernel
theorem dL_law_23 : decode cL_law 23 = .ok (.if_icmp .gt 998, 3) := by decide +kernel
theorem dL_law_26 : decode cL_law 26 = .ok (.aload_n 0, 1) := by decide +kernel
theorem dL_law_27 : decode cL_law 27 = .ok (.iload_n 3, 1) := by decide +kernel
theorem dL_law_28 : decode cL_law 28 = .ok (.iaload, 1) := by decide +kernel
theorem dL_law_29 : decode cL_law 29 = .ok (.bipush 31, 2) := by decide +kernel
theorem dL_law_31 : decode cL_law 31 = .ok (.iand, 1) := by decide +kernel
theorem dL_law_32 : decode cL_law 32 = .ok (.tableswitch 983 0 30 #[140, 163, 176, 189, 202, 235, 268, 281, 294, 317, 340, 373, 406, 439, 482, 515, 548, 561, 594, 637, 650, 683, 696, 729, 752, 805, 838, 871, 904, 937, 960], 140) := by decide +kernel
theorem dL_law_172 : decode cL_law 172 = .ok (.aload_n 1, 1) := by decide +kernel
theorem dL_law_173 : decode cL_law 173 = .ok (.aload_n 0, 1) := by decide +kernel
theorem dL_law_174 : decode cL_law 174 = .ok (.iload_n 3, 1) := by decide +kernel
theorem dL_law_175 : decode cL_law 175 = .ok (.iconst 1, 1) := by decide +kernel
theorem dL_law_176 : decode cL_law 176 = .ok (.iadd, 1) := by decide +kernel
theorem dL_law_177 : decode cL_law 177 = .ok (.iaload, 1) := by decide +kernel
theorem dL_law_178 : decode cL_law 178 = .ok (.invokevirtual 13, 3) := by decide +kernel
theorem dL_law_181 : decode cL_law 181 = .ok (.aload_n 2, 1) := by decide +kernel
theorem dL_law_182 : decode cL_law 182 = .ok (.aload_n 0, 1) := by decide +kernel
theorem dL_law_183 : decode cL_law 183 = .ok (.iload_n 3, 1) := by decide +kernel
theorem dL_law_184 : decode cL_law 184 = .ok (.iconst 1, 1) := by decide +kernel
theorem dL_law_185 : decode cL_law 185 = .ok (.iadd, 1) := by decide +kernel
theorem dL_law_186 : decode cL_law 186 = .ok (.iaload, 1) := by decide +kernel
theorem dL_law_187 : decode cL_law 187 = .ok (.invokevirtual 17, 3) := by decide +kernel
theorem dL_law_190 : decode cL_law 190 = .ok (.if_icmp .eq 825, 3) := by decide +kernel
theorem dL_law_193 : decode cL_law 193 = .ok (.iconst 0, 1) := by decide +kernel
theorem dL_law_194 : decode cL_law 194 = .ok (.ireturn, 1) := by decide +kernel
theorem dL_law_195 : decode cL_law 195 = .ok (.aload_n 1, 1) := by decide +kernel
theorem dL_law_196 : decode cL_law 196 = .ok (.invokevirtual 18, 3) := by decide +kernel
theorem dL_law_199 : decode cL_law 199 = .ok (.aload_n 2, 1) := by decide +kernel
theorem dL_law_200 : decode cL_law 200 = .ok (.invokevirtual 22, 3) := by decide +kernel
theorem dL_law_203 : decode cL_law 203 = .ok (.if_icmp .eq 812, 3) := by decide +kernel
theorem dL_law_206 : decode cL_law 206 = .ok (.iconst 0, 1) := by decide +kernel
theorem dL_law_207 : decode cL_law 207 = .ok (.ireturn, 1) := by decide +kernel
theorem dL_law_208 : decode cL_law 208 = .ok (.aload_n 1, 1) := by decide +kernel
theorem dL_law_209 : decode cL_law 209 = .ok (.invokevirtual 23, 3) := by decide +kernel
theorem dL_law_212 : decode cL_law 212 = .ok (.aload_n 2, 1) := by decide +kernel
theorem dL_law_213 : decode cL_law 213 = .ok (.invokevirtual 26, 3) := by decide +kernel
theorem dL_law_216 : decode cL_law 216 = .ok (.if_icmp .eq 799, 3) := by decide +kernel
theorem dL_law_219 : decode cL_law 219 = .ok (.iconst 0, 1) := by decide +kernel
theorem dL_law_220 : decode cL_law 220 = .ok (.ireturn, 1) := by decide +kernel
theorem dL_law_221 : decode cL_law 221 = .ok (.aload_n 1, 1) := by decide +kernel
theorem dL_law_222 : decode cL_law 222 = .ok (.invokevirtual 27, 3) := by decide +kernel
theorem dL_law_225 : decode cL_law 225 = .ok (.aload_n 2, 1) := by decide +kernel
theorem dL_law_226 : decode cL_law 226 = .ok (.invokevirtual 30, 3) := by decide +kernel
theorem dL_law_229 : decode cL_law 229 = .ok (.if_icmp .eq 786, 3) := by decide +kernel
theorem dL_law_232 : decode cL_law 232 = .ok (.iconst 0, 1) := by decide +kernel
theorem dL_law_233 : decode cL_law 233 = .ok (.ireturn, 1) := by decide +kernel
theorem dL_law_234 : decode cL_law 234 = .ok (.aload_n 1, 1) := by decide +kernel
theorem dL_law_235 : decode cL_law 235 = .ok (.aload_n 0, 1) := by decide +kernel
theorem dL_law_236 : decode cL_law 236 = .ok (.iload_n 3, 1) := by decide +kernel
theorem dL_law_237 : decode cL_law 237 = .ok (.iconst 1, 1) := by decide +kernel
theorem dL_law_238 : decode cL_law 238 = .ok (.iadd, 1) := by decide +kernel
theorem dL_law_239 : decode cL_law 239 = .ok (.iaload, 1) := by decide +kernel
theorem dL_law_240 : decode cL_law 240 = .ok (.aload_n 0, 1) := by decide +kernel
theorem dL_law_241 : decode cL_law 241 = .ok (.iload_n 3, 1) := by decide +kernel
theorem dL_law_242 : decode cL_law 242 = .ok (.iconst 2, 1) := by decide +kernel
theorem dL_law_243 : decode cL_law 243 = .ok (.iadd, 1) := by decide +kernel
theorem dL_law_244 : decode cL_law 244 = .ok (.iaload, 1) := by decide +kernel
theorem dL_law_245 : decode cL_law 245 = .ok (.invokevirtual 31, 3) := by decide +kernel
theorem dL_law_248 : decode cL_law 248 = .ok (.aload_n 2, 1) := by decide +kernel
theorem dL_law_249 : decode cL_law 249 = .ok (.aload_n 0, 1) := by decide +kernel
theorem dL_law_250 : decode cL_law 250 = .ok (.iload_n 3, 1) := by decide +kernel
theorem dL_law_251 : decode cL_law 251 = .ok (.iconst 1, 1) := by decide +kernel
theorem dL_law_252 : decode cL_law 252 = .ok (.iadd, 1) := by decide +kernel
theorem dL_law_253 : decode cL_law 253 = .ok (.iaload, 1) := by decide +kernel
theorem dL_law_254 : decode cL_law 254 = .ok (.aload_n 0, 1) := by decide +kernel
theorem dL_law_255 : decode cL_law 255 = .ok (.iload_n 3, 1) := by decide +kernel
theorem dL_law_256 : decode cL_law 256 = .ok (.iconst 2, 1) := by decide +kernel
theorem dL_law_257 : decode cL_law 257 = .ok (.iadd, 1) := by decide +kernel
theorem dL_law_258 : decode cL_law 258 = .ok (.iaload, 1) := by decide +kernel
theorem dL_law_259 : decode cL_law 259 = .ok (.invokevirtual 35, 3) := by decide +kernel
theorem dL_law_262 : decode cL_law 262 = .ok (.if_icmp .eq 753, 3) := by decide +kernel
theorem dL_law_265 : decode cL_law 265 = .ok (.iconst 0, 1) := by decide +kernel
theorem dL_law_266 : decode cL_law 266 = .ok (.ireturn, 1) := by decide +kernel
theorem dL_law_267 : decode cL_law 267 = .ok (.aload_n 1, 1) := by decide +kernel
theorem dL_law_268 : decode cL_law 268 = .ok (.aload_n 0, 1) := by decide +kernel
theorem dL_law_269 : decode cL_law 269 = .ok (.iload_n 3, 1) := by decide +kernel
theorem dL_law_270 : decode cL_law 270 = .ok (.iconst 1, 1) := by decide +kernel
theorem dL_law_271 : decode cL_law 271 = .ok (.iadd, 1) := by decide +kernel
theorem dL_law_272 : decode cL_law 272 = .ok (.iaload, 1) := by decide +kernel
theorem dL_law_273 : decode cL_law 273 = .ok (.aload_n 0, 1) := by decide +kernel
theorem dL_law_274 : decode cL_law 274 = .ok (.iload_n 3, 1) := by decide +kernel
theorem dL_law_275 : decode cL_law 275 = .ok (.iconst 2, 1) := by decide +kernel
theorem dL_law_276 : decode cL_law 276 = .ok (.iadd, 1) := by decide +kernel
theorem dL_law_277 : decode cL_law 277 = .ok (.iaload, 1) := by decide +kernel
theorem dL_law_278 : decode cL_law 278 = .ok (.invokevirtual 36, 3) := by decide +kernel
theorem dL_law_281 : decode cL_law 281 = .ok (.aload_n 2, 1) := by decide +kernel
theorem dL_law_282 : decode cL_law 282 = .ok (.aload_n 0, 1) := by decide +kernel
theorem dL_law_283 : decode cL_law 283 = .ok (.iload_n 3, 1) := by decide +kernel
theorem dL_law_284 : decode cL_law 284 = .ok (.iconst 1, 1) := by decide +kernel
theorem dL_law_285 : decode cL_law 285 = .ok (.iadd, 1) := by decide +kernel
theorem dL_law_286 : decode cL_law 286 = .ok (.iaload, 1) := by decide +kernel
theorem dL_law_287 : decode cL_law 287 = .ok (.aload_n 0, 1) := by decide +kernel
theorem dL_law_288 : decode cL_law 288 = .ok (.iload_n 3, 1) := by decide +kernel
theorem dL_law_289 : decode cL_law 289 = .ok (.iconst 2, 1) := by decide +kernel
theorem dL_law_290 : decode cL_law 290 = .ok (.iadd, 1) := by decide +kernel
theorem dL_law_291 : decode cL_law 291 = .ok (.iaload, 1) := by decide +kernel
theorem dL_law_292 : decode cL_law 292 = .ok (.invokevirtual 39, 3) := by decide +kernel
theorem dL_law_295 : decode cL_law 295 = .ok (.if_icmp .eq 720, 3) := by decide +kernel
theorem dL_law_298 : decode cL_law 298 = .ok (.iconst 0, 1) := by decide +kernel
theorem dL_law_299 : decode cL_law 299 = .ok (.ireturn, 1) := by decide +kernel
theorem dL_law_300 : decode cL_law 300 = .ok (.aload_n 1, 1) := by decide +kernel
theorem dL_law_301 : decode cL_law 301 = .ok (.invokevirtual 40, 3) := by decide +kernel
theorem dL_law_304 : decode cL_law 304 = .ok (.aload_n 2, 1) := by decide +kernel
theorem dL_law_305 : decode cL_law 305 = .ok (.invokevirtual 43, 3) := by decide +kernel
theorem dL_law_308 : decode cL_law 308 = .ok (.if_icmp .eq 707, 3) := by decide +kernel
theorem dL_law_311 : decode cL_law 311 = .ok (.iconst 0, 1) := by decide +kernel
theorem dL_law_312 : decode cL_law 312 = .ok (.ireturn, 1) := by decide +kernel
theorem dL_law_313 : decode cL_law 313 = .ok (.aload_n 1, 1) := by decide +kernel
theorem dL_law_314 : decode cL_law 314 = .ok (.invokevirtual 44, 3) := by decide +kernel
theorem dL_law_317 : decode cL_law 317 = .ok (.aload_n 2, 1) := by decide +kernel
theorem dL_law_318 : decode cL_law 318 = .ok (.invokevirtual 47, 3) := by decide +kernel
theorem dL_law_321 : decode cL_law 321 = .ok (.if_icmp .eq 694, 3) := by decide +kernel
theorem dL_law_324 : decode cL_law 324 = .ok (.iconst 0, 1) := by decide +kernel
theorem dL_law_325 : decode cL_law 325 = .ok (.ireturn, 1) := by decide +kernel
theorem dL_law_326 : decode cL_law 326 = .ok (.aload_n 1, 1) := by decide +kernel
theorem dL_law_327 : decode cL_law 327 = .ok (.aload_n 0, 1) := by decide +kernel
theorem dL_law_328 : decode cL_law 328 = .ok (.iload_n 3, 1) := by decide +kernel
theorem dL_law_329 : decode cL_law 329 = .ok (.iconst 1, 1) := by decide +kernel
theorem dL_law_330 : decode cL_law 330 = .ok (.iadd, 1) := by decide +kernel
theorem dL_law_331 : decode cL_law 331 = .ok (.iaload, 1) := by decide +kernel
theorem dL_law_332 : decode cL_law 332 = .ok (.invokevirtual 48, 3) := by decide +kernel
theorem dL_law_335 : decode cL_law 335 = .ok (.aload_n 2, 1) := by decide +kernel
theorem dL_law_336 : decode cL_law 336 = .ok (.aload_n 0, 1) := by decide +kernel
theorem dL_law_337 : decode cL_law 337 = .ok (.iload_n 3, 1) := by decide +kernel
theorem dL_law_338 : decode cL_law 338 = .ok (.iconst 1, 1) := by decide +kernel
theorem dL_law_339 : decode cL_law 339 = .ok (.iadd, 1) := by decide +kernel
theorem dL_law_340 : decode cL_law 340 = .ok (.iaload, 1) := by decide +kernel
theorem dL_law_341 : decode cL_law 341 = .ok (.invokevirtual 51, 3) := by decide +kernel
theorem dL_law_344 : decode cL_law 344 = .ok (.if_icmp .eq 671, 3) := by decide +kernel
theorem dL_law_347 : decode cL_law 347 = .ok (.iconst 0, 1) := by decide +kernel
theorem dL_law_348 : decode cL_law 348 = .ok (.ireturn, 1) := by decide +kernel
theorem dL_law_349 : decode cL_law 349 = .ok (.aload_n 1, 1) := by decide +kernel
theorem dL_law_350 : decode cL_law 350 = .ok (.aload_n 0, 1) := by decide +kernel
theorem dL_law_351 : decode cL_law 351 = .ok (.iload_n 3, 1) := by decide +kernel
theorem dL_law_352 : decode cL_law 352 = .ok (.iconst 1, 1) := by decide +kernel
theorem dL_law_353 : decode cL_law 353 = .ok (.iadd, 1) := by decide +kernel
theorem dL_law_354 : decode cL_law 354 = .ok (.iaload, 1) := by decide +kernel
theorem dL_law_355 : decode cL_law 355 = .ok (.invokevirtual 52, 3) := by decide +kernel
theorem dL_law_358 : decode cL_law 358 = .ok (.aload_n 2, 1) := by decide +kernel
theorem dL_law_359 : decode cL_law 359 = .ok (.aload_n 0, 1) := by decide +kernel
theorem dL_law_360 : decode cL_law 360 = .ok (.iload_n 3, 1) := by decide +kernel
theorem dL_law_361 : decode cL_law 361 = .ok (.iconst 1, 1) := by decide +kernel
theorem dL_law_362 : decode cL_law 362 = .ok (.iadd, 1) := by decide +kernel
theorem dL_law_363 : decode cL_law 363 = .ok (.iaload, 1) := by decide +kernel
theorem dL_law_364 : decode cL_law 364 = .ok (.invokevirtual 55, 3) := by decide +kernel
theorem dL_law_367 : decode cL_law 367 = .ok (.if_icmp .eq 648, 3) := by decide +kernel
theorem dL_law_370 : decode cL_law 370 = .ok (.iconst 0, 1) := by decide +kernel
theorem dL_law_371 : decode cL_law 371 = .ok (.ireturn, 1) := by decide +kernel
theorem dL_law_372 : decode cL_law 372 = .ok (.aload_n 1, 1) := by decide +kernel
theorem dL_law_373 : decode cL_law 373 = .ok (.aload_n 0, 1) := by decide +kernel
theorem dL_law_374 : decode cL_law 374 = .ok (.iload_n 3, 1) := by decide +kernel
theorem dL_law_375 : decode cL_law 375 = .ok (.iconst 1, 1) := by decide +kernel
theorem dL_law_376 : decode cL_law 376 = .ok (.iadd, 1) := by decide +kernel
theorem dL_law_377 : decode cL_law 377 = .ok (.iaload, 1) := by decide +kernel
theorem dL_law_378 : decode cL_law 378 = .ok (.aload_n 0, 1) := by decide +kernel
theorem dL_law_379 : decode cL_law 379 = .ok (.iload_n 3, 1) := by decide +kernel
theorem dL_law_380 : decode cL_law 380 = .ok (.iconst 2, 1) := by decide +kernel
theorem dL_law_381 : decode cL_law 381 = .ok (.iadd, 1) := by decide +kernel
theorem dL_law_382 : decode cL_law 382 = .ok (.iaload, 1) := by decide +kernel
theorem dL_law_383 : decode cL_law 383 = .ok (.invokevirtual 56, 3) := by decide +kernel
theorem dL_law_386 : decode cL_law 386 = .ok (.aload_n 2, 1) := by decide +kernel
theorem dL_law_387 : decode cL_law 387 = .ok (.aload_n 0, 1) := by decide +kernel
theorem dL_law_388 : decode cL_law 388 = .ok (.iload_n 3, 1) := by decide +kernel
theorem dL_law_389 : decode cL_law 389 = .ok (.iconst 1, 1) := by decide +kernel
theorem dL_law_390 : decode cL_law 390 = .ok (.iadd, 1) := by decide +kernel
theorem dL_law_391 : decode cL_law 391 = .ok (.iaload, 1) := by decide +kernel
theorem dL_law_392 : decode cL_law 392 = .ok (.aload_n 0, 1) := by decide +kernel
theorem dL_law_393 : decode cL_law 393 = .ok (.iload_n 3, 1) := by decide +kernel
theorem dL_law_394 : decode cL_law 394 = .ok (.iconst 2, 1) := by decide +kernel
theorem dL_law_395 : decode cL_law 395 = .ok (.iadd, 1) := by decide +kernel
theorem dL_law_396 : decode cL_law 396 = .ok (.iaload, 1) := by decide +kernel
theorem dL_law_397 : decode cL_law 397 = .ok (.invokevirtual 59, 3) := by decide +kernel
theorem dL_law_400 : decode cL_law 400 = .ok (.if_icmp .eq 615, 3) := by decide +kernel
theorem dL_law_403 : decode cL_law 403 = .ok (.iconst 0, 1) := by decide +kernel
theorem dL_law_404 : decode cL_law 404 = .ok (.ireturn, 1) := by decide +kernel
theorem dL_law_405 : decode cL_law 405 = .ok (.aload_n 1, 1) := by decide +kernel
theorem dL_law_406 : decode cL_law 406 = .ok (.aload_n 0, 1) := by decide +kernel
theorem dL_law_407 : decode cL_law 407 = .ok (.iload_n 3, 1) := by decide +kernel
theorem dL_law_408 : decode cL_law 408 = .ok (.iconst 1, 1) := by decide +kernel
theorem dL_law_409 : decode cL_law 409 = .ok (.iadd, 1) := by decide +kernel
theorem dL_law_410 : decode cL_law 410 = .ok (.iaload, 1) := by decide +kernel
theorem dL_law_411 : decode cL_law 411 = .ok (.aload_n 0, 1) := by decide +kernel
theorem dL_law_412 : decode cL_law 412 = .ok (.iload_n 3, 1) := by decide +kernel
theorem dL_law_413 : decode cL_law 413 = .ok (.iconst 2, 1) := by decide +kernel
theorem dL_law_414 : decode cL_law 414 = .ok (.iadd, 1) := by decide +kernel
theorem dL_law_415 : decode cL_law 415 = .ok (.iaload, 1) := by decide +kernel
theorem dL_law_416 : decode cL_law 416 = .ok (.invokevirtual 60, 3) := by decide +kernel
theorem dL_law_419 : decode cL_law 419 = .ok (.aload_n 2, 1) := by decide +kernel
theorem dL_law_420 : decode cL_law 420 = .ok (.aload_n 0, 1) := by decide +kernel
theorem dL_law_421 : decode cL_law 421 = .ok (.iload_n 3, 1) := by decide +kernel
theorem dL_law_422 : decode cL_law 422 = .ok (.iconst 1, 1) := by decide +kernel
theorem dL_law_423 : decode cL_law 423 = .ok (.iadd, 1) := by decide +kernel
theorem dL_law_424 : decode cL_law 424 = .ok (.iaload, 1) := by decide +kernel
theorem dL_law_425 : decode cL_law 425 = .ok (.aload_n 0, 1) := by decide +kernel
theorem dL_law_426 : decode cL_law 426 = .ok (.iload_n 3, 1) := by decide +kernel
theorem dL_law_427 : decode cL_law 427 = .ok (.iconst 2, 1) := by decide +kernel
theorem dL_law_428 : decode cL_law 428 = .ok (.iadd, 1) := by decide +kernel
theorem dL_law_429 : decode cL_law 429 = .ok (.iaload, 1) := by decide +kernel
theorem dL_law_430 : decode cL_law 430 = .ok (.invokevirtual 63, 3) := by decide +kernel
theorem dL_law_433 : decode cL_law 433 = .ok (.if_icmp .eq 582, 3) := by decide +kernel
theorem dL_law_436 : decode cL_law 436 = .ok (.iconst 0, 1) := by decide +kernel
theorem dL_law_437 : decode cL_law 437 = .ok (.ireturn, 1) := by decide +kernel
theorem dL_law_438 : decode cL_law 438 = .ok (.aload_n 1, 1) := by decide +kernel
theorem dL_law_439 : decode cL_law 439 = .ok (.aload_n 0, 1) := by decide +kernel
theorem dL_law_440 : decode cL_law 440 = .ok (.iload_n 3, 1) := by decide +kernel
theorem dL_law_441 : decode cL_law 441 = .ok (.iconst 1, 1) := by decide +kernel
theorem dL_law_442 : decode cL_law 442 = .ok (.iadd, 1) := by decide +kernel
theorem dL_law_443 : decode cL_law 443 = .ok (.iaload, 1) := by decide +kernel
theorem dL_law_444 : decode cL_law 444 = .ok (.aload_n 0, 1) := by decide +kernel
theorem dL_law_445 : decode cL_law 445 = .ok (.iload_n 3, 1) := by decide +kernel
theorem dL_law_446 : decode cL_law 446 = .ok (.iconst 2, 1) := by decide +kernel
theorem dL_law_447 : decode cL_law 447 = .ok (.iadd, 1) := by decide +kernel
theorem dL_law_448 : decode cL_law 448 = .ok (.iaload, 1) := by decide +kernel
theorem dL_law_449 : decode cL_law 449 = .ok (.invokevirtual 64, 3) := by decide +kernel
theorem dL_law_452 : decode cL_law 452 = .ok (.aload_n 2, 1) := by decide +kernel
theorem dL_law_453 : decode cL_law 453 = .ok (.aload_n 0, 1) := by decide +kernel
theorem dL_law_454 : decode cL_law 454 = .ok (.iload_n 3, 1) := by decide +kernel
theorem dL_law_455 : decode cL_law 455 = .ok (.iconst 1, 1) := by decide +kernel
theorem dL_law_456 : decode cL_law 456 = .ok (.iadd, 1) := by decide +kernel
theorem dL_law_457 : decode cL_law 457 = .ok (.iaload, 1) := by decide +kernel
theorem dL_law_458 : decode cL_law 458 = .ok (.aload_n 0, 1) := by decide +kernel
theorem dL_law_459 : decode cL_law 459 = .ok (.iload_n 3, 1) := by decide +kernel
theorem dL_law_460 : decode cL_law 460 = .ok (.iconst 2, 1) := by decide +kernel
theorem dL_law_461 : decode cL_law 461 = .ok (.iadd, 1) := by decide +kernel
theorem dL_law_462 : decode cL_law 462 = .ok (.iaload, 1) := by decide +kernel
theorem dL_law_463 : decode cL_law 463 = .ok (.invokevirtual 67, 3) := by decide +kernel
theorem dL_law_466 : decode cL_law 466 = .ok (.if_icmp .eq 549, 3) := by decide +kernel
theorem dL_law_469 : decode cL_law 469 = .ok (.iconst 0, 1) := by decide +kernel
theorem dL_law_470 : decode cL_law 470 = .ok (.ireturn, 1) := by decide +kernel
theorem dL_law_471 : decode cL_law 471 = .ok (.aload_n 1, 1) := by decide +kernel
theorem dL_law_472 : decode cL_law 472 = .ok (.aload_n 0, 1) := by decide +kernel
theorem dL_law_473 : decode cL_law 473 = .ok (.iload_n 3, 1) := by decide +kernel
theorem dL_law_474 : decode cL_law 474 = .ok (.iconst 1, 1) := by decide +kernel
theorem dL_law_475 : decode cL_law 475 = .ok (.iadd, 1) := by decide +kernel
theorem dL_law_476 : decode cL_law 476 = .ok (.iaload, 1) := by decide +kernel
theorem dL_law_477 : decode cL_law 477 = .ok (.aload_n 0, 1) := by decide +kernel
theorem dL_law_478 : decode cL_law 478 = .ok (.iload_n 3, 1) := by decide +kernel
theorem dL_law_479 : decode cL_law 479 = .ok (.iconst 2, 1) := by decide +kernel
theorem dL_law_480 : decode cL_law 480 = .ok (.iadd, 1) := by decide +kernel
theorem dL_law_481 : decode cL_law 481 = .ok (.iaload, 1) := by decide +kernel
theorem dL_law_482 : decode cL_law 482 = .ok (.aload_n 0, 1) := by decide +kernel
theorem dL_law_483 : decode cL_law 483 = .ok (.iload_n 3, 1) := by decide +kernel
theorem dL_law_484 : decode cL_law 484 = .ok (.iconst 3, 1) := by decide +kernel
theorem dL_law_485 : decode cL_law 485 = .ok (.iadd, 1) := by decide +kernel
theorem dL_law_486 : decode cL_law 486 = .ok (.iaload, 1) := by decide +kernel
theorem dL_law_487 : decode cL_law 487 = .ok (.invokevirtual 68, 3) := by decide +kernel
theorem dL_law_490 : decode cL_law 490 = .ok (.aload_n 2, 1) := by decide +kernel
theorem dL_law_491 : decode cL_law 491 = .ok (.aload_n 0, 1) := by decide +kernel
theorem dL_law_492 : decode cL_law 492 = .ok (.iload_n 3, 1) := by decide +kernel
theorem dL_law_493 : decode cL_law 493 = .ok (.iconst 1, 1) := by decide +kernel
theorem dL_law_494 : decode cL_law 494 = .ok (.iadd, 1) := by decide +kernel
theorem dL_law_495 : decode cL_law 495 = .ok (.iaload, 1) := by decide +kernel
theorem dL_law_496 : decode cL_law 496 = .ok (.aload_n 0, 1) := by decide +kernel
theorem dL_law_497 : decode cL_law 497 = .ok (.iload_n 3, 1) := by decide +kernel
theorem dL_law_498 : decode cL_law 498 = .ok (.iconst 2, 1) := by decide +kernel
theorem dL_law_499 : decode cL_law 499 = .ok (.iadd, 1) := by decide +kernel
theorem dL_law_500 : decode cL_law 500 = .ok (.iaload, 1) := by decide +kernel
theorem dL_law_501 : decode cL_law 501 = .ok (.aload_n 0, 1) := by decide +kernel
theorem dL_law_502 : decode cL_law 502 = .ok (.iload_n 3, 1) := by decide +kernel
theorem dL_law_503 : decode cL_law 503 = .ok (.iconst 3, 1) := by decide +kernel
theorem dL_law_504 : decode cL_law 504 = .ok (.iadd, 1) := by decide +kernel
theorem dL_law_505 : decode cL_law 505 = .ok (.iaload, 1) := by decide +kernel
theorem dL_law_506 : decode cL_law 506 = .ok (.invokevirtual 72, 3) := by decide +kernel
theorem dL_law_509 : decode cL_law 509 = .ok (.if_icmp .eq 506, 3) := by decide +kernel
theorem dL_law_512 : decode cL_law 512 = .ok (.iconst 0, 1) := by decide +kernel
theorem dL_law_513 : decode cL_law 513 = .ok (.ireturn, 1) := by decide +kernel
theorem dL_law_514 : decode cL_law 514 = .ok (.aload_n 1, 1) := by decide +kernel
theorem dL_law_515 : decode cL_law 515 = .ok (.aload_n 0, 1) := by decide +kernel
theorem dL_law_516 : decode cL_law 516 = .ok (.iload_n 3, 1) := by decide +kernel
theorem dL_law_517 : decode cL_law 517 = .ok (.iconst 1, 1) := by decide +kernel
theorem dL_law_518 : decode cL_law 518 = .ok (.iadd, 1) := by decide +kernel
theorem dL_law_519 : decode cL_law 519 = .ok (.iaload, 1) := by decide +kernel
theorem dL_law_520 : decode cL_law 520 = .ok (.aload_n 0, 1) := by decide +kernel
theorem dL_law_521 : decode cL_law 521 = .ok (.iload_n 3, 1) := by decide +kernel
theorem dL_law_522 : decode cL_law 522 = .ok (.iconst 2, 1) := by decide +kernel
theorem dL_law_523 : decode cL_law 523 = .ok (.iadd, 1) := by decide +kernel
theorem dL_law_524 : decode cL_law 524 = .ok (.iaload, 1) := by decide +kernel
theorem dL_law_525 : decode cL_law 525 = .ok (.invokevirtual 73, 3) := by decide +kernel
theorem dL_law_528 : decode cL_law 528 = .ok (.aload_n 2, 1) := by decide +kernel
theorem dL_law_529 : decode cL_law 529 = .ok (.aload_n 0, 1) := by decide +kernel
theorem dL_law_530 : decode cL_law 530 = .ok (.iload_n 3, 1) := by decide +kernel
theorem dL_law_531 : decode cL_law 531 = .ok (.iconst 1, 1) := by decide +kernel
theorem dL_law_532 : decode cL_law 532 = .ok (.iadd, 1) := by decide +kernel
theorem dL_law_533 : decode cL_law 533 = .ok (.iaload, 1) := by decide +kernel
theorem dL_law_534 : decode cL_law 534 = .ok (.aload_n 0, 1) := by decide +kernel
theorem dL_law_535 : decode cL_law 535 = .ok (.iload_n 3, 1) := by decide +kernel
theorem dL_law_536 : decode cL_law 536 = .ok (.iconst 2, 1) := by decide +kernel
theorem dL_law_537 : decode cL_law 537 = .ok (.iadd, 1) := by decide +kernel
theorem dL_law_538 : decode cL_law 538 = .ok (.iaload, 1) := by decide +kernel
theorem dL_law_539 : decode cL_law 539 = .ok (.invokevirtual 76, 3) := by decide +kernel
theorem dL_law_542 : decode cL_law 542 = .ok (.if_icmp .eq 473, 3) := by decide +kernel
theorem dL_law_545 : decode cL_law 545 = .ok (.iconst 0, 1) := by decide +kernel
theorem dL_law_546 : decode cL_law 546 = .ok (.ireturn, 1) := by decide +kernel
theorem dL_law_547 : decode cL_law 547 = .ok (.aload_n 1, 1) := by decide +kernel
theorem dL_law_548 : decode cL_law 548 = .ok (.aload_n 0, 1) := by decide +kernel
theorem dL_law_549 : decode cL_law 549 = .ok (.iload_n 3, 1) := by decide +kernel
theorem dL_law_550 : decode cL_law 550 = .ok (.iconst 1, 1) := by decide +kernel
theorem dL_law_551 : decode cL_law 551 = .ok (.iadd, 1) := by decide +kernel
theorem dL_law_552 : decode cL_law 552 = .ok (.iaload, 1) := by decide +kernel
theorem dL_law_553 : decode cL_law 553 = .ok (.aload_n 0, 1) := by decide +kernel
theorem dL_law_554 : decode cL_law 554 = .ok (.iload_n 3, 1) := by decide +kernel
theorem dL_law_555 : decode cL_law 555 = .ok (.iconst 2, 1) := by decide +kernel
theorem dL_law_556 : decode cL_law 556 = .ok (.iadd, 1) := by decide +kernel
theorem dL_law_557 : decode cL_law 557 = .ok (.iaload, 1) := by decide +kernel
theorem dL_law_558 : decode cL_law 558 = .ok (.invokevirtual 77, 3) := by decide +kernel
theorem dL_law_561 : decode cL_law 561 = .ok (.aload_n 2, 1) := by decide +kernel
theorem dL_law_562 : decode cL_law 562 = .ok (.aload_n 0, 1) := by decide +kernel
theorem dL_law_563 : decode cL_law 563 = .ok (.iload_n 3, 1) := by decide +kernel
theorem dL_law_564 : decode cL_law 564 = .ok (.iconst 1, 1) := by decide +kernel
theorem dL_law_565 : decode cL_law 565 = .ok (.iadd, 1) := by decide +kernel
theorem dL_law_566 : decode cL_law 566 = .ok (.iaload, 1) := by decide +kernel
theorem dL_law_567 : decode cL_law 567 = .ok (.aload_n 0, 1) := by decide +kernel
theorem dL_law_568 : decode cL_law 568 = .ok (.iload_n 3, 1) := by decide +kernel
theorem dL_law_569 : decode cL_law 569 = .ok (.iconst 2, 1) := by decide +kernel
theorem dL_law_570 : decode cL_law 570 = .ok (.iadd, 1) := by decide +kernel
theorem dL_law_571 : decode cL_law 571 = .ok (.iaload, 1) := by decide +kernel
theorem dL_law_572 : decode cL_law 572 = .ok (.invokevirtual 80, 3) := by decide +kernel
theorem dL_law_575 : decode cL_law 575 = .ok (.if_icmp .eq 440, 3) := by decide +kernel
theorem dL_law_578 : decode cL_law 578 = .ok (.iconst 0, 1) := by decide +kernel
theorem dL_law_579 : decode cL_law 579 = .ok (.ireturn, 1) := by decide +kernel
theorem dL_law_580 : decode cL_law 580 = .ok (.aload_n 1, 1) := by decide +kernel
theorem dL_law_581 : decode cL_law 581 = .ok (.invokevirtual 81, 3) := by decide +kernel
theorem dL_law_584 : decode cL_law 584 = .ok (.aload_n 2, 1) := by decide +kernel
theorem dL_law_585 : decode cL_law 585 = .ok (.invokevirtual 84, 3) := by decide +kernel
theorem dL_law_588 : decode cL_law 588 = .ok (.if_icmp .eq 427, 3) := by decide +kernel
theorem dL_law_591 : decode cL_law 591 = .ok (.iconst 0, 1) := by decide +kernel
theorem dL_law_592 : decode cL_law 592 = .ok (.ireturn, 1) := by decide +kernel
theorem dL_law_593 : decode cL_law 593 = .ok (.aload_n 1, 1) := by decide +kernel
theorem dL_law_594 : decode cL_law 594 = .ok (.aload_n 0, 1) := by decide +kernel
theorem dL_law_595 : decode cL_law 595 = .ok (.iload_n 3, 1) := by decide +kernel
theorem dL_law_596 : decode cL_law 596 = .ok (.iconst 1, 1) := by decide +kernel
theorem dL_law_597 : decode cL_law 597 = .ok (.iadd, 1) := by decide +kernel
theorem dL_law_598 : decode cL_law 598 = .ok (.iaload, 1) := by decide +kernel
theorem dL_law_599 : decode cL_law 599 = .ok (.aload_n 0, 1) := by decide +kernel
theorem dL_law_600 : decode cL_law 600 = .ok (.iload_n 3, 1) := by decide +kernel
theorem dL_law_601 : decode cL_law 601 = .ok (.iconst 2, 1) := by decide +kernel
theorem dL_law_602 : decode cL_law 602 = .ok (.iadd, 1) := by decide +kernel
theorem dL_law_603 : decode cL_law 603 = .ok (.iaload, 1) := by decide +kernel
theorem dL_law_604 : decode cL_law 604 = .ok (.invokevirtual 85, 3) := by decide +kernel
theorem dL_law_607 : decode cL_law 607 = .ok (.aload_n 2, 1) := by decide +kernel
theorem dL_law_608 : decode cL_law 608 = .ok (.aload_n 0, 1) := by decide +kernel
theorem dL_law_609 : decode cL_law 609 = .ok (.iload_n 3, 1) := by decide +kernel
theorem dL_law_610 : decode cL_law 610 = .ok (.iconst 1, 1) := by decide +kernel
theorem dL_law_611 : decode cL_law 611 = .ok (.iadd, 1) := by decide +kernel
theorem dL_law_612 : decode cL_law 612 = .ok (.iaload, 1) := by decide +kernel
theorem dL_law_613 : decode cL_law 613 = .ok (.aload_n 0, 1) := by decide +kernel
theorem dL_law_614 : decode cL_law 614 = .ok (.iload_n 3, 1) := by decide +kernel
theorem dL_law_615 : decode cL_law 615 = .ok (.iconst 2, 1) := by decide +kernel
theorem dL_law_616 : decode cL_law 616 = .ok (.iadd, 1) := by decide +kernel
theorem dL_law_617 : decode cL_law 617 = .ok (.iaload, 1) := by decide +kernel
theorem dL_law_618 : decode cL_law 618 = .ok (.invokevirtual 88, 3) := by decide +kernel
theorem dL_law_621 : decode cL_law 621 = .ok (.if_icmp .eq 394, 3) := by decide +kernel
theorem dL_law_624 : decode cL_law 624 = .ok (.iconst 0, 1) := by decide +kernel
theorem dL_law_625 : decode cL_law 625 = .ok (.ireturn, 1) := by decide +kernel
theorem dL_law_626 : decode cL_law 626 = .ok (.aload_n 1, 1) := by decide +kernel
theorem dL_law_627 : decode cL_law 627 = .ok (.aload_n 0, 1) := by decide +kernel
theorem dL_law_628 : decode cL_law 628 = .ok (.iload_n 3, 1) := by decide +kernel
theorem dL_law_629 : decode cL_law 629 = .ok (.iconst 1, 1) := by decide +kernel
theorem dL_law_630 : decode cL_law 630 = .ok (.iadd, 1) := by decide +kernel
theorem dL_law_631 : decode cL_law 631 = .ok (.iaload, 1) := by decide +kernel
theorem dL_law_632 : decode cL_law 632 = .ok (.aload_n 0, 1) := by decide +kernel
theorem dL_law_633 : decode cL_law 633 = .ok (.iload_n 3, 1) := by decide +kernel
theorem dL_law_634 : decode cL_law 634 = .ok (.iconst 2, 1) := by decide +kernel
theorem dL_law_635 : decode cL_law 635 = .ok (.iadd, 1) := by decide +kernel
theorem dL_law_636 : decode cL_law 636 = .ok (.iaload, 1) := by decide +kernel
theorem dL_law_637 : decode cL_law 637 = .ok (.aload_n 0, 1) := by decide +kernel
theorem dL_law_638 : decode cL_law 638 = .ok (.iload_n 3, 1) := by decide +kernel
theorem dL_law_639 : decode cL_law 639 = .ok (.iconst 3, 1) := by decide +kernel
theorem dL_law_640 : decode cL_law 640 = .ok (.iadd, 1) := by decide +kernel
theorem dL_law_641 : decode cL_law 641 = .ok (.iaload, 1) := by decide +kernel
theorem dL_law_642 : decode cL_law 642 = .ok (.invokevirtual 89, 3) := by decide +kernel
theorem dL_law_645 : decode cL_law 645 = .ok (.aload_n 2, 1) := by decide +kernel
theorem dL_law_646 : decode cL_law 646 = .ok (.aload_n 0, 1) := by decide +kernel
theorem dL_law_647 : decode cL_law 647 = .ok (.iload_n 3, 1) := by decide +kernel
theorem dL_law_648 : decode cL_law 648 = .ok (.iconst 1, 1) := by decide +kernel
theorem dL_law_649 : decode cL_law 649 = .ok (.iadd, 1) := by decide +kernel
theorem dL_law_650 : decode cL_law 650 = .ok (.iaload, 1) := by decide +kernel
theorem dL_law_651 : decode cL_law 651 = .ok (.aload_n 0, 1) := by decide +kernel
theorem dL_law_652 : decode cL_law 652 = .ok (.iload_n 3, 1) := by decide +kernel
theorem dL_law_653 : decode cL_law 653 = .ok (.iconst 2, 1) := by decide +kernel
theorem dL_law_654 : decode cL_law 654 = .ok (.iadd, 1) := by decide +kernel
theorem dL_law_655 : decode cL_law 655 = .ok (.iaload, 1) := by decide +kernel
theorem dL_law_656 : decode cL_law 656 = .ok (.aload_n 0, 1) := by decide +kernel
theorem dL_law_657 : decode cL_law 657 = .ok (.iload_n 3, 1) := by decide +kernel
theorem dL_law_658 : decode cL_law 658 = .ok (.iconst 3, 1) := by decide +kernel
theorem dL_law_659 : decode cL_law 659 = .ok (.iadd, 1) := by decide +kernel
theorem dL_law_660 : decode cL_law 660 = .ok (.iaload, 1) := by decide +kernel
theorem dL_law_661 : decode cL_law 661 = .ok (.invokevirtual 92, 3) := by decide +kernel
theorem dL_law_664 : decode cL_law 664 = .ok (.if_icmp .eq 351, 3) := by decide +kernel
theorem dL_law_667 : decode cL_law 667 = .ok (.iconst 0, 1) := by decide +kernel
theorem dL_law_668 : decode cL_law 668 = .ok (.ireturn, 1) := by decide +kernel
theorem dL_law_669 : decode cL_law 669 = .ok (.aload_n 1, 1) := by decide +kernel
theorem dL_law_670 : decode cL_law 670 = .ok (.invokevirtual 93, 3) := by decide +kernel
theorem dL_law_673 : decode cL_law 673 = .ok (.aload_n 2, 1) := by decide +kernel
theorem dL_law_674 : decode cL_law 674 = .ok (.invokevirtual 96, 3) := by decide +kernel
theorem dL_law_677 : decode cL_law 677 = .ok (.if_icmp .eq 338, 3) := by decide +kernel
theorem dL_law_680 : decode cL_law 680 = .ok (.iconst 0, 1) := by decide +kernel
theorem dL_law_681 : decode cL_law 681 = .ok (.ireturn, 1) := by decide +kernel
theorem dL_law_682 : decode cL_law 682 = .ok (.aload_n 1, 1) := by decide +kernel
theorem dL_law_683 : decode cL_law 683 = .ok (.aload_n 0, 1) := by decide +kernel
theorem dL_law_684 : decode cL_law 684 = .ok (.iload_n 3, 1) := by decide +kernel
theorem dL_law_685 : decode cL_law 685 = .ok (.iconst 1, 1) := by decide +kernel
theorem dL_law_686 : decode cL_law 686 = .ok (.iadd, 1) := by decide +kernel
theorem dL_law_687 : decode cL_law 687 = .ok (.iaload, 1) := by decide +kernel
theorem dL_law_688 : decode cL_law 688 = .ok (.aload_n 0, 1) := by decide +kernel
theorem dL_law_689 : decode cL_law 689 = .ok (.iload_n 3, 1) := by decide +kernel
theorem dL_law_690 : decode cL_law 690 = .ok (.iconst 2, 1) := by decide +kernel
theorem dL_law_691 : decode cL_law 691 = .ok (.iadd, 1) := by decide +kernel
theorem dL_law_692 : decode cL_law 692 = .ok (.iaload, 1) := by decide +kernel
theorem dL_law_693 : decode cL_law 693 = .ok (.invokevirtual 97, 3) := by decide +kernel
theorem dL_law_696 : decode cL_law 696 = .ok (.aload_n 2, 1) := by decide +kernel
theorem dL_law_697 : decode cL_law 697 = .ok (.aload_n 0, 1) := by decide +kernel
theorem dL_law_698 : decode cL_law 698 = .ok (.iload_n 3, 1) := by decide +kernel
theorem dL_law_699 : decode cL_law 699 = .ok (.iconst 1, 1) := by decide +kernel
theorem dL_law_700 : decode cL_law 700 = .ok (.iadd, 1) := by decide +kernel
theorem dL_law_701 : decode cL_law 701 = .ok (.iaload, 1) := by decide +kernel
theorem dL_law_702 : decode cL_law 702 = .ok (.aload_n 0, 1) := by decide +kernel
theorem dL_law_703 : decode cL_law 703 = .ok (.iload_n 3, 1) := by decide +kernel
theorem dL_law_704 : decode cL_law 704 = .ok (.iconst 2, 1) := by decide +kernel
theorem dL_law_705 : decode cL_law 705 = .ok (.iadd, 1) := by decide +kernel
theorem dL_law_706 : decode cL_law 706 = .ok (.iaload, 1) := by decide +kernel
theorem dL_law_707 : decode cL_law 707 = .ok (.invokevirtual 100, 3) := by decide +kernel
theorem dL_law_710 : decode cL_law 710 = .ok (.if_icmp .eq 305, 3) := by decide +kernel
theorem dL_law_713 : decode cL_law 713 = .ok (.iconst 0, 1) := by decide +kernel
theorem dL_law_714 : decode cL_law 714 = .ok (.ireturn, 1) := by decide +kernel
theorem dL_law_715 : decode cL_law 715 = .ok (.aload_n 1, 1) := by decide +kernel
theorem dL_law_716 : decode cL_law 716 = .ok (.invokevirtual 101, 3) := by decide +kernel
theorem dL_law_719 : decode cL_law 719 = .ok (.aload_n 2, 1) := by decide +kernel
theorem dL_law_720 : decode cL_law 720 = .ok (.invokevirtual 104, 3) := by decide +kernel
theorem dL_law_723 : decode cL_law 723 = .ok (.if_icmp .eq 292, 3) := by decide +kernel
theorem dL_law_726 : decode cL_law 726 = .ok (.iconst 0, 1) := by decide +kernel
theorem dL_law_727 : decode cL_law 727 = .ok (.ireturn, 1) := by decide +kernel
theorem dL_law_728 : decode cL_law 728 = .ok (.aload_n 1, 1) := by decide +kernel
theorem dL_law_729 : decode cL_law 729 = .ok (.aload_n 0, 1) := by decide +kernel
theorem dL_law_730 : decode cL_law 730 = .ok (.iload_n 3, 1) := by decide +kernel
theorem dL_law_731 : decode cL_law 731 = .ok (.iconst 1, 1) := by decide +kernel
theorem dL_law_732 : decode cL_law 732 = .ok (.iadd, 1) := by decide +kernel
theorem dL_law_733 : decode cL_law 733 = .ok (.iaload, 1) := by decide +kernel
theorem dL_law_734 : decode cL_law 734 = .ok (.aload_n 0, 1) := by decide +kernel
theorem dL_law_735 : decode cL_law 735 = .ok (.iload_n 3, 1) := by decide +kernel
theorem dL_law_736 : decode cL_law 736 = .ok (.iconst 2, 1) := by decide +kernel
theorem dL_law_737 : decode cL_law 737 = .ok (.iadd, 1) := by decide +kernel
theorem dL_law_738 : decode cL_law 738 = .ok (.iaload, 1) := by decide +kernel
theorem dL_law_739 : decode cL_law 739 = .ok (.invokevirtual 105, 3) := by decide +kernel
theorem dL_law_742 : decode cL_law 742 = .ok (.aload_n 2, 1) := by decide +kernel
theorem dL_law_743 : decode cL_law 743 = .ok (.aload_n 0, 1) := by decide +kernel
theorem dL_law_744 : decode cL_law 744 = .ok (.iload_n 3, 1) := by decide +kernel
theorem dL_law_745 : decode cL_law 745 = .ok (.iconst 1, 1) := by decide +kernel
theorem dL_law_746 : decode cL_law 746 = .ok (.iadd, 1) := by decide +kernel
theorem dL_law_747 : decode cL_law 747 = .ok (.iaload, 1) := by decide +kernel
theorem dL_law_748 : decode cL_law 748 = .ok (.aload_n 0, 1) := by decide +kernel
theorem dL_law_749 : decode cL_law 749 = .ok (.iload_n 3, 1) := by decide +kernel
theorem dL_law_750 : decode cL_law 750 = .ok (.iconst 2, 1) := by decide +kernel
theorem dL_law_751 : decode cL_law 751 = .ok (.iadd, 1) := by decide +kernel
theorem dL_law_752 : decode cL_law 752 = .ok (.iaload, 1) := by decide +kernel
theorem dL_law_753 : decode cL_law 753 = .ok (.invokevirtual 108, 3) := by decide +kernel
theorem dL_law_756 : decode cL_law 756 = .ok (.if_icmp .eq 259, 3) := by decide +kernel
theorem dL_law_759 : decode cL_law 759 = .ok (.iconst 0, 1) := by decide +kernel
theorem dL_law_760 : decode cL_law 760 = .ok (.ireturn, 1) := by decide +kernel
theorem dL_law_761 : decode cL_law 761 = .ok (.aload_n 1, 1) := by decide +kernel
theorem dL_law_762 : decode cL_law 762 = .ok (.aload_n 0, 1) := by decide +kernel
theorem dL_law_763 : decode cL_law 763 = .ok (.iload_n 3, 1) := by decide +kernel
theorem dL_law_764 : decode cL_law 764 = .ok (.iconst 1, 1) := by decide +kernel
theorem dL_law_765 : decode cL_law 765 = .ok (.iadd, 1) := by decide +kernel
theorem dL_law_766 : decode cL_law 766 = .ok (.iaload, 1) := by decide +kernel
theorem dL_law_767 : decode cL_law 767 = .ok (.invokevirtual 109, 3) := by decide +kernel
theorem dL_law_770 : decode cL_law 770 = .ok (.aload_n 2, 1) := by decide +kernel
theorem dL_law_771 : decode cL_law 771 = .ok (.aload_n 0, 1) := by decide +kernel
theorem dL_law_772 : decode cL_law 772 = .ok (.iload_n 3, 1) := by decide +kernel
theorem dL_law_773 : decode cL_law 773 = .ok (.iconst 1, 1) := by decide +kernel
theorem dL_law_774 : decode cL_law 774 = .ok (.iadd, 1) := by decide +kernel
theorem dL_law_775 : decode cL_law 775 = .ok (.iaload, 1) := by decide +kernel
theorem dL_law_776 : decode cL_law 776 = .ok (.invokevirtual 112, 3) := by decide +kernel
theorem dL_law_779 : decode cL_law 779 = .ok (.if_icmp .eq 236, 3) := by decide +kernel
theorem dL_law_782 : decode cL_law 782 = .ok (.iconst 0, 1) := by decide +kernel
theorem dL_law_783 : decode cL_law 783 = .ok (.ireturn, 1) := by decide +kernel
theorem dL_law_784 : decode cL_law 784 = .ok (.aload_n 1, 1) := by decide +kernel
theorem dL_law_785 : decode cL_law 785 = .ok (.aload_n 0, 1) := by decide +kernel
theorem dL_law_786 : decode cL_law 786 = .ok (.iload_n 3, 1) := by decide +kernel
theorem dL_law_787 : decode cL_law 787 = .ok (.iconst 1, 1) := by decide +kernel
theorem dL_law_788 : decode cL_law 788 = .ok (.iadd, 1) := by decide +kernel
theorem dL_law_789 : decode cL_law 789 = .ok (.iaload, 1) := by decide +kernel
theorem dL_law_790 : decode cL_law 790 = .ok (.aload_n 0, 1) := by decide +kernel
theorem dL_law_791 : decode cL_law 791 = .ok (.iload_n 3, 1) := by decide +kernel
theorem dL_law_792 : decode cL_law 792 = .ok (.iconst 2, 1) := by decide +kernel
theorem dL_law_793 : decode cL_law 793 = .ok (.iadd, 1) := by decide +kernel
theorem dL_law_794 : decode cL_law 794 = .ok (.iaload, 1) := by decide +kernel
theorem dL_law_795 : decode cL_law 795 = .ok (.aload_n 0, 1) := by decide +kernel
theorem dL_law_796 : decode cL_law 796 = .ok (.iload_n 3, 1) := by decide +kernel
theorem dL_law_797 : decode cL_law 797 = .ok (.iconst 3, 1) := by decide +kernel
theorem dL_law_798 : decode cL_law 798 = .ok (.iadd, 1) := by decide +kernel
theorem dL_law_799 : decode cL_law 799 = .ok (.iaload, 1) := by decide +kernel
theorem dL_law_800 : decode cL_law 800 = .ok (.aload_n 0, 1) := by decide +kernel
theorem dL_law_801 : decode cL_law 801 = .ok (.iload_n 3, 1) := by decide +kernel
theorem dL_law_802 : decode cL_law 802 = .ok (.iconst 4, 1) := by decide +kernel
theorem dL_law_803 : decode cL_law 803 = .ok (.iadd, 1) := by decide +kernel
theorem dL_law_804 : decode cL_law 804 = .ok (.iaload, 1) := by decide +kernel
theorem dL_law_805 : decode cL_law 805 = .ok (.invokevirtual 113, 3) := by decide +kernel
theorem dL_law_808 : decode cL_law 808 = .ok (.aload_n 2, 1) := by decide +kernel
theorem dL_law_809 : decode cL_law 809 = .ok (.aload_n 0, 1) := by decide +kernel
theorem dL_law_810 : decode cL_law 810 = .ok (.iload_n 3, 1) := by decide +kernel
theorem dL_law_811 : decode cL_law 811 = .ok (.iconst 1, 1) := by decide +kernel
theorem dL_law_812 : decode cL_law 812 = .ok (.iadd, 1) := by decide +kernel
theorem dL_law_813 : decode cL_law 813 = .ok (.iaload, 1) := by decide +kernel
theorem dL_law_814 : decode cL_law 814 = .ok (.aload_n 0, 1) := by decide +kernel
theorem dL_law_815 : decode cL_law 815 = .ok (.iload_n 3, 1) := by decide +kernel
theorem dL_law_816 : decode cL_law 816 = .ok (.iconst 2, 1) := by decide +kernel
theorem dL_law_817 : decode cL_law 817 = .ok (.iadd, 1) := by decide +kernel
theorem dL_law_818 : decode cL_law 818 = .ok (.iaload, 1) := by decide +kernel
theorem dL_law_819 : decode cL_law 819 = .ok (.aload_n 0, 1) := by decide +kernel
theorem dL_law_820 : decode cL_law 820 = .ok (.iload_n 3, 1) := by decide +kernel
theorem dL_law_821 : decode cL_law 821 = .ok (.iconst 3, 1) := by decide +kernel
theorem dL_law_822 : decode cL_law 822 = .ok (.iadd, 1) := by decide +kernel
theorem dL_law_823 : decode cL_law 823 = .ok (.iaload, 1) := by decide +kernel
theorem dL_law_824 : decode cL_law 824 = .ok (.aload_n 0, 1) := by decide +kernel
theorem dL_law_825 : decode cL_law 825 = .ok (.iload_n 3, 1) := by decide +kernel
theorem dL_law_826 : decode cL_law 826 = .ok (.iconst 4, 1) := by decide +kernel
theorem dL_law_827 : decode cL_law 827 = .ok (.iadd, 1) := by decide +kernel
theorem dL_law_828 : decode cL_law 828 = .ok (.iaload, 1) := by decide +kernel
theorem dL_law_829 : decode cL_law 829 = .ok (.invokevirtual 117, 3) := by decide +kernel
theorem dL_law_832 : decode cL_law 832 = .ok (.if_icmp .eq 183, 3) := by decide +kernel
theorem dL_law_835 : decode cL_law 835 = .ok (.iconst 0, 1) := by decide +kernel
theorem dL_law_836 : decode cL_law 836 = .ok (.ireturn, 1) := by decide +kernel
theorem dL_law_837 : decode cL_law 837 = .ok (.aload_n 1, 1) := by decide +kernel
theorem dL_law_838 : decode cL_law 838 = .ok (.aload_n 0, 1) := by decide +kernel
theorem dL_law_839 : decode cL_law 839 = .ok (.iload_n 3, 1) := by decide +kernel
theorem dL_law_840 : decode cL_law 840 = .ok (.iconst 1, 1) := by decide +kernel
theorem dL_law_841 : decode cL_law 841 = .ok (.iadd, 1) := by decide +kernel
theorem dL_law_842 : decode cL_law 842 = .ok (.iaload, 1) := by decide +kernel
theorem dL_law_843 : decode cL_law 843 = .ok (.aload_n 0, 1) := by decide +kernel
theorem dL_law_844 : decode cL_law 844 = .ok (.iload_n 3, 1) := by decide +kernel
theorem dL_law_845 : decode cL_law 845 = .ok (.iconst 2, 1) := by decide +kernel
theorem dL_law_846 : decode cL_law 846 = .ok (.iadd, 1) := by decide +kernel
theorem dL_law_847 : decode cL_law 847 = .ok (.iaload, 1) := by decide +kernel
theorem dL_law_848 : decode cL_law 848 = .ok (.invokevirtual 118, 3) := by decide +kernel
theorem dL_law_851 : decode cL_law 851 = .ok (.aload_n 2, 1) := by decide +kernel
theorem dL_law_852 : decode cL_law 852 = .ok (.aload_n 0, 1) := by decide +kernel
theorem dL_law_853 : decode cL_law 853 = .ok (.iload_n 3, 1) := by decide +kernel
theorem dL_law_854 : decode cL_law 854 = .ok (.iconst 1, 1) := by decide +kernel
theorem dL_law_855 : decode cL_law 855 = .ok (.iadd, 1) := by decide +kernel
theorem dL_law_856 : decode cL_law 856 = .ok (.iaload, 1) := by decide +kernel
theorem dL_law_857 : decode cL_law 857 = .ok (.aload_n 0, 1) := by decide +kernel
theorem dL_law_858 : decode cL_law 858 = .ok (.iload_n 3, 1) := by decide +kernel
theorem dL_law_859 : decode cL_law 859 = .ok (.iconst 2, 1) := by decide +kernel
theorem dL_law_860 : decode cL_law 860 = .ok (.iadd, 1) := by decide +kernel
theorem dL_law_861 : decode cL_law 861 = .ok (.iaload, 1) := by decide +kernel
theorem dL_law_862 : decode cL_law 862 = .ok (.invokevirtual 121, 3) := by decide +kernel
theorem dL_law_865 : decode cL_law 865 = .ok (.if_icmp .eq 150, 3) := by decide +kernel
theorem dL_law_868 : decode cL_law 868 = .ok (.iconst 0, 1) := by decide +kernel
theorem dL_law_869 : decode cL_law 869 = .ok (.ireturn, 1) := by decide +kernel
theorem dL_law_870 : decode cL_law 870 = .ok (.aload_n 1, 1) := by decide +kernel
theorem dL_law_871 : decode cL_law 871 = .ok (.aload_n 0, 1) := by decide +kernel
theorem dL_law_872 : decode cL_law 872 = .ok (.iload_n 3, 1) := by decide +kernel
theorem dL_law_873 : decode cL_law 873 = .ok (.iconst 1, 1) := by decide +kernel
theorem dL_law_874 : decode cL_law 874 = .ok (.iadd, 1) := by decide +kernel
theorem dL_law_875 : decode cL_law 875 = .ok (.iaload, 1) := by decide +kernel
theorem dL_law_876 : decode cL_law 876 = .ok (.aload_n 0, 1) := by decide +kernel
theorem dL_law_877 : decode cL_law 877 = .ok (.iload_n 3, 1) := by decide +kernel
theorem dL_law_878 : decode cL_law 878 = .ok (.iconst 2, 1) := by decide +kernel
theorem dL_law_879 : decode cL_law 879 = .ok (.iadd, 1) := by decide +kernel
theorem dL_law_880 : decode cL_law 880 = .ok (.iaload, 1) := by decide +kernel
theorem dL_law_881 : decode cL_law 881 = .ok (.invokevirtual 122, 3) := by decide +kernel
theorem dL_law_884 : decode cL_law 884 = .ok (.aload_n 2, 1) := by decide +kernel
theorem dL_law_885 : decode cL_law 885 = .ok (.aload_n 0, 1) := by decide +kernel
theorem dL_law_886 : decode cL_law 886 = .ok (.iload_n 3, 1) := by decide +kernel
theorem dL_law_887 : decode cL_law 887 = .ok (.iconst 1, 1) := by decide +kernel
theorem dL_law_888 : decode cL_law 888 = .ok (.iadd, 1) := by decide +kernel
theorem dL_law_889 : decode cL_law 889 = .ok (.iaload, 1) := by decide +kernel
theorem dL_law_890 : decode cL_law 890 = .ok (.aload_n 0, 1) := by decide +kernel
theorem dL_law_891 : decode cL_law 891 = .ok (.iload_n 3, 1) := by decide +kernel
theorem dL_law_892 : decode cL_law 892 = .ok (.iconst 2, 1) := by decide +kernel
theorem dL_law_893 : decode cL_law 893 = .ok (.iadd, 1) := by decide +kernel
theorem dL_law_894 : decode cL_law 894 = .ok (.iaload, 1) := by decide +kernel
theorem dL_law_895 : decode cL_law 895 = .ok (.invokevirtual 125, 3) := by decide +kernel
theorem dL_law_898 : decode cL_law 898 = .ok (.if_icmp .eq 117, 3) := by decide +kernel
theorem dL_law_901 : decode cL_law 901 = .ok (.iconst 0, 1) := by decide +kernel
theorem dL_law_902 : decode cL_law 902 = .ok (.ireturn, 1) := by decide +kernel
theorem dL_law_903 : decode cL_law 903 = .ok (.aload_n 1, 1) := by decide +kernel
theorem dL_law_904 : decode cL_law 904 = .ok (.aload_n 0, 1) := by decide +kernel
theorem dL_law_905 : decode cL_law 905 = .ok (.iload_n 3, 1) := by decide +kernel
theorem dL_law_906 : decode cL_law 906 = .ok (.iconst 1, 1) := by decide +kernel
theorem dL_law_907 : decode cL_law 907 = .ok (.iadd, 1) := by decide +kernel
theorem dL_law_908 : decode cL_law 908 = .ok (.iaload, 1) := by decide +kernel
theorem dL_law_909 : decode cL_law 909 = .ok (.aload_n 0, 1) := by decide +kernel
theorem dL_law_910 : decode cL_law 910 = .ok (.iload_n 3, 1) := by decide +kernel
theorem dL_law_911 : decode cL_law 911 = .ok (.iconst 2, 1) := by decide +kernel
theorem dL_law_912 : decode cL_law 912 = .ok (.iadd, 1) := by decide +kernel
theorem dL_law_913 : decode cL_law 913 = .ok (.iaload, 1) := by decide +kernel
theorem dL_law_914 : decode cL_law 914 = .ok (.invokevirtual 126, 3) := by decide +kernel
theorem dL_law_917 : decode cL_law 917 = .ok (.aload_n 2, 1) := by decide +kernel
theorem dL_law_918 : decode cL_law 918 = .ok (.aload_n 0, 1) := by decide +kernel
theorem dL_law_919 : decode cL_law 919 = .ok (.iload_n 3, 1) := by decide +kernel
theorem dL_law_920 : decode cL_law 920 = .ok (.iconst 1, 1) := by decide +kernel
theorem dL_law_921 : decode cL_law 921 = .ok (.iadd, 1) := by decide +kernel
theorem dL_law_922 : decode cL_law 922 = .ok (.iaload, 1) := by decide +kernel
theorem dL_law_923 : decode cL_law 923 = .ok (.aload_n 0, 1) := by decide +kernel
theorem dL_law_924 : decode cL_law 924 = .ok (.iload_n 3, 1) := by decide +kernel
theorem dL_law_925 : decode cL_law 925 = .ok (.iconst 2, 1) := by decide +kernel
theorem dL_law_926 : decode cL_law 926 = .ok (.iadd, 1) := by decide +kernel
theorem dL_law_927 : decode cL_law 927 = .ok (.iaload, 1) := by decide +kernel
theorem dL_law_928 : decode cL_law 928 = .ok (.invokevirtual 129, 3) := by decide +kernel
theorem dL_law_931 : decode cL_law 931 = .ok (.if_icmp .eq 84, 3) := by decide +kernel
theorem dL_law_934 : decode cL_law 934 = .ok (.iconst 0, 1) := by decide +kernel
theorem dL_law_935 : decode cL_law 935 = .ok (.ireturn, 1) := by decide +kernel
theorem dL_law_936 : decode cL_law 936 = .ok (.aload_n 1, 1) := by decide +kernel
theorem dL_law_937 : decode cL_law 937 = .ok (.aload_n 0, 1) := by decide +kernel
theorem dL_law_938 : decode cL_law 938 = .ok (.iload_n 3, 1) := by decide +kernel
theorem dL_law_939 : decode cL_law 939 = .ok (.iconst 1, 1) := by decide +kernel
theorem dL_law_940 : decode cL_law 940 = .ok (.iadd, 1) := by decide +kernel
theorem dL_law_941 : decode cL_law 941 = .ok (.iaload, 1) := by decide +kernel
theorem dL_law_942 : decode cL_law 942 = .ok (.aload_n 0, 1) := by decide +kernel
theorem dL_law_943 : decode cL_law 943 = .ok (.iload_n 3, 1) := by decide +kernel
theorem dL_law_944 : decode cL_law 944 = .ok (.iconst 2, 1) := by decide +kernel
theorem dL_law_945 : decode cL_law 945 = .ok (.iadd, 1) := by decide +kernel
theorem dL_law_946 : decode cL_law 946 = .ok (.iaload, 1) := by decide +kernel
theorem dL_law_947 : decode cL_law 947 = .ok (.invokevirtual 130, 3) := by decide +kernel
theorem dL_law_950 : decode cL_law 950 = .ok (.aload_n 2, 1) := by decide +kernel
theorem dL_law_951 : decode cL_law 951 = .ok (.aload_n 0, 1) := by decide +kernel
theorem dL_law_952 : decode cL_law 952 = .ok (.iload_n 3, 1) := by decide +kernel
theorem dL_law_953 : decode cL_law 953 = .ok (.iconst 1, 1) := by decide +kernel
theorem dL_law_954 : decode cL_law 954 = .ok (.iadd, 1) := by decide +kernel
theorem dL_law_955 : decode cL_law 955 = .ok (.iaload, 1) := by decide +kernel
theorem dL_law_956 : decode cL_law 956 = .ok (.aload_n 0, 1) := by decide +kernel
theorem dL_law_957 : decode cL_law 957 = .ok (.iload_n 3, 1) := by decide +kernel
theorem dL_law_958 : decode cL_law 958 = .ok (.iconst 2, 1) := by decide +kernel
theorem dL_law_959 : decode cL_law 959 = .ok (.iadd, 1) := by decide +kernel
theorem dL_law_960 : decode cL_law 960 = .ok (.iaload, 1) := by decide +kernel
theorem dL_law_961 : decode cL_law 961 = .ok (.invokevirtual 133, 3) := by decide +kernel
theorem dL_law_964 : decode cL_law 964 = .ok (.if_icmp .eq 51, 3) := by decide +kernel
theorem dL_law_967 : decode cL_law 967 = .ok (.iconst 0, 1) := by decide +kernel
theorem dL_law_968 : decode cL_law 968 = .ok (.ireturn, 1) := by decide +kernel
theorem dL_law_969 : decode cL_law 969 = .ok (.aload_n 1, 1) := by decide +kernel
theorem dL_law_970 : decode cL_law 970 = .ok (.aload_n 0, 1) := by decide +kernel
theorem dL_law_971 : decode cL_law 971 = .ok (.iload_n 3, 1) := by decide +kernel
theorem dL_law_972 : decode cL_law 972 = .ok (.iconst 1, 1) := by decide +kernel
theorem dL_law_973 : decode cL_law 973 = .ok (.iadd, 1) := by decide +kernel
theorem dL_law_974 : decode cL_law 974 = .ok (.iaload, 1) := by decide +kernel
theorem dL_law_975 : decode cL_law 975 = .ok (.invokevirtual 134, 3) := by decide +kernel
theorem dL_law_978 : decode cL_law 978 = .ok (.aload_n 2, 1) := by decide +kernel
theorem dL_law_979 : decode cL_law 979 = .ok (.aload_n 0, 1) := by decide +kernel
theorem dL_law_980 : decode cL_law 980 = .ok (.iload_n 3, 1) := by decide +kernel
theorem dL_law_981 : decode cL_law 981 = .ok (.iconst 1, 1) := by decide +kernel
theorem dL_law_982 : decode cL_law 982 = .ok (.iadd, 1) := by decide +kernel
theorem dL_law_983 : decode cL_law 983 = .ok (.iaload, 1) := by decide +kernel
theorem dL_law_984 : decode cL_law 984 = .ok (.invokevirtual 137, 3) := by decide +kernel
theorem dL_law_987 : decode cL_law 987 = .ok (.if_icmp .eq 28, 3) := by decide +kernel
theorem dL_law_990 : decode cL_law 990 = .ok (.iconst 0, 1) := by decide +kernel
theorem dL_law_991 : decode cL_law 991 = .ok (.ireturn, 1) := by decide +kernel
theorem dL_law_992 : decode cL_law 992 = .ok (.aload_n 1, 1) := by decide +kernel
theorem dL_law_993 : decode cL_law 993 = .ok (.aload_n 0, 1) := by decide +kernel
theorem dL_law_994 : decode cL_law 994 = .ok (.iload_n 3, 1) := by decide +kernel
theorem dL_law_995 : decode cL_law 995 = .ok (.iconst 1, 1) := by decide +kernel
theorem dL_law_996 : decode cL_law 996 = .ok (.iadd, 1) := by decide +kernel
theorem dL_law_997 : decode cL_law 997 = .ok (.iaload, 1) := by decide +kernel
theorem dL_law_998 : decode cL_law 998 = .ok (.invokevirtual 138, 3) := by decide +kernel
theorem dL_law_1001 : decode cL_law 1001 = .ok (.aload_n 2, 1) := by decide +kernel
theorem dL_law_1002 : decode cL_law 1002 = .ok (.aload_n 0, 1) := by decide +kernel
theorem dL_law_1003 : decode cL_law 1003 = .ok (.iload_n 3, 1) := by decide +kernel
theorem dL_law_1004 : decode cL_law 1004 = .ok (.iconst 1, 1) := by decide +kernel
theorem dL_law_1005 : decode cL_law 1005 = .ok (.iadd, 1) := by decide +kernel
theorem dL_law_1006 : decode cL_law 1006 = .ok (.iaload, 1) := by decide +kernel
theorem dL_law_1007 : decode cL_law 1007 = .ok (.invokevirtual 141, 3) := by decide +kernel
theorem dL_law_1010 : decode cL_law 1010 = .ok (.if_icmp .eq 5, 3) := by decide +kernel
theorem dL_law_1013 : decode cL_law 1013 = .ok (.iconst 0, 1) := by decide +kernel
theorem dL_law_1014 : decode cL_law 1014 = .ok (.ireturn, 1) := by decide +kernel
theorem dL_law_1015 : decode cL_law 1015 = .ok (.iinc 3 5, 3) := by decide +kernel
theorem dL_law_1018 : decode cL_law 1018 = .ok (.goto (-1000), 3) := by decide +kernel
theorem dL_law_1021 : decode cL_law 1021 = .ok (.iconst 1, 1) := by decide +kernel
theorem dL_law_1022 : decode cL_law 1022 = .ok (.ireturn, 1) := by decide +kernel
end
section
theorem dX0_init_0 : decode cX0_init 0 = .ok (.aload_n 0, 1) := by decide +kernel
theorem dX0_init_1 : decode cX0_init 1 = .ok (.invokespecial 3, 3) := by decide +kernel
theorem dX0_init_4 : decode cX0_init 4 = .ok (.aload_n 0, 1) := by decide +kernel
theorem dX0_init_5 : decode cX0_init 5 = .ok (.bipush 8, 2) := by decide +kernel
theorem dX0_init_7 : decode cX0_init 7 = .ok (.newarray .int, 2) := by decide +kernel
theorem dX0_init_9 : decode cX0_init 9 = .ok (.putfield 9, 3) := by decide +kernel
theorem dX0_init_12 : decode cX0_init 12 = .ok (.aload_n 0, 1) := by decide +kernel
theorem dX0_init_13 : decode cX0_init 13 = .ok (.bipush 8, 2) := by decide +kernel
theorem dX0_init_15 : decode cX0_init 15 = .ok (.newarray .boolean, 2) := by decide +kernel
theorem dX0_init_17 : decode cX0_init 17 = .ok (.putfield 15, 3) := by decide +kernel
theorem dX0_init_20 : decode cX0_init 20 = .ok (.aload_n 0, 1) := by decide +kernel
theorem dX0_init_21 : decode cX0_init 21 = .ok (.iconst 1, 1) := by decide +kernel
theorem dX0_init_22 : decode cX0_init 22 = .ok (.putfield 19, 3) := by decide +kernel
theorem dX0_init_25 : decode cX0_init 25 = .ok (.return_, 1) := by decide +kernel
theorem dX0_begin_0 : decode cX0_begin 0 = .ok (.aload_n 0, 1) := by decide +kernel
theorem dX0_begin_1 : decode cX0_begin 1 = .ok (.iconst 0, 1) := by decide +kernel
theorem dX0_begin_2 : decode cX0_begin 2 = .ok (.putfield 19, 3) := by decide +kernel
theorem dX0_begin_5 : decode cX0_begin 5 = .ok (.aload_n 0, 1) := by decide +kernel
theorem dX0_begin_6 : decode cX0_begin 6 = .ok (.iconst 0, 1) := by decide +kernel
theorem dX0_begin_7 : decode cX0_begin 7 = .ok (.putfield 23, 3) := by decide +kernel
theorem dX0_begin_10 : decode cX0_begin 10 = .ok (.return_, 1) := by decide +kernel
theorem dX0_vanish_0 : decode cX0_vanish 0 = .ok (.aload_n 0, 1) := by decide +kernel
theorem dX0_vanish_1 : decode cX0_vanish 1 = .ok (.iconst 1, 1) := by decide +kernel
theorem dX0_vanish_2 : decode cX0_vanish 2 = .ok (.putfield 19, 3) := by decide +kernel
theorem dX0_vanish_5 : decode cX0_vanish 5 = .ok (.aload_n 0, 1) := by decide +kernel
theorem dX0_vanish_6 : decode cX0_vanish 6 = .ok (.iconst 0, 1) := by decide +kernel
theorem dX0_vanish_7 : decode cX0_vanish 7 = .ok (.putfield 23, 3) := by decide +kernel
theorem dX0_vanish_10 : decode cX0_vanish 10 = .ok (.return_, 1) := by decide +kernel
theorem dX0_insert_0 : decode cX0_insert 0 = .ok (.aload_n 0, 1) := by decide +kernel
theorem dX0_insert_1 : decode cX0_insert 1 = .ok (.getfield 23, 3) := by decide +kernel
theorem dX0_insert_4 : decode cX0_insert 4 = .ok (.istore 4, 2) := by decide +kernel
theorem dX0_insert_6 : decode cX0_insert 6 = .ok (.iload 4, 2) := by decide +kernel
theorem dX0_insert_8 : decode cX0_insert 8 = .ok (.iload_n 1, 1) := by decide +kernel
theorem dX0_insert_9 : decode cX0_insert 9 = .ok (.if_icmp .le 41, 3) := by decide +kernel
theorem dX0_insert_12 : decode cX0_insert 12 = .ok (.aload_n 0, 1) := by decide +kernel
theorem dX0_insert_13 : decode cX0_insert 13 = .ok (.getfield 9, 3) := by decide +kernel
theorem dX0_insert_16 : decode cX0_insert 16 = .ok (.iload 4, 2) := by decide +kernel
theorem dX0_insert_18 : decode cX0_insert 18 = .ok (.aload_n 0, 1) := by decide +kernel
theorem dX0_insert_19 : decode cX0_insert 19 = .ok (.getfield 9, 3) := by decide +kernel
theorem dX0_insert_22 : decode cX0_insert 22 = .ok (.iload 4, 2) := by decide +kernel
theorem dX0_insert_24 : decode cX0_insert 24 = .ok (.iconst 1, 1) := by decide +kernel
theorem dX0_insert_25 : decode cX0_insert 25 = .ok (.isub, 1) := by decide +kernel
theorem dX0_insert_26 : decode cX0_insert 26 = .ok (.iaload, 1) := by decide +kernel
theorem dX0_insert_27 : decode cX0_insert 27 = .ok (.iastore, 1) := by decide +kernel
theorem dX0_insert_28 : decode cX0_insert 28 = .ok (.aload_n 0, 1) := by decide +kernel
theorem dX0_insert_29 : decode cX0_insert 29 = .ok (.getfield 15, 3) := by decide +kernel
theorem dX0_insert_32 : decode cX0_insert 32 = .ok (.iload 4, 2) := by decide +kernel
theorem dX0_insert_34 : decode cX0_insert 34 = .ok (.aload_n 0, 1) := by decide +kernel
theorem dX0_insert_35 : decode cX0_insert 35 = .ok (.getfield 15, 3) := by decide +kernel
theorem dX0_insert_38 : decode cX0_insert 38 = .ok (.iload 4, 2) := by decide +kernel
theorem dX0_insert_40 : decode cX0_insert 40 = .ok (.iconst 1, 1) := by decide +kernel
theorem dX0_insert_41 : decode cX0_insert 41 = .ok (.isub, 1) := by decide +kernel
theorem dX0_insert_42 : decode cX0_insert 42 = .ok (.baload, 1) := by decide +kernel
theorem dX0_insert_43 : decode cX0_insert 43 = .ok (.bastore, 1) := by decide +kernel
theorem dX0_insert_44 : decode cX0_insert 44 = .ok (.iinc 4 (-1), 3) := by decide +kernel
theorem dX0_insert_47 : decode cX0_insert 47 = .ok (.goto (-41), 3) := by decide +kernel
theorem dX0_insert_50 : decode cX0_insert 50 = .ok (.aload_n 0, 1) := by decide +kernel
theorem dX0_insert_51 : decode cX0_insert 51 = .ok (.getfield 9, 3) := by decide +kernel
theorem dX0_insert_54 : decode cX0_insert 54 = .ok (.iload_n 1, 1) := by decide +kernel
theorem dX0_insert_55 : decode cX0_insert 55 = .ok (.iload_n 2, 1) := by decide +kernel
theorem dX0_insert_56 : decode cX0_insert 56 = .ok (.iastore, 1) := by decide +kernel
theorem dX0_insert_57 : decode cX0_insert 57 = .ok (.aload_n 0, 1) := by decide +kernel
theorem dX0_insert_58 : decode cX0_insert 58 = .ok (.getfield 15, 3) := by decide +kernel
theorem dX0_insert_61 : decode cX0_insert 61 = .ok (.iload_n 1, 1) := by decide +kernel
theorem dX0_insert_62 : decode cX0_insert 62 = .ok (.iload_n 3, 1) := by decide +kernel
theorem dX0_insert_63 : decode cX0_insert 63 = .ok (.bastore, 1) := by decide +kernel
theorem dX0_insert_64 : decode cX0_insert 64 = .ok (.aload_n 0, 1) := by decide +kernel
theorem dX0_insert_65 : decode cX0_insert 65 = .ok (.dup, 1) := by decide +kernel
theorem dX0_insert_66 : decode cX0_insert 66 = .ok (.getfield 23, 3) := by decide +kernel
theorem dX0_insert_69 : decode cX0_insert 69 = .ok (.iconst 1, 1) := by decide +kernel
theorem dX0_insert_70 : decode cX0_insert 70 = .ok (.iadd, 1) := by decide +kernel
theorem dX0_insert_71 : decode cX0_insert 71 = .ok (.putfield 23, 3) := by decide +kernel
theorem dX0_insert_74 : decode cX0_insert 74 = .ok (.return_, 1) := by decide +kernel
theorem dX0_total_0 : decode cX0_total 0 = .ok (.iconst 0, 1) := by decide +kernel
theorem dX0_total_1 : decode cX0_total 1 = .ok (.istore_n 3, 1) := by decide +kernel
theorem dX0_total_2 : decode cX0_total 2 = .ok (.iconst 0, 1) := by decide +kernel
theorem dX0_total_3 : decode cX0_total 3 = .ok (.istore 4, 2) := by decide +kernel
theorem dX0_total_5 : decode cX0_total 5 = .ok (.iload 4, 2) := by decide +kernel
theorem dX0_total_7 : decode cX0_total 7 = .ok (.aload_n 0, 1) := by decide +kernel
theorem dX0_total_8 : decode cX0_total 8 = .ok (.getfield 23, 3) := by decide +kernel
theorem dX0_total_11 : decode cX0_total 11 = .ok (.if_icmp .ge 40, 3) := by decide +kernel
theorem dX0_total_14 : decode cX0_total 14 = .ok (.aload_n 0, 1) := by decide +kernel
theorem dX0_total_15 : decode cX0_total 15 = .ok (.getfield 15, 3) := by decide +kernel
theorem dX0_total_18 : decode cX0_total 18 = .ok (.iload 4, 2) := by decide +kernel
theorem dX0_total_20 : decode cX0_total 20 = .ok (.baload, 1) := by decide +kernel
theorem dX0_total_21 : decode cX0_total 21 = .ok (.ifCond .eq 10, 3) := by decide +kernel
theorem dX0_total_24 : decode cX0_total 24 = .ok (.iload_n 2, 1) := by decide +kernel
theorem dX0_total_25 : decode cX0_total 25 = .ok (.ifCond .eq 20, 3) := by decide +kernel
theorem dX0_total_28 : decode cX0_total 28 = .ok (.goto 7, 3) := by decide +kernel
theorem dX0_total_31 : decode cX0_total 31 = .ok (.iload_n 1, 1) := by decide +kernel
theorem dX0_total_32 : decode cX0_total 32 = .ok (.ifCond .eq 13, 3) := by decide +kernel
theorem dX0_total_35 : decode cX0_total 35 = .ok (.iload_n 3, 1) := by decide +kernel
theorem dX0_total_36 : decode cX0_total 36 = .ok (.aload_n 0, 1) := by decide +kernel
theorem dX0_total_37 : decode cX0_total 37 = .ok (.getfield 9, 3) := by decide +kernel
theorem dX0_total_40 : decode cX0_total 40 = .ok (.iload 4, 2) := by decide +kernel
theorem dX0_total_42 : decode cX0_total 42 = .ok (.iaload, 1) := by decide +kernel
theorem dX0_total_43 : decode cX0_total 43 = .ok (.iadd, 1) := by decide +kernel
theorem dX0_total_44 : decode cX0_total 44 = .ok (.istore_n 3, 1) := by decide +kernel
theorem dX0_total_45 : decode cX0_total 45 = .ok (.iinc 4 1, 3) := by decide +kernel
theorem dX0_total_48 : decode cX0_total 48 = .ok (.goto (-43), 3) := by decide +kernel
theorem dX0_total_51 : decode cX0_total 51 = .ok (.iload_n 3, 1) := by decide +kernel
theorem dX0_total_52 : decode cX0_total 52 = .ok (.ireturn, 1) := by decide +kernel
end
section
theorem dX1_init_0 : decode cX1_init 0 = .ok (.aload_n 0, 1) := by decide +kernel
theorem dX1_init_1 : decode cX1_init 1 = .ok (.invokespecial 3, 3) := by decide +kernel
theorem dX1_init_4 : decode cX1_init 4 = .ok (.aload_n 0, 1) := by decide +kernel
theorem dX1_init_5 : decode cX1_init 5 = .ok (.bipush 10, 2) := by decide +kernel
theorem dX1_init_7 : decode cX1_init 7 = .ok (.newarray .int, 2) := by decide +kernel
theorem dX1_init_9 : decode cX1_init 9 = .ok (.putfield 9, 3) := by decide +kernel
theorem dX1_init_12 : decode cX1_init 12 = .ok (.aload_n 0, 1) := by decide +kernel
theorem dX1_init_13 : decode cX1_init 13 = .ok (.bipush 10, 2) := by decide +kernel
theorem dX1_init_15 : decode cX1_init 15 = .ok (.newarray .int, 2) := by decide +kernel
theorem dX1_init_17 : decode cX1_init 17 = .ok (.putfield 15, 3) := by decide +kernel
theorem dX1_init_20 : decode cX1_init 20 = .ok (.aload_n 0, 1) := by decide +kernel
theorem dX1_init_21 : decode cX1_init 21 = .ok (.bipush 10, 2) := by decide +kernel
theorem dX1_init_23 : decode cX1_init 23 = .ok (.newarray .int, 2) := by decide +kernel
theorem dX1_init_25 : decode cX1_init 25 = .ok (.putfield 18, 3) := by decide +kernel
theorem dX1_init_28 : decode cX1_init 28 = .ok (.return_, 1) := by decide +kernel
theorem dX1_fewestArcs_0 : decode cX1_fewestArcs 0 = .ok (.aload_n 0, 1) := by decide +kernel
theorem dX1_fewestArcs_1 : decode cX1_fewestArcs 1 = .ok (.getfield 9, 3) := by decide +kernel
theorem dX1_fewestArcs_4 : decode cX1_fewestArcs 4 = .ok (.iconst 0, 1) := by decide +kernel
theorem dX1_fewestArcs_5 : decode cX1_fewestArcs 5 = .ok (.invokestatic 21, 3) := by decide +kernel
theorem dX1_fewestArcs_8 : decode cX1_fewestArcs 8 = .ok (.aload_n 0, 1) := by decide +kernel
theorem dX1_fewestArcs_9 : decode cX1_fewestArcs 9 = .ok (.getfield 15, 3) := by decide +kernel
theorem dX1_fewestArcs_12 : decode cX1_fewestArcs 12 = .ok (.iconst 0, 1) := by decide +kernel
theorem dX1_fewestArcs_13 : decode cX1_fewestArcs 13 = .ok (.invokestatic 21, 3) := by decide +kernel
theorem dX1_fewestArcs_16 : decode cX1_fewestArcs 16 = .ok (.iconst 0, 1) := by decide +kernel
theorem dX1_fewestArcs_17 : decode cX1_fewestArcs 17 = .ok (.istore 4, 2) := by decide +kernel
theorem dX1_fewestArcs_19 : decode cX1_fewestArcs 19 = .ok (.iload 4, 2) := by decide +kernel
theorem dX1_fewestArcs_21 : decode cX1_fewestArcs 21 = .ok (.bipush 10, 2) := by decide +kernel
theorem dX1_fewestArcs_23 : decode cX1_fewestArcs 23 = .ok (.if_icmp .ge 25, 3) := by decide +kernel
theorem dX1_fewestArcs_26 : decode cX1_fewestArcs 26 = .ok (.aload_n 0, 1) := by decide +kernel
theorem dX1_fewestArcs_27 : decode cX1_fewestArcs 27 = .ok (.aload_n 1, 1) := by decide +kernel
theorem dX1_fewestArcs_28 : decode cX1_fewestArcs 28 = .ok (.iload_n 2, 1) := by decide +kernel
theorem dX1_fewestArcs_29 : decode cX1_fewestArcs 29 = .ok (.iload_n 3, 1) := by decide +kernel
theorem dX1_fewestArcs_30 : decode cX1_fewestArcs 30 = .ok (.invokevirtual 27, 3) := by decide +kernel
theorem dX1_fewestArcs_33 : decode cX1_fewestArcs 33 = .ok (.ifCond .eq 15, 3) := by decide +kernel
theorem dX1_fewestArcs_36 : decode cX1_fewestArcs 36 = .ok (.aload_n 0, 1) := by decide +kernel
theorem dX1_fewestArcs_37 : decode cX1_fewestArcs 37 = .ok (.iload_n 2, 1) := by decide +kernel
theorem dX1_fewestArcs_38 : decode cX1_fewestArcs 38 = .ok (.iload_n 3, 1) := by decide +kernel
theorem dX1_fewestArcs_39 : decode cX1_fewestArcs 39 = .ok (.invokevirtual 31, 3) := by decide +kernel
theorem dX1_fewestArcs_42 : decode cX1_fewestArcs 42 = .ok (.iinc 4 1, 3) := by decide +kernel
theorem dX1_fewestArcs_45 : decode cX1_fewestArcs 45 = .ok (.goto (-26), 3) := by decide +kernel
theorem dX1_fewestArcs_48 : decode cX1_fewestArcs 48 = .ok (.iload 4, 2) := by decide +kernel
theorem dX1_fewestArcs_50 : decode cX1_fewestArcs 50 = .ok (.ireturn, 1) := by decide +kernel
theorem dX1_findWay_0 : decode cX1_findWay 0 = .ok (.iconst 1, 1) := by decide +kernel
theorem dX1_findWay_1 : decode cX1_findWay 1 = .ok (.iload_n 2, 1) := by decide +kernel
theorem dX1_findWay_2 : decode cX1_findWay 2 = .ok (.ishl, 1) := by decide +kernel
theorem dX1_findWay_3 : decode cX1_findWay 3 = .ok (.istore 4, 2) := by decide +kernel
theorem dX1_findWay_5 : decode cX1_findWay 5 = .ok (.iload 4, 2) := by decide +kernel
theorem dX1_findWay_7 : decode cX1_findWay 7 = .ok (.istore 5, 2) := by decide +kernel
theorem dX1_findWay_9 : decode cX1_findWay 9 = .ok (.iconst 0, 1) := by decide +kernel
theorem dX1_findWay_10 : decode cX1_findWay 10 = .ok (.istore 6, 2) := by decide +kernel
theorem dX1_findWay_12 : decode cX1_findWay 12 = .ok (.iload 6, 2) := by decide +kernel
theorem dX1_findWay_14 : decode cX1_findWay 14 = .ok (.bipush 10, 2) := by decide +kernel
theorem dX1_findWay_16 : decode cX1_findWay 16 = .ok (.if_icmp .ge 120, 3) := by decide +kernel
theorem dX1_findWay_19 : decode cX1_findWay 19 = .ok (.iload 5, 2) := by decide +kernel
theorem dX1_findWay_21 : decode cX1_findWay 21 = .ok (.ifCond .eq 115, 3) := by decide +kernel
theorem dX1_findWay_24 : decode cX1_findWay 24 = .ok (.iload 4, 2) := by decide +kernel
theorem dX1_findWay_26 : decode cX1_findWay 26 = .ok (.iload_n 3, 1) := by decide +kernel
theorem dX1_findWay_27 : decode cX1_findWay 27 = .ok (.invokestatic 35, 3) := by decide +kernel
theorem dX1_findWay_30 : decode cX1_findWay 30 = .ok (.ifCond .ne 106, 3) := by decide +kernel
theorem dX1_findWay_33 : decode cX1_findWay 33 = .ok (.iload 5, 2) := by decide +kernel
theorem dX1_findWay_35 : decode cX1_findWay 35 = .ok (.invokestatic 39, 3) := by decide +kernel
theorem dX1_findWay_38 : decode cX1_findWay 38 = .ok (.istore 7, 2) := by decide +kernel
theorem dX1_findWay_40 : decode cX1_findWay 40 = .ok (.aload_n 1, 1) := by decide +kernel
theorem dX1_findWay_41 : decode cX1_findWay 41 = .ok (.getfield 43, 3) := by decide +kernel
theorem dX1_findWay_44 : decode cX1_findWay 44 = .ok (.iload 7, 2) := by decide +kernel
theorem dX1_findWay_46 : decode cX1_findWay 46 = .ok (.iaload, 1) := by decide +kernel
theorem dX1_findWay_47 : decode cX1_findWay 47 = .ok (.aload_n 0, 1) := by decide +kernel
theorem dX1_findWay_48 : decode cX1_findWay 48 = .ok (.getfield 9, 3) := by decide +kernel
theorem dX1_findWay_51 : decode cX1_findWay 51 = .ok (.iload 7, 2) := by decide +kernel
theorem dX1_findWay_53 : decode cX1_findWay 53 = .ok (.iaload, 1) := by decide +kernel
theorem dX1_findWay_54 : decode cX1_findWay 54 = .ok (.iconst (-1), 1) := by decide +kernel
theorem dX1_findWay_55 : decode cX1_findWay 55 = .ok (.ixor, 1) := by decide +kernel
theorem dX1_findWay_56 : decode cX1_findWay 56 = .ok (.iand, 1) := by decide +kernel
theorem dX1_findWay_57 : decode cX1_findWay 57 = .ok (.aload_n 0, 1) := by decide +kernel
theorem dX1_findWay_58 : decode cX1_findWay 58 = .ok (.getfield 15, 3) := by decide +kernel
theorem dX1_findWay_61 : decode cX1_findWay 61 = .ok (.iload 7, 2) := by decide +kernel
theorem dX1_findWay_63 : decode cX1_findWay 63 = .ok (.iaload, 1) := by decide +kernel
theorem dX1_findWay_64 : decode cX1_findWay 64 = .ok (.ior, 1) := by decide +kernel
theorem dX1_findWay_65 : decode cX1_findWay 65 = .ok (.iload 4, 2) := by decide +kernel
theorem dX1_findWay_67 : decode cX1_findWay 67 = .ok (.iconst (-1), 1) := by decide +kernel
theorem dX1_findWay_68 : decode cX1_findWay 68 = .ok (.ixor, 1) := by decide +kernel
theorem dX1_findWay_69 : decode cX1_findWay 69 = .ok (.iand, 1) := by decide +kernel
theorem dX1_findWay_70 : decode cX1_findWay 70 = .ok (.istore 8, 2) := by decide +kernel
theorem dX1_findWay_72 : decode cX1_findWay 72 = .ok (.iconst 0, 1) := by decide +kernel
theorem dX1_findWay_73 : decode cX1_findWay 73 = .ok (.istore 9, 2) := by decide +kernel
theorem dX1_findWay_75 : decode cX1_findWay 75 = .ok (.iload 9, 2) := by decide +kernel
theorem dX1_findWay_77 : decode cX1_findWay 77 = .ok (.aload_n 1, 1) := by decide +kernel
theorem dX1_findWay_78 : decode cX1_findWay 78 = .ok (.getfield 48, 3) := by decide +kernel
theorem dX1_findWay_81 : decode cX1_findWay 81 = .ok (.if_icmp .ge 28, 3) := by decide +kernel
theorem dX1_findWay_84 : decode cX1_findWay 84 = .ok (.iload 8, 2) := by decide +kernel
theorem dX1_findWay_86 : decode cX1_findWay 86 = .ok (.iload 9, 2) := by decide +kernel
theorem dX1_findWay_88 : decode cX1_findWay 88 = .ok (.invokestatic 35, 3) := by decide +kernel
theorem dX1_findWay_91 : decode cX1_findWay 91 = .ok (.ifCond .eq 12, 3) := by decide +kernel
theorem dX1_findWay_94 : decode cX1_findWay 94 = .ok (.aload_n 0, 1) := by decide +kernel
theorem dX1_findWay_95 : decode cX1_findWay 95 = .ok (.getfield 18, 3) := by decide +kernel
theorem dX1_findWay_98 : decode cX1_findWay 98 = .ok (.iload 9, 2) := by decide +kernel
theorem dX1_findWay_100 : decode cX1_findWay 100 = .ok (.iload 7, 2) := by decide +kernel
theorem dX1_findWay_102 : decode cX1_findWay 102 = .ok (.iastore, 1) := by decide +kernel
theorem dX1_findWay_103 : decode cX1_findWay 103 = .ok (.iinc 9 1, 3) := by decide +kernel
theorem dX1_findWay_106 : decode cX1_findWay 106 = .ok (.goto (-31), 3) := by decide +kernel
theorem dX1_findWay_109 : decode cX1_findWay 109 = .ok (.iload 4, 2) := by decide +kernel
theorem dX1_findWay_111 : decode cX1_findWay 111 = .ok (.iload 8, 2) := by decide +kernel
theorem dX1_findWay_113 : decode cX1_findWay 113 = .ok (.ior, 1) := by decide +kernel
theorem dX1_findWay_114 : decode cX1_findWay 114 = .ok (.istore 4, 2) := by decide +kernel
theorem dX1_findWay_116 : decode cX1_findWay 116 = .ok (.iload 5, 2) := by decide +kernel
theorem dX1_findWay_118 : decode cX1_findWay 118 = .ok (.iconst 1, 1) := by decide +kernel
theorem dX1_findWay_119 : decode cX1_findWay 119 = .ok (.iload 7, 2) := by decide +kernel
theorem dX1_findWay_121 : decode cX1_findWay 121 = .ok (.ishl, 1) := by decide +kernel
theorem dX1_findWay_122 : decode cX1_findWay 122 = .ok (.iconst (-1), 1) := by decide +kernel
theorem dX1_findWay_123 : decode cX1_findWay 123 = .ok (.ixor, 1) := by decide +kernel
theorem dX1_findWay_124 : decode cX1_findWay 124 = .ok (.iand, 1) := by decide +kernel
theorem dX1_findWay_125 : decode cX1_findWay 125 = .ok (.iload 8, 2) := by decide +kernel
theorem dX1_findWay_127 : decode cX1_findWay 127 = .ok (.ior, 1) := by decide +kernel
theorem dX1_findWay_128 : decode cX1_findWay 128 = .ok (.istore 5, 2) := by decide +kernel
theorem dX1_findWay_130 : decode cX1_findWay 130 = .ok (.iinc 6 1, 3) := by decide +kernel
theorem dX1_findWay_133 : decode cX1_findWay 133 = .ok (.goto (-121), 3) := by decide +kernel
theorem dX1_findWay_136 : decode cX1_findWay 136 = .ok (.iload 4, 2) := by decide +kernel
theorem dX1_findWay_138 : decode cX1_findWay 138 = .ok (.iload_n 3, 1) := by decide +kernel
theorem dX1_findWay_139 : decode cX1_findWay 139 = .ok (.invokestatic 35, 3) := by decide +kernel
theorem dX1_findWay_142 : decode cX1_findWay 142 = .ok (.ireturn, 1) := by decide +kernel
theorem dX1_useWay_0 : decode cX1_useWay 0 = .ok (.iload_n 2, 1) := by decide +kernel
theorem dX1_useWay_1 : decode cX1_useWay 1 = .ok (.istore_n 3, 1) := by decide +kernel
theorem dX1_useWay_2 : decode cX1_useWay 2 = .ok (.iconst 0, 1) := by decide +kernel
theorem dX1_useWay_3 : decode cX1_useWay 3 = .ok (.istore 4, 2) := by decide +kernel
theorem dX1_useWay_5 : decode cX1_useWay 5 = .ok (.iload 4, 2) := by decide +kernel
theorem dX1_useWay_7 : decode cX1_useWay 7 = .ok (.bipush 10, 2) := by decide +kernel
theorem dX1_useWay_9 : decode cX1_useWay 9 = .ok (.if_icmp .ge 32, 3) := by decide +kernel
theorem dX1_useWay_12 : decode cX1_useWay 12 = .ok (.iload_n 3, 1) := by decide +kernel
theorem dX1_useWay_13 : decode cX1_useWay 13 = .ok (.iload_n 1, 1) := by decide +kernel
theorem dX1_useWay_14 : decode cX1_useWay 14 = .ok (.if_icmp .eq 27, 3) := by decide +kernel
theorem dX1_useWay_17 : decode cX1_useWay 17 = .ok (.aload_n 0, 1) := by decide +kernel
theorem dX1_useWay_18 : decode cX1_useWay 18 = .ok (.getfield 18, 3) := by decide +kernel
theorem dX1_useWay_21 : decode cX1_useWay 21 = .ok (.iload_n 3, 1) := by decide +kernel
theorem dX1_useWay_22 : decode cX1_useWay 22 = .ok (.iaload, 1) := by decide +kernel
theorem dX1_useWay_23 : decode cX1_useWay 23 = .ok (.istore 5, 2) := by decide +kernel
theorem dX1_useWay_25 : decode cX1_useWay 25 = .ok (.aload_n 0, 1) := by decide +kernel
theorem dX1_useWay_26 : decode cX1_useWay 26 = .ok (.iload 5, 2) := by decide +kernel
theorem dX1_useWay_28 : decode cX1_useWay 28 = .ok (.iload_n 3, 1) := by decide +kernel
theorem dX1_useWay_29 : decode cX1_useWay 29 = .ok (.invokevirtual 52, 3) := by decide +kernel
theorem dX1_useWay_32 : decode cX1_useWay 32 = .ok (.iload 5, 2) := by decide +kernel
theorem dX1_useWay_34 : decode cX1_useWay 34 = .ok (.istore_n 3, 1) := by decide +kernel
theorem dX1_useWay_35 : decode cX1_useWay 35 = .ok (.iinc 4 1, 3) := by decide +kernel
theorem dX1_useWay_38 : decode cX1_useWay 38 = .ok (.goto (-33), 3) := by decide +kernel
theorem dX1_useWay_41 : decode cX1_useWay 41 = .ok (.return_, 1) := by decide +kernel
theorem dX1_useStep_0 : decode cX1_useStep 0 = .ok (.aload_n 0, 1) := by decide +kernel
theorem dX1_useStep_1 : decode cX1_useStep 1 = .ok (.getfield 15, 3) := by decide +kernel
theorem dX1_useStep_4 : decode cX1_useStep 4 = .ok (.iload_n 1, 1) := by decide +kernel
theorem dX1_useStep_5 : decode cX1_useStep 5 = .ok (.iaload, 1) := by decide +kernel
theorem dX1_useStep_6 : decode cX1_useStep 6 = .ok (.iload_n 2, 1) := by decide +kernel
theorem dX1_useStep_7 : decode cX1_useStep 7 = .ok (.invokestatic 35, 3) := by decide +kernel
theorem dX1_useStep_10 : decode cX1_useStep 10 = .ok (.ifCond .eq 34, 3) := by decide +kernel
theorem dX1_useStep_13 : decode cX1_useStep 13 = .ok (.aload_n 0, 1) := by decide +kernel
theorem dX1_useStep_14 : decode cX1_useStep 14 = .ok (.getfield 9, 3) := by decide +kernel
theorem dX1_useStep_17 : decode cX1_useStep 17 = .ok (.iload_n 2, 1) := by decide +kernel
theorem dX1_useStep_18 : decode cX1_useStep 18 = .ok (.dup2, 1) := by decide +kernel
theorem dX1_useStep_19 : decode cX1_useStep 19 = .ok (.iaload, 1) := by decide +kernel
theorem dX1_useStep_20 : decode cX1_useStep 20 = .ok (.iconst 1, 1) := by decide +kernel
theorem dX1_useStep_21 : decode cX1_useStep 21 = .ok (.iload_n 1, 1) := by decide +kernel
theorem dX1_useStep_22 : decode cX1_useStep 22 = .ok (.ishl, 1) := by decide +kernel
theorem dX1_useStep_23 : decode cX1_useStep 23 = .ok (.iconst (-1), 1) := by decide +kernel
theorem dX1_useStep_24 : decode cX1_useStep 24 = .ok (.ixor, 1) := by decide +kernel
theorem dX1_useStep_25 : decode cX1_useStep 25 = .ok (.iand, 1) := by decide +kernel
theorem dX1_useStep_26 : decode cX1_useStep 26 = .ok (.iastore, 1) := by decide +kernel
theorem dX1_useStep_27 : decode cX1_useStep 27 = .ok (.aload_n 0, 1) := by decide +kernel
theorem dX1_useStep_28 : decode cX1_useStep 28 = .ok (.getfield 15, 3) := by decide +kernel
theorem dX1_useStep_31 : decode cX1_useStep 31 = .ok (.iload_n 1, 1) := by decide +kernel
theorem dX1_useStep_32 : decode cX1_useStep 32 = .ok (.dup2, 1) := by decide +kernel
theorem dX1_useStep_33 : decode cX1_useStep 33 = .ok (.iaload, 1) := by decide +kernel
theorem dX1_useStep_34 : decode cX1_useStep 34 = .ok (.iconst 1, 1) := by decide +kernel
theorem dX1_useStep_35 : decode cX1_useStep 35 = .ok (.iload_n 2, 1) := by decide +kernel
theorem dX1_useStep_36 : decode cX1_useStep 36 = .ok (.ishl, 1) := by decide +kernel
theorem dX1_useStep_37 : decode cX1_useStep 37 = .ok (.iconst (-1), 1) := by decide +kernel
theorem dX1_useStep_38 : decode cX1_useStep 38 = .ok (.ixor, 1) := by decide +kernel
theorem dX1_useStep_39 : decode cX1_useStep 39 = .ok (.iand, 1) := by decide +kernel
theorem dX1_useStep_40 : decode cX1_useStep 40 = .ok (.iastore, 1) := by decide +kernel
theorem dX1_useStep_41 : decode cX1_useStep 41 = .ok (.goto 27, 3) := by decide +kernel
theorem dX1_useStep_44 : decode cX1_useStep 44 = .ok (.aload_n 0, 1) := by decide +kernel
theorem dX1_useStep_45 : decode cX1_useStep 45 = .ok (.getfield 9, 3) := by decide +kernel
theorem dX1_useStep_48 : decode cX1_useStep 48 = .ok (.iload_n 1, 1) := by decide +kernel
theorem dX1_useStep_49 : decode cX1_useStep 49 = .ok (.dup2, 1) := by decide +kernel
theorem dX1_useStep_50 : decode cX1_useStep 50 = .ok (.iaload, 1) := by decide +kernel
theorem dX1_useStep_51 : decode cX1_useStep 51 = .ok (.iconst 1, 1) := by decide +kernel
theorem dX1_useStep_52 : decode cX1_useStep 52 = .ok (.iload_n 2, 1) := by decide +kernel
theorem dX1_useStep_53 : decode cX1_useStep 53 = .ok (.ishl, 1) := by decide +kernel
theorem dX1_useStep_54 : decode cX1_useStep 54 = .ok (.ior, 1) := by decide +kernel
theorem dX1_useStep_55 : decode cX1_useStep 55 = .ok (.iastore, 1) := by decide +kernel
theorem dX1_useStep_56 : decode cX1_useStep 56 = .ok (.aload_n 0, 1) := by decide +kernel
theorem dX1_useStep_57 : decode cX1_useStep 57 = .ok (.getfield 15, 3) := by decide +kernel
theorem dX1_useStep_60 : decode cX1_useStep 60 = .ok (.iload_n 2, 1) := by decide +kernel
theorem dX1_useStep_61 : decode cX1_useStep 61 = .ok (.dup2, 1) := by decide +kernel
theorem dX1_useStep_62 : decode cX1_useStep 62 = .ok (.iaload, 1) := by decide +kernel
theorem dX1_useStep_63 : decode cX1_useStep 63 = .ok (.iconst 1, 1) := by decide +kernel
theorem dX1_useStep_64 : decode cX1_useStep 64 = .ok (.iload_n 1, 1) := by decide +kernel
theorem dX1_useStep_65 : decode cX1_useStep 65 = .ok (.ishl, 1) := by decide +kernel
theorem dX1_useStep_66 : decode cX1_useStep 66 = .ok (.ior, 1) := by decide +kernel
theorem dX1_useStep_67 : decode cX1_useStep 67 = .ok (.iastore, 1) := by decide +kernel
theorem dX1_useStep_68 : decode cX1_useStep 68 = .ok (.return_, 1) := by decide +kernel
end
section
theorem dX2_init_0 : decode cX2_init 0 = .ok (.aload_n 0, 1) := by decide +kernel
theorem dX2_init_1 : decode cX2_init 1 = .ok (.invokespecial 3, 3) := by decide +kernel
theorem dX2_init_4 : decode cX2_init 4 = .ok (.aload_n 0, 1) := by decide +kernel
theorem dX2_init_5 : decode cX2_init 5 = .ok (.sipush 200, 3) := by decide +kernel
theorem dX2_init_8 : decode cX2_init 8 = .ok (.newarray .int, 2) := by decide +kernel
theorem dX2_init_10 : decode cX2_init 10 = .ok (.putfield 9, 3) := by decide +kernel
theorem dX2_init_13 : decode cX2_init 13 = .ok (.return_, 1) := by decide +kernel
end
section
theorem dX3_init_0 : decode cX3_init 0 = .ok (.aload_n 0, 1) := by decide +kernel
theorem dX3_init_1 : decode cX3_init 1 = .ok (.invokespecial 3, 3) := by decide +kernel
theorem dX3_init_4 : decode cX3_init 4 = .ok (.aload_n 0, 1) := by decide +kernel
theorem dX3_init_5 : decode cX3_init 5 = .ok (.bipush 10, 2) := by decide +kernel
theorem dX3_init_7 : decode cX3_init 7 = .ok (.newarray .int, 2) := by decide +kernel
theorem dX3_init_9 : decode cX3_init 9 = .ok (.putfield 9, 3) := by decide +kernel
theorem dX3_init_12 : decode cX3_init 12 = .ok (.aload_n 0, 1) := by decide +kernel
theorem dX3_init_13 : decode cX3_init 13 = .ok (.bipush 10, 2) := by decide +kernel
theorem dX3_init_15 : decode cX3_init 15 = .ok (.newarray .int, 2) := by decide +kernel
theorem dX3_init_17 : decode cX3_init 17 = .ok (.putfield 15, 3) := by decide +kernel
theorem dX3_init_20 : decode cX3_init 20 = .ok (.aload_n 0, 1) := by decide +kernel
theorem dX3_init_21 : decode cX3_init 21 = .ok (.bipush 100, 2) := by decide +kernel
theorem dX3_init_23 : decode cX3_init 23 = .ok (.newarray .int, 2) := by decide +kernel
theorem dX3_init_25 : decode cX3_init 25 = .ok (.putfield 18, 3) := by decide +kernel
theorem dX3_init_28 : decode cX3_init 28 = .ok (.aload_n 0, 1) := by decide +kernel
theorem dX3_init_29 : decode cX3_init 29 = .ok (.iconst 4, 1) := by decide +kernel
theorem dX3_init_30 : decode cX3_init 30 = .ok (.invokevirtual 21, 3) := by decide +kernel
theorem dX3_init_33 : decode cX3_init 33 = .ok (.return_, 1) := by decide +kernel
theorem dX3_makeEmpty_0 : decode cX3_makeEmpty 0 = .ok (.aload_n 0, 1) := by decide +kernel
theorem dX3_makeEmpty_1 : decode cX3_makeEmpty 1 = .ok (.iload_n 1, 1) := by decide +kernel
theorem dX3_makeEmpty_2 : decode cX3_makeEmpty 2 = .ok (.putfield 25, 3) := by decide +kernel
theorem dX3_makeEmpty_5 : decode cX3_makeEmpty 5 = .ok (.aload_n 0, 1) := by decide +kernel
theorem dX3_makeEmpty_6 : decode cX3_makeEmpty 6 = .ok (.iconst 0, 1) := by decide +kernel
theorem dX3_makeEmpty_7 : decode cX3_makeEmpty 7 = .ok (.putfield 29, 3) := by decide +kernel
theorem dX3_makeEmpty_10 : decode cX3_makeEmpty 10 = .ok (.aload_n 0, 1) := by decide +kernel
theorem dX3_makeEmpty_11 : decode cX3_makeEmpty 11 = .ok (.getfield 9, 3) := by decide +kernel
theorem dX3_makeEmpty_14 : decode cX3_makeEmpty 14 = .ok (.iconst 0, 1) := by decide +kernel
theorem dX3_makeEmpty_15 : decode cX3_makeEmpty 15 = .ok (.invokestatic 32, 3) := by decide +kernel
theorem dX3_makeEmpty_18 : decode cX3_makeEmpty 18 = .ok (.aload_n 0, 1) := by decide +kernel
theorem dX3_makeEmpty_19 : decode cX3_makeEmpty 19 = .ok (.getfield 18, 3) := by decide +kernel
theorem dX3_makeEmpty_22 : decode cX3_makeEmpty 22 = .ok (.iconst (-1), 1) := by decide +kernel
theorem dX3_makeEmpty_23 : decode cX3_makeEmpty 23 = .ok (.invokestatic 32, 3) := by decide +kernel
theorem dX3_makeEmpty_26 : decode cX3_makeEmpty 26 = .ok (.iconst 0, 1) := by decide +kernel
theorem dX3_makeEmpty_27 : decode cX3_makeEmpty 27 = .ok (.istore_n 2, 1) := by decide +kernel
theorem dX3_makeEmpty_28 : decode cX3_makeEmpty 28 = .ok (.iload_n 2, 1) := by decide +kernel
theorem dX3_makeEmpty_29 : decode cX3_makeEmpty 29 = .ok (.bipush 10, 2) := by decide +kernel
theorem dX3_makeEmpty_31 : decode cX3_makeEmpty 31 = .ok (.if_icmp .ge 18, 3) := by decide +kernel
theorem dX3_makeEmpty_34 : decode cX3_makeEmpty 34 = .ok (.aload_n 0, 1) := by decide +kernel
theorem dX3_makeEmpty_35 : decode cX3_makeEmpty 35 = .ok (.getfield 15, 3) := by decide +kernel
theorem dX3_makeEmpty_38 : decode cX3_makeEmpty 38 = .ok (.iload_n 2, 1) := by decide +kernel
theorem dX3_makeEmpty_39 : decode cX3_makeEmpty 39 = .ok (.iconst 1, 1) := by decide +kernel
theorem dX3_makeEmpty_40 : decode cX3_makeEmpty 40 = .ok (.iload_n 2, 1) := by decide +kernel
theorem dX3_makeEmpty_41 : decode cX3_makeEmpty 41 = .ok (.ishl, 1) := by decide +kernel
theorem dX3_makeEmpty_42 : decode cX3_makeEmpty 42 = .ok (.iastore, 1) := by decide +kernel
theorem dX3_makeEmpty_43 : decode cX3_makeEmpty 43 = .ok (.iinc 2 1, 3) := by decide +kernel
theorem dX3_makeEmpty_46 : decode cX3_makeEmpty 46 = .ok (.goto (-18), 3) := by decide +kernel
theorem dX3_makeEmpty_49 : decode cX3_makeEmpty 49 = .ok (.return_, 1) := by decide +kernel
theorem dX3_copyFrom_0 : decode cX3_copyFrom 0 = .ok (.aload_n 0, 1) := by decide +kernel
theorem dX3_copyFrom_1 : decode cX3_copyFrom 1 = .ok (.aload_n 1, 1) := by decide +kernel
theorem dX3_copyFrom_2 : decode cX3_copyFrom 2 = .ok (.getfield 25, 3) := by decide +kernel
theorem dX3_copyFrom_5 : decode cX3_copyFrom 5 = .ok (.putfield 25, 3) := by decide +kernel
theorem dX3_copyFrom_8 : decode cX3_copyFrom 8 = .ok (.aload_n 0, 1) := by decide +kernel
theorem dX3_copyFrom_9 : decode cX3_copyFrom 9 = .ok (.aload_n 1, 1) := by decide +kernel
theorem dX3_copyFrom_10 : decode cX3_copyFrom 10 = .ok (.getfield 29, 3) := by decide +kernel
theorem dX3_copyFrom_13 : decode cX3_copyFrom 13 = .ok (.putfield 29, 3) := by decide +kernel
theorem dX3_copyFrom_16 : decode cX3_copyFrom 16 = .ok (.aload_n 1, 1) := by decide +kernel
theorem dX3_copyFrom_17 : decode cX3_copyFrom 17 = .ok (.getfield 9, 3) := by decide +kernel
theorem dX3_copyFrom_20 : decode cX3_copyFrom 20 = .ok (.iconst 0, 1) := by decide +kernel
theorem dX3_copyFrom_21 : decode cX3_copyFrom 21 = .ok (.aload_n 0, 1) := by decide +kernel
theorem dX3_copyFrom_22 : decode cX3_copyFrom 22 = .ok (.getfield 9, 3) := by decide +kernel
theorem dX3_copyFrom_25 : decode cX3_copyFrom 25 = .ok (.iconst 0, 1) := by decide +kernel
theorem dX3_copyFrom_26 : decode cX3_copyFrom 26 = .ok (.bipush 10, 2) := by decide +kernel
theorem dX3_copyFrom_28 : decode cX3_copyFrom 28 = .ok (.invokestatic 38, 3) := by decide +kernel
theorem dX3_copyFrom_31 : decode cX3_copyFrom 31 = .ok (.aload_n 1, 1) := by decide +kernel
theorem dX3_copyFrom_32 : decode cX3_copyFrom 32 = .ok (.getfield 15, 3) := by decide +kernel
theorem dX3_copyFrom_35 : decode cX3_copyFrom 35 = .ok (.iconst 0, 1) := by decide +kernel
theorem dX3_copyFrom_36 : decode cX3_copyFrom 36 = .ok (.aload_n 0, 1) := by decide +kernel
theorem dX3_copyFrom_37 : decode cX3_copyFrom 37 = .ok (.getfield 15, 3) := by decide +kernel
theorem dX3_copyFrom_40 : decode cX3_copyFrom 40 = .ok (.iconst 0, 1) := by decide +kernel
theorem dX3_copyFrom_41 : decode cX3_copyFrom 41 = .ok (.bipush 10, 2) := by decide +kernel
theorem dX3_copyFrom_43 : decode cX3_copyFrom 43 = .ok (.invokestatic 38, 3) := by decide +kernel
theorem dX3_copyFrom_46 : decode cX3_copyFrom 46 = .ok (.aload_n 1, 1) := by decide +kernel
theorem dX3_copyFrom_47 : decode cX3_copyFrom 47 = .ok (.getfield 18, 3) := by decide +kernel
theorem dX3_copyFrom_50 : decode cX3_copyFrom 50 = .ok (.iconst 0, 1) := by decide +kernel
theorem dX3_copyFrom_51 : decode cX3_copyFrom 51 = .ok (.aload_n 0, 1) := by decide +kernel
theorem dX3_copyFrom_52 : decode cX3_copyFrom 52 = .ok (.getfield 18, 3) := by decide +kernel
theorem dX3_copyFrom_55 : decode cX3_copyFrom 55 = .ok (.iconst 0, 1) := by decide +kernel
theorem dX3_copyFrom_56 : decode cX3_copyFrom 56 = .ok (.bipush 100, 2) := by decide +kernel
theorem dX3_copyFrom_58 : decode cX3_copyFrom 58 = .ok (.invokestatic 38, 3) := by decide +kernel
theorem dX3_copyFrom_61 : decode cX3_copyFrom 61 = .ok (.return_, 1) := by decide +kernel
theorem dX3_allPoints_0 : decode cX3_allPoints 0 = .ok (.iconst 1, 1) := by decide +kernel
theorem dX3_allPoints_1 : decode cX3_allPoints 1 = .ok (.aload_n 0, 1) := by decide +kernel
theorem dX3_allPoints_2 : decode cX3_allPoints 2 = .ok (.getfield 25, 3) := by decide +kernel
theorem dX3_allPoints_5 : decode cX3_allPoints 5 = .ok (.ishl, 1) := by decide +kernel
theorem dX3_allPoints_6 : decode cX3_allPoints 6 = .ok (.iconst 1, 1) := by decide +kernel
theorem dX3_allPoints_7 : decode cX3_allPoints 7 = .ok (.isub, 1) := by decide +kernel
theorem dX3_allPoints_8 : decode cX3_allPoints 8 = .ok (.ireturn, 1) := by decide +kernel
theorem dX3_hasArc_0 : decode cX3_hasArc 0 = .ok (.aload_n 0, 1) := by decide +kernel
theorem dX3_hasArc_1 : decode cX3_hasArc 1 = .ok (.getfield 9, 3) := by decide +kernel
theorem dX3_hasArc_4 : decode cX3_hasArc 4 = .ok (.iload_n 1, 1) := by decide +kernel
theorem dX3_hasArc_5 : decode cX3_hasArc 5 = .ok (.iaload, 1) := by decide +kernel
theorem dX3_hasArc_6 : decode cX3_hasArc 6 = .ok (.iload_n 2, 1) := by decide +kernel
theorem dX3_hasArc_7 : decode cX3_hasArc 7 = .ok (.invokestatic 44, 3) := by decide +kernel
theorem dX3_hasArc_10 : decode cX3_hasArc 10 = .ok (.ireturn, 1) := by decide +kernel
theorem dX3_arcs_0 : decode cX3_arcs 0 = .ok (.aload_n 0, 1) := by decide +kernel
theorem dX3_arcs_1 : decode cX3_arcs 1 = .ok (.aload_n 0, 1) := by decide +kernel
theorem dX3_arcs_2 : decode cX3_arcs 2 = .ok (.invokevirtual 48, 3) := by decide +kernel
theorem dX3_arcs_5 : decode cX3_arcs 5 = .ok (.aload_n 0, 1) := by decide +kernel
theorem dX3_arcs_6 : decode cX3_arcs 6 = .ok (.invokevirtual 48, 3) := by decide +kernel
theorem dX3_arcs_9 : decode cX3_arcs 9 = .ok (.invokevirtual 52, 3) := by decide +kernel
theorem dX3_arcs_12 : decode cX3_arcs 12 = .ok (.ireturn, 1) := by decide +kernel
theorem dX3_arcsBetween_0 : decode cX3_arcsBetween 0 = .ok (.iconst 0, 1) := by decide +kernel
theorem dX3_arcsBetween_1 : decode cX3_arcsBetween 1 = .ok (.istore_n 3, 1) := by decide +kernel
theorem dX3_arcsBetween_2 : decode cX3_arcsBetween 2 = .ok (.iconst 0, 1) := by decide +kernel
theorem dX3_arcsBetween_3 : decode cX3_arcsBetween 3 = .ok (.istore 4, 2) := by decide +kernel
theorem dX3_arcsBetween_5 : decode cX3_arcsBetween 5 = .ok (.iload 4, 2) := by decide +kernel
theorem dX3_arcsBetween_7 : decode cX3_arcsBetween 7 = .ok (.aload_n 0, 1) := by decide +kernel
theorem dX3_arcsBetween_8 : decode cX3_arcsBetween 8 = .ok (.getfield 25, 3) := by decide +kernel
theorem dX3_arcsBetween_11 : decode cX3_arcsBetween 11 = .ok (.if_icmp .ge 33, 3) := by decide +kernel
theorem dX3_arcsBetween_14 : decode cX3_arcsBetween 14 = .ok (.iload_n 1, 1) := by decide +kernel
theorem dX3_arcsBetween_15 : decode cX3_arcsBetween 15 = .ok (.iload 4, 2) := by decide +kernel
theorem dX3_arcsBetween_17 : decode cX3_arcsBetween 17 = .ok (.invokestatic 44, 3) := by decide +kernel
theorem dX3_arcsBetween_20 : decode cX3_arcsBetween 20 = .ok (.ifCond .eq 18, 3) := by decide +kernel
theorem dX3_arcsBetween_23 : decode cX3_arcsBetween 23 = .ok (.iload_n 3, 1) := by decide +kernel
theorem dX3_arcsBetween_24 : decode cX3_arcsBetween 24 = .ok (.aload_n 0, 1) := by decide +kernel
theorem dX3_arcsBetween_25 : decode cX3_arcsBetween 25 = .ok (.getfield 9, 3) := by decide +kernel
theorem dX3_arcsBetween_28 : decode cX3_arcsBetween 28 = .ok (.iload 4, 2) := by decide +kernel
theorem dX3_arcsBetween_30 : decode cX3_arcsBetween 30 = .ok (.iaload, 1) := by decide +kernel
theorem dX3_arcsBetween_31 : decode cX3_arcsBetween 31 = .ok (.iload_n 2, 1) := by decide +kernel
theorem dX3_arcsBetween_32 : decode cX3_arcsBetween 32 = .ok (.iand, 1) := by decide +kernel
theorem dX3_arcsBetween_33 : decode cX3_arcsBetween 33 = .ok (.invokestatic 56, 3) := by decide +kernel
theorem dX3_arcsBetween_36 : decode cX3_arcsBetween 36 = .ok (.iadd, 1) := by decide +kernel
theorem dX3_arcsBetween_37 : decode cX3_arcsBetween 37 = .ok (.istore_n 3, 1) := by decide +kernel
theorem dX3_arcsBetween_38 : decode cX3_arcsBetween 38 = .ok (.iinc 4 1, 3) := by decide +kernel
theorem dX3_arcsBetween_41 : decode cX3_arcsBetween 41 = .ok (.goto (-36), 3) := by decide +kernel
theorem dX3_arcsBetween_44 : decode cX3_arcsBetween 44 = .ok (.iload_n 3, 1) := by decide +kernel
theorem dX3_arcsBetween_45 : decode cX3_arcsBetween 45 = .ok (.ireturn, 1) := by decide +kernel
theorem dX3_comesTo_0 : decode cX3_comesTo 0 = .ok (.aload_n 0, 1) := by decide +kernel
theorem dX3_comesTo_1 : decode cX3_comesTo 1 = .ok (.getfield 15, 3) := by decide +kernel
theorem dX3_comesTo_4 : decode cX3_comesTo 4 = .ok (.iload_n 1, 1) := by decide +kernel
theorem dX3_comesTo_5 : decode cX3_comesTo 5 = .ok (.iaload, 1) := by decide +kernel
theorem dX3_comesTo_6 : decode cX3_comesTo 6 = .ok (.iload_n 2, 1) := by decide +kernel
theorem dX3_comesTo_7 : decode cX3_comesTo 7 = .ok (.invokestatic 44, 3) := by decide +kernel
theorem dX3_comesTo_10 : decode cX3_comesTo 10 = .ok (.ireturn, 1) := by decide +kernel
theorem dX3_pairs_0 : decode cX3_pairs 0 = .ok (.iconst 0, 1) := by decide +kernel
theorem dX3_pairs_1 : decode cX3_pairs 1 = .ok (.istore_n 1, 1) := by decide +kernel
theorem dX3_pairs_2 : decode cX3_pairs 2 = .ok (.iconst 0, 1) := by decide +kernel
theorem dX3_pairs_3 : decode cX3_pairs 3 = .ok (.istore_n 2, 1) := by decide +kernel
theorem dX3_pairs_4 : decode cX3_pairs 4 = .ok (.iload_n 2, 1) := by decide +kernel
theorem dX3_pairs_5 : decode cX3_pairs 5 = .ok (.aload_n 0, 1) := by decide +kernel
theorem dX3_pairs_6 : decode cX3_pairs 6 = .ok (.getfield 25, 3) := by decide +kernel
theorem dX3_pairs_9 : decode cX3_pairs 9 = .ok (.if_icmp .ge 23, 3) := by decide +kernel
theorem dX3_pairs_12 : decode cX3_pairs 12 = .ok (.iload_n 1, 1) := by decide +kernel
theorem dX3_pairs_13 : decode cX3_pairs 13 = .ok (.aload_n 0, 1) := by decide +kernel
theorem dX3_pairs_14 : decode cX3_pairs 14 = .ok (.getfield 15, 3) := by decide +kernel
theorem dX3_pairs_17 : decode cX3_pairs 17 = .ok (.iload_n 2, 1) := by decide +kernel
theorem dX3_pairs_18 : decode cX3_pairs 18 = .ok (.iaload, 1) := by decide +kernel
theorem dX3_pairs_19 : decode cX3_pairs 19 = .ok (.invokestatic 56, 3) := by decide +kernel
theorem dX3_pairs_22 : decode cX3_pairs 22 = .ok (.iconst 1, 1) := by decide +kernel
theorem dX3_pairs_23 : decode cX3_pairs 23 = .ok (.isub, 1) := by decide +kernel
theorem dX3_pairs_24 : decode cX3_pairs 24 = .ok (.iadd, 1) := by decide +kernel
theorem dX3_pairs_25 : decode cX3_pairs 25 = .ok (.istore_n 1, 1) := by decide +kernel
theorem dX3_pairs_26 : decode cX3_pairs 26 = .ok (.iinc 2 1, 3) := by decide +kernel
theorem dX3_pairs_29 : decode cX3_pairs 29 = .ok (.goto (-25), 3) := by decide +kernel
theorem dX3_pairs_32 : decode cX3_pairs 32 = .ok (.iload_n 1, 1) := by decide +kernel
theorem dX3_pairs_33 : decode cX3_pairs 33 = .ok (.ireturn, 1) := by decide +kernel
theorem dX3_aboveOf_0 : decode cX3_aboveOf 0 = .ok (.aload_n 0, 1) := by decide +kernel
theorem dX3_aboveOf_1 : decode cX3_aboveOf 1 = .ok (.getfield 18, 3) := by decide +kernel
theorem dX3_aboveOf_4 : decode cX3_aboveOf 4 = .ok (.iload_n 1, 1) := by decide +kernel
theorem dX3_aboveOf_5 : decode cX3_aboveOf 5 = .ok (.bipush 10, 2) := by decide +kernel
theorem dX3_aboveOf_7 : decode cX3_aboveOf 7 = .ok (.imul, 1) := by decide +kernel
theorem dX3_aboveOf_8 : decode cX3_aboveOf 8 = .ok (.iload_n 2, 1) := by decide +kernel
theorem dX3_aboveOf_9 : decode cX3_aboveOf 9 = .ok (.iadd, 1) := by decide +kernel
theorem dX3_aboveOf_10 : decode cX3_aboveOf 10 = .ok (.iaload, 1) := by decide +kernel
theorem dX3_aboveOf_11 : decode cX3_aboveOf 11 = .ok (.ireturn, 1) := by decide +kernel
theorem dX3_depthOf_0 : decode cX3_depthOf 0 = .ok (.iconst 0, 1) := by decide +kernel
theorem dX3_depthOf_1 : decode cX3_depthOf 1 = .ok (.istore_n 3, 1) := by decide +kernel
theorem dX3_depthOf_2 : decode cX3_depthOf 2 = .ok (.iload_n 2, 1) := by decide +kernel
theorem dX3_depthOf_3 : decode cX3_depthOf 3 = .ok (.istore 4, 2) := by decide +kernel
theorem dX3_depthOf_5 : decode cX3_depthOf 5 = .ok (.iload 4, 2) := by decide +kernel
theorem dX3_depthOf_7 : decode cX3_depthOf 7 = .ok (.iload_n 1, 1) := by decide +kernel
theorem dX3_depthOf_8 : decode cX3_depthOf 8 = .ok (.if_icmp .eq 30, 3) := by decide +kernel
theorem dX3_depthOf_11 : decode cX3_depthOf 11 = .ok (.iload 4, 2) := by decide +kernel
theorem dX3_depthOf_13 : decode cX3_depthOf 13 = .ok (.iconst (-1), 1) := by decide +kernel
theorem dX3_depthOf_14 : decode cX3_depthOf 14 = .ok (.if_icmp .eq 24, 3) := by decide +kernel
theorem dX3_depthOf_17 : decode cX3_depthOf 17 = .ok (.iload_n 3, 1) := by decide +kernel
theorem dX3_depthOf_18 : decode cX3_depthOf 18 = .ok (.bipush 10, 2) := by decide +kernel
theorem dX3_depthOf_20 : decode cX3_depthOf 20 = .ok (.if_icmp .ge 18, 3) := by decide +kernel
theorem dX3_depthOf_23 : decode cX3_depthOf 23 = .ok (.aload_n 0, 1) := by decide +kernel
theorem dX3_depthOf_24 : decode cX3_depthOf 24 = .ok (.iload_n 1, 1) := by decide +kernel
theorem dX3_depthOf_25 : decode cX3_depthOf 25 = .ok (.iload 4, 2) := by decide +kernel
theorem dX3_depthOf_27 : decode cX3_depthOf 27 = .ok (.invokevirtual 62, 3) := by decide +kernel
theorem dX3_depthOf_30 : decode cX3_depthOf 30 = .ok (.istore 4, 2) := by decide +kernel
theorem dX3_depthOf_32 : decode cX3_depthOf 32 = .ok (.iinc 3 1, 3) := by decide +kernel
theorem dX3_depthOf_35 : decode cX3_depthOf 35 = .ok (.goto (-30), 3) := by decide +kernel
theorem dX3_depthOf_38 : decode cX3_depthOf 38 = .ok (.iload_n 3, 1) := by decide +kernel
theorem dX3_depthOf_39 : decode cX3_depthOf 39 = .ok (.ireturn, 1) := by decide +kernel
theorem dX3_climb_0 : decode cX3_climb 0 = .ok (.iload_n 2, 1) := by decide +kernel
theorem dX3_climb_1 : decode cX3_climb 1 = .ok (.istore 4, 2) := by decide +kernel
theorem dX3_climb_3 : decode cX3_climb 3 = .ok (.iconst 0, 1) := by decide +kernel
theorem dX3_climb_4 : decode cX3_climb 4 = .ok (.istore 5, 2) := by decide +kernel
theorem dX3_climb_6 : decode cX3_climb 6 = .ok (.iload 5, 2) := by decide +kernel
theorem dX3_climb_8 : decode cX3_climb 8 = .ok (.iload_n 3, 1) := by decide +kernel
theorem dX3_climb_9 : decode cX3_climb 9 = .ok (.if_icmp .ge 24, 3) := by decide +kernel
theorem dX3_climb_12 : decode cX3_climb 12 = .ok (.iload 4, 2) := by decide +kernel
theorem dX3_climb_14 : decode cX3_climb 14 = .ok (.iconst (-1), 1) := by decide +kernel
theorem dX3_climb_15 : decode cX3_climb 15 = .ok (.if_icmp .eq 18, 3) := by decide +kernel
theorem dX3_climb_18 : decode cX3_climb 18 = .ok (.aload_n 0, 1) := by decide +kernel
theorem dX3_climb_19 : decode cX3_climb 19 = .ok (.iload_n 1, 1) := by decide +kernel
theorem dX3_climb_20 : decode cX3_climb 20 = .ok (.iload 4, 2) := by decide +kernel
theorem dX3_climb_22 : decode cX3_climb 22 = .ok (.invokevirtual 62, 3) := by decide +kernel
theorem dX3_climb_25 : decode cX3_climb 25 = .ok (.istore 4, 2) := by decide +kernel
theorem dX3_climb_27 : decode cX3_climb 27 = .ok (.iinc 5 1, 3) := by decide +kernel
theorem dX3_climb_30 : decode cX3_climb 30 = .ok (.goto (-24), 3) := by decide +kernel
theorem dX3_climb_33 : decode cX3_climb 33 = .ok (.iload 4, 2) := by decide +kernel
theorem dX3_climb_35 : decode cX3_climb 35 = .ok (.ireturn, 1) := by decide +kernel
theorem dX3_putIn_0 : decode cX3_putIn 0 = .ok (.aload_n 0, 1) := by decide +kernel
theorem dX3_putIn_1 : decode cX3_putIn 1 = .ok (.getfield 9, 3) := by decide +kernel
theorem dX3_putIn_4 : decode cX3_putIn 4 = .ok (.iload_n 1, 1) := by decide +kernel
theorem dX3_putIn_5 : decode cX3_putIn 5 = .ok (.dup2, 1) := by decide +kernel
theorem dX3_putIn_6 : decode cX3_putIn 6 = .ok (.iaload, 1) := by decide +kernel
theorem dX3_putIn_7 : decode cX3_putIn 7 = .ok (.iconst 1, 1) := by decide +kernel
theorem dX3_putIn_8 : decode cX3_putIn 8 = .ok (.iload_n 2, 1) := by decide +kernel
theorem dX3_putIn_9 : decode cX3_putIn 9 = .ok (.ishl, 1) := by decide +kernel
theorem dX3_putIn_10 : decode cX3_putIn 10 = .ok (.ior, 1) := by decide +kernel
theorem dX3_putIn_11 : decode cX3_putIn 11 = .ok (.iastore, 1) := by decide +kernel
theorem dX3_putIn_12 : decode cX3_putIn 12 = .ok (.iconst 0, 1) := by decide +kernel
theorem dX3_putIn_13 : decode cX3_putIn 13 = .ok (.istore_n 3, 1) := by decide +kernel
theorem dX3_putIn_14 : decode cX3_putIn 14 = .ok (.iload_n 3, 1) := by decide +kernel
theorem dX3_putIn_15 : decode cX3_putIn 15 = .ok (.aload_n 0, 1) := by decide +kernel
theorem dX3_putIn_16 : decode cX3_putIn 16 = .ok (.getfield 25, 3) := by decide +kernel
theorem dX3_putIn_19 : decode cX3_putIn 19 = .ok (.if_icmp .ge 45, 3) := by decide +kernel
theorem dX3_putIn_22 : decode cX3_putIn 22 = .ok (.aload_n 0, 1) := by decide +kernel
theorem dX3_putIn_23 : decode cX3_putIn 23 = .ok (.iload_n 3, 1) := by decide +kernel
theorem dX3_putIn_24 : decode cX3_putIn 24 = .ok (.iload_n 1, 1) := by decide +kernel
theorem dX3_putIn_25 : decode cX3_putIn 25 = .ok (.invokevirtual 65, 3) := by decide +kernel
theorem dX3_putIn_28 : decode cX3_putIn 28 = .ok (.ifCond .eq 30, 3) := by decide +kernel
theorem dX3_putIn_31 : decode cX3_putIn 31 = .ok (.aload_n 0, 1) := by decide +kernel
theorem dX3_putIn_32 : decode cX3_putIn 32 = .ok (.dup, 1) := by decide +kernel
theorem dX3_putIn_33 : decode cX3_putIn 33 = .ok (.getfield 29, 3) := by decide +kernel
theorem dX3_putIn_36 : decode cX3_putIn 36 = .ok (.iconst 1, 1) := by decide +kernel
theorem dX3_putIn_37 : decode cX3_putIn 37 = .ok (.iadd, 1) := by decide +kernel
theorem dX3_putIn_38 : decode cX3_putIn 38 = .ok (.putfield 29, 3) := by decide +kernel
theorem dX3_putIn_41 : decode cX3_putIn 41 = .ok (.aload_n 0, 1) := by decide +kernel
theorem dX3_putIn_42 : decode cX3_putIn 42 = .ok (.iload_n 3, 1) := by decide +kernel
theorem dX3_putIn_43 : decode cX3_putIn 43 = .ok (.iload_n 2, 1) := by decide +kernel
theorem dX3_putIn_44 : decode cX3_putIn 44 = .ok (.invokevirtual 65, 3) := by decide +kernel
theorem dX3_putIn_47 : decode cX3_putIn 47 = .ok (.ifCond .ne 11, 3) := by decide +kernel
theorem dX3_putIn_50 : decode cX3_putIn 50 = .ok (.aload_n 0, 1) := by decide +kernel
theorem dX3_putIn_51 : decode cX3_putIn 51 = .ok (.iload_n 3, 1) := by decide +kernel
theorem dX3_putIn_52 : decode cX3_putIn 52 = .ok (.iload_n 2, 1) := by decide +kernel
theorem dX3_putIn_53 : decode cX3_putIn 53 = .ok (.iload_n 1, 1) := by decide +kernel
theorem dX3_putIn_54 : decode cX3_putIn 54 = .ok (.iconst 1, 1) := by decide +kernel
theorem dX3_putIn_55 : decode cX3_putIn 55 = .ok (.invokevirtual 68, 3) := by decide +kernel
theorem dX3_putIn_58 : decode cX3_putIn 58 = .ok (.iinc 3 1, 3) := by decide +kernel
theorem dX3_putIn_61 : decode cX3_putIn 61 = .ok (.goto (-47), 3) := by decide +kernel
theorem dX3_putIn_64 : decode cX3_putIn 64 = .ok (.return_, 1) := by decide +kernel
theorem dX3_graft_0 : decode cX3_graft 0 = .ok (.iload 4, 2) := by decide +kernel
theorem dX3_graft_2 : decode cX3_graft 2 = .ok (.bipush 10, 2) := by decide +kernel
theorem dX3_graft_4 : decode cX3_graft 4 = .ok (.if_icmp .le 4, 3) := by decide +kernel
theorem dX3_graft_7 : decode cX3_graft 7 = .ok (.return_, 1) := by decide +kernel
theorem dX3_graft_8 : decode cX3_graft 8 = .ok (.aload_n 0, 1) := by decide +kernel
theorem dX3_graft_9 : decode cX3_graft 9 = .ok (.getfield 15, 3) := by decide +kernel
theorem dX3_graft_12 : decode cX3_graft 12 = .ok (.iload_n 1, 1) := by decide +kernel
theorem dX3_graft_13 : decode cX3_graft 13 = .ok (.dup2, 1) := by decide +kernel
theorem dX3_graft_14 : decode cX3_graft 14 = .ok (.iaload, 1) := by decide +kernel
theorem dX3_graft_15 : decode cX3_graft 15 = .ok (.iconst 1, 1) := by decide +kernel
theorem dX3_graft_16 : decode cX3_graft 16 = .ok (.iload_n 2, 1) := by decide +kernel
theorem dX3_graft_17 : decode cX3_graft 17 = .ok (.ishl, 1) := by decide +kernel
theorem dX3_graft_18 : decode cX3_graft 18 = .ok (.ior, 1) := by decide +kernel
theorem dX3_graft_19 : decode cX3_graft 19 = .ok (.iastore, 1) := by decide +kernel
theorem dX3_graft_20 : decode cX3_graft 20 = .ok (.aload_n 0, 1) := by decide +kernel
theorem dX3_graft_21 : decode cX3_graft 21 = .ok (.getfield 18, 3) := by decide +kernel
theorem dX3_graft_24 : decode cX3_graft 24 = .ok (.iload_n 1, 1) := by decide +kernel
theorem dX3_graft_25 : decode cX3_graft 25 = .ok (.bipush 10, 2) := by decide +kernel
theorem dX3_graft_27 : decode cX3_graft 27 = .ok (.imul, 1) := by decide +kernel
theorem dX3_graft_28 : decode cX3_graft 28 = .ok (.iload_n 2, 1) := by decide +kernel
theorem dX3_graft_29 : decode cX3_graft 29 = .ok (.iadd, 1) := by decide +kernel
theorem dX3_graft_30 : decode cX3_graft 30 = .ok (.iload_n 3, 1) := by decide +kernel
theorem dX3_graft_31 : decode cX3_graft 31 = .ok (.iastore, 1) := by decide +kernel
theorem dX3_graft_32 : decode cX3_graft 32 = .ok (.aload_n 0, 1) := by decide +kernel
theorem dX3_graft_33 : decode cX3_graft 33 = .ok (.iload_n 1, 1) := by decide +kernel
theorem dX3_graft_34 : decode cX3_graft 34 = .ok (.iload_n 2, 1) := by decide +kernel
theorem dX3_graft_35 : decode cX3_graft 35 = .ok (.iload 4, 2) := by decide +kernel
theorem dX3_graft_37 : decode cX3_graft 37 = .ok (.invokevirtual 72, 3) := by decide +kernel
theorem dX3_graft_40 : decode cX3_graft 40 = .ok (.return_, 1) := by decide +kernel
theorem dX3_followArcs_0 : decode cX3_followArcs 0 = .ok (.iconst 0, 1) := by decide +kernel
theorem dX3_followArcs_1 : decode cX3_followArcs 1 = .ok (.istore 4, 2) := by decide +kernel
theorem dX3_followArcs_3 : decode cX3_followArcs 3 = .ok (.iload 4, 2) := by decide +kernel
theorem dX3_followArcs_5 : decode cX3_followArcs 5 = .ok (.aload_n 0, 1) := by decide +kernel
theorem dX3_followArcs_6 : decode cX3_followArcs 6 = .ok (.getfield 25, 3) := by decide +kernel
theorem dX3_followArcs_9 : decode cX3_followArcs 9 = .ok (.if_icmp .ge 50, 3) := by decide +kernel
theorem dX3_followArcs_12 : decode cX3_followArcs 12 = .ok (.aload_n 0, 1) := by decide +kernel
theorem dX3_followArcs_13 : decode cX3_followArcs 13 = .ok (.iload_n 2, 1) := by decide +kernel
theorem dX3_followArcs_14 : decode cX3_followArcs 14 = .ok (.iload 4, 2) := by decide +kernel
theorem dX3_followArcs_16 : decode cX3_followArcs 16 = .ok (.invokevirtual 76, 3) := by decide +kernel
theorem dX3_followArcs_19 : decode cX3_followArcs 19 = .ok (.ifCond .eq 34, 3) := by decide +kernel
theorem dX3_followArcs_22 : decode cX3_followArcs 22 = .ok (.aload_n 0, 1) := by decide +kernel
theorem dX3_followArcs_23 : decode cX3_followArcs 23 = .ok (.dup, 1) := by decide +kernel
theorem dX3_followArcs_24 : decode cX3_followArcs 24 = .ok (.getfield 29, 3) := by decide +kernel
theorem dX3_followArcs_27 : decode cX3_followArcs 27 = .ok (.iconst 1, 1) := by decide +kernel
theorem dX3_followArcs_28 : decode cX3_followArcs 28 = .ok (.iadd, 1) := by decide +kernel
theorem dX3_followArcs_29 : decode cX3_followArcs 29 = .ok (.putfield 29, 3) := by decide +kernel
theorem dX3_followArcs_32 : decode cX3_followArcs 32 = .ok (.aload_n 0, 1) := by decide +kernel
theorem dX3_followArcs_33 : decode cX3_followArcs 33 = .ok (.iload_n 1, 1) := by decide +kernel
theorem dX3_followArcs_34 : decode cX3_followArcs 34 = .ok (.iload 4, 2) := by decide +kernel
theorem dX3_followArcs_36 : decode cX3_followArcs 36 = .ok (.invokevirtual 65, 3) := by decide +kernel
theorem dX3_followArcs_39 : decode cX3_followArcs 39 = .ok (.ifCond .ne 14, 3) := by decide +kernel
theorem dX3_followArcs_42 : decode cX3_followArcs 42 = .ok (.aload_n 0, 1) := by decide +kernel
theorem dX3_followArcs_43 : decode cX3_followArcs 43 = .ok (.iload_n 1, 1) := by decide +kernel
theorem dX3_followArcs_44 : decode cX3_followArcs 44 = .ok (.iload 4, 2) := by decide +kernel
theorem dX3_followArcs_46 : decode cX3_followArcs 46 = .ok (.iload_n 2, 1) := by decide +kernel
theorem dX3_followArcs_47 : decode cX3_followArcs 47 = .ok (.iload_n 3, 1) := by decide +kernel
theorem dX3_followArcs_48 : decode cX3_followArcs 48 = .ok (.iconst 1, 1) := by decide +kernel
theorem dX3_followArcs_49 : decode cX3_followArcs 49 = .ok (.iadd, 1) := by decide +kernel
theorem dX3_followArcs_50 : decode cX3_followArcs 50 = .ok (.invokevirtual 68, 3) := by decide +kernel
theorem dX3_followArcs_53 : decode cX3_followArcs 53 = .ok (.iinc 4 1, 3) := by decide +kernel
theorem dX3_followArcs_56 : decode cX3_followArcs 56 = .ok (.goto (-53), 3) := by decide +kernel
theorem dX3_followArcs_59 : decode cX3_followArcs 59 = .ok (.return_, 1) := by decide +kernel
theorem dX3_takeOut_0 : decode cX3_takeOut 0 = .ok (.iconst 0, 1) := by decide +kernel
theorem dX3_takeOut_1 : decode cX3_takeOut 1 = .ok (.istore_n 3, 1) := by decide +kernel
theorem dX3_takeOut_2 : decode cX3_takeOut 2 = .ok (.iload_n 3, 1) := by decide +kernel
theorem dX3_takeOut_3 : decode cX3_takeOut 3 = .ok (.aload_n 0, 1) := by decide +kernel
theorem dX3_takeOut_4 : decode cX3_takeOut 4 = .ok (.getfield 25, 3) := by decide +kernel
theorem dX3_takeOut_7 : decode cX3_takeOut 7 = .ok (.if_icmp .ge 29, 3) := by decide +kernel
theorem dX3_takeOut_10 : decode cX3_takeOut 10 = .ok (.iload_n 1, 1) := by decide +kernel
theorem dX3_takeOut_11 : decode cX3_takeOut 11 = .ok (.iload_n 3, 1) := by decide +kernel
theorem dX3_takeOut_12 : decode cX3_takeOut 12 = .ok (.invokestatic 44, 3) := by decide +kernel
theorem dX3_takeOut_15 : decode cX3_takeOut 15 = .ok (.ifCond .eq 15, 3) := by decide +kernel
theorem dX3_takeOut_18 : decode cX3_takeOut 18 = .ok (.aload_n 0, 1) := by decide +kernel
theorem dX3_takeOut_19 : decode cX3_takeOut 19 = .ok (.getfield 9, 3) := by decide +kernel
theorem dX3_takeOut_22 : decode cX3_takeOut 22 = .ok (.iload_n 3, 1) := by decide +kernel
theorem dX3_takeOut_23 : decode cX3_takeOut 23 = .ok (.dup2, 1) := by decide +kernel
theorem dX3_takeOut_24 : decode cX3_takeOut 24 = .ok (.iaload, 1) := by decide +kernel
theorem dX3_takeOut_25 : decode cX3_takeOut 25 = .ok (.iload_n 2, 1) := by decide +kernel
theorem dX3_takeOut_26 : decode cX3_takeOut 26 = .ok (.iconst (-1), 1) := by decide +kernel
theorem dX3_takeOut_27 : decode cX3_takeOut 27 = .ok (.ixor, 1) := by decide +kernel
theorem dX3_takeOut_28 : decode cX3_takeOut 28 = .ok (.iand, 1) := by decide +kernel
theorem dX3_takeOut_29 : decode cX3_takeOut 29 = .ok (.iastore, 1) := by decide +kernel
theorem dX3_takeOut_30 : decode cX3_takeOut 30 = .ok (.iinc 3 1, 3) := by decide +kernel
theorem dX3_takeOut_33 : decode cX3_takeOut 33 = .ok (.goto (-31), 3) := by decide +kernel
theorem dX3_takeOut_36 : decode cX3_takeOut 36 = .ok (.iconst 0, 1) := by decide +kernel
theorem dX3_takeOut_37 : decode cX3_takeOut 37 = .ok (.istore_n 3, 1) := by decide +kernel
theorem dX3_takeOut_38 : decode cX3_takeOut 38 = .ok (.iload_n 3, 1) := by decide +kernel
theorem dX3_takeOut_39 : decode cX3_takeOut 39 = .ok (.aload_n 0, 1) := by decide +kernel
theorem dX3_takeOut_40 : decode cX3_takeOut 40 = .ok (.getfield 25, 3) := by decide +kernel
theorem dX3_takeOut_43 : decode cX3_takeOut 43 = .ok (.if_icmp .ge 24, 3) := by decide +kernel
theorem dX3_takeOut_46 : decode cX3_takeOut 46 = .ok (.aload_n 0, 1) := by decide +kernel
theorem dX3_takeOut_47 : decode cX3_takeOut 47 = .ok (.iload_n 3, 1) := by decide +kernel
theorem dX3_takeOut_48 : decode cX3_takeOut 48 = .ok (.iload_n 1, 1) := by decide +kernel
theorem dX3_takeOut_49 : decode cX3_takeOut 49 = .ok (.iload_n 2, 1) := by decide +kernel
theorem dX3_takeOut_50 : decode cX3_takeOut 50 = .ok (.invokevirtual 79, 3) := by decide +kernel
theorem dX3_takeOut_53 : decode cX3_takeOut 53 = .ok (.ifCond .eq 8, 3) := by decide +kernel
theorem dX3_takeOut_56 : decode cX3_takeOut 56 = .ok (.aload_n 0, 1) := by decide +kernel
theorem dX3_takeOut_57 : decode cX3_takeOut 57 = .ok (.iload_n 3, 1) := by decide +kernel
theorem dX3_takeOut_58 : decode cX3_takeOut 58 = .ok (.invokevirtual 83, 3) := by decide +kernel
theorem dX3_takeOut_61 : decode cX3_takeOut 61 = .ok (.iinc 3 1, 3) := by decide +kernel
theorem dX3_takeOut_64 : decode cX3_takeOut 64 = .ok (.goto (-26), 3) := by decide +kernel
theorem dX3_takeOut_67 : decode cX3_takeOut 67 = .ok (.return_, 1) := by decide +kernel
theorem dX3_stoodOn_0 : decode cX3_stoodOn 0 = .ok (.iconst 0, 1) := by decide +kernel
theorem dX3_stoodOn_1 : decode cX3_stoodOn 1 = .ok (.istore 4, 2) := by decide +kernel
theorem dX3_stoodOn_3 : decode cX3_stoodOn 3 = .ok (.iload 4, 2) := by decide +kernel
theorem dX3_stoodOn_5 : decode cX3_stoodOn 5 = .ok (.aload_n 0, 1) := by decide +kernel
theorem dX3_stoodOn_6 : decode cX3_stoodOn 6 = .ok (.getfield 25, 3) := by decide +kernel
theorem dX3_stoodOn_9 : decode cX3_stoodOn 9 = .ok (.if_icmp .ge 44, 3) := by decide +kernel
theorem dX3_stoodOn_12 : decode cX3_stoodOn 12 = .ok (.aload_n 0, 1) := by decide +kernel
theorem dX3_stoodOn_13 : decode cX3_stoodOn 13 = .ok (.iload_n 1, 1) := by decide +kernel
theorem dX3_stoodOn_14 : decode cX3_stoodOn 14 = .ok (.iload 4, 2) := by decide +kernel
theorem dX3_stoodOn_16 : decode cX3_stoodOn 16 = .ok (.invokevirtual 62, 3) := by decide +kernel
theorem dX3_stoodOn_19 : decode cX3_stoodOn 19 = .ok (.istore 5, 2) := by decide +kernel
theorem dX3_stoodOn_21 : decode cX3_stoodOn 21 = .ok (.iload 5, 2) := by decide +kernel
theorem dX3_stoodOn_23 : decode cX3_stoodOn 23 = .ok (.iconst (-1), 1) := by decide +kernel
theorem dX3_stoodOn_24 : decode cX3_stoodOn 24 = .ok (.if_icmp .eq 23, 3) := by decide +kernel
theorem dX3_stoodOn_27 : decode cX3_stoodOn 27 = .ok (.iload_n 2, 1) := by decide +kernel
theorem dX3_stoodOn_28 : decode cX3_stoodOn 28 = .ok (.iload 5, 2) := by decide +kernel
theorem dX3_stoodOn_30 : decode cX3_stoodOn 30 = .ok (.invokestatic 44, 3) := by decide +kernel
theorem dX3_stoodOn_33 : decode cX3_stoodOn 33 = .ok (.ifCond .eq 14, 3) := by decide +kernel
theorem dX3_stoodOn_36 : decode cX3_stoodOn 36 = .ok (.iload_n 3, 1) := by decide +kernel
theorem dX3_stoodOn_37 : decode cX3_stoodOn 37 = .ok (.iload 4, 2) := by decide +kernel
theorem dX3_stoodOn_39 : decode cX3_stoodOn 39 = .ok (.invokestatic 44, 3) := by decide +kernel
theorem dX3_stoodOn_42 : decode cX3_stoodOn 42 = .ok (.ifCond .eq 5, 3) := by decide +kernel
theorem dX3_stoodOn_45 : decode cX3_stoodOn 45 = .ok (.iconst 1, 1) := by decide +kernel
theorem dX3_stoodOn_46 : decode cX3_stoodOn 46 = .ok (.ireturn, 1) := by decide +kernel
theorem dX3_stoodOn_47 : decode cX3_stoodOn 47 = .ok (.iinc 4 1, 3) := by decide +kernel
theorem dX3_stoodOn_50 : decode cX3_stoodOn 50 = .ok (.goto (-47), 3) := by decide +kernel
theorem dX3_stoodOn_53 : decode cX3_stoodOn 53 = .ok (.iconst 0, 1) := by decide +kernel
theorem dX3_stoodOn_54 : decode cX3_stoodOn 54 = .ok (.ireturn, 1) := by decide +kernel
theorem dX3_makeAnew_0 : decode cX3_makeAnew 0 = .ok (.aload_n 0, 1) := by decide +kernel
theorem dX3_makeAnew_1 : decode cX3_makeAnew 1 = .ok (.getfield 15, 3) := by decide +kernel
theorem dX3_makeAnew_4 : decode cX3_makeAnew 4 = .ok (.iload_n 1, 1) := by decide +kernel
theorem dX3_makeAnew_5 : decode cX3_makeAnew 5 = .ok (.iconst 1, 1) := by decide +kernel
theorem dX3_makeAnew_6 : decode cX3_makeAnew 6 = .ok (.iload_n 1, 1) := by decide +kernel
theorem dX3_makeAnew_7 : decode cX3_makeAnew 7 = .ok (.ishl, 1) := by decide +kernel
theorem dX3_makeAnew_8 : decode cX3_makeAnew 8 = .ok (.iastore, 1) := by decide +kernel
theorem dX3_makeAnew_9 : decode cX3_makeAnew 9 = .ok (.iconst 0, 1) := by decide +kernel
theorem dX3_makeAnew_10 : decode cX3_makeAnew 10 = .ok (.istore_n 2, 1) := by decide +kernel
theorem dX3_makeAnew_11 : decode cX3_makeAnew 11 = .ok (.iload_n 2, 1) := by decide +kernel
theorem dX3_makeAnew_12 : decode cX3_makeAnew 12 = .ok (.aload_n 0, 1) := by decide +kernel
theorem dX3_makeAnew_13 : decode cX3_makeAnew 13 = .ok (.getfield 25, 3) := by decide +kernel
theorem dX3_makeAnew_16 : decode cX3_makeAnew 16 = .ok (.if_icmp .ge 21, 3) := by decide +kernel
theorem dX3_makeAnew_19 : decode cX3_makeAnew 19 = .ok (.aload_n 0, 1) := by decide +kernel
theorem dX3_makeAnew_20 : decode cX3_makeAnew 20 = .ok (.getfield 18, 3) := by decide +kernel
theorem dX3_makeAnew_23 : decode cX3_makeAnew 23 = .ok (.iload_n 1, 1) := by decide +kernel
theorem dX3_makeAnew_24 : decode cX3_makeAnew 24 = .ok (.bipush 10, 2) := by decide +kernel
theorem dX3_makeAnew_26 : decode cX3_makeAnew 26 = .ok (.imul, 1) := by decide +kernel
theorem dX3_makeAnew_27 : decode cX3_makeAnew 27 = .ok (.iload_n 2, 1) := by decide +kernel
theorem dX3_makeAnew_28 : decode cX3_makeAnew 28 = .ok (.iadd, 1) := by decide +kernel
theorem dX3_makeAnew_29 : decode cX3_makeAnew 29 = .ok (.iconst (-1), 1) := by decide +kernel
theorem dX3_makeAnew_30 : decode cX3_makeAnew 30 = .ok (.iastore, 1) := by decide +kernel
theorem dX3_makeAnew_31 : decode cX3_makeAnew 31 = .ok (.iinc 2 1, 3) := by decide +kernel
theorem dX3_makeAnew_34 : decode cX3_makeAnew 34 = .ok (.goto (-23), 3) := by decide +kernel
theorem dX3_makeAnew_37 : decode cX3_makeAnew 37 = .ok (.aload_n 0, 1) := by decide +kernel
theorem dX3_makeAnew_38 : decode cX3_makeAnew 38 = .ok (.iload_n 1, 1) := by decide +kernel
theorem dX3_makeAnew_39 : decode cX3_makeAnew 39 = .ok (.iload_n 1, 1) := by decide +kernel
theorem dX3_makeAnew_40 : decode cX3_makeAnew 40 = .ok (.iconst 0, 1) := by decide +kernel
theorem dX3_makeAnew_41 : decode cX3_makeAnew 41 = .ok (.invokevirtual 72, 3) := by decide +kernel
theorem dX3_makeAnew_44 : decode cX3_makeAnew 44 = .ok (.return_, 1) := by decide +kernel
theorem dX3_comersTo_0 : decode cX3_comersTo 0 = .ok (.iconst 0, 1) := by decide +kernel
theorem dX3_comersTo_1 : decode cX3_comersTo 1 = .ok (.istore_n 2, 1) := by decide +kernel
theorem dX3_comersTo_2 : decode cX3_comersTo 2 = .ok (.iconst 0, 1) := by decide +kernel
theorem dX3_comersTo_3 : decode cX3_comersTo 3 = .ok (.istore_n 3, 1) := by decide +kernel
theorem dX3_comersTo_4 : decode cX3_comersTo 4 = .ok (.iload_n 3, 1) := by decide +kernel
theorem dX3_comersTo_5 : decode cX3_comersTo 5 = .ok (.aload_n 0, 1) := by decide +kernel
theorem dX3_comersTo_6 : decode cX3_comersTo 6 = .ok (.getfield 25, 3) := by decide +kernel
theorem dX3_comersTo_9 : decode cX3_comersTo 9 = .ok (.if_icmp .ge 24, 3) := by decide +kernel
theorem dX3_comersTo_12 : decode cX3_comersTo 12 = .ok (.aload_n 0, 1) := by decide +kernel
theorem dX3_comersTo_13 : decode cX3_comersTo 13 = .ok (.iload_n 3, 1) := by decide +kernel
theorem dX3_comersTo_14 : decode cX3_comersTo 14 = .ok (.iload_n 1, 1) := by decide +kernel
theorem dX3_comersTo_15 : decode cX3_comersTo 15 = .ok (.invokevirtual 65, 3) := by decide +kernel
theorem dX3_comersTo_18 : decode cX3_comersTo 18 = .ok (.ifCond .eq 9, 3) := by decide +kernel
theorem dX3_comersTo_21 : decode cX3_comersTo 21 = .ok (.iload_n 2, 1) := by decide +kernel
theorem dX3_comersTo_22 : decode cX3_comersTo 22 = .ok (.iconst 1, 1) := by decide +kernel
theorem dX3_comersTo_23 : decode cX3_comersTo 23 = .ok (.iload_n 3, 1) := by decide +kernel
theorem dX3_comersTo_24 : decode cX3_comersTo 24 = .ok (.ishl, 1) := by decide +kernel
theorem dX3_comersTo_25 : decode cX3_comersTo 25 = .ok (.ior, 1) := by decide +kernel
theorem dX3_comersTo_26 : decode cX3_comersTo 26 = .ok (.istore_n 2, 1) := by decide +kernel
theorem dX3_comersTo_27 : decode cX3_comersTo 27 = .ok (.iinc 3 1, 3) := by decide +kernel
theorem dX3_comersTo_30 : decode cX3_comersTo 30 = .ok (.goto (-26), 3) := by decide +kernel
theorem dX3_comersTo_33 : decode cX3_comersTo 33 = .ok (.iload_n 2, 1) := by decide +kernel
theorem dX3_comersTo_34 : decode cX3_comersTo 34 = .ok (.ireturn, 1) := by decide +kernel
theorem dX3_ringOf_0 : decode cX3_ringOf 0 = .ok (.aload_n 0, 1) := by decide +kernel
theorem dX3_ringOf_1 : decode cX3_ringOf 1 = .ok (.getfield 15, 3) := by decide +kernel
theorem dX3_ringOf_4 : decode cX3_ringOf 4 = .ok (.iload_n 1, 1) := by decide +kernel
theorem dX3_ringOf_5 : decode cX3_ringOf 5 = .ok (.iaload, 1) := by decide +kernel
theorem dX3_ringOf_6 : decode cX3_ringOf 6 = .ok (.aload_n 0, 1) := by decide +kernel
theorem dX3_ringOf_7 : decode cX3_ringOf 7 = .ok (.iload_n 1, 1) := by decide +kernel
theorem dX3_ringOf_8 : decode cX3_ringOf 8 = .ok (.invokevirtual 86, 3) := by decide +kernel
theorem dX3_ringOf_11 : decode cX3_ringOf 11 = .ok (.iand, 1) := by decide +kernel
theorem dX3_ringOf_12 : decode cX3_ringOf 12 = .ok (.ireturn, 1) := by decide +kernel
theorem dX3_rings_0 : decode cX3_rings 0 = .ok (.iconst 0, 1) := by decide +kernel
theorem dX3_rings_1 : decode cX3_rings 1 = .ok (.istore_n 1, 1) := by decide +kernel
theorem dX3_rings_2 : decode cX3_rings 2 = .ok (.iconst 0, 1) := by decide +kernel
theorem dX3_rings_3 : decode cX3_rings 3 = .ok (.istore_n 2, 1) := by decide +kernel
theorem dX3_rings_4 : decode cX3_rings 4 = .ok (.iload_n 2, 1) := by decide +kernel
theorem dX3_rings_5 : decode cX3_rings 5 = .ok (.aload_n 0, 1) := by decide +kernel
theorem dX3_rings_6 : decode cX3_rings 6 = .ok (.getfield 25, 3) := by decide +kernel
theorem dX3_rings_9 : decode cX3_rings 9 = .ok (.if_icmp .ge 24, 3) := by decide +kernel
theorem dX3_rings_12 : decode cX3_rings 12 = .ok (.aload_n 0, 1) := by decide +kernel
theorem dX3_rings_13 : decode cX3_rings 13 = .ok (.iload_n 2, 1) := by decide +kernel
theorem dX3_rings_14 : decode cX3_rings 14 = .ok (.invokevirtual 89, 3) := by decide +kernel
theorem dX3_rings_17 : decode cX3_rings 17 = .ok (.invokestatic 92, 3) := by decide +kernel
theorem dX3_rings_20 : decode cX3_rings 20 = .ok (.iload_n 2, 1) := by decide +kernel
theorem dX3_rings_21 : decode cX3_rings 21 = .ok (.if_icmp .ne 6, 3) := by decide +kernel
theorem dX3_rings_24 : decode cX3_rings 24 = .ok (.iinc 1 1, 3) := by decide +kernel
theorem dX3_rings_27 : decode cX3_rings 27 = .ok (.iinc 2 1, 3) := by decide +kernel
theorem dX3_rings_30 : decode cX3_rings 30 = .ok (.goto (-26), 3) := by decide +kernel
theorem dX3_rings_33 : decode cX3_rings 33 = .ok (.iload_n 1, 1) := by decide +kernel
theorem dX3_rings_34 : decode cX3_rings 34 = .ok (.ireturn, 1) := by decide +kernel
theorem dX3_isNeedless_0 : decode cX3_isNeedless 0 = .ok (.aload_n 0, 1) := by decide +kernel
theorem dX3_isNeedless_1 : decode cX3_isNeedless 1 = .ok (.iload_n 1, 1) := by decide +kernel
theorem dX3_isNeedless_2 : decode cX3_isNeedless 2 = .ok (.iload_n 1, 1) := by decide +kernel
theorem dX3_isNeedless_3 : decode cX3_isNeedless 3 = .ok (.iload_n 2, 1) := by decide +kernel
theorem dX3_isNeedless_4 : decode cX3_isNeedless 4 = .ok (.invokevirtual 95, 3) := by decide +kernel
theorem dX3_isNeedless_7 : decode cX3_isNeedless 7 = .ok (.iload_n 2, 1) := by decide +kernel
theorem dX3_isNeedless_8 : decode cX3_isNeedless 8 = .ok (.invokestatic 44, 3) := by decide +kernel
theorem dX3_isNeedless_11 : decode cX3_isNeedless 11 = .ok (.ireturn, 1) := by decide +kernel
theorem dX3_needlessArcs_0 : decode cX3_needlessArcs 0 = .ok (.iconst 0, 1) := by decide +kernel
theorem dX3_needlessArcs_1 : decode cX3_needlessArcs 1 = .ok (.istore_n 1, 1) := by decide +kernel
theorem dX3_needlessArcs_2 : decode cX3_needlessArcs 2 = .ok (.iconst 0, 1) := by decide +kernel
theorem dX3_needlessArcs_3 : decode cX3_needlessArcs 3 = .ok (.istore_n 2, 1) := by decide +kernel
theorem dX3_needlessArcs_4 : decode cX3_needlessArcs 4 = .ok (.iload_n 2, 1) := by decide +kernel
theorem dX3_needlessArcs_5 : decode cX3_needlessArcs 5 = .ok (.aload_n 0, 1) := by decide +kernel
theorem dX3_needlessArcs_6 : decode cX3_needlessArcs 6 = .ok (.getfield 25, 3) := by decide +kernel
theorem dX3_needlessArcs_9 : decode cX3_needlessArcs 9 = .ok (.if_icmp .ge 46, 3) := by decide +kernel
theorem dX3_needlessArcs_12 : decode cX3_needlessArcs 12 = .ok (.iconst 0, 1) := by decide +kernel
theorem dX3_needlessArcs_13 : decode cX3_needlessArcs 13 = .ok (.istore_n 3, 1) := by decide +kernel
theorem dX3_needlessArcs_14 : decode cX3_needlessArcs 14 = .ok (.iload_n 3, 1) := by decide +kernel
theorem dX3_needlessArcs_15 : decode cX3_needlessArcs 15 = .ok (.aload_n 0, 1) := by decide +kernel
theorem dX3_needlessArcs_16 : decode cX3_needlessArcs 16 = .ok (.getfield 25, 3) := by decide +kernel
theorem dX3_needlessArcs_19 : decode cX3_needlessArcs 19 = .ok (.if_icmp .ge 30, 3) := by decide +kernel
theorem dX3_needlessArcs_22 : decode cX3_needlessArcs 22 = .ok (.aload_n 0, 1) := by decide +kernel
theorem dX3_needlessArcs_23 : decode cX3_needlessArcs 23 = .ok (.iload_n 2, 1) := by decide +kernel
theorem dX3_needlessArcs_24 : decode cX3_needlessArcs 24 = .ok (.iload_n 3, 1) := by decide +kernel
theorem dX3_needlessArcs_25 : decode cX3_needlessArcs 25 = .ok (.invokevirtual 76, 3) := by decide +kernel
theorem dX3_needlessArcs_28 : decode cX3_needlessArcs 28 = .ok (.ifCond .eq 15, 3) := by decide +kernel
theorem dX3_needlessArcs_31 : decode cX3_needlessArcs 31 = .ok (.aload_n 0, 1) := by decide +kernel
theorem dX3_needlessArcs_32 : decode cX3_needlessArcs 32 = .ok (.iload_n 2, 1) := by decide +kernel
theorem dX3_needlessArcs_33 : decode cX3_needlessArcs 33 = .ok (.iload_n 3, 1) := by decide +kernel
theorem dX3_needlessArcs_34 : decode cX3_needlessArcs 34 = .ok (.invokevirtual 99, 3) := by decide +kernel
theorem dX3_needlessArcs_37 : decode cX3_needlessArcs 37 = .ok (.ifCond .eq 6, 3) := by decide +kernel
theorem dX3_needlessArcs_40 : decode cX3_needlessArcs 40 = .ok (.iinc 1 1, 3) := by decide +kernel
theorem dX3_needlessArcs_43 : decode cX3_needlessArcs 43 = .ok (.iinc 3 1, 3) := by decide +kernel
theorem dX3_needlessArcs_46 : decode cX3_needlessArcs 46 = .ok (.goto (-32), 3) := by decide +kernel
theorem dX3_needlessArcs_49 : decode cX3_needlessArcs 49 = .ok (.iinc 2 1, 3) := by decide +kernel
theorem dX3_needlessArcs_52 : decode cX3_needlessArcs 52 = .ok (.goto (-48), 3) := by decide +kernel
theorem dX3_needlessArcs_55 : decode cX3_needlessArcs 55 = .ok (.iload_n 1, 1) := by decide +kernel
theorem dX3_needlessArcs_56 : decode cX3_needlessArcs 56 = .ok (.ireturn, 1) := by decide +kernel
theorem dX3_membersWithout_0 : decode cX3_membersWithout 0 = .ok (.iconst 1, 1) := by decide +kernel
theorem dX3_membersWithout_1 : decode cX3_membersWithout 1 = .ok (.iload_n 1, 1) := by decide +kernel
theorem dX3_membersWithout_2 : decode cX3_membersWithout 2 = .ok (.ishl, 1) := by decide +kernel
theorem dX3_membersWithout_3 : decode cX3_membersWithout 3 = .ok (.istore 4, 2) := by decide +kernel
theorem dX3_membersWithout_5 : decode cX3_membersWithout 5 = .ok (.iload 4, 2) := by decide +kernel
theorem dX3_membersWithout_7 : decode cX3_membersWithout 7 = .ok (.istore 5, 2) := by decide +kernel
theorem dX3_membersWithout_9 : decode cX3_membersWithout 9 = .ok (.iconst 0, 1) := by decide +kernel
theorem dX3_membersWithout_10 : decode cX3_membersWithout 10 = .ok (.istore 6, 2) := by decide +kernel
theorem dX3_membersWithout_12 : decode cX3_membersWithout 12 = .ok (.iload 6, 2) := by decide +kernel
theorem dX3_membersWithout_14 : decode cX3_membersWithout 14 = .ok (.bipush 10, 2) := by decide +kernel
theorem dX3_membersWithout_16 : decode cX3_membersWithout 16 = .ok (.if_icmp .ge 78, 3) := by decide +kernel
theorem dX3_membersWithout_19 : decode cX3_membersWithout 19 = .ok (.iload 5, 2) := by decide +kernel
theorem dX3_membersWithout_21 : decode cX3_membersWithout 21 = .ok (.ifCond .eq 73, 3) := by decide +kernel
theorem dX3_membersWithout_24 : decode cX3_membersWithout 24 = .ok (.iload 5, 2) := by decide +kernel
theorem dX3_membersWithout_26 : decode cX3_membersWithout 26 = .ok (.invokestatic 92, 3) := by decide +kernel
theorem dX3_membersWithout_29 : decode cX3_membersWithout 29 = .ok (.istore 7, 2) := by decide +kernel
theorem dX3_membersWithout_31 : decode cX3_membersWithout 31 = .ok (.iload 7, 2) := by decide +kernel
theorem dX3_membersWithout_33 : decode cX3_membersWithout 33 = .ok (.iload_n 2, 1) := by decide +kernel
theorem dX3_membersWithout_34 : decode cX3_membersWithout 34 = .ok (.if_icmp .ne 19, 3) := by decide +kernel
theorem dX3_membersWithout_37 : decode cX3_membersWithout 37 = .ok (.aload_n 0, 1) := by decide +kernel
theorem dX3_membersWithout_38 : decode cX3_membersWithout 38 = .ok (.getfield 9, 3) := by decide +kernel
theorem dX3_membersWithout_41 : decode cX3_membersWithout 41 = .ok (.iload 7, 2) := by decide +kernel
theorem dX3_membersWithout_43 : decode cX3_membersWithout 43 = .ok (.iaload, 1) := by decide +kernel
theorem dX3_membersWithout_44 : decode cX3_membersWithout 44 = .ok (.iconst 1, 1) := by decide +kernel
theorem dX3_membersWithout_45 : decode cX3_membersWithout 45 = .ok (.iload_n 3, 1) := by decide +kernel
theorem dX3_membersWithout_46 : decode cX3_membersWithout 46 = .ok (.ishl, 1) := by decide +kernel
theorem dX3_membersWithout_47 : decode cX3_membersWithout 47 = .ok (.iconst (-1), 1) := by decide +kernel
theorem dX3_membersWithout_48 : decode cX3_membersWithout 48 = .ok (.ixor, 1) := by decide +kernel
theorem dX3_membersWithout_49 : decode cX3_membersWithout 49 = .ok (.iand, 1) := by decide +kernel
theorem dX3_membersWithout_50 : decode cX3_membersWithout 50 = .ok (.goto 10, 3) := by decide +kernel
theorem dX3_membersWithout_53 : decode cX3_membersWithout 53 = .ok (.aload_n 0, 1) := by decide +kernel
theorem dX3_membersWithout_54 : decode cX3_membersWithout 54 = .ok (.getfield 9, 3) := by decide +kernel
theorem dX3_membersWithout_57 : decode cX3_membersWithout 57 = .ok (.iload 7, 2) := by decide +kernel
theorem dX3_membersWithout_59 : decode cX3_membersWithout 59 = .ok (.iaload, 1) := by decide +kernel
theorem dX3_membersWithout_60 : decode cX3_membersWithout 60 = .ok (.istore 8, 2) := by decide +kernel
theorem dX3_membersWithout_62 : decode cX3_membersWithout 62 = .ok (.iload 5, 2) := by decide +kernel
theorem dX3_membersWithout_64 : decode cX3_membersWithout 64 = .ok (.iconst 1, 1) := by decide +kernel
theorem dX3_membersWithout_65 : decode cX3_membersWithout 65 = .ok (.iload 7, 2) := by decide +kernel
theorem dX3_membersWithout_67 : decode cX3_membersWithout 67 = .ok (.ishl, 1) := by decide +kernel
theorem dX3_membersWithout_68 : decode cX3_membersWithout 68 = .ok (.iconst (-1), 1) := by decide +kernel
theorem dX3_membersWithout_69 : decode cX3_membersWithout 69 = .ok (.ixor, 1) := by decide +kernel
theorem dX3_membersWithout_70 : decode cX3_membersWithout 70 = .ok (.iand, 1) := by decide +kernel
theorem dX3_membersWithout_71 : decode cX3_membersWithout 71 = .ok (.iload 8, 2) := by decide +kernel
theorem dX3_membersWithout_73 : decode cX3_membersWithout 73 = .ok (.iload 4, 2) := by decide +kernel
theorem dX3_membersWithout_75 : decode cX3_membersWithout 75 = .ok (.iconst (-1), 1) := by decide +kernel
theorem dX3_membersWithout_76 : decode cX3_membersWithout 76 = .ok (.ixor, 1) := by decide +kernel
theorem dX3_membersWithout_77 : decode cX3_membersWithout 77 = .ok (.iand, 1) := by decide +kernel
theorem dX3_membersWithout_78 : decode cX3_membersWithout 78 = .ok (.ior, 1) := by decide +kernel
theorem dX3_membersWithout_79 : decode cX3_membersWithout 79 = .ok (.istore 5, 2) := by decide +kernel
theorem dX3_membersWithout_81 : decode cX3_membersWithout 81 = .ok (.iload 4, 2) := by decide +kernel
theorem dX3_membersWithout_83 : decode cX3_membersWithout 83 = .ok (.iload 8, 2) := by decide +kernel
theorem dX3_membersWithout_85 : decode cX3_membersWithout 85 = .ok (.ior, 1) := by decide +kernel
theorem dX3_membersWithout_86 : decode cX3_membersWithout 86 = .ok (.istore 4, 2) := by decide +kernel
theorem dX3_membersWithout_88 : decode cX3_membersWithout 88 = .ok (.iinc 6 1, 3) := by decide +kernel
theorem dX3_membersWithout_91 : decode cX3_membersWithout 91 = .ok (.goto (-79), 3) := by decide +kernel
theorem dX3_membersWithout_94 : decode cX3_membersWithout 94 = .ok (.iload 4, 2) := by decide +kernel
theorem dX3_membersWithout_96 : decode cX3_membersWithout 96 = .ok (.ireturn, 1) := by decide +kernel
theorem dX3_pairsLost_0 : decode cX3_pairsLost 0 = .ok (.iconst 0, 1) := by decide +kernel
theorem dX3_pairsLost_1 : decode cX3_pairsLost 1 = .ok (.istore_n 3, 1) := by decide +kernel
theorem dX3_pairsLost_2 : decode cX3_pairsLost 2 = .ok (.iconst 0, 1) := by decide +kernel
theorem dX3_pairsLost_3 : decode cX3_pairsLost 3 = .ok (.istore 4, 2) := by decide +kernel
theorem dX3_pairsLost_5 : decode cX3_pairsLost 5 = .ok (.iload 4, 2) := by decide +kernel
theorem dX3_pairsLost_7 : decode cX3_pairsLost 7 = .ok (.aload_n 0, 1) := by decide +kernel
theorem dX3_pairsLost_8 : decode cX3_pairsLost 8 = .ok (.getfield 25, 3) := by decide +kernel
theorem dX3_pairsLost_11 : decode cX3_pairsLost 11 = .ok (.if_icmp .ge 44, 3) := by decide +kernel
theorem dX3_pairsLost_14 : decode cX3_pairsLost 14 = .ok (.aload_n 0, 1) := by decide +kernel
theorem dX3_pairsLost_15 : decode cX3_pairsLost 15 = .ok (.iload 4, 2) := by decide +kernel
theorem dX3_pairsLost_17 : decode cX3_pairsLost 17 = .ok (.iload_n 2, 1) := by decide +kernel
theorem dX3_pairsLost_18 : decode cX3_pairsLost 18 = .ok (.invokevirtual 62, 3) := by decide +kernel
theorem dX3_pairsLost_21 : decode cX3_pairsLost 21 = .ok (.iload_n 1, 1) := by decide +kernel
theorem dX3_pairsLost_22 : decode cX3_pairsLost 22 = .ok (.if_icmp .ne 27, 3) := by decide +kernel
theorem dX3_pairsLost_25 : decode cX3_pairsLost 25 = .ok (.iload_n 3, 1) := by decide +kernel
theorem dX3_pairsLost_26 : decode cX3_pairsLost 26 = .ok (.aload_n 0, 1) := by decide +kernel
theorem dX3_pairsLost_27 : decode cX3_pairsLost 27 = .ok (.getfield 15, 3) := by decide +kernel
theorem dX3_pairsLost_30 : decode cX3_pairsLost 30 = .ok (.iload 4, 2) := by decide +kernel
theorem dX3_pairsLost_32 : decode cX3_pairsLost 32 = .ok (.iaload, 1) := by decide +kernel
theorem dX3_pairsLost_33 : decode cX3_pairsLost 33 = .ok (.aload_n 0, 1) := by decide +kernel
theorem dX3_pairsLost_34 : decode cX3_pairsLost 34 = .ok (.iload 4, 2) := by decide +kernel
theorem dX3_pairsLost_36 : decode cX3_pairsLost 36 = .ok (.iload_n 1, 1) := by decide +kernel
theorem dX3_pairsLost_37 : decode cX3_pairsLost 37 = .ok (.iload_n 2, 1) := by decide +kernel
theorem dX3_pairsLost_38 : decode cX3_pairsLost 38 = .ok (.invokevirtual 95, 3) := by decide +kernel
theorem dX3_pairsLost_41 : decode cX3_pairsLost 41 = .ok (.iconst (-1), 1) := by decide +kernel
theorem dX3_pairsLost_42 : decode cX3_pairsLost 42 = .ok (.ixor, 1) := by decide +kernel
theorem dX3_pairsLost_43 : decode cX3_pairsLost 43 = .ok (.iand, 1) := by decide +kernel
theorem dX3_pairsLost_44 : decode cX3_pairsLost 44 = .ok (.invokestatic 56, 3) := by decide +kernel
theorem dX3_pairsLost_47 : decode cX3_pairsLost 47 = .ok (.iadd, 1) := by decide +kernel
theorem dX3_pairsLost_48 : decode cX3_pairsLost 48 = .ok (.istore_n 3, 1) := by decide +kernel
theorem dX3_pairsLost_49 : decode cX3_pairsLost 49 = .ok (.iinc 4 1, 3) := by decide +kernel
theorem dX3_pairsLost_52 : decode cX3_pairsLost 52 = .ok (.goto (-47), 3) := by decide +kernel
theorem dX3_pairsLost_55 : decode cX3_pairsLost 55 = .ok (.iload_n 3, 1) := by decide +kernel
theorem dX3_pairsLost_56 : decode cX3_pairsLost 56 = .ok (.ireturn, 1) := by decide +kernel
theorem dX3_newMembers_0 : decode cX3_newMembers 0 = .ok (.aload_n 0, 1) := by decide +kernel
theorem dX3_newMembers_1 : decode cX3_newMembers 1 = .ok (.iload_n 1, 1) := by decide +kernel
theorem dX3_newMembers_2 : decode cX3_newMembers 2 = .ok (.iload_n 2, 1) := by decide +kernel
theorem dX3_newMembers_3 : decode cX3_newMembers 3 = .ok (.invokevirtual 65, 3) := by decide +kernel
theorem dX3_newMembers_6 : decode cX3_newMembers 6 = .ok (.ifCond .eq 21, 3) := by decide +kernel
theorem dX3_newMembers_9 : decode cX3_newMembers 9 = .ok (.aload_n 0, 1) := by decide +kernel
theorem dX3_newMembers_10 : decode cX3_newMembers 10 = .ok (.getfield 15, 3) := by decide +kernel
theorem dX3_newMembers_13 : decode cX3_newMembers 13 = .ok (.iload_n 3, 1) := by decide +kernel
theorem dX3_newMembers_14 : decode cX3_newMembers 14 = .ok (.iaload, 1) := by decide +kernel
theorem dX3_newMembers_15 : decode cX3_newMembers 15 = .ok (.aload_n 0, 1) := by decide +kernel
theorem dX3_newMembers_16 : decode cX3_newMembers 16 = .ok (.getfield 15, 3) := by decide +kernel
theorem dX3_newMembers_19 : decode cX3_newMembers 19 = .ok (.iload_n 1, 1) := by decide +kernel
theorem dX3_newMembers_20 : decode cX3_newMembers 20 = .ok (.iaload, 1) := by decide +kernel
theorem dX3_newMembers_21 : decode cX3_newMembers 21 = .ok (.iconst (-1), 1) := by decide +kernel
theorem dX3_newMembers_22 : decode cX3_newMembers 22 = .ok (.ixor, 1) := by decide +kernel
theorem dX3_newMembers_23 : decode cX3_newMembers 23 = .ok (.iand, 1) := by decide +kernel
theorem dX3_newMembers_24 : decode cX3_newMembers 24 = .ok (.goto 4, 3) := by decide +kernel
theorem dX3_newMembers_27 : decode cX3_newMembers 27 = .ok (.iconst 0, 1) := by decide +kernel
theorem dX3_newMembers_28 : decode cX3_newMembers 28 = .ok (.ireturn, 1) := by decide +kernel
theorem dX3_pairsGained_0 : decode cX3_pairsGained 0 = .ok (.iconst 0, 1) := by decide +kernel
theorem dX3_pairsGained_1 : decode cX3_pairsGained 1 = .ok (.istore_n 3, 1) := by decide +kernel
theorem dX3_pairsGained_2 : decode cX3_pairsGained 2 = .ok (.iconst 0, 1) := by decide +kernel
theorem dX3_pairsGained_3 : decode cX3_pairsGained 3 = .ok (.istore 4, 2) := by decide +kernel
theorem dX3_pairsGained_5 : decode cX3_pairsGained 5 = .ok (.iload 4, 2) := by decide +kernel
theorem dX3_pairsGained_7 : decode cX3_pairsGained 7 = .ok (.aload_n 0, 1) := by decide +kernel
theorem dX3_pairsGained_8 : decode cX3_pairsGained 8 = .ok (.getfield 25, 3) := by decide +kernel
theorem dX3_pairsGained_11 : decode cX3_pairsGained 11 = .ok (.if_icmp .ge 23, 3) := by decide +kernel
theorem dX3_pairsGained_14 : decode cX3_pairsGained 14 = .ok (.iload_n 3, 1) := by decide +kernel
theorem dX3_pairsGained_15 : decode cX3_pairsGained 15 = .ok (.aload_n 0, 1) := by decide +kernel
theorem dX3_pairsGained_16 : decode cX3_pairsGained 16 = .ok (.iload 4, 2) := by decide +kernel
theorem dX3_pairsGained_18 : decode cX3_pairsGained 18 = .ok (.iload_n 1, 1) := by decide +kernel
theorem dX3_pairsGained_19 : decode cX3_pairsGained 19 = .ok (.iload_n 2, 1) := by decide +kernel
theorem dX3_pairsGained_20 : decode cX3_pairsGained 20 = .ok (.invokevirtual 102, 3) := by decide +kernel
theorem dX3_pairsGained_23 : decode cX3_pairsGained 23 = .ok (.invokestatic 56, 3) := by decide +kernel
theorem dX3_pairsGained_26 : decode cX3_pairsGained 26 = .ok (.iadd, 1) := by decide +kernel
theorem dX3_pairsGained_27 : decode cX3_pairsGained 27 = .ok (.istore_n 3, 1) := by decide +kernel
theorem dX3_pairsGained_28 : decode cX3_pairsGained 28 = .ok (.iinc 4 1, 3) := by decide +kernel
theorem dX3_pairsGained_31 : decode cX3_pairsGained 31 = .ok (.goto (-26), 3) := by decide +kernel
theorem dX3_pairsGained_34 : decode cX3_pairsGained 34 = .ok (.iload_n 3, 1) := by decide +kernel
theorem dX3_pairsGained_35 : decode cX3_pairsGained 35 = .ok (.ireturn, 1) := by decide +kernel
theorem dX3_workGained_0 : decode cX3_workGained 0 = .ok (.iconst 0, 1) := by decide +kernel
theorem dX3_workGained_1 : decode cX3_workGained 1 = .ok (.istore_n 3, 1) := by decide +kernel
theorem dX3_workGained_2 : decode cX3_workGained 2 = .ok (.iconst 0, 1) := by decide +kernel
theorem dX3_workGained_3 : decode cX3_workGained 3 = .ok (.istore 4, 2) := by decide +kernel
theorem dX3_workGained_5 : decode cX3_workGained 5 = .ok (.iload 4, 2) := by decide +kernel
theorem dX3_workGained_7 : decode cX3_workGained 7 = .ok (.aload_n 0, 1) := by decide +kernel
theorem dX3_workGained_8 : decode cX3_workGained 8 = .ok (.getfield 25, 3) := by decide +kernel
theorem dX3_workGained_11 : decode cX3_workGained 11 = .ok (.if_icmp .ge 40, 3) := by decide +kernel
theorem dX3_workGained_14 : decode cX3_workGained 14 = .ok (.aload_n 0, 1) := by decide +kernel
theorem dX3_workGained_15 : decode cX3_workGained 15 = .ok (.iload 4, 2) := by decide +kernel
theorem dX3_workGained_17 : decode cX3_workGained 17 = .ok (.iload_n 1, 1) := by decide +kernel
theorem dX3_workGained_18 : decode cX3_workGained 18 = .ok (.invokevirtual 65, 3) := by decide +kernel
theorem dX3_workGained_21 : decode cX3_workGained 21 = .ok (.ifCond .eq 24, 3) := by decide +kernel
theorem dX3_workGained_24 : decode cX3_workGained 24 = .ok (.iload_n 3, 1) := by decide +kernel
theorem dX3_workGained_25 : decode cX3_workGained 25 = .ok (.iconst 1, 1) := by decide +kernel
theorem dX3_workGained_26 : decode cX3_workGained 26 = .ok (.aload_n 0, 1) := by decide +kernel
theorem dX3_workGained_27 : decode cX3_workGained 27 = .ok (.aload_n 0, 1) := by decide +kernel
theorem dX3_workGained_28 : decode cX3_workGained 28 = .ok (.iload 4, 2) := by decide +kernel
theorem dX3_workGained_30 : decode cX3_workGained 30 = .ok (.iload_n 1, 1) := by decide +kernel
theorem dX3_workGained_31 : decode cX3_workGained 31 = .ok (.iload_n 2, 1) := by decide +kernel
theorem dX3_workGained_32 : decode cX3_workGained 32 = .ok (.invokevirtual 102, 3) := by decide +kernel
theorem dX3_workGained_35 : decode cX3_workGained 35 = .ok (.aload_n 0, 1) := by decide +kernel
theorem dX3_workGained_36 : decode cX3_workGained 36 = .ok (.invokevirtual 48, 3) := by decide +kernel
theorem dX3_workGained_39 : decode cX3_workGained 39 = .ok (.invokevirtual 52, 3) := by decide +kernel
theorem dX3_workGained_42 : decode cX3_workGained 42 = .ok (.iadd, 1) := by decide +kernel
theorem dX3_workGained_43 : decode cX3_workGained 43 = .ok (.iadd, 1) := by decide +kernel
theorem dX3_workGained_44 : decode cX3_workGained 44 = .ok (.istore_n 3, 1) := by decide +kernel
theorem dX3_workGained_45 : decode cX3_workGained 45 = .ok (.iinc 4 1, 3) := by decide +kernel
theorem dX3_workGained_48 : decode cX3_workGained 48 = .ok (.goto (-43), 3) := by decide +kernel
theorem dX3_workGained_51 : decode cX3_workGained 51 = .ok (.iload_n 3, 1) := by decide +kernel
theorem dX3_workGained_52 : decode cX3_workGained 52 = .ok (.ireturn, 1) := by decide +kernel
end
section
theorem dX4_init_0 : decode cX4_init 0 = .ok (.aload_n 0, 1) := by decide +kernel
theorem dX4_init_1 : decode cX4_init 1 = .ok (.invokespecial 3, 3) := by decide +kernel
theorem dX4_init_4 : decode cX4_init 4 = .ok (.aload_n 0, 1) := by decide +kernel
theorem dX4_init_5 : decode cX4_init 5 = .ok (.bipush 8, 2) := by decide +kernel
theorem dX4_init_7 : decode cX4_init 7 = .ok (.anewarray 9, 3) := by decide +kernel
theorem dX4_init_10 : decode cX4_init 10 = .ok (.putfield 11, 3) := by decide +kernel
theorem dX4_init_13 : decode cX4_init 13 = .ok (.iconst 0, 1) := by decide +kernel
theorem dX4_init_14 : decode cX4_init 14 = .ok (.istore_n 1, 1) := by decide +kernel
theorem dX4_init_15 : decode cX4_init 15 = .ok (.iload_n 1, 1) := by decide +kernel
theorem dX4_init_16 : decode cX4_init 16 = .ok (.bipush 8, 2) := by decide +kernel
theorem dX4_init_18 : decode cX4_init 18 = .ok (.if_icmp .ge 22, 3) := by decide +kernel
theorem dX4_init_21 : decode cX4_init 21 = .ok (.aload_n 0, 1) := by decide +kernel
theorem dX4_init_22 : decode cX4_init 22 = .ok (.getfield 11, 3) := by decide +kernel
theorem dX4_init_25 : decode cX4_init 25 = .ok (.iload_n 1, 1) := by decide +kernel
theorem dX4_init_26 : decode cX4_init 26 = .ok (.new 9, 3) := by decide +kernel
theorem dX4_init_29 : decode cX4_init 29 = .ok (.dup, 1) := by decide +kernel
theorem dX4_init_30 : decode cX4_init 30 = .ok (.invokespecial 17, 3) := by decide +kernel
theorem dX4_init_33 : decode cX4_init 33 = .ok (.aastore, 1) := by decide +kernel
theorem dX4_init_34 : decode cX4_init 34 = .ok (.iinc 1 1, 3) := by decide +kernel
theorem dX4_init_37 : decode cX4_init 37 = .ok (.goto (-22), 3) := by decide +kernel
theorem dX4_init_40 : decode cX4_init 40 = .ok (.return_, 1) := by decide +kernel
theorem dX4_note_0 : decode cX4_note 0 = .ok (.aload_n 0, 1) := by decide +kernel
theorem dX4_note_1 : decode cX4_note 1 = .ok (.getfield 11, 3) := by decide +kernel
theorem dX4_note_4 : decode cX4_note 4 = .ok (.aload_n 0, 1) := by decide +kernel
theorem dX4_note_5 : decode cX4_note 5 = .ok (.getfield 18, 3) := by decide +kernel
theorem dX4_note_8 : decode cX4_note 8 = .ok (.aaload, 1) := by decide +kernel
theorem dX4_note_9 : decode cX4_note 9 = .ok (.aload_n 1, 1) := by decide +kernel
theorem dX4_note_10 : decode cX4_note 10 = .ok (.invokevirtual 22, 3) := by decide +kernel
theorem dX4_note_13 : decode cX4_note 13 = .ok (.aload_n 0, 1) := by decide +kernel
theorem dX4_note_14 : decode cX4_note 14 = .ok (.aload_n 0, 1) := by decide +kernel
theorem dX4_note_15 : decode cX4_note 15 = .ok (.getfield 18, 3) := by decide +kernel
theorem dX4_note_18 : decode cX4_note 18 = .ok (.iconst 1, 1) := by decide +kernel
theorem dX4_note_19 : decode cX4_note 19 = .ok (.iadd, 1) := by decide +kernel
theorem dX4_note_20 : decode cX4_note 20 = .ok (.bipush 8, 2) := by decide +kernel
theorem dX4_note_22 : decode cX4_note 22 = .ok (.irem, 1) := by decide +kernel
theorem dX4_note_23 : decode cX4_note 23 = .ok (.putfield 18, 3) := by decide +kernel
theorem dX4_note_26 : decode cX4_note 26 = .ok (.aload_n 0, 1) := by decide +kernel
theorem dX4_note_27 : decode cX4_note 27 = .ok (.aload_n 0, 1) := by decide +kernel
theorem dX4_note_28 : decode cX4_note 28 = .ok (.getfield 26, 3) := by decide +kernel
theorem dX4_note_31 : decode cX4_note 31 = .ok (.iconst 1, 1) := by decide +kernel
theorem dX4_note_32 : decode cX4_note 32 = .ok (.iadd, 1) := by decide +kernel
theorem dX4_note_33 : decode cX4_note 33 = .ok (.bipush 8, 2) := by decide +kernel
theorem dX4_note_35 : decode cX4_note 35 = .ok (.invokestatic 29, 3) := by decide +kernel
theorem dX4_note_38 : decode cX4_note 38 = .ok (.putfield 26, 3) := by decide +kernel
theorem dX4_note_41 : decode cX4_note 41 = .ok (.return_, 1) := by decide +kernel
theorem dX4_restore_0 : decode cX4_restore 0 = .ok (.aload_n 0, 1) := by decide +kernel
theorem dX4_restore_1 : decode cX4_restore 1 = .ok (.aload_n 0, 1) := by decide +kernel
theorem dX4_restore_2 : decode cX4_restore 2 = .ok (.getfield 18, 3) := by decide +kernel
theorem dX4_restore_5 : decode cX4_restore 5 = .ok (.bipush 8, 2) := by decide +kernel
theorem dX4_restore_7 : decode cX4_restore 7 = .ok (.iadd, 1) := by decide +kernel
theorem dX4_restore_8 : decode cX4_restore 8 = .ok (.iconst 1, 1) := by decide +kernel
theorem dX4_restore_9 : decode cX4_restore 9 = .ok (.isub, 1) := by decide +kernel
theorem dX4_restore_10 : decode cX4_restore 10 = .ok (.bipush 8, 2) := by decide +kernel
theorem dX4_restore_12 : decode cX4_restore 12 = .ok (.irem, 1) := by decide +kernel
theorem dX4_restore_13 : decode cX4_restore 13 = .ok (.putfield 18, 3) := by decide +kernel
theorem dX4_restore_16 : decode cX4_restore 16 = .ok (.aload_n 0, 1) := by decide +kernel
theorem dX4_restore_17 : decode cX4_restore 17 = .ok (.dup, 1) := by decide +kernel
theorem dX4_restore_18 : decode cX4_restore 18 = .ok (.getfield 26, 3) := by decide +kernel
theorem dX4_restore_21 : decode cX4_restore 21 = .ok (.iconst 1, 1) := by decide +kernel
theorem dX4_restore_22 : decode cX4_restore 22 = .ok (.isub, 1) := by decide +kernel
theorem dX4_restore_23 : decode cX4_restore 23 = .ok (.putfield 26, 3) := by decide +kernel
theorem dX4_restore_26 : decode cX4_restore 26 = .ok (.aload_n 1, 1) := by decide +kernel
theorem dX4_restore_27 : decode cX4_restore 27 = .ok (.aload_n 0, 1) := by decide +kernel
theorem dX4_restore_28 : decode cX4_restore 28 = .ok (.getfield 11, 3) := by decide +kernel
theorem dX4_restore_31 : decode cX4_restore 31 = .ok (.aload_n 0, 1) := by decide +kernel
theorem dX4_restore_32 : decode cX4_restore 32 = .ok (.getfield 18, 3) := by decide +kernel
theorem dX4_restore_35 : decode cX4_restore 35 = .ok (.aaload, 1) := by decide +kernel
theorem dX4_restore_36 : decode cX4_restore 36 = .ok (.invokevirtual 22, 3) := by decide +kernel
theorem dX4_restore_39 : decode cX4_restore 39 = .ok (.return_, 1) := by decide +kernel
theorem dX4_forget_0 : decode cX4_forget 0 = .ok (.aload_n 0, 1) := by decide +kernel
theorem dX4_forget_1 : decode cX4_forget 1 = .ok (.iconst 0, 1) := by decide +kernel
theorem dX4_forget_2 : decode cX4_forget 2 = .ok (.putfield 26, 3) := by decide +kernel
theorem dX4_forget_5 : decode cX4_forget 5 = .ok (.return_, 1) := by decide +kernel
end
section
theorem dX5_init_0 : decode cX5_init 0 = .ok (.aload_n 0, 1) := by decide +kernel
theorem dX5_init_1 : decode cX5_init 1 = .ok (.invokespecial 3, 3) := by decide +kernel
theorem dX5_init_4 : decode cX5_init 4 = .ok (.aload_n 0, 1) := by decide +kernel
theorem dX5_init_5 : decode cX5_init 5 = .ok (.bipush 24, 2) := by decide +kernel
theorem dX5_init_7 : decode cX5_init 7 = .ok (.newarray .int, 2) := by decide +kernel
theorem dX5_init_9 : decode cX5_init 9 = .ok (.putfield 9, 3) := by decide +kernel
theorem dX5_init_12 : decode cX5_init 12 = .ok (.aload_n 0, 1) := by decide +kernel
theorem dX5_init_13 : decode cX5_init 13 = .ok (.bipush 72, 2) := by decide +kernel
theorem dX5_init_15 : decode cX5_init 15 = .ok (.newarray .int, 2) := by decide +kernel
theorem dX5_init_17 : decode cX5_init 17 = .ok (.putfield 15, 3) := by decide +kernel
theorem dX5_init_20 : decode cX5_init 20 = .ok (.aload_n 0, 1) := by decide +kernel
theorem dX5_init_21 : decode cX5_init 21 = .ok (.aload_n 1, 1) := by decide +kernel
theorem dX5_init_22 : decode cX5_init 22 = .ok (.putfield 18, 3) := by decide +kernel
theorem dX5_init_25 : decode cX5_init 25 = .ok (.return_, 1) := by decide +kernel
theorem dX5_numberOf_0 : decode cX5_numberOf 0 = .ok (.aload_n 0, 1) := by decide +kernel
theorem dX5_numberOf_1 : decode cX5_numberOf 1 = .ok (.getfield 15, 3) := by decide +kernel
theorem dX5_numberOf_4 : decode cX5_numberOf 4 = .ok (.iload_n 1, 1) := by decide +kernel
theorem dX5_numberOf_5 : decode cX5_numberOf 5 = .ok (.iconst 3, 1) := by decide +kernel
theorem dX5_numberOf_6 : decode cX5_numberOf 6 = .ok (.imul, 1) := by decide +kernel
theorem dX5_numberOf_7 : decode cX5_numberOf 7 = .ok (.iload_n 2, 1) := by decide +kernel
theorem dX5_numberOf_8 : decode cX5_numberOf 8 = .ok (.iadd, 1) := by decide +kernel
theorem dX5_numberOf_9 : decode cX5_numberOf 9 = .ok (.iaload, 1) := by decide +kernel
theorem dX5_numberOf_10 : decode cX5_numberOf 10 = .ok (.ireturn, 1) := by decide +kernel
theorem dX5_readAll_0 : decode cX5_readAll 0 = .ok (.iload_n 1, 1) := by decide +kernel
theorem dX5_readAll_1 : decode cX5_readAll 1 = .ok (.istore_n 2, 1) := by decide +kernel
theorem dX5_readAll_2 : decode cX5_readAll 2 = .ok (.aload_n 0, 1) := by decide +kernel
theorem dX5_readAll_3 : decode cX5_readAll 3 = .ok (.iconst 0, 1) := by decide +kernel
theorem dX5_readAll_4 : decode cX5_readAll 4 = .ok (.putfield 22, 3) := by decide +kernel
theorem dX5_readAll_7 : decode cX5_readAll 7 = .ok (.aload_n 0, 1) := by decide +kernel
theorem dX5_readAll_8 : decode cX5_readAll 8 = .ok (.iconst 0, 1) := by decide +kernel
theorem dX5_readAll_9 : decode cX5_readAll 9 = .ok (.putfield 26, 3) := by decide +kernel
theorem dX5_readAll_12 : decode cX5_readAll 12 = .ok (.aload_n 0, 1) := by decide +kernel
theorem dX5_readAll_13 : decode cX5_readAll 13 = .ok (.getfield 22, 3) := by decide +kernel
theorem dX5_readAll_16 : decode cX5_readAll 16 = .ok (.bipush 24, 2) := by decide +kernel
theorem dX5_readAll_18 : decode cX5_readAll 18 = .ok (.if_icmp .ge 73, 3) := by decide +kernel
theorem dX5_readAll_21 : decode cX5_readAll 21 = .ok (.aload_n 0, 1) := by decide +kernel
theorem dX5_readAll_22 : decode cX5_readAll 22 = .ok (.iload_n 2, 1) := by decide +kernel
theorem dX5_readAll_23 : decode cX5_readAll 23 = .ok (.invokevirtual 29, 3) := by decide +kernel
theorem dX5_readAll_26 : decode cX5_readAll 26 = .ok (.ifCond .ne 8, 3) := by decide +kernel
theorem dX5_readAll_29 : decode cX5_readAll 29 = .ok (.aload_n 0, 1) := by decide +kernel
theorem dX5_readAll_30 : decode cX5_readAll 30 = .ok (.getfield 33, 3) := by decide +kernel
theorem dX5_readAll_33 : decode cX5_readAll 33 = .ok (.ireturn, 1) := by decide +kernel
theorem dX5_readAll_34 : decode cX5_readAll 34 = .ok (.aload_n 0, 1) := by decide +kernel
theorem dX5_readAll_35 : decode cX5_readAll 35 = .ok (.getfield 9, 3) := by decide +kernel
theorem dX5_readAll_38 : decode cX5_readAll 38 = .ok (.aload_n 0, 1) := by decide +kernel
theorem dX5_readAll_39 : decode cX5_readAll 39 = .ok (.getfield 22, 3) := by decide +kernel
theorem dX5_readAll_42 : decode cX5_readAll 42 = .ok (.iaload, 1) := by decide +kernel
theorem dX5_readAll_43 : decode cX5_readAll 43 = .ok (.ifCond .ne 13, 3) := by decide +kernel
theorem dX5_readAll_46 : decode cX5_readAll 46 = .ok (.aload_n 0, 1) := by decide +kernel
theorem dX5_readAll_47 : decode cX5_readAll 47 = .ok (.aload_n 0, 1) := by decide +kernel
theorem dX5_readAll_48 : decode cX5_readAll 48 = .ok (.getfield 22, 3) := by decide +kernel
theorem dX5_readAll_51 : decode cX5_readAll 51 = .ok (.iconst 0, 1) := by decide +kernel
theorem dX5_readAll_52 : decode cX5_readAll 52 = .ok (.invokevirtual 36, 3) := by decide +kernel
theorem dX5_readAll_55 : decode cX5_readAll 55 = .ok (.istore_n 2, 1) := by decide +kernel
theorem dX5_readAll_56 : decode cX5_readAll 56 = .ok (.aload_n 0, 1) := by decide +kernel
theorem dX5_readAll_57 : decode cX5_readAll 57 = .ok (.dup, 1) := by decide +kernel
theorem dX5_readAll_58 : decode cX5_readAll 58 = .ok (.getfield 22, 3) := by decide +kernel
theorem dX5_readAll_61 : decode cX5_readAll 61 = .ok (.iconst 1, 1) := by decide +kernel
theorem dX5_readAll_62 : decode cX5_readAll 62 = .ok (.iadd, 1) := by decide +kernel
theorem dX5_readAll_63 : decode cX5_readAll 63 = .ok (.putfield 22, 3) := by decide +kernel
theorem dX5_readAll_66 : decode cX5_readAll 66 = .ok (.aload_n 0, 1) := by decide +kernel
theorem dX5_readAll_67 : decode cX5_readAll 67 = .ok (.invokevirtual 40, 3) := by decide +kernel
theorem dX5_readAll_70 : decode cX5_readAll 70 = .ok (.aload_n 0, 1) := by decide +kernel
theorem dX5_readAll_71 : decode cX5_readAll 71 = .ok (.getfield 43, 3) := by decide +kernel
theorem dX5_readAll_74 : decode cX5_readAll 74 = .ok (.ifCond .ne 5, 3) := by decide +kernel
theorem dX5_readAll_77 : decode cX5_readAll 77 = .ok (.iconst (-1), 1) := by decide +kernel
theorem dX5_readAll_78 : decode cX5_readAll 78 = .ok (.ireturn, 1) := by decide +kernel
theorem dX5_readAll_79 : decode cX5_readAll 79 = .ok (.aload_n 0, 1) := by decide +kernel
theorem dX5_readAll_80 : decode cX5_readAll 80 = .ok (.invokevirtual 46, 3) := by decide +kernel
theorem dX5_readAll_83 : decode cX5_readAll 83 = .ok (.ifCond .ne (-71), 3) := by decide +kernel
theorem dX5_readAll_86 : decode cX5_readAll 86 = .ok (.aload_n 0, 1) := by decide +kernel
theorem dX5_readAll_87 : decode cX5_readAll 87 = .ok (.getfield 33, 3) := by decide +kernel
theorem dX5_readAll_90 : decode cX5_readAll 90 = .ok (.ireturn, 1) := by decide +kernel
theorem dX5_readAll_91 : decode cX5_readAll 91 = .ok (.aload_n 0, 1) := by decide +kernel
theorem dX5_readAll_92 : decode cX5_readAll 92 = .ok (.getfield 33, 3) := by decide +kernel
theorem dX5_readAll_95 : decode cX5_readAll 95 = .ok (.ireturn, 1) := by decide +kernel
theorem dX5_readClause_0 : decode cX5_readClause 0 = .ok (.aload_n 0, 1) := by decide +kernel
theorem dX5_readClause_1 : decode cX5_readClause 1 = .ok (.invokevirtual 40, 3) := by decide +kernel
theorem dX5_readClause_4 : decode cX5_readClause 4 = .ok (.aload_n 0, 1) := by decide +kernel
theorem dX5_readClause_5 : decode cX5_readClause 5 = .ok (.invokevirtual 50, 3) := by decide +kernel
theorem dX5_readClause_8 : decode cX5_readClause 8 = .ok (.istore_n 2, 1) := by decide +kernel
theorem dX5_readClause_9 : decode cX5_readClause 9 = .ok (.iload_n 2, 1) := by decide +kernel
theorem dX5_readClause_10 : decode cX5_readClause 10 = .ok (.iconst (-1), 1) := by decide +kernel
theorem dX5_readClause_11 : decode cX5_readClause 11 = .ok (.if_icmp .ne 5, 3) := by decide +kernel
theorem dX5_readClause_14 : decode cX5_readClause 14 = .ok (.iconst 0, 1) := by decide +kernel
theorem dX5_readClause_15 : decode cX5_readClause 15 = .ok (.ireturn, 1) := by decide +kernel
theorem dX5_readClause_16 : decode cX5_readClause 16 = .ok (.aload_n 0, 1) := by decide +kernel
theorem dX5_readClause_17 : decode cX5_readClause 17 = .ok (.getfield 9, 3) := by decide +kernel
theorem dX5_readClause_20 : decode cX5_readClause 20 = .ok (.aload_n 0, 1) := by decide +kernel
theorem dX5_readClause_21 : decode cX5_readClause 21 = .ok (.getfield 22, 3) := by decide +kernel
theorem dX5_readClause_24 : decode cX5_readClause 24 = .ok (.iload_n 2, 1) := by decide +kernel
theorem dX5_readClause_25 : decode cX5_readClause 25 = .ok (.iastore, 1) := by decide +kernel
theorem dX5_readClause_26 : decode cX5_readClause 26 = .ok (.iload_n 2, 1) := by decide +kernel
theorem dX5_readClause_27 : decode cX5_readClause 27 = .ok (.invokestatic 54, 3) := by decide +kernel
theorem dX5_readClause_30 : decode cX5_readClause 30 = .ok (.istore_n 3, 1) := by decide +kernel
theorem dX5_readClause_31 : decode cX5_readClause 31 = .ok (.iconst 0, 1) := by decide +kernel
theorem dX5_readClause_32 : decode cX5_readClause 32 = .ok (.istore 4, 2) := by decide +kernel
theorem dX5_readClause_34 : decode cX5_readClause 34 = .ok (.iload 4, 2) := by decide +kernel
theorem dX5_readClause_36 : decode cX5_readClause 36 = .ok (.iload_n 3, 1) := by decide +kernel
theorem dX5_readClause_37 : decode cX5_readClause 37 = .ok (.if_icmp .ge 26, 3) := by decide +kernel
theorem dX5_readClause_40 : decode cX5_readClause 40 = .ok (.aload_n 0, 1) := by decide +kernel
theorem dX5_readClause_41 : decode cX5_readClause 41 = .ok (.invokevirtual 40, 3) := by decide +kernel
theorem dX5_readClause_44 : decode cX5_readClause 44 = .ok (.aload_n 0, 1) := by decide +kernel
theorem dX5_readClause_45 : decode cX5_readClause 45 = .ok (.iload_n 2, 1) := by decide +kernel
theorem dX5_readClause_46 : decode cX5_readClause 46 = .ok (.iload 4, 2) := by decide +kernel
theorem dX5_readClause_48 : decode cX5_readClause 48 = .ok (.iload_n 1, 1) := by decide +kernel
theorem dX5_readClause_49 : decode cX5_readClause 49 = .ok (.invokevirtual 58, 3) := by decide +kernel
theorem dX5_readClause_52 : decode cX5_readClause 52 = .ok (.ifCond .ne 5, 3) := by decide +kernel
theorem dX5_readClause_55 : decode cX5_readClause 55 = .ok (.iconst 0, 1) := by decide +kernel
theorem dX5_readClause_56 : decode cX5_readClause 56 = .ok (.ireturn, 1) := by decide +kernel
theorem dX5_readClause_57 : decode cX5_readClause 57 = .ok (.iinc 4 1, 3) := by decide +kernel
theorem dX5_readClause_60 : decode cX5_readClause 60 = .ok (.goto (-26), 3) := by decide +kernel
theorem dX5_readClause_63 : decode cX5_readClause 63 = .ok (.iconst 1, 1) := by decide +kernel
theorem dX5_readClause_64 : decode cX5_readClause 64 = .ok (.ireturn, 1) := by decide +kernel
theorem dX5_takeNumber_0 : decode cX5_takeNumber 0 = .ok (.aload_n 0, 1) := by decide +kernel
theorem dX5_takeNumber_1 : decode cX5_takeNumber 1 = .ok (.getfield 43, 3) := by decide +kernel
theorem dX5_takeNumber_4 : decode cX5_takeNumber 4 = .ok (.iconst 2, 1) := by decide +kernel
theorem dX5_takeNumber_5 : decode cX5_takeNumber 5 = .ok (.if_icmp .ne 16, 3) := by decide +kernel
theorem dX5_takeNumber_8 : decode cX5_takeNumber 8 = .ok (.aload_n 0, 1) := by decide +kernel
theorem dX5_takeNumber_9 : decode cX5_takeNumber 9 = .ok (.getfield 26, 3) := by decide +kernel
theorem dX5_takeNumber_12 : decode cX5_takeNumber 12 = .ok (.aload_n 0, 1) := by decide +kernel
theorem dX5_takeNumber_13 : decode cX5_takeNumber 13 = .ok (.getfield 33, 3) := by decide +kernel
theorem dX5_takeNumber_16 : decode cX5_takeNumber 16 = .ok (.isub, 1) := by decide +kernel
theorem dX5_takeNumber_17 : decode cX5_takeNumber 17 = .ok (.iconst 2, 1) := by decide +kernel
theorem dX5_takeNumber_18 : decode cX5_takeNumber 18 = .ok (.if_icmp .le 5, 3) := by decide +kernel
theorem dX5_takeNumber_21 : decode cX5_takeNumber 21 = .ok (.iconst 0, 1) := by decide +kernel
theorem dX5_takeNumber_22 : decode cX5_takeNumber 22 = .ok (.ireturn, 1) := by decide +kernel
theorem dX5_takeNumber_23 : decode cX5_takeNumber 23 = .ok (.aload_n 0, 1) := by decide +kernel
theorem dX5_takeNumber_24 : decode cX5_takeNumber 24 = .ok (.invokevirtual 62, 3) := by decide +kernel
theorem dX5_takeNumber_27 : decode cX5_takeNumber 27 = .ok (.istore 4, 2) := by decide +kernel
theorem dX5_takeNumber_29 : decode cX5_takeNumber 29 = .ok (.iload_n 1, 1) := by decide +kernel
theorem dX5_takeNumber_30 : decode cX5_takeNumber 30 = .ok (.ifCond .ne 7, 3) := by decide +kernel
theorem dX5_takeNumber_33 : decode cX5_takeNumber 33 = .ok (.iconst 2, 1) := by decide +kernel
theorem dX5_takeNumber_34 : decode cX5_takeNumber 34 = .ok (.goto 4, 3) := by decide +kernel
theorem dX5_takeNumber_37 : decode cX5_takeNumber 37 = .ok (.iconst 0, 1) := by decide +kernel
theorem dX5_takeNumber_38 : decode cX5_takeNumber 38 = .ok (.istore 5, 2) := by decide +kernel
theorem dX5_takeNumber_40 : decode cX5_takeNumber 40 = .ok (.iload_n 1, 1) := by decide +kernel
theorem dX5_takeNumber_41 : decode cX5_takeNumber 41 = .ok (.ifCond .ne 8, 3) := by decide +kernel
theorem dX5_takeNumber_44 : decode cX5_takeNumber 44 = .ok (.bipush 10, 2) := by decide +kernel
theorem dX5_takeNumber_46 : decode cX5_takeNumber 46 = .ok (.goto 6, 3) := by decide +kernel
theorem dX5_takeNumber_49 : decode cX5_takeNumber 49 = .ok (.iload_n 3, 1) := by decide +kernel
theorem dX5_takeNumber_50 : decode cX5_takeNumber 50 = .ok (.iconst 1, 1) := by decide +kernel
theorem dX5_takeNumber_51 : decode cX5_takeNumber 51 = .ok (.isub, 1) := by decide +kernel
theorem dX5_takeNumber_52 : decode cX5_takeNumber 52 = .ok (.istore 6, 2) := by decide +kernel
theorem dX5_takeNumber_54 : decode cX5_takeNumber 54 = .ok (.iload 4, 2) := by decide +kernel
theorem dX5_takeNumber_56 : decode cX5_takeNumber 56 = .ok (.iload 5, 2) := by decide +kernel
theorem dX5_takeNumber_58 : decode cX5_takeNumber 58 = .ok (.if_icmp .lt 10, 3) := by decide +kernel
theorem dX5_takeNumber_61 : decode cX5_takeNumber 61 = .ok (.iload 4, 2) := by decide +kernel
theorem dX5_takeNumber_63 : decode cX5_takeNumber 63 = .ok (.iload 6, 2) := by decide +kernel
theorem dX5_takeNumber_65 : decode cX5_takeNumber 65 = .ok (.if_icmp .le 5, 3) := by decide +kernel
theorem dX5_takeNumber_68 : decode cX5_takeNumber 68 = .ok (.iconst 0, 1) := by decide +kernel
theorem dX5_takeNumber_69 : decode cX5_takeNumber 69 = .ok (.ireturn, 1) := by decide +kernel
theorem dX5_takeNumber_70 : decode cX5_takeNumber 70 = .ok (.iconst 0, 1) := by decide +kernel
theorem dX5_takeNumber_71 : decode cX5_takeNumber 71 = .ok (.istore 7, 2) := by decide +kernel
theorem dX5_takeNumber_73 : decode cX5_takeNumber 73 = .ok (.iload 7, 2) := by decide +kernel
theorem dX5_takeNumber_75 : decode cX5_takeNumber 75 = .ok (.iload_n 2, 1) := by decide +kernel
theorem dX5_takeNumber_76 : decode cX5_takeNumber 76 = .ok (.if_icmp .ge 26, 3) := by decide +kernel
theorem dX5_takeNumber_79 : decode cX5_takeNumber 79 = .ok (.aload_n 0, 1) := by decide +kernel
theorem dX5_takeNumber_80 : decode cX5_takeNumber 80 = .ok (.aload_n 0, 1) := by decide +kernel
theorem dX5_takeNumber_81 : decode cX5_takeNumber 81 = .ok (.getfield 22, 3) := by decide +kernel
theorem dX5_takeNumber_84 : decode cX5_takeNumber 84 = .ok (.iload 7, 2) := by decide +kernel
theorem dX5_takeNumber_86 : decode cX5_takeNumber 86 = .ok (.invokevirtual 36, 3) := by decide +kernel
theorem dX5_takeNumber_89 : decode cX5_takeNumber 89 = .ok (.iload 4, 2) := by decide +kernel
theorem dX5_takeNumber_91 : decode cX5_takeNumber 91 = .ok (.if_icmp .ne 5, 3) := by decide +kernel
theorem dX5_takeNumber_94 : decode cX5_takeNumber 94 = .ok (.iconst 0, 1) := by decide +kernel
theorem dX5_takeNumber_95 : decode cX5_takeNumber 95 = .ok (.ireturn, 1) := by decide +kernel
theorem dX5_takeNumber_96 : decode cX5_takeNumber 96 = .ok (.iinc 7 1, 3) := by decide +kernel
theorem dX5_takeNumber_99 : decode cX5_takeNumber 99 = .ok (.goto (-26), 3) := by decide +kernel
theorem dX5_takeNumber_102 : decode cX5_takeNumber 102 = .ok (.aload_n 0, 1) := by decide +kernel
theorem dX5_takeNumber_103 : decode cX5_takeNumber 103 = .ok (.getfield 15, 3) := by decide +kernel
theorem dX5_takeNumber_106 : decode cX5_takeNumber 106 = .ok (.aload_n 0, 1) := by decide +kernel
theorem dX5_takeNumber_107 : decode cX5_takeNumber 107 = .ok (.getfield 22, 3) := by decide +kernel
theorem dX5_takeNumber_110 : decode cX5_takeNumber 110 = .ok (.iconst 3, 1) := by decide +kernel
theorem dX5_takeNumber_111 : decode cX5_takeNumber 111 = .ok (.imul, 1) := by decide +kernel
theorem dX5_takeNumber_112 : decode cX5_takeNumber 112 = .ok (.iload_n 2, 1) := by decide +kernel
theorem dX5_takeNumber_113 : decode cX5_takeNumber 113 = .ok (.iadd, 1) := by decide +kernel
theorem dX5_takeNumber_114 : decode cX5_takeNumber 114 = .ok (.iload 4, 2) := by decide +kernel
theorem dX5_takeNumber_116 : decode cX5_takeNumber 116 = .ok (.iastore, 1) := by decide +kernel
theorem dX5_takeNumber_117 : decode cX5_takeNumber 117 = .ok (.iconst 1, 1) := by decide +kernel
theorem dX5_takeNumber_118 : decode cX5_takeNumber 118 = .ok (.ireturn, 1) := by decide +kernel
theorem dX5_tokenNumber_0 : decode cX5_tokenNumber 0 = .ok (.iconst 0, 1) := by decide +kernel
theorem dX5_tokenNumber_1 : decode cX5_tokenNumber 1 = .ok (.istore_n 1, 1) := by decide +kernel
theorem dX5_tokenNumber_2 : decode cX5_tokenNumber 2 = .ok (.aload_n 0, 1) := by decide +kernel
theorem dX5_tokenNumber_3 : decode cX5_tokenNumber 3 = .ok (.getfield 33, 3) := by decide +kernel
theorem dX5_tokenNumber_6 : decode cX5_tokenNumber 6 = .ok (.istore_n 2, 1) := by decide +kernel
theorem dX5_tokenNumber_7 : decode cX5_tokenNumber 7 = .ok (.iload_n 2, 1) := by decide +kernel
theorem dX5_tokenNumber_8 : decode cX5_tokenNumber 8 = .ok (.aload_n 0, 1) := by decide +kernel
theorem dX5_tokenNumber_9 : decode cX5_tokenNumber 9 = .ok (.getfield 26, 3) := by decide +kernel
theorem dX5_tokenNumber_12 : decode cX5_tokenNumber 12 = .ok (.if_icmp .ge 27, 3) := by decide +kernel
theorem dX5_tokenNumber_15 : decode cX5_tokenNumber 15 = .ok (.bipush 10, 2) := by decide +kernel
theorem dX5_tokenNumber_17 : decode cX5_tokenNumber 17 = .ok (.iload_n 1, 1) := by decide +kernel
theorem dX5_tokenNumber_18 : decode cX5_tokenNumber 18 = .ok (.imul, 1) := by decide +kernel
theorem dX5_tokenNumber_19 : decode cX5_tokenNumber 19 = .ok (.aload_n 0, 1) := by decide +kernel
theorem dX5_tokenNumber_20 : decode cX5_tokenNumber 20 = .ok (.getfield 18, 3) := by decide +kernel
theorem dX5_tokenNumber_23 : decode cX5_tokenNumber 23 = .ok (.getfield 65, 3) := by decide +kernel
theorem dX5_tokenNumber_26 : decode cX5_tokenNumber 26 = .ok (.iload_n 2, 1) := by decide +kernel
theorem dX5_tokenNumber_27 : decode cX5_tokenNumber 27 = .ok (.iaload, 1) := by decide +kernel
theorem dX5_tokenNumber_28 : decode cX5_tokenNumber 28 = .ok (.iadd, 1) := by decide +kernel
theorem dX5_tokenNumber_29 : decode cX5_tokenNumber 29 = .ok (.bipush 48, 2) := by decide +kernel
theorem dX5_tokenNumber_31 : decode cX5_tokenNumber 31 = .ok (.isub, 1) := by decide +kernel
theorem dX5_tokenNumber_32 : decode cX5_tokenNumber 32 = .ok (.istore_n 1, 1) := by decide +kernel
theorem dX5_tokenNumber_33 : decode cX5_tokenNumber 33 = .ok (.iinc 2 1, 3) := by decide +kernel
theorem dX5_tokenNumber_36 : decode cX5_tokenNumber 36 = .ok (.goto (-29), 3) := by decide +kernel
theorem dX5_tokenNumber_39 : decode cX5_tokenNumber 39 = .ok (.iload_n 1, 1) := by decide +kernel
theorem dX5_tokenNumber_40 : decode cX5_tokenNumber 40 = .ok (.ireturn, 1) := by decide +kernel
theorem dX5_nextToken_0 : decode cX5_nextToken 0 = .ok (.aload_n 0, 1) := by decide +kernel
theorem dX5_nextToken_1 : decode cX5_nextToken 1 = .ok (.getfield 26, 3) := by decide +kernel
theorem dX5_nextToken_4 : decode cX5_nextToken 4 = .ok (.istore_n 1, 1) := by decide +kernel
theorem dX5_nextToken_5 : decode cX5_nextToken 5 = .ok (.iload_n 1, 1) := by decide +kernel
theorem dX5_nextToken_6 : decode cX5_nextToken 6 = .ok (.aload_n 0, 1) := by decide +kernel
theorem dX5_nextToken_7 : decode cX5_nextToken 7 = .ok (.getfield 18, 3) := by decide +kernel
theorem dX5_nextToken_10 : decode cX5_nextToken 10 = .ok (.getfield 70, 3) := by decide +kernel
theorem dX5_nextToken_13 : decode cX5_nextToken 13 = .ok (.if_icmp .ge 23, 3) := by decide +kernel
theorem dX5_nextToken_16 : decode cX5_nextToken 16 = .ok (.aload_n 0, 1) := by decide +kernel
theorem dX5_nextToken_17 : decode cX5_nextToken 17 = .ok (.getfield 18, 3) := by decide +kernel
theorem dX5_nextToken_20 : decode cX5_nextToken 20 = .ok (.getfield 65, 3) := by decide +kernel
theorem dX5_nextToken_23 : decode cX5_nextToken 23 = .ok (.iload_n 1, 1) := by decide +kernel
theorem dX5_nextToken_24 : decode cX5_nextToken 24 = .ok (.iaload, 1) := by decide +kernel
theorem dX5_nextToken_25 : decode cX5_nextToken 25 = .ok (.bipush 32, 2) := by decide +kernel
theorem dX5_nextToken_27 : decode cX5_nextToken 27 = .ok (.if_icmp .ne 9, 3) := by decide +kernel
theorem dX5_nextToken_30 : decode cX5_nextToken 30 = .ok (.iinc 1 1, 3) := by decide +kernel
theorem dX5_nextToken_33 : decode cX5_nextToken 33 = .ok (.goto (-28), 3) := by decide +kernel
theorem dX5_nextToken_36 : decode cX5_nextToken 36 = .ok (.aload_n 0, 1) := by decide +kernel
theorem dX5_nextToken_37 : decode cX5_nextToken 37 = .ok (.iload_n 1, 1) := by decide +kernel
theorem dX5_nextToken_38 : decode cX5_nextToken 38 = .ok (.putfield 33, 3) := by decide +kernel
theorem dX5_nextToken_41 : decode cX5_nextToken 41 = .ok (.iload_n 1, 1) := by decide +kernel
theorem dX5_nextToken_42 : decode cX5_nextToken 42 = .ok (.aload_n 0, 1) := by decide +kernel
theorem dX5_nextToken_43 : decode cX5_nextToken 43 = .ok (.getfield 18, 3) := by decide +kernel
theorem dX5_nextToken_46 : decode cX5_nextToken 46 = .ok (.getfield 70, 3) := by decide +kernel
theorem dX5_nextToken_49 : decode cX5_nextToken 49 = .ok (.if_icmp .lt 14, 3) := by decide +kernel
theorem dX5_nextToken_52 : decode cX5_nextToken 52 = .ok (.aload_n 0, 1) := by decide +kernel
theorem dX5_nextToken_53 : decode cX5_nextToken 53 = .ok (.iconst 0, 1) := by decide +kernel
theorem dX5_nextToken_54 : decode cX5_nextToken 54 = .ok (.putfield 43, 3) := by decide +kernel
theorem dX5_nextToken_57 : decode cX5_nextToken 57 = .ok (.aload_n 0, 1) := by decide +kernel
theorem dX5_nextToken_58 : decode cX5_nextToken 58 = .ok (.iload_n 1, 1) := by decide +kernel
theorem dX5_nextToken_59 : decode cX5_nextToken 59 = .ok (.putfield 26, 3) := by decide +kernel
theorem dX5_nextToken_62 : decode cX5_nextToken 62 = .ok (.return_, 1) := by decide +kernel
theorem dX5_nextToken_63 : decode cX5_nextToken 63 = .ok (.aload_n 0, 1) := by decide +kernel
theorem dX5_nextToken_64 : decode cX5_nextToken 64 = .ok (.aload_n 0, 1) := by decide +kernel
theorem dX5_nextToken_65 : decode cX5_nextToken 65 = .ok (.getfield 18, 3) := by decide +kernel
theorem dX5_nextToken_68 : decode cX5_nextToken 68 = .ok (.getfield 65, 3) := by decide +kernel
theorem dX5_nextToken_71 : decode cX5_nextToken 71 = .ok (.iload_n 1, 1) := by decide +kernel
theorem dX5_nextToken_72 : decode cX5_nextToken 72 = .ok (.iaload, 1) := by decide +kernel
theorem dX5_nextToken_73 : decode cX5_nextToken 73 = .ok (.invokestatic 73, 3) := by decide +kernel
theorem dX5_nextToken_76 : decode cX5_nextToken 76 = .ok (.putfield 43, 3) := by decide +kernel
theorem dX5_nextToken_79 : decode cX5_nextToken 79 = .ok (.iinc 1 1, 3) := by decide +kernel
theorem dX5_nextToken_82 : decode cX5_nextToken 82 = .ok (.aload_n 0, 1) := by decide +kernel
theorem dX5_nextToken_83 : decode cX5_nextToken 83 = .ok (.getfield 43, 3) := by decide +kernel
theorem dX5_nextToken_86 : decode cX5_nextToken 86 = .ok (.iconst 3, 1) := by decide +kernel
theorem dX5_nextToken_87 : decode cX5_nextToken 87 = .ok (.if_icmp .eq 39, 3) := by decide +kernel
theorem dX5_nextToken_90 : decode cX5_nextToken 90 = .ok (.iload_n 1, 1) := by decide +kernel
theorem dX5_nextToken_91 : decode cX5_nextToken 91 = .ok (.aload_n 0, 1) := by decide +kernel
theorem dX5_nextToken_92 : decode cX5_nextToken 92 = .ok (.getfield 18, 3) := by decide +kernel
theorem dX5_nextToken_95 : decode cX5_nextToken 95 = .ok (.getfield 70, 3) := by decide +kernel
theorem dX5_nextToken_98 : decode cX5_nextToken 98 = .ok (.if_icmp .ge 28, 3) := by decide +kernel
theorem dX5_nextToken_101 : decode cX5_nextToken 101 = .ok (.aload_n 0, 1) := by decide +kernel
theorem dX5_nextToken_102 : decode cX5_nextToken 102 = .ok (.getfield 18, 3) := by decide +kernel
theorem dX5_nextToken_105 : decode cX5_nextToken 105 = .ok (.getfield 65, 3) := by decide +kernel
theorem dX5_nextToken_108 : decode cX5_nextToken 108 = .ok (.iload_n 1, 1) := by decide +kernel
theorem dX5_nextToken_109 : decode cX5_nextToken 109 = .ok (.iaload, 1) := by decide +kernel
theorem dX5_nextToken_110 : decode cX5_nextToken 110 = .ok (.invokestatic 73, 3) := by decide +kernel
theorem dX5_nextToken_113 : decode cX5_nextToken 113 = .ok (.aload_n 0, 1) := by decide +kernel
theorem dX5_nextToken_114 : decode cX5_nextToken 114 = .ok (.getfield 43, 3) := by decide +kernel
theorem dX5_nextToken_117 : decode cX5_nextToken 117 = .ok (.if_icmp .ne 9, 3) := by decide +kernel
theorem dX5_nextToken_120 : decode cX5_nextToken 120 = .ok (.iinc 1 1, 3) := by decide +kernel
theorem dX5_nextToken_123 : decode cX5_nextToken 123 = .ok (.goto (-41), 3) := by decide +kernel
theorem dX5_nextToken_126 : decode cX5_nextToken 126 = .ok (.aload_n 0, 1) := by decide +kernel
theorem dX5_nextToken_127 : decode cX5_nextToken 127 = .ok (.iload_n 1, 1) := by decide +kernel
theorem dX5_nextToken_128 : decode cX5_nextToken 128 = .ok (.putfield 26, 3) := by decide +kernel
theorem dX5_nextToken_131 : decode cX5_nextToken 131 = .ok (.return_, 1) := by decide +kernel
theorem dX5_sortOf_0 : decode cX5_sortOf 0 = .ok (.iload_n 0, 1) := by decide +kernel
theorem dX5_sortOf_1 : decode cX5_sortOf 1 = .ok (.bipush 97, 2) := by decide +kernel
theorem dX5_sortOf_3 : decode cX5_sortOf 3 = .ok (.if_icmp .lt 11, 3) := by decide +kernel
theorem dX5_sortOf_6 : decode cX5_sortOf 6 = .ok (.iload_n 0, 1) := by decide +kernel
theorem dX5_sortOf_7 : decode cX5_sortOf 7 = .ok (.bipush 122, 2) := by decide +kernel
theorem dX5_sortOf_9 : decode cX5_sortOf 9 = .ok (.if_icmp .gt 5, 3) := by decide +kernel
theorem dX5_sortOf_12 : decode cX5_sortOf 12 = .ok (.iconst 1, 1) := by decide +kernel
theorem dX5_sortOf_13 : decode cX5_sortOf 13 = .ok (.ireturn, 1) := by decide +kernel
theorem dX5_sortOf_14 : decode cX5_sortOf 14 = .ok (.iload_n 0, 1) := by decide +kernel
theorem dX5_sortOf_15 : decode cX5_sortOf 15 = .ok (.bipush 48, 2) := by decide +kernel
theorem dX5_sortOf_17 : decode cX5_sortOf 17 = .ok (.if_icmp .lt 13, 3) := by decide +kernel
theorem dX5_sortOf_20 : decode cX5_sortOf 20 = .ok (.iload_n 0, 1) := by decide +kernel
theorem dX5_sortOf_21 : decode cX5_sortOf 21 = .ok (.bipush 57, 2) := by decide +kernel
theorem dX5_sortOf_23 : decode cX5_sortOf 23 = .ok (.if_icmp .gt 7, 3) := by decide +kernel
theorem dX5_sortOf_26 : decode cX5_sortOf 26 = .ok (.iconst 2, 1) := by decide +kernel
theorem dX5_sortOf_27 : decode cX5_sortOf 27 = .ok (.goto 4, 3) := by decide +kernel
theorem dX5_sortOf_30 : decode cX5_sortOf 30 = .ok (.iconst 3, 1) := by decide +kernel
theorem dX5_sortOf_31 : decode cX5_sortOf 31 = .ok (.ireturn, 1) := by decide +kernel
theorem dX5_isSemicolon_0 : decode cX5_isSemicolon 0 = .ok (.aload_n 0, 1) := by decide +kernel
theorem dX5_isSemicolon_1 : decode cX5_isSemicolon 1 = .ok (.getfield 43, 3) := by decide +kernel
theorem dX5_isSemicolon_4 : decode cX5_isSemicolon 4 = .ok (.iconst 3, 1) := by decide +kernel
theorem dX5_isSemicolon_5 : decode cX5_isSemicolon 5 = .ok (.if_icmp .ne 24, 3) := by decide +kernel
theorem dX5_isSemicolon_8 : decode cX5_isSemicolon 8 = .ok (.aload_n 0, 1) := by decide +kernel
theorem dX5_isSemicolon_9 : decode cX5_isSemicolon 9 = .ok (.getfield 18, 3) := by decide +kernel
theorem dX5_isSemicolon_12 : decode cX5_isSemicolon 12 = .ok (.getfield 65, 3) := by decide +kernel
theorem dX5_isSemicolon_15 : decode cX5_isSemicolon 15 = .ok (.aload_n 0, 1) := by decide +kernel
theorem dX5_isSemicolon_16 : decode cX5_isSemicolon 16 = .ok (.getfield 33, 3) := by decide +kernel
theorem dX5_isSemicolon_19 : decode cX5_isSemicolon 19 = .ok (.iaload, 1) := by decide +kernel
theorem dX5_isSemicolon_20 : decode cX5_isSemicolon 20 = .ok (.bipush 59, 2) := by decide +kernel
theorem dX5_isSemicolon_22 : decode cX5_isSemicolon 22 = .ok (.if_icmp .ne 7, 3) := by decide +kernel
theorem dX5_isSemicolon_25 : decode cX5_isSemicolon 25 = .ok (.iconst 1, 1) := by decide +kernel
theorem dX5_isSemicolon_26 : decode cX5_isSemicolon 26 = .ok (.goto 4, 3) := by decide +kernel
theorem dX5_isSemicolon_29 : decode cX5_isSemicolon 29 = .ok (.iconst 0, 1) := by decide +kernel
theorem dX5_isSemicolon_30 : decode cX5_isSemicolon 30 = .ok (.ireturn, 1) := by decide +kernel
theorem dX5_kindOfToken_0 : decode cX5_kindOfToken 0 = .ok (.aload_n 0, 1) := by decide +kernel
theorem dX5_kindOfToken_1 : decode cX5_kindOfToken 1 = .ok (.getfield 43, 3) := by decide +kernel
theorem dX5_kindOfToken_4 : decode cX5_kindOfToken 4 = .ok (.iconst 1, 1) := by decide +kernel
theorem dX5_kindOfToken_5 : decode cX5_kindOfToken 5 = .ok (.if_icmp .eq 5, 3) := by decide +kernel
theorem dX5_kindOfToken_8 : decode cX5_kindOfToken 8 = .ok (.iconst (-1), 1) := by decide +kernel
theorem dX5_kindOfToken_9 : decode cX5_kindOfToken 9 = .ok (.ireturn, 1) := by decide +kernel
theorem dX5_kindOfToken_10 : decode cX5_kindOfToken 10 = .ok (.iconst 0, 1) := by decide +kernel
theorem dX5_kindOfToken_11 : decode cX5_kindOfToken 11 = .ok (.istore_n 1, 1) := by decide +kernel
theorem dX5_kindOfToken_12 : decode cX5_kindOfToken 12 = .ok (.iload_n 1, 1) := by decide +kernel
theorem dX5_kindOfToken_13 : decode cX5_kindOfToken 13 = .ok (.iconst 5, 1) := by decide +kernel
theorem dX5_kindOfToken_14 : decode cX5_kindOfToken 14 = .ok (.if_icmp .ge 22, 3) := by decide +kernel
theorem dX5_kindOfToken_17 : decode cX5_kindOfToken 17 = .ok (.aload_n 0, 1) := by decide +kernel
theorem dX5_kindOfToken_18 : decode cX5_kindOfToken 18 = .ok (.iload_n 1, 1) := by decide +kernel
theorem dX5_kindOfToken_19 : decode cX5_kindOfToken 19 = .ok (.invokestatic 76, 3) := by decide +kernel
theorem dX5_kindOfToken_22 : decode cX5_kindOfToken 22 = .ok (.invokevirtual 80, 3) := by decide +kernel
theorem dX5_kindOfToken_25 : decode cX5_kindOfToken 25 = .ok (.ifCond .eq 5, 3) := by decide +kernel
theorem dX5_kindOfToken_28 : decode cX5_kindOfToken 28 = .ok (.iload_n 1, 1) := by decide +kernel
theorem dX5_kindOfToken_29 : decode cX5_kindOfToken 29 = .ok (.ireturn, 1) := by decide +kernel
theorem dX5_kindOfToken_30 : decode cX5_kindOfToken 30 = .ok (.iinc 1 1, 3) := by decide +kernel
theorem dX5_kindOfToken_33 : decode cX5_kindOfToken 33 = .ok (.goto (-21), 3) := by decide +kernel
theorem dX5_kindOfToken_36 : decode cX5_kindOfToken 36 = .ok (.iconst (-1), 1) := by decide +kernel
theorem dX5_kindOfToken_37 : decode cX5_kindOfToken 37 = .ok (.ireturn, 1) := by decide +kernel
theorem dX5_tokenIs_0 : decode cX5_tokenIs 0 = .ok (.aload_n 0, 1) := by decide +kernel
theorem dX5_tokenIs_1 : decode cX5_tokenIs 1 = .ok (.getfield 26, 3) := by decide +kernel
theorem dX5_tokenIs_4 : decode cX5_tokenIs 4 = .ok (.aload_n 0, 1) := by decide +kernel
theorem dX5_tokenIs_5 : decode cX5_tokenIs 5 = .ok (.getfield 33, 3) := by decide +kernel
theorem dX5_tokenIs_8 : decode cX5_tokenIs 8 = .ok (.isub, 1) := by decide +kernel
theorem dX5_tokenIs_9 : decode cX5_tokenIs 9 = .ok (.aload_n 1, 1) := by decide +kernel
theorem dX5_tokenIs_10 : decode cX5_tokenIs 10 = .ok (.invokevirtual 84, 3) := by decide +kernel
theorem dX5_tokenIs_13 : decode cX5_tokenIs 13 = .ok (.if_icmp .eq 5, 3) := by decide +kernel
theorem dX5_tokenIs_16 : decode cX5_tokenIs 16 = .ok (.iconst 0, 1) := by decide +kernel
theorem dX5_tokenIs_17 : decode cX5_tokenIs 17 = .ok (.ireturn, 1) := by decide +kernel
theorem dX5_tokenIs_18 : decode cX5_tokenIs 18 = .ok (.iconst 0, 1) := by decide +kernel
theorem dX5_tokenIs_19 : decode cX5_tokenIs 19 = .ok (.istore_n 2, 1) := by decide +kernel
theorem dX5_tokenIs_20 : decode cX5_tokenIs 20 = .ok (.iload_n 2, 1) := by decide +kernel
theorem dX5_tokenIs_21 : decode cX5_tokenIs 21 = .ok (.aload_n 1, 1) := by decide +kernel
theorem dX5_tokenIs_22 : decode cX5_tokenIs 22 = .ok (.invokevirtual 84, 3) := by decide +kernel
theorem dX5_tokenIs_25 : decode cX5_tokenIs 25 = .ok (.if_icmp .ge 33, 3) := by decide +kernel
theorem dX5_tokenIs_28 : decode cX5_tokenIs 28 = .ok (.aload_n 0, 1) := by decide +kernel
theorem dX5_tokenIs_29 : decode cX5_tokenIs 29 = .ok (.getfield 18, 3) := by decide +kernel
theorem dX5_tokenIs_32 : decode cX5_tokenIs 32 = .ok (.getfield 65, 3) := by decide +kernel
theorem dX5_tokenIs_35 : decode cX5_tokenIs 35 = .ok (.aload_n 0, 1) := by decide +kernel
theorem dX5_tokenIs_36 : decode cX5_tokenIs 36 = .ok (.getfield 33, 3) := by decide +kernel
theorem dX5_tokenIs_39 : decode cX5_tokenIs 39 = .ok (.iload_n 2, 1) := by decide +kernel
theorem dX5_tokenIs_40 : decode cX5_tokenIs 40 = .ok (.iadd, 1) := by decide +kernel
theorem dX5_tokenIs_41 : decode cX5_tokenIs 41 = .ok (.iaload, 1) := by decide +kernel
theorem dX5_tokenIs_42 : decode cX5_tokenIs 42 = .ok (.aload_n 1, 1) := by decide +kernel
theorem dX5_tokenIs_43 : decode cX5_tokenIs 43 = .ok (.iload_n 2, 1) := by decide +kernel
theorem dX5_tokenIs_44 : decode cX5_tokenIs 44 = .ok (.invokevirtual 88, 3) := by decide +kernel
theorem dX5_tokenIs_47 : decode cX5_tokenIs 47 = .ok (.if_icmp .eq 5, 3) := by decide +kernel
theorem dX5_tokenIs_50 : decode cX5_tokenIs 50 = .ok (.iconst 0, 1) := by decide +kernel
theorem dX5_tokenIs_51 : decode cX5_tokenIs 51 = .ok (.ireturn, 1) := by decide +kernel
theorem dX5_tokenIs_52 : decode cX5_tokenIs 52 = .ok (.iinc 2 1, 3) := by decide +kernel
theorem dX5_tokenIs_55 : decode cX5_tokenIs 55 = .ok (.goto (-35), 3) := by decide +kernel
theorem dX5_tokenIs_58 : decode cX5_tokenIs 58 = .ok (.iconst 1, 1) := by decide +kernel
theorem dX5_tokenIs_59 : decode cX5_tokenIs 59 = .ok (.ireturn, 1) := by decide +kernel
theorem dX5_wordOf_0 : decode cX5_wordOf 0 = .ok (.iload_n 0, 1) := by decide +kernel
theorem dX5_wordOf_1 : decode cX5_wordOf 1 = .ok (.tableswitch 43 0 3 #[31, 34, 37, 40], 31) := by decide +kernel
theorem dX5_wordOf_32 : decode cX5_wordOf 32 = .ok (.ldc 92, 2) := by decide +kernel
theorem dX5_wordOf_34 : decode cX5_wordOf 34 = .ok (.areturn, 1) := by decide +kernel
theorem dX5_wordOf_35 : decode cX5_wordOf 35 = .ok (.ldc 94, 2) := by decide +kernel
theorem dX5_wordOf_37 : decode cX5_wordOf 37 = .ok (.areturn, 1) := by decide +kernel
theorem dX5_wordOf_38 : decode cX5_wordOf 38 = .ok (.ldc 96, 2) := by decide +kernel
theorem dX5_wordOf_40 : decode cX5_wordOf 40 = .ok (.areturn, 1) := by decide +kernel
theorem dX5_wordOf_41 : decode cX5_wordOf 41 = .ok (.ldc 98, 2) := by decide +kernel
theorem dX5_wordOf_43 : decode cX5_wordOf 43 = .ok (.areturn, 1) := by decide +kernel
theorem dX5_wordOf_44 : decode cX5_wordOf 44 = .ok (.ldc 100, 2) := by decide +kernel
theorem dX5_wordOf_46 : decode cX5_wordOf 46 = .ok (.areturn, 1) := by decide +kernel
theorem dX5_numbersOf_0 : decode cX5_numbersOf 0 = .ok (.iload_n 0, 1) := by decide +kernel
theorem dX5_numbersOf_1 : decode cX5_numbersOf 1 = .ok (.lookupswitch 31 #[(0, 27), (1, 29)], 27) := by decide +kernel
theorem dX5_numbersOf_28 : decode cX5_numbersOf 28 = .ok (.iconst 1, 1) := by decide +kernel
theorem dX5_numbersOf_29 : decode cX5_numbersOf 29 = .ok (.ireturn, 1) := by decide +kernel
theorem dX5_numbersOf_30 : decode cX5_numbersOf 30 = .ok (.iconst 2, 1) := by decide +kernel
theorem dX5_numbersOf_31 : decode cX5_numbersOf 31 = .ok (.ireturn, 1) := by decide +kernel
theorem dX5_numbersOf_32 : decode cX5_numbersOf 32 = .ok (.iconst 3, 1) := by decide +kernel
theorem dX5_numbersOf_33 : decode cX5_numbersOf 33 = .ok (.ireturn, 1) := by decide +kernel
end
section
theorem dX6_init_0 : decode cX6_init 0 = .ok (.aload_n 0, 1) := by decide +kernel
theorem dX6_init_1 : decode cX6_init 1 = .ok (.invokespecial 1, 3) := by decide +kernel
theorem dX6_init_4 : decode cX6_init 4 = .ok (.aload_n 0, 1) := by decide +kernel
theorem dX6_init_5 : decode cX6_init 5 = .ok (.new 7, 3) := by decide +kernel
theorem dX6_init_8 : decode cX6_init 8 = .ok (.dup, 1) := by decide +kernel
theorem dX6_init_9 : decode cX6_init 9 = .ok (.invokespecial 9, 3) := by decide +kernel
theorem dX6_init_12 : decode cX6_init 12 = .ok (.putfield 10, 3) := by decide +kernel
theorem dX6_init_15 : decode cX6_init 15 = .ok (.aload_n 0, 1) := by decide +kernel
theorem dX6_init_16 : decode cX6_init 16 = .ok (.new 16, 3) := by decide +kernel
theorem dX6_init_19 : decode cX6_init 19 = .ok (.dup, 1) := by decide +kernel
theorem dX6_init_20 : decode cX6_init 20 = .ok (.aload_n 0, 1) := by decide +kernel
theorem dX6_init_21 : decode cX6_init 21 = .ok (.getfield 10, 3) := by decide +kernel
theorem dX6_init_24 : decode cX6_init 24 = .ok (.invokespecial 18, 3) := by decide +kernel
theorem dX6_init_27 : decode cX6_init 27 = .ok (.putfield 21, 3) := by decide +kernel
theorem dX6_init_30 : decode cX6_init 30 = .ok (.aload_n 0, 1) := by decide +kernel
theorem dX6_init_31 : decode cX6_init 31 = .ok (.new 25, 3) := by decide +kernel
theorem dX6_init_34 : decode cX6_init 34 = .ok (.dup, 1) := by decide +kernel
theorem dX6_init_35 : decode cX6_init 35 = .ok (.invokespecial 27, 3) := by decide +kernel
theorem dX6_init_38 : decode cX6_init 38 = .ok (.putfield 28, 3) := by decide +kernel
theorem dX6_init_41 : decode cX6_init 41 = .ok (.aload_n 0, 1) := by decide +kernel
theorem dX6_init_42 : decode cX6_init 42 = .ok (.new 32, 3) := by decide +kernel
theorem dX6_init_45 : decode cX6_init 45 = .ok (.dup, 1) := by decide +kernel
theorem dX6_init_46 : decode cX6_init 46 = .ok (.invokespecial 34, 3) := by decide +kernel
theorem dX6_init_49 : decode cX6_init 49 = .ok (.putfield 35, 3) := by decide +kernel
theorem dX6_init_52 : decode cX6_init 52 = .ok (.aload_n 0, 1) := by decide +kernel
theorem dX6_init_53 : decode cX6_init 53 = .ok (.iconst 2, 1) := by decide +kernel
theorem dX6_init_54 : decode cX6_init 54 = .ok (.anewarray 25, 3) := by decide +kernel
theorem dX6_init_57 : decode cX6_init 57 = .ok (.putfield 39, 3) := by decide +kernel
theorem dX6_init_60 : decode cX6_init 60 = .ok (.iconst 0, 1) := by decide +kernel
theorem dX6_init_61 : decode cX6_init 61 = .ok (.istore_n 1, 1) := by decide +kernel
theorem dX6_init_62 : decode cX6_init 62 = .ok (.iload_n 1, 1) := by decide +kernel
theorem dX6_init_63 : decode cX6_init 63 = .ok (.iconst 2, 1) := by decide +kernel
theorem dX6_init_64 : decode cX6_init 64 = .ok (.if_icmp .ge 22, 3) := by decide +kernel
theorem dX6_init_67 : decode cX6_init 67 = .ok (.aload_n 0, 1) := by decide +kernel
theorem dX6_init_68 : decode cX6_init 68 = .ok (.getfield 39, 3) := by decide +kernel
theorem dX6_init_71 : decode cX6_init 71 = .ok (.iload_n 1, 1) := by decide +kernel
theorem dX6_init_72 : decode cX6_init 72 = .ok (.new 25, 3) := by decide +kernel
theorem dX6_init_75 : decode cX6_init 75 = .ok (.dup, 1) := by decide +kernel
theorem dX6_init_76 : decode cX6_init 76 = .ok (.invokespecial 27, 3) := by decide +kernel
theorem dX6_init_79 : decode cX6_init 79 = .ok (.aastore, 1) := by decide +kernel
theorem dX6_init_80 : decode cX6_init 80 = .ok (.iinc 1 1, 3) := by decide +kernel
theorem dX6_init_83 : decode cX6_init 83 = .ok (.goto (-21), 3) := by decide +kernel
theorem dX6_init_86 : decode cX6_init 86 = .ok (.aload_n 0, 1) := by decide +kernel
theorem dX6_init_87 : decode cX6_init 87 = .ok (.iconst 0, 1) := by decide +kernel
theorem dX6_init_88 : decode cX6_init 88 = .ok (.putfield 43, 3) := by decide +kernel
theorem dX6_init_91 : decode cX6_init 91 = .ok (.aload_n 0, 1) := by decide +kernel
theorem dX6_init_92 : decode cX6_init 92 = .ok (.new 47, 3) := by decide +kernel
theorem dX6_init_95 : decode cX6_init 95 = .ok (.dup, 1) := by decide +kernel
theorem dX6_init_96 : decode cX6_init 96 = .ok (.invokespecial 49, 3) := by decide +kernel
theorem dX6_init_99 : decode cX6_init 99 = .ok (.putfield 50, 3) := by decide +kernel
theorem dX6_init_102 : decode cX6_init 102 = .ok (.aload_n 0, 1) := by decide +kernel
theorem dX6_init_103 : decode cX6_init 103 = .ok (.iconst 3, 1) := by decide +kernel
theorem dX6_init_104 : decode cX6_init 104 = .ok (.anewarray 54, 3) := by decide +kernel
theorem dX6_init_107 : decode cX6_init 107 = .ok (.putfield 56, 3) := by decide +kernel
theorem dX6_init_110 : decode cX6_init 110 = .ok (.iconst 0, 1) := by decide +kernel
theorem dX6_init_111 : decode cX6_init 111 = .ok (.istore_n 1, 1) := by decide +kernel
theorem dX6_init_112 : decode cX6_init 112 = .ok (.iload_n 1, 1) := by decide +kernel
theorem dX6_init_113 : decode cX6_init 113 = .ok (.iconst 3, 1) := by decide +kernel
theorem dX6_init_114 : decode cX6_init 114 = .ok (.if_icmp .ge 22, 3) := by decide +kernel
theorem dX6_init_117 : decode cX6_init 117 = .ok (.aload_n 0, 1) := by decide +kernel
theorem dX6_init_118 : decode cX6_init 118 = .ok (.getfield 56, 3) := by decide +kernel
theorem dX6_init_121 : decode cX6_init 121 = .ok (.iload_n 1, 1) := by decide +kernel
theorem dX6_init_122 : decode cX6_init 122 = .ok (.new 54, 3) := by decide +kernel
theorem dX6_init_125 : decode cX6_init 125 = .ok (.dup, 1) := by decide +kernel
theorem dX6_init_126 : decode cX6_init 126 = .ok (.invokespecial 60, 3) := by decide +kernel
theorem dX6_init_129 : decode cX6_init 129 = .ok (.aastore, 1) := by decide +kernel
theorem dX6_init_130 : decode cX6_init 130 = .ok (.iinc 1 1, 3) := by decide +kernel
theorem dX6_init_133 : decode cX6_init 133 = .ok (.goto (-21), 3) := by decide +kernel
theorem dX6_init_136 : decode cX6_init 136 = .ok (.return_, 1) := by decide +kernel
theorem dX6_write_0 : decode cX6_write 0 = .ok (.iload_n 1, 1) := by decide +kernel
theorem dX6_write_1 : decode cX6_write 1 = .ok (.ifCond .lt 10, 3) := by decide +kernel
theorem dX6_write_4 : decode cX6_write 4 = .ok (.iload_n 1, 1) := by decide +kernel
theorem dX6_write_5 : decode cX6_write 5 = .ok (.sipush 255, 3) := by decide +kernel
theorem dX6_write_8 : decode cX6_write 8 = .ok (.if_icmp .le 6, 3) := by decide +kernel
theorem dX6_write_11 : decode cX6_write 11 = .ok (.bipush (-3), 2) := by decide +kernel
theorem dX6_write_13 : decode cX6_write 13 = .ok (.ireturn, 1) := by decide +kernel
theorem dX6_write_14 : decode cX6_write 14 = .ok (.aload_n 0, 1) := by decide +kernel
theorem dX6_write_15 : decode cX6_write 15 = .ok (.getfield 10, 3) := by decide +kernel
theorem dX6_write_18 : decode cX6_write 18 = .ok (.getfield 61, 3) := by decide +kernel
theorem dX6_write_21 : decode cX6_write 21 = .ok (.sipush 200, 3) := by decide +kernel
theorem dX6_write_24 : decode cX6_write 24 = .ok (.if_icmp .lt 6, 3) := by decide +kernel
theorem dX6_write_27 : decode cX6_write 27 = .ok (.bipush (-5), 2) := by decide +kernel
theorem dX6_write_29 : decode cX6_write 29 = .ok (.ireturn, 1) := by decide +kernel
theorem dX6_write_30 : decode cX6_write 30 = .ok (.aload_n 0, 1) := by decide +kernel
theorem dX6_write_31 : decode cX6_write 31 = .ok (.getfield 10, 3) := by decide +kernel
theorem dX6_write_34 : decode cX6_write 34 = .ok (.getfield 64, 3) := by decide +kernel
theorem dX6_write_37 : decode cX6_write 37 = .ok (.aload_n 0, 1) := by decide +kernel
theorem dX6_write_38 : decode cX6_write 38 = .ok (.getfield 10, 3) := by decide +kernel
theorem dX6_write_41 : decode cX6_write 41 = .ok (.getfield 61, 3) := by decide +kernel
theorem dX6_write_44 : decode cX6_write 44 = .ok (.iload_n 1, 1) := by decide +kernel
theorem dX6_write_45 : decode cX6_write 45 = .ok (.iastore, 1) := by decide +kernel
theorem dX6_write_46 : decode cX6_write 46 = .ok (.aload_n 0, 1) := by decide +kernel
theorem dX6_write_47 : decode cX6_write 47 = .ok (.getfield 10, 3) := by decide +kernel
theorem dX6_write_50 : decode cX6_write 50 = .ok (.dup, 1) := by decide +kernel
theorem dX6_write_51 : decode cX6_write 51 = .ok (.getfield 61, 3) := by decide +kernel
theorem dX6_write_54 : decode cX6_write 54 = .ok (.iconst 1, 1) := by decide +kernel
theorem dX6_write_55 : decode cX6_write 55 = .ok (.iadd, 1) := by decide +kernel
theorem dX6_write_56 : decode cX6_write 56 = .ok (.putfield 61, 3) := by decide +kernel
theorem dX6_write_59 : decode cX6_write 59 = .ok (.aload_n 0, 1) := by decide +kernel
theorem dX6_write_60 : decode cX6_write 60 = .ok (.getfield 10, 3) := by decide +kernel
theorem dX6_write_63 : decode cX6_write 63 = .ok (.getfield 61, 3) := by decide +kernel
theorem dX6_write_66 : decode cX6_write 66 = .ok (.ireturn, 1) := by decide +kernel
theorem dX6_erase_0 : decode cX6_erase 0 = .ok (.aload_n 0, 1) := by decide +kernel
theorem dX6_erase_1 : decode cX6_erase 1 = .ok (.getfield 10, 3) := by decide +kernel
theorem dX6_erase_4 : decode cX6_erase 4 = .ok (.getfield 61, 3) := by decide +kernel
theorem dX6_erase_7 : decode cX6_erase 7 = .ok (.istore_n 1, 1) := by decide +kernel
theorem dX6_erase_8 : decode cX6_erase 8 = .ok (.aload_n 0, 1) := by decide +kernel
theorem dX6_erase_9 : decode cX6_erase 9 = .ok (.getfield 10, 3) := by decide +kernel
theorem dX6_erase_12 : decode cX6_erase 12 = .ok (.iconst 0, 1) := by decide +kernel
theorem dX6_erase_13 : decode cX6_erase 13 = .ok (.putfield 61, 3) := by decide +kernel
theorem dX6_erase_16 : decode cX6_erase 16 = .ok (.iload_n 1, 1) := by decide +kernel
theorem dX6_erase_17 : decode cX6_erase 17 = .ok (.ireturn, 1) := by decide +kernel
theorem dX6_fault_0 : decode cX6_fault 0 = .ok (.aload_n 0, 1) := by decide +kernel
theorem dX6_fault_1 : decode cX6_fault 1 = .ok (.getfield 21, 3) := by decide +kernel
theorem dX6_fault_4 : decode cX6_fault 4 = .ok (.aload_n 0, 1) := by decide +kernel
theorem dX6_fault_5 : decode cX6_fault 5 = .ok (.getfield 28, 3) := by decide +kernel
theorem dX6_fault_8 : decode cX6_fault 8 = .ok (.getfield 68, 3) := by decide +kernel
theorem dX6_fault_11 : decode cX6_fault 11 = .ok (.invokevirtual 71, 3) := by decide +kernel
theorem dX6_fault_14 : decode cX6_fault 14 = .ok (.ireturn, 1) := by decide +kernel
theorem dX6_net_0 : decode cX6_net 0 = .ok (.aload_n 0, 1) := by decide +kernel
theorem dX6_net_1 : decode cX6_net 1 = .ok (.getfield 21, 3) := by decide +kernel
theorem dX6_net_4 : decode cX6_net 4 = .ok (.aload_n 0, 1) := by decide +kernel
theorem dX6_net_5 : decode cX6_net 5 = .ok (.getfield 28, 3) := by decide +kernel
theorem dX6_net_8 : decode cX6_net 8 = .ok (.getfield 68, 3) := by decide +kernel
theorem dX6_net_11 : decode cX6_net 11 = .ok (.invokevirtual 71, 3) := by decide +kernel
theorem dX6_net_14 : decode cX6_net 14 = .ok (.iconst (-1), 1) := by decide +kernel
theorem dX6_net_15 : decode cX6_net 15 = .ok (.if_icmp .eq 6, 3) := by decide +kernel
theorem dX6_net_18 : decode cX6_net 18 = .ok (.bipush (-4), 2) := by decide +kernel
theorem dX6_net_20 : decode cX6_net 20 = .ok (.ireturn, 1) := by decide +kernel
theorem dX6_net_21 : decode cX6_net 21 = .ok (.iconst 0, 1) := by decide +kernel
theorem dX6_net_22 : decode cX6_net 22 = .ok (.istore_n 1, 1) := by decide +kernel
theorem dX6_net_23 : decode cX6_net 23 = .ok (.iload_n 1, 1) := by decide +kernel
theorem dX6_net_24 : decode cX6_net 24 = .ok (.aload_n 0, 1) := by decide +kernel
theorem dX6_net_25 : decode cX6_net 25 = .ok (.getfield 21, 3) := by decide +kernel
theorem dX6_net_28 : decode cX6_net 28 = .ok (.getfield 75, 3) := by decide +kernel
theorem dX6_net_31 : decode cX6_net 31 = .ok (.if_icmp .ge 14, 3) := by decide +kernel
theorem dX6_net_34 : decode cX6_net 34 = .ok (.aload_n 0, 1) := by decide +kernel
theorem dX6_net_35 : decode cX6_net 35 = .ok (.iload_n 1, 1) := by decide +kernel
theorem dX6_net_36 : decode cX6_net 36 = .ok (.invokevirtual 78, 3) := by decide +kernel
theorem dX6_net_39 : decode cX6_net 39 = .ok (.iinc 1 1, 3) := by decide +kernel
theorem dX6_net_42 : decode cX6_net 42 = .ok (.goto (-19), 3) := by decide +kernel
theorem dX6_net_45 : decode cX6_net 45 = .ok (.aload_n 0, 1) := by decide +kernel
theorem dX6_net_46 : decode cX6_net 46 = .ok (.getfield 10, 3) := by decide +kernel
theorem dX6_net_49 : decode cX6_net 49 = .ok (.iconst 0, 1) := by decide +kernel
theorem dX6_net_50 : decode cX6_net 50 = .ok (.putfield 61, 3) := by decide +kernel
theorem dX6_net_53 : decode cX6_net 53 = .ok (.aload_n 0, 1) := by decide +kernel
theorem dX6_net_54 : decode cX6_net 54 = .ok (.getfield 35, 3) := by decide +kernel
theorem dX6_net_57 : decode cX6_net 57 = .ok (.invokevirtual 82, 3) := by decide +kernel
theorem dX6_net_60 : decode cX6_net 60 = .ok (.aload_n 0, 1) := by decide +kernel
theorem dX6_net_61 : decode cX6_net 61 = .ok (.iconst 0, 1) := by decide +kernel
theorem dX6_net_62 : decode cX6_net 62 = .ok (.putfield 43, 3) := by decide +kernel
theorem dX6_net_65 : decode cX6_net 65 = .ok (.iconst 0, 1) := by decide +kernel
theorem dX6_net_66 : decode cX6_net 66 = .ok (.istore_n 1, 1) := by decide +kernel
theorem dX6_net_67 : decode cX6_net 67 = .ok (.iload_n 1, 1) := by decide +kernel
theorem dX6_net_68 : decode cX6_net 68 = .ok (.iconst 3, 1) := by decide +kernel
theorem dX6_net_69 : decode cX6_net 69 = .ok (.if_icmp .ge 18, 3) := by decide +kernel
theorem dX6_net_72 : decode cX6_net 72 = .ok (.aload_n 0, 1) := by decide +kernel
theorem dX6_net_73 : decode cX6_net 73 = .ok (.getfield 56, 3) := by decide +kernel
theorem dX6_net_76 : decode cX6_net 76 = .ok (.iload_n 1, 1) := by decide +kernel
theorem dX6_net_77 : decode cX6_net 77 = .ok (.aaload, 1) := by decide +kernel
theorem dX6_net_78 : decode cX6_net 78 = .ok (.invokevirtual 85, 3) := by decide +kernel
theorem dX6_net_81 : decode cX6_net 81 = .ok (.iinc 1 1, 3) := by decide +kernel
theorem dX6_net_84 : decode cX6_net 84 = .ok (.goto (-17), 3) := by decide +kernel
theorem dX6_net_87 : decode cX6_net 87 = .ok (.aload_n 0, 1) := by decide +kernel
theorem dX6_net_88 : decode cX6_net 88 = .ok (.getfield 21, 3) := by decide +kernel
theorem dX6_net_91 : decode cX6_net 91 = .ok (.getfield 75, 3) := by decide +kernel
theorem dX6_net_94 : decode cX6_net 94 = .ok (.ireturn, 1) := by decide +kernel
theorem dX6_doClause_0 : decode cX6_doClause 0 = .ok (.aload_n 0, 1) := by decide +kernel
theorem dX6_doClause_1 : decode cX6_doClause 1 = .ok (.getfield 21, 3) := by decide +kernel
theorem dX6_doClause_4 : decode cX6_doClause 4 = .ok (.iload_n 1, 1) := by decide +kernel
theorem dX6_doClause_5 : decode cX6_doClause 5 = .ok (.iconst 0, 1) := by decide +kernel
theorem dX6_doClause_6 : decode cX6_doClause 6 = .ok (.invokevirtual 88, 3) := by decide +kernel
theorem dX6_doClause_9 : decode cX6_doClause 9 = .ok (.istore_n 2, 1) := by decide +kernel
theorem dX6_doClause_10 : decode cX6_doClause 10 = .ok (.aload_n 0, 1) := by decide +kernel
theorem dX6_doClause_11 : decode cX6_doClause 11 = .ok (.getfield 21, 3) := by decide +kernel
theorem dX6_doClause_14 : decode cX6_doClause 14 = .ok (.iload_n 1, 1) := by decide +kernel
theorem dX6_doClause_15 : decode cX6_doClause 15 = .ok (.iconst 1, 1) := by decide +kernel
theorem dX6_doClause_16 : decode cX6_doClause 16 = .ok (.invokevirtual 88, 3) := by decide +kernel
theorem dX6_doClause_19 : decode cX6_doClause 19 = .ok (.istore_n 3, 1) := by decide +kernel
theorem dX6_doClause_20 : decode cX6_doClause 20 = .ok (.aload_n 0, 1) := by decide +kernel
theorem dX6_doClause_21 : decode cX6_doClause 21 = .ok (.getfield 21, 3) := by decide +kernel
theorem dX6_doClause_24 : decode cX6_doClause 24 = .ok (.iload_n 1, 1) := by decide +kernel
theorem dX6_doClause_25 : decode cX6_doClause 25 = .ok (.iconst 2, 1) := by decide +kernel
theorem dX6_doClause_26 : decode cX6_doClause 26 = .ok (.invokevirtual 88, 3) := by decide +kernel
theorem dX6_doClause_29 : decode cX6_doClause 29 = .ok (.istore 4, 2) := by decide +kernel
theorem dX6_doClause_31 : decode cX6_doClause 31 = .ok (.aload_n 0, 1) := by decide +kernel
theorem dX6_doClause_32 : decode cX6_doClause 32 = .ok (.getfield 21, 3) := by decide +kernel
theorem dX6_doClause_35 : decode cX6_doClause 35 = .ok (.getfield 92, 3) := by decide +kernel
theorem dX6_doClause_38 : decode cX6_doClause 38 = .ok (.iload_n 1, 1) := by decide +kernel
theorem dX6_doClause_39 : decode cX6_doClause 39 = .ok (.iaload, 1) := by decide +kernel
theorem dX6_doClause_40 : decode cX6_doClause 40 = .ok (.tableswitch 91 0 3 #[32, 43, 52, 75], 32) := by decide +kernel
theorem dX6_doClause_72 : decode cX6_doClause 72 = .ok (.aload_n 0, 1) := by decide +kernel
theorem dX6_doClause_73 : decode cX6_doClause 73 = .ok (.getfield 28, 3) := by decide +kernel
theorem dX6_doClause_76 : decode cX6_doClause 76 = .ok (.iload_n 2, 1) := by decide +kernel
theorem dX6_doClause_77 : decode cX6_doClause 77 = .ok (.invokevirtual 95, 3) := by decide +kernel
theorem dX6_doClause_80 : decode cX6_doClause 80 = .ok (.goto 64, 3) := by decide +kernel
theorem dX6_doClause_83 : decode cX6_doClause 83 = .ok (.aload_n 0, 1) := by decide +kernel
theorem dX6_doClause_84 : decode cX6_doClause 84 = .ok (.iload_n 2, 1) := by decide +kernel
theorem dX6_doClause_85 : decode cX6_doClause 85 = .ok (.iload_n 3, 1) := by decide +kernel
theorem dX6_doClause_86 : decode cX6_doClause 86 = .ok (.invokevirtual 98, 3) := by decide +kernel
theorem dX6_doClause_89 : decode cX6_doClause 89 = .ok (.goto 55, 3) := by decide +kernel
theorem dX6_doClause_92 : decode cX6_doClause 92 = .ok (.aload_n 0, 1) := by decide +kernel
theorem dX6_doClause_93 : decode cX6_doClause 93 = .ok (.iload_n 2, 1) := by decide +kernel
theorem dX6_doClause_94 : decode cX6_doClause 94 = .ok (.iload_n 3, 1) := by decide +kernel
theorem dX6_doClause_95 : decode cX6_doClause 95 = .ok (.invokevirtual 98, 3) := by decide +kernel
theorem dX6_doClause_98 : decode cX6_doClause 98 = .ok (.aload_n 0, 1) := by decide +kernel
theorem dX6_doClause_99 : decode cX6_doClause 99 = .ok (.iload_n 3, 1) := by decide +kernel
theorem dX6_doClause_100 : decode cX6_doClause 100 = .ok (.iload 4, 2) := by decide +kernel
theorem dX6_doClause_102 : decode cX6_doClause 102 = .ok (.invokevirtual 98, 3) := by decide +kernel
theorem dX6_doClause_105 : decode cX6_doClause 105 = .ok (.aload_n 0, 1) := by decide +kernel
theorem dX6_doClause_106 : decode cX6_doClause 106 = .ok (.iload 4, 2) := by decide +kernel
theorem dX6_doClause_108 : decode cX6_doClause 108 = .ok (.iload_n 2, 1) := by decide +kernel
theorem dX6_doClause_109 : decode cX6_doClause 109 = .ok (.invokevirtual 98, 3) := by decide +kernel
theorem dX6_doClause_112 : decode cX6_doClause 112 = .ok (.goto 32, 3) := by decide +kernel
theorem dX6_doClause_115 : decode cX6_doClause 115 = .ok (.aload_n 0, 1) := by decide +kernel
theorem dX6_doClause_116 : decode cX6_doClause 116 = .ok (.iload_n 2, 1) := by decide +kernel
theorem dX6_doClause_117 : decode cX6_doClause 117 = .ok (.iload_n 3, 1) := by decide +kernel
theorem dX6_doClause_118 : decode cX6_doClause 118 = .ok (.invokevirtual 98, 3) := by decide +kernel
theorem dX6_doClause_121 : decode cX6_doClause 121 = .ok (.aload_n 0, 1) := by decide +kernel
theorem dX6_doClause_122 : decode cX6_doClause 122 = .ok (.iload_n 3, 1) := by decide +kernel
theorem dX6_doClause_123 : decode cX6_doClause 123 = .ok (.iload 4, 2) := by decide +kernel
theorem dX6_doClause_125 : decode cX6_doClause 125 = .ok (.invokevirtual 98, 3) := by decide +kernel
theorem dX6_doClause_128 : decode cX6_doClause 128 = .ok (.goto 16, 3) := by decide +kernel
theorem dX6_doClause_131 : decode cX6_doClause 131 = .ok (.aload_n 0, 1) := by decide +kernel
theorem dX6_doClause_132 : decode cX6_doClause 132 = .ok (.iload_n 2, 1) := by decide +kernel
theorem dX6_doClause_133 : decode cX6_doClause 133 = .ok (.iload_n 3, 1) := by decide +kernel
theorem dX6_doClause_134 : decode cX6_doClause 134 = .ok (.invokevirtual 98, 3) := by decide +kernel
theorem dX6_doClause_137 : decode cX6_doClause 137 = .ok (.aload_n 0, 1) := by decide +kernel
theorem dX6_doClause_138 : decode cX6_doClause 138 = .ok (.iload_n 2, 1) := by decide +kernel
theorem dX6_doClause_139 : decode cX6_doClause 139 = .ok (.iload 4, 2) := by decide +kernel
theorem dX6_doClause_141 : decode cX6_doClause 141 = .ok (.invokevirtual 98, 3) := by decide +kernel
theorem dX6_doClause_144 : decode cX6_doClause 144 = .ok (.return_, 1) := by decide +kernel
theorem dX6_putIfNew_0 : decode cX6_putIfNew 0 = .ok (.aload_n 0, 1) := by decide +kernel
theorem dX6_putIfNew_1 : decode cX6_putIfNew 1 = .ok (.getfield 28, 3) := by decide +kernel
theorem dX6_putIfNew_4 : decode cX6_putIfNew 4 = .ok (.iload_n 1, 1) := by decide +kernel
theorem dX6_putIfNew_5 : decode cX6_putIfNew 5 = .ok (.iload_n 2, 1) := by decide +kernel
theorem dX6_putIfNew_6 : decode cX6_putIfNew 6 = .ok (.invokevirtual 102, 3) := by decide +kernel
theorem dX6_putIfNew_9 : decode cX6_putIfNew 9 = .ok (.ifCond .ne 24, 3) := by decide +kernel
theorem dX6_putIfNew_12 : decode cX6_putIfNew 12 = .ok (.aload_n 0, 1) := by decide +kernel
theorem dX6_putIfNew_13 : decode cX6_putIfNew 13 = .ok (.getfield 28, 3) := by decide +kernel
theorem dX6_putIfNew_16 : decode cX6_putIfNew 16 = .ok (.invokevirtual 106, 3) := by decide +kernel
theorem dX6_putIfNew_19 : decode cX6_putIfNew 19 = .ok (.bipush 40, 2) := by decide +kernel
theorem dX6_putIfNew_21 : decode cX6_putIfNew 21 = .ok (.if_icmp .ge 12, 3) := by decide +kernel
theorem dX6_putIfNew_24 : decode cX6_putIfNew 24 = .ok (.aload_n 0, 1) := by decide +kernel
theorem dX6_putIfNew_25 : decode cX6_putIfNew 25 = .ok (.getfield 28, 3) := by decide +kernel
theorem dX6_putIfNew_28 : decode cX6_putIfNew 28 = .ok (.iload_n 1, 1) := by decide +kernel
theorem dX6_putIfNew_29 : decode cX6_putIfNew 29 = .ok (.iload_n 2, 1) := by decide +kernel
theorem dX6_putIfNew_30 : decode cX6_putIfNew 30 = .ok (.invokevirtual 110, 3) := by decide +kernel
theorem dX6_putIfNew_33 : decode cX6_putIfNew 33 = .ok (.return_, 1) := by decide +kernel
theorem dX6_put_0 : decode cX6_put 0 = .ok (.aload_n 0, 1) := by decide +kernel
theorem dX6_put_1 : decode cX6_put 1 = .ok (.iload_n 1, 1) := by decide +kernel
theorem dX6_put_2 : decode cX6_put 2 = .ok (.iload_n 2, 1) := by decide +kernel
theorem dX6_put_3 : decode cX6_put 3 = .ok (.invokevirtual 113, 3) := by decide +kernel
theorem dX6_put_6 : decode cX6_put 6 = .ok (.ifCond .ne 6, 3) := by decide +kernel
theorem dX6_put_9 : decode cX6_put 9 = .ok (.bipush (-2), 2) := by decide +kernel
theorem dX6_put_11 : decode cX6_put 11 = .ok (.ireturn, 1) := by decide +kernel
theorem dX6_put_12 : decode cX6_put 12 = .ok (.aload_n 0, 1) := by decide +kernel
theorem dX6_put_13 : decode cX6_put 13 = .ok (.getfield 28, 3) := by decide +kernel
theorem dX6_put_16 : decode cX6_put 16 = .ok (.iload_n 1, 1) := by decide +kernel
theorem dX6_put_17 : decode cX6_put 17 = .ok (.iload_n 2, 1) := by decide +kernel
theorem dX6_put_18 : decode cX6_put 18 = .ok (.invokevirtual 102, 3) := by decide +kernel
theorem dX6_put_21 : decode cX6_put 21 = .ok (.ifCond .eq 6, 3) := by decide +kernel
theorem dX6_put_24 : decode cX6_put 24 = .ok (.bipush (-4), 2) := by decide +kernel
theorem dX6_put_26 : decode cX6_put 26 = .ok (.ireturn, 1) := by decide +kernel
theorem dX6_put_27 : decode cX6_put 27 = .ok (.aload_n 0, 1) := by decide +kernel
theorem dX6_put_28 : decode cX6_put 28 = .ok (.getfield 28, 3) := by decide +kernel
theorem dX6_put_31 : decode cX6_put 31 = .ok (.invokevirtual 106, 3) := by decide +kernel
theorem dX6_put_34 : decode cX6_put 34 = .ok (.bipush 40, 2) := by decide +kernel
theorem dX6_put_36 : decode cX6_put 36 = .ok (.if_icmp .lt 6, 3) := by decide +kernel
theorem dX6_put_39 : decode cX6_put 39 = .ok (.bipush (-5), 2) := by decide +kernel
theorem dX6_put_41 : decode cX6_put 41 = .ok (.ireturn, 1) := by decide +kernel
theorem dX6_put_42 : decode cX6_put 42 = .ok (.aload_n 0, 1) := by decide +kernel
theorem dX6_put_43 : decode cX6_put 43 = .ok (.getfield 35, 3) := by decide +kernel
theorem dX6_put_46 : decode cX6_put 46 = .ok (.aload_n 0, 1) := by decide +kernel
theorem dX6_put_47 : decode cX6_put 47 = .ok (.getfield 28, 3) := by decide +kernel
theorem dX6_put_50 : decode cX6_put 50 = .ok (.invokevirtual 116, 3) := by decide +kernel
theorem dX6_put_53 : decode cX6_put 53 = .ok (.aload_n 0, 1) := by decide +kernel
theorem dX6_put_54 : decode cX6_put 54 = .ok (.getfield 28, 3) := by decide +kernel
theorem dX6_put_57 : decode cX6_put 57 = .ok (.invokevirtual 120, 3) := by decide +kernel
theorem dX6_put_60 : decode cX6_put 60 = .ok (.istore_n 3, 1) := by decide +kernel
theorem dX6_put_61 : decode cX6_put 61 = .ok (.aload_n 0, 1) := by decide +kernel
theorem dX6_put_62 : decode cX6_put 62 = .ok (.getfield 28, 3) := by decide +kernel
theorem dX6_put_65 : decode cX6_put 65 = .ok (.iload_n 1, 1) := by decide +kernel
theorem dX6_put_66 : decode cX6_put 66 = .ok (.iload_n 2, 1) := by decide +kernel
theorem dX6_put_67 : decode cX6_put 67 = .ok (.invokevirtual 110, 3) := by decide +kernel
theorem dX6_put_70 : decode cX6_put 70 = .ok (.aload_n 0, 1) := by decide +kernel
theorem dX6_put_71 : decode cX6_put 71 = .ok (.getfield 28, 3) := by decide +kernel
theorem dX6_put_74 : decode cX6_put 74 = .ok (.invokevirtual 120, 3) := by decide +kernel
theorem dX6_put_77 : decode cX6_put 77 = .ok (.iload_n 3, 1) := by decide +kernel
theorem dX6_put_78 : decode cX6_put 78 = .ok (.isub, 1) := by decide +kernel
theorem dX6_put_79 : decode cX6_put 79 = .ok (.ireturn, 1) := by decide +kernel
theorem dX6_take_0 : decode cX6_take 0 = .ok (.aload_n 0, 1) := by decide +kernel
theorem dX6_take_1 : decode cX6_take 1 = .ok (.getfield 28, 3) := by decide +kernel
theorem dX6_take_4 : decode cX6_take 4 = .ok (.invokevirtual 123, 3) := by decide +kernel
theorem dX6_take_7 : decode cX6_take 7 = .ok (.istore_n 3, 1) := by decide +kernel
theorem dX6_take_8 : decode cX6_take 8 = .ok (.iload_n 1, 1) := by decide +kernel
theorem dX6_take_9 : decode cX6_take 9 = .ok (.iload_n 3, 1) := by decide +kernel
theorem dX6_take_10 : decode cX6_take 10 = .ok (.iconst (-1), 1) := by decide +kernel
theorem dX6_take_11 : decode cX6_take 11 = .ok (.ixor, 1) := by decide +kernel
theorem dX6_take_12 : decode cX6_take 12 = .ok (.iand, 1) := by decide +kernel
theorem dX6_take_13 : decode cX6_take 13 = .ok (.ifCond .ne 11, 3) := by decide +kernel
theorem dX6_take_16 : decode cX6_take 16 = .ok (.iload_n 2, 1) := by decide +kernel
theorem dX6_take_17 : decode cX6_take 17 = .ok (.iload_n 3, 1) := by decide +kernel
theorem dX6_take_18 : decode cX6_take 18 = .ok (.iconst (-1), 1) := by decide +kernel
theorem dX6_take_19 : decode cX6_take 19 = .ok (.ixor, 1) := by decide +kernel
theorem dX6_take_20 : decode cX6_take 20 = .ok (.iand, 1) := by decide +kernel
theorem dX6_take_21 : decode cX6_take 21 = .ok (.ifCond .eq 6, 3) := by decide +kernel
theorem dX6_take_24 : decode cX6_take 24 = .ok (.bipush (-3), 2) := by decide +kernel
theorem dX6_take_26 : decode cX6_take 26 = .ok (.ireturn, 1) := by decide +kernel
theorem dX6_take_27 : decode cX6_take 27 = .ok (.aload_n 0, 1) := by decide +kernel
theorem dX6_take_28 : decode cX6_take 28 = .ok (.getfield 28, 3) := by decide +kernel
theorem dX6_take_31 : decode cX6_take 31 = .ok (.iload_n 1, 1) := by decide +kernel
theorem dX6_take_32 : decode cX6_take 32 = .ok (.iload_n 2, 1) := by decide +kernel
theorem dX6_take_33 : decode cX6_take 33 = .ok (.invokevirtual 126, 3) := by decide +kernel
theorem dX6_take_36 : decode cX6_take 36 = .ok (.istore 4, 2) := by decide +kernel
theorem dX6_take_38 : decode cX6_take 38 = .ok (.iload 4, 2) := by decide +kernel
theorem dX6_take_40 : decode cX6_take 40 = .ok (.ifCond .ne 6, 3) := by decide +kernel
theorem dX6_take_43 : decode cX6_take 43 = .ok (.bipush (-4), 2) := by decide +kernel
theorem dX6_take_45 : decode cX6_take 45 = .ok (.ireturn, 1) := by decide +kernel
theorem dX6_take_46 : decode cX6_take 46 = .ok (.aload_n 0, 1) := by decide +kernel
theorem dX6_take_47 : decode cX6_take 47 = .ok (.getfield 35, 3) := by decide +kernel
theorem dX6_take_50 : decode cX6_take 50 = .ok (.aload_n 0, 1) := by decide +kernel
theorem dX6_take_51 : decode cX6_take 51 = .ok (.getfield 28, 3) := by decide +kernel
theorem dX6_take_54 : decode cX6_take 54 = .ok (.invokevirtual 116, 3) := by decide +kernel
theorem dX6_take_57 : decode cX6_take 57 = .ok (.aload_n 0, 1) := by decide +kernel
theorem dX6_take_58 : decode cX6_take 58 = .ok (.getfield 28, 3) := by decide +kernel
theorem dX6_take_61 : decode cX6_take 61 = .ok (.iload_n 1, 1) := by decide +kernel
theorem dX6_take_62 : decode cX6_take 62 = .ok (.iload_n 2, 1) := by decide +kernel
theorem dX6_take_63 : decode cX6_take 63 = .ok (.invokevirtual 129, 3) := by decide +kernel
theorem dX6_take_66 : decode cX6_take 66 = .ok (.iload 4, 2) := by decide +kernel
theorem dX6_take_68 : decode cX6_take 68 = .ok (.ireturn, 1) := by decide +kernel
theorem dX6_clear_0 : decode cX6_clear 0 = .ok (.aload_n 0, 1) := by decide +kernel
theorem dX6_clear_1 : decode cX6_clear 1 = .ok (.getfield 28, 3) := by decide +kernel
theorem dX6_clear_4 : decode cX6_clear 4 = .ok (.getfield 132, 3) := by decide +kernel
theorem dX6_clear_7 : decode cX6_clear 7 = .ok (.istore_n 1, 1) := by decide +kernel
theorem dX6_clear_8 : decode cX6_clear 8 = .ok (.iload_n 1, 1) := by decide +kernel
theorem dX6_clear_9 : decode cX6_clear 9 = .ok (.ifCond .ne 6, 3) := by decide +kernel
theorem dX6_clear_12 : decode cX6_clear 12 = .ok (.bipush (-4), 2) := by decide +kernel
theorem dX6_clear_14 : decode cX6_clear 14 = .ok (.ireturn, 1) := by decide +kernel
theorem dX6_clear_15 : decode cX6_clear 15 = .ok (.aload_n 0, 1) := by decide +kernel
theorem dX6_clear_16 : decode cX6_clear 16 = .ok (.getfield 35, 3) := by decide +kernel
theorem dX6_clear_19 : decode cX6_clear 19 = .ok (.aload_n 0, 1) := by decide +kernel
theorem dX6_clear_20 : decode cX6_clear 20 = .ok (.getfield 28, 3) := by decide +kernel
theorem dX6_clear_23 : decode cX6_clear 23 = .ok (.invokevirtual 116, 3) := by decide +kernel
theorem dX6_clear_26 : decode cX6_clear 26 = .ok (.aload_n 0, 1) := by decide +kernel
theorem dX6_clear_27 : decode cX6_clear 27 = .ok (.getfield 28, 3) := by decide +kernel
theorem dX6_clear_30 : decode cX6_clear 30 = .ok (.iconst 0, 1) := by decide +kernel
theorem dX6_clear_31 : decode cX6_clear 31 = .ok (.putfield 132, 3) := by decide +kernel
theorem dX6_clear_34 : decode cX6_clear 34 = .ok (.iload_n 1, 1) := by decide +kernel
theorem dX6_clear_35 : decode cX6_clear 35 = .ok (.ireturn, 1) := by decide +kernel
theorem dX6_undo_0 : decode cX6_undo 0 = .ok (.aload_n 0, 1) := by decide +kernel
theorem dX6_undo_1 : decode cX6_undo 1 = .ok (.getfield 35, 3) := by decide +kernel
theorem dX6_undo_4 : decode cX6_undo 4 = .ok (.getfield 135, 3) := by decide +kernel
theorem dX6_undo_7 : decode cX6_undo 7 = .ok (.ifCond .ne 6, 3) := by decide +kernel
theorem dX6_undo_10 : decode cX6_undo 10 = .ok (.bipush (-4), 2) := by decide +kernel
theorem dX6_undo_12 : decode cX6_undo 12 = .ok (.ireturn, 1) := by decide +kernel
theorem dX6_undo_13 : decode cX6_undo 13 = .ok (.aload_n 0, 1) := by decide +kernel
theorem dX6_undo_14 : decode cX6_undo 14 = .ok (.getfield 35, 3) := by decide +kernel
theorem dX6_undo_17 : decode cX6_undo 17 = .ok (.aload_n 0, 1) := by decide +kernel
theorem dX6_undo_18 : decode cX6_undo 18 = .ok (.getfield 28, 3) := by decide +kernel
theorem dX6_undo_21 : decode cX6_undo 21 = .ok (.invokevirtual 138, 3) := by decide +kernel
theorem dX6_undo_24 : decode cX6_undo 24 = .ok (.aload_n 0, 1) := by decide +kernel
theorem dX6_undo_25 : decode cX6_undo 25 = .ok (.getfield 35, 3) := by decide +kernel
theorem dX6_undo_28 : decode cX6_undo 28 = .ok (.getfield 135, 3) := by decide +kernel
theorem dX6_undo_31 : decode cX6_undo 31 = .ok (.ireturn, 1) := by decide +kernel
theorem dX6_keep_0 : decode cX6_keep 0 = .ok (.iload_n 1, 1) := by decide +kernel
theorem dX6_keep_1 : decode cX6_keep 1 = .ok (.ifCond .lt 8, 3) := by decide +kernel
theorem dX6_keep_4 : decode cX6_keep 4 = .ok (.iload_n 1, 1) := by decide +kernel
theorem dX6_keep_5 : decode cX6_keep 5 = .ok (.iconst 2, 1) := by decide +kernel
theorem dX6_keep_6 : decode cX6_keep 6 = .ok (.if_icmp .lt 6, 3) := by decide +kernel
theorem dX6_keep_9 : decode cX6_keep 9 = .ok (.bipush (-2), 2) := by decide +kernel
theorem dX6_keep_11 : decode cX6_keep 11 = .ok (.ireturn, 1) := by decide +kernel
theorem dX6_keep_12 : decode cX6_keep 12 = .ok (.aload_n 0, 1) := by decide +kernel
theorem dX6_keep_13 : decode cX6_keep 13 = .ok (.getfield 39, 3) := by decide +kernel
theorem dX6_keep_16 : decode cX6_keep 16 = .ok (.iload_n 1, 1) := by decide +kernel
theorem dX6_keep_17 : decode cX6_keep 17 = .ok (.aaload, 1) := by decide +kernel
theorem dX6_keep_18 : decode cX6_keep 18 = .ok (.aload_n 0, 1) := by decide +kernel
theorem dX6_keep_19 : decode cX6_keep 19 = .ok (.getfield 28, 3) := by decide +kernel
theorem dX6_keep_22 : decode cX6_keep 22 = .ok (.invokevirtual 141, 3) := by decide +kernel
theorem dX6_keep_25 : decode cX6_keep 25 = .ok (.aload_n 0, 1) := by decide +kernel
theorem dX6_keep_26 : decode cX6_keep 26 = .ok (.dup, 1) := by decide +kernel
theorem dX6_keep_27 : decode cX6_keep 27 = .ok (.getfield 43, 3) := by decide +kernel
theorem dX6_keep_30 : decode cX6_keep 30 = .ok (.iconst 1, 1) := by decide +kernel
theorem dX6_keep_31 : decode cX6_keep 31 = .ok (.iload_n 1, 1) := by decide +kernel
theorem dX6_keep_32 : decode cX6_keep 32 = .ok (.ishl, 1) := by decide +kernel
theorem dX6_keep_33 : decode cX6_keep 33 = .ok (.ior, 1) := by decide +kernel
theorem dX6_keep_34 : decode cX6_keep 34 = .ok (.putfield 43, 3) := by decide +kernel
theorem dX6_keep_37 : decode cX6_keep 37 = .ok (.aload_n 0, 1) := by decide +kernel
theorem dX6_keep_38 : decode cX6_keep 38 = .ok (.getfield 28, 3) := by decide +kernel
theorem dX6_keep_41 : decode cX6_keep 41 = .ok (.invokevirtual 106, 3) := by decide +kernel
theorem dX6_keep_44 : decode cX6_keep 44 = .ok (.ireturn, 1) := by decide +kernel
theorem dX6_back_0 : decode cX6_back 0 = .ok (.iload_n 1, 1) := by decide +kernel
theorem dX6_back_1 : decode cX6_back 1 = .ok (.ifCond .lt 8, 3) := by decide +kernel
theorem dX6_back_4 : decode cX6_back 4 = .ok (.iload_n 1, 1) := by decide +kernel
theorem dX6_back_5 : decode cX6_back 5 = .ok (.iconst 2, 1) := by decide +kernel
theorem dX6_back_6 : decode cX6_back 6 = .ok (.if_icmp .lt 6, 3) := by decide +kernel
theorem dX6_back_9 : decode cX6_back 9 = .ok (.bipush (-2), 2) := by decide +kernel
theorem dX6_back_11 : decode cX6_back 11 = .ok (.ireturn, 1) := by decide +kernel
theorem dX6_back_12 : decode cX6_back 12 = .ok (.aload_n 0, 1) := by decide +kernel
theorem dX6_back_13 : decode cX6_back 13 = .ok (.getfield 43, 3) := by decide +kernel
theorem dX6_back_16 : decode cX6_back 16 = .ok (.iload_n 1, 1) := by decide +kernel
theorem dX6_back_17 : decode cX6_back 17 = .ok (.invokestatic 144, 3) := by decide +kernel
theorem dX6_back_20 : decode cX6_back 20 = .ok (.ifCond .ne 6, 3) := by decide +kernel
theorem dX6_back_23 : decode cX6_back 23 = .ok (.bipush (-4), 2) := by decide +kernel
theorem dX6_back_25 : decode cX6_back 25 = .ok (.ireturn, 1) := by decide +kernel
theorem dX6_back_26 : decode cX6_back 26 = .ok (.aload_n 0, 1) := by decide +kernel
theorem dX6_back_27 : decode cX6_back 27 = .ok (.getfield 28, 3) := by decide +kernel
theorem dX6_back_30 : decode cX6_back 30 = .ok (.aload_n 0, 1) := by decide +kernel
theorem dX6_back_31 : decode cX6_back 31 = .ok (.getfield 39, 3) := by decide +kernel
theorem dX6_back_34 : decode cX6_back 34 = .ok (.iload_n 1, 1) := by decide +kernel
theorem dX6_back_35 : decode cX6_back 35 = .ok (.aaload, 1) := by decide +kernel
theorem dX6_back_36 : decode cX6_back 36 = .ok (.invokevirtual 141, 3) := by decide +kernel
theorem dX6_back_39 : decode cX6_back 39 = .ok (.aload_n 0, 1) := by decide +kernel
theorem dX6_back_40 : decode cX6_back 40 = .ok (.getfield 35, 3) := by decide +kernel
theorem dX6_back_43 : decode cX6_back 43 = .ok (.invokevirtual 82, 3) := by decide +kernel
theorem dX6_back_46 : decode cX6_back 46 = .ok (.aload_n 0, 1) := by decide +kernel
theorem dX6_back_47 : decode cX6_back 47 = .ok (.getfield 28, 3) := by decide +kernel
theorem dX6_back_50 : decode cX6_back 50 = .ok (.invokevirtual 106, 3) := by decide +kernel
theorem dX6_back_53 : decode cX6_back 53 = .ok (.ireturn, 1) := by decide +kernel
theorem dX6_arc_0 : decode cX6_arc 0 = .ok (.aload_n 0, 1) := by decide +kernel
theorem dX6_arc_1 : decode cX6_arc 1 = .ok (.iload_n 1, 1) := by decide +kernel
theorem dX6_arc_2 : decode cX6_arc 2 = .ok (.iload_n 2, 1) := by decide +kernel
theorem dX6_arc_3 : decode cX6_arc 3 = .ok (.invokevirtual 113, 3) := by decide +kernel
theorem dX6_arc_6 : decode cX6_arc 6 = .ok (.ifCond .ne 6, 3) := by decide +kernel
theorem dX6_arc_9 : decode cX6_arc 9 = .ok (.bipush (-2), 2) := by decide +kernel
theorem dX6_arc_11 : decode cX6_arc 11 = .ok (.ireturn, 1) := by decide +kernel
theorem dX6_arc_12 : decode cX6_arc 12 = .ok (.aload_n 0, 1) := by decide +kernel
theorem dX6_arc_13 : decode cX6_arc 13 = .ok (.getfield 28, 3) := by decide +kernel
theorem dX6_arc_16 : decode cX6_arc 16 = .ok (.iload_n 1, 1) := by decide +kernel
theorem dX6_arc_17 : decode cX6_arc 17 = .ok (.iload_n 2, 1) := by decide +kernel
theorem dX6_arc_18 : decode cX6_arc 18 = .ok (.invokevirtual 102, 3) := by decide +kernel
theorem dX6_arc_21 : decode cX6_arc 21 = .ok (.ifCond .eq 7, 3) := by decide +kernel
theorem dX6_arc_24 : decode cX6_arc 24 = .ok (.iconst 1, 1) := by decide +kernel
theorem dX6_arc_25 : decode cX6_arc 25 = .ok (.goto 4, 3) := by decide +kernel
theorem dX6_arc_28 : decode cX6_arc 28 = .ok (.iconst 0, 1) := by decide +kernel
theorem dX6_arc_29 : decode cX6_arc 29 = .ok (.ireturn, 1) := by decide +kernel
theorem dX6_reaches_0 : decode cX6_reaches 0 = .ok (.aload_n 0, 1) := by decide +kernel
theorem dX6_reaches_1 : decode cX6_reaches 1 = .ok (.iload_n 1, 1) := by decide +kernel
theorem dX6_reaches_2 : decode cX6_reaches 2 = .ok (.invokevirtual 147, 3) := by decide +kernel
theorem dX6_reaches_5 : decode cX6_reaches 5 = .ok (.ifCond .eq 11, 3) := by decide +kernel
theorem dX6_reaches_8 : decode cX6_reaches 8 = .ok (.aload_n 0, 1) := by decide +kernel
theorem dX6_reaches_9 : decode cX6_reaches 9 = .ok (.iload_n 2, 1) := by decide +kernel
theorem dX6_reaches_10 : decode cX6_reaches 10 = .ok (.invokevirtual 147, 3) := by decide +kernel
theorem dX6_reaches_13 : decode cX6_reaches 13 = .ok (.ifCond .ne 6, 3) := by decide +kernel
theorem dX6_reaches_16 : decode cX6_reaches 16 = .ok (.bipush (-2), 2) := by decide +kernel
theorem dX6_reaches_18 : decode cX6_reaches 18 = .ok (.ireturn, 1) := by decide +kernel
theorem dX6_reaches_19 : decode cX6_reaches 19 = .ok (.aload_n 0, 1) := by decide +kernel
theorem dX6_reaches_20 : decode cX6_reaches 20 = .ok (.getfield 28, 3) := by decide +kernel
theorem dX6_reaches_23 : decode cX6_reaches 23 = .ok (.iload_n 1, 1) := by decide +kernel
theorem dX6_reaches_24 : decode cX6_reaches 24 = .ok (.iload_n 2, 1) := by decide +kernel
theorem dX6_reaches_25 : decode cX6_reaches 25 = .ok (.invokevirtual 151, 3) := by decide +kernel
theorem dX6_reaches_28 : decode cX6_reaches 28 = .ok (.ifCond .eq 7, 3) := by decide +kernel
theorem dX6_reaches_31 : decode cX6_reaches 31 = .ok (.iconst 1, 1) := by decide +kernel
theorem dX6_reaches_32 : decode cX6_reaches 32 = .ok (.goto 4, 3) := by decide +kernel
theorem dX6_reaches_35 : decode cX6_reaches 35 = .ok (.iconst 0, 1) := by decide +kernel
theorem dX6_reaches_36 : decode cX6_reaches 36 = .ok (.ireturn, 1) := by decide +kernel
theorem dX6_above_0 : decode cX6_above 0 = .ok (.aload_n 0, 1) := by decide +kernel
theorem dX6_above_1 : decode cX6_above 1 = .ok (.iload_n 1, 1) := by decide +kernel
theorem dX6_above_2 : decode cX6_above 2 = .ok (.invokevirtual 147, 3) := by decide +kernel
theorem dX6_above_5 : decode cX6_above 5 = .ok (.ifCond .eq 11, 3) := by decide +kernel
theorem dX6_above_8 : decode cX6_above 8 = .ok (.aload_n 0, 1) := by decide +kernel
theorem dX6_above_9 : decode cX6_above 9 = .ok (.iload_n 2, 1) := by decide +kernel
theorem dX6_above_10 : decode cX6_above 10 = .ok (.invokevirtual 147, 3) := by decide +kernel
theorem dX6_above_13 : decode cX6_above 13 = .ok (.ifCond .ne 6, 3) := by decide +kernel
theorem dX6_above_16 : decode cX6_above 16 = .ok (.bipush (-2), 2) := by decide +kernel
theorem dX6_above_18 : decode cX6_above 18 = .ok (.ireturn, 1) := by decide +kernel
theorem dX6_above_19 : decode cX6_above 19 = .ok (.aload_n 0, 1) := by decide +kernel
theorem dX6_above_20 : decode cX6_above 20 = .ok (.getfield 28, 3) := by decide +kernel
theorem dX6_above_23 : decode cX6_above 23 = .ok (.iload_n 1, 1) := by decide +kernel
theorem dX6_above_24 : decode cX6_above 24 = .ok (.iload_n 2, 1) := by decide +kernel
theorem dX6_above_25 : decode cX6_above 25 = .ok (.invokevirtual 154, 3) := by decide +kernel
theorem dX6_above_28 : decode cX6_above 28 = .ok (.ireturn, 1) := by decide +kernel
theorem dX6_way_0 : decode cX6_way 0 = .ok (.aload_n 0, 1) := by decide +kernel
theorem dX6_way_1 : decode cX6_way 1 = .ok (.iload_n 1, 1) := by decide +kernel
theorem dX6_way_2 : decode cX6_way 2 = .ok (.invokevirtual 147, 3) := by decide +kernel
theorem dX6_way_5 : decode cX6_way 5 = .ok (.ifCond .eq 11, 3) := by decide +kernel
theorem dX6_way_8 : decode cX6_way 8 = .ok (.aload_n 0, 1) := by decide +kernel
theorem dX6_way_9 : decode cX6_way 9 = .ok (.iload_n 2, 1) := by decide +kernel
theorem dX6_way_10 : decode cX6_way 10 = .ok (.invokevirtual 147, 3) := by decide +kernel
theorem dX6_way_13 : decode cX6_way 13 = .ok (.ifCond .ne 6, 3) := by decide +kernel
theorem dX6_way_16 : decode cX6_way 16 = .ok (.bipush (-2), 2) := by decide +kernel
theorem dX6_way_18 : decode cX6_way 18 = .ok (.ireturn, 1) := by decide +kernel
theorem dX6_way_19 : decode cX6_way 19 = .ok (.iload_n 3, 1) := by decide +kernel
theorem dX6_way_20 : decode cX6_way 20 = .ok (.ifCond .ge 6, 3) := by decide +kernel
theorem dX6_way_23 : decode cX6_way 23 = .ok (.bipush (-3), 2) := by decide +kernel
theorem dX6_way_25 : decode cX6_way 25 = .ok (.ireturn, 1) := by decide +kernel
theorem dX6_way_26 : decode cX6_way 26 = .ok (.aload_n 0, 1) := by decide +kernel
theorem dX6_way_27 : decode cX6_way 27 = .ok (.getfield 28, 3) := by decide +kernel
theorem dX6_way_30 : decode cX6_way 30 = .ok (.iload_n 1, 1) := by decide +kernel
theorem dX6_way_31 : decode cX6_way 31 = .ok (.iload_n 2, 1) := by decide +kernel
theorem dX6_way_32 : decode cX6_way 32 = .ok (.invokevirtual 151, 3) := by decide +kernel
theorem dX6_way_35 : decode cX6_way 35 = .ok (.ifCond .ne 5, 3) := by decide +kernel
theorem dX6_way_38 : decode cX6_way 38 = .ok (.iconst (-1), 1) := by decide +kernel
theorem dX6_way_39 : decode cX6_way 39 = .ok (.ireturn, 1) := by decide +kernel
theorem dX6_way_40 : decode cX6_way 40 = .ok (.aload_n 0, 1) := by decide +kernel
theorem dX6_way_41 : decode cX6_way 41 = .ok (.getfield 28, 3) := by decide +kernel
theorem dX6_way_44 : decode cX6_way 44 = .ok (.iload_n 1, 1) := by decide +kernel
theorem dX6_way_45 : decode cX6_way 45 = .ok (.iload_n 2, 1) := by decide +kernel
theorem dX6_way_46 : decode cX6_way 46 = .ok (.invokevirtual 157, 3) := by decide +kernel
theorem dX6_way_49 : decode cX6_way 49 = .ok (.istore 4, 2) := by decide +kernel
theorem dX6_way_51 : decode cX6_way 51 = .ok (.iload_n 3, 1) := by decide +kernel
theorem dX6_way_52 : decode cX6_way 52 = .ok (.iload 4, 2) := by decide +kernel
theorem dX6_way_54 : decode cX6_way 54 = .ok (.if_icmp .le 7, 3) := by decide +kernel
theorem dX6_way_57 : decode cX6_way 57 = .ok (.iconst (-1), 1) := by decide +kernel
theorem dX6_way_58 : decode cX6_way 58 = .ok (.goto 16, 3) := by decide +kernel
theorem dX6_way_61 : decode cX6_way 61 = .ok (.aload_n 0, 1) := by decide +kernel
theorem dX6_way_62 : decode cX6_way 62 = .ok (.getfield 28, 3) := by decide +kernel
theorem dX6_way_65 : decode cX6_way 65 = .ok (.iload_n 1, 1) := by decide +kernel
theorem dX6_way_66 : decode cX6_way 66 = .ok (.iload_n 2, 1) := by decide +kernel
theorem dX6_way_67 : decode cX6_way 67 = .ok (.iload 4, 2) := by decide +kernel
theorem dX6_way_69 : decode cX6_way 69 = .ok (.iload_n 3, 1) := by decide +kernel
theorem dX6_way_70 : decode cX6_way 70 = .ok (.isub, 1) := by decide +kernel
theorem dX6_way_71 : decode cX6_way 71 = .ok (.invokevirtual 160, 3) := by decide +kernel
theorem dX6_way_74 : decode cX6_way 74 = .ok (.ireturn, 1) := by decide +kernel
theorem dX6_around_0 : decode cX6_around 0 = .ok (.aload_n 0, 1) := by decide +kernel
theorem dX6_around_1 : decode cX6_around 1 = .ok (.iload_n 1, 1) := by decide +kernel
theorem dX6_around_2 : decode cX6_around 2 = .ok (.invokevirtual 147, 3) := by decide +kernel
theorem dX6_around_5 : decode cX6_around 5 = .ok (.ifCond .ne 6, 3) := by decide +kernel
theorem dX6_around_8 : decode cX6_around 8 = .ok (.bipush (-2), 2) := by decide +kernel
theorem dX6_around_10 : decode cX6_around 10 = .ok (.ireturn, 1) := by decide +kernel
theorem dX6_around_11 : decode cX6_around 11 = .ok (.iload_n 2, 1) := by decide +kernel
theorem dX6_around_12 : decode cX6_around 12 = .ok (.tableswitch 56 0 2 #[28, 38, 47], 28) := by decide +kernel
theorem dX6_around_40 : decode cX6_around 40 = .ok (.aload_n 0, 1) := by decide +kernel
theorem dX6_around_41 : decode cX6_around 41 = .ok (.getfield 28, 3) := by decide +kernel
theorem dX6_around_44 : decode cX6_around 44 = .ok (.getfield 164, 3) := by decide +kernel
theorem dX6_around_47 : decode cX6_around 47 = .ok (.iload_n 1, 1) := by decide +kernel
theorem dX6_around_48 : decode cX6_around 48 = .ok (.iaload, 1) := by decide +kernel
theorem dX6_around_49 : decode cX6_around 49 = .ok (.ireturn, 1) := by decide +kernel
theorem dX6_around_50 : decode cX6_around 50 = .ok (.aload_n 0, 1) := by decide +kernel
theorem dX6_around_51 : decode cX6_around 51 = .ok (.getfield 28, 3) := by decide +kernel
theorem dX6_around_54 : decode cX6_around 54 = .ok (.iload_n 1, 1) := by decide +kernel
theorem dX6_around_55 : decode cX6_around 55 = .ok (.invokevirtual 167, 3) := by decide +kernel
theorem dX6_around_58 : decode cX6_around 58 = .ok (.ireturn, 1) := by decide +kernel
theorem dX6_around_59 : decode cX6_around 59 = .ok (.aload_n 0, 1) := by decide +kernel
theorem dX6_around_60 : decode cX6_around 60 = .ok (.getfield 28, 3) := by decide +kernel
theorem dX6_around_63 : decode cX6_around 63 = .ok (.iload_n 1, 1) := by decide +kernel
theorem dX6_around_64 : decode cX6_around 64 = .ok (.invokevirtual 170, 3) := by decide +kernel
theorem dX6_around_67 : decode cX6_around 67 = .ok (.ireturn, 1) := by decide +kernel
theorem dX6_around_68 : decode cX6_around 68 = .ok (.bipush (-3), 2) := by decide +kernel
theorem dX6_around_70 : decode cX6_around 70 = .ok (.ireturn, 1) := by decide +kernel
theorem dX6_needless_0 : decode cX6_needless 0 = .ok (.aload_n 0, 1) := by decide +kernel
theorem dX6_needless_1 : decode cX6_needless 1 = .ok (.iload_n 1, 1) := by decide +kernel
theorem dX6_needless_2 : decode cX6_needless 2 = .ok (.iload_n 2, 1) := by decide +kernel
theorem dX6_needless_3 : decode cX6_needless 3 = .ok (.invokevirtual 173, 3) := by decide +kernel
theorem dX6_needless_6 : decode cX6_needless 6 = .ok (.ifCond .ne 6, 3) := by decide +kernel
theorem dX6_needless_9 : decode cX6_needless 9 = .ok (.bipush (-2), 2) := by decide +kernel
theorem dX6_needless_11 : decode cX6_needless 11 = .ok (.ireturn, 1) := by decide +kernel
theorem dX6_needless_12 : decode cX6_needless 12 = .ok (.aload_n 0, 1) := by decide +kernel
theorem dX6_needless_13 : decode cX6_needless 13 = .ok (.getfield 28, 3) := by decide +kernel
theorem dX6_needless_16 : decode cX6_needless 16 = .ok (.iload_n 1, 1) := by decide +kernel
theorem dX6_needless_17 : decode cX6_needless 17 = .ok (.iload_n 2, 1) := by decide +kernel
theorem dX6_needless_18 : decode cX6_needless 18 = .ok (.invokevirtual 176, 3) := by decide +kernel
theorem dX6_needless_21 : decode cX6_needless 21 = .ok (.ifCond .eq 7, 3) := by decide +kernel
theorem dX6_needless_24 : decode cX6_needless 24 = .ok (.iconst 1, 1) := by decide +kernel
theorem dX6_needless_25 : decode cX6_needless 25 = .ok (.goto 4, 3) := by decide +kernel
theorem dX6_needless_28 : decode cX6_needless 28 = .ok (.iconst 0, 1) := by decide +kernel
theorem dX6_needless_29 : decode cX6_needless 29 = .ok (.ireturn, 1) := by decide +kernel
theorem dX6_reduced_0 : decode cX6_reduced 0 = .ok (.aload_n 0, 1) := by decide +kernel
theorem dX6_reduced_1 : decode cX6_reduced 1 = .ok (.getfield 28, 3) := by decide +kernel
theorem dX6_reduced_4 : decode cX6_reduced 4 = .ok (.invokevirtual 179, 3) := by decide +kernel
theorem dX6_reduced_7 : decode cX6_reduced 7 = .ok (.aload_n 0, 1) := by decide +kernel
theorem dX6_reduced_8 : decode cX6_reduced 8 = .ok (.getfield 28, 3) := by decide +kernel
theorem dX6_reduced_11 : decode cX6_reduced 11 = .ok (.getfield 68, 3) := by decide +kernel
theorem dX6_reduced_14 : decode cX6_reduced 14 = .ok (.if_icmp .ge 6, 3) := by decide +kernel
theorem dX6_reduced_17 : decode cX6_reduced 17 = .ok (.bipush (-4), 2) := by decide +kernel
theorem dX6_reduced_19 : decode cX6_reduced 19 = .ok (.ireturn, 1) := by decide +kernel
theorem dX6_reduced_20 : decode cX6_reduced 20 = .ok (.aload_n 0, 1) := by decide +kernel
theorem dX6_reduced_21 : decode cX6_reduced 21 = .ok (.getfield 28, 3) := by decide +kernel
theorem dX6_reduced_24 : decode cX6_reduced 24 = .ok (.invokevirtual 106, 3) := by decide +kernel
theorem dX6_reduced_27 : decode cX6_reduced 27 = .ok (.aload_n 0, 1) := by decide +kernel
theorem dX6_reduced_28 : decode cX6_reduced 28 = .ok (.getfield 28, 3) := by decide +kernel
theorem dX6_reduced_31 : decode cX6_reduced 31 = .ok (.invokevirtual 182, 3) := by decide +kernel
theorem dX6_reduced_34 : decode cX6_reduced 34 = .ok (.isub, 1) := by decide +kernel
theorem dX6_reduced_35 : decode cX6_reduced 35 = .ok (.ireturn, 1) := by decide +kernel
theorem dX6_fold_0 : decode cX6_fold 0 = .ok (.iload_n 1, 1) := by decide +kernel
theorem dX6_fold_1 : decode cX6_fold 1 = .ok (.ifCond .lt 19, 3) := by decide +kernel
theorem dX6_fold_4 : decode cX6_fold 4 = .ok (.iload_n 1, 1) := by decide +kernel
theorem dX6_fold_5 : decode cX6_fold 5 = .ok (.iconst 3, 1) := by decide +kernel
theorem dX6_fold_6 : decode cX6_fold 6 = .ok (.if_icmp .gt 14, 3) := by decide +kernel
theorem dX6_fold_9 : decode cX6_fold 9 = .ok (.iload_n 2, 1) := by decide +kernel
theorem dX6_fold_10 : decode cX6_fold 10 = .ok (.ifCond .lt 10, 3) := by decide +kernel
theorem dX6_fold_13 : decode cX6_fold 13 = .ok (.iload_n 2, 1) := by decide +kernel
theorem dX6_fold_14 : decode cX6_fold 14 = .ok (.sipush 1000, 3) := by decide +kernel
theorem dX6_fold_17 : decode cX6_fold 17 = .ok (.if_icmp .lt 6, 3) := by decide +kernel
theorem dX6_fold_20 : decode cX6_fold 20 = .ok (.bipush (-3), 2) := by decide +kernel
theorem dX6_fold_22 : decode cX6_fold 22 = .ok (.ireturn, 1) := by decide +kernel
theorem dX6_fold_23 : decode cX6_fold 23 = .ok (.iload_n 2, 1) := by decide +kernel
theorem dX6_fold_24 : decode cX6_fold 24 = .ok (.istore_n 3, 1) := by decide +kernel
theorem dX6_fold_25 : decode cX6_fold 25 = .ok (.iconst 0, 1) := by decide +kernel
theorem dX6_fold_26 : decode cX6_fold 26 = .ok (.istore 4, 2) := by decide +kernel
theorem dX6_fold_28 : decode cX6_fold 28 = .ok (.iload 4, 2) := by decide +kernel
theorem dX6_fold_30 : decode cX6_fold 30 = .ok (.aload_n 0, 1) := by decide +kernel
theorem dX6_fold_31 : decode cX6_fold 31 = .ok (.getfield 28, 3) := by decide +kernel
theorem dX6_fold_34 : decode cX6_fold 34 = .ok (.getfield 68, 3) := by decide +kernel
theorem dX6_fold_37 : decode cX6_fold 37 = .ok (.if_icmp .ge 48, 3) := by decide +kernel
theorem dX6_fold_40 : decode cX6_fold 40 = .ok (.iconst 0, 1) := by decide +kernel
theorem dX6_fold_41 : decode cX6_fold 41 = .ok (.istore 5, 2) := by decide +kernel
theorem dX6_fold_43 : decode cX6_fold 43 = .ok (.iload 5, 2) := by decide +kernel
theorem dX6_fold_45 : decode cX6_fold 45 = .ok (.aload_n 0, 1) := by decide +kernel
theorem dX6_fold_46 : decode cX6_fold 46 = .ok (.getfield 28, 3) := by decide +kernel
theorem dX6_fold_49 : decode cX6_fold 49 = .ok (.getfield 68, 3) := by decide +kernel
theorem dX6_fold_52 : decode cX6_fold 52 = .ok (.if_icmp .ge 27, 3) := by decide +kernel
theorem dX6_fold_55 : decode cX6_fold 55 = .ok (.iload 4, 2) := by decide +kernel
theorem dX6_fold_57 : decode cX6_fold 57 = .ok (.iload 5, 2) := by decide +kernel
theorem dX6_fold_59 : decode cX6_fold 59 = .ok (.if_icmp .eq 14, 3) := by decide +kernel
theorem dX6_fold_62 : decode cX6_fold 62 = .ok (.aload_n 0, 1) := by decide +kernel
theorem dX6_fold_63 : decode cX6_fold 63 = .ok (.iload_n 1, 1) := by decide +kernel
theorem dX6_fold_64 : decode cX6_fold 64 = .ok (.iload_n 3, 1) := by decide +kernel
theorem dX6_fold_65 : decode cX6_fold 65 = .ok (.iload 4, 2) := by decide +kernel
theorem dX6_fold_67 : decode cX6_fold 67 = .ok (.iload 5, 2) := by decide +kernel
theorem dX6_fold_69 : decode cX6_fold 69 = .ok (.invokevirtual 185, 3) := by decide +kernel
theorem dX6_fold_72 : decode cX6_fold 72 = .ok (.istore_n 3, 1) := by decide +kernel
theorem dX6_fold_73 : decode cX6_fold 73 = .ok (.iinc 5 1, 3) := by decide +kernel
theorem dX6_fold_76 : decode cX6_fold 76 = .ok (.goto (-33), 3) := by decide +kernel
theorem dX6_fold_79 : decode cX6_fold 79 = .ok (.iinc 4 1, 3) := by decide +kernel
theorem dX6_fold_82 : decode cX6_fold 82 = .ok (.goto (-54), 3) := by decide +kernel
theorem dX6_fold_85 : decode cX6_fold 85 = .ok (.iload_n 3, 1) := by decide +kernel
theorem dX6_fold_86 : decode cX6_fold 86 = .ok (.ireturn, 1) := by decide +kernel
theorem dX6_foldPair_0 : decode cX6_foldPair 0 = .ok (.aload_n 0, 1) := by decide +kernel
theorem dX6_foldPair_1 : decode cX6_foldPair 1 = .ok (.getfield 28, 3) := by decide +kernel
theorem dX6_foldPair_4 : decode cX6_foldPair 4 = .ok (.iload_n 3, 1) := by decide +kernel
theorem dX6_foldPair_5 : decode cX6_foldPair 5 = .ok (.iload 4, 2) := by decide +kernel
theorem dX6_foldPair_7 : decode cX6_foldPair 7 = .ok (.invokevirtual 151, 3) := by decide +kernel
theorem dX6_foldPair_10 : decode cX6_foldPair 10 = .ok (.istore 5, 2) := by decide +kernel
theorem dX6_foldPair_12 : decode cX6_foldPair 12 = .ok (.iload_n 1, 1) := by decide +kernel
theorem dX6_foldPair_13 : decode cX6_foldPair 13 = .ok (.iconst 3, 1) := by decide +kernel
theorem dX6_foldPair_14 : decode cX6_foldPair 14 = .ok (.if_icmp .ne 22, 3) := by decide +kernel
theorem dX6_foldPair_17 : decode cX6_foldPair 17 = .ok (.iconst 2, 1) := by decide +kernel
theorem dX6_foldPair_18 : decode cX6_foldPair 18 = .ok (.iload_n 2, 1) := by decide +kernel
theorem dX6_foldPair_19 : decode cX6_foldPair 19 = .ok (.imul, 1) := by decide +kernel
theorem dX6_foldPair_20 : decode cX6_foldPair 20 = .ok (.iload 5, 2) := by decide +kernel
theorem dX6_foldPair_22 : decode cX6_foldPair 22 = .ok (.ifCond .eq 7, 3) := by decide +kernel
theorem dX6_foldPair_25 : decode cX6_foldPair 25 = .ok (.iconst 1, 1) := by decide +kernel
theorem dX6_foldPair_26 : decode cX6_foldPair 26 = .ok (.goto 4, 3) := by decide +kernel
theorem dX6_foldPair_29 : decode cX6_foldPair 29 = .ok (.iconst 0, 1) := by decide +kernel
theorem dX6_foldPair_30 : decode cX6_foldPair 30 = .ok (.iadd, 1) := by decide +kernel
theorem dX6_foldPair_31 : decode cX6_foldPair 31 = .ok (.sipush 1000, 3) := by decide +kernel
theorem dX6_foldPair_34 : decode cX6_foldPair 34 = .ok (.irem, 1) := by decide +kernel
theorem dX6_foldPair_35 : decode cX6_foldPair 35 = .ok (.ireturn, 1) := by decide +kernel
theorem dX6_foldPair_36 : decode cX6_foldPair 36 = .ok (.iload 5, 2) := by decide +kernel
theorem dX6_foldPair_38 : decode cX6_foldPair 38 = .ok (.ifCond .ne 5, 3) := by decide +kernel
theorem dX6_foldPair_41 : decode cX6_foldPair 41 = .ok (.iload_n 2, 1) := by decide +kernel
theorem dX6_foldPair_42 : decode cX6_foldPair 42 = .ok (.ireturn, 1) := by decide +kernel
theorem dX6_foldPair_43 : decode cX6_foldPair 43 = .ok (.iload_n 1, 1) := by decide +kernel
theorem dX6_foldPair_44 : decode cX6_foldPair 44 = .ok (.lookupswitch 39 #[(0, 28), (1, 32)], 28) := by decide +kernel
theorem dX6_foldPair_72 : decode cX6_foldPair 72 = .ok (.iload_n 2, 1) := by decide +kernel
theorem dX6_foldPair_73 : decode cX6_foldPair 73 = .ok (.iconst 1, 1) := by decide +kernel
theorem dX6_foldPair_74 : decode cX6_foldPair 74 = .ok (.iadd, 1) := by decide +kernel
theorem dX6_foldPair_75 : decode cX6_foldPair 75 = .ok (.ireturn, 1) := by decide +kernel
theorem dX6_foldPair_76 : decode cX6_foldPair 76 = .ok (.iload_n 2, 1) := by decide +kernel
theorem dX6_foldPair_77 : decode cX6_foldPair 77 = .ok (.iload_n 3, 1) := by decide +kernel
theorem dX6_foldPair_78 : decode cX6_foldPair 78 = .ok (.iadd, 1) := by decide +kernel
theorem dX6_foldPair_79 : decode cX6_foldPair 79 = .ok (.iload 4, 2) := by decide +kernel
theorem dX6_foldPair_81 : decode cX6_foldPair 81 = .ok (.iadd, 1) := by decide +kernel
theorem dX6_foldPair_82 : decode cX6_foldPair 82 = .ok (.ireturn, 1) := by decide +kernel
theorem dX6_foldPair_83 : decode cX6_foldPair 83 = .ok (.iload_n 2, 1) := by decide +kernel
theorem dX6_foldPair_84 : decode cX6_foldPair 84 = .ok (.iload_n 3, 1) := by decide +kernel
theorem dX6_foldPair_85 : decode cX6_foldPair 85 = .ok (.iload 4, 2) := by decide +kernel
theorem dX6_foldPair_87 : decode cX6_foldPair 87 = .ok (.invokestatic 189, 3) := by decide +kernel
theorem dX6_foldPair_90 : decode cX6_foldPair 90 = .ok (.invokestatic 192, 3) := by decide +kernel
theorem dX6_foldPair_93 : decode cX6_foldPair 93 = .ok (.ireturn, 1) := by decide +kernel
theorem dX6_gain_0 : decode cX6_gain 0 = .ok (.aload_n 0, 1) := by decide +kernel
theorem dX6_gain_1 : decode cX6_gain 1 = .ok (.iload_n 1, 1) := by decide +kernel
theorem dX6_gain_2 : decode cX6_gain 2 = .ok (.iload_n 2, 1) := by decide +kernel
theorem dX6_gain_3 : decode cX6_gain 3 = .ok (.invokevirtual 113, 3) := by decide +kernel
theorem dX6_gain_6 : decode cX6_gain 6 = .ok (.ifCond .ne 6, 3) := by decide +kernel
theorem dX6_gain_9 : decode cX6_gain 9 = .ok (.bipush (-2), 2) := by decide +kernel
theorem dX6_gain_11 : decode cX6_gain 11 = .ok (.ireturn, 1) := by decide +kernel
theorem dX6_gain_12 : decode cX6_gain 12 = .ok (.iload_n 3, 1) := by decide +kernel
theorem dX6_gain_13 : decode cX6_gain 13 = .ok (.ifCond .lt 8, 3) := by decide +kernel
theorem dX6_gain_16 : decode cX6_gain 16 = .ok (.iload_n 3, 1) := by decide +kernel
theorem dX6_gain_17 : decode cX6_gain 17 = .ok (.iconst 1, 1) := by decide +kernel
theorem dX6_gain_18 : decode cX6_gain 18 = .ok (.if_icmp .le 6, 3) := by decide +kernel
theorem dX6_gain_21 : decode cX6_gain 21 = .ok (.bipush (-3), 2) := by decide +kernel
theorem dX6_gain_23 : decode cX6_gain 23 = .ok (.ireturn, 1) := by decide +kernel
theorem dX6_gain_24 : decode cX6_gain 24 = .ok (.aload_n 0, 1) := by decide +kernel
theorem dX6_gain_25 : decode cX6_gain 25 = .ok (.getfield 28, 3) := by decide +kernel
theorem dX6_gain_28 : decode cX6_gain 28 = .ok (.iload_n 1, 1) := by decide +kernel
theorem dX6_gain_29 : decode cX6_gain 29 = .ok (.iload_n 2, 1) := by decide +kernel
theorem dX6_gain_30 : decode cX6_gain 30 = .ok (.invokevirtual 102, 3) := by decide +kernel
theorem dX6_gain_33 : decode cX6_gain 33 = .ok (.ifCond .eq 6, 3) := by decide +kernel
theorem dX6_gain_36 : decode cX6_gain 36 = .ok (.bipush (-4), 2) := by decide +kernel
theorem dX6_gain_38 : decode cX6_gain 38 = .ok (.ireturn, 1) := by decide +kernel
theorem dX6_gain_39 : decode cX6_gain 39 = .ok (.iload_n 3, 1) := by decide +kernel
theorem dX6_gain_40 : decode cX6_gain 40 = .ok (.ifCond .ne 15, 3) := by decide +kernel
theorem dX6_gain_43 : decode cX6_gain 43 = .ok (.aload_n 0, 1) := by decide +kernel
theorem dX6_gain_44 : decode cX6_gain 44 = .ok (.getfield 28, 3) := by decide +kernel
theorem dX6_gain_47 : decode cX6_gain 47 = .ok (.iload_n 1, 1) := by decide +kernel
theorem dX6_gain_48 : decode cX6_gain 48 = .ok (.iload_n 2, 1) := by decide +kernel
theorem dX6_gain_49 : decode cX6_gain 49 = .ok (.invokevirtual 197, 3) := by decide +kernel
theorem dX6_gain_52 : decode cX6_gain 52 = .ok (.goto 12, 3) := by decide +kernel
theorem dX6_gain_55 : decode cX6_gain 55 = .ok (.aload_n 0, 1) := by decide +kernel
theorem dX6_gain_56 : decode cX6_gain 56 = .ok (.getfield 28, 3) := by decide +kernel
theorem dX6_gain_59 : decode cX6_gain 59 = .ok (.iload_n 1, 1) := by decide +kernel
theorem dX6_gain_60 : decode cX6_gain 60 = .ok (.iload_n 2, 1) := by decide +kernel
theorem dX6_gain_61 : decode cX6_gain 61 = .ok (.invokevirtual 200, 3) := by decide +kernel
theorem dX6_gain_64 : decode cX6_gain 64 = .ok (.ireturn, 1) := by decide +kernel
theorem dX6_best_0 : decode cX6_best 0 = .ok (.iconst (-1), 1) := by decide +kernel
theorem dX6_best_1 : decode cX6_best 1 = .ok (.istore_n 1, 1) := by decide +kernel
theorem dX6_best_2 : decode cX6_best 2 = .ok (.iconst (-1), 1) := by decide +kernel
theorem dX6_best_3 : decode cX6_best 3 = .ok (.istore_n 2, 1) := by decide +kernel
theorem dX6_best_4 : decode cX6_best 4 = .ok (.iconst 0, 1) := by decide +kernel
theorem dX6_best_5 : decode cX6_best 5 = .ok (.istore_n 3, 1) := by decide +kernel
theorem dX6_best_6 : decode cX6_best 6 = .ok (.iload_n 3, 1) := by decide +kernel
theorem dX6_best_7 : decode cX6_best 7 = .ok (.aload_n 0, 1) := by decide +kernel
theorem dX6_best_8 : decode cX6_best 8 = .ok (.getfield 28, 3) := by decide +kernel
theorem dX6_best_11 : decode cX6_best 11 = .ok (.getfield 68, 3) := by decide +kernel
theorem dX6_best_14 : decode cX6_best 14 = .ok (.if_icmp .ge 77, 3) := by decide +kernel
theorem dX6_best_17 : decode cX6_best 17 = .ok (.iconst 0, 1) := by decide +kernel
theorem dX6_best_18 : decode cX6_best 18 = .ok (.istore 4, 2) := by decide +kernel
theorem dX6_best_20 : decode cX6_best 20 = .ok (.iload 4, 2) := by decide +kernel
theorem dX6_best_22 : decode cX6_best 22 = .ok (.aload_n 0, 1) := by decide +kernel
theorem dX6_best_23 : decode cX6_best 23 = .ok (.getfield 28, 3) := by decide +kernel
theorem dX6_best_26 : decode cX6_best 26 = .ok (.getfield 68, 3) := by decide +kernel
theorem dX6_best_29 : decode cX6_best 29 = .ok (.if_icmp .ge 56, 3) := by decide +kernel
theorem dX6_best_32 : decode cX6_best 32 = .ok (.iload_n 3, 1) := by decide +kernel
theorem dX6_best_33 : decode cX6_best 33 = .ok (.iload 4, 2) := by decide +kernel
theorem dX6_best_35 : decode cX6_best 35 = .ok (.if_icmp .eq 44, 3) := by decide +kernel
theorem dX6_best_38 : decode cX6_best 38 = .ok (.aload_n 0, 1) := by decide +kernel
theorem dX6_best_39 : decode cX6_best 39 = .ok (.getfield 28, 3) := by decide +kernel
theorem dX6_best_42 : decode cX6_best 42 = .ok (.iload_n 3, 1) := by decide +kernel
theorem dX6_best_43 : decode cX6_best 43 = .ok (.iload 4, 2) := by decide +kernel
theorem dX6_best_45 : decode cX6_best 45 = .ok (.invokevirtual 102, 3) := by decide +kernel
theorem dX6_best_48 : decode cX6_best 48 = .ok (.ifCond .ne 31, 3) := by decide +kernel
theorem dX6_best_51 : decode cX6_best 51 = .ok (.aload_n 0, 1) := by decide +kernel
theorem dX6_best_52 : decode cX6_best 52 = .ok (.getfield 28, 3) := by decide +kernel
theorem dX6_best_55 : decode cX6_best 55 = .ok (.iload_n 3, 1) := by decide +kernel
theorem dX6_best_56 : decode cX6_best 56 = .ok (.iload 4, 2) := by decide +kernel
theorem dX6_best_58 : decode cX6_best 58 = .ok (.invokevirtual 197, 3) := by decide +kernel
theorem dX6_best_61 : decode cX6_best 61 = .ok (.istore 5, 2) := by decide +kernel
theorem dX6_best_63 : decode cX6_best 63 = .ok (.iload 5, 2) := by decide +kernel
theorem dX6_best_65 : decode cX6_best 65 = .ok (.iload_n 2, 1) := by decide +kernel
theorem dX6_best_66 : decode cX6_best 66 = .ok (.if_icmp .le 13, 3) := by decide +kernel
theorem dX6_best_69 : decode cX6_best 69 = .ok (.iload 5, 2) := by decide +kernel
theorem dX6_best_71 : decode cX6_best 71 = .ok (.istore_n 2, 1) := by decide +kernel
theorem dX6_best_72 : decode cX6_best 72 = .ok (.iload_n 3, 1) := by decide +kernel
theorem dX6_best_73 : decode cX6_best 73 = .ok (.iload 4, 2) := by decide +kernel
theorem dX6_best_75 : decode cX6_best 75 = .ok (.invokestatic 189, 3) := by decide +kernel
theorem dX6_best_78 : decode cX6_best 78 = .ok (.istore_n 1, 1) := by decide +kernel
theorem dX6_best_79 : decode cX6_best 79 = .ok (.iinc 4 1, 3) := by decide +kernel
theorem dX6_best_82 : decode cX6_best 82 = .ok (.goto (-62), 3) := by decide +kernel
theorem dX6_best_85 : decode cX6_best 85 = .ok (.iinc 3 1, 3) := by decide +kernel
theorem dX6_best_88 : decode cX6_best 88 = .ok (.goto (-82), 3) := by decide +kernel
theorem dX6_best_91 : decode cX6_best 91 = .ok (.iload_n 1, 1) := by decide +kernel
theorem dX6_best_92 : decode cX6_best 92 = .ok (.ireturn, 1) := by decide +kernel
theorem dX6_loss_0 : decode cX6_loss 0 = .ok (.aload_n 0, 1) := by decide +kernel
theorem dX6_loss_1 : decode cX6_loss 1 = .ok (.iload_n 1, 1) := by decide +kernel
theorem dX6_loss_2 : decode cX6_loss 2 = .ok (.iload_n 2, 1) := by decide +kernel
theorem dX6_loss_3 : decode cX6_loss 3 = .ok (.invokevirtual 173, 3) := by decide +kernel
theorem dX6_loss_6 : decode cX6_loss 6 = .ok (.ifCond .ne 6, 3) := by decide +kernel
theorem dX6_loss_9 : decode cX6_loss 9 = .ok (.bipush (-2), 2) := by decide +kernel
theorem dX6_loss_11 : decode cX6_loss 11 = .ok (.ireturn, 1) := by decide +kernel
theorem dX6_loss_12 : decode cX6_loss 12 = .ok (.aload_n 0, 1) := by decide +kernel
theorem dX6_loss_13 : decode cX6_loss 13 = .ok (.getfield 28, 3) := by decide +kernel
theorem dX6_loss_16 : decode cX6_loss 16 = .ok (.iload_n 1, 1) := by decide +kernel
theorem dX6_loss_17 : decode cX6_loss 17 = .ok (.iload_n 2, 1) := by decide +kernel
theorem dX6_loss_18 : decode cX6_loss 18 = .ok (.invokevirtual 203, 3) := by decide +kernel
theorem dX6_loss_21 : decode cX6_loss 21 = .ok (.ireturn, 1) := by decide +kernel
theorem dX6_worst_0 : decode cX6_worst 0 = .ok (.iconst (-1), 1) := by decide +kernel
theorem dX6_worst_1 : decode cX6_worst 1 = .ok (.istore_n 1, 1) := by decide +kernel
theorem dX6_worst_2 : decode cX6_worst 2 = .ok (.iconst (-1), 1) := by decide +kernel
theorem dX6_worst_3 : decode cX6_worst 3 = .ok (.istore_n 2, 1) := by decide +kernel
theorem dX6_worst_4 : decode cX6_worst 4 = .ok (.iconst 0, 1) := by decide +kernel
theorem dX6_worst_5 : decode cX6_worst 5 = .ok (.istore_n 3, 1) := by decide +kernel
theorem dX6_worst_6 : decode cX6_worst 6 = .ok (.iload_n 3, 1) := by decide +kernel
theorem dX6_worst_7 : decode cX6_worst 7 = .ok (.aload_n 0, 1) := by decide +kernel
theorem dX6_worst_8 : decode cX6_worst 8 = .ok (.getfield 28, 3) := by decide +kernel
theorem dX6_worst_11 : decode cX6_worst 11 = .ok (.getfield 68, 3) := by decide +kernel
theorem dX6_worst_14 : decode cX6_worst 14 = .ok (.if_icmp .ge 71, 3) := by decide +kernel
theorem dX6_worst_17 : decode cX6_worst 17 = .ok (.iconst 0, 1) := by decide +kernel
theorem dX6_worst_18 : decode cX6_worst 18 = .ok (.istore 4, 2) := by decide +kernel
theorem dX6_worst_20 : decode cX6_worst 20 = .ok (.iload 4, 2) := by decide +kernel
theorem dX6_worst_22 : decode cX6_worst 22 = .ok (.aload_n 0, 1) := by decide +kernel
theorem dX6_worst_23 : decode cX6_worst 23 = .ok (.getfield 28, 3) := by decide +kernel
theorem dX6_worst_26 : decode cX6_worst 26 = .ok (.getfield 68, 3) := by decide +kernel
theorem dX6_worst_29 : decode cX6_worst 29 = .ok (.if_icmp .ge 50, 3) := by decide +kernel
theorem dX6_worst_32 : decode cX6_worst 32 = .ok (.aload_n 0, 1) := by decide +kernel
theorem dX6_worst_33 : decode cX6_worst 33 = .ok (.getfield 28, 3) := by decide +kernel
theorem dX6_worst_36 : decode cX6_worst 36 = .ok (.iload_n 3, 1) := by decide +kernel
theorem dX6_worst_37 : decode cX6_worst 37 = .ok (.iload 4, 2) := by decide +kernel
theorem dX6_worst_39 : decode cX6_worst 39 = .ok (.invokevirtual 102, 3) := by decide +kernel
theorem dX6_worst_42 : decode cX6_worst 42 = .ok (.ifCond .eq 31, 3) := by decide +kernel
theorem dX6_worst_45 : decode cX6_worst 45 = .ok (.aload_n 0, 1) := by decide +kernel
theorem dX6_worst_46 : decode cX6_worst 46 = .ok (.getfield 28, 3) := by decide +kernel
theorem dX6_worst_49 : decode cX6_worst 49 = .ok (.iload_n 3, 1) := by decide +kernel
theorem dX6_worst_50 : decode cX6_worst 50 = .ok (.iload 4, 2) := by decide +kernel
theorem dX6_worst_52 : decode cX6_worst 52 = .ok (.invokevirtual 203, 3) := by decide +kernel
theorem dX6_worst_55 : decode cX6_worst 55 = .ok (.istore 5, 2) := by decide +kernel
theorem dX6_worst_57 : decode cX6_worst 57 = .ok (.iload 5, 2) := by decide +kernel
theorem dX6_worst_59 : decode cX6_worst 59 = .ok (.iload_n 2, 1) := by decide +kernel
theorem dX6_worst_60 : decode cX6_worst 60 = .ok (.if_icmp .le 13, 3) := by decide +kernel
theorem dX6_worst_63 : decode cX6_worst 63 = .ok (.iload 5, 2) := by decide +kernel
theorem dX6_worst_65 : decode cX6_worst 65 = .ok (.istore_n 2, 1) := by decide +kernel
theorem dX6_worst_66 : decode cX6_worst 66 = .ok (.iload_n 3, 1) := by decide +kernel
theorem dX6_worst_67 : decode cX6_worst 67 = .ok (.iload 4, 2) := by decide +kernel
theorem dX6_worst_69 : decode cX6_worst 69 = .ok (.invokestatic 189, 3) := by decide +kernel
theorem dX6_worst_72 : decode cX6_worst 72 = .ok (.istore_n 1, 1) := by decide +kernel
theorem dX6_worst_73 : decode cX6_worst 73 = .ok (.iinc 4 1, 3) := by decide +kernel
theorem dX6_worst_76 : decode cX6_worst 76 = .ok (.goto (-56), 3) := by decide +kernel
theorem dX6_worst_79 : decode cX6_worst 79 = .ok (.iinc 3 1, 3) := by decide +kernel
theorem dX6_worst_82 : decode cX6_worst 82 = .ok (.goto (-76), 3) := by decide +kernel
theorem dX6_worst_85 : decode cX6_worst 85 = .ok (.iload_n 1, 1) := by decide +kernel
theorem dX6_worst_86 : decode cX6_worst 86 = .ok (.ireturn, 1) := by decide +kernel
theorem dX6_sever_0 : decode cX6_sever 0 = .ok (.aload_n 0, 1) := by decide +kernel
theorem dX6_sever_1 : decode cX6_sever 1 = .ok (.iload_n 1, 1) := by decide +kernel
theorem dX6_sever_2 : decode cX6_sever 2 = .ok (.iload_n 2, 1) := by decide +kernel
theorem dX6_sever_3 : decode cX6_sever 3 = .ok (.invokevirtual 113, 3) := by decide +kernel
theorem dX6_sever_6 : decode cX6_sever 6 = .ok (.ifCond .ne 6, 3) := by decide +kernel
theorem dX6_sever_9 : decode cX6_sever 9 = .ok (.bipush (-2), 2) := by decide +kernel
theorem dX6_sever_11 : decode cX6_sever 11 = .ok (.ireturn, 1) := by decide +kernel
theorem dX6_sever_12 : decode cX6_sever 12 = .ok (.aload_n 0, 1) := by decide +kernel
theorem dX6_sever_13 : decode cX6_sever 13 = .ok (.getfield 50, 3) := by decide +kernel
theorem dX6_sever_16 : decode cX6_sever 16 = .ok (.aload_n 0, 1) := by decide +kernel
theorem dX6_sever_17 : decode cX6_sever 17 = .ok (.getfield 28, 3) := by decide +kernel
theorem dX6_sever_20 : decode cX6_sever 20 = .ok (.iload_n 1, 1) := by decide +kernel
theorem dX6_sever_21 : decode cX6_sever 21 = .ok (.iload_n 2, 1) := by decide +kernel
theorem dX6_sever_22 : decode cX6_sever 22 = .ok (.invokevirtual 206, 3) := by decide +kernel
theorem dX6_sever_25 : decode cX6_sever 25 = .ok (.ireturn, 1) := by decide +kernel
theorem dX6_chain_0 : decode cX6_chain 0 = .ok (.iload_n 1, 1) := by decide +kernel
theorem dX6_chain_1 : decode cX6_chain 1 = .ok (.invokestatic 210, 3) := by decide +kernel
theorem dX6_chain_4 : decode cX6_chain 4 = .ok (.ifCond .ne 6, 3) := by decide +kernel
theorem dX6_chain_7 : decode cX6_chain 7 = .ok (.bipush (-2), 2) := by decide +kernel
theorem dX6_chain_9 : decode cX6_chain 9 = .ok (.ireturn, 1) := by decide +kernel
theorem dX6_chain_10 : decode cX6_chain 10 = .ok (.aload_n 0, 1) := by decide +kernel
theorem dX6_chain_11 : decode cX6_chain 11 = .ok (.getfield 56, 3) := by decide +kernel
theorem dX6_chain_14 : decode cX6_chain 14 = .ok (.iload_n 1, 1) := by decide +kernel
theorem dX6_chain_15 : decode cX6_chain 15 = .ok (.aaload, 1) := by decide +kernel
theorem dX6_chain_16 : decode cX6_chain 16 = .ok (.invokevirtual 213, 3) := by decide +kernel
theorem dX6_chain_19 : decode cX6_chain 19 = .ok (.iconst 0, 1) := by decide +kernel
theorem dX6_chain_20 : decode cX6_chain 20 = .ok (.ireturn, 1) := by decide +kernel
theorem dX6_add_0 : decode cX6_add 0 = .ok (.iload_n 1, 1) := by decide +kernel
theorem dX6_add_1 : decode cX6_add 1 = .ok (.invokestatic 210, 3) := by decide +kernel
theorem dX6_add_4 : decode cX6_add 4 = .ok (.ifCond .eq 17, 3) := by decide +kernel
theorem dX6_add_7 : decode cX6_add 7 = .ok (.iload_n 2, 1) := by decide +kernel
theorem dX6_add_8 : decode cX6_add 8 = .ok (.iconst 1, 1) := by decide +kernel
theorem dX6_add_9 : decode cX6_add 9 = .ok (.if_icmp .ne 15, 3) := by decide +kernel
theorem dX6_add_12 : decode cX6_add 12 = .ok (.aload_n 0, 1) := by decide +kernel
theorem dX6_add_13 : decode cX6_add 13 = .ok (.iload 4, 2) := by decide +kernel
theorem dX6_add_15 : decode cX6_add 15 = .ok (.invokevirtual 216, 3) := by decide +kernel
theorem dX6_add_18 : decode cX6_add 18 = .ok (.ifCond .ne 6, 3) := by decide +kernel
theorem dX6_add_21 : decode cX6_add 21 = .ok (.bipush (-2), 2) := by decide +kernel
theorem dX6_add_23 : decode cX6_add 23 = .ok (.ireturn, 1) := by decide +kernel
theorem dX6_add_24 : decode cX6_add 24 = .ok (.iload_n 2, 1) := by decide +kernel
theorem dX6_add_25 : decode cX6_add 25 = .ok (.ifCond .lt 17, 3) := by decide +kernel
theorem dX6_add_28 : decode cX6_add 28 = .ok (.iload_n 2, 1) := by decide +kernel
theorem dX6_add_29 : decode cX6_add 29 = .ok (.iconst 1, 1) := by decide +kernel
theorem dX6_add_30 : decode cX6_add 30 = .ok (.if_icmp .gt 12, 3) := by decide +kernel
theorem dX6_add_33 : decode cX6_add 33 = .ok (.iload_n 3, 1) := by decide +kernel
theorem dX6_add_34 : decode cX6_add 34 = .ok (.ifCond .lt 8, 3) := by decide +kernel
theorem dX6_add_37 : decode cX6_add 37 = .ok (.iload_n 3, 1) := by decide +kernel
theorem dX6_add_38 : decode cX6_add 38 = .ok (.iconst 1, 1) := by decide +kernel
theorem dX6_add_39 : decode cX6_add 39 = .ok (.if_icmp .le 6, 3) := by decide +kernel
theorem dX6_add_42 : decode cX6_add 42 = .ok (.bipush (-3), 2) := by decide +kernel
theorem dX6_add_44 : decode cX6_add 44 = .ok (.ireturn, 1) := by decide +kernel
theorem dX6_add_45 : decode cX6_add 45 = .ok (.iload_n 2, 1) := by decide +kernel
theorem dX6_add_46 : decode cX6_add 46 = .ok (.ifCond .ne 22, 3) := by decide +kernel
theorem dX6_add_49 : decode cX6_add 49 = .ok (.iload 4, 2) := by decide +kernel
theorem dX6_add_51 : decode cX6_add 51 = .ok (.sipush (-9999), 3) := by decide +kernel
theorem dX6_add_54 : decode cX6_add 54 = .ok (.if_icmp .lt 11, 3) := by decide +kernel
theorem dX6_add_57 : decode cX6_add 57 = .ok (.iload 4, 2) := by decide +kernel
theorem dX6_add_59 : decode cX6_add 59 = .ok (.sipush 9999, 3) := by decide +kernel
theorem dX6_add_62 : decode cX6_add 62 = .ok (.if_icmp .le 6, 3) := by decide +kernel
theorem dX6_add_65 : decode cX6_add 65 = .ok (.bipush (-3), 2) := by decide +kernel
theorem dX6_add_67 : decode cX6_add 67 = .ok (.ireturn, 1) := by decide +kernel
theorem dX6_add_68 : decode cX6_add 68 = .ok (.aload_n 0, 1) := by decide +kernel
theorem dX6_add_69 : decode cX6_add 69 = .ok (.getfield 56, 3) := by decide +kernel
theorem dX6_add_72 : decode cX6_add 72 = .ok (.iload_n 1, 1) := by decide +kernel
theorem dX6_add_73 : decode cX6_add 73 = .ok (.aaload, 1) := by decide +kernel
theorem dX6_add_74 : decode cX6_add 74 = .ok (.astore 5, 2) := by decide +kernel
theorem dX6_add_76 : decode cX6_add 76 = .ok (.aload 5, 2) := by decide +kernel
theorem dX6_add_78 : decode cX6_add 78 = .ok (.getfield 219, 3) := by decide +kernel
theorem dX6_add_81 : decode cX6_add 81 = .ok (.ifCond .eq 6, 3) := by decide +kernel
theorem dX6_add_84 : decode cX6_add 84 = .ok (.bipush (-11), 2) := by decide +kernel
theorem dX6_add_86 : decode cX6_add 86 = .ok (.ireturn, 1) := by decide +kernel
theorem dX6_add_87 : decode cX6_add 87 = .ok (.aload 5, 2) := by decide +kernel
theorem dX6_add_89 : decode cX6_add 89 = .ok (.getfield 223, 3) := by decide +kernel
theorem dX6_add_92 : decode cX6_add 92 = .ok (.bipush 8, 2) := by decide +kernel
theorem dX6_add_94 : decode cX6_add 94 = .ok (.if_icmp .lt 6, 3) := by decide +kernel
theorem dX6_add_97 : decode cX6_add 97 = .ok (.bipush (-14), 2) := by decide +kernel
theorem dX6_add_99 : decode cX6_add 99 = .ok (.ireturn, 1) := by decide +kernel
theorem dX6_add_100 : decode cX6_add 100 = .ok (.aload 5, 2) := by decide +kernel
theorem dX6_add_102 : decode cX6_add 102 = .ok (.iload_n 3, 1) := by decide +kernel
theorem dX6_add_103 : decode cX6_add 103 = .ok (.iconst 1, 1) := by decide +kernel
theorem dX6_add_104 : decode cX6_add 104 = .ok (.if_icmp .ne 11, 3) := by decide +kernel
theorem dX6_add_107 : decode cX6_add 107 = .ok (.aload 5, 2) := by decide +kernel
theorem dX6_add_109 : decode cX6_add 109 = .ok (.getfield 223, 3) := by decide +kernel
theorem dX6_add_112 : decode cX6_add 112 = .ok (.goto 4, 3) := by decide +kernel
theorem dX6_add_115 : decode cX6_add 115 = .ok (.iconst 0, 1) := by decide +kernel
theorem dX6_add_116 : decode cX6_add 116 = .ok (.iload 4, 2) := by decide +kernel
theorem dX6_add_118 : decode cX6_add 118 = .ok (.iload_n 2, 1) := by decide +kernel
theorem dX6_add_119 : decode cX6_add 119 = .ok (.iconst 1, 1) := by decide +kernel
theorem dX6_add_120 : decode cX6_add 120 = .ok (.if_icmp .ne 7, 3) := by decide +kernel
theorem dX6_add_123 : decode cX6_add 123 = .ok (.iconst 1, 1) := by decide +kernel
theorem dX6_add_124 : decode cX6_add 124 = .ok (.goto 4, 3) := by decide +kernel
theorem dX6_add_127 : decode cX6_add 127 = .ok (.iconst 0, 1) := by decide +kernel
theorem dX6_add_128 : decode cX6_add 128 = .ok (.invokevirtual 224, 3) := by decide +kernel
theorem dX6_add_131 : decode cX6_add 131 = .ok (.aload 5, 2) := by decide +kernel
theorem dX6_add_133 : decode cX6_add 133 = .ok (.getfield 223, 3) := by decide +kernel
theorem dX6_add_136 : decode cX6_add 136 = .ok (.ireturn, 1) := by decide +kernel
theorem dX6_last_0 : decode cX6_last 0 = .ok (.iload_n 1, 1) := by decide +kernel
theorem dX6_last_1 : decode cX6_last 1 = .ok (.invokestatic 210, 3) := by decide +kernel
theorem dX6_last_4 : decode cX6_last 4 = .ok (.ifCond .ne 6, 3) := by decide +kernel
theorem dX6_last_7 : decode cX6_last 7 = .ok (.bipush (-2), 2) := by decide +kernel
theorem dX6_last_9 : decode cX6_last 9 = .ok (.ireturn, 1) := by decide +kernel
theorem dX6_last_10 : decode cX6_last 10 = .ok (.iload_n 2, 1) := by decide +kernel
theorem dX6_last_11 : decode cX6_last 11 = .ok (.ifCond .lt 8, 3) := by decide +kernel
theorem dX6_last_14 : decode cX6_last 14 = .ok (.iload_n 2, 1) := by decide +kernel
theorem dX6_last_15 : decode cX6_last 15 = .ok (.iconst 1, 1) := by decide +kernel
theorem dX6_last_16 : decode cX6_last 16 = .ok (.if_icmp .le 6, 3) := by decide +kernel
theorem dX6_last_19 : decode cX6_last 19 = .ok (.bipush (-3), 2) := by decide +kernel
theorem dX6_last_21 : decode cX6_last 21 = .ok (.ireturn, 1) := by decide +kernel
theorem dX6_last_22 : decode cX6_last 22 = .ok (.aload_n 0, 1) := by decide +kernel
theorem dX6_last_23 : decode cX6_last 23 = .ok (.getfield 56, 3) := by decide +kernel
theorem dX6_last_26 : decode cX6_last 26 = .ok (.iload_n 1, 1) := by decide +kernel
theorem dX6_last_27 : decode cX6_last 27 = .ok (.aaload, 1) := by decide +kernel
theorem dX6_last_28 : decode cX6_last 28 = .ok (.astore_n 3, 1) := by decide +kernel
theorem dX6_last_29 : decode cX6_last 29 = .ok (.aload_n 3, 1) := by decide +kernel
theorem dX6_last_30 : decode cX6_last 30 = .ok (.getfield 219, 3) := by decide +kernel
theorem dX6_last_33 : decode cX6_last 33 = .ok (.ifCond .eq 6, 3) := by decide +kernel
theorem dX6_last_36 : decode cX6_last 36 = .ok (.bipush (-11), 2) := by decide +kernel
theorem dX6_last_38 : decode cX6_last 38 = .ok (.ireturn, 1) := by decide +kernel
theorem dX6_last_39 : decode cX6_last 39 = .ok (.aload_n 3, 1) := by decide +kernel
theorem dX6_last_40 : decode cX6_last 40 = .ok (.getfield 223, 3) := by decide +kernel
theorem dX6_last_43 : decode cX6_last 43 = .ok (.ifCond .ne 6, 3) := by decide +kernel
theorem dX6_last_46 : decode cX6_last 46 = .ok (.bipush (-12), 2) := by decide +kernel
theorem dX6_last_48 : decode cX6_last 48 = .ok (.ireturn, 1) := by decide +kernel
theorem dX6_last_49 : decode cX6_last 49 = .ok (.aload_n 3, 1) := by decide +kernel
theorem dX6_last_50 : decode cX6_last 50 = .ok (.getfield 223, 3) := by decide +kernel
theorem dX6_last_53 : decode cX6_last 53 = .ok (.iconst 1, 1) := by decide +kernel
theorem dX6_last_54 : decode cX6_last 54 = .ok (.isub, 1) := by decide +kernel
theorem dX6_last_55 : decode cX6_last 55 = .ok (.istore 4, 2) := by decide +kernel
theorem dX6_last_57 : decode cX6_last 57 = .ok (.aload_n 3, 1) := by decide +kernel
theorem dX6_last_58 : decode cX6_last 58 = .ok (.getfield 228, 3) := by decide +kernel
theorem dX6_last_61 : decode cX6_last 61 = .ok (.iload 4, 2) := by decide +kernel
theorem dX6_last_63 : decode cX6_last 63 = .ok (.baload, 1) := by decide +kernel
theorem dX6_last_64 : decode cX6_last 64 = .ok (.iload_n 2, 1) := by decide +kernel
theorem dX6_last_65 : decode cX6_last 65 = .ok (.iconst 1, 1) := by decide +kernel
theorem dX6_last_66 : decode cX6_last 66 = .ok (.if_icmp .ne 7, 3) := by decide +kernel
theorem dX6_last_69 : decode cX6_last 69 = .ok (.iconst 1, 1) := by decide +kernel
theorem dX6_last_70 : decode cX6_last 70 = .ok (.goto 4, 3) := by decide +kernel
theorem dX6_last_73 : decode cX6_last 73 = .ok (.iconst 0, 1) := by decide +kernel
theorem dX6_last_74 : decode cX6_last 74 = .ok (.if_icmp .eq 6, 3) := by decide +kernel
theorem dX6_last_77 : decode cX6_last 77 = .ok (.bipush (-13), 2) := by decide +kernel
theorem dX6_last_79 : decode cX6_last 79 = .ok (.ireturn, 1) := by decide +kernel
theorem dX6_last_80 : decode cX6_last 80 = .ok (.aload_n 3, 1) := by decide +kernel
theorem dX6_last_81 : decode cX6_last 81 = .ok (.iload 4, 2) := by decide +kernel
theorem dX6_last_83 : decode cX6_last 83 = .ok (.putfield 223, 3) := by decide +kernel
theorem dX6_last_86 : decode cX6_last 86 = .ok (.iload_n 2, 1) := by decide +kernel
theorem dX6_last_87 : decode cX6_last 87 = .ok (.iconst 1, 1) := by decide +kernel
theorem dX6_last_88 : decode cX6_last 88 = .ok (.if_icmp .ne 13, 3) := by decide +kernel
theorem dX6_last_91 : decode cX6_last 91 = .ok (.aload_n 3, 1) := by decide +kernel
theorem dX6_last_92 : decode cX6_last 92 = .ok (.getfield 232, 3) := by decide +kernel
theorem dX6_last_95 : decode cX6_last 95 = .ok (.iload 4, 2) := by decide +kernel
theorem dX6_last_97 : decode cX6_last 97 = .ok (.iaload, 1) := by decide +kernel
theorem dX6_last_98 : decode cX6_last 98 = .ok (.goto 13, 3) := by decide +kernel
theorem dX6_last_101 : decode cX6_last 101 = .ok (.aload_n 3, 1) := by decide +kernel
theorem dX6_last_102 : decode cX6_last 102 = .ok (.getfield 232, 3) := by decide +kernel
theorem dX6_last_105 : decode cX6_last 105 = .ok (.iload 4, 2) := by decide +kernel
theorem dX6_last_107 : decode cX6_last 107 = .ok (.iaload, 1) := by decide +kernel
theorem dX6_last_108 : decode cX6_last 108 = .ok (.ldc 235, 2) := by decide +kernel
theorem dX6_last_110 : decode cX6_last 110 = .ok (.iadd, 1) := by decide +kernel
theorem dX6_last_111 : decode cX6_last 111 = .ok (.ireturn, 1) := by decide +kernel
theorem dX6_sum_0 : decode cX6_sum 0 = .ok (.iload_n 1, 1) := by decide +kernel
theorem dX6_sum_1 : decode cX6_sum 1 = .ok (.invokestatic 210, 3) := by decide +kernel
theorem dX6_sum_4 : decode cX6_sum 4 = .ok (.ifCond .ne 6, 3) := by decide +kernel
theorem dX6_sum_7 : decode cX6_sum 7 = .ok (.bipush (-2), 2) := by decide +kernel
theorem dX6_sum_9 : decode cX6_sum 9 = .ok (.ireturn, 1) := by decide +kernel
theorem dX6_sum_10 : decode cX6_sum 10 = .ok (.iload_n 2, 1) := by decide +kernel
theorem dX6_sum_11 : decode cX6_sum 11 = .ok (.ifCond .lt 8, 3) := by decide +kernel
theorem dX6_sum_14 : decode cX6_sum 14 = .ok (.iload_n 2, 1) := by decide +kernel
theorem dX6_sum_15 : decode cX6_sum 15 = .ok (.iconst 2, 1) := by decide +kernel
theorem dX6_sum_16 : decode cX6_sum 16 = .ok (.if_icmp .le 6, 3) := by decide +kernel
theorem dX6_sum_19 : decode cX6_sum 19 = .ok (.bipush (-3), 2) := by decide +kernel
theorem dX6_sum_21 : decode cX6_sum 21 = .ok (.ireturn, 1) := by decide +kernel
theorem dX6_sum_22 : decode cX6_sum 22 = .ok (.aload_n 0, 1) := by decide +kernel
theorem dX6_sum_23 : decode cX6_sum 23 = .ok (.getfield 56, 3) := by decide +kernel
theorem dX6_sum_26 : decode cX6_sum 26 = .ok (.iload_n 1, 1) := by decide +kernel
theorem dX6_sum_27 : decode cX6_sum 27 = .ok (.aaload, 1) := by decide +kernel
theorem dX6_sum_28 : decode cX6_sum 28 = .ok (.getfield 219, 3) := by decide +kernel
theorem dX6_sum_31 : decode cX6_sum 31 = .ok (.ifCond .eq 6, 3) := by decide +kernel
theorem dX6_sum_34 : decode cX6_sum 34 = .ok (.bipush (-11), 2) := by decide +kernel
theorem dX6_sum_36 : decode cX6_sum 36 = .ok (.ireturn, 1) := by decide +kernel
theorem dX6_sum_37 : decode cX6_sum 37 = .ok (.aload_n 0, 1) := by decide +kernel
theorem dX6_sum_38 : decode cX6_sum 38 = .ok (.getfield 56, 3) := by decide +kernel
theorem dX6_sum_41 : decode cX6_sum 41 = .ok (.iload_n 1, 1) := by decide +kernel
theorem dX6_sum_42 : decode cX6_sum 42 = .ok (.aaload, 1) := by decide +kernel
theorem dX6_sum_43 : decode cX6_sum 43 = .ok (.iload_n 2, 1) := by decide +kernel
theorem dX6_sum_44 : decode cX6_sum 44 = .ok (.iconst 1, 1) := by decide +kernel
theorem dX6_sum_45 : decode cX6_sum 45 = .ok (.if_icmp .eq 7, 3) := by decide +kernel
theorem dX6_sum_48 : decode cX6_sum 48 = .ok (.iconst 1, 1) := by decide +kernel
theorem dX6_sum_49 : decode cX6_sum 49 = .ok (.goto 4, 3) := by decide +kernel
theorem dX6_sum_52 : decode cX6_sum 52 = .ok (.iconst 0, 1) := by decide +kernel
theorem dX6_sum_53 : decode cX6_sum 53 = .ok (.iload_n 2, 1) := by decide +kernel
theorem dX6_sum_54 : decode cX6_sum 54 = .ok (.ifCond .eq 7, 3) := by decide +kernel
theorem dX6_sum_57 : decode cX6_sum 57 = .ok (.iconst 1, 1) := by decide +kernel
theorem dX6_sum_58 : decode cX6_sum 58 = .ok (.goto 4, 3) := by decide +kernel
theorem dX6_sum_61 : decode cX6_sum 61 = .ok (.iconst 0, 1) := by decide +kernel
theorem dX6_sum_62 : decode cX6_sum 62 = .ok (.invokevirtual 236, 3) := by decide +kernel
theorem dX6_sum_65 : decode cX6_sum 65 = .ok (.ldc 240, 2) := by decide +kernel
theorem dX6_sum_67 : decode cX6_sum 67 = .ok (.iadd, 1) := by decide +kernel
end
section
theorem dX6_sum_68 : decode cX6_sum 68 = .ok (.ireturn, 1) := by decide +kernel
theorem dX6_strike_0 : decode cX6_strike 0 = .ok (.iload_n 1, 1) := by decide +kernel
theorem dX6_strike_1 : decode cX6_strike 1 = .ok (.invokestatic 210, 3) := by decide +kernel
theorem dX6_strike_4 : decode cX6_strike 4 = .ok (.ifCond .ne 6, 3) := by decide +kernel
theorem dX6_strike_7 : decode cX6_strike 7 = .ok (.bipush (-2), 2) := by decide +kernel
theorem dX6_strike_9 : decode cX6_strike 9 = .ok (.ireturn, 1) := by decide +kernel
theorem dX6_strike_10 : decode cX6_strike 10 = .ok (.iload_n 2, 1) := by decide +kernel
theorem dX6_strike_11 : decode cX6_strike 11 = .ok (.ifCond .lt 8, 3) := by decide +kernel
theorem dX6_strike_14 : decode cX6_strike 14 = .ok (.iload_n 2, 1) := by decide +kernel
theorem dX6_strike_15 : decode cX6_strike 15 = .ok (.iconst 1, 1) := by decide +kernel
theorem dX6_strike_16 : decode cX6_strike 16 = .ok (.if_icmp .le 6, 3) := by decide +kernel
theorem dX6_strike_19 : decode cX6_strike 19 = .ok (.bipush (-3), 2) := by decide +kernel
theorem dX6_strike_21 : decode cX6_strike 21 = .ok (.ireturn, 1) := by decide +kernel
theorem dX6_strike_22 : decode cX6_strike 22 = .ok (.aload_n 0, 1) := by decide +kernel
theorem dX6_strike_23 : decode cX6_strike 23 = .ok (.getfield 56, 3) := by decide +kernel
theorem dX6_strike_26 : decode cX6_strike 26 = .ok (.iload_n 1, 1) := by decide +kernel
theorem dX6_strike_27 : decode cX6_strike 27 = .ok (.aaload, 1) := by decide +kernel
theorem dX6_strike_28 : decode cX6_strike 28 = .ok (.getfield 219, 3) := by decide +kernel
theorem dX6_strike_31 : decode cX6_strike 31 = .ok (.ifCond .eq 6, 3) := by decide +kernel
theorem dX6_strike_34 : decode cX6_strike 34 = .ok (.bipush (-11), 2) := by decide +kernel
theorem dX6_strike_36 : decode cX6_strike 36 = .ok (.ireturn, 1) := by decide +kernel
theorem dX6_strike_37 : decode cX6_strike 37 = .ok (.aload_n 0, 1) := by decide +kernel
theorem dX6_strike_38 : decode cX6_strike 38 = .ok (.aload_n 0, 1) := by decide +kernel
theorem dX6_strike_39 : decode cX6_strike 39 = .ok (.getfield 56, 3) := by decide +kernel
theorem dX6_strike_42 : decode cX6_strike 42 = .ok (.iload_n 1, 1) := by decide +kernel
theorem dX6_strike_43 : decode cX6_strike 43 = .ok (.aaload, 1) := by decide +kernel
theorem dX6_strike_44 : decode cX6_strike 44 = .ok (.iload_n 2, 1) := by decide +kernel
theorem dX6_strike_45 : decode cX6_strike 45 = .ok (.iconst 1, 1) := by decide +kernel
theorem dX6_strike_46 : decode cX6_strike 46 = .ok (.if_icmp .ne 7, 3) := by decide +kernel
theorem dX6_strike_49 : decode cX6_strike 49 = .ok (.iconst 1, 1) := by decide +kernel
theorem dX6_strike_50 : decode cX6_strike 50 = .ok (.goto 4, 3) := by decide +kernel
theorem dX6_strike_53 : decode cX6_strike 53 = .ok (.iconst 0, 1) := by decide +kernel
theorem dX6_strike_54 : decode cX6_strike 54 = .ok (.invokevirtual 241, 3) := by decide +kernel
theorem dX6_strike_57 : decode cX6_strike 57 = .ok (.ireturn, 1) := by decide +kernel
theorem dX6_strikeArcs_0 : decode cX6_strikeArcs 0 = .ok (.aload_n 1, 1) := by decide +kernel
theorem dX6_strikeArcs_1 : decode cX6_strikeArcs 1 = .ok (.getfield 223, 3) := by decide +kernel
theorem dX6_strikeArcs_4 : decode cX6_strikeArcs 4 = .ok (.istore_n 3, 1) := by decide +kernel
theorem dX6_strikeArcs_5 : decode cX6_strikeArcs 5 = .ok (.iconst 0, 1) := by decide +kernel
theorem dX6_strikeArcs_6 : decode cX6_strikeArcs 6 = .ok (.istore 4, 2) := by decide +kernel
theorem dX6_strikeArcs_8 : decode cX6_strikeArcs 8 = .ok (.iconst 0, 1) := by decide +kernel
theorem dX6_strikeArcs_9 : decode cX6_strikeArcs 9 = .ok (.istore 5, 2) := by decide +kernel
theorem dX6_strikeArcs_11 : decode cX6_strikeArcs 11 = .ok (.iload 5, 2) := by decide +kernel
theorem dX6_strikeArcs_13 : decode cX6_strikeArcs 13 = .ok (.iload_n 3, 1) := by decide +kernel
theorem dX6_strikeArcs_14 : decode cX6_strikeArcs 14 = .ok (.if_icmp .ge 93, 3) := by decide +kernel
theorem dX6_strikeArcs_17 : decode cX6_strikeArcs 17 = .ok (.aload_n 1, 1) := by decide +kernel
theorem dX6_strikeArcs_18 : decode cX6_strikeArcs 18 = .ok (.getfield 228, 3) := by decide +kernel
theorem dX6_strikeArcs_21 : decode cX6_strikeArcs 21 = .ok (.iload 5, 2) := by decide +kernel
theorem dX6_strikeArcs_23 : decode cX6_strikeArcs 23 = .ok (.baload, 1) := by decide +kernel
theorem dX6_strikeArcs_24 : decode cX6_strikeArcs 24 = .ok (.ifCond .eq 38, 3) := by decide +kernel
theorem dX6_strikeArcs_27 : decode cX6_strikeArcs 27 = .ok (.aload_n 0, 1) := by decide +kernel
theorem dX6_strikeArcs_28 : decode cX6_strikeArcs 28 = .ok (.getfield 28, 3) := by decide +kernel
theorem dX6_strikeArcs_31 : decode cX6_strikeArcs 31 = .ok (.aload_n 1, 1) := by decide +kernel
theorem dX6_strikeArcs_32 : decode cX6_strikeArcs 32 = .ok (.getfield 232, 3) := by decide +kernel
theorem dX6_strikeArcs_35 : decode cX6_strikeArcs 35 = .ok (.iload 5, 2) := by decide +kernel
theorem dX6_strikeArcs_37 : decode cX6_strikeArcs 37 = .ok (.iaload, 1) := by decide +kernel
theorem dX6_strikeArcs_38 : decode cX6_strikeArcs 38 = .ok (.bipush 10, 2) := by decide +kernel
theorem dX6_strikeArcs_40 : decode cX6_strikeArcs 40 = .ok (.idiv, 1) := by decide +kernel
theorem dX6_strikeArcs_41 : decode cX6_strikeArcs 41 = .ok (.aload_n 1, 1) := by decide +kernel
theorem dX6_strikeArcs_42 : decode cX6_strikeArcs 42 = .ok (.getfield 232, 3) := by decide +kernel
theorem dX6_strikeArcs_45 : decode cX6_strikeArcs 45 = .ok (.iload 5, 2) := by decide +kernel
theorem dX6_strikeArcs_47 : decode cX6_strikeArcs 47 = .ok (.iaload, 1) := by decide +kernel
theorem dX6_strikeArcs_48 : decode cX6_strikeArcs 48 = .ok (.bipush 10, 2) := by decide +kernel
theorem dX6_strikeArcs_50 : decode cX6_strikeArcs 50 = .ok (.irem, 1) := by decide +kernel
theorem dX6_strikeArcs_51 : decode cX6_strikeArcs 51 = .ok (.invokevirtual 102, 3) := by decide +kernel
theorem dX6_strikeArcs_54 : decode cX6_strikeArcs 54 = .ok (.iload_n 2, 1) := by decide +kernel
theorem dX6_strikeArcs_55 : decode cX6_strikeArcs 55 = .ok (.if_icmp .ne 7, 3) := by decide +kernel
theorem dX6_strikeArcs_58 : decode cX6_strikeArcs 58 = .ok (.iconst 1, 1) := by decide +kernel
theorem dX6_strikeArcs_59 : decode cX6_strikeArcs 59 = .ok (.goto 4, 3) := by decide +kernel
theorem dX6_strikeArcs_62 : decode cX6_strikeArcs 62 = .ok (.iconst 0, 1) := by decide +kernel
theorem dX6_strikeArcs_63 : decode cX6_strikeArcs 63 = .ok (.istore 6, 2) := by decide +kernel
theorem dX6_strikeArcs_65 : decode cX6_strikeArcs 65 = .ok (.iload 6, 2) := by decide +kernel
theorem dX6_strikeArcs_67 : decode cX6_strikeArcs 67 = .ok (.ifCond .ne 34, 3) := by decide +kernel
theorem dX6_strikeArcs_70 : decode cX6_strikeArcs 70 = .ok (.aload_n 1, 1) := by decide +kernel
theorem dX6_strikeArcs_71 : decode cX6_strikeArcs 71 = .ok (.getfield 232, 3) := by decide +kernel
theorem dX6_strikeArcs_74 : decode cX6_strikeArcs 74 = .ok (.iload 4, 2) := by decide +kernel
theorem dX6_strikeArcs_76 : decode cX6_strikeArcs 76 = .ok (.aload_n 1, 1) := by decide +kernel
theorem dX6_strikeArcs_77 : decode cX6_strikeArcs 77 = .ok (.getfield 232, 3) := by decide +kernel
theorem dX6_strikeArcs_80 : decode cX6_strikeArcs 80 = .ok (.iload 5, 2) := by decide +kernel
theorem dX6_strikeArcs_82 : decode cX6_strikeArcs 82 = .ok (.iaload, 1) := by decide +kernel
theorem dX6_strikeArcs_83 : decode cX6_strikeArcs 83 = .ok (.iastore, 1) := by decide +kernel
theorem dX6_strikeArcs_84 : decode cX6_strikeArcs 84 = .ok (.aload_n 1, 1) := by decide +kernel
theorem dX6_strikeArcs_85 : decode cX6_strikeArcs 85 = .ok (.getfield 228, 3) := by decide +kernel
theorem dX6_strikeArcs_88 : decode cX6_strikeArcs 88 = .ok (.iload 4, 2) := by decide +kernel
theorem dX6_strikeArcs_90 : decode cX6_strikeArcs 90 = .ok (.aload_n 1, 1) := by decide +kernel
theorem dX6_strikeArcs_91 : decode cX6_strikeArcs 91 = .ok (.getfield 228, 3) := by decide +kernel
theorem dX6_strikeArcs_94 : decode cX6_strikeArcs 94 = .ok (.iload 5, 2) := by decide +kernel
theorem dX6_strikeArcs_96 : decode cX6_strikeArcs 96 = .ok (.baload, 1) := by decide +kernel
theorem dX6_strikeArcs_97 : decode cX6_strikeArcs 97 = .ok (.bastore, 1) := by decide +kernel
theorem dX6_strikeArcs_98 : decode cX6_strikeArcs 98 = .ok (.iinc 4 1, 3) := by decide +kernel
theorem dX6_strikeArcs_101 : decode cX6_strikeArcs 101 = .ok (.iinc 5 1, 3) := by decide +kernel
theorem dX6_strikeArcs_104 : decode cX6_strikeArcs 104 = .ok (.goto (-93), 3) := by decide +kernel
theorem dX6_strikeArcs_107 : decode cX6_strikeArcs 107 = .ok (.aload_n 1, 1) := by decide +kernel
theorem dX6_strikeArcs_108 : decode cX6_strikeArcs 108 = .ok (.iload 4, 2) := by decide +kernel
theorem dX6_strikeArcs_110 : decode cX6_strikeArcs 110 = .ok (.putfield 223, 3) := by decide +kernel
theorem dX6_strikeArcs_113 : decode cX6_strikeArcs 113 = .ok (.iload_n 3, 1) := by decide +kernel
theorem dX6_strikeArcs_114 : decode cX6_strikeArcs 114 = .ok (.iload 4, 2) := by decide +kernel
theorem dX6_strikeArcs_116 : decode cX6_strikeArcs 116 = .ok (.isub, 1) := by decide +kernel
theorem dX6_strikeArcs_117 : decode cX6_strikeArcs 117 = .ok (.ireturn, 1) := by decide +kernel
theorem dX6_append_0 : decode cX6_append 0 = .ok (.iload_n 1, 1) := by decide +kernel
theorem dX6_append_1 : decode cX6_append 1 = .ok (.invokestatic 210, 3) := by decide +kernel
theorem dX6_append_4 : decode cX6_append 4 = .ok (.ifCond .eq 10, 3) := by decide +kernel
theorem dX6_append_7 : decode cX6_append 7 = .ok (.iload_n 2, 1) := by decide +kernel
theorem dX6_append_8 : decode cX6_append 8 = .ok (.invokestatic 210, 3) := by decide +kernel
theorem dX6_append_11 : decode cX6_append 11 = .ok (.ifCond .ne 6, 3) := by decide +kernel
theorem dX6_append_14 : decode cX6_append 14 = .ok (.bipush (-2), 2) := by decide +kernel
theorem dX6_append_16 : decode cX6_append 16 = .ok (.ireturn, 1) := by decide +kernel
theorem dX6_append_17 : decode cX6_append 17 = .ok (.aload_n 0, 1) := by decide +kernel
theorem dX6_append_18 : decode cX6_append 18 = .ok (.getfield 56, 3) := by decide +kernel
theorem dX6_append_21 : decode cX6_append 21 = .ok (.iload_n 1, 1) := by decide +kernel
theorem dX6_append_22 : decode cX6_append 22 = .ok (.aaload, 1) := by decide +kernel
theorem dX6_append_23 : decode cX6_append 23 = .ok (.astore_n 3, 1) := by decide +kernel
theorem dX6_append_24 : decode cX6_append 24 = .ok (.aload_n 0, 1) := by decide +kernel
theorem dX6_append_25 : decode cX6_append 25 = .ok (.getfield 56, 3) := by decide +kernel
theorem dX6_append_28 : decode cX6_append 28 = .ok (.iload_n 2, 1) := by decide +kernel
theorem dX6_append_29 : decode cX6_append 29 = .ok (.aaload, 1) := by decide +kernel
theorem dX6_append_30 : decode cX6_append 30 = .ok (.astore 4, 2) := by decide +kernel
theorem dX6_append_32 : decode cX6_append 32 = .ok (.aload_n 3, 1) := by decide +kernel
theorem dX6_append_33 : decode cX6_append 33 = .ok (.getfield 219, 3) := by decide +kernel
theorem dX6_append_36 : decode cX6_append 36 = .ok (.ifCond .ne 11, 3) := by decide +kernel
theorem dX6_append_39 : decode cX6_append 39 = .ok (.aload 4, 2) := by decide +kernel
theorem dX6_append_41 : decode cX6_append 41 = .ok (.getfield 219, 3) := by decide +kernel
theorem dX6_append_44 : decode cX6_append 44 = .ok (.ifCond .eq 6, 3) := by decide +kernel
theorem dX6_append_47 : decode cX6_append 47 = .ok (.bipush (-11), 2) := by decide +kernel
theorem dX6_append_49 : decode cX6_append 49 = .ok (.ireturn, 1) := by decide +kernel
theorem dX6_append_50 : decode cX6_append 50 = .ok (.aload_n 3, 1) := by decide +kernel
theorem dX6_append_51 : decode cX6_append 51 = .ok (.getfield 223, 3) := by decide +kernel
theorem dX6_append_54 : decode cX6_append 54 = .ok (.istore 5, 2) := by decide +kernel
theorem dX6_append_56 : decode cX6_append 56 = .ok (.aload 4, 2) := by decide +kernel
theorem dX6_append_58 : decode cX6_append 58 = .ok (.getfield 223, 3) := by decide +kernel
theorem dX6_append_61 : decode cX6_append 61 = .ok (.iload 5, 2) := by decide +kernel
theorem dX6_append_63 : decode cX6_append 63 = .ok (.iadd, 1) := by decide +kernel
theorem dX6_append_64 : decode cX6_append 64 = .ok (.bipush 8, 2) := by decide +kernel
theorem dX6_append_66 : decode cX6_append 66 = .ok (.if_icmp .le 6, 3) := by decide +kernel
theorem dX6_append_69 : decode cX6_append 69 = .ok (.bipush (-14), 2) := by decide +kernel
theorem dX6_append_71 : decode cX6_append 71 = .ok (.ireturn, 1) := by decide +kernel
theorem dX6_append_72 : decode cX6_append 72 = .ok (.iconst 0, 1) := by decide +kernel
theorem dX6_append_73 : decode cX6_append 73 = .ok (.istore 6, 2) := by decide +kernel
theorem dX6_append_75 : decode cX6_append 75 = .ok (.iload 6, 2) := by decide +kernel
theorem dX6_append_77 : decode cX6_append 77 = .ok (.iload 5, 2) := by decide +kernel
theorem dX6_append_79 : decode cX6_append 79 = .ok (.if_icmp .ge 33, 3) := by decide +kernel
theorem dX6_append_82 : decode cX6_append 82 = .ok (.aload 4, 2) := by decide +kernel
theorem dX6_append_84 : decode cX6_append 84 = .ok (.aload 4, 2) := by decide +kernel
theorem dX6_append_86 : decode cX6_append 86 = .ok (.getfield 223, 3) := by decide +kernel
theorem dX6_append_89 : decode cX6_append 89 = .ok (.aload_n 3, 1) := by decide +kernel
theorem dX6_append_90 : decode cX6_append 90 = .ok (.getfield 232, 3) := by decide +kernel
theorem dX6_append_93 : decode cX6_append 93 = .ok (.iload 6, 2) := by decide +kernel
theorem dX6_append_95 : decode cX6_append 95 = .ok (.iaload, 1) := by decide +kernel
theorem dX6_append_96 : decode cX6_append 96 = .ok (.aload_n 3, 1) := by decide +kernel
theorem dX6_append_97 : decode cX6_append 97 = .ok (.getfield 228, 3) := by decide +kernel
theorem dX6_append_100 : decode cX6_append 100 = .ok (.iload 6, 2) := by decide +kernel
theorem dX6_append_102 : decode cX6_append 102 = .ok (.baload, 1) := by decide +kernel
theorem dX6_append_103 : decode cX6_append 103 = .ok (.invokevirtual 224, 3) := by decide +kernel
theorem dX6_append_106 : decode cX6_append 106 = .ok (.iinc 6 1, 3) := by decide +kernel
theorem dX6_append_109 : decode cX6_append 109 = .ok (.goto (-34), 3) := by decide +kernel
theorem dX6_append_112 : decode cX6_append 112 = .ok (.aload 4, 2) := by decide +kernel
theorem dX6_append_114 : decode cX6_append 114 = .ok (.getfield 223, 3) := by decide +kernel
theorem dX6_append_117 : decode cX6_append 117 = .ok (.ireturn, 1) := by decide +kernel
theorem dX6_drop_0 : decode cX6_drop 0 = .ok (.iload_n 1, 1) := by decide +kernel
theorem dX6_drop_1 : decode cX6_drop 1 = .ok (.invokestatic 210, 3) := by decide +kernel
theorem dX6_drop_4 : decode cX6_drop 4 = .ok (.ifCond .ne 6, 3) := by decide +kernel
theorem dX6_drop_7 : decode cX6_drop 7 = .ok (.bipush (-2), 2) := by decide +kernel
theorem dX6_drop_9 : decode cX6_drop 9 = .ok (.ireturn, 1) := by decide +kernel
theorem dX6_drop_10 : decode cX6_drop 10 = .ok (.aload_n 0, 1) := by decide +kernel
theorem dX6_drop_11 : decode cX6_drop 11 = .ok (.getfield 56, 3) := by decide +kernel
theorem dX6_drop_14 : decode cX6_drop 14 = .ok (.iload_n 1, 1) := by decide +kernel
theorem dX6_drop_15 : decode cX6_drop 15 = .ok (.aaload, 1) := by decide +kernel
theorem dX6_drop_16 : decode cX6_drop 16 = .ok (.getfield 219, 3) := by decide +kernel
theorem dX6_drop_19 : decode cX6_drop 19 = .ok (.ifCond .eq 6, 3) := by decide +kernel
theorem dX6_drop_22 : decode cX6_drop 22 = .ok (.bipush (-11), 2) := by decide +kernel
theorem dX6_drop_24 : decode cX6_drop 24 = .ok (.ireturn, 1) := by decide +kernel
theorem dX6_drop_25 : decode cX6_drop 25 = .ok (.aload_n 0, 1) := by decide +kernel
theorem dX6_drop_26 : decode cX6_drop 26 = .ok (.getfield 56, 3) := by decide +kernel
theorem dX6_drop_29 : decode cX6_drop 29 = .ok (.iload_n 1, 1) := by decide +kernel
theorem dX6_drop_30 : decode cX6_drop 30 = .ok (.aaload, 1) := by decide +kernel
theorem dX6_drop_31 : decode cX6_drop 31 = .ok (.getfield 223, 3) := by decide +kernel
theorem dX6_drop_34 : decode cX6_drop 34 = .ok (.istore_n 2, 1) := by decide +kernel
theorem dX6_drop_35 : decode cX6_drop 35 = .ok (.aload_n 0, 1) := by decide +kernel
theorem dX6_drop_36 : decode cX6_drop 36 = .ok (.getfield 56, 3) := by decide +kernel
theorem dX6_drop_39 : decode cX6_drop 39 = .ok (.iload_n 1, 1) := by decide +kernel
theorem dX6_drop_40 : decode cX6_drop 40 = .ok (.aaload, 1) := by decide +kernel
theorem dX6_drop_41 : decode cX6_drop 41 = .ok (.invokevirtual 85, 3) := by decide +kernel
theorem dX6_drop_44 : decode cX6_drop 44 = .ok (.iload_n 2, 1) := by decide +kernel
theorem dX6_drop_45 : decode cX6_drop 45 = .ok (.ireturn, 1) := by decide +kernel
theorem dX6_count_0 : decode cX6_count 0 = .ok (.iload_n 1, 1) := by decide +kernel
theorem dX6_count_1 : decode cX6_count 1 = .ok (.tableswitch 120 0 8 #[51, 59, 67, 75, 83, 91, 99, 104, 112], 51) := by decide +kernel
theorem dX6_count_52 : decode cX6_count 52 = .ok (.aload_n 0, 1) := by decide +kernel
theorem dX6_count_53 : decode cX6_count 53 = .ok (.getfield 28, 3) := by decide +kernel
theorem dX6_count_56 : decode cX6_count 56 = .ok (.getfield 68, 3) := by decide +kernel
theorem dX6_count_59 : decode cX6_count 59 = .ok (.ireturn, 1) := by decide +kernel
theorem dX6_count_60 : decode cX6_count 60 = .ok (.aload_n 0, 1) := by decide +kernel
theorem dX6_count_61 : decode cX6_count 61 = .ok (.getfield 28, 3) := by decide +kernel
theorem dX6_count_64 : decode cX6_count 64 = .ok (.invokevirtual 106, 3) := by decide +kernel
theorem dX6_count_67 : decode cX6_count 67 = .ok (.ireturn, 1) := by decide +kernel
theorem dX6_count_68 : decode cX6_count 68 = .ok (.aload_n 0, 1) := by decide +kernel
theorem dX6_count_69 : decode cX6_count 69 = .ok (.getfield 28, 3) := by decide +kernel
theorem dX6_count_72 : decode cX6_count 72 = .ok (.invokevirtual 120, 3) := by decide +kernel
theorem dX6_count_75 : decode cX6_count 75 = .ok (.ireturn, 1) := by decide +kernel
theorem dX6_count_76 : decode cX6_count 76 = .ok (.aload_n 0, 1) := by decide +kernel
theorem dX6_count_77 : decode cX6_count 77 = .ok (.getfield 28, 3) := by decide +kernel
theorem dX6_count_80 : decode cX6_count 80 = .ok (.getfield 132, 3) := by decide +kernel
theorem dX6_count_83 : decode cX6_count 83 = .ok (.ireturn, 1) := by decide +kernel
theorem dX6_count_84 : decode cX6_count 84 = .ok (.aload_n 0, 1) := by decide +kernel
theorem dX6_count_85 : decode cX6_count 85 = .ok (.getfield 28, 3) := by decide +kernel
theorem dX6_count_88 : decode cX6_count 88 = .ok (.invokevirtual 179, 3) := by decide +kernel
theorem dX6_count_91 : decode cX6_count 91 = .ok (.ireturn, 1) := by decide +kernel
theorem dX6_count_92 : decode cX6_count 92 = .ok (.aload_n 0, 1) := by decide +kernel
theorem dX6_count_93 : decode cX6_count 93 = .ok (.getfield 28, 3) := by decide +kernel
theorem dX6_count_96 : decode cX6_count 96 = .ok (.invokevirtual 182, 3) := by decide +kernel
theorem dX6_count_99 : decode cX6_count 99 = .ok (.ireturn, 1) := by decide +kernel
theorem dX6_count_100 : decode cX6_count 100 = .ok (.aload_n 0, 1) := by decide +kernel
theorem dX6_count_101 : decode cX6_count 101 = .ok (.invokevirtual 245, 3) := by decide +kernel
theorem dX6_count_104 : decode cX6_count 104 = .ok (.ireturn, 1) := by decide +kernel
theorem dX6_count_105 : decode cX6_count 105 = .ok (.aload_n 0, 1) := by decide +kernel
theorem dX6_count_106 : decode cX6_count 106 = .ok (.getfield 35, 3) := by decide +kernel
theorem dX6_count_109 : decode cX6_count 109 = .ok (.getfield 135, 3) := by decide +kernel
theorem dX6_count_112 : decode cX6_count 112 = .ok (.ireturn, 1) := by decide +kernel
theorem dX6_count_113 : decode cX6_count 113 = .ok (.aload_n 0, 1) := by decide +kernel
theorem dX6_count_114 : decode cX6_count 114 = .ok (.getfield 10, 3) := by decide +kernel
theorem dX6_count_117 : decode cX6_count 117 = .ok (.getfield 61, 3) := by decide +kernel
theorem dX6_count_120 : decode cX6_count 120 = .ok (.ireturn, 1) := by decide +kernel
theorem dX6_count_121 : decode cX6_count 121 = .ok (.bipush (-3), 2) := by decide +kernel
theorem dX6_count_123 : decode cX6_count 123 = .ok (.ireturn, 1) := by decide +kernel
theorem dX6_thingsOfChains_0 : decode cX6_thingsOfChains 0 = .ok (.iconst 0, 1) := by decide +kernel
theorem dX6_thingsOfChains_1 : decode cX6_thingsOfChains 1 = .ok (.istore_n 1, 1) := by decide +kernel
theorem dX6_thingsOfChains_2 : decode cX6_thingsOfChains 2 = .ok (.iconst 0, 1) := by decide +kernel
theorem dX6_thingsOfChains_3 : decode cX6_thingsOfChains 3 = .ok (.istore_n 2, 1) := by decide +kernel
theorem dX6_thingsOfChains_4 : decode cX6_thingsOfChains 4 = .ok (.iload_n 2, 1) := by decide +kernel
theorem dX6_thingsOfChains_5 : decode cX6_thingsOfChains 5 = .ok (.iconst 3, 1) := by decide +kernel
theorem dX6_thingsOfChains_6 : decode cX6_thingsOfChains 6 = .ok (.if_icmp .ge 21, 3) := by decide +kernel
theorem dX6_thingsOfChains_9 : decode cX6_thingsOfChains 9 = .ok (.iload_n 1, 1) := by decide +kernel
theorem dX6_thingsOfChains_10 : decode cX6_thingsOfChains 10 = .ok (.aload_n 0, 1) := by decide +kernel
theorem dX6_thingsOfChains_11 : decode cX6_thingsOfChains 11 = .ok (.getfield 56, 3) := by decide +kernel
theorem dX6_thingsOfChains_14 : decode cX6_thingsOfChains 14 = .ok (.iload_n 2, 1) := by decide +kernel
theorem dX6_thingsOfChains_15 : decode cX6_thingsOfChains 15 = .ok (.aaload, 1) := by decide +kernel
theorem dX6_thingsOfChains_16 : decode cX6_thingsOfChains 16 = .ok (.getfield 223, 3) := by decide +kernel
theorem dX6_thingsOfChains_19 : decode cX6_thingsOfChains 19 = .ok (.iadd, 1) := by decide +kernel
theorem dX6_thingsOfChains_20 : decode cX6_thingsOfChains 20 = .ok (.istore_n 1, 1) := by decide +kernel
theorem dX6_thingsOfChains_21 : decode cX6_thingsOfChains 21 = .ok (.iinc 2 1, 3) := by decide +kernel
theorem dX6_thingsOfChains_24 : decode cX6_thingsOfChains 24 = .ok (.goto (-20), 3) := by decide +kernel
theorem dX6_thingsOfChains_27 : decode cX6_thingsOfChains 27 = .ok (.iload_n 1, 1) := by decide +kernel
theorem dX6_thingsOfChains_28 : decode cX6_thingsOfChains 28 = .ok (.ireturn, 1) := by decide +kernel
theorem dX6_isPoint_0 : decode cX6_isPoint 0 = .ok (.iload_n 1, 1) := by decide +kernel
theorem dX6_isPoint_1 : decode cX6_isPoint 1 = .ok (.ifCond .lt 18, 3) := by decide +kernel
theorem dX6_isPoint_4 : decode cX6_isPoint 4 = .ok (.iload_n 1, 1) := by decide +kernel
theorem dX6_isPoint_5 : decode cX6_isPoint 5 = .ok (.aload_n 0, 1) := by decide +kernel
theorem dX6_isPoint_6 : decode cX6_isPoint 6 = .ok (.getfield 28, 3) := by decide +kernel
theorem dX6_isPoint_9 : decode cX6_isPoint 9 = .ok (.getfield 68, 3) := by decide +kernel
theorem dX6_isPoint_12 : decode cX6_isPoint 12 = .ok (.if_icmp .ge 7, 3) := by decide +kernel
theorem dX6_isPoint_15 : decode cX6_isPoint 15 = .ok (.iconst 1, 1) := by decide +kernel
theorem dX6_isPoint_16 : decode cX6_isPoint 16 = .ok (.goto 4, 3) := by decide +kernel
theorem dX6_isPoint_19 : decode cX6_isPoint 19 = .ok (.iconst 0, 1) := by decide +kernel
theorem dX6_isPoint_20 : decode cX6_isPoint 20 = .ok (.ireturn, 1) := by decide +kernel
theorem dX6_arePair_0 : decode cX6_arePair 0 = .ok (.aload_n 0, 1) := by decide +kernel
theorem dX6_arePair_1 : decode cX6_arePair 1 = .ok (.iload_n 1, 1) := by decide +kernel
theorem dX6_arePair_2 : decode cX6_arePair 2 = .ok (.invokevirtual 147, 3) := by decide +kernel
theorem dX6_arePair_5 : decode cX6_arePair 5 = .ok (.ifCond .eq 20, 3) := by decide +kernel
theorem dX6_arePair_8 : decode cX6_arePair 8 = .ok (.aload_n 0, 1) := by decide +kernel
theorem dX6_arePair_9 : decode cX6_arePair 9 = .ok (.iload_n 2, 1) := by decide +kernel
theorem dX6_arePair_10 : decode cX6_arePair 10 = .ok (.invokevirtual 147, 3) := by decide +kernel
theorem dX6_arePair_13 : decode cX6_arePair 13 = .ok (.ifCond .eq 12, 3) := by decide +kernel
theorem dX6_arePair_16 : decode cX6_arePair 16 = .ok (.iload_n 1, 1) := by decide +kernel
theorem dX6_arePair_17 : decode cX6_arePair 17 = .ok (.iload_n 2, 1) := by decide +kernel
theorem dX6_arePair_18 : decode cX6_arePair 18 = .ok (.if_icmp .eq 7, 3) := by decide +kernel
theorem dX6_arePair_21 : decode cX6_arePair 21 = .ok (.iconst 1, 1) := by decide +kernel
theorem dX6_arePair_22 : decode cX6_arePair 22 = .ok (.goto 4, 3) := by decide +kernel
theorem dX6_arePair_25 : decode cX6_arePair 25 = .ok (.iconst 0, 1) := by decide +kernel
theorem dX6_arePair_26 : decode cX6_arePair 26 = .ok (.ireturn, 1) := by decide +kernel
theorem dX6_isArcThere_0 : decode cX6_isArcThere 0 = .ok (.aload_n 0, 1) := by decide +kernel
theorem dX6_isArcThere_1 : decode cX6_isArcThere 1 = .ok (.iload_n 1, 1) := by decide +kernel
theorem dX6_isArcThere_2 : decode cX6_isArcThere 2 = .ok (.iload_n 2, 1) := by decide +kernel
theorem dX6_isArcThere_3 : decode cX6_isArcThere 3 = .ok (.invokevirtual 113, 3) := by decide +kernel
theorem dX6_isArcThere_6 : decode cX6_isArcThere 6 = .ok (.ifCond .eq 19, 3) := by decide +kernel
theorem dX6_isArcThere_9 : decode cX6_isArcThere 9 = .ok (.aload_n 0, 1) := by decide +kernel
theorem dX6_isArcThere_10 : decode cX6_isArcThere 10 = .ok (.getfield 28, 3) := by decide +kernel
theorem dX6_isArcThere_13 : decode cX6_isArcThere 13 = .ok (.iload_n 1, 1) := by decide +kernel
theorem dX6_isArcThere_14 : decode cX6_isArcThere 14 = .ok (.iload_n 2, 1) := by decide +kernel
theorem dX6_isArcThere_15 : decode cX6_isArcThere 15 = .ok (.invokevirtual 102, 3) := by decide +kernel
theorem dX6_isArcThere_18 : decode cX6_isArcThere 18 = .ok (.ifCond .eq 7, 3) := by decide +kernel
theorem dX6_isArcThere_21 : decode cX6_isArcThere 21 = .ok (.iconst 1, 1) := by decide +kernel
theorem dX6_isArcThere_22 : decode cX6_isArcThere 22 = .ok (.goto 4, 3) := by decide +kernel
theorem dX6_isArcThere_25 : decode cX6_isArcThere 25 = .ok (.iconst 0, 1) := by decide +kernel
theorem dX6_isArcThere_26 : decode cX6_isArcThere 26 = .ok (.ireturn, 1) := by decide +kernel
theorem dX6_isTellable_0 : decode cX6_isTellable 0 = .ok (.iload_n 1, 1) := by decide +kernel
theorem dX6_isTellable_1 : decode cX6_isTellable 1 = .ok (.ifCond .lt 22, 3) := by decide +kernel
theorem dX6_isTellable_4 : decode cX6_isTellable 4 = .ok (.aload_n 0, 1) := by decide +kernel
theorem dX6_isTellable_5 : decode cX6_isTellable 5 = .ok (.iload_n 1, 1) := by decide +kernel
theorem dX6_isTellable_6 : decode cX6_isTellable 6 = .ok (.bipush 10, 2) := by decide +kernel
theorem dX6_isTellable_8 : decode cX6_isTellable 8 = .ok (.idiv, 1) := by decide +kernel
theorem dX6_isTellable_9 : decode cX6_isTellable 9 = .ok (.iload_n 1, 1) := by decide +kernel
theorem dX6_isTellable_10 : decode cX6_isTellable 10 = .ok (.bipush 10, 2) := by decide +kernel
theorem dX6_isTellable_12 : decode cX6_isTellable 12 = .ok (.irem, 1) := by decide +kernel
theorem dX6_isTellable_13 : decode cX6_isTellable 13 = .ok (.invokevirtual 113, 3) := by decide +kernel
theorem dX6_isTellable_16 : decode cX6_isTellable 16 = .ok (.ifCond .eq 7, 3) := by decide +kernel
theorem dX6_isTellable_19 : decode cX6_isTellable 19 = .ok (.iconst 1, 1) := by decide +kernel
theorem dX6_isTellable_20 : decode cX6_isTellable 20 = .ok (.goto 4, 3) := by decide +kernel
theorem dX6_isTellable_23 : decode cX6_isTellable 23 = .ok (.iconst 0, 1) := by decide +kernel
theorem dX6_isTellable_24 : decode cX6_isTellable 24 = .ok (.ireturn, 1) := by decide +kernel
theorem dX6_isChain_0 : decode cX6_isChain 0 = .ok (.iload_n 0, 1) := by decide +kernel
theorem dX6_isChain_1 : decode cX6_isChain 1 = .ok (.ifCond .lt 12, 3) := by decide +kernel
theorem dX6_isChain_4 : decode cX6_isChain 4 = .ok (.iload_n 0, 1) := by decide +kernel
theorem dX6_isChain_5 : decode cX6_isChain 5 = .ok (.iconst 3, 1) := by decide +kernel
theorem dX6_isChain_6 : decode cX6_isChain 6 = .ok (.if_icmp .ge 7, 3) := by decide +kernel
theorem dX6_isChain_9 : decode cX6_isChain 9 = .ok (.iconst 1, 1) := by decide +kernel
theorem dX6_isChain_10 : decode cX6_isChain 10 = .ok (.goto 4, 3) := by decide +kernel
theorem dX6_isChain_13 : decode cX6_isChain 13 = .ok (.iconst 0, 1) := by decide +kernel
theorem dX6_isChain_14 : decode cX6_isChain 14 = .ok (.ireturn, 1) := by decide +kernel
theorem dX6_tell_0 : decode cX6_tell 0 = .ok (.bipush 10, 2) := by decide +kernel
theorem dX6_tell_2 : decode cX6_tell 2 = .ok (.iload_n 0, 1) := by decide +kernel
theorem dX6_tell_3 : decode cX6_tell 3 = .ok (.imul, 1) := by decide +kernel
theorem dX6_tell_4 : decode cX6_tell 4 = .ok (.iload_n 1, 1) := by decide +kernel
theorem dX6_tell_5 : decode cX6_tell 5 = .ok (.iadd, 1) := by decide +kernel
theorem dX6_tell_6 : decode cX6_tell 6 = .ok (.ireturn, 1) := by decide +kernel
theorem dX6_has_0 : decode cX6_has 0 = .ok (.iload_n 0, 1) := by decide +kernel
theorem dX6_has_1 : decode cX6_has 1 = .ok (.iconst 1, 1) := by decide +kernel
theorem dX6_has_2 : decode cX6_has 2 = .ok (.iload_n 1, 1) := by decide +kernel
theorem dX6_has_3 : decode cX6_has 3 = .ok (.ishl, 1) := by decide +kernel
theorem dX6_has_4 : decode cX6_has 4 = .ok (.iand, 1) := by decide +kernel
theorem dX6_has_5 : decode cX6_has 5 = .ok (.ifCond .eq 7, 3) := by decide +kernel
theorem dX6_has_8 : decode cX6_has 8 = .ok (.iconst 1, 1) := by decide +kernel
theorem dX6_has_9 : decode cX6_has 9 = .ok (.goto 4, 3) := by decide +kernel
theorem dX6_has_12 : decode cX6_has 12 = .ok (.iconst 0, 1) := by decide +kernel
theorem dX6_has_13 : decode cX6_has 13 = .ok (.ireturn, 1) := by decide +kernel
theorem dX6_lowest_0 : decode cX6_lowest 0 = .ok (.iload_n 0, 1) := by decide +kernel
theorem dX6_lowest_1 : decode cX6_lowest 1 = .ok (.iload_n 0, 1) := by decide +kernel
theorem dX6_lowest_2 : decode cX6_lowest 2 = .ok (.ineg, 1) := by decide +kernel
theorem dX6_lowest_3 : decode cX6_lowest 3 = .ok (.iand, 1) := by decide +kernel
theorem dX6_lowest_4 : decode cX6_lowest 4 = .ok (.iconst 1, 1) := by decide +kernel
theorem dX6_lowest_5 : decode cX6_lowest 5 = .ok (.isub, 1) := by decide +kernel
theorem dX6_lowest_6 : decode cX6_lowest 6 = .ok (.invokestatic 248, 3) := by decide +kernel
theorem dX6_lowest_9 : decode cX6_lowest 9 = .ok (.ireturn, 1) := by decide +kernel
end
section
theorem dX7_init_0 : decode cX7_init 0 = .ok (.aload_n 0, 1) := by decide +kernel
theorem dX7_init_1 : decode cX7_init 1 = .ok (.invokespecial 1, 3) := by decide +kernel
theorem dX7_init_4 : decode cX7_init 4 = .ok (.aload_n 0, 1) := by decide +kernel
theorem dX7_init_5 : decode cX7_init 5 = .ok (.iconst 4, 1) := by decide +kernel
theorem dX7_init_6 : decode cX7_init 6 = .ok (.putfield 7, 3) := by decide +kernel
theorem dX7_init_9 : decode cX7_init 9 = .ok (.aload_n 0, 1) := by decide +kernel
theorem dX7_init_10 : decode cX7_init 10 = .ok (.bipush 111, 2) := by decide +kernel
theorem dX7_init_12 : decode cX7_init 12 = .ok (.newarray .int, 2) := by decide +kernel
theorem dX7_init_14 : decode cX7_init 14 = .ok (.putfield 13, 3) := by decide +kernel
theorem dX7_init_17 : decode cX7_init 17 = .ok (.aload_n 0, 1) := by decide +kernel
theorem dX7_init_18 : decode cX7_init 18 = .ok (.sipush 888, 3) := by decide +kernel
theorem dX7_init_21 : decode cX7_init 21 = .ok (.newarray .int, 2) := by decide +kernel
theorem dX7_init_23 : decode cX7_init 23 = .ok (.putfield 17, 3) := by decide +kernel
theorem dX7_init_26 : decode cX7_init 26 = .ok (.aload_n 0, 1) := by decide +kernel
theorem dX7_init_27 : decode cX7_init 27 = .ok (.sipush 222, 3) := by decide +kernel
theorem dX7_init_30 : decode cX7_init 30 = .ok (.newarray .int, 2) := by decide +kernel
theorem dX7_init_32 : decode cX7_init 32 = .ok (.putfield 20, 3) := by decide +kernel
theorem dX7_init_35 : decode cX7_init 35 = .ok (.aload_n 0, 1) := by decide +kernel
theorem dX7_init_36 : decode cX7_init 36 = .ok (.iconst 2, 1) := by decide +kernel
theorem dX7_init_37 : decode cX7_init 37 = .ok (.newarray .int, 2) := by decide +kernel
theorem dX7_init_39 : decode cX7_init 39 = .ok (.putfield 23, 3) := by decide +kernel
theorem dX7_init_42 : decode cX7_init 42 = .ok (.aload_n 0, 1) := by decide +kernel
theorem dX7_init_43 : decode cX7_init 43 = .ok (.bipush 11, 2) := by decide +kernel
theorem dX7_init_45 : decode cX7_init 45 = .ok (.newarray .int, 2) := by decide +kernel
theorem dX7_init_47 : decode cX7_init 47 = .ok (.putfield 26, 3) := by decide +kernel
theorem dX7_init_50 : decode cX7_init 50 = .ok (.aload_n 0, 1) := by decide +kernel
theorem dX7_init_51 : decode cX7_init 51 = .ok (.bipush 11, 2) := by decide +kernel
theorem dX7_init_53 : decode cX7_init 53 = .ok (.newarray .int, 2) := by decide +kernel
theorem dX7_init_55 : decode cX7_init 55 = .ok (.putfield 29, 3) := by decide +kernel
theorem dX7_init_58 : decode cX7_init 58 = .ok (.aload_n 0, 1) := by decide +kernel
theorem dX7_init_59 : decode cX7_init 59 = .ok (.sipush 200, 3) := by decide +kernel
theorem dX7_init_62 : decode cX7_init 62 = .ok (.newarray .int, 2) := by decide +kernel
theorem dX7_init_64 : decode cX7_init 64 = .ok (.putfield 32, 3) := by decide +kernel
theorem dX7_init_67 : decode cX7_init 67 = .ok (.aload_n 0, 1) := by decide +kernel
theorem dX7_init_68 : decode cX7_init 68 = .ok (.bipush 96, 2) := by decide +kernel
theorem dX7_init_70 : decode cX7_init 70 = .ok (.newarray .int, 2) := by decide +kernel
theorem dX7_init_72 : decode cX7_init 72 = .ok (.putfield 35, 3) := by decide +kernel
theorem dX7_init_75 : decode cX7_init 75 = .ok (.aload_n 0, 1) := by decide +kernel
theorem dX7_init_76 : decode cX7_init 76 = .ok (.bipush 111, 2) := by decide +kernel
theorem dX7_init_78 : decode cX7_init 78 = .ok (.newarray .int, 2) := by decide +kernel
theorem dX7_init_80 : decode cX7_init 80 = .ok (.putfield 38, 3) := by decide +kernel
theorem dX7_init_83 : decode cX7_init 83 = .ok (.aload_n 0, 1) := by decide +kernel
theorem dX7_init_84 : decode cX7_init 84 = .ok (.bipush 10, 2) := by decide +kernel
theorem dX7_init_86 : decode cX7_init 86 = .ok (.newarray .int, 2) := by decide +kernel
theorem dX7_init_88 : decode cX7_init 88 = .ok (.putfield 41, 3) := by decide +kernel
theorem dX7_init_91 : decode cX7_init 91 = .ok (.aload_n 0, 1) := by decide +kernel
theorem dX7_init_92 : decode cX7_init 92 = .ok (.bipush 10, 2) := by decide +kernel
theorem dX7_init_94 : decode cX7_init 94 = .ok (.newarray .int, 2) := by decide +kernel
theorem dX7_init_96 : decode cX7_init 96 = .ok (.putfield 44, 3) := by decide +kernel
theorem dX7_init_99 : decode cX7_init 99 = .ok (.aload_n 0, 1) := by decide +kernel
theorem dX7_init_100 : decode cX7_init 100 = .ok (.bipush 10, 2) := by decide +kernel
theorem dX7_init_102 : decode cX7_init 102 = .ok (.newarray .int, 2) := by decide +kernel
theorem dX7_init_104 : decode cX7_init 104 = .ok (.putfield 47, 3) := by decide +kernel
theorem dX7_init_107 : decode cX7_init 107 = .ok (.aload_n 0, 1) := by decide +kernel
theorem dX7_init_108 : decode cX7_init 108 = .ok (.iconst 3, 1) := by decide +kernel
theorem dX7_init_109 : decode cX7_init 109 = .ok (.newarray .int, 2) := by decide +kernel
theorem dX7_init_111 : decode cX7_init 111 = .ok (.putfield 50, 3) := by decide +kernel
theorem dX7_init_114 : decode cX7_init 114 = .ok (.aload_n 0, 1) := by decide +kernel
theorem dX7_init_115 : decode cX7_init 115 = .ok (.bipush 24, 2) := by decide +kernel
theorem dX7_init_117 : decode cX7_init 117 = .ok (.newarray .int, 2) := by decide +kernel
theorem dX7_init_119 : decode cX7_init 119 = .ok (.putfield 53, 3) := by decide +kernel
theorem dX7_init_122 : decode cX7_init 122 = .ok (.aload_n 0, 1) := by decide +kernel
theorem dX7_init_123 : decode cX7_init 123 = .ok (.bipush 24, 2) := by decide +kernel
theorem dX7_init_125 : decode cX7_init 125 = .ok (.newarray .int, 2) := by decide +kernel
theorem dX7_init_127 : decode cX7_init 127 = .ok (.putfield 56, 3) := by decide +kernel
theorem dX7_init_130 : decode cX7_init 130 = .ok (.aload_n 0, 1) := by decide +kernel
theorem dX7_init_131 : decode cX7_init 131 = .ok (.aload_n 0, 1) := by decide +kernel
theorem dX7_init_132 : decode cX7_init 132 = .ok (.getfield 7, 3) := by decide +kernel
theorem dX7_init_135 : decode cX7_init 135 = .ok (.invokevirtual 59, 3) := by decide +kernel
theorem dX7_init_138 : decode cX7_init 138 = .ok (.aload_n 0, 1) := by decide +kernel
theorem dX7_init_139 : decode cX7_init 139 = .ok (.invokevirtual 63, 3) := by decide +kernel
theorem dX7_init_142 : decode cX7_init 142 = .ok (.return_, 1) := by decide +kernel
theorem dX7_in_0 : decode cX7_in 0 = .ok (.lload_n 0, 1) := by decide +kernel
theorem dX7_in_1 : decode cX7_in 1 = .ok (.lload_n 2, 1) := by decide +kernel
theorem dX7_in_2 : decode cX7_in 2 = .ok (.lcmp, 1) := by decide +kernel
theorem dX7_in_3 : decode cX7_in 3 = .ok (.ifCond .lt 14, 3) := by decide +kernel
theorem dX7_in_6 : decode cX7_in 6 = .ok (.lload_n 0, 1) := by decide +kernel
theorem dX7_in_7 : decode cX7_in 7 = .ok (.lload 4, 2) := by decide +kernel
theorem dX7_in_9 : decode cX7_in 9 = .ok (.lcmp, 1) := by decide +kernel
theorem dX7_in_10 : decode cX7_in 10 = .ok (.ifCond .gt 7, 3) := by decide +kernel
theorem dX7_in_13 : decode cX7_in 13 = .ok (.iconst 1, 1) := by decide +kernel
theorem dX7_in_14 : decode cX7_in 14 = .ok (.goto 4, 3) := by decide +kernel
theorem dX7_in_17 : decode cX7_in 17 = .ok (.iconst 0, 1) := by decide +kernel
theorem dX7_in_18 : decode cX7_in 18 = .ok (.ireturn, 1) := by decide +kernel
theorem dX7_has_0 : decode cX7_has 0 = .ok (.iload_n 0, 1) := by decide +kernel
theorem dX7_has_1 : decode cX7_has 1 = .ok (.iload_n 1, 1) := by decide +kernel
theorem dX7_has_2 : decode cX7_has 2 = .ok (.ishr, 1) := by decide +kernel
theorem dX7_has_3 : decode cX7_has 3 = .ok (.iconst 1, 1) := by decide +kernel
theorem dX7_has_4 : decode cX7_has 4 = .ok (.iand, 1) := by decide +kernel
theorem dX7_has_5 : decode cX7_has 5 = .ok (.iconst 1, 1) := by decide +kernel
theorem dX7_has_6 : decode cX7_has 6 = .ok (.if_icmp .ne 7, 3) := by decide +kernel
theorem dX7_has_9 : decode cX7_has 9 = .ok (.iconst 1, 1) := by decide +kernel
theorem dX7_has_10 : decode cX7_has 10 = .ok (.goto 4, 3) := by decide +kernel
theorem dX7_has_13 : decode cX7_has 13 = .ok (.iconst 0, 1) := by decide +kernel
theorem dX7_has_14 : decode cX7_has 14 = .ok (.ireturn, 1) := by decide +kernel
theorem dX7_ones_0 : decode cX7_ones 0 = .ok (.iconst 0, 1) := by decide +kernel
theorem dX7_ones_1 : decode cX7_ones 1 = .ok (.istore_n 1, 1) := by decide +kernel
theorem dX7_ones_2 : decode cX7_ones 2 = .ok (.iload_n 0, 1) := by decide +kernel
theorem dX7_ones_3 : decode cX7_ones 3 = .ok (.istore_n 2, 1) := by decide +kernel
theorem dX7_ones_4 : decode cX7_ones 4 = .ok (.iload_n 2, 1) := by decide +kernel
theorem dX7_ones_5 : decode cX7_ones 5 = .ok (.ifCond .eq 15, 3) := by decide +kernel
theorem dX7_ones_8 : decode cX7_ones 8 = .ok (.iinc 1 1, 3) := by decide +kernel
theorem dX7_ones_11 : decode cX7_ones 11 = .ok (.iload_n 2, 1) := by decide +kernel
theorem dX7_ones_12 : decode cX7_ones 12 = .ok (.iload_n 2, 1) := by decide +kernel
theorem dX7_ones_13 : decode cX7_ones 13 = .ok (.iconst 1, 1) := by decide +kernel
theorem dX7_ones_14 : decode cX7_ones 14 = .ok (.isub, 1) := by decide +kernel
theorem dX7_ones_15 : decode cX7_ones 15 = .ok (.iand, 1) := by decide +kernel
theorem dX7_ones_16 : decode cX7_ones 16 = .ok (.istore_n 2, 1) := by decide +kernel
theorem dX7_ones_17 : decode cX7_ones 17 = .ok (.goto (-13), 3) := by decide +kernel
theorem dX7_ones_20 : decode cX7_ones 20 = .ok (.iload_n 1, 1) := by decide +kernel
theorem dX7_ones_21 : decode cX7_ones 21 = .ok (.ireturn, 1) := by decide +kernel
theorem dX7_isPoint_0 : decode cX7_isPoint 0 = .ok (.iload_n 1, 1) := by decide +kernel
theorem dX7_isPoint_1 : decode cX7_isPoint 1 = .ok (.i2l, 1) := by decide +kernel
theorem dX7_isPoint_2 : decode cX7_isPoint 2 = .ok (.lconst 0, 1) := by decide +kernel
theorem dX7_isPoint_3 : decode cX7_isPoint 3 = .ok (.aload_n 0, 1) := by decide +kernel
theorem dX7_isPoint_4 : decode cX7_isPoint 4 = .ok (.getfield 7, 3) := by decide +kernel
theorem dX7_isPoint_7 : decode cX7_isPoint 7 = .ok (.iconst 1, 1) := by decide +kernel
theorem dX7_isPoint_8 : decode cX7_isPoint 8 = .ok (.isub, 1) := by decide +kernel
theorem dX7_isPoint_9 : decode cX7_isPoint 9 = .ok (.i2l, 1) := by decide +kernel
theorem dX7_isPoint_10 : decode cX7_isPoint 10 = .ok (.invokestatic 66, 3) := by decide +kernel
theorem dX7_isPoint_13 : decode cX7_isPoint 13 = .ok (.ireturn, 1) := by decide +kernel
theorem dX7_areTwo_0 : decode cX7_areTwo 0 = .ok (.aload_n 0, 1) := by decide +kernel
theorem dX7_areTwo_1 : decode cX7_areTwo 1 = .ok (.iload_n 1, 1) := by decide +kernel
theorem dX7_areTwo_2 : decode cX7_areTwo 2 = .ok (.invokevirtual 70, 3) := by decide +kernel
theorem dX7_areTwo_5 : decode cX7_areTwo 5 = .ok (.ifCond .eq 20, 3) := by decide +kernel
theorem dX7_areTwo_8 : decode cX7_areTwo 8 = .ok (.aload_n 0, 1) := by decide +kernel
theorem dX7_areTwo_9 : decode cX7_areTwo 9 = .ok (.iload_n 2, 1) := by decide +kernel
theorem dX7_areTwo_10 : decode cX7_areTwo 10 = .ok (.invokevirtual 70, 3) := by decide +kernel
theorem dX7_areTwo_13 : decode cX7_areTwo 13 = .ok (.ifCond .eq 12, 3) := by decide +kernel
theorem dX7_areTwo_16 : decode cX7_areTwo 16 = .ok (.iload_n 1, 1) := by decide +kernel
theorem dX7_areTwo_17 : decode cX7_areTwo 17 = .ok (.iload_n 2, 1) := by decide +kernel
theorem dX7_areTwo_18 : decode cX7_areTwo 18 = .ok (.if_icmp .eq 7, 3) := by decide +kernel
theorem dX7_areTwo_21 : decode cX7_areTwo 21 = .ok (.iconst 1, 1) := by decide +kernel
theorem dX7_areTwo_22 : decode cX7_areTwo 22 = .ok (.goto 4, 3) := by decide +kernel
theorem dX7_areTwo_25 : decode cX7_areTwo 25 = .ok (.iconst 0, 1) := by decide +kernel
theorem dX7_areTwo_26 : decode cX7_areTwo 26 = .ok (.ireturn, 1) := by decide +kernel
theorem dX7_isArc_0 : decode cX7_isArc 0 = .ok (.aload_n 0, 1) := by decide +kernel
theorem dX7_isArc_1 : decode cX7_isArc 1 = .ok (.iload_n 1, 1) := by decide +kernel
theorem dX7_isArc_2 : decode cX7_isArc 2 = .ok (.iload_n 2, 1) := by decide +kernel
theorem dX7_isArc_3 : decode cX7_isArc 3 = .ok (.invokevirtual 74, 3) := by decide +kernel
theorem dX7_isArc_6 : decode cX7_isArc 6 = .ok (.ifCond .eq 22, 3) := by decide +kernel
theorem dX7_isArc_9 : decode cX7_isArc 9 = .ok (.aload_n 0, 1) := by decide +kernel
theorem dX7_isArc_10 : decode cX7_isArc 10 = .ok (.getfield 13, 3) := by decide +kernel
theorem dX7_isArc_13 : decode cX7_isArc 13 = .ok (.iconst 0, 1) := by decide +kernel
theorem dX7_isArc_14 : decode cX7_isArc 14 = .ok (.iload_n 1, 1) := by decide +kernel
theorem dX7_isArc_15 : decode cX7_isArc 15 = .ok (.iadd, 1) := by decide +kernel
theorem dX7_isArc_16 : decode cX7_isArc 16 = .ok (.iaload, 1) := by decide +kernel
theorem dX7_isArc_17 : decode cX7_isArc 17 = .ok (.iload_n 2, 1) := by decide +kernel
theorem dX7_isArc_18 : decode cX7_isArc 18 = .ok (.invokestatic 78, 3) := by decide +kernel
theorem dX7_isArc_21 : decode cX7_isArc 21 = .ok (.ifCond .eq 7, 3) := by decide +kernel
theorem dX7_isArc_24 : decode cX7_isArc 24 = .ok (.iconst 1, 1) := by decide +kernel
theorem dX7_isArc_25 : decode cX7_isArc 25 = .ok (.goto 4, 3) := by decide +kernel
theorem dX7_isArc_28 : decode cX7_isArc 28 = .ok (.iconst 0, 1) := by decide +kernel
theorem dX7_isArc_29 : decode cX7_isArc 29 = .ok (.ireturn, 1) := by decide +kernel
theorem dX7_begin_0 : decode cX7_begin 0 = .ok (.aload_n 0, 1) := by decide +kernel
theorem dX7_begin_1 : decode cX7_begin 1 = .ok (.iload_n 1, 1) := by decide +kernel
theorem dX7_begin_2 : decode cX7_begin 2 = .ok (.putfield 7, 3) := by decide +kernel
theorem dX7_begin_5 : decode cX7_begin 5 = .ok (.iconst 0, 1) := by decide +kernel
theorem dX7_begin_6 : decode cX7_begin 6 = .ok (.istore_n 2, 1) := by decide +kernel
theorem dX7_begin_7 : decode cX7_begin 7 = .ok (.iload_n 2, 1) := by decide +kernel
theorem dX7_begin_8 : decode cX7_begin 8 = .ok (.bipush 111, 2) := by decide +kernel
theorem dX7_begin_10 : decode cX7_begin 10 = .ok (.if_icmp .ge 16, 3) := by decide +kernel
theorem dX7_begin_13 : decode cX7_begin 13 = .ok (.aload_n 0, 1) := by decide +kernel
theorem dX7_begin_14 : decode cX7_begin 14 = .ok (.getfield 13, 3) := by decide +kernel
theorem dX7_begin_17 : decode cX7_begin 17 = .ok (.iload_n 2, 1) := by decide +kernel
theorem dX7_begin_18 : decode cX7_begin 18 = .ok (.iconst 0, 1) := by decide +kernel
theorem dX7_begin_19 : decode cX7_begin 19 = .ok (.iastore, 1) := by decide +kernel
theorem dX7_begin_20 : decode cX7_begin 20 = .ok (.iinc 2 1, 3) := by decide +kernel
theorem dX7_begin_23 : decode cX7_begin 23 = .ok (.goto (-16), 3) := by decide +kernel
theorem dX7_begin_26 : decode cX7_begin 26 = .ok (.iconst 0, 1) := by decide +kernel
theorem dX7_begin_27 : decode cX7_begin 27 = .ok (.istore_n 2, 1) := by decide +kernel
theorem dX7_begin_28 : decode cX7_begin 28 = .ok (.iload_n 2, 1) := by decide +kernel
theorem dX7_begin_29 : decode cX7_begin 29 = .ok (.aload_n 0, 1) := by decide +kernel
theorem dX7_begin_30 : decode cX7_begin 30 = .ok (.getfield 7, 3) := by decide +kernel
theorem dX7_begin_33 : decode cX7_begin 33 = .ok (.if_icmp .ge 22, 3) := by decide +kernel
theorem dX7_begin_36 : decode cX7_begin 36 = .ok (.aload_n 0, 1) := by decide +kernel
theorem dX7_begin_37 : decode cX7_begin 37 = .ok (.getfield 13, 3) := by decide +kernel
theorem dX7_begin_40 : decode cX7_begin 40 = .ok (.bipush 10, 2) := by decide +kernel
theorem dX7_begin_42 : decode cX7_begin 42 = .ok (.bipush 11, 2) := by decide +kernel
theorem dX7_begin_44 : decode cX7_begin 44 = .ok (.iload_n 2, 1) := by decide +kernel
theorem dX7_begin_45 : decode cX7_begin 45 = .ok (.imul, 1) := by decide +kernel
theorem dX7_begin_46 : decode cX7_begin 46 = .ok (.iadd, 1) := by decide +kernel
theorem dX7_begin_47 : decode cX7_begin 47 = .ok (.iconst 1, 1) := by decide +kernel
theorem dX7_begin_48 : decode cX7_begin 48 = .ok (.iastore, 1) := by decide +kernel
theorem dX7_begin_49 : decode cX7_begin 49 = .ok (.iinc 2 1, 3) := by decide +kernel
theorem dX7_begin_52 : decode cX7_begin 52 = .ok (.goto (-24), 3) := by decide +kernel
theorem dX7_begin_55 : decode cX7_begin 55 = .ok (.return_, 1) := by decide +kernel
theorem dX7_isIn_0 : decode cX7_isIn 0 = .ok (.aload_n 0, 1) := by decide +kernel
theorem dX7_isIn_1 : decode cX7_isIn 1 = .ok (.getfield 13, 3) := by decide +kernel
theorem dX7_isIn_4 : decode cX7_isIn 4 = .ok (.bipush 10, 2) := by decide +kernel
theorem dX7_isIn_6 : decode cX7_isIn 6 = .ok (.bipush 10, 2) := by decide +kernel
theorem dX7_isIn_8 : decode cX7_isIn 8 = .ok (.iload_n 1, 1) := by decide +kernel
theorem dX7_isIn_9 : decode cX7_isIn 9 = .ok (.imul, 1) := by decide +kernel
theorem dX7_isIn_10 : decode cX7_isIn 10 = .ok (.iadd, 1) := by decide +kernel
theorem dX7_isIn_11 : decode cX7_isIn 11 = .ok (.iload_n 2, 1) := by decide +kernel
theorem dX7_isIn_12 : decode cX7_isIn 12 = .ok (.iadd, 1) := by decide +kernel
theorem dX7_isIn_13 : decode cX7_isIn 13 = .ok (.iaload, 1) := by decide +kernel
theorem dX7_isIn_14 : decode cX7_isIn 14 = .ok (.ifCond .le 7, 3) := by decide +kernel
theorem dX7_isIn_17 : decode cX7_isIn 17 = .ok (.iconst 1, 1) := by decide +kernel
theorem dX7_isIn_18 : decode cX7_isIn 18 = .ok (.goto 4, 3) := by decide +kernel
theorem dX7_isIn_21 : decode cX7_isIn 21 = .ok (.iconst 0, 1) := by decide +kernel
theorem dX7_isIn_22 : decode cX7_isIn 22 = .ok (.ireturn, 1) := by decide +kernel
theorem dX7_arcs_0 : decode cX7_arcs 0 = .ok (.iconst 0, 1) := by decide +kernel
theorem dX7_arcs_1 : decode cX7_arcs 1 = .ok (.istore_n 1, 1) := by decide +kernel
theorem dX7_arcs_2 : decode cX7_arcs 2 = .ok (.iconst 0, 1) := by decide +kernel
theorem dX7_arcs_3 : decode cX7_arcs 3 = .ok (.istore_n 2, 1) := by decide +kernel
theorem dX7_arcs_4 : decode cX7_arcs 4 = .ok (.iload_n 2, 1) := by decide +kernel
theorem dX7_arcs_5 : decode cX7_arcs 5 = .ok (.aload_n 0, 1) := by decide +kernel
theorem dX7_arcs_6 : decode cX7_arcs 6 = .ok (.getfield 7, 3) := by decide +kernel
theorem dX7_arcs_9 : decode cX7_arcs 9 = .ok (.if_icmp .ge 23, 3) := by decide +kernel
theorem dX7_arcs_12 : decode cX7_arcs 12 = .ok (.iload_n 1, 1) := by decide +kernel
theorem dX7_arcs_13 : decode cX7_arcs 13 = .ok (.aload_n 0, 1) := by decide +kernel
theorem dX7_arcs_14 : decode cX7_arcs 14 = .ok (.getfield 13, 3) := by decide +kernel
theorem dX7_arcs_17 : decode cX7_arcs 17 = .ok (.iconst 0, 1) := by decide +kernel
theorem dX7_arcs_18 : decode cX7_arcs 18 = .ok (.iload_n 2, 1) := by decide +kernel
theorem dX7_arcs_19 : decode cX7_arcs 19 = .ok (.iadd, 1) := by decide +kernel
theorem dX7_arcs_20 : decode cX7_arcs 20 = .ok (.iaload, 1) := by decide +kernel
theorem dX7_arcs_21 : decode cX7_arcs 21 = .ok (.invokestatic 81, 3) := by decide +kernel
theorem dX7_arcs_24 : decode cX7_arcs 24 = .ok (.iadd, 1) := by decide +kernel
theorem dX7_arcs_25 : decode cX7_arcs 25 = .ok (.istore_n 1, 1) := by decide +kernel
theorem dX7_arcs_26 : decode cX7_arcs 26 = .ok (.iinc 2 1, 3) := by decide +kernel
theorem dX7_arcs_29 : decode cX7_arcs 29 = .ok (.goto (-25), 3) := by decide +kernel
theorem dX7_arcs_32 : decode cX7_arcs 32 = .ok (.iload_n 1, 1) := by decide +kernel
theorem dX7_arcs_33 : decode cX7_arcs 33 = .ok (.ireturn, 1) := by decide +kernel
theorem dX7_pairs_0 : decode cX7_pairs 0 = .ok (.iconst 0, 1) := by decide +kernel
theorem dX7_pairs_1 : decode cX7_pairs 1 = .ok (.istore_n 1, 1) := by decide +kernel
theorem dX7_pairs_2 : decode cX7_pairs 2 = .ok (.iconst 0, 1) := by decide +kernel
theorem dX7_pairs_3 : decode cX7_pairs 3 = .ok (.istore_n 2, 1) := by decide +kernel
theorem dX7_pairs_4 : decode cX7_pairs 4 = .ok (.iload_n 2, 1) := by decide +kernel
theorem dX7_pairs_5 : decode cX7_pairs 5 = .ok (.aload_n 0, 1) := by decide +kernel
theorem dX7_pairs_6 : decode cX7_pairs 6 = .ok (.getfield 7, 3) := by decide +kernel
theorem dX7_pairs_9 : decode cX7_pairs 9 = .ok (.if_icmp .ge 47, 3) := by decide +kernel
theorem dX7_pairs_12 : decode cX7_pairs 12 = .ok (.iconst 0, 1) := by decide +kernel
theorem dX7_pairs_13 : decode cX7_pairs 13 = .ok (.istore_n 3, 1) := by decide +kernel
theorem dX7_pairs_14 : decode cX7_pairs 14 = .ok (.iload_n 3, 1) := by decide +kernel
theorem dX7_pairs_15 : decode cX7_pairs 15 = .ok (.aload_n 0, 1) := by decide +kernel
theorem dX7_pairs_16 : decode cX7_pairs 16 = .ok (.getfield 7, 3) := by decide +kernel
theorem dX7_pairs_19 : decode cX7_pairs 19 = .ok (.if_icmp .ge 31, 3) := by decide +kernel
theorem dX7_pairs_22 : decode cX7_pairs 22 = .ok (.iload_n 1, 1) := by decide +kernel
theorem dX7_pairs_23 : decode cX7_pairs 23 = .ok (.iload_n 2, 1) := by decide +kernel
theorem dX7_pairs_24 : decode cX7_pairs 24 = .ok (.iload_n 3, 1) := by decide +kernel
theorem dX7_pairs_25 : decode cX7_pairs 25 = .ok (.if_icmp .eq 16, 3) := by decide +kernel
theorem dX7_pairs_28 : decode cX7_pairs 28 = .ok (.aload_n 0, 1) := by decide +kernel
theorem dX7_pairs_29 : decode cX7_pairs 29 = .ok (.iload_n 2, 1) := by decide +kernel
theorem dX7_pairs_30 : decode cX7_pairs 30 = .ok (.iload_n 3, 1) := by decide +kernel
theorem dX7_pairs_31 : decode cX7_pairs 31 = .ok (.invokevirtual 85, 3) := by decide +kernel
theorem dX7_pairs_34 : decode cX7_pairs 34 = .ok (.ifCond .eq 7, 3) := by decide +kernel
theorem dX7_pairs_37 : decode cX7_pairs 37 = .ok (.iconst 1, 1) := by decide +kernel
theorem dX7_pairs_38 : decode cX7_pairs 38 = .ok (.goto 4, 3) := by decide +kernel
theorem dX7_pairs_41 : decode cX7_pairs 41 = .ok (.iconst 0, 1) := by decide +kernel
theorem dX7_pairs_42 : decode cX7_pairs 42 = .ok (.iadd, 1) := by decide +kernel
theorem dX7_pairs_43 : decode cX7_pairs 43 = .ok (.istore_n 1, 1) := by decide +kernel
theorem dX7_pairs_44 : decode cX7_pairs 44 = .ok (.iinc 3 1, 3) := by decide +kernel
theorem dX7_pairs_47 : decode cX7_pairs 47 = .ok (.goto (-33), 3) := by decide +kernel
theorem dX7_pairs_50 : decode cX7_pairs 50 = .ok (.iinc 2 1, 3) := by decide +kernel
theorem dX7_pairs_53 : decode cX7_pairs 53 = .ok (.goto (-49), 3) := by decide +kernel
theorem dX7_pairs_56 : decode cX7_pairs 56 = .ok (.iload_n 1, 1) := by decide +kernel
theorem dX7_pairs_57 : decode cX7_pairs 57 = .ok (.ireturn, 1) := by decide +kernel
theorem dX7_goOn_0 : decode cX7_goOn 0 = .ok (.iconst 1, 1) := by decide +kernel
theorem dX7_goOn_1 : decode cX7_goOn 1 = .ok (.istore_n 3, 1) := by decide +kernel
theorem dX7_goOn_2 : decode cX7_goOn 2 = .ok (.aload_n 0, 1) := by decide +kernel
theorem dX7_goOn_3 : decode cX7_goOn 3 = .ok (.getfield 26, 3) := by decide +kernel
theorem dX7_goOn_6 : decode cX7_goOn 6 = .ok (.iconst 0, 1) := by decide +kernel
theorem dX7_goOn_7 : decode cX7_goOn 7 = .ok (.iload_n 2, 1) := by decide +kernel
theorem dX7_goOn_8 : decode cX7_goOn 8 = .ok (.iastore, 1) := by decide +kernel
theorem dX7_goOn_9 : decode cX7_goOn 9 = .ok (.aload_n 0, 1) := by decide +kernel
theorem dX7_goOn_10 : decode cX7_goOn 10 = .ok (.getfield 29, 3) := by decide +kernel
theorem dX7_goOn_13 : decode cX7_goOn 13 = .ok (.iconst 0, 1) := by decide +kernel
theorem dX7_goOn_14 : decode cX7_goOn 14 = .ok (.iconst 0, 1) := by decide +kernel
theorem dX7_goOn_15 : decode cX7_goOn 15 = .ok (.iastore, 1) := by decide +kernel
theorem dX7_goOn_16 : decode cX7_goOn 16 = .ok (.iload_n 3, 1) := by decide +kernel
theorem dX7_goOn_17 : decode cX7_goOn 17 = .ok (.ifCond .le 128, 3) := by decide +kernel
theorem dX7_goOn_20 : decode cX7_goOn 20 = .ok (.aload_n 0, 1) := by decide +kernel
theorem dX7_goOn_21 : decode cX7_goOn 21 = .ok (.getfield 26, 3) := by decide +kernel
theorem dX7_goOn_24 : decode cX7_goOn 24 = .ok (.iload_n 3, 1) := by decide +kernel
theorem dX7_goOn_25 : decode cX7_goOn 25 = .ok (.iconst 1, 1) := by decide +kernel
theorem dX7_goOn_26 : decode cX7_goOn 26 = .ok (.isub, 1) := by decide +kernel
theorem dX7_goOn_27 : decode cX7_goOn 27 = .ok (.iaload, 1) := by decide +kernel
theorem dX7_goOn_28 : decode cX7_goOn 28 = .ok (.istore 4, 2) := by decide +kernel
theorem dX7_goOn_30 : decode cX7_goOn 30 = .ok (.aload_n 0, 1) := by decide +kernel
theorem dX7_goOn_31 : decode cX7_goOn 31 = .ok (.getfield 29, 3) := by decide +kernel
theorem dX7_goOn_34 : decode cX7_goOn 34 = .ok (.iload_n 3, 1) := by decide +kernel
theorem dX7_goOn_35 : decode cX7_goOn 35 = .ok (.iconst 1, 1) := by decide +kernel
theorem dX7_goOn_36 : decode cX7_goOn 36 = .ok (.isub, 1) := by decide +kernel
theorem dX7_goOn_37 : decode cX7_goOn 37 = .ok (.iaload, 1) := by decide +kernel
theorem dX7_goOn_38 : decode cX7_goOn 38 = .ok (.istore 5, 2) := by decide +kernel
theorem dX7_goOn_40 : decode cX7_goOn 40 = .ok (.aload_n 0, 1) := by decide +kernel
theorem dX7_goOn_41 : decode cX7_goOn 41 = .ok (.getfield 29, 3) := by decide +kernel
theorem dX7_goOn_44 : decode cX7_goOn 44 = .ok (.iload_n 3, 1) := by decide +kernel
theorem dX7_goOn_45 : decode cX7_goOn 45 = .ok (.iconst 1, 1) := by decide +kernel
theorem dX7_goOn_46 : decode cX7_goOn 46 = .ok (.isub, 1) := by decide +kernel
theorem dX7_goOn_47 : decode cX7_goOn 47 = .ok (.dup2, 1) := by decide +kernel
theorem dX7_goOn_48 : decode cX7_goOn 48 = .ok (.iaload, 1) := by decide +kernel
theorem dX7_goOn_49 : decode cX7_goOn 49 = .ok (.iconst 1, 1) := by decide +kernel
theorem dX7_goOn_50 : decode cX7_goOn 50 = .ok (.iadd, 1) := by decide +kernel
theorem dX7_goOn_51 : decode cX7_goOn 51 = .ok (.iastore, 1) := by decide +kernel
theorem dX7_goOn_52 : decode cX7_goOn 52 = .ok (.iload 5, 2) := by decide +kernel
theorem dX7_goOn_54 : decode cX7_goOn 54 = .ok (.aload_n 0, 1) := by decide +kernel
theorem dX7_goOn_55 : decode cX7_goOn 55 = .ok (.getfield 7, 3) := by decide +kernel
theorem dX7_goOn_58 : decode cX7_goOn 58 = .ok (.if_icmp .lt 9, 3) := by decide +kernel
theorem dX7_goOn_61 : decode cX7_goOn 61 = .ok (.iinc 3 (-1), 3) := by decide +kernel
theorem dX7_goOn_64 : decode cX7_goOn 64 = .ok (.goto 78, 3) := by decide +kernel
theorem dX7_goOn_67 : decode cX7_goOn 67 = .ok (.aload_n 0, 1) := by decide +kernel
theorem dX7_goOn_68 : decode cX7_goOn 68 = .ok (.getfield 13, 3) := by decide +kernel
theorem dX7_goOn_71 : decode cX7_goOn 71 = .ok (.iconst 0, 1) := by decide +kernel
theorem dX7_goOn_72 : decode cX7_goOn 72 = .ok (.iload 4, 2) := by decide +kernel
theorem dX7_goOn_74 : decode cX7_goOn 74 = .ok (.iadd, 1) := by decide +kernel
theorem dX7_goOn_75 : decode cX7_goOn 75 = .ok (.iaload, 1) := by decide +kernel
theorem dX7_goOn_76 : decode cX7_goOn 76 = .ok (.iload 5, 2) := by decide +kernel
theorem dX7_goOn_78 : decode cX7_goOn 78 = .ok (.invokestatic 78, 3) := by decide +kernel
theorem dX7_goOn_81 : decode cX7_goOn 81 = .ok (.ifCond .eq 61, 3) := by decide +kernel
theorem dX7_goOn_84 : decode cX7_goOn 84 = .ok (.aload_n 0, 1) := by decide +kernel
theorem dX7_goOn_85 : decode cX7_goOn 85 = .ok (.getfield 13, 3) := by decide +kernel
theorem dX7_goOn_88 : decode cX7_goOn 88 = .ok (.bipush 110, 2) := by decide +kernel
theorem dX7_goOn_90 : decode cX7_goOn 90 = .ok (.dup2, 1) := by decide +kernel
theorem dX7_goOn_91 : decode cX7_goOn 91 = .ok (.iaload, 1) := by decide +kernel
theorem dX7_goOn_92 : decode cX7_goOn 92 = .ok (.iconst 1, 1) := by decide +kernel
theorem dX7_goOn_93 : decode cX7_goOn 93 = .ok (.iadd, 1) := by decide +kernel
theorem dX7_goOn_94 : decode cX7_goOn 94 = .ok (.iastore, 1) := by decide +kernel
theorem dX7_goOn_95 : decode cX7_goOn 95 = .ok (.aload_n 0, 1) := by decide +kernel
theorem dX7_goOn_96 : decode cX7_goOn 96 = .ok (.iload_n 1, 1) := by decide +kernel
theorem dX7_goOn_97 : decode cX7_goOn 97 = .ok (.iload 5, 2) := by decide +kernel
theorem dX7_goOn_99 : decode cX7_goOn 99 = .ok (.invokevirtual 85, 3) := by decide +kernel
theorem dX7_goOn_102 : decode cX7_goOn 102 = .ok (.ifCond .ne 40, 3) := by decide +kernel
theorem dX7_goOn_105 : decode cX7_goOn 105 = .ok (.aload_n 0, 1) := by decide +kernel
theorem dX7_goOn_106 : decode cX7_goOn 106 = .ok (.getfield 13, 3) := by decide +kernel
theorem dX7_goOn_109 : decode cX7_goOn 109 = .ok (.bipush 10, 2) := by decide +kernel
theorem dX7_goOn_111 : decode cX7_goOn 111 = .ok (.bipush 10, 2) := by decide +kernel
theorem dX7_goOn_113 : decode cX7_goOn 113 = .ok (.iload_n 1, 1) := by decide +kernel
theorem dX7_goOn_114 : decode cX7_goOn 114 = .ok (.imul, 1) := by decide +kernel
theorem dX7_goOn_115 : decode cX7_goOn 115 = .ok (.iadd, 1) := by decide +kernel
theorem dX7_goOn_116 : decode cX7_goOn 116 = .ok (.iload 5, 2) := by decide +kernel
theorem dX7_goOn_118 : decode cX7_goOn 118 = .ok (.iadd, 1) := by decide +kernel
theorem dX7_goOn_119 : decode cX7_goOn 119 = .ok (.iload 4, 2) := by decide +kernel
theorem dX7_goOn_121 : decode cX7_goOn 121 = .ok (.iconst 2, 1) := by decide +kernel
theorem dX7_goOn_122 : decode cX7_goOn 122 = .ok (.iadd, 1) := by decide +kernel
theorem dX7_goOn_123 : decode cX7_goOn 123 = .ok (.iastore, 1) := by decide +kernel
theorem dX7_goOn_124 : decode cX7_goOn 124 = .ok (.aload_n 0, 1) := by decide +kernel
theorem dX7_goOn_125 : decode cX7_goOn 125 = .ok (.getfield 26, 3) := by decide +kernel
theorem dX7_goOn_128 : decode cX7_goOn 128 = .ok (.iload_n 3, 1) := by decide +kernel
theorem dX7_goOn_129 : decode cX7_goOn 129 = .ok (.iload 5, 2) := by decide +kernel
theorem dX7_goOn_131 : decode cX7_goOn 131 = .ok (.iastore, 1) := by decide +kernel
theorem dX7_goOn_132 : decode cX7_goOn 132 = .ok (.aload_n 0, 1) := by decide +kernel
theorem dX7_goOn_133 : decode cX7_goOn 133 = .ok (.getfield 29, 3) := by decide +kernel
theorem dX7_goOn_136 : decode cX7_goOn 136 = .ok (.iload_n 3, 1) := by decide +kernel
theorem dX7_goOn_137 : decode cX7_goOn 137 = .ok (.iconst 0, 1) := by decide +kernel
theorem dX7_goOn_138 : decode cX7_goOn 138 = .ok (.iastore, 1) := by decide +kernel
theorem dX7_goOn_139 : decode cX7_goOn 139 = .ok (.iinc 3 1, 3) := by decide +kernel
theorem dX7_goOn_142 : decode cX7_goOn 142 = .ok (.goto (-126), 3) := by decide +kernel
theorem dX7_goOn_145 : decode cX7_goOn 145 = .ok (.return_, 1) := by decide +kernel
theorem dX7_putIn_0 : decode cX7_putIn 0 = .ok (.aload_n 0, 1) := by decide +kernel
theorem dX7_putIn_1 : decode cX7_putIn 1 = .ok (.getfield 13, 3) := by decide +kernel
theorem dX7_putIn_4 : decode cX7_putIn 4 = .ok (.iconst 0, 1) := by decide +kernel
theorem dX7_putIn_5 : decode cX7_putIn 5 = .ok (.iload_n 1, 1) := by decide +kernel
theorem dX7_putIn_6 : decode cX7_putIn 6 = .ok (.iadd, 1) := by decide +kernel
theorem dX7_putIn_7 : decode cX7_putIn 7 = .ok (.dup2, 1) := by decide +kernel
theorem dX7_putIn_8 : decode cX7_putIn 8 = .ok (.iaload, 1) := by decide +kernel
theorem dX7_putIn_9 : decode cX7_putIn 9 = .ok (.iconst 1, 1) := by decide +kernel
theorem dX7_putIn_10 : decode cX7_putIn 10 = .ok (.iload_n 2, 1) := by decide +kernel
theorem dX7_putIn_11 : decode cX7_putIn 11 = .ok (.ishl, 1) := by decide +kernel
theorem dX7_putIn_12 : decode cX7_putIn 12 = .ok (.ior, 1) := by decide +kernel
theorem dX7_putIn_13 : decode cX7_putIn 13 = .ok (.iastore, 1) := by decide +kernel
theorem dX7_putIn_14 : decode cX7_putIn 14 = .ok (.iconst 0, 1) := by decide +kernel
theorem dX7_putIn_15 : decode cX7_putIn 15 = .ok (.istore_n 3, 1) := by decide +kernel
theorem dX7_putIn_16 : decode cX7_putIn 16 = .ok (.iload_n 3, 1) := by decide +kernel
theorem dX7_putIn_17 : decode cX7_putIn 17 = .ok (.aload_n 0, 1) := by decide +kernel
theorem dX7_putIn_18 : decode cX7_putIn 18 = .ok (.getfield 7, 3) := by decide +kernel
theorem dX7_putIn_21 : decode cX7_putIn 21 = .ok (.if_icmp .ge 61, 3) := by decide +kernel
theorem dX7_putIn_24 : decode cX7_putIn 24 = .ok (.aload_n 0, 1) := by decide +kernel
theorem dX7_putIn_25 : decode cX7_putIn 25 = .ok (.iload_n 3, 1) := by decide +kernel
theorem dX7_putIn_26 : decode cX7_putIn 26 = .ok (.iload_n 1, 1) := by decide +kernel
theorem dX7_putIn_27 : decode cX7_putIn 27 = .ok (.invokevirtual 85, 3) := by decide +kernel
theorem dX7_putIn_30 : decode cX7_putIn 30 = .ok (.ifCond .eq 46, 3) := by decide +kernel
theorem dX7_putIn_33 : decode cX7_putIn 33 = .ok (.aload_n 0, 1) := by decide +kernel
theorem dX7_putIn_34 : decode cX7_putIn 34 = .ok (.getfield 13, 3) := by decide +kernel
theorem dX7_putIn_37 : decode cX7_putIn 37 = .ok (.bipush 110, 2) := by decide +kernel
theorem dX7_putIn_39 : decode cX7_putIn 39 = .ok (.dup2, 1) := by decide +kernel
theorem dX7_putIn_40 : decode cX7_putIn 40 = .ok (.iaload, 1) := by decide +kernel
theorem dX7_putIn_41 : decode cX7_putIn 41 = .ok (.iconst 1, 1) := by decide +kernel
theorem dX7_putIn_42 : decode cX7_putIn 42 = .ok (.iadd, 1) := by decide +kernel
theorem dX7_putIn_43 : decode cX7_putIn 43 = .ok (.iastore, 1) := by decide +kernel
theorem dX7_putIn_44 : decode cX7_putIn 44 = .ok (.aload_n 0, 1) := by decide +kernel
theorem dX7_putIn_45 : decode cX7_putIn 45 = .ok (.iload_n 3, 1) := by decide +kernel
theorem dX7_putIn_46 : decode cX7_putIn 46 = .ok (.iload_n 2, 1) := by decide +kernel
theorem dX7_putIn_47 : decode cX7_putIn 47 = .ok (.invokevirtual 85, 3) := by decide +kernel
theorem dX7_putIn_50 : decode cX7_putIn 50 = .ok (.ifCond .ne 26, 3) := by decide +kernel
theorem dX7_putIn_53 : decode cX7_putIn 53 = .ok (.aload_n 0, 1) := by decide +kernel
theorem dX7_putIn_54 : decode cX7_putIn 54 = .ok (.getfield 13, 3) := by decide +kernel
theorem dX7_putIn_57 : decode cX7_putIn 57 = .ok (.bipush 10, 2) := by decide +kernel
theorem dX7_putIn_59 : decode cX7_putIn 59 = .ok (.bipush 10, 2) := by decide +kernel
theorem dX7_putIn_61 : decode cX7_putIn 61 = .ok (.iload_n 3, 1) := by decide +kernel
theorem dX7_putIn_62 : decode cX7_putIn 62 = .ok (.imul, 1) := by decide +kernel
theorem dX7_putIn_63 : decode cX7_putIn 63 = .ok (.iadd, 1) := by decide +kernel
theorem dX7_putIn_64 : decode cX7_putIn 64 = .ok (.iload_n 2, 1) := by decide +kernel
theorem dX7_putIn_65 : decode cX7_putIn 65 = .ok (.iadd, 1) := by decide +kernel
theorem dX7_putIn_66 : decode cX7_putIn 66 = .ok (.iload_n 1, 1) := by decide +kernel
theorem dX7_putIn_67 : decode cX7_putIn 67 = .ok (.iconst 2, 1) := by decide +kernel
theorem dX7_putIn_68 : decode cX7_putIn 68 = .ok (.iadd, 1) := by decide +kernel
theorem dX7_putIn_69 : decode cX7_putIn 69 = .ok (.iastore, 1) := by decide +kernel
theorem dX7_putIn_70 : decode cX7_putIn 70 = .ok (.aload_n 0, 1) := by decide +kernel
theorem dX7_putIn_71 : decode cX7_putIn 71 = .ok (.iload_n 3, 1) := by decide +kernel
theorem dX7_putIn_72 : decode cX7_putIn 72 = .ok (.iload_n 2, 1) := by decide +kernel
theorem dX7_putIn_73 : decode cX7_putIn 73 = .ok (.invokevirtual 88, 3) := by decide +kernel
theorem dX7_putIn_76 : decode cX7_putIn 76 = .ok (.iinc 3 1, 3) := by decide +kernel
theorem dX7_putIn_79 : decode cX7_putIn 79 = .ok (.goto (-63), 3) := by decide +kernel
theorem dX7_putIn_82 : decode cX7_putIn 82 = .ok (.return_, 1) := by decide +kernel
theorem dX7_grow_0 : decode cX7_grow 0 = .ok (.iconst 0, 1) := by decide +kernel
theorem dX7_grow_1 : decode cX7_grow 1 = .ok (.istore_n 2, 1) := by decide +kernel
theorem dX7_grow_2 : decode cX7_grow 2 = .ok (.iload_n 2, 1) := by decide +kernel
theorem dX7_grow_3 : decode cX7_grow 3 = .ok (.aload_n 0, 1) := by decide +kernel
theorem dX7_grow_4 : decode cX7_grow 4 = .ok (.getfield 7, 3) := by decide +kernel
theorem dX7_grow_7 : decode cX7_grow 7 = .ok (.if_icmp .ge 33, 3) := by decide +kernel
theorem dX7_grow_10 : decode cX7_grow 10 = .ok (.aload_n 0, 1) := by decide +kernel
theorem dX7_grow_11 : decode cX7_grow 11 = .ok (.getfield 13, 3) := by decide +kernel
theorem dX7_grow_14 : decode cX7_grow 14 = .ok (.bipush 10, 2) := by decide +kernel
theorem dX7_grow_16 : decode cX7_grow 16 = .ok (.bipush 10, 2) := by decide +kernel
theorem dX7_grow_18 : decode cX7_grow 18 = .ok (.iload_n 1, 1) := by decide +kernel
theorem dX7_grow_19 : decode cX7_grow 19 = .ok (.imul, 1) := by decide +kernel
theorem dX7_grow_20 : decode cX7_grow 20 = .ok (.iadd, 1) := by decide +kernel
theorem dX7_grow_21 : decode cX7_grow 21 = .ok (.iload_n 2, 1) := by decide +kernel
theorem dX7_grow_22 : decode cX7_grow 22 = .ok (.iadd, 1) := by decide +kernel
theorem dX7_grow_23 : decode cX7_grow 23 = .ok (.iload_n 2, 1) := by decide +kernel
theorem dX7_grow_24 : decode cX7_grow 24 = .ok (.iload_n 1, 1) := by decide +kernel
theorem dX7_grow_25 : decode cX7_grow 25 = .ok (.if_icmp .ne 7, 3) := by decide +kernel
theorem dX7_grow_28 : decode cX7_grow 28 = .ok (.iconst 1, 1) := by decide +kernel
theorem dX7_grow_29 : decode cX7_grow 29 = .ok (.goto 4, 3) := by decide +kernel
theorem dX7_grow_32 : decode cX7_grow 32 = .ok (.iconst 0, 1) := by decide +kernel
theorem dX7_grow_33 : decode cX7_grow 33 = .ok (.iastore, 1) := by decide +kernel
theorem dX7_grow_34 : decode cX7_grow 34 = .ok (.iinc 2 1, 3) := by decide +kernel
theorem dX7_grow_37 : decode cX7_grow 37 = .ok (.goto (-35), 3) := by decide +kernel
theorem dX7_grow_40 : decode cX7_grow 40 = .ok (.aload_n 0, 1) := by decide +kernel
theorem dX7_grow_41 : decode cX7_grow 41 = .ok (.iload_n 1, 1) := by decide +kernel
theorem dX7_grow_42 : decode cX7_grow 42 = .ok (.iload_n 1, 1) := by decide +kernel
theorem dX7_grow_43 : decode cX7_grow 43 = .ok (.invokevirtual 88, 3) := by decide +kernel
theorem dX7_grow_46 : decode cX7_grow 46 = .ok (.return_, 1) := by decide +kernel
theorem dX7_note_0 : decode cX7_note 0 = .ok (.aload_n 0, 1) := by decide +kernel
theorem dX7_note_1 : decode cX7_note 1 = .ok (.getfield 92, 3) := by decide +kernel
theorem dX7_note_4 : decode cX7_note 4 = .ok (.bipush 8, 2) := by decide +kernel
theorem dX7_note_6 : decode cX7_note 6 = .ok (.if_icmp .ne 43, 3) := by decide +kernel
theorem dX7_note_9 : decode cX7_note 9 = .ok (.iconst 0, 1) := by decide +kernel
theorem dX7_note_10 : decode cX7_note 10 = .ok (.istore_n 1, 1) := by decide +kernel
theorem dX7_note_11 : decode cX7_note 11 = .ok (.iload_n 1, 1) := by decide +kernel
theorem dX7_note_12 : decode cX7_note 12 = .ok (.sipush 777, 3) := by decide +kernel
theorem dX7_note_15 : decode cX7_note 15 = .ok (.if_icmp .ge 24, 3) := by decide +kernel
theorem dX7_note_18 : decode cX7_note 18 = .ok (.aload_n 0, 1) := by decide +kernel
theorem dX7_note_19 : decode cX7_note 19 = .ok (.getfield 17, 3) := by decide +kernel
theorem dX7_note_22 : decode cX7_note 22 = .ok (.iload_n 1, 1) := by decide +kernel
theorem dX7_note_23 : decode cX7_note 23 = .ok (.aload_n 0, 1) := by decide +kernel
theorem dX7_note_24 : decode cX7_note 24 = .ok (.getfield 17, 3) := by decide +kernel
theorem dX7_note_27 : decode cX7_note 27 = .ok (.iload_n 1, 1) := by decide +kernel
theorem dX7_note_28 : decode cX7_note 28 = .ok (.bipush 111, 2) := by decide +kernel
theorem dX7_note_30 : decode cX7_note 30 = .ok (.iadd, 1) := by decide +kernel
theorem dX7_note_31 : decode cX7_note 31 = .ok (.iaload, 1) := by decide +kernel
theorem dX7_note_32 : decode cX7_note 32 = .ok (.iastore, 1) := by decide +kernel
theorem dX7_note_33 : decode cX7_note 33 = .ok (.iinc 1 1, 3) := by decide +kernel
theorem dX7_note_36 : decode cX7_note 36 = .ok (.goto (-25), 3) := by decide +kernel
theorem dX7_note_39 : decode cX7_note 39 = .ok (.aload_n 0, 1) := by decide +kernel
theorem dX7_note_40 : decode cX7_note 40 = .ok (.dup, 1) := by decide +kernel
theorem dX7_note_41 : decode cX7_note 41 = .ok (.getfield 92, 3) := by decide +kernel
theorem dX7_note_44 : decode cX7_note 44 = .ok (.iconst 1, 1) := by decide +kernel
theorem dX7_note_45 : decode cX7_note 45 = .ok (.isub, 1) := by decide +kernel
theorem dX7_note_46 : decode cX7_note 46 = .ok (.putfield 92, 3) := by decide +kernel
theorem dX7_note_49 : decode cX7_note 49 = .ok (.iconst 0, 1) := by decide +kernel
theorem dX7_note_50 : decode cX7_note 50 = .ok (.istore_n 1, 1) := by decide +kernel
theorem dX7_note_51 : decode cX7_note 51 = .ok (.iload_n 1, 1) := by decide +kernel
theorem dX7_note_52 : decode cX7_note 52 = .ok (.bipush 111, 2) := by decide +kernel
theorem dX7_note_54 : decode cX7_note 54 = .ok (.if_icmp .ge 29, 3) := by decide +kernel
theorem dX7_note_57 : decode cX7_note 57 = .ok (.aload_n 0, 1) := by decide +kernel
theorem dX7_note_58 : decode cX7_note 58 = .ok (.getfield 17, 3) := by decide +kernel
theorem dX7_note_61 : decode cX7_note 61 = .ok (.bipush 111, 2) := by decide +kernel
theorem dX7_note_63 : decode cX7_note 63 = .ok (.aload_n 0, 1) := by decide +kernel
theorem dX7_note_64 : decode cX7_note 64 = .ok (.getfield 92, 3) := by decide +kernel
theorem dX7_note_67 : decode cX7_note 67 = .ok (.imul, 1) := by decide +kernel
theorem dX7_note_68 : decode cX7_note 68 = .ok (.iload_n 1, 1) := by decide +kernel
theorem dX7_note_69 : decode cX7_note 69 = .ok (.iadd, 1) := by decide +kernel
theorem dX7_note_70 : decode cX7_note 70 = .ok (.aload_n 0, 1) := by decide +kernel
theorem dX7_note_71 : decode cX7_note 71 = .ok (.getfield 13, 3) := by decide +kernel
theorem dX7_note_74 : decode cX7_note 74 = .ok (.iload_n 1, 1) := by decide +kernel
theorem dX7_note_75 : decode cX7_note 75 = .ok (.iaload, 1) := by decide +kernel
theorem dX7_note_76 : decode cX7_note 76 = .ok (.iastore, 1) := by decide +kernel
theorem dX7_note_77 : decode cX7_note 77 = .ok (.iinc 1 1, 3) := by decide +kernel
theorem dX7_note_80 : decode cX7_note 80 = .ok (.goto (-29), 3) := by decide +kernel
theorem dX7_note_83 : decode cX7_note 83 = .ok (.aload_n 0, 1) := by decide +kernel
theorem dX7_note_84 : decode cX7_note 84 = .ok (.dup, 1) := by decide +kernel
theorem dX7_note_85 : decode cX7_note 85 = .ok (.getfield 92, 3) := by decide +kernel
theorem dX7_note_88 : decode cX7_note 88 = .ok (.iconst 1, 1) := by decide +kernel
theorem dX7_note_89 : decode cX7_note 89 = .ok (.iadd, 1) := by decide +kernel
theorem dX7_note_90 : decode cX7_note 90 = .ok (.putfield 92, 3) := by decide +kernel
theorem dX7_note_93 : decode cX7_note 93 = .ok (.return_, 1) := by decide +kernel
theorem dX7_write_0 : decode cX7_write 0 = .ok (.iload_n 1, 1) := by decide +kernel
theorem dX7_write_1 : decode cX7_write 1 = .ok (.i2l, 1) := by decide +kernel
theorem dX7_write_2 : decode cX7_write 2 = .ok (.lconst 0, 1) := by decide +kernel
theorem dX7_write_3 : decode cX7_write 3 = .ok (.ldc2_w 95, 3) := by decide +kernel
theorem dX7_write_6 : decode cX7_write 6 = .ok (.invokestatic 66, 3) := by decide +kernel
theorem dX7_write_9 : decode cX7_write 9 = .ok (.ifCond .ne 6, 3) := by decide +kernel
theorem dX7_write_12 : decode cX7_write 12 = .ok (.bipush (-3), 2) := by decide +kernel
theorem dX7_write_14 : decode cX7_write 14 = .ok (.ireturn, 1) := by decide +kernel
theorem dX7_write_15 : decode cX7_write 15 = .ok (.aload_n 0, 1) := by decide +kernel
theorem dX7_write_16 : decode cX7_write 16 = .ok (.getfield 97, 3) := by decide +kernel
theorem dX7_write_19 : decode cX7_write 19 = .ok (.sipush 200, 3) := by decide +kernel
theorem dX7_write_22 : decode cX7_write 22 = .ok (.if_icmp .ne 6, 3) := by decide +kernel
theorem dX7_write_25 : decode cX7_write 25 = .ok (.bipush (-5), 2) := by decide +kernel
theorem dX7_write_27 : decode cX7_write 27 = .ok (.ireturn, 1) := by decide +kernel
theorem dX7_write_28 : decode cX7_write 28 = .ok (.aload_n 0, 1) := by decide +kernel
theorem dX7_write_29 : decode cX7_write 29 = .ok (.getfield 32, 3) := by decide +kernel
theorem dX7_write_32 : decode cX7_write 32 = .ok (.aload_n 0, 1) := by decide +kernel
theorem dX7_write_33 : decode cX7_write 33 = .ok (.getfield 97, 3) := by decide +kernel
theorem dX7_write_36 : decode cX7_write 36 = .ok (.iload_n 1, 1) := by decide +kernel
theorem dX7_write_37 : decode cX7_write 37 = .ok (.iastore, 1) := by decide +kernel
theorem dX7_write_38 : decode cX7_write 38 = .ok (.aload_n 0, 1) := by decide +kernel
theorem dX7_write_39 : decode cX7_write 39 = .ok (.dup, 1) := by decide +kernel
theorem dX7_write_40 : decode cX7_write 40 = .ok (.getfield 97, 3) := by decide +kernel
theorem dX7_write_43 : decode cX7_write 43 = .ok (.iconst 1, 1) := by decide +kernel
theorem dX7_write_44 : decode cX7_write 44 = .ok (.iadd, 1) := by decide +kernel
theorem dX7_write_45 : decode cX7_write 45 = .ok (.putfield 97, 3) := by decide +kernel
theorem dX7_write_48 : decode cX7_write 48 = .ok (.aload_n 0, 1) := by decide +kernel
theorem dX7_write_49 : decode cX7_write 49 = .ok (.getfield 97, 3) := by decide +kernel
theorem dX7_write_52 : decode cX7_write 52 = .ok (.ireturn, 1) := by decide +kernel
theorem dX7_erase_0 : decode cX7_erase 0 = .ok (.aload_n 0, 1) := by decide +kernel
theorem dX7_erase_1 : decode cX7_erase 1 = .ok (.getfield 97, 3) := by decide +kernel
theorem dX7_erase_4 : decode cX7_erase 4 = .ok (.istore_n 1, 1) := by decide +kernel
theorem dX7_erase_5 : decode cX7_erase 5 = .ok (.aload_n 0, 1) := by decide +kernel
theorem dX7_erase_6 : decode cX7_erase 6 = .ok (.iconst 0, 1) := by decide +kernel
theorem dX7_erase_7 : decode cX7_erase 7 = .ok (.putfield 97, 3) := by decide +kernel
theorem dX7_erase_10 : decode cX7_erase 10 = .ok (.iload_n 1, 1) := by decide +kernel
theorem dX7_erase_11 : decode cX7_erase 11 = .ok (.ireturn, 1) := by decide +kernel
theorem dX7_letter_0 : decode cX7_letter 0 = .ok (.aload_n 0, 1) := by decide +kernel
theorem dX7_letter_1 : decode cX7_letter 1 = .ok (.getfield 100, 3) := by decide +kernel
theorem dX7_letter_4 : decode cX7_letter 4 = .ok (.aload_n 0, 1) := by decide +kernel
theorem dX7_letter_5 : decode cX7_letter 5 = .ok (.getfield 97, 3) := by decide +kernel
theorem dX7_letter_8 : decode cX7_letter 8 = .ok (.if_icmp .ge 15, 3) := by decide +kernel
theorem dX7_letter_11 : decode cX7_letter 11 = .ok (.aload_n 0, 1) := by decide +kernel
theorem dX7_letter_12 : decode cX7_letter 12 = .ok (.getfield 32, 3) := by decide +kernel
theorem dX7_letter_15 : decode cX7_letter 15 = .ok (.aload_n 0, 1) := by decide +kernel
theorem dX7_letter_16 : decode cX7_letter 16 = .ok (.getfield 100, 3) := by decide +kernel
theorem dX7_letter_19 : decode cX7_letter 19 = .ok (.iaload, 1) := by decide +kernel
theorem dX7_letter_20 : decode cX7_letter 20 = .ok (.goto 4, 3) := by decide +kernel
theorem dX7_letter_23 : decode cX7_letter 23 = .ok (.iconst (-1), 1) := by decide +kernel
theorem dX7_letter_24 : decode cX7_letter 24 = .ok (.ireturn, 1) := by decide +kernel
theorem dX7_next_0 : decode cX7_next 0 = .ok (.aload_n 0, 1) := by decide +kernel
theorem dX7_next_1 : decode cX7_next 1 = .ok (.invokevirtual 103, 3) := by decide +kernel
theorem dX7_next_4 : decode cX7_next 4 = .ok (.bipush 32, 2) := by decide +kernel
theorem dX7_next_6 : decode cX7_next 6 = .ok (.if_icmp .ne 16, 3) := by decide +kernel
theorem dX7_next_9 : decode cX7_next 9 = .ok (.aload_n 0, 1) := by decide +kernel
theorem dX7_next_10 : decode cX7_next 10 = .ok (.dup, 1) := by decide +kernel
theorem dX7_next_11 : decode cX7_next 11 = .ok (.getfield 100, 3) := by decide +kernel
theorem dX7_next_14 : decode cX7_next 14 = .ok (.iconst 1, 1) := by decide +kernel
theorem dX7_next_15 : decode cX7_next 15 = .ok (.iadd, 1) := by decide +kernel
theorem dX7_next_16 : decode cX7_next 16 = .ok (.putfield 100, 3) := by decide +kernel
theorem dX7_next_19 : decode cX7_next 19 = .ok (.goto (-19), 3) := by decide +kernel
theorem dX7_next_22 : decode cX7_next 22 = .ok (.aload_n 0, 1) := by decide +kernel
theorem dX7_next_23 : decode cX7_next 23 = .ok (.aload_n 0, 1) := by decide +kernel
theorem dX7_next_24 : decode cX7_next 24 = .ok (.getfield 100, 3) := by decide +kernel
theorem dX7_next_27 : decode cX7_next 27 = .ok (.putfield 107, 3) := by decide +kernel
theorem dX7_next_30 : decode cX7_next 30 = .ok (.aload_n 0, 1) := by decide +kernel
theorem dX7_next_31 : decode cX7_next 31 = .ok (.invokevirtual 103, 3) := by decide +kernel
theorem dX7_next_34 : decode cX7_next 34 = .ok (.istore_n 1, 1) := by decide +kernel
theorem dX7_next_35 : decode cX7_next 35 = .ok (.aload_n 0, 1) := by decide +kernel
theorem dX7_next_36 : decode cX7_next 36 = .ok (.iload_n 1, 1) := by decide +kernel
theorem dX7_next_37 : decode cX7_next 37 = .ok (.ifCond .ge 7, 3) := by decide +kernel
theorem dX7_next_40 : decode cX7_next 40 = .ok (.iconst 0, 1) := by decide +kernel
theorem dX7_next_41 : decode cX7_next 41 = .ok (.goto 44, 3) := by decide +kernel
theorem dX7_next_44 : decode cX7_next 44 = .ok (.iload_n 1, 1) := by decide +kernel
theorem dX7_next_45 : decode cX7_next 45 = .ok (.i2l, 1) := by decide +kernel
theorem dX7_next_46 : decode cX7_next 46 = .ok (.ldc2_w 110, 3) := by decide +kernel
theorem dX7_next_49 : decode cX7_next 49 = .ok (.ldc2_w 112, 3) := by decide +kernel
theorem dX7_next_52 : decode cX7_next 52 = .ok (.invokestatic 66, 3) := by decide +kernel
theorem dX7_next_55 : decode cX7_next 55 = .ok (.ifCond .eq 7, 3) := by decide +kernel
theorem dX7_next_58 : decode cX7_next 58 = .ok (.iconst 1, 1) := by decide +kernel
theorem dX7_next_59 : decode cX7_next 59 = .ok (.goto 26, 3) := by decide +kernel
theorem dX7_next_62 : decode cX7_next 62 = .ok (.iload_n 1, 1) := by decide +kernel
theorem dX7_next_63 : decode cX7_next 63 = .ok (.i2l, 1) := by decide +kernel
theorem dX7_next_64 : decode cX7_next 64 = .ok (.ldc2_w 114, 3) := by decide +kernel
theorem dX7_next_67 : decode cX7_next 67 = .ok (.ldc2_w 116, 3) := by decide +kernel
theorem dX7_next_70 : decode cX7_next 70 = .ok (.invokestatic 66, 3) := by decide +kernel
theorem dX7_next_73 : decode cX7_next 73 = .ok (.ifCond .eq 7, 3) := by decide +kernel
theorem dX7_next_76 : decode cX7_next 76 = .ok (.iconst 2, 1) := by decide +kernel
theorem dX7_next_77 : decode cX7_next 77 = .ok (.goto 8, 3) := by decide +kernel
theorem dX7_next_80 : decode cX7_next 80 = .ok (.iload_n 1, 1) := by decide +kernel
theorem dX7_next_81 : decode cX7_next 81 = .ok (.sipush 1000, 3) := by decide +kernel
theorem dX7_next_84 : decode cX7_next 84 = .ok (.isub, 1) := by decide +kernel
theorem dX7_next_85 : decode cX7_next 85 = .ok (.putfield 118, 3) := by decide +kernel
theorem dX7_next_88 : decode cX7_next 88 = .ok (.aload_n 0, 1) := by decide +kernel
theorem dX7_next_89 : decode cX7_next 89 = .ok (.iconst 0, 1) := by decide +kernel
theorem dX7_next_90 : decode cX7_next 90 = .ok (.putfield 121, 3) := by decide +kernel
theorem dX7_next_93 : decode cX7_next 93 = .ok (.aload_n 0, 1) := by decide +kernel
theorem dX7_next_94 : decode cX7_next 94 = .ok (.getfield 118, 3) := by decide +kernel
theorem dX7_next_97 : decode cX7_next 97 = .ok (.iconst 1, 1) := by decide +kernel
theorem dX7_next_98 : decode cX7_next 98 = .ok (.if_icmp .eq 30, 3) := by decide +kernel
theorem dX7_next_101 : decode cX7_next 101 = .ok (.aload_n 0, 1) := by decide +kernel
theorem dX7_next_102 : decode cX7_next 102 = .ok (.getfield 118, 3) := by decide +kernel
theorem dX7_next_105 : decode cX7_next 105 = .ok (.iconst 2, 1) := by decide +kernel
theorem dX7_next_106 : decode cX7_next 106 = .ok (.if_icmp .eq 22, 3) := by decide +kernel
theorem dX7_next_109 : decode cX7_next 109 = .ok (.aload_n 0, 1) := by decide +kernel
theorem dX7_next_110 : decode cX7_next 110 = .ok (.dup, 1) := by decide +kernel
theorem dX7_next_111 : decode cX7_next 111 = .ok (.getfield 100, 3) := by decide +kernel
theorem dX7_next_114 : decode cX7_next 114 = .ok (.iload_n 1, 1) := by decide +kernel
theorem dX7_next_115 : decode cX7_next 115 = .ok (.ifCond .ge 7, 3) := by decide +kernel
theorem dX7_next_118 : decode cX7_next 118 = .ok (.iconst 0, 1) := by decide +kernel
theorem dX7_next_119 : decode cX7_next 119 = .ok (.goto 4, 3) := by decide +kernel
theorem dX7_next_122 : decode cX7_next 122 = .ok (.iconst 1, 1) := by decide +kernel
theorem dX7_next_123 : decode cX7_next 123 = .ok (.iadd, 1) := by decide +kernel
theorem dX7_next_124 : decode cX7_next 124 = .ok (.putfield 100, 3) := by decide +kernel
theorem dX7_next_127 : decode cX7_next 127 = .ok (.return_, 1) := by decide +kernel
theorem dX7_next_128 : decode cX7_next 128 = .ok (.aload_n 0, 1) := by decide +kernel
theorem dX7_next_129 : decode cX7_next 129 = .ok (.getfield 118, 3) := by decide +kernel
theorem dX7_next_132 : decode cX7_next 132 = .ok (.iconst 1, 1) := by decide +kernel
theorem dX7_next_133 : decode cX7_next 133 = .ok (.if_icmp .ne 23, 3) := by decide +kernel
theorem dX7_next_136 : decode cX7_next 136 = .ok (.aload_n 0, 1) := by decide +kernel
theorem dX7_next_137 : decode cX7_next 137 = .ok (.invokevirtual 103, 3) := by decide +kernel
theorem dX7_next_140 : decode cX7_next 140 = .ok (.i2l, 1) := by decide +kernel
theorem dX7_next_141 : decode cX7_next 141 = .ok (.ldc2_w 110, 3) := by decide +kernel
theorem dX7_next_144 : decode cX7_next 144 = .ok (.ldc2_w 112, 3) := by decide +kernel
theorem dX7_next_147 : decode cX7_next 147 = .ok (.invokestatic 66, 3) := by decide +kernel
theorem dX7_next_150 : decode cX7_next 150 = .ok (.ifCond .eq 72, 3) := by decide +kernel
theorem dX7_next_153 : decode cX7_next 153 = .ok (.goto 20, 3) := by decide +kernel
theorem dX7_next_156 : decode cX7_next 156 = .ok (.aload_n 0, 1) := by decide +kernel
theorem dX7_next_157 : decode cX7_next 157 = .ok (.invokevirtual 103, 3) := by decide +kernel
theorem dX7_next_160 : decode cX7_next 160 = .ok (.i2l, 1) := by decide +kernel
theorem dX7_next_161 : decode cX7_next 161 = .ok (.ldc2_w 114, 3) := by decide +kernel
theorem dX7_next_164 : decode cX7_next 164 = .ok (.ldc2_w 116, 3) := by decide +kernel
theorem dX7_next_167 : decode cX7_next 167 = .ok (.invokestatic 66, 3) := by decide +kernel
theorem dX7_next_170 : decode cX7_next 170 = .ok (.ifCond .eq 52, 3) := by decide +kernel
theorem dX7_next_173 : decode cX7_next 173 = .ok (.aload_n 0, 1) := by decide +kernel
theorem dX7_next_174 : decode cX7_next 174 = .ok (.aload_n 0, 1) := by decide +kernel
theorem dX7_next_175 : decode cX7_next 175 = .ok (.getfield 121, 3) := by decide +kernel
theorem dX7_next_178 : decode cX7_next 178 = .ok (.sipush 1000, 3) := by decide +kernel
theorem dX7_next_181 : decode cX7_next 181 = .ok (.if_icmp .ge 21, 3) := by decide +kernel
theorem dX7_next_184 : decode cX7_next 184 = .ok (.bipush 10, 2) := by decide +kernel
theorem dX7_next_186 : decode cX7_next 186 = .ok (.aload_n 0, 1) := by decide +kernel
theorem dX7_next_187 : decode cX7_next 187 = .ok (.getfield 121, 3) := by decide +kernel
theorem dX7_next_190 : decode cX7_next 190 = .ok (.imul, 1) := by decide +kernel
theorem dX7_next_191 : decode cX7_next 191 = .ok (.aload_n 0, 1) := by decide +kernel
theorem dX7_next_192 : decode cX7_next 192 = .ok (.invokevirtual 103, 3) := by decide +kernel
theorem dX7_next_195 : decode cX7_next 195 = .ok (.iadd, 1) := by decide +kernel
theorem dX7_next_196 : decode cX7_next 196 = .ok (.bipush 48, 2) := by decide +kernel
theorem dX7_next_198 : decode cX7_next 198 = .ok (.isub, 1) := by decide +kernel
theorem dX7_next_199 : decode cX7_next 199 = .ok (.goto 7, 3) := by decide +kernel
theorem dX7_next_202 : decode cX7_next 202 = .ok (.aload_n 0, 1) := by decide +kernel
theorem dX7_next_203 : decode cX7_next 203 = .ok (.getfield 121, 3) := by decide +kernel
theorem dX7_next_206 : decode cX7_next 206 = .ok (.putfield 121, 3) := by decide +kernel
theorem dX7_next_209 : decode cX7_next 209 = .ok (.aload_n 0, 1) := by decide +kernel
theorem dX7_next_210 : decode cX7_next 210 = .ok (.dup, 1) := by decide +kernel
theorem dX7_next_211 : decode cX7_next 211 = .ok (.getfield 100, 3) := by decide +kernel
theorem dX7_next_214 : decode cX7_next 214 = .ok (.iconst 1, 1) := by decide +kernel
theorem dX7_next_215 : decode cX7_next 215 = .ok (.iadd, 1) := by decide +kernel
theorem dX7_next_216 : decode cX7_next 216 = .ok (.putfield 100, 3) := by decide +kernel
theorem dX7_next_219 : decode cX7_next 219 = .ok (.goto (-91), 3) := by decide +kernel
theorem dX7_next_222 : decode cX7_next 222 = .ok (.return_, 1) := by decide +kernel
theorem dX7_faults_0 : decode cX7_faults 0 = .ok (.aload_n 0, 1) := by decide +kernel
theorem dX7_faults_1 : decode cX7_faults 1 = .ok (.aload_n 0, 1) := by decide +kernel
theorem dX7_faults_2 : decode cX7_faults 2 = .ok (.getfield 107, 3) := by decide +kernel
theorem dX7_faults_5 : decode cX7_faults 5 = .ok (.putfield 124, 3) := by decide +kernel
theorem dX7_faults_8 : decode cX7_faults 8 = .ok (.iconst 0, 1) := by decide +kernel
theorem dX7_faults_9 : decode cX7_faults 9 = .ok (.ireturn, 1) := by decide +kernel
theorem dX7_takesNumber_0 : decode cX7_takesNumber 0 = .ok (.aload_n 0, 1) := by decide +kernel
theorem dX7_takesNumber_1 : decode cX7_takesNumber 1 = .ok (.invokevirtual 127, 3) := by decide +kernel
theorem dX7_takesNumber_4 : decode cX7_takesNumber 4 = .ok (.aload_n 0, 1) := by decide +kernel
theorem dX7_takesNumber_5 : decode cX7_takesNumber 5 = .ok (.getfield 118, 3) := by decide +kernel
theorem dX7_takesNumber_8 : decode cX7_takesNumber 8 = .ok (.iconst 2, 1) := by decide +kernel
theorem dX7_takesNumber_9 : decode cX7_takesNumber 9 = .ok (.if_icmp .ne 31, 3) := by decide +kernel
theorem dX7_takesNumber_12 : decode cX7_takesNumber 12 = .ok (.aload_n 0, 1) := by decide +kernel
theorem dX7_takesNumber_13 : decode cX7_takesNumber 13 = .ok (.getfield 100, 3) := by decide +kernel
theorem dX7_takesNumber_16 : decode cX7_takesNumber 16 = .ok (.aload_n 0, 1) := by decide +kernel
theorem dX7_takesNumber_17 : decode cX7_takesNumber 17 = .ok (.getfield 107, 3) := by decide +kernel
theorem dX7_takesNumber_20 : decode cX7_takesNumber 20 = .ok (.isub, 1) := by decide +kernel
theorem dX7_takesNumber_21 : decode cX7_takesNumber 21 = .ok (.iconst 3, 1) := by decide +kernel
theorem dX7_takesNumber_22 : decode cX7_takesNumber 22 = .ok (.if_icmp .ge 18, 3) := by decide +kernel
theorem dX7_takesNumber_25 : decode cX7_takesNumber 25 = .ok (.aload_n 0, 1) := by decide +kernel
theorem dX7_takesNumber_26 : decode cX7_takesNumber 26 = .ok (.getfield 121, 3) := by decide +kernel
theorem dX7_takesNumber_29 : decode cX7_takesNumber 29 = .ok (.i2l, 1) := by decide +kernel
theorem dX7_takesNumber_30 : decode cX7_takesNumber 30 = .ok (.iload_n 1, 1) := by decide +kernel
theorem dX7_takesNumber_31 : decode cX7_takesNumber 31 = .ok (.i2l, 1) := by decide +kernel
theorem dX7_takesNumber_32 : decode cX7_takesNumber 32 = .ok (.iload_n 2, 1) := by decide +kernel
theorem dX7_takesNumber_33 : decode cX7_takesNumber 33 = .ok (.i2l, 1) := by decide +kernel
theorem dX7_takesNumber_34 : decode cX7_takesNumber 34 = .ok (.invokestatic 66, 3) := by decide +kernel
theorem dX7_takesNumber_37 : decode cX7_takesNumber 37 = .ok (.ifCond .ne 10, 3) := by decide +kernel
theorem dX7_takesNumber_40 : decode cX7_takesNumber 40 = .ok (.aload_n 0, 1) := by decide +kernel
theorem dX7_takesNumber_41 : decode cX7_takesNumber 41 = .ok (.invokevirtual 130, 3) := by decide +kernel
theorem dX7_takesNumber_44 : decode cX7_takesNumber 44 = .ok (.ifCond .eq 7, 3) := by decide +kernel
theorem dX7_takesNumber_47 : decode cX7_takesNumber 47 = .ok (.iconst 1, 1) := by decide +kernel
theorem dX7_takesNumber_48 : decode cX7_takesNumber 48 = .ok (.goto 4, 3) := by decide +kernel
theorem dX7_takesNumber_51 : decode cX7_takesNumber 51 = .ok (.iconst 0, 1) := by decide +kernel
theorem dX7_takesNumber_52 : decode cX7_takesNumber 52 = .ok (.ireturn, 1) := by decide +kernel
theorem dX7_isWord_0 : decode cX7_isWord 0 = .ok (.iload 4, 2) := by decide +kernel
theorem dX7_isWord_2 : decode cX7_isWord 2 = .ok (.ifCond .ne 7, 3) := by decide +kernel
theorem dX7_isWord_5 : decode cX7_isWord 5 = .ok (.iconst 3, 1) := by decide +kernel
theorem dX7_isWord_6 : decode cX7_isWord 6 = .ok (.goto 4, 3) := by decide +kernel
theorem dX7_isWord_9 : decode cX7_isWord 9 = .ok (.iconst 4, 1) := by decide +kernel
theorem dX7_isWord_10 : decode cX7_isWord 10 = .ok (.istore 5, 2) := by decide +kernel
theorem dX7_isWord_12 : decode cX7_isWord 12 = .ok (.aload_n 0, 1) := by decide +kernel
theorem dX7_isWord_13 : decode cX7_isWord 13 = .ok (.getfield 118, 3) := by decide +kernel
theorem dX7_isWord_16 : decode cX7_isWord 16 = .ok (.iconst 1, 1) := by decide +kernel
theorem dX7_isWord_17 : decode cX7_isWord 17 = .ok (.if_icmp .ne 85, 3) := by decide +kernel
theorem dX7_isWord_20 : decode cX7_isWord 20 = .ok (.aload_n 0, 1) := by decide +kernel
theorem dX7_isWord_21 : decode cX7_isWord 21 = .ok (.getfield 100, 3) := by decide +kernel
theorem dX7_isWord_24 : decode cX7_isWord 24 = .ok (.aload_n 0, 1) := by decide +kernel
theorem dX7_isWord_25 : decode cX7_isWord 25 = .ok (.getfield 107, 3) := by decide +kernel
theorem dX7_isWord_28 : decode cX7_isWord 28 = .ok (.isub, 1) := by decide +kernel
theorem dX7_isWord_29 : decode cX7_isWord 29 = .ok (.iload 5, 2) := by decide +kernel
theorem dX7_isWord_31 : decode cX7_isWord 31 = .ok (.if_icmp .ne 71, 3) := by decide +kernel
theorem dX7_isWord_34 : decode cX7_isWord 34 = .ok (.aload_n 0, 1) := by decide +kernel
theorem dX7_isWord_35 : decode cX7_isWord 35 = .ok (.getfield 32, 3) := by decide +kernel
theorem dX7_isWord_38 : decode cX7_isWord 38 = .ok (.aload_n 0, 1) := by decide +kernel
theorem dX7_isWord_39 : decode cX7_isWord 39 = .ok (.getfield 107, 3) := by decide +kernel
theorem dX7_isWord_42 : decode cX7_isWord 42 = .ok (.iaload, 1) := by decide +kernel
theorem dX7_isWord_43 : decode cX7_isWord 43 = .ok (.iload_n 1, 1) := by decide +kernel
theorem dX7_isWord_44 : decode cX7_isWord 44 = .ok (.if_icmp .ne 58, 3) := by decide +kernel
theorem dX7_isWord_47 : decode cX7_isWord 47 = .ok (.aload_n 0, 1) := by decide +kernel
theorem dX7_isWord_48 : decode cX7_isWord 48 = .ok (.getfield 32, 3) := by decide +kernel
theorem dX7_isWord_51 : decode cX7_isWord 51 = .ok (.aload_n 0, 1) := by decide +kernel
theorem dX7_isWord_52 : decode cX7_isWord 52 = .ok (.getfield 107, 3) := by decide +kernel
theorem dX7_isWord_55 : decode cX7_isWord 55 = .ok (.iconst 1, 1) := by decide +kernel
theorem dX7_isWord_56 : decode cX7_isWord 56 = .ok (.iadd, 1) := by decide +kernel
theorem dX7_isWord_57 : decode cX7_isWord 57 = .ok (.iaload, 1) := by decide +kernel
theorem dX7_isWord_58 : decode cX7_isWord 58 = .ok (.iload_n 2, 1) := by decide +kernel
theorem dX7_isWord_59 : decode cX7_isWord 59 = .ok (.if_icmp .ne 43, 3) := by decide +kernel
theorem dX7_isWord_62 : decode cX7_isWord 62 = .ok (.aload_n 0, 1) := by decide +kernel
theorem dX7_isWord_63 : decode cX7_isWord 63 = .ok (.getfield 32, 3) := by decide +kernel
theorem dX7_isWord_66 : decode cX7_isWord 66 = .ok (.aload_n 0, 1) := by decide +kernel
theorem dX7_isWord_67 : decode cX7_isWord 67 = .ok (.getfield 107, 3) := by decide +kernel
theorem dX7_isWord_70 : decode cX7_isWord 70 = .ok (.iconst 2, 1) := by decide +kernel
theorem dX7_isWord_71 : decode cX7_isWord 71 = .ok (.iadd, 1) := by decide +kernel
theorem dX7_isWord_72 : decode cX7_isWord 72 = .ok (.iaload, 1) := by decide +kernel
theorem dX7_isWord_73 : decode cX7_isWord 73 = .ok (.iload_n 3, 1) := by decide +kernel
theorem dX7_isWord_74 : decode cX7_isWord 74 = .ok (.if_icmp .ne 28, 3) := by decide +kernel
theorem dX7_isWord_77 : decode cX7_isWord 77 = .ok (.iload 4, 2) := by decide +kernel
theorem dX7_isWord_79 : decode cX7_isWord 79 = .ok (.ifCond .eq 19, 3) := by decide +kernel
theorem dX7_isWord_82 : decode cX7_isWord 82 = .ok (.aload_n 0, 1) := by decide +kernel
theorem dX7_isWord_83 : decode cX7_isWord 83 = .ok (.getfield 32, 3) := by decide +kernel
theorem dX7_isWord_86 : decode cX7_isWord 86 = .ok (.aload_n 0, 1) := by decide +kernel
theorem dX7_isWord_87 : decode cX7_isWord 87 = .ok (.getfield 107, 3) := by decide +kernel
theorem dX7_isWord_90 : decode cX7_isWord 90 = .ok (.iconst 3, 1) := by decide +kernel
theorem dX7_isWord_91 : decode cX7_isWord 91 = .ok (.iadd, 1) := by decide +kernel
theorem dX7_isWord_92 : decode cX7_isWord 92 = .ok (.iaload, 1) := by decide +kernel
theorem dX7_isWord_93 : decode cX7_isWord 93 = .ok (.iload 4, 2) := by decide +kernel
theorem dX7_isWord_95 : decode cX7_isWord 95 = .ok (.if_icmp .ne 7, 3) := by decide +kernel
theorem dX7_isWord_98 : decode cX7_isWord 98 = .ok (.iconst 1, 1) := by decide +kernel
theorem dX7_isWord_99 : decode cX7_isWord 99 = .ok (.goto 4, 3) := by decide +kernel
theorem dX7_isWord_102 : decode cX7_isWord 102 = .ok (.iconst 0, 1) := by decide +kernel
theorem dX7_isWord_103 : decode cX7_isWord 103 = .ok (.ireturn, 1) := by decide +kernel
theorem dX7_wordOf_0 : decode cX7_wordOf 0 = .ok (.aload_n 0, 1) := by decide +kernel
theorem dX7_wordOf_1 : decode cX7_wordOf 1 = .ok (.bipush 110, 2) := by decide +kernel
theorem dX7_wordOf_3 : decode cX7_wordOf 3 = .ok (.bipush 101, 2) := by decide +kernel
theorem dX7_wordOf_5 : decode cX7_wordOf 5 = .ok (.bipush 116, 2) := by decide +kernel
theorem dX7_wordOf_7 : decode cX7_wordOf 7 = .ok (.iconst 0, 1) := by decide +kernel
theorem dX7_wordOf_8 : decode cX7_wordOf 8 = .ok (.invokevirtual 134, 3) := by decide +kernel
theorem dX7_wordOf_11 : decode cX7_wordOf 11 = .ok (.ifCond .eq 7, 3) := by decide +kernel
theorem dX7_wordOf_14 : decode cX7_wordOf 14 = .ok (.iconst 0, 1) := by decide +kernel
theorem dX7_wordOf_15 : decode cX7_wordOf 15 = .ok (.goto 79, 3) := by decide +kernel
theorem dX7_wordOf_18 : decode cX7_wordOf 18 = .ok (.aload_n 0, 1) := by decide +kernel
theorem dX7_wordOf_19 : decode cX7_wordOf 19 = .ok (.bipush 97, 2) := by decide +kernel
theorem dX7_wordOf_21 : decode cX7_wordOf 21 = .ok (.bipush 114, 2) := by decide +kernel
theorem dX7_wordOf_23 : decode cX7_wordOf 23 = .ok (.bipush 99, 2) := by decide +kernel
theorem dX7_wordOf_25 : decode cX7_wordOf 25 = .ok (.iconst 0, 1) := by decide +kernel
theorem dX7_wordOf_26 : decode cX7_wordOf 26 = .ok (.invokevirtual 134, 3) := by decide +kernel
theorem dX7_wordOf_29 : decode cX7_wordOf 29 = .ok (.ifCond .eq 7, 3) := by decide +kernel
theorem dX7_wordOf_32 : decode cX7_wordOf 32 = .ok (.iconst 1, 1) := by decide +kernel
theorem dX7_wordOf_33 : decode cX7_wordOf 33 = .ok (.goto 61, 3) := by decide +kernel
theorem dX7_wordOf_36 : decode cX7_wordOf 36 = .ok (.aload_n 0, 1) := by decide +kernel
theorem dX7_wordOf_37 : decode cX7_wordOf 37 = .ok (.bipush 114, 2) := by decide +kernel
theorem dX7_wordOf_39 : decode cX7_wordOf 39 = .ok (.bipush 105, 2) := by decide +kernel
theorem dX7_wordOf_41 : decode cX7_wordOf 41 = .ok (.bipush 110, 2) := by decide +kernel
theorem dX7_wordOf_43 : decode cX7_wordOf 43 = .ok (.bipush 103, 2) := by decide +kernel
theorem dX7_wordOf_45 : decode cX7_wordOf 45 = .ok (.invokevirtual 134, 3) := by decide +kernel
theorem dX7_wordOf_48 : decode cX7_wordOf 48 = .ok (.ifCond .eq 7, 3) := by decide +kernel
theorem dX7_wordOf_51 : decode cX7_wordOf 51 = .ok (.iconst 2, 1) := by decide +kernel
theorem dX7_wordOf_52 : decode cX7_wordOf 52 = .ok (.goto 42, 3) := by decide +kernel
theorem dX7_wordOf_55 : decode cX7_wordOf 55 = .ok (.aload_n 0, 1) := by decide +kernel
theorem dX7_wordOf_56 : decode cX7_wordOf 56 = .ok (.bipush 112, 2) := by decide +kernel
theorem dX7_wordOf_58 : decode cX7_wordOf 58 = .ok (.bipush 97, 2) := by decide +kernel
theorem dX7_wordOf_60 : decode cX7_wordOf 60 = .ok (.bipush 116, 2) := by decide +kernel
theorem dX7_wordOf_62 : decode cX7_wordOf 62 = .ok (.bipush 104, 2) := by decide +kernel
theorem dX7_wordOf_64 : decode cX7_wordOf 64 = .ok (.invokevirtual 134, 3) := by decide +kernel
theorem dX7_wordOf_67 : decode cX7_wordOf 67 = .ok (.ifCond .eq 7, 3) := by decide +kernel
theorem dX7_wordOf_70 : decode cX7_wordOf 70 = .ok (.iconst 3, 1) := by decide +kernel
theorem dX7_wordOf_71 : decode cX7_wordOf 71 = .ok (.goto 23, 3) := by decide +kernel
theorem dX7_wordOf_74 : decode cX7_wordOf 74 = .ok (.aload_n 0, 1) := by decide +kernel
theorem dX7_wordOf_75 : decode cX7_wordOf 75 = .ok (.bipush 115, 2) := by decide +kernel
theorem dX7_wordOf_77 : decode cX7_wordOf 77 = .ok (.bipush 116, 2) := by decide +kernel
theorem dX7_wordOf_79 : decode cX7_wordOf 79 = .ok (.bipush 97, 2) := by decide +kernel
theorem dX7_wordOf_81 : decode cX7_wordOf 81 = .ok (.bipush 114, 2) := by decide +kernel
theorem dX7_wordOf_83 : decode cX7_wordOf 83 = .ok (.invokevirtual 134, 3) := by decide +kernel
theorem dX7_wordOf_86 : decode cX7_wordOf 86 = .ok (.ifCond .eq 7, 3) := by decide +kernel
theorem dX7_wordOf_89 : decode cX7_wordOf 89 = .ok (.iconst 4, 1) := by decide +kernel
theorem dX7_wordOf_90 : decode cX7_wordOf 90 = .ok (.goto 4, 3) := by decide +kernel
theorem dX7_wordOf_93 : decode cX7_wordOf 93 = .ok (.iconst (-1), 1) := by decide +kernel
theorem dX7_wordOf_94 : decode cX7_wordOf 94 = .ok (.ireturn, 1) := by decide +kernel
theorem dX7_takesPoint_0 : decode cX7_takesPoint 0 = .ok (.aload_n 0, 1) := by decide +kernel
theorem dX7_takesPoint_1 : decode cX7_takesPoint 1 = .ok (.iconst 0, 1) := by decide +kernel
theorem dX7_takesPoint_2 : decode cX7_takesPoint 2 = .ok (.aload_n 0, 1) := by decide +kernel
theorem dX7_takesPoint_3 : decode cX7_takesPoint 3 = .ok (.getfield 138, 3) := by decide +kernel
theorem dX7_takesPoint_6 : decode cX7_takesPoint 6 = .ok (.iconst 1, 1) := by decide +kernel
theorem dX7_takesPoint_7 : decode cX7_takesPoint 7 = .ok (.isub, 1) := by decide +kernel
theorem dX7_takesPoint_8 : decode cX7_takesPoint 8 = .ok (.invokevirtual 141, 3) := by decide +kernel
theorem dX7_takesPoint_11 : decode cX7_takesPoint 11 = .ok (.ifCond .ne 5, 3) := by decide +kernel
theorem dX7_takesPoint_14 : decode cX7_takesPoint 14 = .ok (.iconst 0, 1) := by decide +kernel
theorem dX7_takesPoint_15 : decode cX7_takesPoint 15 = .ok (.ireturn, 1) := by decide +kernel
theorem dX7_takesPoint_16 : decode cX7_takesPoint 16 = .ok (.iconst 1, 1) := by decide +kernel
theorem dX7_takesPoint_17 : decode cX7_takesPoint 17 = .ok (.istore_n 3, 1) := by decide +kernel
theorem dX7_takesPoint_18 : decode cX7_takesPoint 18 = .ok (.iload_n 3, 1) := by decide +kernel
theorem dX7_takesPoint_19 : decode cX7_takesPoint 19 = .ok (.iload_n 1, 1) := by decide +kernel
theorem dX7_takesPoint_20 : decode cX7_takesPoint 20 = .ok (.if_icmp .ge 29, 3) := by decide +kernel
theorem dX7_takesPoint_23 : decode cX7_takesPoint 23 = .ok (.aload_n 0, 1) := by decide +kernel
theorem dX7_takesPoint_24 : decode cX7_takesPoint 24 = .ok (.getfield 35, 3) := by decide +kernel
theorem dX7_takesPoint_27 : decode cX7_takesPoint 27 = .ok (.iload_n 2, 1) := by decide +kernel
theorem dX7_takesPoint_28 : decode cX7_takesPoint 28 = .ok (.iload_n 3, 1) := by decide +kernel
theorem dX7_takesPoint_29 : decode cX7_takesPoint 29 = .ok (.iadd, 1) := by decide +kernel
theorem dX7_takesPoint_30 : decode cX7_takesPoint 30 = .ok (.iaload, 1) := by decide +kernel
theorem dX7_takesPoint_31 : decode cX7_takesPoint 31 = .ok (.aload_n 0, 1) := by decide +kernel
theorem dX7_takesPoint_32 : decode cX7_takesPoint 32 = .ok (.getfield 121, 3) := by decide +kernel
theorem dX7_takesPoint_35 : decode cX7_takesPoint 35 = .ok (.if_icmp .ne 8, 3) := by decide +kernel
theorem dX7_takesPoint_38 : decode cX7_takesPoint 38 = .ok (.aload_n 0, 1) := by decide +kernel
theorem dX7_takesPoint_39 : decode cX7_takesPoint 39 = .ok (.invokevirtual 130, 3) := by decide +kernel
theorem dX7_takesPoint_42 : decode cX7_takesPoint 42 = .ok (.ireturn, 1) := by decide +kernel
theorem dX7_takesPoint_43 : decode cX7_takesPoint 43 = .ok (.iinc 3 1, 3) := by decide +kernel
theorem dX7_takesPoint_46 : decode cX7_takesPoint 46 = .ok (.goto (-28), 3) := by decide +kernel
theorem dX7_takesPoint_49 : decode cX7_takesPoint 49 = .ok (.aload_n 0, 1) := by decide +kernel
theorem dX7_takesPoint_50 : decode cX7_takesPoint 50 = .ok (.getfield 35, 3) := by decide +kernel
theorem dX7_takesPoint_53 : decode cX7_takesPoint 53 = .ok (.iload_n 2, 1) := by decide +kernel
theorem dX7_takesPoint_54 : decode cX7_takesPoint 54 = .ok (.iload_n 1, 1) := by decide +kernel
theorem dX7_takesPoint_55 : decode cX7_takesPoint 55 = .ok (.iadd, 1) := by decide +kernel
theorem dX7_takesPoint_56 : decode cX7_takesPoint 56 = .ok (.aload_n 0, 1) := by decide +kernel
theorem dX7_takesPoint_57 : decode cX7_takesPoint 57 = .ok (.getfield 121, 3) := by decide +kernel
theorem dX7_takesPoint_60 : decode cX7_takesPoint 60 = .ok (.iastore, 1) := by decide +kernel
theorem dX7_takesPoint_61 : decode cX7_takesPoint 61 = .ok (.iconst 1, 1) := by decide +kernel
theorem dX7_takesPoint_62 : decode cX7_takesPoint 62 = .ok (.ireturn, 1) := by decide +kernel
theorem dX7_readClause_0 : decode cX7_readClause 0 = .ok (.aload_n 0, 1) := by decide +kernel
theorem dX7_readClause_1 : decode cX7_readClause 1 = .ok (.invokevirtual 144, 3) := by decide +kernel
theorem dX7_readClause_4 : decode cX7_readClause 4 = .ok (.istore_n 1, 1) := by decide +kernel
theorem dX7_readClause_5 : decode cX7_readClause 5 = .ok (.iconst 4, 1) := by decide +kernel
theorem dX7_readClause_6 : decode cX7_readClause 6 = .ok (.aload_n 0, 1) := by decide +kernel
theorem dX7_readClause_7 : decode cX7_readClause 7 = .ok (.getfield 147, 3) := by decide +kernel
theorem dX7_readClause_10 : decode cX7_readClause 10 = .ok (.imul, 1) := by decide +kernel
theorem dX7_readClause_11 : decode cX7_readClause 11 = .ok (.istore_n 2, 1) := by decide +kernel
theorem dX7_readClause_12 : decode cX7_readClause 12 = .ok (.iload_n 1, 1) := by decide +kernel
theorem dX7_readClause_13 : decode cX7_readClause 13 = .ok (.ifCond .ge 8, 3) := by decide +kernel
theorem dX7_readClause_16 : decode cX7_readClause 16 = .ok (.aload_n 0, 1) := by decide +kernel
theorem dX7_readClause_17 : decode cX7_readClause 17 = .ok (.invokevirtual 130, 3) := by decide +kernel
theorem dX7_readClause_20 : decode cX7_readClause 20 = .ok (.ireturn, 1) := by decide +kernel
theorem dX7_readClause_21 : decode cX7_readClause 21 = .ok (.aload_n 0, 1) := by decide +kernel
theorem dX7_readClause_22 : decode cX7_readClause 22 = .ok (.getfield 35, 3) := by decide +kernel
theorem dX7_readClause_25 : decode cX7_readClause 25 = .ok (.iload_n 2, 1) := by decide +kernel
theorem dX7_readClause_26 : decode cX7_readClause 26 = .ok (.iload_n 1, 1) := by decide +kernel
theorem dX7_readClause_27 : decode cX7_readClause 27 = .ok (.iastore, 1) := by decide +kernel
theorem dX7_readClause_28 : decode cX7_readClause 28 = .ok (.iload_n 1, 1) := by decide +kernel
theorem dX7_readClause_29 : decode cX7_readClause 29 = .ok (.ifCond .ne 38, 3) := by decide +kernel
theorem dX7_readClause_32 : decode cX7_readClause 32 = .ok (.aload_n 0, 1) := by decide +kernel
theorem dX7_readClause_33 : decode cX7_readClause 33 = .ok (.iconst 2, 1) := by decide +kernel
theorem dX7_readClause_34 : decode cX7_readClause 34 = .ok (.bipush 10, 2) := by decide +kernel
theorem dX7_readClause_36 : decode cX7_readClause 36 = .ok (.invokevirtual 141, 3) := by decide +kernel
theorem dX7_readClause_39 : decode cX7_readClause 39 = .ok (.ifCond .ne 5, 3) := by decide +kernel
theorem dX7_readClause_42 : decode cX7_readClause 42 = .ok (.iconst 0, 1) := by decide +kernel
theorem dX7_readClause_43 : decode cX7_readClause 43 = .ok (.ireturn, 1) := by decide +kernel
theorem dX7_readClause_44 : decode cX7_readClause 44 = .ok (.aload_n 0, 1) := by decide +kernel
theorem dX7_readClause_45 : decode cX7_readClause 45 = .ok (.getfield 35, 3) := by decide +kernel
theorem dX7_readClause_48 : decode cX7_readClause 48 = .ok (.iload_n 2, 1) := by decide +kernel
theorem dX7_readClause_49 : decode cX7_readClause 49 = .ok (.iconst 1, 1) := by decide +kernel
theorem dX7_readClause_50 : decode cX7_readClause 50 = .ok (.iadd, 1) := by decide +kernel
theorem dX7_readClause_51 : decode cX7_readClause 51 = .ok (.aload_n 0, 1) := by decide +kernel
theorem dX7_readClause_52 : decode cX7_readClause 52 = .ok (.getfield 121, 3) := by decide +kernel
theorem dX7_readClause_55 : decode cX7_readClause 55 = .ok (.iastore, 1) := by decide +kernel
theorem dX7_readClause_56 : decode cX7_readClause 56 = .ok (.aload_n 0, 1) := by decide +kernel
theorem dX7_readClause_57 : decode cX7_readClause 57 = .ok (.aload_n 0, 1) := by decide +kernel
theorem dX7_readClause_58 : decode cX7_readClause 58 = .ok (.getfield 121, 3) := by decide +kernel
theorem dX7_readClause_61 : decode cX7_readClause 61 = .ok (.putfield 138, 3) := by decide +kernel
theorem dX7_readClause_64 : decode cX7_readClause 64 = .ok (.goto 36, 3) := by decide +kernel
theorem dX7_readClause_67 : decode cX7_readClause 67 = .ok (.iconst 1, 1) := by decide +kernel
theorem dX7_readClause_68 : decode cX7_readClause 68 = .ok (.istore_n 3, 1) := by decide +kernel
theorem dX7_readClause_69 : decode cX7_readClause 69 = .ok (.iload_n 3, 1) := by decide +kernel
theorem dX7_readClause_70 : decode cX7_readClause 70 = .ok (.iload_n 1, 1) := by decide +kernel
theorem dX7_readClause_71 : decode cX7_readClause 71 = .ok (.iconst 1, 1) := by decide +kernel
theorem dX7_readClause_72 : decode cX7_readClause 72 = .ok (.if_icmp .ne 7, 3) := by decide +kernel
theorem dX7_readClause_75 : decode cX7_readClause 75 = .ok (.iconst 2, 1) := by decide +kernel
theorem dX7_readClause_76 : decode cX7_readClause 76 = .ok (.goto 4, 3) := by decide +kernel
theorem dX7_readClause_79 : decode cX7_readClause 79 = .ok (.iconst 3, 1) := by decide +kernel
theorem dX7_readClause_80 : decode cX7_readClause 80 = .ok (.if_icmp .gt 20, 3) := by decide +kernel
theorem dX7_readClause_83 : decode cX7_readClause 83 = .ok (.aload_n 0, 1) := by decide +kernel
theorem dX7_readClause_84 : decode cX7_readClause 84 = .ok (.iload_n 3, 1) := by decide +kernel
theorem dX7_readClause_85 : decode cX7_readClause 85 = .ok (.iload_n 2, 1) := by decide +kernel
theorem dX7_readClause_86 : decode cX7_readClause 86 = .ok (.invokevirtual 150, 3) := by decide +kernel
theorem dX7_readClause_89 : decode cX7_readClause 89 = .ok (.ifCond .ne 5, 3) := by decide +kernel
theorem dX7_readClause_92 : decode cX7_readClause 92 = .ok (.iconst 0, 1) := by decide +kernel
theorem dX7_readClause_93 : decode cX7_readClause 93 = .ok (.ireturn, 1) := by decide +kernel
theorem dX7_readClause_94 : decode cX7_readClause 94 = .ok (.iinc 3 1, 3) := by decide +kernel
theorem dX7_readClause_97 : decode cX7_readClause 97 = .ok (.goto (-28), 3) := by decide +kernel
theorem dX7_readClause_100 : decode cX7_readClause 100 = .ok (.aload_n 0, 1) := by decide +kernel
theorem dX7_readClause_101 : decode cX7_readClause 101 = .ok (.dup, 1) := by decide +kernel
theorem dX7_readClause_102 : decode cX7_readClause 102 = .ok (.getfield 147, 3) := by decide +kernel
theorem dX7_readClause_105 : decode cX7_readClause 105 = .ok (.iconst 1, 1) := by decide +kernel
theorem dX7_readClause_106 : decode cX7_readClause 106 = .ok (.iadd, 1) := by decide +kernel
theorem dX7_readClause_107 : decode cX7_readClause 107 = .ok (.putfield 147, 3) := by decide +kernel
theorem dX7_readClause_110 : decode cX7_readClause 110 = .ok (.aload_n 0, 1) := by decide +kernel
theorem dX7_readClause_111 : decode cX7_readClause 111 = .ok (.invokevirtual 127, 3) := by decide +kernel
theorem dX7_readClause_114 : decode cX7_readClause 114 = .ok (.iconst 1, 1) := by decide +kernel
theorem dX7_readClause_115 : decode cX7_readClause 115 = .ok (.ireturn, 1) := by decide +kernel
theorem dX7_readAll_0 : decode cX7_readAll 0 = .ok (.aload_n 0, 1) := by decide +kernel
theorem dX7_readAll_1 : decode cX7_readAll 1 = .ok (.iconst 0, 1) := by decide +kernel
theorem dX7_readAll_2 : decode cX7_readAll 2 = .ok (.putfield 100, 3) := by decide +kernel
theorem dX7_readAll_5 : decode cX7_readAll 5 = .ok (.aload_n 0, 1) := by decide +kernel
theorem dX7_readAll_6 : decode cX7_readAll 6 = .ok (.iconst 0, 1) := by decide +kernel
theorem dX7_readAll_7 : decode cX7_readAll 7 = .ok (.putfield 147, 3) := by decide +kernel
theorem dX7_readAll_10 : decode cX7_readAll 10 = .ok (.aload_n 0, 1) := by decide +kernel
theorem dX7_readAll_11 : decode cX7_readAll 11 = .ok (.aload_n 0, 1) := by decide +kernel
theorem dX7_readAll_12 : decode cX7_readAll 12 = .ok (.getfield 7, 3) := by decide +kernel
theorem dX7_readAll_15 : decode cX7_readAll 15 = .ok (.putfield 138, 3) := by decide +kernel
theorem dX7_readAll_18 : decode cX7_readAll 18 = .ok (.aload_n 0, 1) := by decide +kernel
theorem dX7_readAll_19 : decode cX7_readAll 19 = .ok (.invokevirtual 127, 3) := by decide +kernel
theorem dX7_readAll_22 : decode cX7_readAll 22 = .ok (.aload_n 0, 1) := by decide +kernel
theorem dX7_readAll_23 : decode cX7_readAll 23 = .ok (.invokevirtual 153, 3) := by decide +kernel
theorem dX7_readAll_26 : decode cX7_readAll 26 = .ok (.ifCond .ne 5, 3) := by decide +kernel
theorem dX7_readAll_29 : decode cX7_readAll 29 = .ok (.iconst 0, 1) := by decide +kernel
theorem dX7_readAll_30 : decode cX7_readAll 30 = .ok (.ireturn, 1) := by decide +kernel
theorem dX7_readAll_31 : decode cX7_readAll 31 = .ok (.aload_n 0, 1) := by decide +kernel
theorem dX7_readAll_32 : decode cX7_readAll 32 = .ok (.getfield 118, 3) := by decide +kernel
theorem dX7_readAll_35 : decode cX7_readAll 35 = .ok (.sipush (-941), 3) := by decide +kernel
theorem dX7_readAll_38 : decode cX7_readAll 38 = .ok (.if_icmp .ne 25, 3) := by decide +kernel
theorem dX7_readAll_41 : decode cX7_readAll 41 = .ok (.aload_n 0, 1) := by decide +kernel
theorem dX7_readAll_42 : decode cX7_readAll 42 = .ok (.getfield 147, 3) := by decide +kernel
theorem dX7_readAll_45 : decode cX7_readAll 45 = .ok (.bipush 24, 2) := by decide +kernel
theorem dX7_readAll_47 : decode cX7_readAll 47 = .ok (.if_icmp .ge 16, 3) := by decide +kernel
theorem dX7_readAll_50 : decode cX7_readAll 50 = .ok (.aload_n 0, 1) := by decide +kernel
theorem dX7_readAll_51 : decode cX7_readAll 51 = .ok (.invokevirtual 127, 3) := by decide +kernel
theorem dX7_readAll_54 : decode cX7_readAll 54 = .ok (.aload_n 0, 1) := by decide +kernel
theorem dX7_readAll_55 : decode cX7_readAll 55 = .ok (.invokevirtual 153, 3) := by decide +kernel
theorem dX7_readAll_58 : decode cX7_readAll 58 = .ok (.ifCond .ne (-27), 3) := by decide +kernel
theorem dX7_readAll_61 : decode cX7_readAll 61 = .ok (.iconst 0, 1) := by decide +kernel
theorem dX7_readAll_62 : decode cX7_readAll 62 = .ok (.ireturn, 1) := by decide +kernel
theorem dX7_readAll_63 : decode cX7_readAll 63 = .ok (.aload_n 0, 1) := by decide +kernel
theorem dX7_readAll_64 : decode cX7_readAll 64 = .ok (.getfield 118, 3) := by decide +kernel
theorem dX7_readAll_67 : decode cX7_readAll 67 = .ok (.ifCond .eq 10, 3) := by decide +kernel
theorem dX7_readAll_70 : decode cX7_readAll 70 = .ok (.aload_n 0, 1) := by decide +kernel
theorem dX7_readAll_71 : decode cX7_readAll 71 = .ok (.invokevirtual 130, 3) := by decide +kernel
theorem dX7_readAll_74 : decode cX7_readAll 74 = .ok (.ifCond .eq 7, 3) := by decide +kernel
theorem dX7_readAll_77 : decode cX7_readAll 77 = .ok (.iconst 1, 1) := by decide +kernel
theorem dX7_readAll_78 : decode cX7_readAll 78 = .ok (.goto 4, 3) := by decide +kernel
theorem dX7_readAll_81 : decode cX7_readAll 81 = .ok (.iconst 0, 1) := by decide +kernel
theorem dX7_readAll_82 : decode cX7_readAll 82 = .ok (.ireturn, 1) := by decide +kernel
theorem dX7_fault_0 : decode cX7_fault 0 = .ok (.aload_n 0, 1) := by decide +kernel
theorem dX7_fault_1 : decode cX7_fault 1 = .ok (.invokevirtual 156, 3) := by decide +kernel
theorem dX7_fault_4 : decode cX7_fault 4 = .ok (.ifCond .eq 7, 3) := by decide +kernel
theorem dX7_fault_7 : decode cX7_fault 7 = .ok (.iconst (-1), 1) := by decide +kernel
theorem dX7_fault_8 : decode cX7_fault 8 = .ok (.goto 7, 3) := by decide +kernel
theorem dX7_fault_11 : decode cX7_fault 11 = .ok (.aload_n 0, 1) := by decide +kernel
theorem dX7_fault_12 : decode cX7_fault 12 = .ok (.getfield 124, 3) := by decide +kernel
theorem dX7_fault_15 : decode cX7_fault 15 = .ok (.ireturn, 1) := by decide +kernel
theorem dX7_putIfNew_0 : decode cX7_putIfNew 0 = .ok (.aload_n 0, 1) := by decide +kernel
theorem dX7_putIfNew_1 : decode cX7_putIfNew 1 = .ok (.getfield 13, 3) := by decide +kernel
theorem dX7_putIfNew_4 : decode cX7_putIfNew 4 = .ok (.iconst 0, 1) := by decide +kernel
theorem dX7_putIfNew_5 : decode cX7_putIfNew 5 = .ok (.iload_n 1, 1) := by decide +kernel
theorem dX7_putIfNew_6 : decode cX7_putIfNew 6 = .ok (.iadd, 1) := by decide +kernel
theorem dX7_putIfNew_7 : decode cX7_putIfNew 7 = .ok (.iaload, 1) := by decide +kernel
theorem dX7_putIfNew_8 : decode cX7_putIfNew 8 = .ok (.iload_n 2, 1) := by decide +kernel
theorem dX7_putIfNew_9 : decode cX7_putIfNew 9 = .ok (.invokestatic 78, 3) := by decide +kernel
theorem dX7_putIfNew_12 : decode cX7_putIfNew 12 = .ok (.ifCond .ne 18, 3) := by decide +kernel
theorem dX7_putIfNew_15 : decode cX7_putIfNew 15 = .ok (.aload_n 0, 1) := by decide +kernel
theorem dX7_putIfNew_16 : decode cX7_putIfNew 16 = .ok (.invokevirtual 159, 3) := by decide +kernel
theorem dX7_putIfNew_19 : decode cX7_putIfNew 19 = .ok (.bipush 40, 2) := by decide +kernel
theorem dX7_putIfNew_21 : decode cX7_putIfNew 21 = .ok (.if_icmp .ge 9, 3) := by decide +kernel
theorem dX7_putIfNew_24 : decode cX7_putIfNew 24 = .ok (.aload_n 0, 1) := by decide +kernel
theorem dX7_putIfNew_25 : decode cX7_putIfNew 25 = .ok (.iload_n 1, 1) := by decide +kernel
theorem dX7_putIfNew_26 : decode cX7_putIfNew 26 = .ok (.iload_n 2, 1) := by decide +kernel
theorem dX7_putIfNew_27 : decode cX7_putIfNew 27 = .ok (.invokevirtual 162, 3) := by decide +kernel
theorem dX7_putIfNew_30 : decode cX7_putIfNew 30 = .ok (.return_, 1) := by decide +kernel
theorem dX7_doClause_0 : decode cX7_doClause 0 = .ok (.aload_n 0, 1) := by decide +kernel
theorem dX7_doClause_1 : decode cX7_doClause 1 = .ok (.getfield 35, 3) := by decide +kernel
theorem dX7_doClause_4 : decode cX7_doClause 4 = .ok (.iload_n 1, 1) := by decide +kernel
theorem dX7_doClause_5 : decode cX7_doClause 5 = .ok (.iconst 1, 1) := by decide +kernel
theorem dX7_doClause_6 : decode cX7_doClause 6 = .ok (.iadd, 1) := by decide +kernel
theorem dX7_doClause_7 : decode cX7_doClause 7 = .ok (.iaload, 1) := by decide +kernel
theorem dX7_doClause_8 : decode cX7_doClause 8 = .ok (.istore_n 2, 1) := by decide +kernel
theorem dX7_doClause_9 : decode cX7_doClause 9 = .ok (.aload_n 0, 1) := by decide +kernel
theorem dX7_doClause_10 : decode cX7_doClause 10 = .ok (.getfield 35, 3) := by decide +kernel
theorem dX7_doClause_13 : decode cX7_doClause 13 = .ok (.iload_n 1, 1) := by decide +kernel
theorem dX7_doClause_14 : decode cX7_doClause 14 = .ok (.iconst 2, 1) := by decide +kernel
theorem dX7_doClause_15 : decode cX7_doClause 15 = .ok (.iadd, 1) := by decide +kernel
theorem dX7_doClause_16 : decode cX7_doClause 16 = .ok (.iaload, 1) := by decide +kernel
theorem dX7_doClause_17 : decode cX7_doClause 17 = .ok (.istore_n 3, 1) := by decide +kernel
theorem dX7_doClause_18 : decode cX7_doClause 18 = .ok (.aload_n 0, 1) := by decide +kernel
theorem dX7_doClause_19 : decode cX7_doClause 19 = .ok (.getfield 35, 3) := by decide +kernel
theorem dX7_doClause_22 : decode cX7_doClause 22 = .ok (.iload_n 1, 1) := by decide +kernel
theorem dX7_doClause_23 : decode cX7_doClause 23 = .ok (.iconst 3, 1) := by decide +kernel
theorem dX7_doClause_24 : decode cX7_doClause 24 = .ok (.iadd, 1) := by decide +kernel
theorem dX7_doClause_25 : decode cX7_doClause 25 = .ok (.iaload, 1) := by decide +kernel
theorem dX7_doClause_26 : decode cX7_doClause 26 = .ok (.istore 4, 2) := by decide +kernel
theorem dX7_doClause_28 : decode cX7_doClause 28 = .ok (.aload_n 0, 1) := by decide +kernel
theorem dX7_doClause_29 : decode cX7_doClause 29 = .ok (.getfield 35, 3) := by decide +kernel
theorem dX7_doClause_32 : decode cX7_doClause 32 = .ok (.iload_n 1, 1) := by decide +kernel
theorem dX7_doClause_33 : decode cX7_doClause 33 = .ok (.iaload, 1) := by decide +kernel
theorem dX7_doClause_34 : decode cX7_doClause 34 = .ok (.tableswitch 67 0 4 #[34, 42, 67, 67, 51], 34) := by decide +kernel
theorem dX7_doClause_68 : decode cX7_doClause 68 = .ok (.aload_n 0, 1) := by decide +kernel
theorem dX7_doClause_69 : decode cX7_doClause 69 = .ok (.iload_n 2, 1) := by decide +kernel
theorem dX7_doClause_70 : decode cX7_doClause 70 = .ok (.invokevirtual 59, 3) := by decide +kernel
theorem dX7_doClause_73 : decode cX7_doClause 73 = .ok (.goto 58, 3) := by decide +kernel
theorem dX7_doClause_76 : decode cX7_doClause 76 = .ok (.aload_n 0, 1) := by decide +kernel
theorem dX7_doClause_77 : decode cX7_doClause 77 = .ok (.iload_n 2, 1) := by decide +kernel
theorem dX7_doClause_78 : decode cX7_doClause 78 = .ok (.iload_n 3, 1) := by decide +kernel
theorem dX7_doClause_79 : decode cX7_doClause 79 = .ok (.invokevirtual 165, 3) := by decide +kernel
theorem dX7_doClause_82 : decode cX7_doClause 82 = .ok (.goto 49, 3) := by decide +kernel
theorem dX7_doClause_85 : decode cX7_doClause 85 = .ok (.aload_n 0, 1) := by decide +kernel
end
section
theorem dX7_doClause_86 : decode cX7_doClause 86 = .ok (.iload_n 2, 1) := by decide +kernel
theorem dX7_doClause_87 : decode cX7_doClause 87 = .ok (.iload_n 3, 1) := by decide +kernel
theorem dX7_doClause_88 : decode cX7_doClause 88 = .ok (.invokevirtual 165, 3) := by decide +kernel
theorem dX7_doClause_91 : decode cX7_doClause 91 = .ok (.aload_n 0, 1) := by decide +kernel
theorem dX7_doClause_92 : decode cX7_doClause 92 = .ok (.iload_n 2, 1) := by decide +kernel
theorem dX7_doClause_93 : decode cX7_doClause 93 = .ok (.iload 4, 2) := by decide +kernel
theorem dX7_doClause_95 : decode cX7_doClause 95 = .ok (.invokevirtual 165, 3) := by decide +kernel
theorem dX7_doClause_98 : decode cX7_doClause 98 = .ok (.goto 33, 3) := by decide +kernel
theorem dX7_doClause_101 : decode cX7_doClause 101 = .ok (.aload_n 0, 1) := by decide +kernel
theorem dX7_doClause_102 : decode cX7_doClause 102 = .ok (.iload_n 2, 1) := by decide +kernel
theorem dX7_doClause_103 : decode cX7_doClause 103 = .ok (.iload_n 3, 1) := by decide +kernel
theorem dX7_doClause_104 : decode cX7_doClause 104 = .ok (.invokevirtual 165, 3) := by decide +kernel
theorem dX7_doClause_107 : decode cX7_doClause 107 = .ok (.aload_n 0, 1) := by decide +kernel
theorem dX7_doClause_108 : decode cX7_doClause 108 = .ok (.iload_n 3, 1) := by decide +kernel
theorem dX7_doClause_109 : decode cX7_doClause 109 = .ok (.iload 4, 2) := by decide +kernel
theorem dX7_doClause_111 : decode cX7_doClause 111 = .ok (.invokevirtual 165, 3) := by decide +kernel
theorem dX7_doClause_114 : decode cX7_doClause 114 = .ok (.aload_n 0, 1) := by decide +kernel
theorem dX7_doClause_115 : decode cX7_doClause 115 = .ok (.getfield 35, 3) := by decide +kernel
theorem dX7_doClause_118 : decode cX7_doClause 118 = .ok (.iload_n 1, 1) := by decide +kernel
theorem dX7_doClause_119 : decode cX7_doClause 119 = .ok (.iaload, 1) := by decide +kernel
theorem dX7_doClause_120 : decode cX7_doClause 120 = .ok (.iconst 2, 1) := by decide +kernel
theorem dX7_doClause_121 : decode cX7_doClause 121 = .ok (.if_icmp .ne 10, 3) := by decide +kernel
theorem dX7_doClause_124 : decode cX7_doClause 124 = .ok (.aload_n 0, 1) := by decide +kernel
theorem dX7_doClause_125 : decode cX7_doClause 125 = .ok (.iload 4, 2) := by decide +kernel
theorem dX7_doClause_127 : decode cX7_doClause 127 = .ok (.iload_n 2, 1) := by decide +kernel
theorem dX7_doClause_128 : decode cX7_doClause 128 = .ok (.invokevirtual 165, 3) := by decide +kernel
theorem dX7_doClause_131 : decode cX7_doClause 131 = .ok (.return_, 1) := by decide +kernel
theorem dX7_loseChains_0 : decode cX7_loseChains 0 = .ok (.iconst 0, 1) := by decide +kernel
theorem dX7_loseChains_1 : decode cX7_loseChains 1 = .ok (.istore_n 1, 1) := by decide +kernel
theorem dX7_loseChains_2 : decode cX7_loseChains 2 = .ok (.iload_n 1, 1) := by decide +kernel
theorem dX7_loseChains_3 : decode cX7_loseChains 3 = .ok (.iconst 3, 1) := by decide +kernel
theorem dX7_loseChains_4 : decode cX7_loseChains 4 = .ok (.if_icmp .ge 16, 3) := by decide +kernel
theorem dX7_loseChains_7 : decode cX7_loseChains 7 = .ok (.aload_n 0, 1) := by decide +kernel
theorem dX7_loseChains_8 : decode cX7_loseChains 8 = .ok (.getfield 50, 3) := by decide +kernel
theorem dX7_loseChains_11 : decode cX7_loseChains 11 = .ok (.iload_n 1, 1) := by decide +kernel
theorem dX7_loseChains_12 : decode cX7_loseChains 12 = .ok (.iconst (-1), 1) := by decide +kernel
theorem dX7_loseChains_13 : decode cX7_loseChains 13 = .ok (.iastore, 1) := by decide +kernel
theorem dX7_loseChains_14 : decode cX7_loseChains 14 = .ok (.iinc 1 1, 3) := by decide +kernel
theorem dX7_loseChains_17 : decode cX7_loseChains 17 = .ok (.goto (-15), 3) := by decide +kernel
theorem dX7_loseChains_20 : decode cX7_loseChains 20 = .ok (.return_, 1) := by decide +kernel
theorem dX7_net_0 : decode cX7_net 0 = .ok (.aload_n 0, 1) := by decide +kernel
theorem dX7_net_1 : decode cX7_net 1 = .ok (.invokevirtual 156, 3) := by decide +kernel
theorem dX7_net_4 : decode cX7_net 4 = .ok (.ifCond .ne 6, 3) := by decide +kernel
theorem dX7_net_7 : decode cX7_net 7 = .ok (.bipush (-4), 2) := by decide +kernel
theorem dX7_net_9 : decode cX7_net 9 = .ok (.ireturn, 1) := by decide +kernel
theorem dX7_net_10 : decode cX7_net 10 = .ok (.iconst 0, 1) := by decide +kernel
theorem dX7_net_11 : decode cX7_net 11 = .ok (.istore_n 1, 1) := by decide +kernel
theorem dX7_net_12 : decode cX7_net 12 = .ok (.iload_n 1, 1) := by decide +kernel
theorem dX7_net_13 : decode cX7_net 13 = .ok (.aload_n 0, 1) := by decide +kernel
theorem dX7_net_14 : decode cX7_net 14 = .ok (.getfield 147, 3) := by decide +kernel
theorem dX7_net_17 : decode cX7_net 17 = .ok (.if_icmp .ge 16, 3) := by decide +kernel
theorem dX7_net_20 : decode cX7_net 20 = .ok (.aload_n 0, 1) := by decide +kernel
theorem dX7_net_21 : decode cX7_net 21 = .ok (.iconst 4, 1) := by decide +kernel
theorem dX7_net_22 : decode cX7_net 22 = .ok (.iload_n 1, 1) := by decide +kernel
theorem dX7_net_23 : decode cX7_net 23 = .ok (.imul, 1) := by decide +kernel
theorem dX7_net_24 : decode cX7_net 24 = .ok (.invokevirtual 168, 3) := by decide +kernel
theorem dX7_net_27 : decode cX7_net 27 = .ok (.iinc 1 1, 3) := by decide +kernel
theorem dX7_net_30 : decode cX7_net 30 = .ok (.goto (-18), 3) := by decide +kernel
theorem dX7_net_33 : decode cX7_net 33 = .ok (.aload_n 0, 1) := by decide +kernel
theorem dX7_net_34 : decode cX7_net 34 = .ok (.iconst 0, 1) := by decide +kernel
theorem dX7_net_35 : decode cX7_net 35 = .ok (.putfield 97, 3) := by decide +kernel
theorem dX7_net_38 : decode cX7_net 38 = .ok (.aload_n 0, 1) := by decide +kernel
theorem dX7_net_39 : decode cX7_net 39 = .ok (.iconst 0, 1) := by decide +kernel
theorem dX7_net_40 : decode cX7_net 40 = .ok (.putfield 92, 3) := by decide +kernel
theorem dX7_net_43 : decode cX7_net 43 = .ok (.aload_n 0, 1) := by decide +kernel
theorem dX7_net_44 : decode cX7_net 44 = .ok (.getfield 23, 3) := by decide +kernel
theorem dX7_net_47 : decode cX7_net 47 = .ok (.iconst 0, 1) := by decide +kernel
theorem dX7_net_48 : decode cX7_net 48 = .ok (.iconst 0, 1) := by decide +kernel
theorem dX7_net_49 : decode cX7_net 49 = .ok (.iastore, 1) := by decide +kernel
theorem dX7_net_50 : decode cX7_net 50 = .ok (.aload_n 0, 1) := by decide +kernel
theorem dX7_net_51 : decode cX7_net 51 = .ok (.getfield 23, 3) := by decide +kernel
theorem dX7_net_54 : decode cX7_net 54 = .ok (.iconst 1, 1) := by decide +kernel
theorem dX7_net_55 : decode cX7_net 55 = .ok (.iconst 0, 1) := by decide +kernel
theorem dX7_net_56 : decode cX7_net 56 = .ok (.iastore, 1) := by decide +kernel
theorem dX7_net_57 : decode cX7_net 57 = .ok (.aload_n 0, 1) := by decide +kernel
theorem dX7_net_58 : decode cX7_net 58 = .ok (.invokevirtual 63, 3) := by decide +kernel
theorem dX7_net_61 : decode cX7_net 61 = .ok (.aload_n 0, 1) := by decide +kernel
theorem dX7_net_62 : decode cX7_net 62 = .ok (.getfield 147, 3) := by decide +kernel
theorem dX7_net_65 : decode cX7_net 65 = .ok (.ireturn, 1) := by decide +kernel
theorem dX7_put_0 : decode cX7_put 0 = .ok (.aload_n 0, 1) := by decide +kernel
theorem dX7_put_1 : decode cX7_put 1 = .ok (.iload_n 1, 1) := by decide +kernel
theorem dX7_put_2 : decode cX7_put 2 = .ok (.iload_n 2, 1) := by decide +kernel
theorem dX7_put_3 : decode cX7_put 3 = .ok (.invokevirtual 74, 3) := by decide +kernel
theorem dX7_put_6 : decode cX7_put 6 = .ok (.ifCond .ne 6, 3) := by decide +kernel
theorem dX7_put_9 : decode cX7_put 9 = .ok (.bipush (-2), 2) := by decide +kernel
theorem dX7_put_11 : decode cX7_put 11 = .ok (.ireturn, 1) := by decide +kernel
theorem dX7_put_12 : decode cX7_put 12 = .ok (.aload_n 0, 1) := by decide +kernel
theorem dX7_put_13 : decode cX7_put 13 = .ok (.iload_n 1, 1) := by decide +kernel
theorem dX7_put_14 : decode cX7_put 14 = .ok (.iload_n 2, 1) := by decide +kernel
theorem dX7_put_15 : decode cX7_put 15 = .ok (.invokevirtual 171, 3) := by decide +kernel
theorem dX7_put_18 : decode cX7_put 18 = .ok (.ifCond .eq 6, 3) := by decide +kernel
theorem dX7_put_21 : decode cX7_put 21 = .ok (.bipush (-4), 2) := by decide +kernel
theorem dX7_put_23 : decode cX7_put 23 = .ok (.ireturn, 1) := by decide +kernel
theorem dX7_put_24 : decode cX7_put 24 = .ok (.aload_n 0, 1) := by decide +kernel
theorem dX7_put_25 : decode cX7_put 25 = .ok (.invokevirtual 159, 3) := by decide +kernel
theorem dX7_put_28 : decode cX7_put 28 = .ok (.bipush 40, 2) := by decide +kernel
theorem dX7_put_30 : decode cX7_put 30 = .ok (.if_icmp .ne 6, 3) := by decide +kernel
theorem dX7_put_33 : decode cX7_put 33 = .ok (.bipush (-5), 2) := by decide +kernel
theorem dX7_put_35 : decode cX7_put 35 = .ok (.ireturn, 1) := by decide +kernel
theorem dX7_put_36 : decode cX7_put 36 = .ok (.aload_n 0, 1) := by decide +kernel
theorem dX7_put_37 : decode cX7_put 37 = .ok (.invokevirtual 174, 3) := by decide +kernel
theorem dX7_put_40 : decode cX7_put 40 = .ok (.istore_n 3, 1) := by decide +kernel
theorem dX7_put_41 : decode cX7_put 41 = .ok (.aload_n 0, 1) := by decide +kernel
theorem dX7_put_42 : decode cX7_put 42 = .ok (.invokevirtual 177, 3) := by decide +kernel
theorem dX7_put_45 : decode cX7_put 45 = .ok (.aload_n 0, 1) := by decide +kernel
theorem dX7_put_46 : decode cX7_put 46 = .ok (.iload_n 1, 1) := by decide +kernel
theorem dX7_put_47 : decode cX7_put 47 = .ok (.iload_n 2, 1) := by decide +kernel
theorem dX7_put_48 : decode cX7_put 48 = .ok (.invokevirtual 162, 3) := by decide +kernel
theorem dX7_put_51 : decode cX7_put 51 = .ok (.aload_n 0, 1) := by decide +kernel
theorem dX7_put_52 : decode cX7_put 52 = .ok (.invokevirtual 174, 3) := by decide +kernel
theorem dX7_put_55 : decode cX7_put 55 = .ok (.iload_n 3, 1) := by decide +kernel
theorem dX7_put_56 : decode cX7_put 56 = .ok (.isub, 1) := by decide +kernel
theorem dX7_put_57 : decode cX7_put 57 = .ok (.ireturn, 1) := by decide +kernel
theorem dX7_stoodOn_0 : decode cX7_stoodOn 0 = .ok (.iconst 0, 1) := by decide +kernel
theorem dX7_stoodOn_1 : decode cX7_stoodOn 1 = .ok (.istore 4, 2) := by decide +kernel
theorem dX7_stoodOn_3 : decode cX7_stoodOn 3 = .ok (.iconst 0, 1) := by decide +kernel
theorem dX7_stoodOn_4 : decode cX7_stoodOn 4 = .ok (.istore 5, 2) := by decide +kernel
theorem dX7_stoodOn_6 : decode cX7_stoodOn 6 = .ok (.iload 5, 2) := by decide +kernel
theorem dX7_stoodOn_8 : decode cX7_stoodOn 8 = .ok (.aload_n 0, 1) := by decide +kernel
theorem dX7_stoodOn_9 : decode cX7_stoodOn 9 = .ok (.getfield 7, 3) := by decide +kernel
theorem dX7_stoodOn_12 : decode cX7_stoodOn 12 = .ok (.if_icmp .ge 63, 3) := by decide +kernel
theorem dX7_stoodOn_15 : decode cX7_stoodOn 15 = .ok (.aload_n 0, 1) := by decide +kernel
theorem dX7_stoodOn_16 : decode cX7_stoodOn 16 = .ok (.getfield 13, 3) := by decide +kernel
theorem dX7_stoodOn_19 : decode cX7_stoodOn 19 = .ok (.bipush 10, 2) := by decide +kernel
theorem dX7_stoodOn_21 : decode cX7_stoodOn 21 = .ok (.bipush 10, 2) := by decide +kernel
theorem dX7_stoodOn_23 : decode cX7_stoodOn 23 = .ok (.iload_n 1, 1) := by decide +kernel
theorem dX7_stoodOn_24 : decode cX7_stoodOn 24 = .ok (.imul, 1) := by decide +kernel
theorem dX7_stoodOn_25 : decode cX7_stoodOn 25 = .ok (.iadd, 1) := by decide +kernel
theorem dX7_stoodOn_26 : decode cX7_stoodOn 26 = .ok (.iload 5, 2) := by decide +kernel
theorem dX7_stoodOn_28 : decode cX7_stoodOn 28 = .ok (.iadd, 1) := by decide +kernel
theorem dX7_stoodOn_29 : decode cX7_stoodOn 29 = .ok (.iaload, 1) := by decide +kernel
theorem dX7_stoodOn_30 : decode cX7_stoodOn 30 = .ok (.iconst 2, 1) := by decide +kernel
theorem dX7_stoodOn_31 : decode cX7_stoodOn 31 = .ok (.isub, 1) := by decide +kernel
theorem dX7_stoodOn_32 : decode cX7_stoodOn 32 = .ok (.istore 6, 2) := by decide +kernel
theorem dX7_stoodOn_34 : decode cX7_stoodOn 34 = .ok (.iload 4, 2) := by decide +kernel
theorem dX7_stoodOn_36 : decode cX7_stoodOn 36 = .ok (.ifCond .ne 26, 3) := by decide +kernel
theorem dX7_stoodOn_39 : decode cX7_stoodOn 39 = .ok (.iload 6, 2) := by decide +kernel
theorem dX7_stoodOn_41 : decode cX7_stoodOn 41 = .ok (.ifCond .lt 25, 3) := by decide +kernel
theorem dX7_stoodOn_44 : decode cX7_stoodOn 44 = .ok (.iload_n 3, 1) := by decide +kernel
theorem dX7_stoodOn_45 : decode cX7_stoodOn 45 = .ok (.iload 5, 2) := by decide +kernel
theorem dX7_stoodOn_47 : decode cX7_stoodOn 47 = .ok (.invokestatic 78, 3) := by decide +kernel
theorem dX7_stoodOn_50 : decode cX7_stoodOn 50 = .ok (.ifCond .eq 16, 3) := by decide +kernel
theorem dX7_stoodOn_53 : decode cX7_stoodOn 53 = .ok (.iload_n 2, 1) := by decide +kernel
theorem dX7_stoodOn_54 : decode cX7_stoodOn 54 = .ok (.iload 6, 2) := by decide +kernel
theorem dX7_stoodOn_56 : decode cX7_stoodOn 56 = .ok (.invokestatic 78, 3) := by decide +kernel
theorem dX7_stoodOn_59 : decode cX7_stoodOn 59 = .ok (.ifCond .eq 7, 3) := by decide +kernel
theorem dX7_stoodOn_62 : decode cX7_stoodOn 62 = .ok (.iconst 1, 1) := by decide +kernel
theorem dX7_stoodOn_63 : decode cX7_stoodOn 63 = .ok (.goto 4, 3) := by decide +kernel
theorem dX7_stoodOn_66 : decode cX7_stoodOn 66 = .ok (.iconst 0, 1) := by decide +kernel
theorem dX7_stoodOn_67 : decode cX7_stoodOn 67 = .ok (.istore 4, 2) := by decide +kernel
theorem dX7_stoodOn_69 : decode cX7_stoodOn 69 = .ok (.iinc 5 1, 3) := by decide +kernel
theorem dX7_stoodOn_72 : decode cX7_stoodOn 72 = .ok (.goto (-66), 3) := by decide +kernel
theorem dX7_stoodOn_75 : decode cX7_stoodOn 75 = .ok (.iload 4, 2) := by decide +kernel
theorem dX7_stoodOn_77 : decode cX7_stoodOn 77 = .ok (.ireturn, 1) := by decide +kernel
theorem dX7_take_0 : decode cX7_take 0 = .ok (.iconst 1, 1) := by decide +kernel
theorem dX7_take_1 : decode cX7_take 1 = .ok (.aload_n 0, 1) := by decide +kernel
theorem dX7_take_2 : decode cX7_take 2 = .ok (.getfield 7, 3) := by decide +kernel
theorem dX7_take_5 : decode cX7_take 5 = .ok (.ishl, 1) := by decide +kernel
theorem dX7_take_6 : decode cX7_take 6 = .ok (.iconst 1, 1) := by decide +kernel
theorem dX7_take_7 : decode cX7_take 7 = .ok (.isub, 1) := by decide +kernel
theorem dX7_take_8 : decode cX7_take 8 = .ok (.istore_n 3, 1) := by decide +kernel
theorem dX7_take_9 : decode cX7_take 9 = .ok (.iload_n 1, 1) := by decide +kernel
theorem dX7_take_10 : decode cX7_take 10 = .ok (.iload_n 3, 1) := by decide +kernel
theorem dX7_take_11 : decode cX7_take 11 = .ok (.iconst (-1), 1) := by decide +kernel
theorem dX7_take_12 : decode cX7_take 12 = .ok (.ixor, 1) := by decide +kernel
theorem dX7_take_13 : decode cX7_take 13 = .ok (.iand, 1) := by decide +kernel
theorem dX7_take_14 : decode cX7_take 14 = .ok (.ifCond .ne 11, 3) := by decide +kernel
theorem dX7_take_17 : decode cX7_take 17 = .ok (.iload_n 2, 1) := by decide +kernel
theorem dX7_take_18 : decode cX7_take 18 = .ok (.iload_n 3, 1) := by decide +kernel
theorem dX7_take_19 : decode cX7_take 19 = .ok (.iconst (-1), 1) := by decide +kernel
theorem dX7_take_20 : decode cX7_take 20 = .ok (.ixor, 1) := by decide +kernel
theorem dX7_take_21 : decode cX7_take 21 = .ok (.iand, 1) := by decide +kernel
theorem dX7_take_22 : decode cX7_take 22 = .ok (.ifCond .eq 6, 3) := by decide +kernel
theorem dX7_take_25 : decode cX7_take 25 = .ok (.bipush (-3), 2) := by decide +kernel
theorem dX7_take_27 : decode cX7_take 27 = .ok (.ireturn, 1) := by decide +kernel
theorem dX7_take_28 : decode cX7_take 28 = .ok (.aload_n 0, 1) := by decide +kernel
theorem dX7_take_29 : decode cX7_take 29 = .ok (.invokevirtual 159, 3) := by decide +kernel
theorem dX7_take_32 : decode cX7_take 32 = .ok (.istore 4, 2) := by decide +kernel
theorem dX7_take_34 : decode cX7_take 34 = .ok (.iconst 0, 1) := by decide +kernel
theorem dX7_take_35 : decode cX7_take 35 = .ok (.istore 5, 2) := by decide +kernel
theorem dX7_take_37 : decode cX7_take 37 = .ok (.iconst 0, 1) := by decide +kernel
theorem dX7_take_38 : decode cX7_take 38 = .ok (.istore 6, 2) := by decide +kernel
theorem dX7_take_40 : decode cX7_take 40 = .ok (.iload 6, 2) := by decide +kernel
theorem dX7_take_42 : decode cX7_take 42 = .ok (.aload_n 0, 1) := by decide +kernel
theorem dX7_take_43 : decode cX7_take 43 = .ok (.getfield 7, 3) := by decide +kernel
theorem dX7_take_46 : decode cX7_take 46 = .ok (.if_icmp .ge 41, 3) := by decide +kernel
theorem dX7_take_49 : decode cX7_take 49 = .ok (.iload 5, 2) := by decide +kernel
theorem dX7_take_51 : decode cX7_take 51 = .ok (.iload_n 1, 1) := by decide +kernel
theorem dX7_take_52 : decode cX7_take 52 = .ok (.iload 6, 2) := by decide +kernel
theorem dX7_take_54 : decode cX7_take 54 = .ok (.invokestatic 78, 3) := by decide +kernel
theorem dX7_take_57 : decode cX7_take 57 = .ok (.ifCond .eq 20, 3) := by decide +kernel
theorem dX7_take_60 : decode cX7_take 60 = .ok (.aload_n 0, 1) := by decide +kernel
theorem dX7_take_61 : decode cX7_take 61 = .ok (.getfield 13, 3) := by decide +kernel
theorem dX7_take_64 : decode cX7_take 64 = .ok (.iconst 0, 1) := by decide +kernel
theorem dX7_take_65 : decode cX7_take 65 = .ok (.iload 6, 2) := by decide +kernel
theorem dX7_take_67 : decode cX7_take 67 = .ok (.iadd, 1) := by decide +kernel
theorem dX7_take_68 : decode cX7_take 68 = .ok (.iaload, 1) := by decide +kernel
theorem dX7_take_69 : decode cX7_take 69 = .ok (.iload_n 2, 1) := by decide +kernel
theorem dX7_take_70 : decode cX7_take 70 = .ok (.iand, 1) := by decide +kernel
theorem dX7_take_71 : decode cX7_take 71 = .ok (.invokestatic 81, 3) := by decide +kernel
theorem dX7_take_74 : decode cX7_take 74 = .ok (.goto 4, 3) := by decide +kernel
theorem dX7_take_77 : decode cX7_take 77 = .ok (.iconst 0, 1) := by decide +kernel
theorem dX7_take_78 : decode cX7_take 78 = .ok (.iadd, 1) := by decide +kernel
theorem dX7_take_79 : decode cX7_take 79 = .ok (.istore 5, 2) := by decide +kernel
theorem dX7_take_81 : decode cX7_take 81 = .ok (.iinc 6 1, 3) := by decide +kernel
theorem dX7_take_84 : decode cX7_take 84 = .ok (.goto (-44), 3) := by decide +kernel
theorem dX7_take_87 : decode cX7_take 87 = .ok (.iload 5, 2) := by decide +kernel
theorem dX7_take_89 : decode cX7_take 89 = .ok (.ifCond .ne 6, 3) := by decide +kernel
theorem dX7_take_92 : decode cX7_take 92 = .ok (.bipush (-4), 2) := by decide +kernel
theorem dX7_take_94 : decode cX7_take 94 = .ok (.ireturn, 1) := by decide +kernel
theorem dX7_take_95 : decode cX7_take 95 = .ok (.aload_n 0, 1) := by decide +kernel
theorem dX7_take_96 : decode cX7_take 96 = .ok (.invokevirtual 177, 3) := by decide +kernel
theorem dX7_take_99 : decode cX7_take 99 = .ok (.iconst 0, 1) := by decide +kernel
theorem dX7_take_100 : decode cX7_take 100 = .ok (.istore 6, 2) := by decide +kernel
theorem dX7_take_102 : decode cX7_take 102 = .ok (.iload 6, 2) := by decide +kernel
theorem dX7_take_104 : decode cX7_take 104 = .ok (.aload_n 0, 1) := by decide +kernel
theorem dX7_take_105 : decode cX7_take 105 = .ok (.getfield 7, 3) := by decide +kernel
theorem dX7_take_108 : decode cX7_take 108 = .ok (.if_icmp .ge 37, 3) := by decide +kernel
theorem dX7_take_111 : decode cX7_take 111 = .ok (.aload_n 0, 1) := by decide +kernel
theorem dX7_take_112 : decode cX7_take 112 = .ok (.getfield 13, 3) := by decide +kernel
theorem dX7_take_115 : decode cX7_take 115 = .ok (.iconst 0, 1) := by decide +kernel
theorem dX7_take_116 : decode cX7_take 116 = .ok (.iload 6, 2) := by decide +kernel
theorem dX7_take_118 : decode cX7_take 118 = .ok (.iadd, 1) := by decide +kernel
theorem dX7_take_119 : decode cX7_take 119 = .ok (.dup2, 1) := by decide +kernel
theorem dX7_take_120 : decode cX7_take 120 = .ok (.iaload, 1) := by decide +kernel
theorem dX7_take_121 : decode cX7_take 121 = .ok (.iload_n 1, 1) := by decide +kernel
theorem dX7_take_122 : decode cX7_take 122 = .ok (.iload 6, 2) := by decide +kernel
theorem dX7_take_124 : decode cX7_take 124 = .ok (.invokestatic 78, 3) := by decide +kernel
theorem dX7_take_127 : decode cX7_take 127 = .ok (.ifCond .eq 9, 3) := by decide +kernel
theorem dX7_take_130 : decode cX7_take 130 = .ok (.iload_n 2, 1) := by decide +kernel
theorem dX7_take_131 : decode cX7_take 131 = .ok (.iconst (-1), 1) := by decide +kernel
theorem dX7_take_132 : decode cX7_take 132 = .ok (.ixor, 1) := by decide +kernel
theorem dX7_take_133 : decode cX7_take 133 = .ok (.goto 4, 3) := by decide +kernel
theorem dX7_take_136 : decode cX7_take 136 = .ok (.iload_n 3, 1) := by decide +kernel
theorem dX7_take_137 : decode cX7_take 137 = .ok (.iand, 1) := by decide +kernel
theorem dX7_take_138 : decode cX7_take 138 = .ok (.iastore, 1) := by decide +kernel
theorem dX7_take_139 : decode cX7_take 139 = .ok (.iinc 6 1, 3) := by decide +kernel
theorem dX7_take_142 : decode cX7_take 142 = .ok (.goto (-40), 3) := by decide +kernel
theorem dX7_take_145 : decode cX7_take 145 = .ok (.iconst 0, 1) := by decide +kernel
theorem dX7_take_146 : decode cX7_take 146 = .ok (.istore 6, 2) := by decide +kernel
theorem dX7_take_148 : decode cX7_take 148 = .ok (.iload 6, 2) := by decide +kernel
theorem dX7_take_150 : decode cX7_take 150 = .ok (.aload_n 0, 1) := by decide +kernel
theorem dX7_take_151 : decode cX7_take 151 = .ok (.getfield 7, 3) := by decide +kernel
theorem dX7_take_154 : decode cX7_take 154 = .ok (.if_icmp .ge 26, 3) := by decide +kernel
theorem dX7_take_157 : decode cX7_take 157 = .ok (.aload_n 0, 1) := by decide +kernel
theorem dX7_take_158 : decode cX7_take 158 = .ok (.iload 6, 2) := by decide +kernel
theorem dX7_take_160 : decode cX7_take 160 = .ok (.iload_n 1, 1) := by decide +kernel
theorem dX7_take_161 : decode cX7_take 161 = .ok (.iload_n 2, 1) := by decide +kernel
theorem dX7_take_162 : decode cX7_take 162 = .ok (.invokevirtual 180, 3) := by decide +kernel
theorem dX7_take_165 : decode cX7_take 165 = .ok (.ifCond .eq 9, 3) := by decide +kernel
theorem dX7_take_168 : decode cX7_take 168 = .ok (.aload_n 0, 1) := by decide +kernel
theorem dX7_take_169 : decode cX7_take 169 = .ok (.iload 6, 2) := by decide +kernel
theorem dX7_take_171 : decode cX7_take 171 = .ok (.invokevirtual 184, 3) := by decide +kernel
theorem dX7_take_174 : decode cX7_take 174 = .ok (.iinc 6 1, 3) := by decide +kernel
theorem dX7_take_177 : decode cX7_take 177 = .ok (.goto (-29), 3) := by decide +kernel
theorem dX7_take_180 : decode cX7_take 180 = .ok (.iload 4, 2) := by decide +kernel
theorem dX7_take_182 : decode cX7_take 182 = .ok (.aload_n 0, 1) := by decide +kernel
theorem dX7_take_183 : decode cX7_take 183 = .ok (.invokevirtual 159, 3) := by decide +kernel
theorem dX7_take_186 : decode cX7_take 186 = .ok (.isub, 1) := by decide +kernel
theorem dX7_take_187 : decode cX7_take 187 = .ok (.ireturn, 1) := by decide +kernel
theorem dX7_clear_0 : decode cX7_clear 0 = .ok (.aload_n 0, 1) := by decide +kernel
theorem dX7_clear_1 : decode cX7_clear 1 = .ok (.getfield 13, 3) := by decide +kernel
theorem dX7_clear_4 : decode cX7_clear 4 = .ok (.bipush 110, 2) := by decide +kernel
theorem dX7_clear_6 : decode cX7_clear 6 = .ok (.iaload, 1) := by decide +kernel
theorem dX7_clear_7 : decode cX7_clear 7 = .ok (.ifCond .ne 6, 3) := by decide +kernel
theorem dX7_clear_10 : decode cX7_clear 10 = .ok (.bipush (-4), 2) := by decide +kernel
theorem dX7_clear_12 : decode cX7_clear 12 = .ok (.ireturn, 1) := by decide +kernel
theorem dX7_clear_13 : decode cX7_clear 13 = .ok (.aload_n 0, 1) := by decide +kernel
theorem dX7_clear_14 : decode cX7_clear 14 = .ok (.invokevirtual 177, 3) := by decide +kernel
theorem dX7_clear_17 : decode cX7_clear 17 = .ok (.aload_n 0, 1) := by decide +kernel
theorem dX7_clear_18 : decode cX7_clear 18 = .ok (.getfield 13, 3) := by decide +kernel
theorem dX7_clear_21 : decode cX7_clear 21 = .ok (.bipush 110, 2) := by decide +kernel
theorem dX7_clear_23 : decode cX7_clear 23 = .ok (.iaload, 1) := by decide +kernel
theorem dX7_clear_24 : decode cX7_clear 24 = .ok (.istore_n 1, 1) := by decide +kernel
theorem dX7_clear_25 : decode cX7_clear 25 = .ok (.aload_n 0, 1) := by decide +kernel
theorem dX7_clear_26 : decode cX7_clear 26 = .ok (.getfield 13, 3) := by decide +kernel
theorem dX7_clear_29 : decode cX7_clear 29 = .ok (.bipush 110, 2) := by decide +kernel
theorem dX7_clear_31 : decode cX7_clear 31 = .ok (.iconst 0, 1) := by decide +kernel
theorem dX7_clear_32 : decode cX7_clear 32 = .ok (.iastore, 1) := by decide +kernel
theorem dX7_clear_33 : decode cX7_clear 33 = .ok (.iload_n 1, 1) := by decide +kernel
theorem dX7_clear_34 : decode cX7_clear 34 = .ok (.ireturn, 1) := by decide +kernel
theorem dX7_undo_0 : decode cX7_undo 0 = .ok (.aload_n 0, 1) := by decide +kernel
theorem dX7_undo_1 : decode cX7_undo 1 = .ok (.getfield 92, 3) := by decide +kernel
theorem dX7_undo_4 : decode cX7_undo 4 = .ok (.ifCond .ne 6, 3) := by decide +kernel
theorem dX7_undo_7 : decode cX7_undo 7 = .ok (.bipush (-4), 2) := by decide +kernel
theorem dX7_undo_9 : decode cX7_undo 9 = .ok (.ireturn, 1) := by decide +kernel
theorem dX7_undo_10 : decode cX7_undo 10 = .ok (.aload_n 0, 1) := by decide +kernel
theorem dX7_undo_11 : decode cX7_undo 11 = .ok (.dup, 1) := by decide +kernel
theorem dX7_undo_12 : decode cX7_undo 12 = .ok (.getfield 92, 3) := by decide +kernel
theorem dX7_undo_15 : decode cX7_undo 15 = .ok (.iconst 1, 1) := by decide +kernel
theorem dX7_undo_16 : decode cX7_undo 16 = .ok (.isub, 1) := by decide +kernel
theorem dX7_undo_17 : decode cX7_undo 17 = .ok (.putfield 92, 3) := by decide +kernel
theorem dX7_undo_20 : decode cX7_undo 20 = .ok (.iconst 0, 1) := by decide +kernel
theorem dX7_undo_21 : decode cX7_undo 21 = .ok (.istore_n 1, 1) := by decide +kernel
theorem dX7_undo_22 : decode cX7_undo 22 = .ok (.iload_n 1, 1) := by decide +kernel
theorem dX7_undo_23 : decode cX7_undo 23 = .ok (.bipush 111, 2) := by decide +kernel
theorem dX7_undo_25 : decode cX7_undo 25 = .ok (.if_icmp .ge 29, 3) := by decide +kernel
theorem dX7_undo_28 : decode cX7_undo 28 = .ok (.aload_n 0, 1) := by decide +kernel
theorem dX7_undo_29 : decode cX7_undo 29 = .ok (.getfield 13, 3) := by decide +kernel
theorem dX7_undo_32 : decode cX7_undo 32 = .ok (.iload_n 1, 1) := by decide +kernel
theorem dX7_undo_33 : decode cX7_undo 33 = .ok (.aload_n 0, 1) := by decide +kernel
theorem dX7_undo_34 : decode cX7_undo 34 = .ok (.getfield 17, 3) := by decide +kernel
theorem dX7_undo_37 : decode cX7_undo 37 = .ok (.bipush 111, 2) := by decide +kernel
theorem dX7_undo_39 : decode cX7_undo 39 = .ok (.aload_n 0, 1) := by decide +kernel
theorem dX7_undo_40 : decode cX7_undo 40 = .ok (.getfield 92, 3) := by decide +kernel
theorem dX7_undo_43 : decode cX7_undo 43 = .ok (.imul, 1) := by decide +kernel
theorem dX7_undo_44 : decode cX7_undo 44 = .ok (.iload_n 1, 1) := by decide +kernel
theorem dX7_undo_45 : decode cX7_undo 45 = .ok (.iadd, 1) := by decide +kernel
theorem dX7_undo_46 : decode cX7_undo 46 = .ok (.iaload, 1) := by decide +kernel
theorem dX7_undo_47 : decode cX7_undo 47 = .ok (.iastore, 1) := by decide +kernel
theorem dX7_undo_48 : decode cX7_undo 48 = .ok (.iinc 1 1, 3) := by decide +kernel
theorem dX7_undo_51 : decode cX7_undo 51 = .ok (.goto (-29), 3) := by decide +kernel
theorem dX7_undo_54 : decode cX7_undo 54 = .ok (.aload_n 0, 1) := by decide +kernel
theorem dX7_undo_55 : decode cX7_undo 55 = .ok (.getfield 92, 3) := by decide +kernel
theorem dX7_undo_58 : decode cX7_undo 58 = .ok (.ireturn, 1) := by decide +kernel
theorem dX7_keep_0 : decode cX7_keep 0 = .ok (.iload_n 1, 1) := by decide +kernel
theorem dX7_keep_1 : decode cX7_keep 1 = .ok (.i2l, 1) := by decide +kernel
theorem dX7_keep_2 : decode cX7_keep 2 = .ok (.lconst 0, 1) := by decide +kernel
theorem dX7_keep_3 : decode cX7_keep 3 = .ok (.lconst 1, 1) := by decide +kernel
theorem dX7_keep_4 : decode cX7_keep 4 = .ok (.invokestatic 66, 3) := by decide +kernel
theorem dX7_keep_7 : decode cX7_keep 7 = .ok (.ifCond .ne 6, 3) := by decide +kernel
theorem dX7_keep_10 : decode cX7_keep 10 = .ok (.bipush (-2), 2) := by decide +kernel
theorem dX7_keep_12 : decode cX7_keep 12 = .ok (.ireturn, 1) := by decide +kernel
theorem dX7_keep_13 : decode cX7_keep 13 = .ok (.iconst 0, 1) := by decide +kernel
theorem dX7_keep_14 : decode cX7_keep 14 = .ok (.istore_n 2, 1) := by decide +kernel
theorem dX7_keep_15 : decode cX7_keep 15 = .ok (.iload_n 2, 1) := by decide +kernel
theorem dX7_keep_16 : decode cX7_keep 16 = .ok (.bipush 111, 2) := by decide +kernel
theorem dX7_keep_18 : decode cX7_keep 18 = .ok (.if_icmp .ge 26, 3) := by decide +kernel
theorem dX7_keep_21 : decode cX7_keep 21 = .ok (.aload_n 0, 1) := by decide +kernel
theorem dX7_keep_22 : decode cX7_keep 22 = .ok (.getfield 20, 3) := by decide +kernel
theorem dX7_keep_25 : decode cX7_keep 25 = .ok (.bipush 111, 2) := by decide +kernel
theorem dX7_keep_27 : decode cX7_keep 27 = .ok (.iload_n 1, 1) := by decide +kernel
theorem dX7_keep_28 : decode cX7_keep 28 = .ok (.imul, 1) := by decide +kernel
theorem dX7_keep_29 : decode cX7_keep 29 = .ok (.iload_n 2, 1) := by decide +kernel
theorem dX7_keep_30 : decode cX7_keep 30 = .ok (.iadd, 1) := by decide +kernel
theorem dX7_keep_31 : decode cX7_keep 31 = .ok (.aload_n 0, 1) := by decide +kernel
theorem dX7_keep_32 : decode cX7_keep 32 = .ok (.getfield 13, 3) := by decide +kernel
theorem dX7_keep_35 : decode cX7_keep 35 = .ok (.iload_n 2, 1) := by decide +kernel
theorem dX7_keep_36 : decode cX7_keep 36 = .ok (.iaload, 1) := by decide +kernel
theorem dX7_keep_37 : decode cX7_keep 37 = .ok (.iastore, 1) := by decide +kernel
theorem dX7_keep_38 : decode cX7_keep 38 = .ok (.iinc 2 1, 3) := by decide +kernel
theorem dX7_keep_41 : decode cX7_keep 41 = .ok (.goto (-26), 3) := by decide +kernel
theorem dX7_keep_44 : decode cX7_keep 44 = .ok (.aload_n 0, 1) := by decide +kernel
theorem dX7_keep_45 : decode cX7_keep 45 = .ok (.getfield 23, 3) := by decide +kernel
theorem dX7_keep_48 : decode cX7_keep 48 = .ok (.iload_n 1, 1) := by decide +kernel
theorem dX7_keep_49 : decode cX7_keep 49 = .ok (.iconst 1, 1) := by decide +kernel
theorem dX7_keep_50 : decode cX7_keep 50 = .ok (.iastore, 1) := by decide +kernel
theorem dX7_keep_51 : decode cX7_keep 51 = .ok (.aload_n 0, 1) := by decide +kernel
theorem dX7_keep_52 : decode cX7_keep 52 = .ok (.invokevirtual 159, 3) := by decide +kernel
theorem dX7_keep_55 : decode cX7_keep 55 = .ok (.ireturn, 1) := by decide +kernel
theorem dX7_back_0 : decode cX7_back 0 = .ok (.iload_n 1, 1) := by decide +kernel
theorem dX7_back_1 : decode cX7_back 1 = .ok (.i2l, 1) := by decide +kernel
theorem dX7_back_2 : decode cX7_back 2 = .ok (.lconst 0, 1) := by decide +kernel
theorem dX7_back_3 : decode cX7_back 3 = .ok (.lconst 1, 1) := by decide +kernel
theorem dX7_back_4 : decode cX7_back 4 = .ok (.invokestatic 66, 3) := by decide +kernel
theorem dX7_back_7 : decode cX7_back 7 = .ok (.ifCond .ne 6, 3) := by decide +kernel
theorem dX7_back_10 : decode cX7_back 10 = .ok (.bipush (-2), 2) := by decide +kernel
theorem dX7_back_12 : decode cX7_back 12 = .ok (.ireturn, 1) := by decide +kernel
theorem dX7_back_13 : decode cX7_back 13 = .ok (.aload_n 0, 1) := by decide +kernel
theorem dX7_back_14 : decode cX7_back 14 = .ok (.getfield 23, 3) := by decide +kernel
theorem dX7_back_17 : decode cX7_back 17 = .ok (.iload_n 1, 1) := by decide +kernel
theorem dX7_back_18 : decode cX7_back 18 = .ok (.iaload, 1) := by decide +kernel
theorem dX7_back_19 : decode cX7_back 19 = .ok (.ifCond .ne 6, 3) := by decide +kernel
theorem dX7_back_22 : decode cX7_back 22 = .ok (.bipush (-4), 2) := by decide +kernel
theorem dX7_back_24 : decode cX7_back 24 = .ok (.ireturn, 1) := by decide +kernel
theorem dX7_back_25 : decode cX7_back 25 = .ok (.iconst 0, 1) := by decide +kernel
theorem dX7_back_26 : decode cX7_back 26 = .ok (.istore_n 2, 1) := by decide +kernel
theorem dX7_back_27 : decode cX7_back 27 = .ok (.iload_n 2, 1) := by decide +kernel
theorem dX7_back_28 : decode cX7_back 28 = .ok (.bipush 111, 2) := by decide +kernel
theorem dX7_back_30 : decode cX7_back 30 = .ok (.if_icmp .ge 26, 3) := by decide +kernel
theorem dX7_back_33 : decode cX7_back 33 = .ok (.aload_n 0, 1) := by decide +kernel
theorem dX7_back_34 : decode cX7_back 34 = .ok (.getfield 13, 3) := by decide +kernel
theorem dX7_back_37 : decode cX7_back 37 = .ok (.iload_n 2, 1) := by decide +kernel
theorem dX7_back_38 : decode cX7_back 38 = .ok (.aload_n 0, 1) := by decide +kernel
theorem dX7_back_39 : decode cX7_back 39 = .ok (.getfield 20, 3) := by decide +kernel
theorem dX7_back_42 : decode cX7_back 42 = .ok (.bipush 111, 2) := by decide +kernel
theorem dX7_back_44 : decode cX7_back 44 = .ok (.iload_n 1, 1) := by decide +kernel
theorem dX7_back_45 : decode cX7_back 45 = .ok (.imul, 1) := by decide +kernel
theorem dX7_back_46 : decode cX7_back 46 = .ok (.iload_n 2, 1) := by decide +kernel
theorem dX7_back_47 : decode cX7_back 47 = .ok (.iadd, 1) := by decide +kernel
theorem dX7_back_48 : decode cX7_back 48 = .ok (.iaload, 1) := by decide +kernel
theorem dX7_back_49 : decode cX7_back 49 = .ok (.iastore, 1) := by decide +kernel
theorem dX7_back_50 : decode cX7_back 50 = .ok (.iinc 2 1, 3) := by decide +kernel
theorem dX7_back_53 : decode cX7_back 53 = .ok (.goto (-26), 3) := by decide +kernel
theorem dX7_back_56 : decode cX7_back 56 = .ok (.aload_n 0, 1) := by decide +kernel
theorem dX7_back_57 : decode cX7_back 57 = .ok (.iconst 0, 1) := by decide +kernel
theorem dX7_back_58 : decode cX7_back 58 = .ok (.putfield 92, 3) := by decide +kernel
theorem dX7_back_61 : decode cX7_back 61 = .ok (.aload_n 0, 1) := by decide +kernel
theorem dX7_back_62 : decode cX7_back 62 = .ok (.invokevirtual 159, 3) := by decide +kernel
theorem dX7_back_65 : decode cX7_back 65 = .ok (.ireturn, 1) := by decide +kernel
theorem dX7_arc_0 : decode cX7_arc 0 = .ok (.aload_n 0, 1) := by decide +kernel
theorem dX7_arc_1 : decode cX7_arc 1 = .ok (.iload_n 1, 1) := by decide +kernel
theorem dX7_arc_2 : decode cX7_arc 2 = .ok (.iload_n 2, 1) := by decide +kernel
theorem dX7_arc_3 : decode cX7_arc 3 = .ok (.invokevirtual 74, 3) := by decide +kernel
theorem dX7_arc_6 : decode cX7_arc 6 = .ok (.ifCond .ne 8, 3) := by decide +kernel
theorem dX7_arc_9 : decode cX7_arc 9 = .ok (.bipush (-2), 2) := by decide +kernel
theorem dX7_arc_11 : decode cX7_arc 11 = .ok (.goto 17, 3) := by decide +kernel
theorem dX7_arc_14 : decode cX7_arc 14 = .ok (.aload_n 0, 1) := by decide +kernel
theorem dX7_arc_15 : decode cX7_arc 15 = .ok (.iload_n 1, 1) := by decide +kernel
theorem dX7_arc_16 : decode cX7_arc 16 = .ok (.iload_n 2, 1) := by decide +kernel
theorem dX7_arc_17 : decode cX7_arc 17 = .ok (.invokevirtual 171, 3) := by decide +kernel
theorem dX7_arc_20 : decode cX7_arc 20 = .ok (.ifCond .eq 7, 3) := by decide +kernel
theorem dX7_arc_23 : decode cX7_arc 23 = .ok (.iconst 1, 1) := by decide +kernel
theorem dX7_arc_24 : decode cX7_arc 24 = .ok (.goto 4, 3) := by decide +kernel
theorem dX7_arc_27 : decode cX7_arc 27 = .ok (.iconst 0, 1) := by decide +kernel
theorem dX7_arc_28 : decode cX7_arc 28 = .ok (.ireturn, 1) := by decide +kernel
theorem dX7_reaches_0 : decode cX7_reaches 0 = .ok (.aload_n 0, 1) := by decide +kernel
theorem dX7_reaches_1 : decode cX7_reaches 1 = .ok (.iload_n 1, 1) := by decide +kernel
theorem dX7_reaches_2 : decode cX7_reaches 2 = .ok (.invokevirtual 70, 3) := by decide +kernel
theorem dX7_reaches_5 : decode cX7_reaches 5 = .ok (.ifCond .eq 11, 3) := by decide +kernel
theorem dX7_reaches_8 : decode cX7_reaches 8 = .ok (.aload_n 0, 1) := by decide +kernel
theorem dX7_reaches_9 : decode cX7_reaches 9 = .ok (.iload_n 2, 1) := by decide +kernel
theorem dX7_reaches_10 : decode cX7_reaches 10 = .ok (.invokevirtual 70, 3) := by decide +kernel
theorem dX7_reaches_13 : decode cX7_reaches 13 = .ok (.ifCond .ne 8, 3) := by decide +kernel
theorem dX7_reaches_16 : decode cX7_reaches 16 = .ok (.bipush (-2), 2) := by decide +kernel
theorem dX7_reaches_18 : decode cX7_reaches 18 = .ok (.goto 17, 3) := by decide +kernel
theorem dX7_reaches_21 : decode cX7_reaches 21 = .ok (.aload_n 0, 1) := by decide +kernel
theorem dX7_reaches_22 : decode cX7_reaches 22 = .ok (.iload_n 1, 1) := by decide +kernel
theorem dX7_reaches_23 : decode cX7_reaches 23 = .ok (.iload_n 2, 1) := by decide +kernel
theorem dX7_reaches_24 : decode cX7_reaches 24 = .ok (.invokevirtual 85, 3) := by decide +kernel
theorem dX7_reaches_27 : decode cX7_reaches 27 = .ok (.ifCond .eq 7, 3) := by decide +kernel
theorem dX7_reaches_30 : decode cX7_reaches 30 = .ok (.iconst 1, 1) := by decide +kernel
theorem dX7_reaches_31 : decode cX7_reaches 31 = .ok (.goto 4, 3) := by decide +kernel
theorem dX7_reaches_34 : decode cX7_reaches 34 = .ok (.iconst 0, 1) := by decide +kernel
theorem dX7_reaches_35 : decode cX7_reaches 35 = .ok (.ireturn, 1) := by decide +kernel
theorem dX7_aboveOf_0 : decode cX7_aboveOf 0 = .ok (.aload_n 0, 1) := by decide +kernel
theorem dX7_aboveOf_1 : decode cX7_aboveOf 1 = .ok (.getfield 13, 3) := by decide +kernel
theorem dX7_aboveOf_4 : decode cX7_aboveOf 4 = .ok (.bipush 10, 2) := by decide +kernel
theorem dX7_aboveOf_6 : decode cX7_aboveOf 6 = .ok (.bipush 10, 2) := by decide +kernel
theorem dX7_aboveOf_8 : decode cX7_aboveOf 8 = .ok (.iload_n 1, 1) := by decide +kernel
theorem dX7_aboveOf_9 : decode cX7_aboveOf 9 = .ok (.imul, 1) := by decide +kernel
theorem dX7_aboveOf_10 : decode cX7_aboveOf 10 = .ok (.iadd, 1) := by decide +kernel
theorem dX7_aboveOf_11 : decode cX7_aboveOf 11 = .ok (.iload_n 2, 1) := by decide +kernel
theorem dX7_aboveOf_12 : decode cX7_aboveOf 12 = .ok (.iadd, 1) := by decide +kernel
theorem dX7_aboveOf_13 : decode cX7_aboveOf 13 = .ok (.iaload, 1) := by decide +kernel
theorem dX7_aboveOf_14 : decode cX7_aboveOf 14 = .ok (.istore_n 3, 1) := by decide +kernel
theorem dX7_aboveOf_15 : decode cX7_aboveOf 15 = .ok (.iload_n 3, 1) := by decide +kernel
theorem dX7_aboveOf_16 : decode cX7_aboveOf 16 = .ok (.iconst 2, 1) := by decide +kernel
theorem dX7_aboveOf_17 : decode cX7_aboveOf 17 = .ok (.if_icmp .ge 7, 3) := by decide +kernel
theorem dX7_aboveOf_20 : decode cX7_aboveOf 20 = .ok (.iconst (-1), 1) := by decide +kernel
theorem dX7_aboveOf_21 : decode cX7_aboveOf 21 = .ok (.goto 6, 3) := by decide +kernel
theorem dX7_aboveOf_24 : decode cX7_aboveOf 24 = .ok (.iload_n 3, 1) := by decide +kernel
theorem dX7_aboveOf_25 : decode cX7_aboveOf 25 = .ok (.iconst 2, 1) := by decide +kernel
theorem dX7_aboveOf_26 : decode cX7_aboveOf 26 = .ok (.isub, 1) := by decide +kernel
theorem dX7_aboveOf_27 : decode cX7_aboveOf 27 = .ok (.ireturn, 1) := by decide +kernel
theorem dX7_above_0 : decode cX7_above 0 = .ok (.aload_n 0, 1) := by decide +kernel
theorem dX7_above_1 : decode cX7_above 1 = .ok (.iload_n 1, 1) := by decide +kernel
theorem dX7_above_2 : decode cX7_above 2 = .ok (.invokevirtual 70, 3) := by decide +kernel
theorem dX7_above_5 : decode cX7_above 5 = .ok (.ifCond .eq 20, 3) := by decide +kernel
theorem dX7_above_8 : decode cX7_above 8 = .ok (.aload_n 0, 1) := by decide +kernel
theorem dX7_above_9 : decode cX7_above 9 = .ok (.iload_n 2, 1) := by decide +kernel
theorem dX7_above_10 : decode cX7_above 10 = .ok (.invokevirtual 70, 3) := by decide +kernel
theorem dX7_above_13 : decode cX7_above 13 = .ok (.ifCond .eq 12, 3) := by decide +kernel
theorem dX7_above_16 : decode cX7_above 16 = .ok (.aload_n 0, 1) := by decide +kernel
theorem dX7_above_17 : decode cX7_above 17 = .ok (.iload_n 1, 1) := by decide +kernel
theorem dX7_above_18 : decode cX7_above 18 = .ok (.iload_n 2, 1) := by decide +kernel
theorem dX7_above_19 : decode cX7_above 19 = .ok (.invokevirtual 187, 3) := by decide +kernel
theorem dX7_above_22 : decode cX7_above 22 = .ok (.goto 5, 3) := by decide +kernel
theorem dX7_above_25 : decode cX7_above 25 = .ok (.bipush (-2), 2) := by decide +kernel
theorem dX7_above_27 : decode cX7_above 27 = .ok (.ireturn, 1) := by decide +kernel
theorem dX7_way_0 : decode cX7_way 0 = .ok (.aload_n 0, 1) := by decide +kernel
theorem dX7_way_1 : decode cX7_way 1 = .ok (.iload_n 1, 1) := by decide +kernel
theorem dX7_way_2 : decode cX7_way 2 = .ok (.invokevirtual 70, 3) := by decide +kernel
theorem dX7_way_5 : decode cX7_way 5 = .ok (.ifCond .eq 11, 3) := by decide +kernel
theorem dX7_way_8 : decode cX7_way 8 = .ok (.aload_n 0, 1) := by decide +kernel
theorem dX7_way_9 : decode cX7_way 9 = .ok (.iload_n 2, 1) := by decide +kernel
theorem dX7_way_10 : decode cX7_way 10 = .ok (.invokevirtual 70, 3) := by decide +kernel
theorem dX7_way_13 : decode cX7_way 13 = .ok (.ifCond .ne 6, 3) := by decide +kernel
theorem dX7_way_16 : decode cX7_way 16 = .ok (.bipush (-2), 2) := by decide +kernel
theorem dX7_way_18 : decode cX7_way 18 = .ok (.ireturn, 1) := by decide +kernel
theorem dX7_way_19 : decode cX7_way 19 = .ok (.iload_n 3, 1) := by decide +kernel
theorem dX7_way_20 : decode cX7_way 20 = .ok (.ifCond .ge 6, 3) := by decide +kernel
theorem dX7_way_23 : decode cX7_way 23 = .ok (.bipush (-3), 2) := by decide +kernel
theorem dX7_way_25 : decode cX7_way 25 = .ok (.ireturn, 1) := by decide +kernel
theorem dX7_way_26 : decode cX7_way 26 = .ok (.aload_n 0, 1) := by decide +kernel
theorem dX7_way_27 : decode cX7_way 27 = .ok (.iload_n 1, 1) := by decide +kernel
theorem dX7_way_28 : decode cX7_way 28 = .ok (.iload_n 2, 1) := by decide +kernel
theorem dX7_way_29 : decode cX7_way 29 = .ok (.invokevirtual 85, 3) := by decide +kernel
theorem dX7_way_32 : decode cX7_way 32 = .ok (.ifCond .ne 5, 3) := by decide +kernel
theorem dX7_way_35 : decode cX7_way 35 = .ok (.iconst (-1), 1) := by decide +kernel
theorem dX7_way_36 : decode cX7_way 36 = .ok (.ireturn, 1) := by decide +kernel
theorem dX7_way_37 : decode cX7_way 37 = .ok (.iconst 0, 1) := by decide +kernel
theorem dX7_way_38 : decode cX7_way 38 = .ok (.istore 4, 2) := by decide +kernel
theorem dX7_way_40 : decode cX7_way 40 = .ok (.iload_n 2, 1) := by decide +kernel
theorem dX7_way_41 : decode cX7_way 41 = .ok (.istore 5, 2) := by decide +kernel
theorem dX7_way_43 : decode cX7_way 43 = .ok (.iload 5, 2) := by decide +kernel
theorem dX7_way_45 : decode cX7_way 45 = .ok (.iload_n 1, 1) := by decide +kernel
theorem dX7_way_46 : decode cX7_way 46 = .ok (.if_icmp .eq 18, 3) := by decide +kernel
theorem dX7_way_49 : decode cX7_way 49 = .ok (.iinc 4 1, 3) := by decide +kernel
theorem dX7_way_52 : decode cX7_way 52 = .ok (.aload_n 0, 1) := by decide +kernel
theorem dX7_way_53 : decode cX7_way 53 = .ok (.iload_n 1, 1) := by decide +kernel
theorem dX7_way_54 : decode cX7_way 54 = .ok (.iload 5, 2) := by decide +kernel
theorem dX7_way_56 : decode cX7_way 56 = .ok (.invokevirtual 187, 3) := by decide +kernel
theorem dX7_way_59 : decode cX7_way 59 = .ok (.istore 5, 2) := by decide +kernel
theorem dX7_way_61 : decode cX7_way 61 = .ok (.goto (-18), 3) := by decide +kernel
theorem dX7_way_64 : decode cX7_way 64 = .ok (.iload_n 3, 1) := by decide +kernel
theorem dX7_way_65 : decode cX7_way 65 = .ok (.iload 4, 2) := by decide +kernel
theorem dX7_way_67 : decode cX7_way 67 = .ok (.if_icmp .le 5, 3) := by decide +kernel
theorem dX7_way_70 : decode cX7_way 70 = .ok (.iconst (-1), 1) := by decide +kernel
theorem dX7_way_71 : decode cX7_way 71 = .ok (.ireturn, 1) := by decide +kernel
theorem dX7_way_72 : decode cX7_way 72 = .ok (.iload_n 2, 1) := by decide +kernel
theorem dX7_way_73 : decode cX7_way 73 = .ok (.istore 5, 2) := by decide +kernel
theorem dX7_way_75 : decode cX7_way 75 = .ok (.iload 4, 2) := by decide +kernel
theorem dX7_way_77 : decode cX7_way 77 = .ok (.istore 6, 2) := by decide +kernel
theorem dX7_way_79 : decode cX7_way 79 = .ok (.iload 6, 2) := by decide +kernel
theorem dX7_way_81 : decode cX7_way 81 = .ok (.iload_n 3, 1) := by decide +kernel
theorem dX7_way_82 : decode cX7_way 82 = .ok (.if_icmp .le 18, 3) := by decide +kernel
theorem dX7_way_85 : decode cX7_way 85 = .ok (.aload_n 0, 1) := by decide +kernel
theorem dX7_way_86 : decode cX7_way 86 = .ok (.iload_n 1, 1) := by decide +kernel
theorem dX7_way_87 : decode cX7_way 87 = .ok (.iload 5, 2) := by decide +kernel
theorem dX7_way_89 : decode cX7_way 89 = .ok (.invokevirtual 187, 3) := by decide +kernel
theorem dX7_way_92 : decode cX7_way 92 = .ok (.istore 5, 2) := by decide +kernel
theorem dX7_way_94 : decode cX7_way 94 = .ok (.iinc 6 (-1), 3) := by decide +kernel
theorem dX7_way_97 : decode cX7_way 97 = .ok (.goto (-18), 3) := by decide +kernel
theorem dX7_way_100 : decode cX7_way 100 = .ok (.iload 5, 2) := by decide +kernel
theorem dX7_way_102 : decode cX7_way 102 = .ok (.ireturn, 1) := by decide +kernel
theorem dX7_treeOf_0 : decode cX7_treeOf 0 = .ok (.iconst 0, 1) := by decide +kernel
theorem dX7_treeOf_1 : decode cX7_treeOf 1 = .ok (.istore_n 2, 1) := by decide +kernel
theorem dX7_treeOf_2 : decode cX7_treeOf 2 = .ok (.iconst 0, 1) := by decide +kernel
theorem dX7_treeOf_3 : decode cX7_treeOf 3 = .ok (.istore_n 3, 1) := by decide +kernel
theorem dX7_treeOf_4 : decode cX7_treeOf 4 = .ok (.iload_n 3, 1) := by decide +kernel
theorem dX7_treeOf_5 : decode cX7_treeOf 5 = .ok (.aload_n 0, 1) := by decide +kernel
theorem dX7_treeOf_6 : decode cX7_treeOf 6 = .ok (.getfield 7, 3) := by decide +kernel
theorem dX7_treeOf_9 : decode cX7_treeOf 9 = .ok (.if_icmp .ge 28, 3) := by decide +kernel
theorem dX7_treeOf_12 : decode cX7_treeOf 12 = .ok (.iload_n 2, 1) := by decide +kernel
theorem dX7_treeOf_13 : decode cX7_treeOf 13 = .ok (.aload_n 0, 1) := by decide +kernel
theorem dX7_treeOf_14 : decode cX7_treeOf 14 = .ok (.iload_n 1, 1) := by decide +kernel
theorem dX7_treeOf_15 : decode cX7_treeOf 15 = .ok (.iload_n 3, 1) := by decide +kernel
theorem dX7_treeOf_16 : decode cX7_treeOf 16 = .ok (.invokevirtual 85, 3) := by decide +kernel
theorem dX7_treeOf_19 : decode cX7_treeOf 19 = .ok (.ifCond .eq 9, 3) := by decide +kernel
theorem dX7_treeOf_22 : decode cX7_treeOf 22 = .ok (.iconst 1, 1) := by decide +kernel
theorem dX7_treeOf_23 : decode cX7_treeOf 23 = .ok (.iload_n 3, 1) := by decide +kernel
theorem dX7_treeOf_24 : decode cX7_treeOf 24 = .ok (.ishl, 1) := by decide +kernel
theorem dX7_treeOf_25 : decode cX7_treeOf 25 = .ok (.goto 4, 3) := by decide +kernel
theorem dX7_treeOf_28 : decode cX7_treeOf 28 = .ok (.iconst 0, 1) := by decide +kernel
theorem dX7_treeOf_29 : decode cX7_treeOf 29 = .ok (.ior, 1) := by decide +kernel
theorem dX7_treeOf_30 : decode cX7_treeOf 30 = .ok (.istore_n 2, 1) := by decide +kernel
theorem dX7_treeOf_31 : decode cX7_treeOf 31 = .ok (.iinc 3 1, 3) := by decide +kernel
theorem dX7_treeOf_34 : decode cX7_treeOf 34 = .ok (.goto (-30), 3) := by decide +kernel
theorem dX7_treeOf_37 : decode cX7_treeOf 37 = .ok (.iload_n 2, 1) := by decide +kernel
theorem dX7_treeOf_38 : decode cX7_treeOf 38 = .ok (.ireturn, 1) := by decide +kernel
theorem dX7_comingTo_0 : decode cX7_comingTo 0 = .ok (.iconst 0, 1) := by decide +kernel
theorem dX7_comingTo_1 : decode cX7_comingTo 1 = .ok (.istore_n 2, 1) := by decide +kernel
theorem dX7_comingTo_2 : decode cX7_comingTo 2 = .ok (.iconst 0, 1) := by decide +kernel
theorem dX7_comingTo_3 : decode cX7_comingTo 3 = .ok (.istore_n 3, 1) := by decide +kernel
theorem dX7_comingTo_4 : decode cX7_comingTo 4 = .ok (.iload_n 3, 1) := by decide +kernel
theorem dX7_comingTo_5 : decode cX7_comingTo 5 = .ok (.aload_n 0, 1) := by decide +kernel
theorem dX7_comingTo_6 : decode cX7_comingTo 6 = .ok (.getfield 7, 3) := by decide +kernel
theorem dX7_comingTo_9 : decode cX7_comingTo 9 = .ok (.if_icmp .ge 28, 3) := by decide +kernel
theorem dX7_comingTo_12 : decode cX7_comingTo 12 = .ok (.iload_n 2, 1) := by decide +kernel
theorem dX7_comingTo_13 : decode cX7_comingTo 13 = .ok (.aload_n 0, 1) := by decide +kernel
theorem dX7_comingTo_14 : decode cX7_comingTo 14 = .ok (.iload_n 3, 1) := by decide +kernel
theorem dX7_comingTo_15 : decode cX7_comingTo 15 = .ok (.iload_n 1, 1) := by decide +kernel
theorem dX7_comingTo_16 : decode cX7_comingTo 16 = .ok (.invokevirtual 85, 3) := by decide +kernel
theorem dX7_comingTo_19 : decode cX7_comingTo 19 = .ok (.ifCond .eq 9, 3) := by decide +kernel
theorem dX7_comingTo_22 : decode cX7_comingTo 22 = .ok (.iconst 1, 1) := by decide +kernel
theorem dX7_comingTo_23 : decode cX7_comingTo 23 = .ok (.iload_n 3, 1) := by decide +kernel
theorem dX7_comingTo_24 : decode cX7_comingTo 24 = .ok (.ishl, 1) := by decide +kernel
theorem dX7_comingTo_25 : decode cX7_comingTo 25 = .ok (.goto 4, 3) := by decide +kernel
theorem dX7_comingTo_28 : decode cX7_comingTo 28 = .ok (.iconst 0, 1) := by decide +kernel
theorem dX7_comingTo_29 : decode cX7_comingTo 29 = .ok (.ior, 1) := by decide +kernel
theorem dX7_comingTo_30 : decode cX7_comingTo 30 = .ok (.istore_n 2, 1) := by decide +kernel
theorem dX7_comingTo_31 : decode cX7_comingTo 31 = .ok (.iinc 3 1, 3) := by decide +kernel
theorem dX7_comingTo_34 : decode cX7_comingTo 34 = .ok (.goto (-30), 3) := by decide +kernel
theorem dX7_comingTo_37 : decode cX7_comingTo 37 = .ok (.iload_n 2, 1) := by decide +kernel
theorem dX7_comingTo_38 : decode cX7_comingTo 38 = .ok (.ireturn, 1) := by decide +kernel
theorem dX7_ringOf_0 : decode cX7_ringOf 0 = .ok (.aload_n 0, 1) := by decide +kernel
theorem dX7_ringOf_1 : decode cX7_ringOf 1 = .ok (.iload_n 1, 1) := by decide +kernel
theorem dX7_ringOf_2 : decode cX7_ringOf 2 = .ok (.invokevirtual 191, 3) := by decide +kernel
theorem dX7_ringOf_5 : decode cX7_ringOf 5 = .ok (.aload_n 0, 1) := by decide +kernel
theorem dX7_ringOf_6 : decode cX7_ringOf 6 = .ok (.iload_n 1, 1) := by decide +kernel
theorem dX7_ringOf_7 : decode cX7_ringOf 7 = .ok (.invokevirtual 194, 3) := by decide +kernel
theorem dX7_ringOf_10 : decode cX7_ringOf 10 = .ok (.iand, 1) := by decide +kernel
theorem dX7_ringOf_11 : decode cX7_ringOf 11 = .ok (.ireturn, 1) := by decide +kernel
theorem dX7_around_0 : decode cX7_around 0 = .ok (.aload_n 0, 1) := by decide +kernel
theorem dX7_around_1 : decode cX7_around 1 = .ok (.iload_n 1, 1) := by decide +kernel
theorem dX7_around_2 : decode cX7_around 2 = .ok (.invokevirtual 70, 3) := by decide +kernel
theorem dX7_around_5 : decode cX7_around 5 = .ok (.ifCond .ne 6, 3) := by decide +kernel
theorem dX7_around_8 : decode cX7_around 8 = .ok (.bipush (-2), 2) := by decide +kernel
theorem dX7_around_10 : decode cX7_around 10 = .ok (.ireturn, 1) := by decide +kernel
theorem dX7_around_11 : decode cX7_around 11 = .ok (.iload_n 2, 1) := by decide +kernel
theorem dX7_around_12 : decode cX7_around 12 = .ok (.ifCond .ne 11, 3) := by decide +kernel
theorem dX7_around_15 : decode cX7_around 15 = .ok (.aload_n 0, 1) := by decide +kernel
theorem dX7_around_16 : decode cX7_around 16 = .ok (.iload_n 1, 1) := by decide +kernel
theorem dX7_around_17 : decode cX7_around 17 = .ok (.invokevirtual 191, 3) := by decide +kernel
theorem dX7_around_20 : decode cX7_around 20 = .ok (.goto 31, 3) := by decide +kernel
theorem dX7_around_23 : decode cX7_around 23 = .ok (.iload_n 2, 1) := by decide +kernel
theorem dX7_around_24 : decode cX7_around 24 = .ok (.iconst 1, 1) := by decide +kernel
theorem dX7_around_25 : decode cX7_around 25 = .ok (.if_icmp .ne 11, 3) := by decide +kernel
theorem dX7_around_28 : decode cX7_around 28 = .ok (.aload_n 0, 1) := by decide +kernel
theorem dX7_around_29 : decode cX7_around 29 = .ok (.iload_n 1, 1) := by decide +kernel
theorem dX7_around_30 : decode cX7_around 30 = .ok (.invokevirtual 194, 3) := by decide +kernel
theorem dX7_around_33 : decode cX7_around 33 = .ok (.goto 18, 3) := by decide +kernel
theorem dX7_around_36 : decode cX7_around 36 = .ok (.iload_n 2, 1) := by decide +kernel
theorem dX7_around_37 : decode cX7_around 37 = .ok (.iconst 2, 1) := by decide +kernel
theorem dX7_around_38 : decode cX7_around 38 = .ok (.if_icmp .ne 11, 3) := by decide +kernel
theorem dX7_around_41 : decode cX7_around 41 = .ok (.aload_n 0, 1) := by decide +kernel
theorem dX7_around_42 : decode cX7_around 42 = .ok (.iload_n 1, 1) := by decide +kernel
theorem dX7_around_43 : decode cX7_around 43 = .ok (.invokevirtual 197, 3) := by decide +kernel
theorem dX7_around_46 : decode cX7_around 46 = .ok (.goto 5, 3) := by decide +kernel
theorem dX7_around_49 : decode cX7_around 49 = .ok (.bipush (-3), 2) := by decide +kernel
theorem dX7_around_51 : decode cX7_around 51 = .ok (.ireturn, 1) := by decide +kernel
theorem dX7_without_0 : decode cX7_without 0 = .ok (.iconst 1, 1) := by decide +kernel
theorem dX7_without_1 : decode cX7_without 1 = .ok (.iload_n 1, 1) := by decide +kernel
theorem dX7_without_2 : decode cX7_without 2 = .ok (.ishl, 1) := by decide +kernel
theorem dX7_without_3 : decode cX7_without 3 = .ok (.istore 4, 2) := by decide +kernel
theorem dX7_without_5 : decode cX7_without 5 = .ok (.iconst 0, 1) := by decide +kernel
theorem dX7_without_6 : decode cX7_without 6 = .ok (.istore 5, 2) := by decide +kernel
theorem dX7_without_8 : decode cX7_without 8 = .ok (.iload 4, 2) := by decide +kernel
theorem dX7_without_10 : decode cX7_without 10 = .ok (.iload 5, 2) := by decide +kernel
theorem dX7_without_12 : decode cX7_without 12 = .ok (.if_icmp .eq 84, 3) := by decide +kernel
theorem dX7_without_15 : decode cX7_without 15 = .ok (.iload 4, 2) := by decide +kernel
theorem dX7_without_17 : decode cX7_without 17 = .ok (.istore 5, 2) := by decide +kernel
theorem dX7_without_19 : decode cX7_without 19 = .ok (.iconst 0, 1) := by decide +kernel
theorem dX7_without_20 : decode cX7_without 20 = .ok (.istore 6, 2) := by decide +kernel
theorem dX7_without_22 : decode cX7_without 22 = .ok (.iload 6, 2) := by decide +kernel
theorem dX7_without_24 : decode cX7_without 24 = .ok (.aload_n 0, 1) := by decide +kernel
theorem dX7_without_25 : decode cX7_without 25 = .ok (.getfield 7, 3) := by decide +kernel
theorem dX7_without_28 : decode cX7_without 28 = .ok (.if_icmp .ge 65, 3) := by decide +kernel
theorem dX7_without_31 : decode cX7_without 31 = .ok (.iload 6, 2) := by decide +kernel
theorem dX7_without_33 : decode cX7_without 33 = .ok (.iload_n 2, 1) := by decide +kernel
theorem dX7_without_34 : decode cX7_without 34 = .ok (.if_icmp .ne 21, 3) := by decide +kernel
theorem dX7_without_37 : decode cX7_without 37 = .ok (.aload_n 0, 1) := by decide +kernel
theorem dX7_without_38 : decode cX7_without 38 = .ok (.getfield 13, 3) := by decide +kernel
theorem dX7_without_41 : decode cX7_without 41 = .ok (.iconst 0, 1) := by decide +kernel
theorem dX7_without_42 : decode cX7_without 42 = .ok (.iload 6, 2) := by decide +kernel
theorem dX7_without_44 : decode cX7_without 44 = .ok (.iadd, 1) := by decide +kernel
theorem dX7_without_45 : decode cX7_without 45 = .ok (.iaload, 1) := by decide +kernel
theorem dX7_without_46 : decode cX7_without 46 = .ok (.iconst 1, 1) := by decide +kernel
theorem dX7_without_47 : decode cX7_without 47 = .ok (.iload_n 3, 1) := by decide +kernel
theorem dX7_without_48 : decode cX7_without 48 = .ok (.ishl, 1) := by decide +kernel
theorem dX7_without_49 : decode cX7_without 49 = .ok (.iconst (-1), 1) := by decide +kernel
theorem dX7_without_50 : decode cX7_without 50 = .ok (.ixor, 1) := by decide +kernel
theorem dX7_without_51 : decode cX7_without 51 = .ok (.iand, 1) := by decide +kernel
theorem dX7_without_52 : decode cX7_without 52 = .ok (.goto 12, 3) := by decide +kernel
theorem dX7_without_55 : decode cX7_without 55 = .ok (.aload_n 0, 1) := by decide +kernel
theorem dX7_without_56 : decode cX7_without 56 = .ok (.getfield 13, 3) := by decide +kernel
theorem dX7_without_59 : decode cX7_without 59 = .ok (.iconst 0, 1) := by decide +kernel
theorem dX7_without_60 : decode cX7_without 60 = .ok (.iload 6, 2) := by decide +kernel
theorem dX7_without_62 : decode cX7_without 62 = .ok (.iadd, 1) := by decide +kernel
theorem dX7_without_63 : decode cX7_without 63 = .ok (.iaload, 1) := by decide +kernel
theorem dX7_without_64 : decode cX7_without 64 = .ok (.istore 7, 2) := by decide +kernel
theorem dX7_without_66 : decode cX7_without 66 = .ok (.iload 4, 2) := by decide +kernel
theorem dX7_without_68 : decode cX7_without 68 = .ok (.iload 4, 2) := by decide +kernel
theorem dX7_without_70 : decode cX7_without 70 = .ok (.iload 6, 2) := by decide +kernel
theorem dX7_without_72 : decode cX7_without 72 = .ok (.invokestatic 78, 3) := by decide +kernel
theorem dX7_without_75 : decode cX7_without 75 = .ok (.ifCond .eq 8, 3) := by decide +kernel
theorem dX7_without_78 : decode cX7_without 78 = .ok (.iload 7, 2) := by decide +kernel
theorem dX7_without_80 : decode cX7_without 80 = .ok (.goto 4, 3) := by decide +kernel
theorem dX7_without_83 : decode cX7_without 83 = .ok (.iconst 0, 1) := by decide +kernel
theorem dX7_without_84 : decode cX7_without 84 = .ok (.ior, 1) := by decide +kernel
theorem dX7_without_85 : decode cX7_without 85 = .ok (.istore 4, 2) := by decide +kernel
theorem dX7_without_87 : decode cX7_without 87 = .ok (.iinc 6 1, 3) := by decide +kernel
theorem dX7_without_90 : decode cX7_without 90 = .ok (.goto (-68), 3) := by decide +kernel
theorem dX7_without_93 : decode cX7_without 93 = .ok (.goto (-85), 3) := by decide +kernel
theorem dX7_without_96 : decode cX7_without 96 = .ok (.iload 4, 2) := by decide +kernel
theorem dX7_without_98 : decode cX7_without 98 = .ok (.ireturn, 1) := by decide +kernel
theorem dX7_isNeedless_0 : decode cX7_isNeedless 0 = .ok (.aload_n 0, 1) := by decide +kernel
theorem dX7_isNeedless_1 : decode cX7_isNeedless 1 = .ok (.iload_n 1, 1) := by decide +kernel
theorem dX7_isNeedless_2 : decode cX7_isNeedless 2 = .ok (.iload_n 1, 1) := by decide +kernel
theorem dX7_isNeedless_3 : decode cX7_isNeedless 3 = .ok (.iload_n 2, 1) := by decide +kernel
theorem dX7_isNeedless_4 : decode cX7_isNeedless 4 = .ok (.invokevirtual 200, 3) := by decide +kernel
theorem dX7_isNeedless_7 : decode cX7_isNeedless 7 = .ok (.iload_n 2, 1) := by decide +kernel
theorem dX7_isNeedless_8 : decode cX7_isNeedless 8 = .ok (.invokestatic 78, 3) := by decide +kernel
theorem dX7_isNeedless_11 : decode cX7_isNeedless 11 = .ok (.ireturn, 1) := by decide +kernel
theorem dX7_needless_0 : decode cX7_needless 0 = .ok (.aload_n 0, 1) := by decide +kernel
theorem dX7_needless_1 : decode cX7_needless 1 = .ok (.iload_n 1, 1) := by decide +kernel
theorem dX7_needless_2 : decode cX7_needless 2 = .ok (.iload_n 2, 1) := by decide +kernel
theorem dX7_needless_3 : decode cX7_needless 3 = .ok (.invokevirtual 171, 3) := by decide +kernel
theorem dX7_needless_6 : decode cX7_needless 6 = .ok (.ifCond .ne 8, 3) := by decide +kernel
theorem dX7_needless_9 : decode cX7_needless 9 = .ok (.bipush (-2), 2) := by decide +kernel
theorem dX7_needless_11 : decode cX7_needless 11 = .ok (.goto 17, 3) := by decide +kernel
theorem dX7_needless_14 : decode cX7_needless 14 = .ok (.aload_n 0, 1) := by decide +kernel
theorem dX7_needless_15 : decode cX7_needless 15 = .ok (.iload_n 1, 1) := by decide +kernel
theorem dX7_needless_16 : decode cX7_needless 16 = .ok (.iload_n 2, 1) := by decide +kernel
theorem dX7_needless_17 : decode cX7_needless 17 = .ok (.invokevirtual 204, 3) := by decide +kernel
theorem dX7_needless_20 : decode cX7_needless 20 = .ok (.ifCond .eq 7, 3) := by decide +kernel
theorem dX7_needless_23 : decode cX7_needless 23 = .ok (.iconst 1, 1) := by decide +kernel
theorem dX7_needless_24 : decode cX7_needless 24 = .ok (.goto 4, 3) := by decide +kernel
theorem dX7_needless_27 : decode cX7_needless 27 = .ok (.iconst 0, 1) := by decide +kernel
theorem dX7_needless_28 : decode cX7_needless 28 = .ok (.ireturn, 1) := by decide +kernel
theorem dX7_needlessMany_0 : decode cX7_needlessMany 0 = .ok (.iconst 0, 1) := by decide +kernel
theorem dX7_needlessMany_1 : decode cX7_needlessMany 1 = .ok (.istore_n 1, 1) := by decide +kernel
theorem dX7_needlessMany_2 : decode cX7_needlessMany 2 = .ok (.iconst 0, 1) := by decide +kernel
theorem dX7_needlessMany_3 : decode cX7_needlessMany 3 = .ok (.istore_n 2, 1) := by decide +kernel
theorem dX7_needlessMany_4 : decode cX7_needlessMany 4 = .ok (.iload_n 2, 1) := by decide +kernel
theorem dX7_needlessMany_5 : decode cX7_needlessMany 5 = .ok (.aload_n 0, 1) := by decide +kernel
theorem dX7_needlessMany_6 : decode cX7_needlessMany 6 = .ok (.getfield 7, 3) := by decide +kernel
theorem dX7_needlessMany_9 : decode cX7_needlessMany 9 = .ok (.if_icmp .ge 51, 3) := by decide +kernel
theorem dX7_needlessMany_12 : decode cX7_needlessMany 12 = .ok (.iconst 0, 1) := by decide +kernel
theorem dX7_needlessMany_13 : decode cX7_needlessMany 13 = .ok (.istore_n 3, 1) := by decide +kernel
theorem dX7_needlessMany_14 : decode cX7_needlessMany 14 = .ok (.iload_n 3, 1) := by decide +kernel
theorem dX7_needlessMany_15 : decode cX7_needlessMany 15 = .ok (.aload_n 0, 1) := by decide +kernel
theorem dX7_needlessMany_16 : decode cX7_needlessMany 16 = .ok (.getfield 7, 3) := by decide +kernel
theorem dX7_needlessMany_19 : decode cX7_needlessMany 19 = .ok (.if_icmp .ge 35, 3) := by decide +kernel
theorem dX7_needlessMany_22 : decode cX7_needlessMany 22 = .ok (.iload_n 1, 1) := by decide +kernel
theorem dX7_needlessMany_23 : decode cX7_needlessMany 23 = .ok (.aload_n 0, 1) := by decide +kernel
theorem dX7_needlessMany_24 : decode cX7_needlessMany 24 = .ok (.iload_n 2, 1) := by decide +kernel
theorem dX7_needlessMany_25 : decode cX7_needlessMany 25 = .ok (.iload_n 3, 1) := by decide +kernel
theorem dX7_needlessMany_26 : decode cX7_needlessMany 26 = .ok (.invokevirtual 171, 3) := by decide +kernel
theorem dX7_needlessMany_29 : decode cX7_needlessMany 29 = .ok (.ifCond .eq 16, 3) := by decide +kernel
theorem dX7_needlessMany_32 : decode cX7_needlessMany 32 = .ok (.aload_n 0, 1) := by decide +kernel
theorem dX7_needlessMany_33 : decode cX7_needlessMany 33 = .ok (.iload_n 2, 1) := by decide +kernel
theorem dX7_needlessMany_34 : decode cX7_needlessMany 34 = .ok (.iload_n 3, 1) := by decide +kernel
theorem dX7_needlessMany_35 : decode cX7_needlessMany 35 = .ok (.invokevirtual 204, 3) := by decide +kernel
theorem dX7_needlessMany_38 : decode cX7_needlessMany 38 = .ok (.ifCond .eq 7, 3) := by decide +kernel
theorem dX7_needlessMany_41 : decode cX7_needlessMany 41 = .ok (.iconst 1, 1) := by decide +kernel
theorem dX7_needlessMany_42 : decode cX7_needlessMany 42 = .ok (.goto 4, 3) := by decide +kernel
theorem dX7_needlessMany_45 : decode cX7_needlessMany 45 = .ok (.iconst 0, 1) := by decide +kernel
theorem dX7_needlessMany_46 : decode cX7_needlessMany 46 = .ok (.iadd, 1) := by decide +kernel
theorem dX7_needlessMany_47 : decode cX7_needlessMany 47 = .ok (.istore_n 1, 1) := by decide +kernel
theorem dX7_needlessMany_48 : decode cX7_needlessMany 48 = .ok (.iinc 3 1, 3) := by decide +kernel
theorem dX7_needlessMany_51 : decode cX7_needlessMany 51 = .ok (.goto (-37), 3) := by decide +kernel
theorem dX7_needlessMany_54 : decode cX7_needlessMany 54 = .ok (.iinc 2 1, 3) := by decide +kernel
theorem dX7_needlessMany_57 : decode cX7_needlessMany 57 = .ok (.goto (-53), 3) := by decide +kernel
theorem dX7_needlessMany_60 : decode cX7_needlessMany 60 = .ok (.iload_n 1, 1) := by decide +kernel
theorem dX7_needlessMany_61 : decode cX7_needlessMany 61 = .ok (.ireturn, 1) := by decide +kernel
theorem dX7_rings_0 : decode cX7_rings 0 = .ok (.iconst 0, 1) := by decide +kernel
theorem dX7_rings_1 : decode cX7_rings 1 = .ok (.istore_n 1, 1) := by decide +kernel
theorem dX7_rings_2 : decode cX7_rings 2 = .ok (.iconst 0, 1) := by decide +kernel
theorem dX7_rings_3 : decode cX7_rings 3 = .ok (.istore_n 2, 1) := by decide +kernel
theorem dX7_rings_4 : decode cX7_rings 4 = .ok (.iload_n 2, 1) := by decide +kernel
theorem dX7_rings_5 : decode cX7_rings 5 = .ok (.aload_n 0, 1) := by decide +kernel
theorem dX7_rings_6 : decode cX7_rings 6 = .ok (.getfield 7, 3) := by decide +kernel
theorem dX7_rings_9 : decode cX7_rings 9 = .ok (.if_icmp .ge 31, 3) := by decide +kernel
theorem dX7_rings_12 : decode cX7_rings 12 = .ok (.iload_n 1, 1) := by decide +kernel
theorem dX7_rings_13 : decode cX7_rings 13 = .ok (.aload_n 0, 1) := by decide +kernel
theorem dX7_rings_14 : decode cX7_rings 14 = .ok (.iload_n 2, 1) := by decide +kernel
theorem dX7_rings_15 : decode cX7_rings 15 = .ok (.invokevirtual 197, 3) := by decide +kernel
theorem dX7_rings_18 : decode cX7_rings 18 = .ok (.iconst 1, 1) := by decide +kernel
theorem dX7_rings_19 : decode cX7_rings 19 = .ok (.iload_n 2, 1) := by decide +kernel
theorem dX7_rings_20 : decode cX7_rings 20 = .ok (.ishl, 1) := by decide +kernel
theorem dX7_rings_21 : decode cX7_rings 21 = .ok (.iconst 1, 1) := by decide +kernel
theorem dX7_rings_22 : decode cX7_rings 22 = .ok (.isub, 1) := by decide +kernel
theorem dX7_rings_23 : decode cX7_rings 23 = .ok (.iand, 1) := by decide +kernel
theorem dX7_rings_24 : decode cX7_rings 24 = .ok (.ifCond .ne 7, 3) := by decide +kernel
theorem dX7_rings_27 : decode cX7_rings 27 = .ok (.iconst 1, 1) := by decide +kernel
theorem dX7_rings_28 : decode cX7_rings 28 = .ok (.goto 4, 3) := by decide +kernel
theorem dX7_rings_31 : decode cX7_rings 31 = .ok (.iconst 0, 1) := by decide +kernel
theorem dX7_rings_32 : decode cX7_rings 32 = .ok (.iadd, 1) := by decide +kernel
theorem dX7_rings_33 : decode cX7_rings 33 = .ok (.istore_n 1, 1) := by decide +kernel
theorem dX7_rings_34 : decode cX7_rings 34 = .ok (.iinc 2 1, 3) := by decide +kernel
theorem dX7_rings_37 : decode cX7_rings 37 = .ok (.goto (-33), 3) := by decide +kernel
theorem dX7_rings_40 : decode cX7_rings 40 = .ok (.iload_n 1, 1) := by decide +kernel
theorem dX7_rings_41 : decode cX7_rings 41 = .ok (.ireturn, 1) := by decide +kernel
theorem dX7_reduced_0 : decode cX7_reduced 0 = .ok (.aload_n 0, 1) := by decide +kernel
theorem dX7_reduced_1 : decode cX7_reduced 1 = .ok (.invokevirtual 207, 3) := by decide +kernel
theorem dX7_reduced_4 : decode cX7_reduced 4 = .ok (.aload_n 0, 1) := by decide +kernel
theorem dX7_reduced_5 : decode cX7_reduced 5 = .ok (.getfield 7, 3) := by decide +kernel
theorem dX7_reduced_8 : decode cX7_reduced 8 = .ok (.if_icmp .ge 8, 3) := by decide +kernel
theorem dX7_reduced_11 : decode cX7_reduced 11 = .ok (.bipush (-4), 2) := by decide +kernel
theorem dX7_reduced_13 : decode cX7_reduced 13 = .ok (.goto 12, 3) := by decide +kernel
theorem dX7_reduced_16 : decode cX7_reduced 16 = .ok (.aload_n 0, 1) := by decide +kernel
theorem dX7_reduced_17 : decode cX7_reduced 17 = .ok (.invokevirtual 159, 3) := by decide +kernel
theorem dX7_reduced_20 : decode cX7_reduced 20 = .ok (.aload_n 0, 1) := by decide +kernel
theorem dX7_reduced_21 : decode cX7_reduced 21 = .ok (.invokevirtual 210, 3) := by decide +kernel
theorem dX7_reduced_24 : decode cX7_reduced 24 = .ok (.isub, 1) := by decide +kernel
theorem dX7_reduced_25 : decode cX7_reduced 25 = .ok (.ireturn, 1) := by decide +kernel
theorem dX7_fold_0 : decode cX7_fold 0 = .ok (.iload_n 1, 1) := by decide +kernel
theorem dX7_fold_1 : decode cX7_fold 1 = .ok (.i2l, 1) := by decide +kernel
theorem dX7_fold_2 : decode cX7_fold 2 = .ok (.lconst 0, 1) := by decide +kernel
theorem dX7_fold_3 : decode cX7_fold 3 = .ok (.ldc2_w 213, 3) := by decide +kernel
theorem dX7_fold_6 : decode cX7_fold 6 = .ok (.invokestatic 66, 3) := by decide +kernel
theorem dX7_fold_9 : decode cX7_fold 9 = .ok (.ifCond .eq 15, 3) := by decide +kernel
theorem dX7_fold_12 : decode cX7_fold 12 = .ok (.iload_n 2, 1) := by decide +kernel
theorem dX7_fold_13 : decode cX7_fold 13 = .ok (.i2l, 1) := by decide +kernel
theorem dX7_fold_14 : decode cX7_fold 14 = .ok (.lconst 0, 1) := by decide +kernel
theorem dX7_fold_15 : decode cX7_fold 15 = .ok (.ldc2_w 215, 3) := by decide +kernel
theorem dX7_fold_18 : decode cX7_fold 18 = .ok (.invokestatic 66, 3) := by decide +kernel
theorem dX7_fold_21 : decode cX7_fold 21 = .ok (.ifCond .ne 6, 3) := by decide +kernel
theorem dX7_fold_24 : decode cX7_fold 24 = .ok (.bipush (-3), 2) := by decide +kernel
theorem dX7_fold_26 : decode cX7_fold 26 = .ok (.ireturn, 1) := by decide +kernel
theorem dX7_fold_27 : decode cX7_fold 27 = .ok (.iload_n 2, 1) := by decide +kernel
theorem dX7_fold_28 : decode cX7_fold 28 = .ok (.istore_n 3, 1) := by decide +kernel
theorem dX7_fold_29 : decode cX7_fold 29 = .ok (.iconst 0, 1) := by decide +kernel
theorem dX7_fold_30 : decode cX7_fold 30 = .ok (.istore 4, 2) := by decide +kernel
theorem dX7_fold_32 : decode cX7_fold 32 = .ok (.iload 4, 2) := by decide +kernel
theorem dX7_fold_34 : decode cX7_fold 34 = .ok (.aload_n 0, 1) := by decide +kernel
theorem dX7_fold_35 : decode cX7_fold 35 = .ok (.getfield 7, 3) := by decide +kernel
theorem dX7_fold_38 : decode cX7_fold 38 = .ok (.aload_n 0, 1) := by decide +kernel
theorem dX7_fold_39 : decode cX7_fold 39 = .ok (.getfield 7, 3) := by decide +kernel
theorem dX7_fold_42 : decode cX7_fold 42 = .ok (.imul, 1) := by decide +kernel
theorem dX7_fold_43 : decode cX7_fold 43 = .ok (.if_icmp .ge 139, 3) := by decide +kernel
theorem dX7_fold_46 : decode cX7_fold 46 = .ok (.iload 4, 2) := by decide +kernel
theorem dX7_fold_48 : decode cX7_fold 48 = .ok (.aload_n 0, 1) := by decide +kernel
theorem dX7_fold_49 : decode cX7_fold 49 = .ok (.getfield 7, 3) := by decide +kernel
theorem dX7_fold_52 : decode cX7_fold 52 = .ok (.idiv, 1) := by decide +kernel
theorem dX7_fold_53 : decode cX7_fold 53 = .ok (.istore 5, 2) := by decide +kernel
theorem dX7_fold_55 : decode cX7_fold 55 = .ok (.iload 4, 2) := by decide +kernel
theorem dX7_fold_57 : decode cX7_fold 57 = .ok (.aload_n 0, 1) := by decide +kernel
theorem dX7_fold_58 : decode cX7_fold 58 = .ok (.getfield 7, 3) := by decide +kernel
theorem dX7_fold_61 : decode cX7_fold 61 = .ok (.irem, 1) := by decide +kernel
theorem dX7_fold_62 : decode cX7_fold 62 = .ok (.istore 6, 2) := by decide +kernel
theorem dX7_fold_64 : decode cX7_fold 64 = .ok (.aload_n 0, 1) := by decide +kernel
theorem dX7_fold_65 : decode cX7_fold 65 = .ok (.iload 5, 2) := by decide +kernel
theorem dX7_fold_67 : decode cX7_fold 67 = .ok (.iload 6, 2) := by decide +kernel
theorem dX7_fold_69 : decode cX7_fold 69 = .ok (.invokevirtual 85, 3) := by decide +kernel
theorem dX7_fold_72 : decode cX7_fold 72 = .ok (.istore 7, 2) := by decide +kernel
theorem dX7_fold_74 : decode cX7_fold 74 = .ok (.iload 5, 2) := by decide +kernel
theorem dX7_fold_76 : decode cX7_fold 76 = .ok (.iload 6, 2) := by decide +kernel
theorem dX7_fold_78 : decode cX7_fold 78 = .ok (.if_icmp .eq 98, 3) := by decide +kernel
theorem dX7_fold_81 : decode cX7_fold 81 = .ok (.iload_n 1, 1) := by decide +kernel
theorem dX7_fold_82 : decode cX7_fold 82 = .ok (.ifCond .ne 9, 3) := by decide +kernel
theorem dX7_fold_85 : decode cX7_fold 85 = .ok (.iload_n 3, 1) := by decide +kernel
theorem dX7_fold_86 : decode cX7_fold 86 = .ok (.iconst 1, 1) := by decide +kernel
theorem dX7_fold_87 : decode cX7_fold 87 = .ok (.iadd, 1) := by decide +kernel
theorem dX7_fold_88 : decode cX7_fold 88 = .ok (.goto 59, 3) := by decide +kernel
theorem dX7_fold_91 : decode cX7_fold 91 = .ok (.iload_n 1, 1) := by decide +kernel
theorem dX7_fold_92 : decode cX7_fold 92 = .ok (.iconst 1, 1) := by decide +kernel
theorem dX7_fold_93 : decode cX7_fold 93 = .ok (.if_icmp .ne 13, 3) := by decide +kernel
theorem dX7_fold_96 : decode cX7_fold 96 = .ok (.iload_n 3, 1) := by decide +kernel
theorem dX7_fold_97 : decode cX7_fold 97 = .ok (.iload 5, 2) := by decide +kernel
theorem dX7_fold_99 : decode cX7_fold 99 = .ok (.iadd, 1) := by decide +kernel
theorem dX7_fold_100 : decode cX7_fold 100 = .ok (.iload 6, 2) := by decide +kernel
theorem dX7_fold_102 : decode cX7_fold 102 = .ok (.iadd, 1) := by decide +kernel
theorem dX7_fold_103 : decode cX7_fold 103 = .ok (.goto 44, 3) := by decide +kernel
theorem dX7_fold_106 : decode cX7_fold 106 = .ok (.iload_n 1, 1) := by decide +kernel
theorem dX7_fold_107 : decode cX7_fold 107 = .ok (.iconst 2, 1) := by decide +kernel
theorem dX7_fold_108 : decode cX7_fold 108 = .ok (.if_icmp .ne 30, 3) := by decide +kernel
theorem dX7_fold_111 : decode cX7_fold 111 = .ok (.bipush 10, 2) := by decide +kernel
theorem dX7_fold_113 : decode cX7_fold 113 = .ok (.iload 5, 2) := by decide +kernel
theorem dX7_fold_115 : decode cX7_fold 115 = .ok (.imul, 1) := by decide +kernel
theorem dX7_fold_116 : decode cX7_fold 116 = .ok (.iload 6, 2) := by decide +kernel
theorem dX7_fold_118 : decode cX7_fold 118 = .ok (.iadd, 1) := by decide +kernel
theorem dX7_fold_119 : decode cX7_fold 119 = .ok (.iload_n 3, 1) := by decide +kernel
theorem dX7_fold_120 : decode cX7_fold 120 = .ok (.if_icmp .le 14, 3) := by decide +kernel
theorem dX7_fold_123 : decode cX7_fold 123 = .ok (.bipush 10, 2) := by decide +kernel
theorem dX7_fold_125 : decode cX7_fold 125 = .ok (.iload 5, 2) := by decide +kernel
theorem dX7_fold_127 : decode cX7_fold 127 = .ok (.imul, 1) := by decide +kernel
theorem dX7_fold_128 : decode cX7_fold 128 = .ok (.iload 6, 2) := by decide +kernel
theorem dX7_fold_130 : decode cX7_fold 130 = .ok (.iadd, 1) := by decide +kernel
theorem dX7_fold_131 : decode cX7_fold 131 = .ok (.goto 16, 3) := by decide +kernel
theorem dX7_fold_134 : decode cX7_fold 134 = .ok (.iload_n 3, 1) := by decide +kernel
theorem dX7_fold_135 : decode cX7_fold 135 = .ok (.goto 12, 3) := by decide +kernel
theorem dX7_fold_138 : decode cX7_fold 138 = .ok (.iconst 2, 1) := by decide +kernel
theorem dX7_fold_139 : decode cX7_fold 139 = .ok (.iload_n 3, 1) := by decide +kernel
theorem dX7_fold_140 : decode cX7_fold 140 = .ok (.imul, 1) := by decide +kernel
theorem dX7_fold_141 : decode cX7_fold 141 = .ok (.iconst 1, 1) := by decide +kernel
theorem dX7_fold_142 : decode cX7_fold 142 = .ok (.iadd, 1) := by decide +kernel
theorem dX7_fold_143 : decode cX7_fold 143 = .ok (.sipush 1000, 3) := by decide +kernel
theorem dX7_fold_146 : decode cX7_fold 146 = .ok (.irem, 1) := by decide +kernel
theorem dX7_fold_147 : decode cX7_fold 147 = .ok (.istore 8, 2) := by decide +kernel
theorem dX7_fold_149 : decode cX7_fold 149 = .ok (.iload 7, 2) := by decide +kernel
theorem dX7_fold_151 : decode cX7_fold 151 = .ok (.ifCond .eq 8, 3) := by decide +kernel
theorem dX7_fold_154 : decode cX7_fold 154 = .ok (.iload 8, 2) := by decide +kernel
theorem dX7_fold_156 : decode cX7_fold 156 = .ok (.goto 19, 3) := by decide +kernel
theorem dX7_fold_159 : decode cX7_fold 159 = .ok (.iload_n 1, 1) := by decide +kernel
theorem dX7_fold_160 : decode cX7_fold 160 = .ok (.iconst 3, 1) := by decide +kernel
theorem dX7_fold_161 : decode cX7_fold 161 = .ok (.if_icmp .ne 13, 3) := by decide +kernel
theorem dX7_fold_164 : decode cX7_fold 164 = .ok (.iconst 2, 1) := by decide +kernel
theorem dX7_fold_165 : decode cX7_fold 165 = .ok (.iload_n 3, 1) := by decide +kernel
theorem dX7_fold_166 : decode cX7_fold 166 = .ok (.imul, 1) := by decide +kernel
theorem dX7_fold_167 : decode cX7_fold 167 = .ok (.sipush 1000, 3) := by decide +kernel
theorem dX7_fold_170 : decode cX7_fold 170 = .ok (.irem, 1) := by decide +kernel
theorem dX7_fold_171 : decode cX7_fold 171 = .ok (.goto 4, 3) := by decide +kernel
theorem dX7_fold_174 : decode cX7_fold 174 = .ok (.iload_n 3, 1) := by decide +kernel
theorem dX7_fold_175 : decode cX7_fold 175 = .ok (.istore_n 3, 1) := by decide +kernel
theorem dX7_fold_176 : decode cX7_fold 176 = .ok (.iinc 4 1, 3) := by decide +kernel
theorem dX7_fold_179 : decode cX7_fold 179 = .ok (.goto (-147), 3) := by decide +kernel
theorem dX7_fold_182 : decode cX7_fold 182 = .ok (.iload_n 3, 1) := by decide +kernel
theorem dX7_fold_183 : decode cX7_fold 183 = .ok (.ireturn, 1) := by decide +kernel
theorem dX7_gainOf_0 : decode cX7_gainOf 0 = .ok (.iconst 0, 1) := by decide +kernel
theorem dX7_gainOf_1 : decode cX7_gainOf 1 = .ok (.istore 4, 2) := by decide +kernel
theorem dX7_gainOf_3 : decode cX7_gainOf 3 = .ok (.iload 4, 2) := by decide +kernel
theorem dX7_gainOf_5 : decode cX7_gainOf 5 = .ok (.bipush 111, 2) := by decide +kernel
theorem dX7_gainOf_7 : decode cX7_gainOf 7 = .ok (.if_icmp .ge 23, 3) := by decide +kernel
theorem dX7_gainOf_10 : decode cX7_gainOf 10 = .ok (.aload_n 0, 1) := by decide +kernel
theorem dX7_gainOf_11 : decode cX7_gainOf 11 = .ok (.getfield 38, 3) := by decide +kernel
theorem dX7_gainOf_14 : decode cX7_gainOf 14 = .ok (.iload 4, 2) := by decide +kernel
theorem dX7_gainOf_16 : decode cX7_gainOf 16 = .ok (.aload_n 0, 1) := by decide +kernel
theorem dX7_gainOf_17 : decode cX7_gainOf 17 = .ok (.getfield 13, 3) := by decide +kernel
theorem dX7_gainOf_20 : decode cX7_gainOf 20 = .ok (.iload 4, 2) := by decide +kernel
theorem dX7_gainOf_22 : decode cX7_gainOf 22 = .ok (.iaload, 1) := by decide +kernel
theorem dX7_gainOf_23 : decode cX7_gainOf 23 = .ok (.iastore, 1) := by decide +kernel
theorem dX7_gainOf_24 : decode cX7_gainOf 24 = .ok (.iinc 4 1, 3) := by decide +kernel
theorem dX7_gainOf_27 : decode cX7_gainOf 27 = .ok (.goto (-24), 3) := by decide +kernel
theorem dX7_gainOf_30 : decode cX7_gainOf 30 = .ok (.iload_n 3, 1) := by decide +kernel
theorem dX7_gainOf_31 : decode cX7_gainOf 31 = .ok (.ifCond .ne 10, 3) := by decide +kernel
theorem dX7_gainOf_34 : decode cX7_gainOf 34 = .ok (.aload_n 0, 1) := by decide +kernel
theorem dX7_gainOf_35 : decode cX7_gainOf 35 = .ok (.invokevirtual 174, 3) := by decide +kernel
theorem dX7_gainOf_38 : decode cX7_gainOf 38 = .ok (.goto 10, 3) := by decide +kernel
theorem dX7_gainOf_41 : decode cX7_gainOf 41 = .ok (.aload_n 0, 1) := by decide +kernel
theorem dX7_gainOf_42 : decode cX7_gainOf 42 = .ok (.getfield 13, 3) := by decide +kernel
theorem dX7_gainOf_45 : decode cX7_gainOf 45 = .ok (.bipush 110, 2) := by decide +kernel
theorem dX7_gainOf_47 : decode cX7_gainOf 47 = .ok (.iaload, 1) := by decide +kernel
theorem dX7_gainOf_48 : decode cX7_gainOf 48 = .ok (.istore 4, 2) := by decide +kernel
theorem dX7_gainOf_50 : decode cX7_gainOf 50 = .ok (.aload_n 0, 1) := by decide +kernel
theorem dX7_gainOf_51 : decode cX7_gainOf 51 = .ok (.iload_n 1, 1) := by decide +kernel
theorem dX7_gainOf_52 : decode cX7_gainOf 52 = .ok (.iload_n 2, 1) := by decide +kernel
theorem dX7_gainOf_53 : decode cX7_gainOf 53 = .ok (.invokevirtual 162, 3) := by decide +kernel
theorem dX7_gainOf_56 : decode cX7_gainOf 56 = .ok (.iload_n 3, 1) := by decide +kernel
theorem dX7_gainOf_57 : decode cX7_gainOf 57 = .ok (.ifCond .ne 10, 3) := by decide +kernel
theorem dX7_gainOf_60 : decode cX7_gainOf 60 = .ok (.aload_n 0, 1) := by decide +kernel
theorem dX7_gainOf_61 : decode cX7_gainOf 61 = .ok (.invokevirtual 174, 3) := by decide +kernel
theorem dX7_gainOf_64 : decode cX7_gainOf 64 = .ok (.goto 10, 3) := by decide +kernel
theorem dX7_gainOf_67 : decode cX7_gainOf 67 = .ok (.aload_n 0, 1) := by decide +kernel
theorem dX7_gainOf_68 : decode cX7_gainOf 68 = .ok (.getfield 13, 3) := by decide +kernel
theorem dX7_gainOf_71 : decode cX7_gainOf 71 = .ok (.bipush 110, 2) := by decide +kernel
theorem dX7_gainOf_73 : decode cX7_gainOf 73 = .ok (.iaload, 1) := by decide +kernel
theorem dX7_gainOf_74 : decode cX7_gainOf 74 = .ok (.iload 4, 2) := by decide +kernel
theorem dX7_gainOf_76 : decode cX7_gainOf 76 = .ok (.isub, 1) := by decide +kernel
theorem dX7_gainOf_77 : decode cX7_gainOf 77 = .ok (.istore 5, 2) := by decide +kernel
theorem dX7_gainOf_79 : decode cX7_gainOf 79 = .ok (.iconst 0, 1) := by decide +kernel
theorem dX7_gainOf_80 : decode cX7_gainOf 80 = .ok (.istore 6, 2) := by decide +kernel
theorem dX7_gainOf_82 : decode cX7_gainOf 82 = .ok (.iload 6, 2) := by decide +kernel
theorem dX7_gainOf_84 : decode cX7_gainOf 84 = .ok (.bipush 111, 2) := by decide +kernel
theorem dX7_gainOf_86 : decode cX7_gainOf 86 = .ok (.if_icmp .ge 23, 3) := by decide +kernel
theorem dX7_gainOf_89 : decode cX7_gainOf 89 = .ok (.aload_n 0, 1) := by decide +kernel
theorem dX7_gainOf_90 : decode cX7_gainOf 90 = .ok (.getfield 13, 3) := by decide +kernel
theorem dX7_gainOf_93 : decode cX7_gainOf 93 = .ok (.iload 6, 2) := by decide +kernel
theorem dX7_gainOf_95 : decode cX7_gainOf 95 = .ok (.aload_n 0, 1) := by decide +kernel
theorem dX7_gainOf_96 : decode cX7_gainOf 96 = .ok (.getfield 38, 3) := by decide +kernel
theorem dX7_gainOf_99 : decode cX7_gainOf 99 = .ok (.iload 6, 2) := by decide +kernel
theorem dX7_gainOf_101 : decode cX7_gainOf 101 = .ok (.iaload, 1) := by decide +kernel
theorem dX7_gainOf_102 : decode cX7_gainOf 102 = .ok (.iastore, 1) := by decide +kernel
theorem dX7_gainOf_103 : decode cX7_gainOf 103 = .ok (.iinc 6 1, 3) := by decide +kernel
theorem dX7_gainOf_106 : decode cX7_gainOf 106 = .ok (.goto (-24), 3) := by decide +kernel
theorem dX7_gainOf_109 : decode cX7_gainOf 109 = .ok (.iload 5, 2) := by decide +kernel
theorem dX7_gainOf_111 : decode cX7_gainOf 111 = .ok (.ireturn, 1) := by decide +kernel
theorem dX7_gain_0 : decode cX7_gain 0 = .ok (.aload_n 0, 1) := by decide +kernel
theorem dX7_gain_1 : decode cX7_gain 1 = .ok (.iload_n 1, 1) := by decide +kernel
theorem dX7_gain_2 : decode cX7_gain 2 = .ok (.iload_n 2, 1) := by decide +kernel
theorem dX7_gain_3 : decode cX7_gain 3 = .ok (.invokevirtual 74, 3) := by decide +kernel
theorem dX7_gain_6 : decode cX7_gain 6 = .ok (.ifCond .ne 6, 3) := by decide +kernel
theorem dX7_gain_9 : decode cX7_gain 9 = .ok (.bipush (-2), 2) := by decide +kernel
theorem dX7_gain_11 : decode cX7_gain 11 = .ok (.ireturn, 1) := by decide +kernel
theorem dX7_gain_12 : decode cX7_gain 12 = .ok (.iload_n 3, 1) := by decide +kernel
theorem dX7_gain_13 : decode cX7_gain 13 = .ok (.i2l, 1) := by decide +kernel
theorem dX7_gain_14 : decode cX7_gain 14 = .ok (.lconst 0, 1) := by decide +kernel
theorem dX7_gain_15 : decode cX7_gain 15 = .ok (.lconst 1, 1) := by decide +kernel
theorem dX7_gain_16 : decode cX7_gain 16 = .ok (.invokestatic 66, 3) := by decide +kernel
theorem dX7_gain_19 : decode cX7_gain 19 = .ok (.ifCond .ne 6, 3) := by decide +kernel
theorem dX7_gain_22 : decode cX7_gain 22 = .ok (.bipush (-3), 2) := by decide +kernel
theorem dX7_gain_24 : decode cX7_gain 24 = .ok (.ireturn, 1) := by decide +kernel
theorem dX7_gain_25 : decode cX7_gain 25 = .ok (.aload_n 0, 1) := by decide +kernel
theorem dX7_gain_26 : decode cX7_gain 26 = .ok (.iload_n 1, 1) := by decide +kernel
theorem dX7_gain_27 : decode cX7_gain 27 = .ok (.iload_n 2, 1) := by decide +kernel
theorem dX7_gain_28 : decode cX7_gain 28 = .ok (.invokevirtual 171, 3) := by decide +kernel
theorem dX7_gain_31 : decode cX7_gain 31 = .ok (.ifCond .eq 8, 3) := by decide +kernel
theorem dX7_gain_34 : decode cX7_gain 34 = .ok (.bipush (-4), 2) := by decide +kernel
theorem dX7_gain_36 : decode cX7_gain 36 = .ok (.goto 10, 3) := by decide +kernel
theorem dX7_gain_39 : decode cX7_gain 39 = .ok (.aload_n 0, 1) := by decide +kernel
theorem dX7_gain_40 : decode cX7_gain 40 = .ok (.iload_n 1, 1) := by decide +kernel
theorem dX7_gain_41 : decode cX7_gain 41 = .ok (.iload_n 2, 1) := by decide +kernel
theorem dX7_gain_42 : decode cX7_gain 42 = .ok (.iload_n 3, 1) := by decide +kernel
theorem dX7_gain_43 : decode cX7_gain 43 = .ok (.invokevirtual 217, 3) := by decide +kernel
theorem dX7_gain_46 : decode cX7_gain 46 = .ok (.ireturn, 1) := by decide +kernel
theorem dX7_best_0 : decode cX7_best 0 = .ok (.iconst (-1), 1) := by decide +kernel
theorem dX7_best_1 : decode cX7_best 1 = .ok (.istore_n 1, 1) := by decide +kernel
theorem dX7_best_2 : decode cX7_best 2 = .ok (.iconst (-1), 1) := by decide +kernel
theorem dX7_best_3 : decode cX7_best 3 = .ok (.istore_n 2, 1) := by decide +kernel
theorem dX7_best_4 : decode cX7_best 4 = .ok (.iconst 0, 1) := by decide +kernel
theorem dX7_best_5 : decode cX7_best 5 = .ok (.istore_n 3, 1) := by decide +kernel
theorem dX7_best_6 : decode cX7_best 6 = .ok (.iload_n 3, 1) := by decide +kernel
theorem dX7_best_7 : decode cX7_best 7 = .ok (.aload_n 0, 1) := by decide +kernel
theorem dX7_best_8 : decode cX7_best 8 = .ok (.getfield 7, 3) := by decide +kernel
theorem dX7_best_11 : decode cX7_best 11 = .ok (.if_icmp .ge 88, 3) := by decide +kernel
theorem dX7_best_14 : decode cX7_best 14 = .ok (.iconst 0, 1) := by decide +kernel
theorem dX7_best_15 : decode cX7_best 15 = .ok (.istore 4, 2) := by decide +kernel
theorem dX7_best_17 : decode cX7_best 17 = .ok (.iload 4, 2) := by decide +kernel
theorem dX7_best_19 : decode cX7_best 19 = .ok (.aload_n 0, 1) := by decide +kernel
theorem dX7_best_20 : decode cX7_best 20 = .ok (.getfield 7, 3) := by decide +kernel
theorem dX7_best_23 : decode cX7_best 23 = .ok (.if_icmp .ge 70, 3) := by decide +kernel
theorem dX7_best_26 : decode cX7_best 26 = .ok (.iload_n 3, 1) := by decide +kernel
theorem dX7_best_27 : decode cX7_best 27 = .ok (.iload 4, 2) := by decide +kernel
theorem dX7_best_29 : decode cX7_best 29 = .ok (.if_icmp .eq 24, 3) := by decide +kernel
theorem dX7_best_32 : decode cX7_best 32 = .ok (.aload_n 0, 1) := by decide +kernel
theorem dX7_best_33 : decode cX7_best 33 = .ok (.iload_n 3, 1) := by decide +kernel
theorem dX7_best_34 : decode cX7_best 34 = .ok (.iload 4, 2) := by decide +kernel
theorem dX7_best_36 : decode cX7_best 36 = .ok (.invokevirtual 171, 3) := by decide +kernel
theorem dX7_best_39 : decode cX7_best 39 = .ok (.ifCond .ne 14, 3) := by decide +kernel
theorem dX7_best_42 : decode cX7_best 42 = .ok (.aload_n 0, 1) := by decide +kernel
theorem dX7_best_43 : decode cX7_best 43 = .ok (.iload_n 3, 1) := by decide +kernel
theorem dX7_best_44 : decode cX7_best 44 = .ok (.iload 4, 2) := by decide +kernel
theorem dX7_best_46 : decode cX7_best 46 = .ok (.iconst 0, 1) := by decide +kernel
theorem dX7_best_47 : decode cX7_best 47 = .ok (.invokevirtual 217, 3) := by decide +kernel
theorem dX7_best_50 : decode cX7_best 50 = .ok (.goto 4, 3) := by decide +kernel
theorem dX7_best_53 : decode cX7_best 53 = .ok (.iconst (-1), 1) := by decide +kernel
theorem dX7_best_54 : decode cX7_best 54 = .ok (.istore 5, 2) := by decide +kernel
theorem dX7_best_56 : decode cX7_best 56 = .ok (.iload 5, 2) := by decide +kernel
theorem dX7_best_58 : decode cX7_best 58 = .ok (.iload_n 2, 1) := by decide +kernel
theorem dX7_best_59 : decode cX7_best 59 = .ok (.if_icmp .le 13, 3) := by decide +kernel
theorem dX7_best_62 : decode cX7_best 62 = .ok (.bipush 10, 2) := by decide +kernel
theorem dX7_best_64 : decode cX7_best 64 = .ok (.iload_n 3, 1) := by decide +kernel
theorem dX7_best_65 : decode cX7_best 65 = .ok (.imul, 1) := by decide +kernel
theorem dX7_best_66 : decode cX7_best 66 = .ok (.iload 4, 2) := by decide +kernel
theorem dX7_best_68 : decode cX7_best 68 = .ok (.iadd, 1) := by decide +kernel
theorem dX7_best_69 : decode cX7_best 69 = .ok (.goto 4, 3) := by decide +kernel
theorem dX7_best_72 : decode cX7_best 72 = .ok (.iload_n 1, 1) := by decide +kernel
theorem dX7_best_73 : decode cX7_best 73 = .ok (.istore_n 1, 1) := by decide +kernel
theorem dX7_best_74 : decode cX7_best 74 = .ok (.iload 5, 2) := by decide +kernel
theorem dX7_best_76 : decode cX7_best 76 = .ok (.iload_n 2, 1) := by decide +kernel
theorem dX7_best_77 : decode cX7_best 77 = .ok (.if_icmp .le 8, 3) := by decide +kernel
theorem dX7_best_80 : decode cX7_best 80 = .ok (.iload 5, 2) := by decide +kernel
theorem dX7_best_82 : decode cX7_best 82 = .ok (.goto 4, 3) := by decide +kernel
theorem dX7_best_85 : decode cX7_best 85 = .ok (.iload_n 2, 1) := by decide +kernel
theorem dX7_best_86 : decode cX7_best 86 = .ok (.istore_n 2, 1) := by decide +kernel
theorem dX7_best_87 : decode cX7_best 87 = .ok (.iinc 4 1, 3) := by decide +kernel
theorem dX7_best_90 : decode cX7_best 90 = .ok (.goto (-73), 3) := by decide +kernel
theorem dX7_best_93 : decode cX7_best 93 = .ok (.iinc 3 1, 3) := by decide +kernel
end
section
theorem dX7_best_96 : decode cX7_best 96 = .ok (.goto (-90), 3) := by decide +kernel
theorem dX7_best_99 : decode cX7_best 99 = .ok (.iload_n 1, 1) := by decide +kernel
theorem dX7_best_100 : decode cX7_best 100 = .ok (.ireturn, 1) := by decide +kernel
theorem dX7_lossOf_0 : decode cX7_lossOf 0 = .ok (.aload_n 0, 1) := by decide +kernel
theorem dX7_lossOf_1 : decode cX7_lossOf 1 = .ok (.getfield 7, 3) := by decide +kernel
theorem dX7_lossOf_4 : decode cX7_lossOf 4 = .ok (.ineg, 1) := by decide +kernel
theorem dX7_lossOf_5 : decode cX7_lossOf 5 = .ok (.istore_n 3, 1) := by decide +kernel
theorem dX7_lossOf_6 : decode cX7_lossOf 6 = .ok (.iconst 0, 1) := by decide +kernel
theorem dX7_lossOf_7 : decode cX7_lossOf 7 = .ok (.istore 4, 2) := by decide +kernel
theorem dX7_lossOf_9 : decode cX7_lossOf 9 = .ok (.iload 4, 2) := by decide +kernel
theorem dX7_lossOf_11 : decode cX7_lossOf 11 = .ok (.aload_n 0, 1) := by decide +kernel
theorem dX7_lossOf_12 : decode cX7_lossOf 12 = .ok (.getfield 7, 3) := by decide +kernel
theorem dX7_lossOf_15 : decode cX7_lossOf 15 = .ok (.if_icmp .ge 23, 3) := by decide +kernel
theorem dX7_lossOf_18 : decode cX7_lossOf 18 = .ok (.iload_n 3, 1) := by decide +kernel
theorem dX7_lossOf_19 : decode cX7_lossOf 19 = .ok (.aload_n 0, 1) := by decide +kernel
theorem dX7_lossOf_20 : decode cX7_lossOf 20 = .ok (.iload 4, 2) := by decide +kernel
theorem dX7_lossOf_22 : decode cX7_lossOf 22 = .ok (.iload_n 1, 1) := by decide +kernel
theorem dX7_lossOf_23 : decode cX7_lossOf 23 = .ok (.iload_n 2, 1) := by decide +kernel
theorem dX7_lossOf_24 : decode cX7_lossOf 24 = .ok (.invokevirtual 200, 3) := by decide +kernel
theorem dX7_lossOf_27 : decode cX7_lossOf 27 = .ok (.invokestatic 81, 3) := by decide +kernel
theorem dX7_lossOf_30 : decode cX7_lossOf 30 = .ok (.iadd, 1) := by decide +kernel
theorem dX7_lossOf_31 : decode cX7_lossOf 31 = .ok (.istore_n 3, 1) := by decide +kernel
theorem dX7_lossOf_32 : decode cX7_lossOf 32 = .ok (.iinc 4 1, 3) := by decide +kernel
theorem dX7_lossOf_35 : decode cX7_lossOf 35 = .ok (.goto (-26), 3) := by decide +kernel
theorem dX7_lossOf_38 : decode cX7_lossOf 38 = .ok (.aload_n 0, 1) := by decide +kernel
theorem dX7_lossOf_39 : decode cX7_lossOf 39 = .ok (.invokevirtual 174, 3) := by decide +kernel
theorem dX7_lossOf_42 : decode cX7_lossOf 42 = .ok (.iload_n 3, 1) := by decide +kernel
theorem dX7_lossOf_43 : decode cX7_lossOf 43 = .ok (.isub, 1) := by decide +kernel
theorem dX7_lossOf_44 : decode cX7_lossOf 44 = .ok (.ireturn, 1) := by decide +kernel
theorem dX7_loss_0 : decode cX7_loss 0 = .ok (.aload_n 0, 1) := by decide +kernel
theorem dX7_loss_1 : decode cX7_loss 1 = .ok (.iload_n 1, 1) := by decide +kernel
theorem dX7_loss_2 : decode cX7_loss 2 = .ok (.iload_n 2, 1) := by decide +kernel
theorem dX7_loss_3 : decode cX7_loss 3 = .ok (.invokevirtual 171, 3) := by decide +kernel
theorem dX7_loss_6 : decode cX7_loss 6 = .ok (.ifCond .eq 12, 3) := by decide +kernel
theorem dX7_loss_9 : decode cX7_loss 9 = .ok (.aload_n 0, 1) := by decide +kernel
theorem dX7_loss_10 : decode cX7_loss 10 = .ok (.iload_n 1, 1) := by decide +kernel
theorem dX7_loss_11 : decode cX7_loss 11 = .ok (.iload_n 2, 1) := by decide +kernel
theorem dX7_loss_12 : decode cX7_loss 12 = .ok (.invokevirtual 220, 3) := by decide +kernel
theorem dX7_loss_15 : decode cX7_loss 15 = .ok (.goto 5, 3) := by decide +kernel
theorem dX7_loss_18 : decode cX7_loss 18 = .ok (.bipush (-2), 2) := by decide +kernel
theorem dX7_loss_20 : decode cX7_loss 20 = .ok (.ireturn, 1) := by decide +kernel
theorem dX7_worst_0 : decode cX7_worst 0 = .ok (.iconst (-1), 1) := by decide +kernel
theorem dX7_worst_1 : decode cX7_worst 1 = .ok (.istore_n 1, 1) := by decide +kernel
theorem dX7_worst_2 : decode cX7_worst 2 = .ok (.iconst (-1), 1) := by decide +kernel
theorem dX7_worst_3 : decode cX7_worst 3 = .ok (.istore_n 2, 1) := by decide +kernel
theorem dX7_worst_4 : decode cX7_worst 4 = .ok (.iconst 0, 1) := by decide +kernel
theorem dX7_worst_5 : decode cX7_worst 5 = .ok (.istore_n 3, 1) := by decide +kernel
theorem dX7_worst_6 : decode cX7_worst 6 = .ok (.iload_n 3, 1) := by decide +kernel
theorem dX7_worst_7 : decode cX7_worst 7 = .ok (.aload_n 0, 1) := by decide +kernel
theorem dX7_worst_8 : decode cX7_worst 8 = .ok (.getfield 7, 3) := by decide +kernel
theorem dX7_worst_11 : decode cX7_worst 11 = .ok (.if_icmp .ge 81, 3) := by decide +kernel
theorem dX7_worst_14 : decode cX7_worst 14 = .ok (.iconst 0, 1) := by decide +kernel
theorem dX7_worst_15 : decode cX7_worst 15 = .ok (.istore 4, 2) := by decide +kernel
theorem dX7_worst_17 : decode cX7_worst 17 = .ok (.iload 4, 2) := by decide +kernel
theorem dX7_worst_19 : decode cX7_worst 19 = .ok (.aload_n 0, 1) := by decide +kernel
theorem dX7_worst_20 : decode cX7_worst 20 = .ok (.getfield 7, 3) := by decide +kernel
theorem dX7_worst_23 : decode cX7_worst 23 = .ok (.if_icmp .ge 63, 3) := by decide +kernel
theorem dX7_worst_26 : decode cX7_worst 26 = .ok (.aload_n 0, 1) := by decide +kernel
theorem dX7_worst_27 : decode cX7_worst 27 = .ok (.iload_n 3, 1) := by decide +kernel
theorem dX7_worst_28 : decode cX7_worst 28 = .ok (.iload 4, 2) := by decide +kernel
theorem dX7_worst_30 : decode cX7_worst 30 = .ok (.invokevirtual 171, 3) := by decide +kernel
theorem dX7_worst_33 : decode cX7_worst 33 = .ok (.ifCond .eq 13, 3) := by decide +kernel
theorem dX7_worst_36 : decode cX7_worst 36 = .ok (.aload_n 0, 1) := by decide +kernel
theorem dX7_worst_37 : decode cX7_worst 37 = .ok (.iload_n 3, 1) := by decide +kernel
theorem dX7_worst_38 : decode cX7_worst 38 = .ok (.iload 4, 2) := by decide +kernel
theorem dX7_worst_40 : decode cX7_worst 40 = .ok (.invokevirtual 220, 3) := by decide +kernel
theorem dX7_worst_43 : decode cX7_worst 43 = .ok (.goto 4, 3) := by decide +kernel
theorem dX7_worst_46 : decode cX7_worst 46 = .ok (.iconst (-1), 1) := by decide +kernel
theorem dX7_worst_47 : decode cX7_worst 47 = .ok (.istore 5, 2) := by decide +kernel
theorem dX7_worst_49 : decode cX7_worst 49 = .ok (.iload 5, 2) := by decide +kernel
theorem dX7_worst_51 : decode cX7_worst 51 = .ok (.iload_n 2, 1) := by decide +kernel
theorem dX7_worst_52 : decode cX7_worst 52 = .ok (.if_icmp .le 13, 3) := by decide +kernel
theorem dX7_worst_55 : decode cX7_worst 55 = .ok (.bipush 10, 2) := by decide +kernel
theorem dX7_worst_57 : decode cX7_worst 57 = .ok (.iload_n 3, 1) := by decide +kernel
theorem dX7_worst_58 : decode cX7_worst 58 = .ok (.imul, 1) := by decide +kernel
theorem dX7_worst_59 : decode cX7_worst 59 = .ok (.iload 4, 2) := by decide +kernel
theorem dX7_worst_61 : decode cX7_worst 61 = .ok (.iadd, 1) := by decide +kernel
theorem dX7_worst_62 : decode cX7_worst 62 = .ok (.goto 4, 3) := by decide +kernel
theorem dX7_worst_65 : decode cX7_worst 65 = .ok (.iload_n 1, 1) := by decide +kernel
theorem dX7_worst_66 : decode cX7_worst 66 = .ok (.istore_n 1, 1) := by decide +kernel
theorem dX7_worst_67 : decode cX7_worst 67 = .ok (.iload 5, 2) := by decide +kernel
theorem dX7_worst_69 : decode cX7_worst 69 = .ok (.iload_n 2, 1) := by decide +kernel
theorem dX7_worst_70 : decode cX7_worst 70 = .ok (.if_icmp .le 8, 3) := by decide +kernel
theorem dX7_worst_73 : decode cX7_worst 73 = .ok (.iload 5, 2) := by decide +kernel
theorem dX7_worst_75 : decode cX7_worst 75 = .ok (.goto 4, 3) := by decide +kernel
theorem dX7_worst_78 : decode cX7_worst 78 = .ok (.iload_n 2, 1) := by decide +kernel
theorem dX7_worst_79 : decode cX7_worst 79 = .ok (.istore_n 2, 1) := by decide +kernel
theorem dX7_worst_80 : decode cX7_worst 80 = .ok (.iinc 4 1, 3) := by decide +kernel
theorem dX7_worst_83 : decode cX7_worst 83 = .ok (.goto (-66), 3) := by decide +kernel
theorem dX7_worst_86 : decode cX7_worst 86 = .ok (.iinc 3 1, 3) := by decide +kernel
theorem dX7_worst_89 : decode cX7_worst 89 = .ok (.goto (-83), 3) := by decide +kernel
theorem dX7_worst_92 : decode cX7_worst 92 = .ok (.iload_n 1, 1) := by decide +kernel
theorem dX7_worst_93 : decode cX7_worst 93 = .ok (.ireturn, 1) := by decide +kernel
theorem dX7_findsWay_0 : decode cX7_findsWay 0 = .ok (.iconst 0, 1) := by decide +kernel
theorem dX7_findsWay_1 : decode cX7_findsWay 1 = .ok (.istore_n 3, 1) := by decide +kernel
theorem dX7_findsWay_2 : decode cX7_findsWay 2 = .ok (.iload_n 3, 1) := by decide +kernel
theorem dX7_findsWay_3 : decode cX7_findsWay 3 = .ok (.aload_n 0, 1) := by decide +kernel
theorem dX7_findsWay_4 : decode cX7_findsWay 4 = .ok (.getfield 7, 3) := by decide +kernel
theorem dX7_findsWay_7 : decode cX7_findsWay 7 = .ok (.if_icmp .ge 25, 3) := by decide +kernel
theorem dX7_findsWay_10 : decode cX7_findsWay 10 = .ok (.aload_n 0, 1) := by decide +kernel
theorem dX7_findsWay_11 : decode cX7_findsWay 11 = .ok (.getfield 44, 3) := by decide +kernel
theorem dX7_findsWay_14 : decode cX7_findsWay 14 = .ok (.iload_n 3, 1) := by decide +kernel
theorem dX7_findsWay_15 : decode cX7_findsWay 15 = .ok (.iload_n 3, 1) := by decide +kernel
theorem dX7_findsWay_16 : decode cX7_findsWay 16 = .ok (.iload_n 1, 1) := by decide +kernel
theorem dX7_findsWay_17 : decode cX7_findsWay 17 = .ok (.if_icmp .ne 7, 3) := by decide +kernel
theorem dX7_findsWay_20 : decode cX7_findsWay 20 = .ok (.iload_n 1, 1) := by decide +kernel
theorem dX7_findsWay_21 : decode cX7_findsWay 21 = .ok (.goto 4, 3) := by decide +kernel
theorem dX7_findsWay_24 : decode cX7_findsWay 24 = .ok (.iconst (-1), 1) := by decide +kernel
theorem dX7_findsWay_25 : decode cX7_findsWay 25 = .ok (.iastore, 1) := by decide +kernel
theorem dX7_findsWay_26 : decode cX7_findsWay 26 = .ok (.iinc 3 1, 3) := by decide +kernel
theorem dX7_findsWay_29 : decode cX7_findsWay 29 = .ok (.goto (-27), 3) := by decide +kernel
theorem dX7_findsWay_32 : decode cX7_findsWay 32 = .ok (.iconst 1, 1) := by decide +kernel
theorem dX7_findsWay_33 : decode cX7_findsWay 33 = .ok (.istore_n 3, 1) := by decide +kernel
theorem dX7_findsWay_34 : decode cX7_findsWay 34 = .ok (.iload_n 3, 1) := by decide +kernel
theorem dX7_findsWay_35 : decode cX7_findsWay 35 = .ok (.ifCond .eq 99, 3) := by decide +kernel
theorem dX7_findsWay_38 : decode cX7_findsWay 38 = .ok (.aload_n 0, 1) := by decide +kernel
theorem dX7_findsWay_39 : decode cX7_findsWay 39 = .ok (.getfield 44, 3) := by decide +kernel
theorem dX7_findsWay_42 : decode cX7_findsWay 42 = .ok (.iload_n 2, 1) := by decide +kernel
theorem dX7_findsWay_43 : decode cX7_findsWay 43 = .ok (.iaload, 1) := by decide +kernel
theorem dX7_findsWay_44 : decode cX7_findsWay 44 = .ok (.ifCond .ge 90, 3) := by decide +kernel
theorem dX7_findsWay_47 : decode cX7_findsWay 47 = .ok (.iconst 0, 1) := by decide +kernel
theorem dX7_findsWay_48 : decode cX7_findsWay 48 = .ok (.istore_n 3, 1) := by decide +kernel
theorem dX7_findsWay_49 : decode cX7_findsWay 49 = .ok (.iconst 0, 1) := by decide +kernel
theorem dX7_findsWay_50 : decode cX7_findsWay 50 = .ok (.istore 4, 2) := by decide +kernel
theorem dX7_findsWay_52 : decode cX7_findsWay 52 = .ok (.iload 4, 2) := by decide +kernel
theorem dX7_findsWay_54 : decode cX7_findsWay 54 = .ok (.aload_n 0, 1) := by decide +kernel
theorem dX7_findsWay_55 : decode cX7_findsWay 55 = .ok (.getfield 7, 3) := by decide +kernel
theorem dX7_findsWay_58 : decode cX7_findsWay 58 = .ok (.if_icmp .ge 73, 3) := by decide +kernel
theorem dX7_findsWay_61 : decode cX7_findsWay 61 = .ok (.iconst 0, 1) := by decide +kernel
theorem dX7_findsWay_62 : decode cX7_findsWay 62 = .ok (.istore 5, 2) := by decide +kernel
theorem dX7_findsWay_64 : decode cX7_findsWay 64 = .ok (.iload 5, 2) := by decide +kernel
theorem dX7_findsWay_66 : decode cX7_findsWay 66 = .ok (.aload_n 0, 1) := by decide +kernel
theorem dX7_findsWay_67 : decode cX7_findsWay 67 = .ok (.getfield 7, 3) := by decide +kernel
theorem dX7_findsWay_70 : decode cX7_findsWay 70 = .ok (.if_icmp .ge 55, 3) := by decide +kernel
theorem dX7_findsWay_73 : decode cX7_findsWay 73 = .ok (.aload_n 0, 1) := by decide +kernel
theorem dX7_findsWay_74 : decode cX7_findsWay 74 = .ok (.getfield 44, 3) := by decide +kernel
theorem dX7_findsWay_77 : decode cX7_findsWay 77 = .ok (.iload 4, 2) := by decide +kernel
theorem dX7_findsWay_79 : decode cX7_findsWay 79 = .ok (.iaload, 1) := by decide +kernel
theorem dX7_findsWay_80 : decode cX7_findsWay 80 = .ok (.ifCond .lt 39, 3) := by decide +kernel
theorem dX7_findsWay_83 : decode cX7_findsWay 83 = .ok (.aload_n 0, 1) := by decide +kernel
theorem dX7_findsWay_84 : decode cX7_findsWay 84 = .ok (.getfield 44, 3) := by decide +kernel
theorem dX7_findsWay_87 : decode cX7_findsWay 87 = .ok (.iload 5, 2) := by decide +kernel
theorem dX7_findsWay_89 : decode cX7_findsWay 89 = .ok (.iaload, 1) := by decide +kernel
theorem dX7_findsWay_90 : decode cX7_findsWay 90 = .ok (.ifCond .ge 29, 3) := by decide +kernel
theorem dX7_findsWay_93 : decode cX7_findsWay 93 = .ok (.aload_n 0, 1) := by decide +kernel
theorem dX7_findsWay_94 : decode cX7_findsWay 94 = .ok (.getfield 41, 3) := by decide +kernel
theorem dX7_findsWay_97 : decode cX7_findsWay 97 = .ok (.iload 4, 2) := by decide +kernel
theorem dX7_findsWay_99 : decode cX7_findsWay 99 = .ok (.iaload, 1) := by decide +kernel
theorem dX7_findsWay_100 : decode cX7_findsWay 100 = .ok (.iload 5, 2) := by decide +kernel
theorem dX7_findsWay_102 : decode cX7_findsWay 102 = .ok (.invokestatic 78, 3) := by decide +kernel
theorem dX7_findsWay_105 : decode cX7_findsWay 105 = .ok (.ifCond .eq 14, 3) := by decide +kernel
theorem dX7_findsWay_108 : decode cX7_findsWay 108 = .ok (.aload_n 0, 1) := by decide +kernel
theorem dX7_findsWay_109 : decode cX7_findsWay 109 = .ok (.getfield 44, 3) := by decide +kernel
theorem dX7_findsWay_112 : decode cX7_findsWay 112 = .ok (.iload 5, 2) := by decide +kernel
theorem dX7_findsWay_114 : decode cX7_findsWay 114 = .ok (.iload 4, 2) := by decide +kernel
theorem dX7_findsWay_116 : decode cX7_findsWay 116 = .ok (.iastore, 1) := by decide +kernel
theorem dX7_findsWay_117 : decode cX7_findsWay 117 = .ok (.iconst 1, 1) := by decide +kernel
theorem dX7_findsWay_118 : decode cX7_findsWay 118 = .ok (.istore_n 3, 1) := by decide +kernel
theorem dX7_findsWay_119 : decode cX7_findsWay 119 = .ok (.iinc 5 1, 3) := by decide +kernel
theorem dX7_findsWay_122 : decode cX7_findsWay 122 = .ok (.goto (-58), 3) := by decide +kernel
theorem dX7_findsWay_125 : decode cX7_findsWay 125 = .ok (.iinc 4 1, 3) := by decide +kernel
theorem dX7_findsWay_128 : decode cX7_findsWay 128 = .ok (.goto (-76), 3) := by decide +kernel
theorem dX7_findsWay_131 : decode cX7_findsWay 131 = .ok (.goto (-97), 3) := by decide +kernel
theorem dX7_findsWay_134 : decode cX7_findsWay 134 = .ok (.aload_n 0, 1) := by decide +kernel
theorem dX7_findsWay_135 : decode cX7_findsWay 135 = .ok (.getfield 44, 3) := by decide +kernel
theorem dX7_findsWay_138 : decode cX7_findsWay 138 = .ok (.iload_n 2, 1) := by decide +kernel
theorem dX7_findsWay_139 : decode cX7_findsWay 139 = .ok (.iaload, 1) := by decide +kernel
theorem dX7_findsWay_140 : decode cX7_findsWay 140 = .ok (.ifCond .lt 7, 3) := by decide +kernel
theorem dX7_findsWay_143 : decode cX7_findsWay 143 = .ok (.iconst 1, 1) := by decide +kernel
theorem dX7_findsWay_144 : decode cX7_findsWay 144 = .ok (.goto 4, 3) := by decide +kernel
theorem dX7_findsWay_147 : decode cX7_findsWay 147 = .ok (.iconst 0, 1) := by decide +kernel
theorem dX7_findsWay_148 : decode cX7_findsWay 148 = .ok (.ireturn, 1) := by decide +kernel
theorem dX7_sever_0 : decode cX7_sever 0 = .ok (.aload_n 0, 1) := by decide +kernel
theorem dX7_sever_1 : decode cX7_sever 1 = .ok (.iload_n 1, 1) := by decide +kernel
theorem dX7_sever_2 : decode cX7_sever 2 = .ok (.iload_n 2, 1) := by decide +kernel
theorem dX7_sever_3 : decode cX7_sever 3 = .ok (.invokevirtual 74, 3) := by decide +kernel
theorem dX7_sever_6 : decode cX7_sever 6 = .ok (.ifCond .ne 6, 3) := by decide +kernel
theorem dX7_sever_9 : decode cX7_sever 9 = .ok (.bipush (-2), 2) := by decide +kernel
theorem dX7_sever_11 : decode cX7_sever 11 = .ok (.ireturn, 1) := by decide +kernel
theorem dX7_sever_12 : decode cX7_sever 12 = .ok (.iconst 0, 1) := by decide +kernel
theorem dX7_sever_13 : decode cX7_sever 13 = .ok (.istore_n 3, 1) := by decide +kernel
theorem dX7_sever_14 : decode cX7_sever 14 = .ok (.iload_n 3, 1) := by decide +kernel
theorem dX7_sever_15 : decode cX7_sever 15 = .ok (.aload_n 0, 1) := by decide +kernel
theorem dX7_sever_16 : decode cX7_sever 16 = .ok (.getfield 7, 3) := by decide +kernel
theorem dX7_sever_19 : decode cX7_sever 19 = .ok (.if_icmp .ge 30, 3) := by decide +kernel
theorem dX7_sever_22 : decode cX7_sever 22 = .ok (.aload_n 0, 1) := by decide +kernel
theorem dX7_sever_23 : decode cX7_sever 23 = .ok (.getfield 41, 3) := by decide +kernel
theorem dX7_sever_26 : decode cX7_sever 26 = .ok (.iload_n 3, 1) := by decide +kernel
theorem dX7_sever_27 : decode cX7_sever 27 = .ok (.aload_n 0, 1) := by decide +kernel
theorem dX7_sever_28 : decode cX7_sever 28 = .ok (.getfield 13, 3) := by decide +kernel
theorem dX7_sever_31 : decode cX7_sever 31 = .ok (.iconst 0, 1) := by decide +kernel
theorem dX7_sever_32 : decode cX7_sever 32 = .ok (.iload_n 3, 1) := by decide +kernel
theorem dX7_sever_33 : decode cX7_sever 33 = .ok (.iadd, 1) := by decide +kernel
theorem dX7_sever_34 : decode cX7_sever 34 = .ok (.iaload, 1) := by decide +kernel
theorem dX7_sever_35 : decode cX7_sever 35 = .ok (.iastore, 1) := by decide +kernel
theorem dX7_sever_36 : decode cX7_sever 36 = .ok (.aload_n 0, 1) := by decide +kernel
theorem dX7_sever_37 : decode cX7_sever 37 = .ok (.getfield 47, 3) := by decide +kernel
theorem dX7_sever_40 : decode cX7_sever 40 = .ok (.iload_n 3, 1) := by decide +kernel
theorem dX7_sever_41 : decode cX7_sever 41 = .ok (.iconst 0, 1) := by decide +kernel
theorem dX7_sever_42 : decode cX7_sever 42 = .ok (.iastore, 1) := by decide +kernel
theorem dX7_sever_43 : decode cX7_sever 43 = .ok (.iinc 3 1, 3) := by decide +kernel
theorem dX7_sever_46 : decode cX7_sever 46 = .ok (.goto (-32), 3) := by decide +kernel
theorem dX7_sever_49 : decode cX7_sever 49 = .ok (.iconst 0, 1) := by decide +kernel
theorem dX7_sever_50 : decode cX7_sever 50 = .ok (.istore_n 3, 1) := by decide +kernel
theorem dX7_sever_51 : decode cX7_sever 51 = .ok (.aload_n 0, 1) := by decide +kernel
theorem dX7_sever_52 : decode cX7_sever 52 = .ok (.iload_n 1, 1) := by decide +kernel
theorem dX7_sever_53 : decode cX7_sever 53 = .ok (.iload_n 2, 1) := by decide +kernel
theorem dX7_sever_54 : decode cX7_sever 54 = .ok (.invokevirtual 223, 3) := by decide +kernel
theorem dX7_sever_57 : decode cX7_sever 57 = .ok (.ifCond .eq 43, 3) := by decide +kernel
theorem dX7_sever_60 : decode cX7_sever 60 = .ok (.iload_n 2, 1) := by decide +kernel
theorem dX7_sever_61 : decode cX7_sever 61 = .ok (.istore 4, 2) := by decide +kernel
theorem dX7_sever_63 : decode cX7_sever 63 = .ok (.iload 4, 2) := by decide +kernel
theorem dX7_sever_65 : decode cX7_sever 65 = .ok (.iload_n 1, 1) := by decide +kernel
theorem dX7_sever_66 : decode cX7_sever 66 = .ok (.if_icmp .eq 28, 3) := by decide +kernel
theorem dX7_sever_69 : decode cX7_sever 69 = .ok (.aload_n 0, 1) := by decide +kernel
theorem dX7_sever_70 : decode cX7_sever 70 = .ok (.aload_n 0, 1) := by decide +kernel
theorem dX7_sever_71 : decode cX7_sever 71 = .ok (.getfield 44, 3) := by decide +kernel
theorem dX7_sever_74 : decode cX7_sever 74 = .ok (.iload 4, 2) := by decide +kernel
theorem dX7_sever_76 : decode cX7_sever 76 = .ok (.iaload, 1) := by decide +kernel
theorem dX7_sever_77 : decode cX7_sever 77 = .ok (.iload 4, 2) := by decide +kernel
theorem dX7_sever_79 : decode cX7_sever 79 = .ok (.invokevirtual 226, 3) := by decide +kernel
theorem dX7_sever_82 : decode cX7_sever 82 = .ok (.aload_n 0, 1) := by decide +kernel
theorem dX7_sever_83 : decode cX7_sever 83 = .ok (.getfield 44, 3) := by decide +kernel
theorem dX7_sever_86 : decode cX7_sever 86 = .ok (.iload 4, 2) := by decide +kernel
theorem dX7_sever_88 : decode cX7_sever 88 = .ok (.iaload, 1) := by decide +kernel
theorem dX7_sever_89 : decode cX7_sever 89 = .ok (.istore 4, 2) := by decide +kernel
theorem dX7_sever_91 : decode cX7_sever 91 = .ok (.goto (-28), 3) := by decide +kernel
theorem dX7_sever_94 : decode cX7_sever 94 = .ok (.iinc 3 1, 3) := by decide +kernel
theorem dX7_sever_97 : decode cX7_sever 97 = .ok (.goto (-46), 3) := by decide +kernel
theorem dX7_sever_100 : decode cX7_sever 100 = .ok (.iload_n 3, 1) := by decide +kernel
theorem dX7_sever_101 : decode cX7_sever 101 = .ok (.ireturn, 1) := by decide +kernel
theorem dX7_goAlong_0 : decode cX7_goAlong 0 = .ok (.aload_n 0, 1) := by decide +kernel
theorem dX7_goAlong_1 : decode cX7_goAlong 1 = .ok (.getfield 47, 3) := by decide +kernel
theorem dX7_goAlong_4 : decode cX7_goAlong 4 = .ok (.iload_n 1, 1) := by decide +kernel
theorem dX7_goAlong_5 : decode cX7_goAlong 5 = .ok (.iaload, 1) := by decide +kernel
theorem dX7_goAlong_6 : decode cX7_goAlong 6 = .ok (.iload_n 2, 1) := by decide +kernel
theorem dX7_goAlong_7 : decode cX7_goAlong 7 = .ok (.invokestatic 78, 3) := by decide +kernel
theorem dX7_goAlong_10 : decode cX7_goAlong 10 = .ok (.istore_n 3, 1) := by decide +kernel
theorem dX7_goAlong_11 : decode cX7_goAlong 11 = .ok (.aload_n 0, 1) := by decide +kernel
theorem dX7_goAlong_12 : decode cX7_goAlong 12 = .ok (.getfield 41, 3) := by decide +kernel
theorem dX7_goAlong_15 : decode cX7_goAlong 15 = .ok (.iload_n 1, 1) := by decide +kernel
theorem dX7_goAlong_16 : decode cX7_goAlong 16 = .ok (.dup2, 1) := by decide +kernel
theorem dX7_goAlong_17 : decode cX7_goAlong 17 = .ok (.iaload, 1) := by decide +kernel
theorem dX7_goAlong_18 : decode cX7_goAlong 18 = .ok (.iload_n 3, 1) := by decide +kernel
theorem dX7_goAlong_19 : decode cX7_goAlong 19 = .ok (.ifCond .eq 12, 3) := by decide +kernel
theorem dX7_goAlong_22 : decode cX7_goAlong 22 = .ok (.aload_n 0, 1) := by decide +kernel
theorem dX7_goAlong_23 : decode cX7_goAlong 23 = .ok (.getfield 41, 3) := by decide +kernel
theorem dX7_goAlong_26 : decode cX7_goAlong 26 = .ok (.iload_n 1, 1) := by decide +kernel
theorem dX7_goAlong_27 : decode cX7_goAlong 27 = .ok (.iaload, 1) := by decide +kernel
theorem dX7_goAlong_28 : decode cX7_goAlong 28 = .ok (.goto 8, 3) := by decide +kernel
theorem dX7_goAlong_31 : decode cX7_goAlong 31 = .ok (.iconst 1, 1) := by decide +kernel
theorem dX7_goAlong_32 : decode cX7_goAlong 32 = .ok (.iload_n 2, 1) := by decide +kernel
theorem dX7_goAlong_33 : decode cX7_goAlong 33 = .ok (.ishl, 1) := by decide +kernel
theorem dX7_goAlong_34 : decode cX7_goAlong 34 = .ok (.iconst (-1), 1) := by decide +kernel
theorem dX7_goAlong_35 : decode cX7_goAlong 35 = .ok (.ixor, 1) := by decide +kernel
theorem dX7_goAlong_36 : decode cX7_goAlong 36 = .ok (.iand, 1) := by decide +kernel
theorem dX7_goAlong_37 : decode cX7_goAlong 37 = .ok (.iastore, 1) := by decide +kernel
theorem dX7_goAlong_38 : decode cX7_goAlong 38 = .ok (.aload_n 0, 1) := by decide +kernel
theorem dX7_goAlong_39 : decode cX7_goAlong 39 = .ok (.getfield 47, 3) := by decide +kernel
theorem dX7_goAlong_42 : decode cX7_goAlong 42 = .ok (.iload_n 1, 1) := by decide +kernel
theorem dX7_goAlong_43 : decode cX7_goAlong 43 = .ok (.dup2, 1) := by decide +kernel
theorem dX7_goAlong_44 : decode cX7_goAlong 44 = .ok (.iaload, 1) := by decide +kernel
theorem dX7_goAlong_45 : decode cX7_goAlong 45 = .ok (.iconst 1, 1) := by decide +kernel
theorem dX7_goAlong_46 : decode cX7_goAlong 46 = .ok (.iload_n 2, 1) := by decide +kernel
theorem dX7_goAlong_47 : decode cX7_goAlong 47 = .ok (.ishl, 1) := by decide +kernel
theorem dX7_goAlong_48 : decode cX7_goAlong 48 = .ok (.iconst (-1), 1) := by decide +kernel
theorem dX7_goAlong_49 : decode cX7_goAlong 49 = .ok (.ixor, 1) := by decide +kernel
theorem dX7_goAlong_50 : decode cX7_goAlong 50 = .ok (.iand, 1) := by decide +kernel
theorem dX7_goAlong_51 : decode cX7_goAlong 51 = .ok (.iastore, 1) := by decide +kernel
theorem dX7_goAlong_52 : decode cX7_goAlong 52 = .ok (.aload_n 0, 1) := by decide +kernel
theorem dX7_goAlong_53 : decode cX7_goAlong 53 = .ok (.getfield 47, 3) := by decide +kernel
theorem dX7_goAlong_56 : decode cX7_goAlong 56 = .ok (.iload_n 2, 1) := by decide +kernel
theorem dX7_goAlong_57 : decode cX7_goAlong 57 = .ok (.dup2, 1) := by decide +kernel
theorem dX7_goAlong_58 : decode cX7_goAlong 58 = .ok (.iaload, 1) := by decide +kernel
theorem dX7_goAlong_59 : decode cX7_goAlong 59 = .ok (.aload_n 0, 1) := by decide +kernel
theorem dX7_goAlong_60 : decode cX7_goAlong 60 = .ok (.getfield 41, 3) := by decide +kernel
theorem dX7_goAlong_63 : decode cX7_goAlong 63 = .ok (.iload_n 2, 1) := by decide +kernel
theorem dX7_goAlong_64 : decode cX7_goAlong 64 = .ok (.iaload, 1) := by decide +kernel
theorem dX7_goAlong_65 : decode cX7_goAlong 65 = .ok (.iload_n 1, 1) := by decide +kernel
theorem dX7_goAlong_66 : decode cX7_goAlong 66 = .ok (.invokestatic 78, 3) := by decide +kernel
theorem dX7_goAlong_69 : decode cX7_goAlong 69 = .ok (.ifCond .eq 9, 3) := by decide +kernel
theorem dX7_goAlong_72 : decode cX7_goAlong 72 = .ok (.iconst 1, 1) := by decide +kernel
theorem dX7_goAlong_73 : decode cX7_goAlong 73 = .ok (.iload_n 1, 1) := by decide +kernel
theorem dX7_goAlong_74 : decode cX7_goAlong 74 = .ok (.ishl, 1) := by decide +kernel
theorem dX7_goAlong_75 : decode cX7_goAlong 75 = .ok (.goto 4, 3) := by decide +kernel
theorem dX7_goAlong_78 : decode cX7_goAlong 78 = .ok (.iconst 0, 1) := by decide +kernel
theorem dX7_goAlong_79 : decode cX7_goAlong 79 = .ok (.ior, 1) := by decide +kernel
theorem dX7_goAlong_80 : decode cX7_goAlong 80 = .ok (.iastore, 1) := by decide +kernel
theorem dX7_goAlong_81 : decode cX7_goAlong 81 = .ok (.aload_n 0, 1) := by decide +kernel
theorem dX7_goAlong_82 : decode cX7_goAlong 82 = .ok (.getfield 41, 3) := by decide +kernel
theorem dX7_goAlong_85 : decode cX7_goAlong 85 = .ok (.iload_n 2, 1) := by decide +kernel
theorem dX7_goAlong_86 : decode cX7_goAlong 86 = .ok (.dup2, 1) := by decide +kernel
theorem dX7_goAlong_87 : decode cX7_goAlong 87 = .ok (.iaload, 1) := by decide +kernel
theorem dX7_goAlong_88 : decode cX7_goAlong 88 = .ok (.iconst 1, 1) := by decide +kernel
theorem dX7_goAlong_89 : decode cX7_goAlong 89 = .ok (.iload_n 1, 1) := by decide +kernel
theorem dX7_goAlong_90 : decode cX7_goAlong 90 = .ok (.ishl, 1) := by decide +kernel
theorem dX7_goAlong_91 : decode cX7_goAlong 91 = .ok (.ior, 1) := by decide +kernel
theorem dX7_goAlong_92 : decode cX7_goAlong 92 = .ok (.iastore, 1) := by decide +kernel
theorem dX7_goAlong_93 : decode cX7_goAlong 93 = .ok (.return_, 1) := by decide +kernel
theorem dX7_isChain_0 : decode cX7_isChain 0 = .ok (.iload_n 0, 1) := by decide +kernel
theorem dX7_isChain_1 : decode cX7_isChain 1 = .ok (.i2l, 1) := by decide +kernel
theorem dX7_isChain_2 : decode cX7_isChain 2 = .ok (.lconst 0, 1) := by decide +kernel
theorem dX7_isChain_3 : decode cX7_isChain 3 = .ok (.ldc2_w 229, 3) := by decide +kernel
theorem dX7_isChain_6 : decode cX7_isChain 6 = .ok (.invokestatic 66, 3) := by decide +kernel
theorem dX7_isChain_9 : decode cX7_isChain 9 = .ok (.ireturn, 1) := by decide +kernel
theorem dX7_isOneOf_0 : decode cX7_isOneOf 0 = .ok (.iload_n 0, 1) := by decide +kernel
theorem dX7_isOneOf_1 : decode cX7_isOneOf 1 = .ok (.i2l, 1) := by decide +kernel
theorem dX7_isOneOf_2 : decode cX7_isOneOf 2 = .ok (.lconst 0, 1) := by decide +kernel
theorem dX7_isOneOf_3 : decode cX7_isOneOf 3 = .ok (.iload_n 1, 1) := by decide +kernel
theorem dX7_isOneOf_4 : decode cX7_isOneOf 4 = .ok (.i2l, 1) := by decide +kernel
theorem dX7_isOneOf_5 : decode cX7_isOneOf 5 = .ok (.invokestatic 66, 3) := by decide +kernel
theorem dX7_isOneOf_8 : decode cX7_isOneOf 8 = .ok (.ireturn, 1) := by decide +kernel
theorem dX7_chain_0 : decode cX7_chain 0 = .ok (.iload_n 1, 1) := by decide +kernel
theorem dX7_chain_1 : decode cX7_chain 1 = .ok (.invokestatic 231, 3) := by decide +kernel
theorem dX7_chain_4 : decode cX7_chain 4 = .ok (.ifCond .ne 6, 3) := by decide +kernel
theorem dX7_chain_7 : decode cX7_chain 7 = .ok (.bipush (-2), 2) := by decide +kernel
theorem dX7_chain_9 : decode cX7_chain 9 = .ok (.ireturn, 1) := by decide +kernel
theorem dX7_chain_10 : decode cX7_chain 10 = .ok (.aload_n 0, 1) := by decide +kernel
theorem dX7_chain_11 : decode cX7_chain 11 = .ok (.getfield 50, 3) := by decide +kernel
theorem dX7_chain_14 : decode cX7_chain 14 = .ok (.iload_n 1, 1) := by decide +kernel
theorem dX7_chain_15 : decode cX7_chain 15 = .ok (.iconst 0, 1) := by decide +kernel
theorem dX7_chain_16 : decode cX7_chain 16 = .ok (.iastore, 1) := by decide +kernel
theorem dX7_chain_17 : decode cX7_chain 17 = .ok (.iconst 0, 1) := by decide +kernel
theorem dX7_chain_18 : decode cX7_chain 18 = .ok (.ireturn, 1) := by decide +kernel
theorem dX7_add_0 : decode cX7_add 0 = .ok (.iload_n 1, 1) := by decide +kernel
theorem dX7_add_1 : decode cX7_add 1 = .ok (.invokestatic 231, 3) := by decide +kernel
theorem dX7_add_4 : decode cX7_add 4 = .ok (.ifCond .eq 30, 3) := by decide +kernel
theorem dX7_add_7 : decode cX7_add 7 = .ok (.iload_n 2, 1) := by decide +kernel
theorem dX7_add_8 : decode cX7_add 8 = .ok (.iconst 1, 1) := by decide +kernel
theorem dX7_add_9 : decode cX7_add 9 = .ok (.if_icmp .ne 28, 3) := by decide +kernel
theorem dX7_add_12 : decode cX7_add 12 = .ok (.iload 4, 2) := by decide +kernel
theorem dX7_add_14 : decode cX7_add 14 = .ok (.ifCond .lt 20, 3) := by decide +kernel
theorem dX7_add_17 : decode cX7_add 17 = .ok (.aload_n 0, 1) := by decide +kernel
theorem dX7_add_18 : decode cX7_add 18 = .ok (.iload 4, 2) := by decide +kernel
theorem dX7_add_20 : decode cX7_add 20 = .ok (.bipush 10, 2) := by decide +kernel
theorem dX7_add_22 : decode cX7_add 22 = .ok (.idiv, 1) := by decide +kernel
theorem dX7_add_23 : decode cX7_add 23 = .ok (.iload 4, 2) := by decide +kernel
theorem dX7_add_25 : decode cX7_add 25 = .ok (.bipush 10, 2) := by decide +kernel
theorem dX7_add_27 : decode cX7_add 27 = .ok (.irem, 1) := by decide +kernel
theorem dX7_add_28 : decode cX7_add 28 = .ok (.invokevirtual 74, 3) := by decide +kernel
theorem dX7_add_31 : decode cX7_add 31 = .ok (.ifCond .ne 6, 3) := by decide +kernel
theorem dX7_add_34 : decode cX7_add 34 = .ok (.bipush (-2), 2) := by decide +kernel
theorem dX7_add_36 : decode cX7_add 36 = .ok (.ireturn, 1) := by decide +kernel
theorem dX7_add_37 : decode cX7_add 37 = .ok (.iload_n 2, 1) := by decide +kernel
theorem dX7_add_38 : decode cX7_add 38 = .ok (.iconst 1, 1) := by decide +kernel
theorem dX7_add_39 : decode cX7_add 39 = .ok (.invokestatic 234, 3) := by decide +kernel
theorem dX7_add_42 : decode cX7_add 42 = .ok (.ifCond .eq 30, 3) := by decide +kernel
theorem dX7_add_45 : decode cX7_add 45 = .ok (.iload_n 3, 1) := by decide +kernel
theorem dX7_add_46 : decode cX7_add 46 = .ok (.iconst 1, 1) := by decide +kernel
theorem dX7_add_47 : decode cX7_add 47 = .ok (.invokestatic 234, 3) := by decide +kernel
theorem dX7_add_50 : decode cX7_add 50 = .ok (.ifCond .eq 22, 3) := by decide +kernel
theorem dX7_add_53 : decode cX7_add 53 = .ok (.iload_n 2, 1) := by decide +kernel
theorem dX7_add_54 : decode cX7_add 54 = .ok (.ifCond .ne 21, 3) := by decide +kernel
theorem dX7_add_57 : decode cX7_add 57 = .ok (.iload 4, 2) := by decide +kernel
theorem dX7_add_59 : decode cX7_add 59 = .ok (.i2l, 1) := by decide +kernel
theorem dX7_add_60 : decode cX7_add 60 = .ok (.ldc2_w 237, 3) := by decide +kernel
theorem dX7_add_63 : decode cX7_add 63 = .ok (.ldc2_w 239, 3) := by decide +kernel
theorem dX7_add_66 : decode cX7_add 66 = .ok (.invokestatic 66, 3) := by decide +kernel
theorem dX7_add_69 : decode cX7_add 69 = .ok (.ifCond .ne 6, 3) := by decide +kernel
theorem dX7_add_72 : decode cX7_add 72 = .ok (.bipush (-3), 2) := by decide +kernel
theorem dX7_add_74 : decode cX7_add 74 = .ok (.ireturn, 1) := by decide +kernel
theorem dX7_add_75 : decode cX7_add 75 = .ok (.aload_n 0, 1) := by decide +kernel
theorem dX7_add_76 : decode cX7_add 76 = .ok (.getfield 50, 3) := by decide +kernel
theorem dX7_add_79 : decode cX7_add 79 = .ok (.iload_n 1, 1) := by decide +kernel
theorem dX7_add_80 : decode cX7_add 80 = .ok (.iaload, 1) := by decide +kernel
theorem dX7_add_81 : decode cX7_add 81 = .ok (.ifCond .ge 6, 3) := by decide +kernel
theorem dX7_add_84 : decode cX7_add 84 = .ok (.bipush (-11), 2) := by decide +kernel
theorem dX7_add_86 : decode cX7_add 86 = .ok (.ireturn, 1) := by decide +kernel
theorem dX7_add_87 : decode cX7_add 87 = .ok (.aload_n 0, 1) := by decide +kernel
theorem dX7_add_88 : decode cX7_add 88 = .ok (.getfield 50, 3) := by decide +kernel
theorem dX7_add_91 : decode cX7_add 91 = .ok (.iload_n 1, 1) := by decide +kernel
theorem dX7_add_92 : decode cX7_add 92 = .ok (.iaload, 1) := by decide +kernel
theorem dX7_add_93 : decode cX7_add 93 = .ok (.bipush 8, 2) := by decide +kernel
theorem dX7_add_95 : decode cX7_add 95 = .ok (.if_icmp .ne 6, 3) := by decide +kernel
theorem dX7_add_98 : decode cX7_add 98 = .ok (.bipush (-14), 2) := by decide +kernel
theorem dX7_add_100 : decode cX7_add 100 = .ok (.ireturn, 1) := by decide +kernel
theorem dX7_add_101 : decode cX7_add 101 = .ok (.bipush 8, 2) := by decide +kernel
theorem dX7_add_103 : decode cX7_add 103 = .ok (.iload_n 1, 1) := by decide +kernel
theorem dX7_add_104 : decode cX7_add 104 = .ok (.imul, 1) := by decide +kernel
theorem dX7_add_105 : decode cX7_add 105 = .ok (.istore 5, 2) := by decide +kernel
theorem dX7_add_107 : decode cX7_add 107 = .ok (.iload_n 3, 1) := by decide +kernel
theorem dX7_add_108 : decode cX7_add 108 = .ok (.iconst 1, 1) := by decide +kernel
theorem dX7_add_109 : decode cX7_add 109 = .ok (.if_icmp .ne 12, 3) := by decide +kernel
theorem dX7_add_112 : decode cX7_add 112 = .ok (.aload_n 0, 1) := by decide +kernel
theorem dX7_add_113 : decode cX7_add 113 = .ok (.getfield 50, 3) := by decide +kernel
theorem dX7_add_116 : decode cX7_add 116 = .ok (.iload_n 1, 1) := by decide +kernel
theorem dX7_add_117 : decode cX7_add 117 = .ok (.iaload, 1) := by decide +kernel
theorem dX7_add_118 : decode cX7_add 118 = .ok (.goto 4, 3) := by decide +kernel
theorem dX7_add_121 : decode cX7_add 121 = .ok (.iconst 0, 1) := by decide +kernel
theorem dX7_add_122 : decode cX7_add 122 = .ok (.istore 6, 2) := by decide +kernel
theorem dX7_add_124 : decode cX7_add 124 = .ok (.aload_n 0, 1) := by decide +kernel
theorem dX7_add_125 : decode cX7_add 125 = .ok (.getfield 50, 3) := by decide +kernel
theorem dX7_add_128 : decode cX7_add 128 = .ok (.iload_n 1, 1) := by decide +kernel
theorem dX7_add_129 : decode cX7_add 129 = .ok (.iaload, 1) := by decide +kernel
theorem dX7_add_130 : decode cX7_add 130 = .ok (.istore 7, 2) := by decide +kernel
theorem dX7_add_132 : decode cX7_add 132 = .ok (.iload 7, 2) := by decide +kernel
theorem dX7_add_134 : decode cX7_add 134 = .ok (.iload 6, 2) := by decide +kernel
theorem dX7_add_136 : decode cX7_add 136 = .ok (.if_icmp .le 53, 3) := by decide +kernel
theorem dX7_add_139 : decode cX7_add 139 = .ok (.aload_n 0, 1) := by decide +kernel
theorem dX7_add_140 : decode cX7_add 140 = .ok (.getfield 53, 3) := by decide +kernel
theorem dX7_add_143 : decode cX7_add 143 = .ok (.iload 5, 2) := by decide +kernel
theorem dX7_add_145 : decode cX7_add 145 = .ok (.iload 7, 2) := by decide +kernel
theorem dX7_add_147 : decode cX7_add 147 = .ok (.iadd, 1) := by decide +kernel
theorem dX7_add_148 : decode cX7_add 148 = .ok (.aload_n 0, 1) := by decide +kernel
theorem dX7_add_149 : decode cX7_add 149 = .ok (.getfield 53, 3) := by decide +kernel
theorem dX7_add_152 : decode cX7_add 152 = .ok (.iload 5, 2) := by decide +kernel
theorem dX7_add_154 : decode cX7_add 154 = .ok (.iload 7, 2) := by decide +kernel
theorem dX7_add_156 : decode cX7_add 156 = .ok (.iadd, 1) := by decide +kernel
theorem dX7_add_157 : decode cX7_add 157 = .ok (.iconst 1, 1) := by decide +kernel
theorem dX7_add_158 : decode cX7_add 158 = .ok (.isub, 1) := by decide +kernel
theorem dX7_add_159 : decode cX7_add 159 = .ok (.iaload, 1) := by decide +kernel
theorem dX7_add_160 : decode cX7_add 160 = .ok (.iastore, 1) := by decide +kernel
theorem dX7_add_161 : decode cX7_add 161 = .ok (.aload_n 0, 1) := by decide +kernel
theorem dX7_add_162 : decode cX7_add 162 = .ok (.getfield 56, 3) := by decide +kernel
theorem dX7_add_165 : decode cX7_add 165 = .ok (.iload 5, 2) := by decide +kernel
theorem dX7_add_167 : decode cX7_add 167 = .ok (.iload 7, 2) := by decide +kernel
theorem dX7_add_169 : decode cX7_add 169 = .ok (.iadd, 1) := by decide +kernel
theorem dX7_add_170 : decode cX7_add 170 = .ok (.aload_n 0, 1) := by decide +kernel
theorem dX7_add_171 : decode cX7_add 171 = .ok (.getfield 56, 3) := by decide +kernel
theorem dX7_add_174 : decode cX7_add 174 = .ok (.iload 5, 2) := by decide +kernel
theorem dX7_add_176 : decode cX7_add 176 = .ok (.iload 7, 2) := by decide +kernel
theorem dX7_add_178 : decode cX7_add 178 = .ok (.iadd, 1) := by decide +kernel
theorem dX7_add_179 : decode cX7_add 179 = .ok (.iconst 1, 1) := by decide +kernel
theorem dX7_add_180 : decode cX7_add 180 = .ok (.isub, 1) := by decide +kernel
theorem dX7_add_181 : decode cX7_add 181 = .ok (.iaload, 1) := by decide +kernel
theorem dX7_add_182 : decode cX7_add 182 = .ok (.iastore, 1) := by decide +kernel
theorem dX7_add_183 : decode cX7_add 183 = .ok (.iinc 7 (-1), 3) := by decide +kernel
theorem dX7_add_186 : decode cX7_add 186 = .ok (.goto (-54), 3) := by decide +kernel
theorem dX7_add_189 : decode cX7_add 189 = .ok (.aload_n 0, 1) := by decide +kernel
theorem dX7_add_190 : decode cX7_add 190 = .ok (.getfield 53, 3) := by decide +kernel
theorem dX7_add_193 : decode cX7_add 193 = .ok (.iload 5, 2) := by decide +kernel
theorem dX7_add_195 : decode cX7_add 195 = .ok (.iload 6, 2) := by decide +kernel
theorem dX7_add_197 : decode cX7_add 197 = .ok (.iadd, 1) := by decide +kernel
theorem dX7_add_198 : decode cX7_add 198 = .ok (.iload_n 2, 1) := by decide +kernel
theorem dX7_add_199 : decode cX7_add 199 = .ok (.iastore, 1) := by decide +kernel
theorem dX7_add_200 : decode cX7_add 200 = .ok (.aload_n 0, 1) := by decide +kernel
theorem dX7_add_201 : decode cX7_add 201 = .ok (.getfield 56, 3) := by decide +kernel
theorem dX7_add_204 : decode cX7_add 204 = .ok (.iload 5, 2) := by decide +kernel
theorem dX7_add_206 : decode cX7_add 206 = .ok (.iload 6, 2) := by decide +kernel
theorem dX7_add_208 : decode cX7_add 208 = .ok (.iadd, 1) := by decide +kernel
theorem dX7_add_209 : decode cX7_add 209 = .ok (.iload 4, 2) := by decide +kernel
theorem dX7_add_211 : decode cX7_add 211 = .ok (.iastore, 1) := by decide +kernel
theorem dX7_add_212 : decode cX7_add 212 = .ok (.aload_n 0, 1) := by decide +kernel
theorem dX7_add_213 : decode cX7_add 213 = .ok (.getfield 50, 3) := by decide +kernel
theorem dX7_add_216 : decode cX7_add 216 = .ok (.iload_n 1, 1) := by decide +kernel
theorem dX7_add_217 : decode cX7_add 217 = .ok (.dup2, 1) := by decide +kernel
theorem dX7_add_218 : decode cX7_add 218 = .ok (.iaload, 1) := by decide +kernel
theorem dX7_add_219 : decode cX7_add 219 = .ok (.iconst 1, 1) := by decide +kernel
theorem dX7_add_220 : decode cX7_add 220 = .ok (.iadd, 1) := by decide +kernel
theorem dX7_add_221 : decode cX7_add 221 = .ok (.iastore, 1) := by decide +kernel
theorem dX7_add_222 : decode cX7_add 222 = .ok (.aload_n 0, 1) := by decide +kernel
theorem dX7_add_223 : decode cX7_add 223 = .ok (.getfield 50, 3) := by decide +kernel
theorem dX7_add_226 : decode cX7_add 226 = .ok (.iload_n 1, 1) := by decide +kernel
theorem dX7_add_227 : decode cX7_add 227 = .ok (.iaload, 1) := by decide +kernel
theorem dX7_add_228 : decode cX7_add 228 = .ok (.ireturn, 1) := by decide +kernel
theorem dX7_last_0 : decode cX7_last 0 = .ok (.iload_n 1, 1) := by decide +kernel
theorem dX7_last_1 : decode cX7_last 1 = .ok (.invokestatic 231, 3) := by decide +kernel
theorem dX7_last_4 : decode cX7_last 4 = .ok (.ifCond .ne 6, 3) := by decide +kernel
theorem dX7_last_7 : decode cX7_last 7 = .ok (.bipush (-2), 2) := by decide +kernel
theorem dX7_last_9 : decode cX7_last 9 = .ok (.ireturn, 1) := by decide +kernel
theorem dX7_last_10 : decode cX7_last 10 = .ok (.iload_n 2, 1) := by decide +kernel
theorem dX7_last_11 : decode cX7_last 11 = .ok (.iconst 1, 1) := by decide +kernel
theorem dX7_last_12 : decode cX7_last 12 = .ok (.invokestatic 234, 3) := by decide +kernel
theorem dX7_last_15 : decode cX7_last 15 = .ok (.ifCond .ne 6, 3) := by decide +kernel
theorem dX7_last_18 : decode cX7_last 18 = .ok (.bipush (-3), 2) := by decide +kernel
theorem dX7_last_20 : decode cX7_last 20 = .ok (.ireturn, 1) := by decide +kernel
theorem dX7_last_21 : decode cX7_last 21 = .ok (.aload_n 0, 1) := by decide +kernel
theorem dX7_last_22 : decode cX7_last 22 = .ok (.getfield 50, 3) := by decide +kernel
theorem dX7_last_25 : decode cX7_last 25 = .ok (.iload_n 1, 1) := by decide +kernel
theorem dX7_last_26 : decode cX7_last 26 = .ok (.iaload, 1) := by decide +kernel
theorem dX7_last_27 : decode cX7_last 27 = .ok (.ifCond .gt 20, 3) := by decide +kernel
theorem dX7_last_30 : decode cX7_last 30 = .ok (.aload_n 0, 1) := by decide +kernel
theorem dX7_last_31 : decode cX7_last 31 = .ok (.getfield 50, 3) := by decide +kernel
theorem dX7_last_34 : decode cX7_last 34 = .ok (.iload_n 1, 1) := by decide +kernel
theorem dX7_last_35 : decode cX7_last 35 = .ok (.iaload, 1) := by decide +kernel
theorem dX7_last_36 : decode cX7_last 36 = .ok (.ifCond .ge 8, 3) := by decide +kernel
theorem dX7_last_39 : decode cX7_last 39 = .ok (.bipush (-11), 2) := by decide +kernel
theorem dX7_last_41 : decode cX7_last 41 = .ok (.goto 5, 3) := by decide +kernel
theorem dX7_last_44 : decode cX7_last 44 = .ok (.bipush (-12), 2) := by decide +kernel
theorem dX7_last_46 : decode cX7_last 46 = .ok (.ireturn, 1) := by decide +kernel
theorem dX7_last_47 : decode cX7_last 47 = .ok (.bipush 8, 2) := by decide +kernel
theorem dX7_last_49 : decode cX7_last 49 = .ok (.iload_n 1, 1) := by decide +kernel
theorem dX7_last_50 : decode cX7_last 50 = .ok (.imul, 1) := by decide +kernel
theorem dX7_last_51 : decode cX7_last 51 = .ok (.aload_n 0, 1) := by decide +kernel
theorem dX7_last_52 : decode cX7_last 52 = .ok (.getfield 50, 3) := by decide +kernel
theorem dX7_last_55 : decode cX7_last 55 = .ok (.iload_n 1, 1) := by decide +kernel
theorem dX7_last_56 : decode cX7_last 56 = .ok (.iaload, 1) := by decide +kernel
theorem dX7_last_57 : decode cX7_last 57 = .ok (.iadd, 1) := by decide +kernel
theorem dX7_last_58 : decode cX7_last 58 = .ok (.iconst 1, 1) := by decide +kernel
theorem dX7_last_59 : decode cX7_last 59 = .ok (.isub, 1) := by decide +kernel
theorem dX7_last_60 : decode cX7_last 60 = .ok (.istore_n 3, 1) := by decide +kernel
theorem dX7_last_61 : decode cX7_last 61 = .ok (.aload_n 0, 1) := by decide +kernel
theorem dX7_last_62 : decode cX7_last 62 = .ok (.getfield 53, 3) := by decide +kernel
theorem dX7_last_65 : decode cX7_last 65 = .ok (.iload_n 3, 1) := by decide +kernel
theorem dX7_last_66 : decode cX7_last 66 = .ok (.iaload, 1) := by decide +kernel
theorem dX7_last_67 : decode cX7_last 67 = .ok (.iload_n 2, 1) := by decide +kernel
theorem dX7_last_68 : decode cX7_last 68 = .ok (.if_icmp .eq 6, 3) := by decide +kernel
theorem dX7_last_71 : decode cX7_last 71 = .ok (.bipush (-13), 2) := by decide +kernel
theorem dX7_last_73 : decode cX7_last 73 = .ok (.ireturn, 1) := by decide +kernel
theorem dX7_last_74 : decode cX7_last 74 = .ok (.aload_n 0, 1) := by decide +kernel
theorem dX7_last_75 : decode cX7_last 75 = .ok (.getfield 50, 3) := by decide +kernel
theorem dX7_last_78 : decode cX7_last 78 = .ok (.iload_n 1, 1) := by decide +kernel
theorem dX7_last_79 : decode cX7_last 79 = .ok (.dup2, 1) := by decide +kernel
theorem dX7_last_80 : decode cX7_last 80 = .ok (.iaload, 1) := by decide +kernel
theorem dX7_last_81 : decode cX7_last 81 = .ok (.iconst 1, 1) := by decide +kernel
theorem dX7_last_82 : decode cX7_last 82 = .ok (.isub, 1) := by decide +kernel
theorem dX7_last_83 : decode cX7_last 83 = .ok (.iastore, 1) := by decide +kernel
theorem dX7_last_84 : decode cX7_last 84 = .ok (.iload_n 2, 1) := by decide +kernel
theorem dX7_last_85 : decode cX7_last 85 = .ok (.ifCond .ne 15, 3) := by decide +kernel
theorem dX7_last_88 : decode cX7_last 88 = .ok (.aload_n 0, 1) := by decide +kernel
theorem dX7_last_89 : decode cX7_last 89 = .ok (.getfield 56, 3) := by decide +kernel
theorem dX7_last_92 : decode cX7_last 92 = .ok (.iload_n 3, 1) := by decide +kernel
theorem dX7_last_93 : decode cX7_last 93 = .ok (.iaload, 1) := by decide +kernel
theorem dX7_last_94 : decode cX7_last 94 = .ok (.ldc 241, 2) := by decide +kernel
theorem dX7_last_96 : decode cX7_last 96 = .ok (.iadd, 1) := by decide +kernel
theorem dX7_last_97 : decode cX7_last 97 = .ok (.goto 9, 3) := by decide +kernel
theorem dX7_last_100 : decode cX7_last 100 = .ok (.aload_n 0, 1) := by decide +kernel
theorem dX7_last_101 : decode cX7_last 101 = .ok (.getfield 56, 3) := by decide +kernel
theorem dX7_last_104 : decode cX7_last 104 = .ok (.iload_n 3, 1) := by decide +kernel
theorem dX7_last_105 : decode cX7_last 105 = .ok (.iaload, 1) := by decide +kernel
theorem dX7_last_106 : decode cX7_last 106 = .ok (.ireturn, 1) := by decide +kernel
theorem dX7_sum_0 : decode cX7_sum 0 = .ok (.iload_n 1, 1) := by decide +kernel
theorem dX7_sum_1 : decode cX7_sum 1 = .ok (.invokestatic 231, 3) := by decide +kernel
theorem dX7_sum_4 : decode cX7_sum 4 = .ok (.ifCond .ne 6, 3) := by decide +kernel
theorem dX7_sum_7 : decode cX7_sum 7 = .ok (.bipush (-2), 2) := by decide +kernel
theorem dX7_sum_9 : decode cX7_sum 9 = .ok (.ireturn, 1) := by decide +kernel
theorem dX7_sum_10 : decode cX7_sum 10 = .ok (.iload_n 2, 1) := by decide +kernel
theorem dX7_sum_11 : decode cX7_sum 11 = .ok (.iconst 2, 1) := by decide +kernel
theorem dX7_sum_12 : decode cX7_sum 12 = .ok (.invokestatic 234, 3) := by decide +kernel
theorem dX7_sum_15 : decode cX7_sum 15 = .ok (.ifCond .ne 6, 3) := by decide +kernel
theorem dX7_sum_18 : decode cX7_sum 18 = .ok (.bipush (-3), 2) := by decide +kernel
theorem dX7_sum_20 : decode cX7_sum 20 = .ok (.ireturn, 1) := by decide +kernel
theorem dX7_sum_21 : decode cX7_sum 21 = .ok (.aload_n 0, 1) := by decide +kernel
theorem dX7_sum_22 : decode cX7_sum 22 = .ok (.getfield 50, 3) := by decide +kernel
theorem dX7_sum_25 : decode cX7_sum 25 = .ok (.iload_n 1, 1) := by decide +kernel
theorem dX7_sum_26 : decode cX7_sum 26 = .ok (.iaload, 1) := by decide +kernel
theorem dX7_sum_27 : decode cX7_sum 27 = .ok (.ifCond .ge 6, 3) := by decide +kernel
theorem dX7_sum_30 : decode cX7_sum 30 = .ok (.bipush (-11), 2) := by decide +kernel
theorem dX7_sum_32 : decode cX7_sum 32 = .ok (.ireturn, 1) := by decide +kernel
theorem dX7_sum_33 : decode cX7_sum 33 = .ok (.ldc 242, 2) := by decide +kernel
theorem dX7_sum_35 : decode cX7_sum 35 = .ok (.istore_n 3, 1) := by decide +kernel
theorem dX7_sum_36 : decode cX7_sum 36 = .ok (.iconst 0, 1) := by decide +kernel
theorem dX7_sum_37 : decode cX7_sum 37 = .ok (.istore 4, 2) := by decide +kernel
theorem dX7_sum_39 : decode cX7_sum 39 = .ok (.iload 4, 2) := by decide +kernel
theorem dX7_sum_41 : decode cX7_sum 41 = .ok (.aload_n 0, 1) := by decide +kernel
theorem dX7_sum_42 : decode cX7_sum 42 = .ok (.getfield 50, 3) := by decide +kernel
theorem dX7_sum_45 : decode cX7_sum 45 = .ok (.iload_n 1, 1) := by decide +kernel
theorem dX7_sum_46 : decode cX7_sum 46 = .ok (.iaload, 1) := by decide +kernel
theorem dX7_sum_47 : decode cX7_sum 47 = .ok (.if_icmp .ge 48, 3) := by decide +kernel
theorem dX7_sum_50 : decode cX7_sum 50 = .ok (.bipush 8, 2) := by decide +kernel
theorem dX7_sum_52 : decode cX7_sum 52 = .ok (.iload_n 1, 1) := by decide +kernel
theorem dX7_sum_53 : decode cX7_sum 53 = .ok (.imul, 1) := by decide +kernel
theorem dX7_sum_54 : decode cX7_sum 54 = .ok (.iload 4, 2) := by decide +kernel
theorem dX7_sum_56 : decode cX7_sum 56 = .ok (.iadd, 1) := by decide +kernel
theorem dX7_sum_57 : decode cX7_sum 57 = .ok (.istore 5, 2) := by decide +kernel
theorem dX7_sum_59 : decode cX7_sum 59 = .ok (.iload_n 3, 1) := by decide +kernel
theorem dX7_sum_60 : decode cX7_sum 60 = .ok (.iload_n 2, 1) := by decide +kernel
theorem dX7_sum_61 : decode cX7_sum 61 = .ok (.iconst 2, 1) := by decide +kernel
theorem dX7_sum_62 : decode cX7_sum 62 = .ok (.if_icmp .eq 14, 3) := by decide +kernel
theorem dX7_sum_65 : decode cX7_sum 65 = .ok (.aload_n 0, 1) := by decide +kernel
theorem dX7_sum_66 : decode cX7_sum 66 = .ok (.getfield 53, 3) := by decide +kernel
theorem dX7_sum_69 : decode cX7_sum 69 = .ok (.iload 5, 2) := by decide +kernel
theorem dX7_sum_71 : decode cX7_sum 71 = .ok (.iaload, 1) := by decide +kernel
theorem dX7_sum_72 : decode cX7_sum 72 = .ok (.iload_n 2, 1) := by decide +kernel
theorem dX7_sum_73 : decode cX7_sum 73 = .ok (.if_icmp .ne 13, 3) := by decide +kernel
theorem dX7_sum_76 : decode cX7_sum 76 = .ok (.aload_n 0, 1) := by decide +kernel
theorem dX7_sum_77 : decode cX7_sum 77 = .ok (.getfield 56, 3) := by decide +kernel
theorem dX7_sum_80 : decode cX7_sum 80 = .ok (.iload 5, 2) := by decide +kernel
theorem dX7_sum_82 : decode cX7_sum 82 = .ok (.iaload, 1) := by decide +kernel
theorem dX7_sum_83 : decode cX7_sum 83 = .ok (.goto 4, 3) := by decide +kernel
theorem dX7_sum_86 : decode cX7_sum 86 = .ok (.iconst 0, 1) := by decide +kernel
theorem dX7_sum_87 : decode cX7_sum 87 = .ok (.iadd, 1) := by decide +kernel
theorem dX7_sum_88 : decode cX7_sum 88 = .ok (.istore_n 3, 1) := by decide +kernel
theorem dX7_sum_89 : decode cX7_sum 89 = .ok (.iinc 4 1, 3) := by decide +kernel
theorem dX7_sum_92 : decode cX7_sum 92 = .ok (.goto (-53), 3) := by decide +kernel
theorem dX7_sum_95 : decode cX7_sum 95 = .ok (.iload_n 3, 1) := by decide +kernel
theorem dX7_sum_96 : decode cX7_sum 96 = .ok (.ireturn, 1) := by decide +kernel
theorem dX7_strike_0 : decode cX7_strike 0 = .ok (.iload_n 1, 1) := by decide +kernel
theorem dX7_strike_1 : decode cX7_strike 1 = .ok (.invokestatic 231, 3) := by decide +kernel
theorem dX7_strike_4 : decode cX7_strike 4 = .ok (.ifCond .ne 6, 3) := by decide +kernel
theorem dX7_strike_7 : decode cX7_strike 7 = .ok (.bipush (-2), 2) := by decide +kernel
theorem dX7_strike_9 : decode cX7_strike 9 = .ok (.ireturn, 1) := by decide +kernel
theorem dX7_strike_10 : decode cX7_strike 10 = .ok (.iload_n 2, 1) := by decide +kernel
theorem dX7_strike_11 : decode cX7_strike 11 = .ok (.iconst 1, 1) := by decide +kernel
theorem dX7_strike_12 : decode cX7_strike 12 = .ok (.invokestatic 234, 3) := by decide +kernel
theorem dX7_strike_15 : decode cX7_strike 15 = .ok (.ifCond .ne 6, 3) := by decide +kernel
theorem dX7_strike_18 : decode cX7_strike 18 = .ok (.bipush (-3), 2) := by decide +kernel
theorem dX7_strike_20 : decode cX7_strike 20 = .ok (.ireturn, 1) := by decide +kernel
theorem dX7_strike_21 : decode cX7_strike 21 = .ok (.aload_n 0, 1) := by decide +kernel
theorem dX7_strike_22 : decode cX7_strike 22 = .ok (.getfield 50, 3) := by decide +kernel
theorem dX7_strike_25 : decode cX7_strike 25 = .ok (.iload_n 1, 1) := by decide +kernel
theorem dX7_strike_26 : decode cX7_strike 26 = .ok (.iaload, 1) := by decide +kernel
theorem dX7_strike_27 : decode cX7_strike 27 = .ok (.ifCond .ge 6, 3) := by decide +kernel
theorem dX7_strike_30 : decode cX7_strike 30 = .ok (.bipush (-11), 2) := by decide +kernel
theorem dX7_strike_32 : decode cX7_strike 32 = .ok (.ireturn, 1) := by decide +kernel
theorem dX7_strike_33 : decode cX7_strike 33 = .ok (.iconst 0, 1) := by decide +kernel
theorem dX7_strike_34 : decode cX7_strike 34 = .ok (.istore_n 3, 1) := by decide +kernel
theorem dX7_strike_35 : decode cX7_strike 35 = .ok (.aload_n 0, 1) := by decide +kernel
theorem dX7_strike_36 : decode cX7_strike 36 = .ok (.getfield 50, 3) := by decide +kernel
theorem dX7_strike_39 : decode cX7_strike 39 = .ok (.iload_n 1, 1) := by decide +kernel
theorem dX7_strike_40 : decode cX7_strike 40 = .ok (.iaload, 1) := by decide +kernel
theorem dX7_strike_41 : decode cX7_strike 41 = .ok (.istore 4, 2) := by decide +kernel
theorem dX7_strike_43 : decode cX7_strike 43 = .ok (.iconst 0, 1) := by decide +kernel
theorem dX7_strike_44 : decode cX7_strike 44 = .ok (.istore 5, 2) := by decide +kernel
theorem dX7_strike_46 : decode cX7_strike 46 = .ok (.iload 5, 2) := by decide +kernel
theorem dX7_strike_48 : decode cX7_strike 48 = .ok (.iload 4, 2) := by decide +kernel
theorem dX7_strike_50 : decode cX7_strike 50 = .ok (.if_icmp .ge 117, 3) := by decide +kernel
theorem dX7_strike_53 : decode cX7_strike 53 = .ok (.bipush 8, 2) := by decide +kernel
theorem dX7_strike_55 : decode cX7_strike 55 = .ok (.iload_n 1, 1) := by decide +kernel
theorem dX7_strike_56 : decode cX7_strike 56 = .ok (.imul, 1) := by decide +kernel
theorem dX7_strike_57 : decode cX7_strike 57 = .ok (.iload 5, 2) := by decide +kernel
theorem dX7_strike_59 : decode cX7_strike 59 = .ok (.iadd, 1) := by decide +kernel
theorem dX7_strike_60 : decode cX7_strike 60 = .ok (.istore 6, 2) := by decide +kernel
theorem dX7_strike_62 : decode cX7_strike 62 = .ok (.aload_n 0, 1) := by decide +kernel
theorem dX7_strike_63 : decode cX7_strike 63 = .ok (.getfield 53, 3) := by decide +kernel
theorem dX7_strike_66 : decode cX7_strike 66 = .ok (.iload 6, 2) := by decide +kernel
theorem dX7_strike_68 : decode cX7_strike 68 = .ok (.iaload, 1) := by decide +kernel
theorem dX7_strike_69 : decode cX7_strike 69 = .ok (.iconst 1, 1) := by decide +kernel
theorem dX7_strike_70 : decode cX7_strike 70 = .ok (.if_icmp .ne 44, 3) := by decide +kernel
theorem dX7_strike_73 : decode cX7_strike 73 = .ok (.aload_n 0, 1) := by decide +kernel
theorem dX7_strike_74 : decode cX7_strike 74 = .ok (.aload_n 0, 1) := by decide +kernel
theorem dX7_strike_75 : decode cX7_strike 75 = .ok (.getfield 56, 3) := by decide +kernel
theorem dX7_strike_78 : decode cX7_strike 78 = .ok (.iload 6, 2) := by decide +kernel
theorem dX7_strike_80 : decode cX7_strike 80 = .ok (.iaload, 1) := by decide +kernel
theorem dX7_strike_81 : decode cX7_strike 81 = .ok (.bipush 10, 2) := by decide +kernel
theorem dX7_strike_83 : decode cX7_strike 83 = .ok (.idiv, 1) := by decide +kernel
theorem dX7_strike_84 : decode cX7_strike 84 = .ok (.aload_n 0, 1) := by decide +kernel
theorem dX7_strike_85 : decode cX7_strike 85 = .ok (.getfield 56, 3) := by decide +kernel
theorem dX7_strike_88 : decode cX7_strike 88 = .ok (.iload 6, 2) := by decide +kernel
theorem dX7_strike_90 : decode cX7_strike 90 = .ok (.iaload, 1) := by decide +kernel
theorem dX7_strike_91 : decode cX7_strike 91 = .ok (.bipush 10, 2) := by decide +kernel
theorem dX7_strike_93 : decode cX7_strike 93 = .ok (.irem, 1) := by decide +kernel
theorem dX7_strike_94 : decode cX7_strike 94 = .ok (.invokevirtual 171, 3) := by decide +kernel
theorem dX7_strike_97 : decode cX7_strike 97 = .ok (.iload_n 2, 1) := by decide +kernel
theorem dX7_strike_98 : decode cX7_strike 98 = .ok (.iconst 1, 1) := by decide +kernel
theorem dX7_strike_99 : decode cX7_strike 99 = .ok (.if_icmp .ne 7, 3) := by decide +kernel
theorem dX7_strike_102 : decode cX7_strike 102 = .ok (.iconst 1, 1) := by decide +kernel
theorem dX7_strike_103 : decode cX7_strike 103 = .ok (.goto 4, 3) := by decide +kernel
theorem dX7_strike_106 : decode cX7_strike 106 = .ok (.iconst 0, 1) := by decide +kernel
theorem dX7_strike_107 : decode cX7_strike 107 = .ok (.if_icmp .ne 7, 3) := by decide +kernel
theorem dX7_strike_110 : decode cX7_strike 110 = .ok (.iconst 1, 1) := by decide +kernel
theorem dX7_strike_111 : decode cX7_strike 111 = .ok (.goto 4, 3) := by decide +kernel
theorem dX7_strike_114 : decode cX7_strike 114 = .ok (.iconst 0, 1) := by decide +kernel
theorem dX7_strike_115 : decode cX7_strike 115 = .ok (.istore 7, 2) := by decide +kernel
theorem dX7_strike_117 : decode cX7_strike 117 = .ok (.iload 7, 2) := by decide +kernel
theorem dX7_strike_119 : decode cX7_strike 119 = .ok (.ifCond .ne 42, 3) := by decide +kernel
theorem dX7_strike_122 : decode cX7_strike 122 = .ok (.aload_n 0, 1) := by decide +kernel
theorem dX7_strike_123 : decode cX7_strike 123 = .ok (.getfield 53, 3) := by decide +kernel
theorem dX7_strike_126 : decode cX7_strike 126 = .ok (.bipush 8, 2) := by decide +kernel
theorem dX7_strike_128 : decode cX7_strike 128 = .ok (.iload_n 1, 1) := by decide +kernel
theorem dX7_strike_129 : decode cX7_strike 129 = .ok (.imul, 1) := by decide +kernel
theorem dX7_strike_130 : decode cX7_strike 130 = .ok (.iload_n 3, 1) := by decide +kernel
theorem dX7_strike_131 : decode cX7_strike 131 = .ok (.iadd, 1) := by decide +kernel
theorem dX7_strike_132 : decode cX7_strike 132 = .ok (.aload_n 0, 1) := by decide +kernel
theorem dX7_strike_133 : decode cX7_strike 133 = .ok (.getfield 53, 3) := by decide +kernel
theorem dX7_strike_136 : decode cX7_strike 136 = .ok (.iload 6, 2) := by decide +kernel
theorem dX7_strike_138 : decode cX7_strike 138 = .ok (.iaload, 1) := by decide +kernel
theorem dX7_strike_139 : decode cX7_strike 139 = .ok (.iastore, 1) := by decide +kernel
theorem dX7_strike_140 : decode cX7_strike 140 = .ok (.aload_n 0, 1) := by decide +kernel
theorem dX7_strike_141 : decode cX7_strike 141 = .ok (.getfield 56, 3) := by decide +kernel
theorem dX7_strike_144 : decode cX7_strike 144 = .ok (.bipush 8, 2) := by decide +kernel
theorem dX7_strike_146 : decode cX7_strike 146 = .ok (.iload_n 1, 1) := by decide +kernel
theorem dX7_strike_147 : decode cX7_strike 147 = .ok (.imul, 1) := by decide +kernel
theorem dX7_strike_148 : decode cX7_strike 148 = .ok (.iload_n 3, 1) := by decide +kernel
theorem dX7_strike_149 : decode cX7_strike 149 = .ok (.iadd, 1) := by decide +kernel
theorem dX7_strike_150 : decode cX7_strike 150 = .ok (.aload_n 0, 1) := by decide +kernel
theorem dX7_strike_151 : decode cX7_strike 151 = .ok (.getfield 56, 3) := by decide +kernel
theorem dX7_strike_154 : decode cX7_strike 154 = .ok (.iload 6, 2) := by decide +kernel
theorem dX7_strike_156 : decode cX7_strike 156 = .ok (.iaload, 1) := by decide +kernel
theorem dX7_strike_157 : decode cX7_strike 157 = .ok (.iastore, 1) := by decide +kernel
theorem dX7_strike_158 : decode cX7_strike 158 = .ok (.iinc 3 1, 3) := by decide +kernel
theorem dX7_strike_161 : decode cX7_strike 161 = .ok (.iinc 5 1, 3) := by decide +kernel
theorem dX7_strike_164 : decode cX7_strike 164 = .ok (.goto (-118), 3) := by decide +kernel
theorem dX7_strike_167 : decode cX7_strike 167 = .ok (.aload_n 0, 1) := by decide +kernel
theorem dX7_strike_168 : decode cX7_strike 168 = .ok (.getfield 50, 3) := by decide +kernel
theorem dX7_strike_171 : decode cX7_strike 171 = .ok (.iload_n 1, 1) := by decide +kernel
theorem dX7_strike_172 : decode cX7_strike 172 = .ok (.iload_n 3, 1) := by decide +kernel
theorem dX7_strike_173 : decode cX7_strike 173 = .ok (.iastore, 1) := by decide +kernel
theorem dX7_strike_174 : decode cX7_strike 174 = .ok (.iload 4, 2) := by decide +kernel
theorem dX7_strike_176 : decode cX7_strike 176 = .ok (.iload_n 3, 1) := by decide +kernel
theorem dX7_strike_177 : decode cX7_strike 177 = .ok (.isub, 1) := by decide +kernel
theorem dX7_strike_178 : decode cX7_strike 178 = .ok (.ireturn, 1) := by decide +kernel
theorem dX7_append_0 : decode cX7_append 0 = .ok (.iload_n 1, 1) := by decide +kernel
theorem dX7_append_1 : decode cX7_append 1 = .ok (.invokestatic 231, 3) := by decide +kernel
theorem dX7_append_4 : decode cX7_append 4 = .ok (.ifCond .eq 10, 3) := by decide +kernel
theorem dX7_append_7 : decode cX7_append 7 = .ok (.iload_n 2, 1) := by decide +kernel
theorem dX7_append_8 : decode cX7_append 8 = .ok (.invokestatic 231, 3) := by decide +kernel
theorem dX7_append_11 : decode cX7_append 11 = .ok (.ifCond .ne 6, 3) := by decide +kernel
theorem dX7_append_14 : decode cX7_append 14 = .ok (.bipush (-2), 2) := by decide +kernel
theorem dX7_append_16 : decode cX7_append 16 = .ok (.ireturn, 1) := by decide +kernel
theorem dX7_append_17 : decode cX7_append 17 = .ok (.aload_n 0, 1) := by decide +kernel
theorem dX7_append_18 : decode cX7_append 18 = .ok (.getfield 50, 3) := by decide +kernel
theorem dX7_append_21 : decode cX7_append 21 = .ok (.iload_n 1, 1) := by decide +kernel
theorem dX7_append_22 : decode cX7_append 22 = .ok (.iaload, 1) := by decide +kernel
theorem dX7_append_23 : decode cX7_append 23 = .ok (.ifCond .lt 12, 3) := by decide +kernel
theorem dX7_append_26 : decode cX7_append 26 = .ok (.aload_n 0, 1) := by decide +kernel
theorem dX7_append_27 : decode cX7_append 27 = .ok (.getfield 50, 3) := by decide +kernel
theorem dX7_append_30 : decode cX7_append 30 = .ok (.iload_n 2, 1) := by decide +kernel
theorem dX7_append_31 : decode cX7_append 31 = .ok (.iaload, 1) := by decide +kernel
theorem dX7_append_32 : decode cX7_append 32 = .ok (.ifCond .ge 6, 3) := by decide +kernel
theorem dX7_append_35 : decode cX7_append 35 = .ok (.bipush (-11), 2) := by decide +kernel
theorem dX7_append_37 : decode cX7_append 37 = .ok (.ireturn, 1) := by decide +kernel
theorem dX7_append_38 : decode cX7_append 38 = .ok (.aload_n 0, 1) := by decide +kernel
theorem dX7_append_39 : decode cX7_append 39 = .ok (.getfield 50, 3) := by decide +kernel
theorem dX7_append_42 : decode cX7_append 42 = .ok (.iload_n 1, 1) := by decide +kernel
theorem dX7_append_43 : decode cX7_append 43 = .ok (.iaload, 1) := by decide +kernel
theorem dX7_append_44 : decode cX7_append 44 = .ok (.istore_n 3, 1) := by decide +kernel
theorem dX7_append_45 : decode cX7_append 45 = .ok (.iload_n 3, 1) := by decide +kernel
theorem dX7_append_46 : decode cX7_append 46 = .ok (.aload_n 0, 1) := by decide +kernel
theorem dX7_append_47 : decode cX7_append 47 = .ok (.getfield 50, 3) := by decide +kernel
theorem dX7_append_50 : decode cX7_append 50 = .ok (.iload_n 2, 1) := by decide +kernel
theorem dX7_append_51 : decode cX7_append 51 = .ok (.iaload, 1) := by decide +kernel
theorem dX7_append_52 : decode cX7_append 52 = .ok (.iadd, 1) := by decide +kernel
theorem dX7_append_53 : decode cX7_append 53 = .ok (.bipush 8, 2) := by decide +kernel
theorem dX7_append_55 : decode cX7_append 55 = .ok (.if_icmp .le 6, 3) := by decide +kernel
theorem dX7_append_58 : decode cX7_append 58 = .ok (.bipush (-14), 2) := by decide +kernel
theorem dX7_append_60 : decode cX7_append 60 = .ok (.ireturn, 1) := by decide +kernel
theorem dX7_append_61 : decode cX7_append 61 = .ok (.iconst 0, 1) := by decide +kernel
theorem dX7_append_62 : decode cX7_append 62 = .ok (.istore 4, 2) := by decide +kernel
theorem dX7_append_64 : decode cX7_append 64 = .ok (.iload 4, 2) := by decide +kernel
theorem dX7_append_66 : decode cX7_append 66 = .ok (.iload_n 3, 1) := by decide +kernel
theorem dX7_append_67 : decode cX7_append 67 = .ok (.if_icmp .ge 75, 3) := by decide +kernel
theorem dX7_append_70 : decode cX7_append 70 = .ok (.aload_n 0, 1) := by decide +kernel
theorem dX7_append_71 : decode cX7_append 71 = .ok (.getfield 53, 3) := by decide +kernel
theorem dX7_append_74 : decode cX7_append 74 = .ok (.bipush 8, 2) := by decide +kernel
theorem dX7_append_76 : decode cX7_append 76 = .ok (.iload_n 2, 1) := by decide +kernel
theorem dX7_append_77 : decode cX7_append 77 = .ok (.imul, 1) := by decide +kernel
theorem dX7_append_78 : decode cX7_append 78 = .ok (.aload_n 0, 1) := by decide +kernel
theorem dX7_append_79 : decode cX7_append 79 = .ok (.getfield 50, 3) := by decide +kernel
theorem dX7_append_82 : decode cX7_append 82 = .ok (.iload_n 2, 1) := by decide +kernel
theorem dX7_append_83 : decode cX7_append 83 = .ok (.iaload, 1) := by decide +kernel
theorem dX7_append_84 : decode cX7_append 84 = .ok (.iadd, 1) := by decide +kernel
theorem dX7_append_85 : decode cX7_append 85 = .ok (.aload_n 0, 1) := by decide +kernel
theorem dX7_append_86 : decode cX7_append 86 = .ok (.getfield 53, 3) := by decide +kernel
theorem dX7_append_89 : decode cX7_append 89 = .ok (.bipush 8, 2) := by decide +kernel
theorem dX7_append_91 : decode cX7_append 91 = .ok (.iload_n 1, 1) := by decide +kernel
theorem dX7_append_92 : decode cX7_append 92 = .ok (.imul, 1) := by decide +kernel
theorem dX7_append_93 : decode cX7_append 93 = .ok (.iload 4, 2) := by decide +kernel
theorem dX7_append_95 : decode cX7_append 95 = .ok (.iadd, 1) := by decide +kernel
theorem dX7_append_96 : decode cX7_append 96 = .ok (.iaload, 1) := by decide +kernel
theorem dX7_append_97 : decode cX7_append 97 = .ok (.iastore, 1) := by decide +kernel
theorem dX7_append_98 : decode cX7_append 98 = .ok (.aload_n 0, 1) := by decide +kernel
theorem dX7_append_99 : decode cX7_append 99 = .ok (.getfield 56, 3) := by decide +kernel
theorem dX7_append_102 : decode cX7_append 102 = .ok (.bipush 8, 2) := by decide +kernel
theorem dX7_append_104 : decode cX7_append 104 = .ok (.iload_n 2, 1) := by decide +kernel
theorem dX7_append_105 : decode cX7_append 105 = .ok (.imul, 1) := by decide +kernel
theorem dX7_append_106 : decode cX7_append 106 = .ok (.aload_n 0, 1) := by decide +kernel
theorem dX7_append_107 : decode cX7_append 107 = .ok (.getfield 50, 3) := by decide +kernel
theorem dX7_append_110 : decode cX7_append 110 = .ok (.iload_n 2, 1) := by decide +kernel
theorem dX7_append_111 : decode cX7_append 111 = .ok (.iaload, 1) := by decide +kernel
theorem dX7_append_112 : decode cX7_append 112 = .ok (.iadd, 1) := by decide +kernel
theorem dX7_append_113 : decode cX7_append 113 = .ok (.aload_n 0, 1) := by decide +kernel
theorem dX7_append_114 : decode cX7_append 114 = .ok (.getfield 56, 3) := by decide +kernel
theorem dX7_append_117 : decode cX7_append 117 = .ok (.bipush 8, 2) := by decide +kernel
theorem dX7_append_119 : decode cX7_append 119 = .ok (.iload_n 1, 1) := by decide +kernel
theorem dX7_append_120 : decode cX7_append 120 = .ok (.imul, 1) := by decide +kernel
theorem dX7_append_121 : decode cX7_append 121 = .ok (.iload 4, 2) := by decide +kernel
theorem dX7_append_123 : decode cX7_append 123 = .ok (.iadd, 1) := by decide +kernel
theorem dX7_append_124 : decode cX7_append 124 = .ok (.iaload, 1) := by decide +kernel
theorem dX7_append_125 : decode cX7_append 125 = .ok (.iastore, 1) := by decide +kernel
theorem dX7_append_126 : decode cX7_append 126 = .ok (.aload_n 0, 1) := by decide +kernel
theorem dX7_append_127 : decode cX7_append 127 = .ok (.getfield 50, 3) := by decide +kernel
theorem dX7_append_130 : decode cX7_append 130 = .ok (.iload_n 2, 1) := by decide +kernel
theorem dX7_append_131 : decode cX7_append 131 = .ok (.dup2, 1) := by decide +kernel
theorem dX7_append_132 : decode cX7_append 132 = .ok (.iaload, 1) := by decide +kernel
theorem dX7_append_133 : decode cX7_append 133 = .ok (.iconst 1, 1) := by decide +kernel
theorem dX7_append_134 : decode cX7_append 134 = .ok (.iadd, 1) := by decide +kernel
theorem dX7_append_135 : decode cX7_append 135 = .ok (.iastore, 1) := by decide +kernel
theorem dX7_append_136 : decode cX7_append 136 = .ok (.iinc 4 1, 3) := by decide +kernel
theorem dX7_append_139 : decode cX7_append 139 = .ok (.goto (-75), 3) := by decide +kernel
theorem dX7_append_142 : decode cX7_append 142 = .ok (.aload_n 0, 1) := by decide +kernel
theorem dX7_append_143 : decode cX7_append 143 = .ok (.getfield 50, 3) := by decide +kernel
theorem dX7_append_146 : decode cX7_append 146 = .ok (.iload_n 2, 1) := by decide +kernel
theorem dX7_append_147 : decode cX7_append 147 = .ok (.iaload, 1) := by decide +kernel
theorem dX7_append_148 : decode cX7_append 148 = .ok (.ireturn, 1) := by decide +kernel
theorem dX7_drop_0 : decode cX7_drop 0 = .ok (.iload_n 1, 1) := by decide +kernel
theorem dX7_drop_1 : decode cX7_drop 1 = .ok (.invokestatic 231, 3) := by decide +kernel
theorem dX7_drop_4 : decode cX7_drop 4 = .ok (.ifCond .ne 6, 3) := by decide +kernel
theorem dX7_drop_7 : decode cX7_drop 7 = .ok (.bipush (-2), 2) := by decide +kernel
theorem dX7_drop_9 : decode cX7_drop 9 = .ok (.ireturn, 1) := by decide +kernel
theorem dX7_drop_10 : decode cX7_drop 10 = .ok (.aload_n 0, 1) := by decide +kernel
theorem dX7_drop_11 : decode cX7_drop 11 = .ok (.getfield 50, 3) := by decide +kernel
theorem dX7_drop_14 : decode cX7_drop 14 = .ok (.iload_n 1, 1) := by decide +kernel
theorem dX7_drop_15 : decode cX7_drop 15 = .ok (.iaload, 1) := by decide +kernel
theorem dX7_drop_16 : decode cX7_drop 16 = .ok (.istore_n 2, 1) := by decide +kernel
theorem dX7_drop_17 : decode cX7_drop 17 = .ok (.aload_n 0, 1) := by decide +kernel
theorem dX7_drop_18 : decode cX7_drop 18 = .ok (.getfield 50, 3) := by decide +kernel
theorem dX7_drop_21 : decode cX7_drop 21 = .ok (.iload_n 1, 1) := by decide +kernel
theorem dX7_drop_22 : decode cX7_drop 22 = .ok (.iconst (-1), 1) := by decide +kernel
theorem dX7_drop_23 : decode cX7_drop 23 = .ok (.iastore, 1) := by decide +kernel
theorem dX7_drop_24 : decode cX7_drop 24 = .ok (.iload_n 2, 1) := by decide +kernel
theorem dX7_drop_25 : decode cX7_drop 25 = .ok (.ifCond .ge 8, 3) := by decide +kernel
theorem dX7_drop_28 : decode cX7_drop 28 = .ok (.bipush (-11), 2) := by decide +kernel
theorem dX7_drop_30 : decode cX7_drop 30 = .ok (.goto 4, 3) := by decide +kernel
theorem dX7_drop_33 : decode cX7_drop 33 = .ok (.iload_n 2, 1) := by decide +kernel
theorem dX7_drop_34 : decode cX7_drop 34 = .ok (.ireturn, 1) := by decide +kernel
theorem dX7_allThings_0 : decode cX7_allThings 0 = .ok (.iconst 0, 1) := by decide +kernel
theorem dX7_allThings_1 : decode cX7_allThings 1 = .ok (.istore_n 1, 1) := by decide +kernel
theorem dX7_allThings_2 : decode cX7_allThings 2 = .ok (.iconst 0, 1) := by decide +kernel
theorem dX7_allThings_3 : decode cX7_allThings 3 = .ok (.istore_n 2, 1) := by decide +kernel
theorem dX7_allThings_4 : decode cX7_allThings 4 = .ok (.iload_n 2, 1) := by decide +kernel
theorem dX7_allThings_5 : decode cX7_allThings 5 = .ok (.iconst 3, 1) := by decide +kernel
theorem dX7_allThings_6 : decode cX7_allThings 6 = .ok (.if_icmp .ge 31, 3) := by decide +kernel
theorem dX7_allThings_9 : decode cX7_allThings 9 = .ok (.iload_n 1, 1) := by decide +kernel
theorem dX7_allThings_10 : decode cX7_allThings 10 = .ok (.aload_n 0, 1) := by decide +kernel
theorem dX7_allThings_11 : decode cX7_allThings 11 = .ok (.getfield 50, 3) := by decide +kernel
theorem dX7_allThings_14 : decode cX7_allThings 14 = .ok (.iload_n 2, 1) := by decide +kernel
theorem dX7_allThings_15 : decode cX7_allThings 15 = .ok (.iaload, 1) := by decide +kernel
theorem dX7_allThings_16 : decode cX7_allThings 16 = .ok (.ifCond .le 12, 3) := by decide +kernel
theorem dX7_allThings_19 : decode cX7_allThings 19 = .ok (.aload_n 0, 1) := by decide +kernel
theorem dX7_allThings_20 : decode cX7_allThings 20 = .ok (.getfield 50, 3) := by decide +kernel
theorem dX7_allThings_23 : decode cX7_allThings 23 = .ok (.iload_n 2, 1) := by decide +kernel
theorem dX7_allThings_24 : decode cX7_allThings 24 = .ok (.iaload, 1) := by decide +kernel
theorem dX7_allThings_25 : decode cX7_allThings 25 = .ok (.goto 4, 3) := by decide +kernel
theorem dX7_allThings_28 : decode cX7_allThings 28 = .ok (.iconst 0, 1) := by decide +kernel
theorem dX7_allThings_29 : decode cX7_allThings 29 = .ok (.iadd, 1) := by decide +kernel
theorem dX7_allThings_30 : decode cX7_allThings 30 = .ok (.istore_n 1, 1) := by decide +kernel
theorem dX7_allThings_31 : decode cX7_allThings 31 = .ok (.iinc 2 1, 3) := by decide +kernel
theorem dX7_allThings_34 : decode cX7_allThings 34 = .ok (.goto (-30), 3) := by decide +kernel
theorem dX7_allThings_37 : decode cX7_allThings 37 = .ok (.iload_n 1, 1) := by decide +kernel
theorem dX7_allThings_38 : decode cX7_allThings 38 = .ok (.ireturn, 1) := by decide +kernel
theorem dX7_count_0 : decode cX7_count 0 = .ok (.iload_n 1, 1) := by decide +kernel
theorem dX7_count_1 : decode cX7_count 1 = .ok (.tableswitch 99 0 8 #[51, 56, 61, 66, 74, 79, 84, 89, 94], 51) := by decide +kernel
theorem dX7_count_52 : decode cX7_count 52 = .ok (.aload_n 0, 1) := by decide +kernel
theorem dX7_count_53 : decode cX7_count 53 = .ok (.getfield 7, 3) := by decide +kernel
theorem dX7_count_56 : decode cX7_count 56 = .ok (.ireturn, 1) := by decide +kernel
theorem dX7_count_57 : decode cX7_count 57 = .ok (.aload_n 0, 1) := by decide +kernel
theorem dX7_count_58 : decode cX7_count 58 = .ok (.invokevirtual 159, 3) := by decide +kernel
theorem dX7_count_61 : decode cX7_count 61 = .ok (.ireturn, 1) := by decide +kernel
theorem dX7_count_62 : decode cX7_count 62 = .ok (.aload_n 0, 1) := by decide +kernel
theorem dX7_count_63 : decode cX7_count 63 = .ok (.invokevirtual 174, 3) := by decide +kernel
theorem dX7_count_66 : decode cX7_count 66 = .ok (.ireturn, 1) := by decide +kernel
theorem dX7_count_67 : decode cX7_count 67 = .ok (.aload_n 0, 1) := by decide +kernel
theorem dX7_count_68 : decode cX7_count 68 = .ok (.getfield 13, 3) := by decide +kernel
theorem dX7_count_71 : decode cX7_count 71 = .ok (.bipush 110, 2) := by decide +kernel
theorem dX7_count_73 : decode cX7_count 73 = .ok (.iaload, 1) := by decide +kernel
theorem dX7_count_74 : decode cX7_count 74 = .ok (.ireturn, 1) := by decide +kernel
theorem dX7_count_75 : decode cX7_count 75 = .ok (.aload_n 0, 1) := by decide +kernel
theorem dX7_count_76 : decode cX7_count 76 = .ok (.invokevirtual 207, 3) := by decide +kernel
theorem dX7_count_79 : decode cX7_count 79 = .ok (.ireturn, 1) := by decide +kernel
theorem dX7_count_80 : decode cX7_count 80 = .ok (.aload_n 0, 1) := by decide +kernel
theorem dX7_count_81 : decode cX7_count 81 = .ok (.invokevirtual 210, 3) := by decide +kernel
theorem dX7_count_84 : decode cX7_count 84 = .ok (.ireturn, 1) := by decide +kernel
theorem dX7_count_85 : decode cX7_count 85 = .ok (.aload_n 0, 1) := by decide +kernel
theorem dX7_count_86 : decode cX7_count 86 = .ok (.invokevirtual 243, 3) := by decide +kernel
theorem dX7_count_89 : decode cX7_count 89 = .ok (.ireturn, 1) := by decide +kernel
theorem dX7_count_90 : decode cX7_count 90 = .ok (.aload_n 0, 1) := by decide +kernel
theorem dX7_count_91 : decode cX7_count 91 = .ok (.getfield 92, 3) := by decide +kernel
theorem dX7_count_94 : decode cX7_count 94 = .ok (.ireturn, 1) := by decide +kernel
theorem dX7_count_95 : decode cX7_count 95 = .ok (.aload_n 0, 1) := by decide +kernel
theorem dX7_count_96 : decode cX7_count 96 = .ok (.getfield 97, 3) := by decide +kernel
theorem dX7_count_99 : decode cX7_count 99 = .ok (.ireturn, 1) := by decide +kernel
theorem dX7_count_100 : decode cX7_count 100 = .ok (.bipush (-3), 2) := by decide +kernel
theorem dX7_count_102 : decode cX7_count 102 = .ok (.ireturn, 1) := by decide +kernel
end
section
/-! ===== the words that stand in every contract; the worlds; calls (own rows) ===== -/
def xm : Cond → Bool
  | .methodLinkNest _ _ _ _ => true
  | w => w.onTables && w.keeps
def xT : List Cond := lw_tbl.filter xm
theorem x_mem {w : Cond} {i : Nat} (h : lw_tbl[i]? = some w) (hm : xm w = true) : w ∈ xT := List.mem_filter.mpr ⟨List.mem_of_getElem? h, hm⟩
/-- the words of a call -/
def xV (own : String) (idx : Nat) (C : String) (y : MethodName) (bytes : ByteArray) (maxL : Nat) (ret : Option FieldType) (n : Nat) : Prop :=
  (Cond.methodLink own idx y ∈ xT ∧ Cond.instanceMethod y ∈ xT ∧ Cond.selects C y y ∈ xT ∧ Cond.initialized y.cls ∈ xT ∧ Cond.code y bytes maxL ret ∈ xT) ∧ y.cls ≠ "java/lang/invoke/MethodHandle" ∧ y.cls ≠ "java/lang/invoke/VarHandle" ∧ (parseMethodDescriptor y.desc).map (fun d => d.parameters.length) = some n
def xS (own : String) (idx : Nat) (y : MethodName) (bytes : ByteArray) (maxL : Nat) (ret : Option FieldType) (n : Nat) : Prop :=
  (Cond.methodLink own idx y ∈ xT ∧ Cond.static y ∈ xT ∧ Cond.initialized y.cls ∈ xT ∧ Cond.code y bytes maxL ret ∈ xT) ∧ y.cls ≠ "java/lang/invoke/MethodHandle" ∧ y.cls ≠ "java/lang/invoke/VarHandle" ∧ (parseMethodDescriptor y.desc).map (fun d => d.parameters.length) = some n
def xN (own : String) (idx : Nat) (host : String) (y : MethodName) (bytes : ByteArray) (maxL : Nat) (ret : Option FieldType) (n : Nat) : Prop :=
  (Cond.methodLinkNest own idx y host ∈ xT ∧ Cond.static y ∈ xT ∧ Cond.initialized y.cls ∈ xT ∧ Cond.code y bytes maxL ret ∈ xT) ∧ y.cls ≠ "java/lang/invoke/MethodHandle" ∧ y.cls ≠ "java/lang/invoke/VarHandle" ∧ (parseMethodDescriptor y.desc).map (fun d => d.parameters.length) = some n
end
section
theorem kV_X5_readClause : Cond.selects RX5 yX5_readClause yX5_readClause ∈ xT := x_mem (i := 0) (by decide +kernel) (by decide +kernel)
theorem kV_X5_nextToken : Cond.selects RX5 yX5_nextToken yX5_nextToken ∈ xT := x_mem (i := 1) (by decide +kernel) (by decide +kernel)
theorem kV_X5_kindOfToken : Cond.selects RX5 yX5_kindOfToken yX5_kindOfToken ∈ xT := x_mem (i := 2) (by decide +kernel) (by decide +kernel)
theorem kV_X5_tokenIs : Cond.selects RX5 yX5_tokenIs yX5_tokenIs ∈ xT := x_mem (i := 3) (by decide +kernel) (by decide +kernel)
theorem kV_X5_takeNumber : Cond.selects RX5 yX5_takeNumber yX5_takeNumber ∈ xT := x_mem (i := 4) (by decide +kernel) (by decide +kernel)
theorem kV_X5_tokenNumber : Cond.selects RX5 yX5_tokenNumber yX5_tokenNumber ∈ xT := x_mem (i := 5) (by decide +kernel) (by decide +kernel)
theorem kV_X5_isSemicolon : Cond.selects RX5 yX5_isSemicolon yX5_isSemicolon ∈ xT := x_mem (i := 6) (by decide +kernel) (by decide +kernel)
theorem kV_X6_doClause : Cond.selects RX6 yX6_doClause yX6_doClause ∈ xT := x_mem (i := 7) (by decide +kernel) (by decide +kernel)
theorem kV_X6_putIfNew : Cond.selects RX6 yX6_putIfNew yX6_putIfNew ∈ xT := x_mem (i := 8) (by decide +kernel) (by decide +kernel)
theorem kV_X3_graft : Cond.selects RX3 yX3_graft yX3_graft ∈ xT := x_mem (i := 9) (by decide +kernel) (by decide +kernel)
theorem kV_X3_followArcs : Cond.selects RX3 yX3_followArcs yX3_followArcs ∈ xT := x_mem (i := 10) (by decide +kernel) (by decide +kernel)
theorem kV_X6_arePair : Cond.selects RX6 yX6_arePair yX6_arePair ∈ xT := x_mem (i := 11) (by decide +kernel) (by decide +kernel)
theorem kV_X6_isPoint : Cond.selects RX6 yX6_isPoint yX6_isPoint ∈ xT := x_mem (i := 12) (by decide +kernel) (by decide +kernel)
theorem kV_X3_stoodOn : Cond.selects RX3 yX3_stoodOn yX3_stoodOn ∈ xT := x_mem (i := 13) (by decide +kernel) (by decide +kernel)
theorem kV_X3_makeAnew : Cond.selects RX3 yX3_makeAnew yX3_makeAnew ∈ xT := x_mem (i := 14) (by decide +kernel) (by decide +kernel)
theorem kV_X6_isArcThere : Cond.selects RX6 yX6_isArcThere yX6_isArcThere ∈ xT := x_mem (i := 15) (by decide +kernel) (by decide +kernel)
theorem kV_X3_membersWithout : Cond.selects RX3 yX3_membersWithout yX3_membersWithout ∈ xT := x_mem (i := 16) (by decide +kernel) (by decide +kernel)
theorem kV_X6_foldPair : Cond.selects RX6 yX6_foldPair yX6_foldPair ∈ xT := x_mem (i := 17) (by decide +kernel) (by decide +kernel)
theorem kV_X3_newMembers : Cond.selects RX3 yX3_newMembers yX3_newMembers ∈ xT := x_mem (i := 18) (by decide +kernel) (by decide +kernel)
theorem kV_X1_findWay : Cond.selects RX1 yX1_findWay yX1_findWay ∈ xT := x_mem (i := 19) (by decide +kernel) (by decide +kernel)
theorem kV_X1_useWay : Cond.selects RX1 yX1_useWay yX1_useWay ∈ xT := x_mem (i := 20) (by decide +kernel) (by decide +kernel)
theorem kV_X1_useStep : Cond.selects RX1 yX1_useStep yX1_useStep ∈ xT := x_mem (i := 21) (by decide +kernel) (by decide +kernel)
theorem kV_X6_isTellable : Cond.selects RX6 yX6_isTellable yX6_isTellable ∈ xT := x_mem (i := 22) (by decide +kernel) (by decide +kernel)
theorem kV_X6_strikeArcs : Cond.selects RX6 yX6_strikeArcs yX6_strikeArcs ∈ xT := x_mem (i := 23) (by decide +kernel) (by decide +kernel)
theorem kV_X6_thingsOfChains : Cond.selects RX6 yX6_thingsOfChains yX6_thingsOfChains ∈ xT := x_mem (i := 24) (by decide +kernel) (by decide +kernel)
theorem kV_X7_begin : Cond.selects RX7 yX7_begin yX7_begin ∈ xT := x_mem (i := 25) (by decide +kernel) (by decide +kernel)
theorem kV_X7_loseChains : Cond.selects RX7 yX7_loseChains yX7_loseChains ∈ xT := x_mem (i := 26) (by decide +kernel) (by decide +kernel)
theorem kV_X7_readAll : Cond.selects RX7 yX7_readAll yX7_readAll ∈ xT := x_mem (i := 27) (by decide +kernel) (by decide +kernel)
theorem kV_X7_next : Cond.selects RX7 yX7_next yX7_next ∈ xT := x_mem (i := 28) (by decide +kernel) (by decide +kernel)
theorem kV_X7_letter : Cond.selects RX7 yX7_letter yX7_letter ∈ xT := x_mem (i := 29) (by decide +kernel) (by decide +kernel)
theorem kV_X7_readClause : Cond.selects RX7 yX7_readClause yX7_readClause ∈ xT := x_mem (i := 30) (by decide +kernel) (by decide +kernel)
theorem kV_X7_wordOf : Cond.selects RX7 yX7_wordOf yX7_wordOf ∈ xT := x_mem (i := 31) (by decide +kernel) (by decide +kernel)
theorem kV_X7_isWord : Cond.selects RX7 yX7_isWord yX7_isWord ∈ xT := x_mem (i := 32) (by decide +kernel) (by decide +kernel)
theorem kV_X7_faults : Cond.selects RX7 yX7_faults yX7_faults ∈ xT := x_mem (i := 33) (by decide +kernel) (by decide +kernel)
theorem kV_X7_takesNumber : Cond.selects RX7 yX7_takesNumber yX7_takesNumber ∈ xT := x_mem (i := 34) (by decide +kernel) (by decide +kernel)
theorem kV_X7_takesPoint : Cond.selects RX7 yX7_takesPoint yX7_takesPoint ∈ xT := x_mem (i := 35) (by decide +kernel) (by decide +kernel)
theorem kV_X7_doClause : Cond.selects RX7 yX7_doClause yX7_doClause ∈ xT := x_mem (i := 36) (by decide +kernel) (by decide +kernel)
theorem kV_X7_putIfNew : Cond.selects RX7 yX7_putIfNew yX7_putIfNew ∈ xT := x_mem (i := 37) (by decide +kernel) (by decide +kernel)
theorem kV_X7_arcs : Cond.selects RX7 yX7_arcs yX7_arcs ∈ xT := x_mem (i := 38) (by decide +kernel) (by decide +kernel)
theorem kV_X7_putIn : Cond.selects RX7 yX7_putIn yX7_putIn ∈ xT := x_mem (i := 39) (by decide +kernel) (by decide +kernel)
theorem kV_X7_isIn : Cond.selects RX7 yX7_isIn yX7_isIn ∈ xT := x_mem (i := 40) (by decide +kernel) (by decide +kernel)
theorem kV_X7_goOn : Cond.selects RX7 yX7_goOn yX7_goOn ∈ xT := x_mem (i := 41) (by decide +kernel) (by decide +kernel)
theorem kV_X7_areTwo : Cond.selects RX7 yX7_areTwo yX7_areTwo ∈ xT := x_mem (i := 42) (by decide +kernel) (by decide +kernel)
theorem kV_X7_isPoint : Cond.selects RX7 yX7_isPoint yX7_isPoint ∈ xT := x_mem (i := 43) (by decide +kernel) (by decide +kernel)
theorem kV_X7_isArc : Cond.selects RX7 yX7_isArc yX7_isArc ∈ xT := x_mem (i := 44) (by decide +kernel) (by decide +kernel)
theorem kV_X7_pairs : Cond.selects RX7 yX7_pairs yX7_pairs ∈ xT := x_mem (i := 45) (by decide +kernel) (by decide +kernel)
theorem kV_X7_note : Cond.selects RX7 yX7_note yX7_note ∈ xT := x_mem (i := 46) (by decide +kernel) (by decide +kernel)
theorem kV_X7_stoodOn : Cond.selects RX7 yX7_stoodOn yX7_stoodOn ∈ xT := x_mem (i := 47) (by decide +kernel) (by decide +kernel)
theorem kV_X7_grow : Cond.selects RX7 yX7_grow yX7_grow ∈ xT := x_mem (i := 48) (by decide +kernel) (by decide +kernel)
theorem kV_X7_aboveOf : Cond.selects RX7 yX7_aboveOf yX7_aboveOf ∈ xT := x_mem (i := 49) (by decide +kernel) (by decide +kernel)
theorem kV_X7_treeOf : Cond.selects RX7 yX7_treeOf yX7_treeOf ∈ xT := x_mem (i := 50) (by decide +kernel) (by decide +kernel)
theorem kV_X7_comingTo : Cond.selects RX7 yX7_comingTo yX7_comingTo ∈ xT := x_mem (i := 51) (by decide +kernel) (by decide +kernel)
theorem kV_X7_ringOf : Cond.selects RX7 yX7_ringOf yX7_ringOf ∈ xT := x_mem (i := 52) (by decide +kernel) (by decide +kernel)
theorem kV_X7_isNeedless : Cond.selects RX7 yX7_isNeedless yX7_isNeedless ∈ xT := x_mem (i := 53) (by decide +kernel) (by decide +kernel)
theorem kV_X7_without : Cond.selects RX7 yX7_without yX7_without ∈ xT := x_mem (i := 54) (by decide +kernel) (by decide +kernel)
theorem kV_X7_rings : Cond.selects RX7 yX7_rings yX7_rings ∈ xT := x_mem (i := 55) (by decide +kernel) (by decide +kernel)
theorem kV_X7_needlessMany : Cond.selects RX7 yX7_needlessMany yX7_needlessMany ∈ xT := x_mem (i := 56) (by decide +kernel) (by decide +kernel)
theorem kV_X7_gainOf : Cond.selects RX7 yX7_gainOf yX7_gainOf ∈ xT := x_mem (i := 57) (by decide +kernel) (by decide +kernel)
theorem kV_X7_lossOf : Cond.selects RX7 yX7_lossOf yX7_lossOf ∈ xT := x_mem (i := 58) (by decide +kernel) (by decide +kernel)
theorem kV_X7_findsWay : Cond.selects RX7 yX7_findsWay yX7_findsWay ∈ xT := x_mem (i := 59) (by decide +kernel) (by decide +kernel)
theorem kV_X7_goAlong : Cond.selects RX7 yX7_goAlong yX7_goAlong ∈ xT := x_mem (i := 60) (by decide +kernel) (by decide +kernel)
theorem kV_X7_allThings : Cond.selects RX7 yX7_allThings yX7_allThings ∈ xT := x_mem (i := 61) (by decide +kernel) (by decide +kernel)
theorem kN_L : Cond.initialized RL ∈ xT := x_mem (i := 62) (by decide +kernel) (by decide +kernel)
theorem kN_X6 : Cond.initialized RX6 ∈ xT := x_mem (i := 63) (by decide +kernel) (by decide +kernel)
theorem kN_X2 : Cond.initialized RX2 ∈ xT := x_mem (i := 64) (by decide +kernel) (by decide +kernel)
theorem kN_X5 : Cond.initialized RX5 ∈ xT := x_mem (i := 65) (by decide +kernel) (by decide +kernel)
theorem kN_X3 : Cond.initialized RX3 ∈ xT := x_mem (i := 66) (by decide +kernel) (by decide +kernel)
theorem kN_J7 : Cond.initialized RJ7 ∈ xT := x_mem (i := 67) (by decide +kernel) (by decide +kernel)
theorem kN_X4 : Cond.initialized RX4 ∈ xT := x_mem (i := 68) (by decide +kernel) (by decide +kernel)
theorem kN_X1 : Cond.initialized RX1 ∈ xT := x_mem (i := 69) (by decide +kernel) (by decide +kernel)
theorem kN_X0 : Cond.initialized RX0 ∈ xT := x_mem (i := 70) (by decide +kernel) (by decide +kernel)
theorem kN_X7 : Cond.initialized RX7 ∈ xT := x_mem (i := 71) (by decide +kernel) (by decide +kernel)
theorem kN_J0 : Cond.initialized RJ0 ∈ xT := x_mem (i := 72) (by decide +kernel) (by decide +kernel)
theorem kN_J1 : Cond.initialized RJ1 ∈ xT := x_mem (i := 73) (by decide +kernel) (by decide +kernel)
theorem kN_J3 : Cond.initialized RJ3 ∈ xT := x_mem (i := 74) (by decide +kernel) (by decide +kernel)
theorem kN_J2 : Cond.initialized RJ2 ∈ xT := x_mem (i := 75) (by decide +kernel) (by decide +kernel)
theorem kN_J6 : Cond.initialized RJ6 ∈ xT := x_mem (i := 76) (by decide +kernel) (by decide +kernel)
theorem kN_J10 : Cond.initialized RJ10 ∈ xT := x_mem (i := 77) (by decide +kernel) (by decide +kernel)
theorem kN_J9 : Cond.initialized RJ9 ∈ xT := x_mem (i := 78) (by decide +kernel) (by decide +kernel)
theorem kM_L_9 : Cond.methodLink RL 9 yX6_init ∈ xT := x_mem (i := 81) (by decide +kernel) (by decide +kernel)
theorem kI_X6_init : Cond.instanceMethod yX6_init ∈ xT := x_mem (i := 82) (by decide +kernel) (by decide +kernel)
theorem kC_X6_init : Cond.code yX6_init cX6_init 2 none ∈ xT := x_mem (i := 83) (by decide +kernel) (by decide +kernel)
theorem kM_X6_9 : Cond.methodLinkNest RX6 9 yX2_init RX6 ∈ xT := x_mem (i := 89) (by decide +kernel) (by decide +kernel)
theorem kI_X2_init : Cond.instanceMethod yX2_init ∈ xT := x_mem (i := 90) (by decide +kernel) (by decide +kernel)
theorem kC_X2_init : Cond.code yX2_init cX2_init 1 none ∈ xT := x_mem (i := 91) (by decide +kernel) (by decide +kernel)
theorem kF_X2_9 : Cond.fieldLink RX2 9 "ReachTrees$Letters" "row" "[I" ∈ xT := x_mem (i := 93) (by decide +kernel) (by decide +kernel)
theorem kF_X6_64 : Cond.fieldLink RX6 64 "ReachTrees$Letters" "row" "[I" ∈ xT := x_mem (i := 94) (by decide +kernel) (by decide +kernel)
theorem kF_X5_65 : Cond.fieldLink RX5 65 "ReachTrees$Letters" "row" "[I" ∈ xT := x_mem (i := 95) (by decide +kernel) (by decide +kernel)
theorem kF_X6_61 : Cond.fieldLink RX6 61 "ReachTrees$Letters" "length" "I" ∈ xT := x_mem (i := 96) (by decide +kernel) (by decide +kernel)
theorem kF_X5_70 : Cond.fieldLink RX5 70 "ReachTrees$Letters" "length" "I" ∈ xT := x_mem (i := 97) (by decide +kernel) (by decide +kernel)
theorem kM_X6_18 : Cond.methodLink RX6 18 yX5_init ∈ xT := x_mem (i := 106) (by decide +kernel) (by decide +kernel)
theorem kI_X5_init : Cond.instanceMethod yX5_init ∈ xT := x_mem (i := 107) (by decide +kernel) (by decide +kernel)
theorem kC_X5_init : Cond.code yX5_init cX5_init 2 none ∈ xT := x_mem (i := 108) (by decide +kernel) (by decide +kernel)
theorem kF_X5_18 : Cond.fieldLink RX5 18 "ReachTrees$Reader" "letters" "LReachTrees$Letters;" ∈ xT := x_mem (i := 110) (by decide +kernel) (by decide +kernel)
theorem kF_X5_9 : Cond.fieldLink RX5 9 "ReachTrees$Reader" "kinds" "[I" ∈ xT := x_mem (i := 111) (by decide +kernel) (by decide +kernel)
theorem kF_X6_92 : Cond.fieldLink RX6 92 "ReachTrees$Reader" "kinds" "[I" ∈ xT := x_mem (i := 112) (by decide +kernel) (by decide +kernel)
theorem kF_X5_15 : Cond.fieldLink RX5 15 "ReachTrees$Reader" "numbers" "[I" ∈ xT := x_mem (i := 113) (by decide +kernel) (by decide +kernel)
theorem kF_X5_22 : Cond.fieldLink RX5 22 "ReachTrees$Reader" "clauses" "I" ∈ xT := x_mem (i := 114) (by decide +kernel) (by decide +kernel)
theorem kF_X6_75 : Cond.fieldLink RX6 75 "ReachTrees$Reader" "clauses" "I" ∈ xT := x_mem (i := 115) (by decide +kernel) (by decide +kernel)
theorem kF_X5_43 : Cond.fieldLink RX5 43 "ReachTrees$Reader" "tokenSort" "I" ∈ xT := x_mem (i := 116) (by decide +kernel) (by decide +kernel)
theorem kF_X5_33 : Cond.fieldLink RX5 33 "ReachTrees$Reader" "tokenStart" "I" ∈ xT := x_mem (i := 117) (by decide +kernel) (by decide +kernel)
theorem kF_X5_26 : Cond.fieldLink RX5 26 "ReachTrees$Reader" "tokenEnd" "I" ∈ xT := x_mem (i := 118) (by decide +kernel) (by decide +kernel)
theorem kM_X6_27 : Cond.methodLink RX6 27 yX3_init ∈ xT := x_mem (i := 136) (by decide +kernel) (by decide +kernel)
theorem kI_X3_init : Cond.instanceMethod yX3_init ∈ xT := x_mem (i := 137) (by decide +kernel) (by decide +kernel)
theorem kC_X3_init : Cond.code yX3_init cX3_init 1 none ∈ xT := x_mem (i := 138) (by decide +kernel) (by decide +kernel)
theorem kM_X3_21 : Cond.methodLink RX3 21 yX3_makeEmpty ∈ xT := x_mem (i := 140) (by decide +kernel) (by decide +kernel)
theorem kI_X3_makeEmpty : Cond.instanceMethod yX3_makeEmpty ∈ xT := x_mem (i := 141) (by decide +kernel) (by decide +kernel)
theorem kV_X3_makeEmpty : Cond.selects RX3 yX3_makeEmpty yX3_makeEmpty ∈ xT := x_mem (i := 142) (by decide +kernel) (by decide +kernel)
theorem kC_X3_makeEmpty : Cond.code yX3_makeEmpty cX3_makeEmpty 3 none ∈ xT := x_mem (i := 143) (by decide +kernel) (by decide +kernel)
theorem kM_X3_32 : Cond.methodLink RX3 32 yJ7_fill_53178 ∈ xT := x_mem (i := 144) (by decide +kernel) (by decide +kernel)
theorem kS_J7_fill_53178 : Cond.static yJ7_fill_53178 ∈ xT := x_mem (i := 145) (by decide +kernel) (by decide +kernel)
theorem kC_J7_fill_53178 : Cond.code yJ7_fill_53178 cJ7_fill_53178 4 none ∈ xT := x_mem (i := 146) (by decide +kernel) (by decide +kernel)
theorem kF_X3_25 : Cond.fieldLink RX3 25 "ReachTrees$Net" "points" "I" ∈ xT := x_mem (i := 147) (by decide +kernel) (by decide +kernel)
theorem kF_X1_48 : Cond.fieldLink RX1 48 "ReachTrees$Net" "points" "I" ∈ xT := x_mem (i := 148) (by decide +kernel) (by decide +kernel)
theorem kF_X6_68 : Cond.fieldLink RX6 68 "ReachTrees$Net" "points" "I" ∈ xT := x_mem (i := 149) (by decide +kernel) (by decide +kernel)
theorem kF_X3_29 : Cond.fieldLink RX3 29 "ReachTrees$Net" "work" "I" ∈ xT := x_mem (i := 150) (by decide +kernel) (by decide +kernel)
theorem kF_X6_132 : Cond.fieldLink RX6 132 "ReachTrees$Net" "work" "I" ∈ xT := x_mem (i := 151) (by decide +kernel) (by decide +kernel)
theorem kF_X3_9 : Cond.fieldLink RX3 9 "ReachTrees$Net" "outgoing" "[I" ∈ xT := x_mem (i := 152) (by decide +kernel) (by decide +kernel)
theorem kF_X1_43 : Cond.fieldLink RX1 43 "ReachTrees$Net" "outgoing" "[I" ∈ xT := x_mem (i := 153) (by decide +kernel) (by decide +kernel)
theorem kF_X3_15 : Cond.fieldLink RX3 15 "ReachTrees$Net" "members" "[I" ∈ xT := x_mem (i := 154) (by decide +kernel) (by decide +kernel)
theorem kF_X6_164 : Cond.fieldLink RX6 164 "ReachTrees$Net" "members" "[I" ∈ xT := x_mem (i := 155) (by decide +kernel) (by decide +kernel)
theorem kF_X3_18 : Cond.fieldLink RX3 18 "ReachTrees$Net" "aboves" "[I" ∈ xT := x_mem (i := 156) (by decide +kernel) (by decide +kernel)
theorem kM_X6_34 : Cond.methodLink RX6 34 yX4_init ∈ xT := x_mem (i := 170) (by decide +kernel) (by decide +kernel)
theorem kI_X4_init : Cond.instanceMethod yX4_init ∈ xT := x_mem (i := 171) (by decide +kernel) (by decide +kernel)
theorem kC_X4_init : Cond.code yX4_init cX4_init 2 none ∈ xT := x_mem (i := 172) (by decide +kernel) (by decide +kernel)
theorem kM_X4_17 : Cond.methodLink RX4 17 yX3_init ∈ xT := x_mem (i := 176) (by decide +kernel) (by decide +kernel)
theorem kF_X4_11 : Cond.fieldLink RX4 11 "ReachTrees$Past" "notes" "[LReachTrees$Net;" ∈ xT := x_mem (i := 177) (by decide +kernel) (by decide +kernel)
theorem kF_X4_18 : Cond.fieldLink RX4 18 "ReachTrees$Past" "next" "I" ∈ xT := x_mem (i := 178) (by decide +kernel) (by decide +kernel)
theorem kF_X4_26 : Cond.fieldLink RX4 26 "ReachTrees$Past" "size" "I" ∈ xT := x_mem (i := 179) (by decide +kernel) (by decide +kernel)
theorem kF_X6_135 : Cond.fieldLink RX6 135 "ReachTrees$Past" "size" "I" ∈ xT := x_mem (i := 180) (by decide +kernel) (by decide +kernel)
theorem kM_X6_49 : Cond.methodLinkNest RX6 49 yX1_init RX6 ∈ xT := x_mem (i := 190) (by decide +kernel) (by decide +kernel)
theorem kI_X1_init : Cond.instanceMethod yX1_init ∈ xT := x_mem (i := 191) (by decide +kernel) (by decide +kernel)
theorem kC_X1_init : Cond.code yX1_init cX1_init 1 none ∈ xT := x_mem (i := 192) (by decide +kernel) (by decide +kernel)
theorem kF_X1_9 : Cond.fieldLink RX1 9 "ReachTrees$Cut" "used" "[I" ∈ xT := x_mem (i := 194) (by decide +kernel) (by decide +kernel)
theorem kF_X1_15 : Cond.fieldLink RX1 15 "ReachTrees$Cut" "usedInto" "[I" ∈ xT := x_mem (i := 195) (by decide +kernel) (by decide +kernel)
theorem kF_X1_18 : Cond.fieldLink RX1 18 "ReachTrees$Cut" "cameFrom" "[I" ∈ xT := x_mem (i := 196) (by decide +kernel) (by decide +kernel)
theorem kM_X6_60 : Cond.methodLinkNest RX6 60 yX0_init RX6 ∈ xT := x_mem (i := 207) (by decide +kernel) (by decide +kernel)
theorem kI_X0_init : Cond.instanceMethod yX0_init ∈ xT := x_mem (i := 208) (by decide +kernel) (by decide +kernel)
theorem kC_X0_init : Cond.code yX0_init cX0_init 1 none ∈ xT := x_mem (i := 209) (by decide +kernel) (by decide +kernel)
theorem kF_X0_9 : Cond.fieldLink RX0 9 "ReachTrees$Chain" "values" "[I" ∈ xT := x_mem (i := 211) (by decide +kernel) (by decide +kernel)
theorem kF_X6_232 : Cond.fieldLink RX6 232 "ReachTrees$Chain" "values" "[I" ∈ xT := x_mem (i := 212) (by decide +kernel) (by decide +kernel)
theorem kF_X0_15 : Cond.fieldLink RX0 15 "ReachTrees$Chain" "isArc" "[Z" ∈ xT := x_mem (i := 213) (by decide +kernel) (by decide +kernel)
theorem kF_X6_228 : Cond.fieldLink RX6 228 "ReachTrees$Chain" "isArc" "[Z" ∈ xT := x_mem (i := 214) (by decide +kernel) (by decide +kernel)
theorem kF_X0_19 : Cond.fieldLink RX0 19 "ReachTrees$Chain" "missing" "Z" ∈ xT := x_mem (i := 215) (by decide +kernel) (by decide +kernel)
theorem kF_X6_219 : Cond.fieldLink RX6 219 "ReachTrees$Chain" "missing" "Z" ∈ xT := x_mem (i := 216) (by decide +kernel) (by decide +kernel)
theorem kF_X0_23 : Cond.fieldLink RX0 23 "ReachTrees$Chain" "size" "I" ∈ xT := x_mem (i := 217) (by decide +kernel) (by decide +kernel)
theorem kF_X6_223 : Cond.fieldLink RX6 223 "ReachTrees$Chain" "size" "I" ∈ xT := x_mem (i := 218) (by decide +kernel) (by decide +kernel)
theorem kF_X6_10 : Cond.fieldLink RX6 10 "ReachTrees" "letters" "LReachTrees$Letters;" ∈ xT := x_mem (i := 229) (by decide +kernel) (by decide +kernel)
theorem kF_X6_21 : Cond.fieldLink RX6 21 "ReachTrees" "reader" "LReachTrees$Reader;" ∈ xT := x_mem (i := 230) (by decide +kernel) (by decide +kernel)
theorem kF_X6_28 : Cond.fieldLink RX6 28 "ReachTrees" "live" "LReachTrees$Net;" ∈ xT := x_mem (i := 231) (by decide +kernel) (by decide +kernel)
theorem kF_X6_35 : Cond.fieldLink RX6 35 "ReachTrees" "past" "LReachTrees$Past;" ∈ xT := x_mem (i := 232) (by decide +kernel) (by decide +kernel)
theorem kF_X6_39 : Cond.fieldLink RX6 39 "ReachTrees" "kept" "[LReachTrees$Net;" ∈ xT := x_mem (i := 233) (by decide +kernel) (by decide +kernel)
theorem kF_X6_43 : Cond.fieldLink RX6 43 "ReachTrees" "keptSet" "I" ∈ xT := x_mem (i := 234) (by decide +kernel) (by decide +kernel)
theorem kF_X6_50 : Cond.fieldLink RX6 50 "ReachTrees" "cut" "LReachTrees$Cut;" ∈ xT := x_mem (i := 235) (by decide +kernel) (by decide +kernel)
theorem kF_X6_56 : Cond.fieldLink RX6 56 "ReachTrees" "chains" "[LReachTrees$Chain;" ∈ xT := x_mem (i := 236) (by decide +kernel) (by decide +kernel)
theorem kM_L_13 : Cond.methodLink RL 13 yX6_write ∈ xT := x_mem (i := 254) (by decide +kernel) (by decide +kernel)
theorem kI_X6_write : Cond.instanceMethod yX6_write ∈ xT := x_mem (i := 255) (by decide +kernel) (by decide +kernel)
theorem kV_X6_write : Cond.selects RX6 yX6_write yX6_write ∈ xT := x_mem (i := 256) (by decide +kernel) (by decide +kernel)
theorem kC_X6_write : Cond.code yX6_write cX6_write 2 (some .int) ∈ xT := x_mem (i := 257) (by decide +kernel) (by decide +kernel)
theorem kM_L_18 : Cond.methodLink RL 18 yX6_erase ∈ xT := x_mem (i := 258) (by decide +kernel) (by decide +kernel)
theorem kI_X6_erase : Cond.instanceMethod yX6_erase ∈ xT := x_mem (i := 259) (by decide +kernel) (by decide +kernel)
theorem kV_X6_erase : Cond.selects RX6 yX6_erase yX6_erase ∈ xT := x_mem (i := 260) (by decide +kernel) (by decide +kernel)
theorem kC_X6_erase : Cond.code yX6_erase cX6_erase 2 (some .int) ∈ xT := x_mem (i := 261) (by decide +kernel) (by decide +kernel)
theorem kM_L_23 : Cond.methodLink RL 23 yX6_fault ∈ xT := x_mem (i := 262) (by decide +kernel) (by decide +kernel)
theorem kI_X6_fault : Cond.instanceMethod yX6_fault ∈ xT := x_mem (i := 263) (by decide +kernel) (by decide +kernel)
theorem kV_X6_fault : Cond.selects RX6 yX6_fault yX6_fault ∈ xT := x_mem (i := 264) (by decide +kernel) (by decide +kernel)
theorem kC_X6_fault : Cond.code yX6_fault cX6_fault 1 (some .int) ∈ xT := x_mem (i := 265) (by decide +kernel) (by decide +kernel)
theorem kM_X6_71 : Cond.methodLink RX6 71 yX5_readAll ∈ xT := x_mem (i := 266) (by decide +kernel) (by decide +kernel)
theorem kI_X5_readAll : Cond.instanceMethod yX5_readAll ∈ xT := x_mem (i := 267) (by decide +kernel) (by decide +kernel)
theorem kV_X5_readAll : Cond.selects RX5 yX5_readAll yX5_readAll ∈ xT := x_mem (i := 268) (by decide +kernel) (by decide +kernel)
theorem kC_X5_readAll : Cond.code yX5_readAll cX5_readAll 3 (some .int) ∈ xT := x_mem (i := 269) (by decide +kernel) (by decide +kernel)
theorem kM_X5_29 : Cond.methodLink RX5 29 yX5_readClause ∈ xT := x_mem (i := 270) (by decide +kernel) (by decide +kernel)
theorem kI_X5_readClause : Cond.instanceMethod yX5_readClause ∈ xT := x_mem (i := 272) (by decide +kernel) (by decide +kernel)
theorem kC_X5_readClause : Cond.code yX5_readClause cX5_readClause 5 (some .boolean) ∈ xT := x_mem (i := 273) (by decide +kernel) (by decide +kernel)
theorem kM_X5_40 : Cond.methodLink RX5 40 yX5_nextToken ∈ xT := x_mem (i := 274) (by decide +kernel) (by decide +kernel)
theorem kI_X5_nextToken : Cond.instanceMethod yX5_nextToken ∈ xT := x_mem (i := 276) (by decide +kernel) (by decide +kernel)
theorem kC_X5_nextToken : Cond.code yX5_nextToken cX5_nextToken 2 none ∈ xT := x_mem (i := 277) (by decide +kernel) (by decide +kernel)
theorem kM_X5_73 : Cond.methodLink RX5 73 yX5_sortOf ∈ xT := x_mem (i := 278) (by decide +kernel) (by decide +kernel)
theorem kS_X5_sortOf : Cond.static yX5_sortOf ∈ xT := x_mem (i := 279) (by decide +kernel) (by decide +kernel)
theorem kC_X5_sortOf : Cond.code yX5_sortOf cX5_sortOf 1 (some .int) ∈ xT := x_mem (i := 280) (by decide +kernel) (by decide +kernel)
theorem kM_X5_50 : Cond.methodLink RX5 50 yX5_kindOfToken ∈ xT := x_mem (i := 281) (by decide +kernel) (by decide +kernel)
theorem kI_X5_kindOfToken : Cond.instanceMethod yX5_kindOfToken ∈ xT := x_mem (i := 283) (by decide +kernel) (by decide +kernel)
theorem kC_X5_kindOfToken : Cond.code yX5_kindOfToken cX5_kindOfToken 2 (some .int) ∈ xT := x_mem (i := 284) (by decide +kernel) (by decide +kernel)
theorem kM_X5_76 : Cond.methodLink RX5 76 yX5_wordOf ∈ xT := x_mem (i := 285) (by decide +kernel) (by decide +kernel)
theorem kS_X5_wordOf : Cond.static yX5_wordOf ∈ xT := x_mem (i := 286) (by decide +kernel) (by decide +kernel)
theorem kC_X5_wordOf : Cond.code yX5_wordOf cX5_wordOf 1 (some (.object "java/lang/String")) ∈ xT := x_mem (i := 287) (by decide +kernel) (by decide +kernel)
theorem kM_X5_80 : Cond.methodLink RX5 80 yX5_tokenIs ∈ xT := x_mem (i := 293) (by decide +kernel) (by decide +kernel)
theorem kI_X5_tokenIs : Cond.instanceMethod yX5_tokenIs ∈ xT := x_mem (i := 295) (by decide +kernel) (by decide +kernel)
theorem kC_X5_tokenIs : Cond.code yX5_tokenIs cX5_tokenIs 3 (some .boolean) ∈ xT := x_mem (i := 296) (by decide +kernel) (by decide +kernel)
theorem kM_X5_84 : Cond.methodLink RX5 84 yJ0_length_8abf5 ∈ xT := x_mem (i := 297) (by decide +kernel) (by decide +kernel)
theorem kI_J0_length_8abf5 : Cond.instanceMethod yJ0_length_8abf5 ∈ xT := x_mem (i := 298) (by decide +kernel) (by decide +kernel)
theorem kV_J0_length_8abf5 : Cond.selects RJ0 yJ0_length_8abf5 yJ0_length_8abf5 ∈ xT := x_mem (i := 299) (by decide +kernel) (by decide +kernel)
theorem kC_J0_length_8abf5 : Cond.code yJ0_length_8abf5 cJ0_length_8abf5 1 (some .int) ∈ xT := x_mem (i := 300) (by decide +kernel) (by decide +kernel)
theorem kM_J0_335 : Cond.methodLink RJ0 335 yJ0_coder_7d493 ∈ xT := x_mem (i := 301) (by decide +kernel) (by decide +kernel)
theorem kI_J0_coder_7d493 : Cond.instanceMethod yJ0_coder_7d493 ∈ xT := x_mem (i := 302) (by decide +kernel) (by decide +kernel)
theorem kV_J0_coder_7d493 : Cond.selects RJ0 yJ0_coder_7d493 yJ0_coder_7d493 ∈ xT := x_mem (i := 303) (by decide +kernel) (by decide +kernel)
theorem kC_J0_coder_7d493 : Cond.code yJ0_coder_7d493 cJ0_coder_7d493 1 (some .byte) ∈ xT := x_mem (i := 304) (by decide +kernel) (by decide +kernel)
theorem kF_J0_38 : Cond.fieldLink RJ0 38 "java/lang/String" "COMPACT_STRINGS" "Z" ∈ xT := x_mem (i := 305) (by decide +kernel) (by decide +kernel)
theorem kM_X5_88 : Cond.methodLink RX5 88 yJ0_charAt_5068e ∈ xT := x_mem (i := 307) (by decide +kernel) (by decide +kernel)
theorem kI_J0_charAt_5068e : Cond.instanceMethod yJ0_charAt_5068e ∈ xT := x_mem (i := 308) (by decide +kernel) (by decide +kernel)
theorem kV_J0_charAt_5068e : Cond.selects RJ0 yJ0_charAt_5068e yJ0_charAt_5068e ∈ xT := x_mem (i := 309) (by decide +kernel) (by decide +kernel)
theorem kC_J0_charAt_5068e : Cond.code yJ0_charAt_5068e cJ0_charAt_5068e 2 (some .char) ∈ xT := x_mem (i := 310) (by decide +kernel) (by decide +kernel)
theorem kM_J0_492 : Cond.methodLink RJ0 492 yJ0_isLatin1_aae02 ∈ xT := x_mem (i := 311) (by decide +kernel) (by decide +kernel)
theorem kI_J0_isLatin1_aae02 : Cond.instanceMethod yJ0_isLatin1_aae02 ∈ xT := x_mem (i := 312) (by decide +kernel) (by decide +kernel)
theorem kV_J0_isLatin1_aae02 : Cond.selects RJ0 yJ0_isLatin1_aae02 yJ0_isLatin1_aae02 ∈ xT := x_mem (i := 313) (by decide +kernel) (by decide +kernel)
theorem kC_J0_isLatin1_aae02 : Cond.code yJ0_isLatin1_aae02 cJ0_isLatin1_aae02 1 (some .boolean) ∈ xT := x_mem (i := 314) (by decide +kernel) (by decide +kernel)
theorem kM_J0_495 : Cond.methodLink RJ0 495 yJ1_charAt_3b067 ∈ xT := x_mem (i := 315) (by decide +kernel) (by decide +kernel)
theorem kS_J1_charAt_3b067 : Cond.static yJ1_charAt_3b067 ∈ xT := x_mem (i := 316) (by decide +kernel) (by decide +kernel)
theorem kC_J1_charAt_3b067 : Cond.code yJ1_charAt_3b067 cJ1_charAt_3b067 2 (some .char) ∈ xT := x_mem (i := 317) (by decide +kernel) (by decide +kernel)
theorem kM_J1_9 : Cond.methodLink RJ1 9 yJ0_checkIndex_df160 ∈ xT := x_mem (i := 318) (by decide +kernel) (by decide +kernel)
theorem kS_J0_checkIndex_df160 : Cond.static yJ0_checkIndex_df160 ∈ xT := x_mem (i := 319) (by decide +kernel) (by decide +kernel)
theorem kC_J0_checkIndex_df160 : Cond.code yJ0_checkIndex_df160 cJ0_checkIndex_df160 2 none ∈ xT := x_mem (i := 320) (by decide +kernel) (by decide +kernel)
theorem kF_J0_1053 : Cond.fieldLink RJ0 1053 "jdk/internal/util/Preconditions" "SIOOBE_FORMATTER" "Ljava/util/function/BiFunction;" ∈ xT := x_mem (i := 321) (by decide +kernel) (by decide +kernel)
theorem kM_J0_1059 : Cond.methodLink RJ0 1059 yJ3_checkIndex_8e157 ∈ xT := x_mem (i := 323) (by decide +kernel) (by decide +kernel)
theorem kS_J3_checkIndex_8e157 : Cond.static yJ3_checkIndex_8e157 ∈ xT := x_mem (i := 324) (by decide +kernel) (by decide +kernel)
theorem kC_J3_checkIndex_8e157 : Cond.code yJ3_checkIndex_8e157 cJ3_checkIndex_8e157 3 (some .int) ∈ xT := x_mem (i := 325) (by decide +kernel) (by decide +kernel)
theorem kM_J0_498 : Cond.methodLink RJ0 498 yJ2_charAt_3b067 ∈ xT := x_mem (i := 326) (by decide +kernel) (by decide +kernel)
theorem kS_J2_charAt_3b067 : Cond.static yJ2_charAt_3b067 ∈ xT := x_mem (i := 327) (by decide +kernel) (by decide +kernel)
theorem kC_J2_charAt_3b067 : Cond.code yJ2_charAt_3b067 cJ2_charAt_3b067 2 (some .char) ∈ xT := x_mem (i := 328) (by decide +kernel) (by decide +kernel)
theorem kM_J2_67 : Cond.methodLink RJ2 67 yJ2_checkIndex_2214a ∈ xT := x_mem (i := 329) (by decide +kernel) (by decide +kernel)
theorem kS_J2_checkIndex_2214a : Cond.static yJ2_checkIndex_2214a ∈ xT := x_mem (i := 330) (by decide +kernel) (by decide +kernel)
theorem kC_J2_checkIndex_2214a : Cond.code yJ2_checkIndex_2214a cJ2_checkIndex_2214a 2 none ∈ xT := x_mem (i := 331) (by decide +kernel) (by decide +kernel)
theorem kM_J2_48 : Cond.methodLink RJ2 48 yJ2_length_9d52b ∈ xT := x_mem (i := 332) (by decide +kernel) (by decide +kernel)
theorem kS_J2_length_9d52b : Cond.static yJ2_length_9d52b ∈ xT := x_mem (i := 333) (by decide +kernel) (by decide +kernel)
theorem kC_J2_length_9d52b : Cond.code yJ2_length_9d52b cJ2_length_9d52b 1 (some .int) ∈ xT := x_mem (i := 334) (by decide +kernel) (by decide +kernel)
theorem kM_J2_414 : Cond.methodLink RJ2 414 yJ0_checkIndex_df160 ∈ xT := x_mem (i := 335) (by decide +kernel) (by decide +kernel)
theorem kM_J2_71 : Cond.methodLink RJ2 71 yJ2_getChar_3b067 ∈ xT := x_mem (i := 336) (by decide +kernel) (by decide +kernel)
theorem kS_J2_getChar_3b067 : Cond.static yJ2_getChar_3b067 ∈ xT := x_mem (i := 337) (by decide +kernel) (by decide +kernel)
theorem kC_J2_getChar_3b067 : Cond.code yJ2_getChar_3b067 cJ2_getChar_3b067 2 (some .char) ∈ xT := x_mem (i := 338) (by decide +kernel) (by decide +kernel)
theorem kF_J2_44 : Cond.fieldLink RJ2 44 "java/lang/StringUTF16" "$assertionsDisabled" "Z" ∈ xT := x_mem (i := 339) (by decide +kernel) (by decide +kernel)
theorem kF_J2_59 : Cond.fieldLink RJ2 59 "java/lang/StringUTF16" "HI_BYTE_SHIFT" "I" ∈ xT := x_mem (i := 341) (by decide +kernel) (by decide +kernel)
theorem kF_J2_63 : Cond.fieldLink RJ2 63 "java/lang/StringUTF16" "LO_BYTE_SHIFT" "I" ∈ xT := x_mem (i := 343) (by decide +kernel) (by decide +kernel)
theorem kM_X5_54 : Cond.methodLink RX5 54 yX5_numbersOf ∈ xT := x_mem (i := 345) (by decide +kernel) (by decide +kernel)
theorem kS_X5_numbersOf : Cond.static yX5_numbersOf ∈ xT := x_mem (i := 346) (by decide +kernel) (by decide +kernel)
theorem kC_X5_numbersOf : Cond.code yX5_numbersOf cX5_numbersOf 1 (some .int) ∈ xT := x_mem (i := 347) (by decide +kernel) (by decide +kernel)
theorem kM_X5_58 : Cond.methodLink RX5 58 yX5_takeNumber ∈ xT := x_mem (i := 348) (by decide +kernel) (by decide +kernel)
theorem kI_X5_takeNumber : Cond.instanceMethod yX5_takeNumber ∈ xT := x_mem (i := 350) (by decide +kernel) (by decide +kernel)
theorem kC_X5_takeNumber : Cond.code yX5_takeNumber cX5_takeNumber 8 (some .boolean) ∈ xT := x_mem (i := 351) (by decide +kernel) (by decide +kernel)
theorem kM_X5_62 : Cond.methodLink RX5 62 yX5_tokenNumber ∈ xT := x_mem (i := 352) (by decide +kernel) (by decide +kernel)
theorem kI_X5_tokenNumber : Cond.instanceMethod yX5_tokenNumber ∈ xT := x_mem (i := 354) (by decide +kernel) (by decide +kernel)
theorem kC_X5_tokenNumber : Cond.code yX5_tokenNumber cX5_tokenNumber 3 (some .int) ∈ xT := x_mem (i := 355) (by decide +kernel) (by decide +kernel)
theorem kM_X5_36 : Cond.methodLink RX5 36 yX5_numberOf ∈ xT := x_mem (i := 356) (by decide +kernel) (by decide +kernel)
theorem kI_X5_numberOf : Cond.instanceMethod yX5_numberOf ∈ xT := x_mem (i := 357) (by decide +kernel) (by decide +kernel)
theorem kV_X5_numberOf : Cond.selects RX5 yX5_numberOf yX5_numberOf ∈ xT := x_mem (i := 358) (by decide +kernel) (by decide +kernel)
theorem kC_X5_numberOf : Cond.code yX5_numberOf cX5_numberOf 3 (some .int) ∈ xT := x_mem (i := 359) (by decide +kernel) (by decide +kernel)
theorem kM_X5_46 : Cond.methodLink RX5 46 yX5_isSemicolon ∈ xT := x_mem (i := 360) (by decide +kernel) (by decide +kernel)
theorem kI_X5_isSemicolon : Cond.instanceMethod yX5_isSemicolon ∈ xT := x_mem (i := 362) (by decide +kernel) (by decide +kernel)
theorem kC_X5_isSemicolon : Cond.code yX5_isSemicolon cX5_isSemicolon 1 (some .boolean) ∈ xT := x_mem (i := 363) (by decide +kernel) (by decide +kernel)
theorem kM_L_27 : Cond.methodLink RL 27 yX6_net ∈ xT := x_mem (i := 365) (by decide +kernel) (by decide +kernel)
theorem kI_X6_net : Cond.instanceMethod yX6_net ∈ xT := x_mem (i := 366) (by decide +kernel) (by decide +kernel)
theorem kV_X6_net : Cond.selects RX6 yX6_net yX6_net ∈ xT := x_mem (i := 367) (by decide +kernel) (by decide +kernel)
theorem kC_X6_net : Cond.code yX6_net cX6_net 2 (some .int) ∈ xT := x_mem (i := 368) (by decide +kernel) (by decide +kernel)
theorem kM_X6_78 : Cond.methodLink RX6 78 yX6_doClause ∈ xT := x_mem (i := 369) (by decide +kernel) (by decide +kernel)
theorem kI_X6_doClause : Cond.instanceMethod yX6_doClause ∈ xT := x_mem (i := 371) (by decide +kernel) (by decide +kernel)
theorem kC_X6_doClause : Cond.code yX6_doClause cX6_doClause 5 none ∈ xT := x_mem (i := 372) (by decide +kernel) (by decide +kernel)
theorem kM_X6_88 : Cond.methodLink RX6 88 yX5_numberOf ∈ xT := x_mem (i := 373) (by decide +kernel) (by decide +kernel)
theorem kM_X6_95 : Cond.methodLink RX6 95 yX3_makeEmpty ∈ xT := x_mem (i := 374) (by decide +kernel) (by decide +kernel)
theorem kM_X6_98 : Cond.methodLink RX6 98 yX6_putIfNew ∈ xT := x_mem (i := 375) (by decide +kernel) (by decide +kernel)
theorem kI_X6_putIfNew : Cond.instanceMethod yX6_putIfNew ∈ xT := x_mem (i := 377) (by decide +kernel) (by decide +kernel)
theorem kC_X6_putIfNew : Cond.code yX6_putIfNew cX6_putIfNew 3 none ∈ xT := x_mem (i := 378) (by decide +kernel) (by decide +kernel)
theorem kM_X6_102 : Cond.methodLink RX6 102 yX3_hasArc ∈ xT := x_mem (i := 379) (by decide +kernel) (by decide +kernel)
theorem kI_X3_hasArc : Cond.instanceMethod yX3_hasArc ∈ xT := x_mem (i := 380) (by decide +kernel) (by decide +kernel)
theorem kV_X3_hasArc : Cond.selects RX3 yX3_hasArc yX3_hasArc ∈ xT := x_mem (i := 381) (by decide +kernel) (by decide +kernel)
theorem kC_X3_hasArc : Cond.code yX3_hasArc cX3_hasArc 3 (some .boolean) ∈ xT := x_mem (i := 382) (by decide +kernel) (by decide +kernel)
theorem kM_X3_44 : Cond.methodLinkNest RX3 44 yX6_has RX6 ∈ xT := x_mem (i := 383) (by decide +kernel) (by decide +kernel)
theorem kS_X6_has : Cond.static yX6_has ∈ xT := x_mem (i := 384) (by decide +kernel) (by decide +kernel)
theorem kC_X6_has : Cond.code yX6_has cX6_has 2 (some .boolean) ∈ xT := x_mem (i := 385) (by decide +kernel) (by decide +kernel)
theorem kM_X6_106 : Cond.methodLink RX6 106 yX3_arcs ∈ xT := x_mem (i := 386) (by decide +kernel) (by decide +kernel)
theorem kI_X3_arcs : Cond.instanceMethod yX3_arcs ∈ xT := x_mem (i := 387) (by decide +kernel) (by decide +kernel)
theorem kV_X3_arcs : Cond.selects RX3 yX3_arcs yX3_arcs ∈ xT := x_mem (i := 388) (by decide +kernel) (by decide +kernel)
theorem kC_X3_arcs : Cond.code yX3_arcs cX3_arcs 1 (some .int) ∈ xT := x_mem (i := 389) (by decide +kernel) (by decide +kernel)
theorem kM_X3_48 : Cond.methodLink RX3 48 yX3_allPoints ∈ xT := x_mem (i := 390) (by decide +kernel) (by decide +kernel)
theorem kI_X3_allPoints : Cond.instanceMethod yX3_allPoints ∈ xT := x_mem (i := 391) (by decide +kernel) (by decide +kernel)
theorem kV_X3_allPoints : Cond.selects RX3 yX3_allPoints yX3_allPoints ∈ xT := x_mem (i := 392) (by decide +kernel) (by decide +kernel)
theorem kC_X3_allPoints : Cond.code yX3_allPoints cX3_allPoints 1 (some .int) ∈ xT := x_mem (i := 393) (by decide +kernel) (by decide +kernel)
theorem kM_X3_52 : Cond.methodLink RX3 52 yX3_arcsBetween ∈ xT := x_mem (i := 394) (by decide +kernel) (by decide +kernel)
theorem kI_X3_arcsBetween : Cond.instanceMethod yX3_arcsBetween ∈ xT := x_mem (i := 395) (by decide +kernel) (by decide +kernel)
theorem kV_X3_arcsBetween : Cond.selects RX3 yX3_arcsBetween yX3_arcsBetween ∈ xT := x_mem (i := 396) (by decide +kernel) (by decide +kernel)
theorem kC_X3_arcsBetween : Cond.code yX3_arcsBetween cX3_arcsBetween 5 (some .int) ∈ xT := x_mem (i := 397) (by decide +kernel) (by decide +kernel)
theorem kM_X3_56 : Cond.methodLink RX3 56 yJ6_bitCount_0f7a4 ∈ xT := x_mem (i := 398) (by decide +kernel) (by decide +kernel)
theorem kS_J6_bitCount_0f7a4 : Cond.static yJ6_bitCount_0f7a4 ∈ xT := x_mem (i := 399) (by decide +kernel) (by decide +kernel)
theorem kC_J6_bitCount_0f7a4 : Cond.code yJ6_bitCount_0f7a4 cJ6_bitCount_0f7a4 1 (some .int) ∈ xT := x_mem (i := 400) (by decide +kernel) (by decide +kernel)
theorem kK_J6_265 : Cond.constant RJ6 265 1431655765 ∈ xT := x_mem (i := 401) (by decide +kernel) (by decide +kernel)
theorem kK_J6_266 : Cond.constant RJ6 266 858993459 ∈ xT := x_mem (i := 402) (by decide +kernel) (by decide +kernel)
theorem kK_J6_267 : Cond.constant RJ6 267 252645135 ∈ xT := x_mem (i := 403) (by decide +kernel) (by decide +kernel)
theorem kM_X6_110 : Cond.methodLink RX6 110 yX3_putIn ∈ xT := x_mem (i := 404) (by decide +kernel) (by decide +kernel)
theorem kI_X3_putIn : Cond.instanceMethod yX3_putIn ∈ xT := x_mem (i := 405) (by decide +kernel) (by decide +kernel)
theorem kV_X3_putIn : Cond.selects RX3 yX3_putIn yX3_putIn ∈ xT := x_mem (i := 406) (by decide +kernel) (by decide +kernel)
theorem kC_X3_putIn : Cond.code yX3_putIn cX3_putIn 4 none ∈ xT := x_mem (i := 407) (by decide +kernel) (by decide +kernel)
theorem kM_X3_65 : Cond.methodLink RX3 65 yX3_comesTo ∈ xT := x_mem (i := 408) (by decide +kernel) (by decide +kernel)
theorem kI_X3_comesTo : Cond.instanceMethod yX3_comesTo ∈ xT := x_mem (i := 409) (by decide +kernel) (by decide +kernel)
theorem kV_X3_comesTo : Cond.selects RX3 yX3_comesTo yX3_comesTo ∈ xT := x_mem (i := 410) (by decide +kernel) (by decide +kernel)
theorem kC_X3_comesTo : Cond.code yX3_comesTo cX3_comesTo 3 (some .boolean) ∈ xT := x_mem (i := 411) (by decide +kernel) (by decide +kernel)
theorem kM_X3_68 : Cond.methodLink RX3 68 yX3_graft ∈ xT := x_mem (i := 412) (by decide +kernel) (by decide +kernel)
theorem kI_X3_graft : Cond.instanceMethod yX3_graft ∈ xT := x_mem (i := 414) (by decide +kernel) (by decide +kernel)
theorem kC_X3_graft : Cond.code yX3_graft cX3_graft 5 none ∈ xT := x_mem (i := 415) (by decide +kernel) (by decide +kernel)
theorem kM_X3_72 : Cond.methodLink RX3 72 yX3_followArcs ∈ xT := x_mem (i := 416) (by decide +kernel) (by decide +kernel)
theorem kI_X3_followArcs : Cond.instanceMethod yX3_followArcs ∈ xT := x_mem (i := 418) (by decide +kernel) (by decide +kernel)
theorem kC_X3_followArcs : Cond.code yX3_followArcs cX3_followArcs 5 none ∈ xT := x_mem (i := 419) (by decide +kernel) (by decide +kernel)
theorem kM_X3_76 : Cond.methodLink RX3 76 yX3_hasArc ∈ xT := x_mem (i := 420) (by decide +kernel) (by decide +kernel)
theorem kM_X6_82 : Cond.methodLink RX6 82 yX4_forget ∈ xT := x_mem (i := 421) (by decide +kernel) (by decide +kernel)
theorem kI_X4_forget : Cond.instanceMethod yX4_forget ∈ xT := x_mem (i := 422) (by decide +kernel) (by decide +kernel)
theorem kV_X4_forget : Cond.selects RX4 yX4_forget yX4_forget ∈ xT := x_mem (i := 423) (by decide +kernel) (by decide +kernel)
theorem kC_X4_forget : Cond.code yX4_forget cX4_forget 1 none ∈ xT := x_mem (i := 424) (by decide +kernel) (by decide +kernel)
theorem kM_X6_85 : Cond.methodLink RX6 85 yX0_vanish ∈ xT := x_mem (i := 425) (by decide +kernel) (by decide +kernel)
theorem kI_X0_vanish : Cond.instanceMethod yX0_vanish ∈ xT := x_mem (i := 426) (by decide +kernel) (by decide +kernel)
theorem kV_X0_vanish : Cond.selects RX0 yX0_vanish yX0_vanish ∈ xT := x_mem (i := 427) (by decide +kernel) (by decide +kernel)
theorem kC_X0_vanish : Cond.code yX0_vanish cX0_vanish 1 none ∈ xT := x_mem (i := 428) (by decide +kernel) (by decide +kernel)
theorem kM_L_31 : Cond.methodLink RL 31 yX6_put ∈ xT := x_mem (i := 429) (by decide +kernel) (by decide +kernel)
theorem kI_X6_put : Cond.instanceMethod yX6_put ∈ xT := x_mem (i := 430) (by decide +kernel) (by decide +kernel)
theorem kV_X6_put : Cond.selects RX6 yX6_put yX6_put ∈ xT := x_mem (i := 431) (by decide +kernel) (by decide +kernel)
theorem kC_X6_put : Cond.code yX6_put cX6_put 4 (some .int) ∈ xT := x_mem (i := 432) (by decide +kernel) (by decide +kernel)
theorem kM_X6_113 : Cond.methodLink RX6 113 yX6_arePair ∈ xT := x_mem (i := 433) (by decide +kernel) (by decide +kernel)
theorem kI_X6_arePair : Cond.instanceMethod yX6_arePair ∈ xT := x_mem (i := 435) (by decide +kernel) (by decide +kernel)
theorem kC_X6_arePair : Cond.code yX6_arePair cX6_arePair 3 (some .boolean) ∈ xT := x_mem (i := 436) (by decide +kernel) (by decide +kernel)
theorem kM_X6_147 : Cond.methodLink RX6 147 yX6_isPoint ∈ xT := x_mem (i := 437) (by decide +kernel) (by decide +kernel)
theorem kI_X6_isPoint : Cond.instanceMethod yX6_isPoint ∈ xT := x_mem (i := 439) (by decide +kernel) (by decide +kernel)
theorem kC_X6_isPoint : Cond.code yX6_isPoint cX6_isPoint 2 (some .boolean) ∈ xT := x_mem (i := 440) (by decide +kernel) (by decide +kernel)
theorem kM_X6_116 : Cond.methodLink RX6 116 yX4_note ∈ xT := x_mem (i := 441) (by decide +kernel) (by decide +kernel)
theorem kI_X4_note : Cond.instanceMethod yX4_note ∈ xT := x_mem (i := 442) (by decide +kernel) (by decide +kernel)
theorem kV_X4_note : Cond.selects RX4 yX4_note yX4_note ∈ xT := x_mem (i := 443) (by decide +kernel) (by decide +kernel)
theorem kC_X4_note : Cond.code yX4_note cX4_note 2 none ∈ xT := x_mem (i := 444) (by decide +kernel) (by decide +kernel)
theorem kM_X4_22 : Cond.methodLink RX4 22 yX3_copyFrom ∈ xT := x_mem (i := 445) (by decide +kernel) (by decide +kernel)
theorem kI_X3_copyFrom : Cond.instanceMethod yX3_copyFrom ∈ xT := x_mem (i := 446) (by decide +kernel) (by decide +kernel)
theorem kV_X3_copyFrom : Cond.selects RX3 yX3_copyFrom yX3_copyFrom ∈ xT := x_mem (i := 447) (by decide +kernel) (by decide +kernel)
theorem kC_X3_copyFrom : Cond.code yX3_copyFrom cX3_copyFrom 2 none ∈ xT := x_mem (i := 448) (by decide +kernel) (by decide +kernel)
theorem kM_X4_29 : Cond.methodLink RX4 29 yJ9_min_7cf53 ∈ xT := x_mem (i := 452) (by decide +kernel) (by decide +kernel)
theorem kS_J9_min_7cf53 : Cond.static yJ9_min_7cf53 ∈ xT := x_mem (i := 453) (by decide +kernel) (by decide +kernel)
theorem kC_J9_min_7cf53 : Cond.code yJ9_min_7cf53 cJ9_min_7cf53 2 (some .int) ∈ xT := x_mem (i := 454) (by decide +kernel) (by decide +kernel)
theorem kM_X6_120 : Cond.methodLink RX6 120 yX3_pairs ∈ xT := x_mem (i := 455) (by decide +kernel) (by decide +kernel)
theorem kI_X3_pairs : Cond.instanceMethod yX3_pairs ∈ xT := x_mem (i := 456) (by decide +kernel) (by decide +kernel)
theorem kV_X3_pairs : Cond.selects RX3 yX3_pairs yX3_pairs ∈ xT := x_mem (i := 457) (by decide +kernel) (by decide +kernel)
theorem kC_X3_pairs : Cond.code yX3_pairs cX3_pairs 3 (some .int) ∈ xT := x_mem (i := 458) (by decide +kernel) (by decide +kernel)
theorem kM_L_36 : Cond.methodLink RL 36 yX6_take ∈ xT := x_mem (i := 459) (by decide +kernel) (by decide +kernel)
theorem kI_X6_take : Cond.instanceMethod yX6_take ∈ xT := x_mem (i := 460) (by decide +kernel) (by decide +kernel)
theorem kV_X6_take : Cond.selects RX6 yX6_take yX6_take ∈ xT := x_mem (i := 461) (by decide +kernel) (by decide +kernel)
theorem kC_X6_take : Cond.code yX6_take cX6_take 5 (some .int) ∈ xT := x_mem (i := 462) (by decide +kernel) (by decide +kernel)
theorem kM_X6_123 : Cond.methodLink RX6 123 yX3_allPoints ∈ xT := x_mem (i := 463) (by decide +kernel) (by decide +kernel)
theorem kM_X6_126 : Cond.methodLink RX6 126 yX3_arcsBetween ∈ xT := x_mem (i := 464) (by decide +kernel) (by decide +kernel)
theorem kM_X6_129 : Cond.methodLink RX6 129 yX3_takeOut ∈ xT := x_mem (i := 465) (by decide +kernel) (by decide +kernel)
theorem kI_X3_takeOut : Cond.instanceMethod yX3_takeOut ∈ xT := x_mem (i := 466) (by decide +kernel) (by decide +kernel)
theorem kV_X3_takeOut : Cond.selects RX3 yX3_takeOut yX3_takeOut ∈ xT := x_mem (i := 467) (by decide +kernel) (by decide +kernel)
theorem kC_X3_takeOut : Cond.code yX3_takeOut cX3_takeOut 4 none ∈ xT := x_mem (i := 468) (by decide +kernel) (by decide +kernel)
theorem kM_X3_79 : Cond.methodLink RX3 79 yX3_stoodOn ∈ xT := x_mem (i := 469) (by decide +kernel) (by decide +kernel)
theorem kI_X3_stoodOn : Cond.instanceMethod yX3_stoodOn ∈ xT := x_mem (i := 471) (by decide +kernel) (by decide +kernel)
theorem kC_X3_stoodOn : Cond.code yX3_stoodOn cX3_stoodOn 6 (some .boolean) ∈ xT := x_mem (i := 472) (by decide +kernel) (by decide +kernel)
theorem kM_X3_62 : Cond.methodLink RX3 62 yX3_aboveOf ∈ xT := x_mem (i := 473) (by decide +kernel) (by decide +kernel)
theorem kI_X3_aboveOf : Cond.instanceMethod yX3_aboveOf ∈ xT := x_mem (i := 474) (by decide +kernel) (by decide +kernel)
theorem kV_X3_aboveOf : Cond.selects RX3 yX3_aboveOf yX3_aboveOf ∈ xT := x_mem (i := 475) (by decide +kernel) (by decide +kernel)
theorem kC_X3_aboveOf : Cond.code yX3_aboveOf cX3_aboveOf 3 (some .int) ∈ xT := x_mem (i := 476) (by decide +kernel) (by decide +kernel)
theorem kM_X3_83 : Cond.methodLink RX3 83 yX3_makeAnew ∈ xT := x_mem (i := 477) (by decide +kernel) (by decide +kernel)
theorem kI_X3_makeAnew : Cond.instanceMethod yX3_makeAnew ∈ xT := x_mem (i := 479) (by decide +kernel) (by decide +kernel)
theorem kC_X3_makeAnew : Cond.code yX3_makeAnew cX3_makeAnew 3 none ∈ xT := x_mem (i := 480) (by decide +kernel) (by decide +kernel)
theorem kM_L_40 : Cond.methodLink RL 40 yX6_clear ∈ xT := x_mem (i := 481) (by decide +kernel) (by decide +kernel)
theorem kI_X6_clear : Cond.instanceMethod yX6_clear ∈ xT := x_mem (i := 482) (by decide +kernel) (by decide +kernel)
theorem kV_X6_clear : Cond.selects RX6 yX6_clear yX6_clear ∈ xT := x_mem (i := 483) (by decide +kernel) (by decide +kernel)
theorem kC_X6_clear : Cond.code yX6_clear cX6_clear 2 (some .int) ∈ xT := x_mem (i := 484) (by decide +kernel) (by decide +kernel)
theorem kM_L_44 : Cond.methodLink RL 44 yX6_undo ∈ xT := x_mem (i := 485) (by decide +kernel) (by decide +kernel)
theorem kI_X6_undo : Cond.instanceMethod yX6_undo ∈ xT := x_mem (i := 486) (by decide +kernel) (by decide +kernel)
theorem kV_X6_undo : Cond.selects RX6 yX6_undo yX6_undo ∈ xT := x_mem (i := 487) (by decide +kernel) (by decide +kernel)
theorem kC_X6_undo : Cond.code yX6_undo cX6_undo 1 (some .int) ∈ xT := x_mem (i := 488) (by decide +kernel) (by decide +kernel)
theorem kM_X6_138 : Cond.methodLink RX6 138 yX4_restore ∈ xT := x_mem (i := 489) (by decide +kernel) (by decide +kernel)
theorem kI_X4_restore : Cond.instanceMethod yX4_restore ∈ xT := x_mem (i := 490) (by decide +kernel) (by decide +kernel)
theorem kV_X4_restore : Cond.selects RX4 yX4_restore yX4_restore ∈ xT := x_mem (i := 491) (by decide +kernel) (by decide +kernel)
theorem kC_X4_restore : Cond.code yX4_restore cX4_restore 2 none ∈ xT := x_mem (i := 492) (by decide +kernel) (by decide +kernel)
theorem kM_L_48 : Cond.methodLink RL 48 yX6_keep ∈ xT := x_mem (i := 493) (by decide +kernel) (by decide +kernel)
theorem kI_X6_keep : Cond.instanceMethod yX6_keep ∈ xT := x_mem (i := 494) (by decide +kernel) (by decide +kernel)
theorem kV_X6_keep : Cond.selects RX6 yX6_keep yX6_keep ∈ xT := x_mem (i := 495) (by decide +kernel) (by decide +kernel)
theorem kC_X6_keep : Cond.code yX6_keep cX6_keep 2 (some .int) ∈ xT := x_mem (i := 496) (by decide +kernel) (by decide +kernel)
theorem kM_X6_141 : Cond.methodLink RX6 141 yX3_copyFrom ∈ xT := x_mem (i := 497) (by decide +kernel) (by decide +kernel)
theorem kM_L_52 : Cond.methodLink RL 52 yX6_back ∈ xT := x_mem (i := 498) (by decide +kernel) (by decide +kernel)
theorem kI_X6_back : Cond.instanceMethod yX6_back ∈ xT := x_mem (i := 499) (by decide +kernel) (by decide +kernel)
theorem kV_X6_back : Cond.selects RX6 yX6_back yX6_back ∈ xT := x_mem (i := 500) (by decide +kernel) (by decide +kernel)
theorem kC_X6_back : Cond.code yX6_back cX6_back 2 (some .int) ∈ xT := x_mem (i := 501) (by decide +kernel) (by decide +kernel)
theorem kM_X6_144 : Cond.methodLink RX6 144 yX6_has ∈ xT := x_mem (i := 502) (by decide +kernel) (by decide +kernel)
theorem kM_L_56 : Cond.methodLink RL 56 yX6_arc ∈ xT := x_mem (i := 503) (by decide +kernel) (by decide +kernel)
theorem kI_X6_arc : Cond.instanceMethod yX6_arc ∈ xT := x_mem (i := 504) (by decide +kernel) (by decide +kernel)
theorem kV_X6_arc : Cond.selects RX6 yX6_arc yX6_arc ∈ xT := x_mem (i := 505) (by decide +kernel) (by decide +kernel)
theorem kC_X6_arc : Cond.code yX6_arc cX6_arc 3 (some .int) ∈ xT := x_mem (i := 506) (by decide +kernel) (by decide +kernel)
theorem kM_L_60 : Cond.methodLink RL 60 yX6_reaches ∈ xT := x_mem (i := 507) (by decide +kernel) (by decide +kernel)
theorem kI_X6_reaches : Cond.instanceMethod yX6_reaches ∈ xT := x_mem (i := 508) (by decide +kernel) (by decide +kernel)
theorem kV_X6_reaches : Cond.selects RX6 yX6_reaches yX6_reaches ∈ xT := x_mem (i := 509) (by decide +kernel) (by decide +kernel)
theorem kC_X6_reaches : Cond.code yX6_reaches cX6_reaches 3 (some .int) ∈ xT := x_mem (i := 510) (by decide +kernel) (by decide +kernel)
theorem kM_X6_151 : Cond.methodLink RX6 151 yX3_comesTo ∈ xT := x_mem (i := 511) (by decide +kernel) (by decide +kernel)
theorem kM_L_64 : Cond.methodLink RL 64 yX6_above ∈ xT := x_mem (i := 512) (by decide +kernel) (by decide +kernel)
theorem kI_X6_above : Cond.instanceMethod yX6_above ∈ xT := x_mem (i := 513) (by decide +kernel) (by decide +kernel)
theorem kV_X6_above : Cond.selects RX6 yX6_above yX6_above ∈ xT := x_mem (i := 514) (by decide +kernel) (by decide +kernel)
theorem kC_X6_above : Cond.code yX6_above cX6_above 3 (some .int) ∈ xT := x_mem (i := 515) (by decide +kernel) (by decide +kernel)
theorem kM_X6_154 : Cond.methodLink RX6 154 yX3_aboveOf ∈ xT := x_mem (i := 516) (by decide +kernel) (by decide +kernel)
theorem kM_L_68 : Cond.methodLink RL 68 yX6_way ∈ xT := x_mem (i := 517) (by decide +kernel) (by decide +kernel)
theorem kI_X6_way : Cond.instanceMethod yX6_way ∈ xT := x_mem (i := 518) (by decide +kernel) (by decide +kernel)
theorem kV_X6_way : Cond.selects RX6 yX6_way yX6_way ∈ xT := x_mem (i := 519) (by decide +kernel) (by decide +kernel)
theorem kC_X6_way : Cond.code yX6_way cX6_way 5 (some .int) ∈ xT := x_mem (i := 520) (by decide +kernel) (by decide +kernel)
theorem kM_X6_157 : Cond.methodLink RX6 157 yX3_depthOf ∈ xT := x_mem (i := 521) (by decide +kernel) (by decide +kernel)
theorem kI_X3_depthOf : Cond.instanceMethod yX3_depthOf ∈ xT := x_mem (i := 522) (by decide +kernel) (by decide +kernel)
theorem kV_X3_depthOf : Cond.selects RX3 yX3_depthOf yX3_depthOf ∈ xT := x_mem (i := 523) (by decide +kernel) (by decide +kernel)
theorem kC_X3_depthOf : Cond.code yX3_depthOf cX3_depthOf 5 (some .int) ∈ xT := x_mem (i := 524) (by decide +kernel) (by decide +kernel)
theorem kM_X6_160 : Cond.methodLink RX6 160 yX3_climb ∈ xT := x_mem (i := 525) (by decide +kernel) (by decide +kernel)
theorem kI_X3_climb : Cond.instanceMethod yX3_climb ∈ xT := x_mem (i := 526) (by decide +kernel) (by decide +kernel)
theorem kV_X3_climb : Cond.selects RX3 yX3_climb yX3_climb ∈ xT := x_mem (i := 527) (by decide +kernel) (by decide +kernel)
theorem kC_X3_climb : Cond.code yX3_climb cX3_climb 6 (some .int) ∈ xT := x_mem (i := 528) (by decide +kernel) (by decide +kernel)
theorem kM_L_73 : Cond.methodLink RL 73 yX6_around ∈ xT := x_mem (i := 529) (by decide +kernel) (by decide +kernel)
theorem kI_X6_around : Cond.instanceMethod yX6_around ∈ xT := x_mem (i := 530) (by decide +kernel) (by decide +kernel)
theorem kV_X6_around : Cond.selects RX6 yX6_around yX6_around ∈ xT := x_mem (i := 531) (by decide +kernel) (by decide +kernel)
theorem kC_X6_around : Cond.code yX6_around cX6_around 3 (some .int) ∈ xT := x_mem (i := 532) (by decide +kernel) (by decide +kernel)
theorem kM_X6_167 : Cond.methodLink RX6 167 yX3_comersTo ∈ xT := x_mem (i := 533) (by decide +kernel) (by decide +kernel)
theorem kI_X3_comersTo : Cond.instanceMethod yX3_comersTo ∈ xT := x_mem (i := 534) (by decide +kernel) (by decide +kernel)
theorem kV_X3_comersTo : Cond.selects RX3 yX3_comersTo yX3_comersTo ∈ xT := x_mem (i := 535) (by decide +kernel) (by decide +kernel)
theorem kC_X3_comersTo : Cond.code yX3_comersTo cX3_comersTo 4 (some .int) ∈ xT := x_mem (i := 536) (by decide +kernel) (by decide +kernel)
theorem kM_X6_170 : Cond.methodLink RX6 170 yX3_ringOf ∈ xT := x_mem (i := 537) (by decide +kernel) (by decide +kernel)
theorem kI_X3_ringOf : Cond.instanceMethod yX3_ringOf ∈ xT := x_mem (i := 538) (by decide +kernel) (by decide +kernel)
theorem kV_X3_ringOf : Cond.selects RX3 yX3_ringOf yX3_ringOf ∈ xT := x_mem (i := 539) (by decide +kernel) (by decide +kernel)
theorem kC_X3_ringOf : Cond.code yX3_ringOf cX3_ringOf 2 (some .int) ∈ xT := x_mem (i := 540) (by decide +kernel) (by decide +kernel)
theorem kM_X3_86 : Cond.methodLink RX3 86 yX3_comersTo ∈ xT := x_mem (i := 541) (by decide +kernel) (by decide +kernel)
theorem kM_L_77 : Cond.methodLink RL 77 yX6_needless ∈ xT := x_mem (i := 542) (by decide +kernel) (by decide +kernel)
theorem kI_X6_needless : Cond.instanceMethod yX6_needless ∈ xT := x_mem (i := 543) (by decide +kernel) (by decide +kernel)
theorem kV_X6_needless : Cond.selects RX6 yX6_needless yX6_needless ∈ xT := x_mem (i := 544) (by decide +kernel) (by decide +kernel)
theorem kC_X6_needless : Cond.code yX6_needless cX6_needless 3 (some .int) ∈ xT := x_mem (i := 545) (by decide +kernel) (by decide +kernel)
theorem kM_X6_173 : Cond.methodLink RX6 173 yX6_isArcThere ∈ xT := x_mem (i := 546) (by decide +kernel) (by decide +kernel)
theorem kI_X6_isArcThere : Cond.instanceMethod yX6_isArcThere ∈ xT := x_mem (i := 548) (by decide +kernel) (by decide +kernel)
theorem kC_X6_isArcThere : Cond.code yX6_isArcThere cX6_isArcThere 3 (some .boolean) ∈ xT := x_mem (i := 549) (by decide +kernel) (by decide +kernel)
theorem kM_X6_176 : Cond.methodLink RX6 176 yX3_isNeedless ∈ xT := x_mem (i := 550) (by decide +kernel) (by decide +kernel)
theorem kI_X3_isNeedless : Cond.instanceMethod yX3_isNeedless ∈ xT := x_mem (i := 551) (by decide +kernel) (by decide +kernel)
theorem kV_X3_isNeedless : Cond.selects RX3 yX3_isNeedless yX3_isNeedless ∈ xT := x_mem (i := 552) (by decide +kernel) (by decide +kernel)
theorem kC_X3_isNeedless : Cond.code yX3_isNeedless cX3_isNeedless 3 (some .boolean) ∈ xT := x_mem (i := 553) (by decide +kernel) (by decide +kernel)
theorem kM_X3_95 : Cond.methodLink RX3 95 yX3_membersWithout ∈ xT := x_mem (i := 554) (by decide +kernel) (by decide +kernel)
theorem kI_X3_membersWithout : Cond.instanceMethod yX3_membersWithout ∈ xT := x_mem (i := 556) (by decide +kernel) (by decide +kernel)
theorem kC_X3_membersWithout : Cond.code yX3_membersWithout cX3_membersWithout 9 (some .int) ∈ xT := x_mem (i := 557) (by decide +kernel) (by decide +kernel)
theorem kM_X3_92 : Cond.methodLinkNest RX3 92 yX6_lowest RX6 ∈ xT := x_mem (i := 558) (by decide +kernel) (by decide +kernel)
theorem kS_X6_lowest : Cond.static yX6_lowest ∈ xT := x_mem (i := 559) (by decide +kernel) (by decide +kernel)
theorem kC_X6_lowest : Cond.code yX6_lowest cX6_lowest 1 (some .int) ∈ xT := x_mem (i := 560) (by decide +kernel) (by decide +kernel)
theorem kM_X6_248 : Cond.methodLink RX6 248 yJ6_bitCount_0f7a4 ∈ xT := x_mem (i := 561) (by decide +kernel) (by decide +kernel)
theorem kM_L_81 : Cond.methodLink RL 81 yX6_reduced ∈ xT := x_mem (i := 562) (by decide +kernel) (by decide +kernel)
theorem kI_X6_reduced : Cond.instanceMethod yX6_reduced ∈ xT := x_mem (i := 563) (by decide +kernel) (by decide +kernel)
theorem kV_X6_reduced : Cond.selects RX6 yX6_reduced yX6_reduced ∈ xT := x_mem (i := 564) (by decide +kernel) (by decide +kernel)
theorem kC_X6_reduced : Cond.code yX6_reduced cX6_reduced 1 (some .int) ∈ xT := x_mem (i := 565) (by decide +kernel) (by decide +kernel)
theorem kM_X6_179 : Cond.methodLink RX6 179 yX3_rings ∈ xT := x_mem (i := 566) (by decide +kernel) (by decide +kernel)
theorem kI_X3_rings : Cond.instanceMethod yX3_rings ∈ xT := x_mem (i := 567) (by decide +kernel) (by decide +kernel)
theorem kV_X3_rings : Cond.selects RX3 yX3_rings yX3_rings ∈ xT := x_mem (i := 568) (by decide +kernel) (by decide +kernel)
theorem kC_X3_rings : Cond.code yX3_rings cX3_rings 3 (some .int) ∈ xT := x_mem (i := 569) (by decide +kernel) (by decide +kernel)
theorem kM_X3_89 : Cond.methodLink RX3 89 yX3_ringOf ∈ xT := x_mem (i := 570) (by decide +kernel) (by decide +kernel)
theorem kM_X6_182 : Cond.methodLink RX6 182 yX3_needlessArcs ∈ xT := x_mem (i := 571) (by decide +kernel) (by decide +kernel)
theorem kI_X3_needlessArcs : Cond.instanceMethod yX3_needlessArcs ∈ xT := x_mem (i := 572) (by decide +kernel) (by decide +kernel)
theorem kV_X3_needlessArcs : Cond.selects RX3 yX3_needlessArcs yX3_needlessArcs ∈ xT := x_mem (i := 573) (by decide +kernel) (by decide +kernel)
theorem kC_X3_needlessArcs : Cond.code yX3_needlessArcs cX3_needlessArcs 4 (some .int) ∈ xT := x_mem (i := 574) (by decide +kernel) (by decide +kernel)
theorem kM_X3_99 : Cond.methodLink RX3 99 yX3_isNeedless ∈ xT := x_mem (i := 575) (by decide +kernel) (by decide +kernel)
theorem kM_L_85 : Cond.methodLink RL 85 yX6_fold ∈ xT := x_mem (i := 576) (by decide +kernel) (by decide +kernel)
theorem kI_X6_fold : Cond.instanceMethod yX6_fold ∈ xT := x_mem (i := 577) (by decide +kernel) (by decide +kernel)
theorem kV_X6_fold : Cond.selects RX6 yX6_fold yX6_fold ∈ xT := x_mem (i := 578) (by decide +kernel) (by decide +kernel)
theorem kC_X6_fold : Cond.code yX6_fold cX6_fold 6 (some .int) ∈ xT := x_mem (i := 579) (by decide +kernel) (by decide +kernel)
theorem kM_X6_185 : Cond.methodLink RX6 185 yX6_foldPair ∈ xT := x_mem (i := 580) (by decide +kernel) (by decide +kernel)
theorem kI_X6_foldPair : Cond.instanceMethod yX6_foldPair ∈ xT := x_mem (i := 582) (by decide +kernel) (by decide +kernel)
theorem kC_X6_foldPair : Cond.code yX6_foldPair cX6_foldPair 6 (some .int) ∈ xT := x_mem (i := 583) (by decide +kernel) (by decide +kernel)
theorem kM_X6_189 : Cond.methodLink RX6 189 yX6_tell ∈ xT := x_mem (i := 584) (by decide +kernel) (by decide +kernel)
theorem kS_X6_tell : Cond.static yX6_tell ∈ xT := x_mem (i := 585) (by decide +kernel) (by decide +kernel)
theorem kC_X6_tell : Cond.code yX6_tell cX6_tell 2 (some .int) ∈ xT := x_mem (i := 586) (by decide +kernel) (by decide +kernel)
theorem kM_X6_192 : Cond.methodLink RX6 192 yJ9_max_7cf53 ∈ xT := x_mem (i := 587) (by decide +kernel) (by decide +kernel)
theorem kS_J9_max_7cf53 : Cond.static yJ9_max_7cf53 ∈ xT := x_mem (i := 588) (by decide +kernel) (by decide +kernel)
theorem kC_J9_max_7cf53 : Cond.code yJ9_max_7cf53 cJ9_max_7cf53 2 (some .int) ∈ xT := x_mem (i := 589) (by decide +kernel) (by decide +kernel)
theorem kM_L_89 : Cond.methodLink RL 89 yX6_gain ∈ xT := x_mem (i := 590) (by decide +kernel) (by decide +kernel)
theorem kI_X6_gain : Cond.instanceMethod yX6_gain ∈ xT := x_mem (i := 591) (by decide +kernel) (by decide +kernel)
theorem kV_X6_gain : Cond.selects RX6 yX6_gain yX6_gain ∈ xT := x_mem (i := 592) (by decide +kernel) (by decide +kernel)
theorem kC_X6_gain : Cond.code yX6_gain cX6_gain 4 (some .int) ∈ xT := x_mem (i := 593) (by decide +kernel) (by decide +kernel)
theorem kM_X6_197 : Cond.methodLink RX6 197 yX3_pairsGained ∈ xT := x_mem (i := 594) (by decide +kernel) (by decide +kernel)
theorem kI_X3_pairsGained : Cond.instanceMethod yX3_pairsGained ∈ xT := x_mem (i := 595) (by decide +kernel) (by decide +kernel)
theorem kV_X3_pairsGained : Cond.selects RX3 yX3_pairsGained yX3_pairsGained ∈ xT := x_mem (i := 596) (by decide +kernel) (by decide +kernel)
theorem kC_X3_pairsGained : Cond.code yX3_pairsGained cX3_pairsGained 5 (some .int) ∈ xT := x_mem (i := 597) (by decide +kernel) (by decide +kernel)
theorem kM_X3_102 : Cond.methodLink RX3 102 yX3_newMembers ∈ xT := x_mem (i := 598) (by decide +kernel) (by decide +kernel)
theorem kI_X3_newMembers : Cond.instanceMethod yX3_newMembers ∈ xT := x_mem (i := 600) (by decide +kernel) (by decide +kernel)
theorem kC_X3_newMembers : Cond.code yX3_newMembers cX3_newMembers 4 (some .int) ∈ xT := x_mem (i := 601) (by decide +kernel) (by decide +kernel)
theorem kM_X6_200 : Cond.methodLink RX6 200 yX3_workGained ∈ xT := x_mem (i := 602) (by decide +kernel) (by decide +kernel)
theorem kI_X3_workGained : Cond.instanceMethod yX3_workGained ∈ xT := x_mem (i := 603) (by decide +kernel) (by decide +kernel)
theorem kV_X3_workGained : Cond.selects RX3 yX3_workGained yX3_workGained ∈ xT := x_mem (i := 604) (by decide +kernel) (by decide +kernel)
theorem kC_X3_workGained : Cond.code yX3_workGained cX3_workGained 5 (some .int) ∈ xT := x_mem (i := 605) (by decide +kernel) (by decide +kernel)
theorem kM_L_93 : Cond.methodLink RL 93 yX6_best ∈ xT := x_mem (i := 606) (by decide +kernel) (by decide +kernel)
theorem kI_X6_best : Cond.instanceMethod yX6_best ∈ xT := x_mem (i := 607) (by decide +kernel) (by decide +kernel)
theorem kV_X6_best : Cond.selects RX6 yX6_best yX6_best ∈ xT := x_mem (i := 608) (by decide +kernel) (by decide +kernel)
theorem kC_X6_best : Cond.code yX6_best cX6_best 6 (some .int) ∈ xT := x_mem (i := 609) (by decide +kernel) (by decide +kernel)
theorem kM_L_97 : Cond.methodLink RL 97 yX6_loss ∈ xT := x_mem (i := 610) (by decide +kernel) (by decide +kernel)
theorem kI_X6_loss : Cond.instanceMethod yX6_loss ∈ xT := x_mem (i := 611) (by decide +kernel) (by decide +kernel)
theorem kV_X6_loss : Cond.selects RX6 yX6_loss yX6_loss ∈ xT := x_mem (i := 612) (by decide +kernel) (by decide +kernel)
theorem kC_X6_loss : Cond.code yX6_loss cX6_loss 3 (some .int) ∈ xT := x_mem (i := 613) (by decide +kernel) (by decide +kernel)
theorem kM_X6_203 : Cond.methodLink RX6 203 yX3_pairsLost ∈ xT := x_mem (i := 614) (by decide +kernel) (by decide +kernel)
theorem kI_X3_pairsLost : Cond.instanceMethod yX3_pairsLost ∈ xT := x_mem (i := 615) (by decide +kernel) (by decide +kernel)
theorem kV_X3_pairsLost : Cond.selects RX3 yX3_pairsLost yX3_pairsLost ∈ xT := x_mem (i := 616) (by decide +kernel) (by decide +kernel)
theorem kC_X3_pairsLost : Cond.code yX3_pairsLost cX3_pairsLost 5 (some .int) ∈ xT := x_mem (i := 617) (by decide +kernel) (by decide +kernel)
theorem kM_L_101 : Cond.methodLink RL 101 yX6_worst ∈ xT := x_mem (i := 618) (by decide +kernel) (by decide +kernel)
theorem kI_X6_worst : Cond.instanceMethod yX6_worst ∈ xT := x_mem (i := 619) (by decide +kernel) (by decide +kernel)
theorem kV_X6_worst : Cond.selects RX6 yX6_worst yX6_worst ∈ xT := x_mem (i := 620) (by decide +kernel) (by decide +kernel)
theorem kC_X6_worst : Cond.code yX6_worst cX6_worst 6 (some .int) ∈ xT := x_mem (i := 621) (by decide +kernel) (by decide +kernel)
theorem kM_L_105 : Cond.methodLink RL 105 yX6_sever ∈ xT := x_mem (i := 622) (by decide +kernel) (by decide +kernel)
theorem kI_X6_sever : Cond.instanceMethod yX6_sever ∈ xT := x_mem (i := 623) (by decide +kernel) (by decide +kernel)
theorem kV_X6_sever : Cond.selects RX6 yX6_sever yX6_sever ∈ xT := x_mem (i := 624) (by decide +kernel) (by decide +kernel)
theorem kC_X6_sever : Cond.code yX6_sever cX6_sever 3 (some .int) ∈ xT := x_mem (i := 625) (by decide +kernel) (by decide +kernel)
theorem kM_X6_206 : Cond.methodLink RX6 206 yX1_fewestArcs ∈ xT := x_mem (i := 626) (by decide +kernel) (by decide +kernel)
theorem kI_X1_fewestArcs : Cond.instanceMethod yX1_fewestArcs ∈ xT := x_mem (i := 627) (by decide +kernel) (by decide +kernel)
theorem kV_X1_fewestArcs : Cond.selects RX1 yX1_fewestArcs yX1_fewestArcs ∈ xT := x_mem (i := 628) (by decide +kernel) (by decide +kernel)
theorem kC_X1_fewestArcs : Cond.code yX1_fewestArcs cX1_fewestArcs 5 (some .int) ∈ xT := x_mem (i := 629) (by decide +kernel) (by decide +kernel)
theorem kM_X1_21 : Cond.methodLink RX1 21 yJ7_fill_53178 ∈ xT := x_mem (i := 630) (by decide +kernel) (by decide +kernel)
theorem kM_X1_27 : Cond.methodLink RX1 27 yX1_findWay ∈ xT := x_mem (i := 631) (by decide +kernel) (by decide +kernel)
theorem kI_X1_findWay : Cond.instanceMethod yX1_findWay ∈ xT := x_mem (i := 633) (by decide +kernel) (by decide +kernel)
theorem kC_X1_findWay : Cond.code yX1_findWay cX1_findWay 10 (some .boolean) ∈ xT := x_mem (i := 634) (by decide +kernel) (by decide +kernel)
theorem kM_X1_35 : Cond.methodLinkNest RX1 35 yX6_has RX6 ∈ xT := x_mem (i := 635) (by decide +kernel) (by decide +kernel)
theorem kM_X1_39 : Cond.methodLinkNest RX1 39 yX6_lowest RX6 ∈ xT := x_mem (i := 636) (by decide +kernel) (by decide +kernel)
theorem kM_X1_31 : Cond.methodLink RX1 31 yX1_useWay ∈ xT := x_mem (i := 637) (by decide +kernel) (by decide +kernel)
theorem kI_X1_useWay : Cond.instanceMethod yX1_useWay ∈ xT := x_mem (i := 639) (by decide +kernel) (by decide +kernel)
theorem kC_X1_useWay : Cond.code yX1_useWay cX1_useWay 6 none ∈ xT := x_mem (i := 640) (by decide +kernel) (by decide +kernel)
theorem kM_X1_52 : Cond.methodLink RX1 52 yX1_useStep ∈ xT := x_mem (i := 641) (by decide +kernel) (by decide +kernel)
theorem kI_X1_useStep : Cond.instanceMethod yX1_useStep ∈ xT := x_mem (i := 643) (by decide +kernel) (by decide +kernel)
theorem kC_X1_useStep : Cond.code yX1_useStep cX1_useStep 3 none ∈ xT := x_mem (i := 644) (by decide +kernel) (by decide +kernel)
theorem kM_L_109 : Cond.methodLink RL 109 yX6_chain ∈ xT := x_mem (i := 645) (by decide +kernel) (by decide +kernel)
theorem kI_X6_chain : Cond.instanceMethod yX6_chain ∈ xT := x_mem (i := 646) (by decide +kernel) (by decide +kernel)
theorem kV_X6_chain : Cond.selects RX6 yX6_chain yX6_chain ∈ xT := x_mem (i := 647) (by decide +kernel) (by decide +kernel)
theorem kC_X6_chain : Cond.code yX6_chain cX6_chain 2 (some .int) ∈ xT := x_mem (i := 648) (by decide +kernel) (by decide +kernel)
theorem kM_X6_210 : Cond.methodLink RX6 210 yX6_isChain ∈ xT := x_mem (i := 649) (by decide +kernel) (by decide +kernel)
theorem kS_X6_isChain : Cond.static yX6_isChain ∈ xT := x_mem (i := 650) (by decide +kernel) (by decide +kernel)
theorem kC_X6_isChain : Cond.code yX6_isChain cX6_isChain 1 (some .boolean) ∈ xT := x_mem (i := 651) (by decide +kernel) (by decide +kernel)
theorem kM_X6_213 : Cond.methodLink RX6 213 yX0_begin ∈ xT := x_mem (i := 652) (by decide +kernel) (by decide +kernel)
theorem kI_X0_begin : Cond.instanceMethod yX0_begin ∈ xT := x_mem (i := 653) (by decide +kernel) (by decide +kernel)
theorem kV_X0_begin : Cond.selects RX0 yX0_begin yX0_begin ∈ xT := x_mem (i := 654) (by decide +kernel) (by decide +kernel)
theorem kC_X0_begin : Cond.code yX0_begin cX0_begin 1 none ∈ xT := x_mem (i := 655) (by decide +kernel) (by decide +kernel)
theorem kM_L_113 : Cond.methodLink RL 113 yX6_add ∈ xT := x_mem (i := 656) (by decide +kernel) (by decide +kernel)
theorem kI_X6_add : Cond.instanceMethod yX6_add ∈ xT := x_mem (i := 657) (by decide +kernel) (by decide +kernel)
theorem kV_X6_add : Cond.selects RX6 yX6_add yX6_add ∈ xT := x_mem (i := 658) (by decide +kernel) (by decide +kernel)
theorem kC_X6_add : Cond.code yX6_add cX6_add 6 (some .int) ∈ xT := x_mem (i := 659) (by decide +kernel) (by decide +kernel)
theorem kM_X6_216 : Cond.methodLink RX6 216 yX6_isTellable ∈ xT := x_mem (i := 660) (by decide +kernel) (by decide +kernel)
theorem kI_X6_isTellable : Cond.instanceMethod yX6_isTellable ∈ xT := x_mem (i := 662) (by decide +kernel) (by decide +kernel)
theorem kC_X6_isTellable : Cond.code yX6_isTellable cX6_isTellable 2 (some .boolean) ∈ xT := x_mem (i := 663) (by decide +kernel) (by decide +kernel)
theorem kM_X6_224 : Cond.methodLink RX6 224 yX0_insert ∈ xT := x_mem (i := 664) (by decide +kernel) (by decide +kernel)
theorem kI_X0_insert : Cond.instanceMethod yX0_insert ∈ xT := x_mem (i := 665) (by decide +kernel) (by decide +kernel)
theorem kV_X0_insert : Cond.selects RX0 yX0_insert yX0_insert ∈ xT := x_mem (i := 666) (by decide +kernel) (by decide +kernel)
theorem kC_X0_insert : Cond.code yX0_insert cX0_insert 5 none ∈ xT := x_mem (i := 667) (by decide +kernel) (by decide +kernel)
theorem kM_L_118 : Cond.methodLink RL 118 yX6_last ∈ xT := x_mem (i := 668) (by decide +kernel) (by decide +kernel)
theorem kI_X6_last : Cond.instanceMethod yX6_last ∈ xT := x_mem (i := 669) (by decide +kernel) (by decide +kernel)
theorem kV_X6_last : Cond.selects RX6 yX6_last yX6_last ∈ xT := x_mem (i := 670) (by decide +kernel) (by decide +kernel)
theorem kC_X6_last : Cond.code yX6_last cX6_last 5 (some .int) ∈ xT := x_mem (i := 671) (by decide +kernel) (by decide +kernel)
theorem kK_X6_235 : Cond.constant RX6 235 50000 ∈ xT := x_mem (i := 672) (by decide +kernel) (by decide +kernel)
theorem kM_L_122 : Cond.methodLink RL 122 yX6_sum ∈ xT := x_mem (i := 673) (by decide +kernel) (by decide +kernel)
theorem kI_X6_sum : Cond.instanceMethod yX6_sum ∈ xT := x_mem (i := 674) (by decide +kernel) (by decide +kernel)
theorem kV_X6_sum : Cond.selects RX6 yX6_sum yX6_sum ∈ xT := x_mem (i := 675) (by decide +kernel) (by decide +kernel)
theorem kC_X6_sum : Cond.code yX6_sum cX6_sum 3 (some .int) ∈ xT := x_mem (i := 676) (by decide +kernel) (by decide +kernel)
theorem kM_X6_236 : Cond.methodLink RX6 236 yX0_total ∈ xT := x_mem (i := 677) (by decide +kernel) (by decide +kernel)
theorem kI_X0_total : Cond.instanceMethod yX0_total ∈ xT := x_mem (i := 678) (by decide +kernel) (by decide +kernel)
theorem kV_X0_total : Cond.selects RX0 yX0_total yX0_total ∈ xT := x_mem (i := 679) (by decide +kernel) (by decide +kernel)
theorem kC_X0_total : Cond.code yX0_total cX0_total 5 (some .int) ∈ xT := x_mem (i := 680) (by decide +kernel) (by decide +kernel)
theorem kK_X6_240 : Cond.constant RX6 240 500000 ∈ xT := x_mem (i := 681) (by decide +kernel) (by decide +kernel)
theorem kM_L_126 : Cond.methodLink RL 126 yX6_strike ∈ xT := x_mem (i := 682) (by decide +kernel) (by decide +kernel)
theorem kI_X6_strike : Cond.instanceMethod yX6_strike ∈ xT := x_mem (i := 683) (by decide +kernel) (by decide +kernel)
theorem kV_X6_strike : Cond.selects RX6 yX6_strike yX6_strike ∈ xT := x_mem (i := 684) (by decide +kernel) (by decide +kernel)
theorem kC_X6_strike : Cond.code yX6_strike cX6_strike 3 (some .int) ∈ xT := x_mem (i := 685) (by decide +kernel) (by decide +kernel)
theorem kM_X6_241 : Cond.methodLink RX6 241 yX6_strikeArcs ∈ xT := x_mem (i := 686) (by decide +kernel) (by decide +kernel)
theorem kI_X6_strikeArcs : Cond.instanceMethod yX6_strikeArcs ∈ xT := x_mem (i := 688) (by decide +kernel) (by decide +kernel)
theorem kC_X6_strikeArcs : Cond.code yX6_strikeArcs cX6_strikeArcs 7 (some .int) ∈ xT := x_mem (i := 689) (by decide +kernel) (by decide +kernel)
theorem kM_L_130 : Cond.methodLink RL 130 yX6_append ∈ xT := x_mem (i := 690) (by decide +kernel) (by decide +kernel)
theorem kI_X6_append : Cond.instanceMethod yX6_append ∈ xT := x_mem (i := 691) (by decide +kernel) (by decide +kernel)
theorem kV_X6_append : Cond.selects RX6 yX6_append yX6_append ∈ xT := x_mem (i := 692) (by decide +kernel) (by decide +kernel)
theorem kC_X6_append : Cond.code yX6_append cX6_append 7 (some .int) ∈ xT := x_mem (i := 693) (by decide +kernel) (by decide +kernel)
theorem kM_L_134 : Cond.methodLink RL 134 yX6_drop ∈ xT := x_mem (i := 694) (by decide +kernel) (by decide +kernel)
theorem kI_X6_drop : Cond.instanceMethod yX6_drop ∈ xT := x_mem (i := 695) (by decide +kernel) (by decide +kernel)
theorem kV_X6_drop : Cond.selects RX6 yX6_drop yX6_drop ∈ xT := x_mem (i := 696) (by decide +kernel) (by decide +kernel)
theorem kC_X6_drop : Cond.code yX6_drop cX6_drop 3 (some .int) ∈ xT := x_mem (i := 697) (by decide +kernel) (by decide +kernel)
theorem kM_L_138 : Cond.methodLink RL 138 yX6_count ∈ xT := x_mem (i := 698) (by decide +kernel) (by decide +kernel)
theorem kI_X6_count : Cond.instanceMethod yX6_count ∈ xT := x_mem (i := 699) (by decide +kernel) (by decide +kernel)
theorem kV_X6_count : Cond.selects RX6 yX6_count yX6_count ∈ xT := x_mem (i := 700) (by decide +kernel) (by decide +kernel)
theorem kC_X6_count : Cond.code yX6_count cX6_count 2 (some .int) ∈ xT := x_mem (i := 701) (by decide +kernel) (by decide +kernel)
theorem kM_X6_245 : Cond.methodLink RX6 245 yX6_thingsOfChains ∈ xT := x_mem (i := 702) (by decide +kernel) (by decide +kernel)
theorem kI_X6_thingsOfChains : Cond.instanceMethod yX6_thingsOfChains ∈ xT := x_mem (i := 704) (by decide +kernel) (by decide +kernel)
theorem kC_X6_thingsOfChains : Cond.code yX6_thingsOfChains cX6_thingsOfChains 3 (some .int) ∈ xT := x_mem (i := 705) (by decide +kernel) (by decide +kernel)
theorem kM_L_12 : Cond.methodLink RL 12 yX7_init ∈ xT := x_mem (i := 708) (by decide +kernel) (by decide +kernel)
theorem kI_X7_init : Cond.instanceMethod yX7_init ∈ xT := x_mem (i := 709) (by decide +kernel) (by decide +kernel)
theorem kC_X7_init : Cond.code yX7_init cX7_init 1 none ∈ xT := x_mem (i := 710) (by decide +kernel) (by decide +kernel)
theorem kM_X7_59 : Cond.methodLink RX7 59 yX7_begin ∈ xT := x_mem (i := 712) (by decide +kernel) (by decide +kernel)
theorem kI_X7_begin : Cond.instanceMethod yX7_begin ∈ xT := x_mem (i := 714) (by decide +kernel) (by decide +kernel)
theorem kC_X7_begin : Cond.code yX7_begin cX7_begin 3 none ∈ xT := x_mem (i := 715) (by decide +kernel) (by decide +kernel)
theorem kM_X7_63 : Cond.methodLink RX7 63 yX7_loseChains ∈ xT := x_mem (i := 716) (by decide +kernel) (by decide +kernel)
theorem kI_X7_loseChains : Cond.instanceMethod yX7_loseChains ∈ xT := x_mem (i := 718) (by decide +kernel) (by decide +kernel)
theorem kC_X7_loseChains : Cond.code yX7_loseChains cX7_loseChains 2 none ∈ xT := x_mem (i := 719) (by decide +kernel) (by decide +kernel)
theorem kF_X7_7 : Cond.fieldLink RX7 7 "ReachTreesModel" "n" "I" ∈ xT := x_mem (i := 720) (by decide +kernel) (by decide +kernel)
theorem kF_X7_13 : Cond.fieldLink RX7 13 "ReachTreesModel" "st" "[I" ∈ xT := x_mem (i := 721) (by decide +kernel) (by decide +kernel)
theorem kF_X7_17 : Cond.fieldLink RX7 17 "ReachTreesModel" "past" "[I" ∈ xT := x_mem (i := 722) (by decide +kernel) (by decide +kernel)
theorem kF_X7_92 : Cond.fieldLink RX7 92 "ReachTreesModel" "undoMany" "I" ∈ xT := x_mem (i := 723) (by decide +kernel) (by decide +kernel)
theorem kF_X7_20 : Cond.fieldLink RX7 20 "ReachTreesModel" "kept" "[I" ∈ xT := x_mem (i := 724) (by decide +kernel) (by decide +kernel)
theorem kF_X7_23 : Cond.fieldLink RX7 23 "ReachTreesModel" "isKept" "[I" ∈ xT := x_mem (i := 725) (by decide +kernel) (by decide +kernel)
theorem kF_X7_26 : Cond.fieldLink RX7 26 "ReachTreesModel" "pile" "[I" ∈ xT := x_mem (i := 726) (by decide +kernel) (by decide +kernel)
theorem kF_X7_29 : Cond.fieldLink RX7 29 "ReachTreesModel" "nexts" "[I" ∈ xT := x_mem (i := 727) (by decide +kernel) (by decide +kernel)
theorem kF_X7_32 : Cond.fieldLink RX7 32 "ReachTreesModel" "text" "[I" ∈ xT := x_mem (i := 728) (by decide +kernel) (by decide +kernel)
theorem kF_X7_97 : Cond.fieldLink RX7 97 "ReachTreesModel" "length" "I" ∈ xT := x_mem (i := 729) (by decide +kernel) (by decide +kernel)
theorem kF_X7_100 : Cond.fieldLink RX7 100 "ReachTreesModel" "place" "I" ∈ xT := x_mem (i := 730) (by decide +kernel) (by decide +kernel)
theorem kF_X7_118 : Cond.fieldLink RX7 118 "ReachTreesModel" "sort" "I" ∈ xT := x_mem (i := 731) (by decide +kernel) (by decide +kernel)
theorem kF_X7_107 : Cond.fieldLink RX7 107 "ReachTreesModel" "from" "I" ∈ xT := x_mem (i := 732) (by decide +kernel) (by decide +kernel)
theorem kF_X7_121 : Cond.fieldLink RX7 121 "ReachTreesModel" "number" "I" ∈ xT := x_mem (i := 733) (by decide +kernel) (by decide +kernel)
theorem kF_X7_124 : Cond.fieldLink RX7 124 "ReachTreesModel" "wrong" "I" ∈ xT := x_mem (i := 734) (by decide +kernel) (by decide +kernel)
theorem kF_X7_35 : Cond.fieldLink RX7 35 "ReachTreesModel" "clauses" "[I" ∈ xT := x_mem (i := 735) (by decide +kernel) (by decide +kernel)
theorem kF_X7_147 : Cond.fieldLink RX7 147 "ReachTreesModel" "clauseMany" "I" ∈ xT := x_mem (i := 736) (by decide +kernel) (by decide +kernel)
theorem kF_X7_138 : Cond.fieldLink RX7 138 "ReachTreesModel" "points" "I" ∈ xT := x_mem (i := 737) (by decide +kernel) (by decide +kernel)
theorem kF_X7_38 : Cond.fieldLink RX7 38 "ReachTreesModel" "aside" "[I" ∈ xT := x_mem (i := 738) (by decide +kernel) (by decide +kernel)
theorem kF_X7_41 : Cond.fieldLink RX7 41 "ReachTreesModel" "open" "[I" ∈ xT := x_mem (i := 739) (by decide +kernel) (by decide +kernel)
theorem kF_X7_44 : Cond.fieldLink RX7 44 "ReachTreesModel" "by" "[I" ∈ xT := x_mem (i := 740) (by decide +kernel) (by decide +kernel)
theorem kF_X7_47 : Cond.fieldLink RX7 47 "ReachTreesModel" "twice" "[I" ∈ xT := x_mem (i := 741) (by decide +kernel) (by decide +kernel)
theorem kF_X7_50 : Cond.fieldLink RX7 50 "ReachTreesModel" "sizes" "[I" ∈ xT := x_mem (i := 742) (by decide +kernel) (by decide +kernel)
theorem kF_X7_53 : Cond.fieldLink RX7 53 "ReachTreesModel" "sorts" "[I" ∈ xT := x_mem (i := 743) (by decide +kernel) (by decide +kernel)
theorem kF_X7_56 : Cond.fieldLink RX7 56 "ReachTreesModel" "things" "[I" ∈ xT := x_mem (i := 744) (by decide +kernel) (by decide +kernel)
theorem kM_L_17 : Cond.methodLink RL 17 yX7_write ∈ xT := x_mem (i := 796) (by decide +kernel) (by decide +kernel)
theorem kI_X7_write : Cond.instanceMethod yX7_write ∈ xT := x_mem (i := 797) (by decide +kernel) (by decide +kernel)
theorem kV_X7_write : Cond.selects RX7 yX7_write yX7_write ∈ xT := x_mem (i := 798) (by decide +kernel) (by decide +kernel)
theorem kC_X7_write : Cond.code yX7_write cX7_write 2 (some .int) ∈ xT := x_mem (i := 799) (by decide +kernel) (by decide +kernel)
theorem kQ_X7_95 : Cond.constantLong RX7 95 255 ∈ xT := x_mem (i := 800) (by decide +kernel) (by decide +kernel)
theorem kM_X7_66 : Cond.methodLink RX7 66 yX7_in ∈ xT := x_mem (i := 801) (by decide +kernel) (by decide +kernel)
theorem kS_X7_in : Cond.static yX7_in ∈ xT := x_mem (i := 802) (by decide +kernel) (by decide +kernel)
theorem kC_X7_in : Cond.code yX7_in cX7_in 6 (some .boolean) ∈ xT := x_mem (i := 803) (by decide +kernel) (by decide +kernel)
theorem kM_L_22 : Cond.methodLink RL 22 yX7_erase ∈ xT := x_mem (i := 804) (by decide +kernel) (by decide +kernel)
theorem kI_X7_erase : Cond.instanceMethod yX7_erase ∈ xT := x_mem (i := 805) (by decide +kernel) (by decide +kernel)
theorem kV_X7_erase : Cond.selects RX7 yX7_erase yX7_erase ∈ xT := x_mem (i := 806) (by decide +kernel) (by decide +kernel)
theorem kC_X7_erase : Cond.code yX7_erase cX7_erase 2 (some .int) ∈ xT := x_mem (i := 807) (by decide +kernel) (by decide +kernel)
theorem kM_L_26 : Cond.methodLink RL 26 yX7_fault ∈ xT := x_mem (i := 808) (by decide +kernel) (by decide +kernel)
theorem kI_X7_fault : Cond.instanceMethod yX7_fault ∈ xT := x_mem (i := 809) (by decide +kernel) (by decide +kernel)
theorem kV_X7_fault : Cond.selects RX7 yX7_fault yX7_fault ∈ xT := x_mem (i := 810) (by decide +kernel) (by decide +kernel)
theorem kC_X7_fault : Cond.code yX7_fault cX7_fault 1 (some .int) ∈ xT := x_mem (i := 811) (by decide +kernel) (by decide +kernel)
theorem kM_X7_156 : Cond.methodLink RX7 156 yX7_readAll ∈ xT := x_mem (i := 812) (by decide +kernel) (by decide +kernel)
theorem kI_X7_readAll : Cond.instanceMethod yX7_readAll ∈ xT := x_mem (i := 814) (by decide +kernel) (by decide +kernel)
theorem kC_X7_readAll : Cond.code yX7_readAll cX7_readAll 1 (some .boolean) ∈ xT := x_mem (i := 815) (by decide +kernel) (by decide +kernel)
theorem kM_X7_127 : Cond.methodLink RX7 127 yX7_next ∈ xT := x_mem (i := 816) (by decide +kernel) (by decide +kernel)
theorem kI_X7_next : Cond.instanceMethod yX7_next ∈ xT := x_mem (i := 818) (by decide +kernel) (by decide +kernel)
theorem kC_X7_next : Cond.code yX7_next cX7_next 2 none ∈ xT := x_mem (i := 819) (by decide +kernel) (by decide +kernel)
theorem kM_X7_103 : Cond.methodLink RX7 103 yX7_letter ∈ xT := x_mem (i := 820) (by decide +kernel) (by decide +kernel)
theorem kI_X7_letter : Cond.instanceMethod yX7_letter ∈ xT := x_mem (i := 822) (by decide +kernel) (by decide +kernel)
theorem kC_X7_letter : Cond.code yX7_letter cX7_letter 1 (some .int) ∈ xT := x_mem (i := 823) (by decide +kernel) (by decide +kernel)
theorem kQ_X7_110 : Cond.constantLong RX7 110 97 ∈ xT := x_mem (i := 824) (by decide +kernel) (by decide +kernel)
theorem kQ_X7_112 : Cond.constantLong RX7 112 122 ∈ xT := x_mem (i := 825) (by decide +kernel) (by decide +kernel)
theorem kQ_X7_114 : Cond.constantLong RX7 114 48 ∈ xT := x_mem (i := 826) (by decide +kernel) (by decide +kernel)
theorem kQ_X7_116 : Cond.constantLong RX7 116 57 ∈ xT := x_mem (i := 827) (by decide +kernel) (by decide +kernel)
theorem kM_X7_153 : Cond.methodLink RX7 153 yX7_readClause ∈ xT := x_mem (i := 828) (by decide +kernel) (by decide +kernel)
theorem kI_X7_readClause : Cond.instanceMethod yX7_readClause ∈ xT := x_mem (i := 830) (by decide +kernel) (by decide +kernel)
theorem kC_X7_readClause : Cond.code yX7_readClause cX7_readClause 4 (some .boolean) ∈ xT := x_mem (i := 831) (by decide +kernel) (by decide +kernel)
theorem kM_X7_144 : Cond.methodLink RX7 144 yX7_wordOf ∈ xT := x_mem (i := 832) (by decide +kernel) (by decide +kernel)
theorem kI_X7_wordOf : Cond.instanceMethod yX7_wordOf ∈ xT := x_mem (i := 834) (by decide +kernel) (by decide +kernel)
theorem kC_X7_wordOf : Cond.code yX7_wordOf cX7_wordOf 1 (some .int) ∈ xT := x_mem (i := 835) (by decide +kernel) (by decide +kernel)
theorem kM_X7_134 : Cond.methodLink RX7 134 yX7_isWord ∈ xT := x_mem (i := 836) (by decide +kernel) (by decide +kernel)
theorem kI_X7_isWord : Cond.instanceMethod yX7_isWord ∈ xT := x_mem (i := 838) (by decide +kernel) (by decide +kernel)
theorem kC_X7_isWord : Cond.code yX7_isWord cX7_isWord 6 (some .boolean) ∈ xT := x_mem (i := 839) (by decide +kernel) (by decide +kernel)
theorem kM_X7_130 : Cond.methodLink RX7 130 yX7_faults ∈ xT := x_mem (i := 840) (by decide +kernel) (by decide +kernel)
theorem kI_X7_faults : Cond.instanceMethod yX7_faults ∈ xT := x_mem (i := 842) (by decide +kernel) (by decide +kernel)
theorem kC_X7_faults : Cond.code yX7_faults cX7_faults 1 (some .boolean) ∈ xT := x_mem (i := 843) (by decide +kernel) (by decide +kernel)
theorem kM_X7_141 : Cond.methodLink RX7 141 yX7_takesNumber ∈ xT := x_mem (i := 844) (by decide +kernel) (by decide +kernel)
theorem kI_X7_takesNumber : Cond.instanceMethod yX7_takesNumber ∈ xT := x_mem (i := 846) (by decide +kernel) (by decide +kernel)
theorem kC_X7_takesNumber : Cond.code yX7_takesNumber cX7_takesNumber 3 (some .boolean) ∈ xT := x_mem (i := 847) (by decide +kernel) (by decide +kernel)
theorem kM_X7_150 : Cond.methodLink RX7 150 yX7_takesPoint ∈ xT := x_mem (i := 848) (by decide +kernel) (by decide +kernel)
theorem kI_X7_takesPoint : Cond.instanceMethod yX7_takesPoint ∈ xT := x_mem (i := 850) (by decide +kernel) (by decide +kernel)
theorem kC_X7_takesPoint : Cond.code yX7_takesPoint cX7_takesPoint 4 (some .boolean) ∈ xT := x_mem (i := 851) (by decide +kernel) (by decide +kernel)
theorem kM_L_30 : Cond.methodLink RL 30 yX7_net ∈ xT := x_mem (i := 852) (by decide +kernel) (by decide +kernel)
theorem kI_X7_net : Cond.instanceMethod yX7_net ∈ xT := x_mem (i := 853) (by decide +kernel) (by decide +kernel)
theorem kV_X7_net : Cond.selects RX7 yX7_net yX7_net ∈ xT := x_mem (i := 854) (by decide +kernel) (by decide +kernel)
theorem kC_X7_net : Cond.code yX7_net cX7_net 2 (some .int) ∈ xT := x_mem (i := 855) (by decide +kernel) (by decide +kernel)
theorem kM_X7_168 : Cond.methodLink RX7 168 yX7_doClause ∈ xT := x_mem (i := 856) (by decide +kernel) (by decide +kernel)
theorem kI_X7_doClause : Cond.instanceMethod yX7_doClause ∈ xT := x_mem (i := 858) (by decide +kernel) (by decide +kernel)
theorem kC_X7_doClause : Cond.code yX7_doClause cX7_doClause 5 none ∈ xT := x_mem (i := 859) (by decide +kernel) (by decide +kernel)
theorem kM_X7_165 : Cond.methodLink RX7 165 yX7_putIfNew ∈ xT := x_mem (i := 860) (by decide +kernel) (by decide +kernel)
theorem kI_X7_putIfNew : Cond.instanceMethod yX7_putIfNew ∈ xT := x_mem (i := 862) (by decide +kernel) (by decide +kernel)
theorem kC_X7_putIfNew : Cond.code yX7_putIfNew cX7_putIfNew 3 none ∈ xT := x_mem (i := 863) (by decide +kernel) (by decide +kernel)
theorem kM_X7_78 : Cond.methodLink RX7 78 yX7_has ∈ xT := x_mem (i := 864) (by decide +kernel) (by decide +kernel)
theorem kS_X7_has : Cond.static yX7_has ∈ xT := x_mem (i := 865) (by decide +kernel) (by decide +kernel)
theorem kC_X7_has : Cond.code yX7_has cX7_has 2 (some .boolean) ∈ xT := x_mem (i := 866) (by decide +kernel) (by decide +kernel)
theorem kM_X7_159 : Cond.methodLink RX7 159 yX7_arcs ∈ xT := x_mem (i := 867) (by decide +kernel) (by decide +kernel)
theorem kI_X7_arcs : Cond.instanceMethod yX7_arcs ∈ xT := x_mem (i := 869) (by decide +kernel) (by decide +kernel)
theorem kC_X7_arcs : Cond.code yX7_arcs cX7_arcs 3 (some .int) ∈ xT := x_mem (i := 870) (by decide +kernel) (by decide +kernel)
theorem kM_X7_81 : Cond.methodLink RX7 81 yX7_ones ∈ xT := x_mem (i := 871) (by decide +kernel) (by decide +kernel)
theorem kS_X7_ones : Cond.static yX7_ones ∈ xT := x_mem (i := 872) (by decide +kernel) (by decide +kernel)
theorem kC_X7_ones : Cond.code yX7_ones cX7_ones 3 (some .int) ∈ xT := x_mem (i := 873) (by decide +kernel) (by decide +kernel)
theorem kM_X7_162 : Cond.methodLink RX7 162 yX7_putIn ∈ xT := x_mem (i := 874) (by decide +kernel) (by decide +kernel)
theorem kI_X7_putIn : Cond.instanceMethod yX7_putIn ∈ xT := x_mem (i := 876) (by decide +kernel) (by decide +kernel)
theorem kC_X7_putIn : Cond.code yX7_putIn cX7_putIn 4 none ∈ xT := x_mem (i := 877) (by decide +kernel) (by decide +kernel)
theorem kM_X7_85 : Cond.methodLink RX7 85 yX7_isIn ∈ xT := x_mem (i := 878) (by decide +kernel) (by decide +kernel)
theorem kI_X7_isIn : Cond.instanceMethod yX7_isIn ∈ xT := x_mem (i := 880) (by decide +kernel) (by decide +kernel)
theorem kC_X7_isIn : Cond.code yX7_isIn cX7_isIn 3 (some .boolean) ∈ xT := x_mem (i := 881) (by decide +kernel) (by decide +kernel)
theorem kM_X7_88 : Cond.methodLink RX7 88 yX7_goOn ∈ xT := x_mem (i := 882) (by decide +kernel) (by decide +kernel)
theorem kI_X7_goOn : Cond.instanceMethod yX7_goOn ∈ xT := x_mem (i := 884) (by decide +kernel) (by decide +kernel)
theorem kC_X7_goOn : Cond.code yX7_goOn cX7_goOn 6 none ∈ xT := x_mem (i := 885) (by decide +kernel) (by decide +kernel)
theorem kM_L_35 : Cond.methodLink RL 35 yX7_put ∈ xT := x_mem (i := 886) (by decide +kernel) (by decide +kernel)
theorem kI_X7_put : Cond.instanceMethod yX7_put ∈ xT := x_mem (i := 887) (by decide +kernel) (by decide +kernel)
theorem kV_X7_put : Cond.selects RX7 yX7_put yX7_put ∈ xT := x_mem (i := 888) (by decide +kernel) (by decide +kernel)
theorem kC_X7_put : Cond.code yX7_put cX7_put 4 (some .int) ∈ xT := x_mem (i := 889) (by decide +kernel) (by decide +kernel)
theorem kM_X7_74 : Cond.methodLink RX7 74 yX7_areTwo ∈ xT := x_mem (i := 890) (by decide +kernel) (by decide +kernel)
theorem kI_X7_areTwo : Cond.instanceMethod yX7_areTwo ∈ xT := x_mem (i := 892) (by decide +kernel) (by decide +kernel)
theorem kC_X7_areTwo : Cond.code yX7_areTwo cX7_areTwo 3 (some .boolean) ∈ xT := x_mem (i := 893) (by decide +kernel) (by decide +kernel)
theorem kM_X7_70 : Cond.methodLink RX7 70 yX7_isPoint ∈ xT := x_mem (i := 894) (by decide +kernel) (by decide +kernel)
theorem kI_X7_isPoint : Cond.instanceMethod yX7_isPoint ∈ xT := x_mem (i := 896) (by decide +kernel) (by decide +kernel)
theorem kC_X7_isPoint : Cond.code yX7_isPoint cX7_isPoint 2 (some .boolean) ∈ xT := x_mem (i := 897) (by decide +kernel) (by decide +kernel)
theorem kM_X7_171 : Cond.methodLink RX7 171 yX7_isArc ∈ xT := x_mem (i := 898) (by decide +kernel) (by decide +kernel)
theorem kI_X7_isArc : Cond.instanceMethod yX7_isArc ∈ xT := x_mem (i := 900) (by decide +kernel) (by decide +kernel)
theorem kC_X7_isArc : Cond.code yX7_isArc cX7_isArc 3 (some .boolean) ∈ xT := x_mem (i := 901) (by decide +kernel) (by decide +kernel)
theorem kM_X7_174 : Cond.methodLink RX7 174 yX7_pairs ∈ xT := x_mem (i := 902) (by decide +kernel) (by decide +kernel)
theorem kI_X7_pairs : Cond.instanceMethod yX7_pairs ∈ xT := x_mem (i := 904) (by decide +kernel) (by decide +kernel)
theorem kC_X7_pairs : Cond.code yX7_pairs cX7_pairs 4 (some .int) ∈ xT := x_mem (i := 905) (by decide +kernel) (by decide +kernel)
theorem kM_X7_177 : Cond.methodLink RX7 177 yX7_note ∈ xT := x_mem (i := 906) (by decide +kernel) (by decide +kernel)
theorem kI_X7_note : Cond.instanceMethod yX7_note ∈ xT := x_mem (i := 908) (by decide +kernel) (by decide +kernel)
theorem kC_X7_note : Cond.code yX7_note cX7_note 2 none ∈ xT := x_mem (i := 909) (by decide +kernel) (by decide +kernel)
theorem kM_L_39 : Cond.methodLink RL 39 yX7_take ∈ xT := x_mem (i := 910) (by decide +kernel) (by decide +kernel)
theorem kI_X7_take : Cond.instanceMethod yX7_take ∈ xT := x_mem (i := 911) (by decide +kernel) (by decide +kernel)
theorem kV_X7_take : Cond.selects RX7 yX7_take yX7_take ∈ xT := x_mem (i := 912) (by decide +kernel) (by decide +kernel)
theorem kC_X7_take : Cond.code yX7_take cX7_take 7 (some .int) ∈ xT := x_mem (i := 913) (by decide +kernel) (by decide +kernel)
theorem kM_X7_180 : Cond.methodLink RX7 180 yX7_stoodOn ∈ xT := x_mem (i := 914) (by decide +kernel) (by decide +kernel)
theorem kI_X7_stoodOn : Cond.instanceMethod yX7_stoodOn ∈ xT := x_mem (i := 916) (by decide +kernel) (by decide +kernel)
theorem kC_X7_stoodOn : Cond.code yX7_stoodOn cX7_stoodOn 7 (some .boolean) ∈ xT := x_mem (i := 917) (by decide +kernel) (by decide +kernel)
theorem kM_X7_184 : Cond.methodLink RX7 184 yX7_grow ∈ xT := x_mem (i := 918) (by decide +kernel) (by decide +kernel)
theorem kI_X7_grow : Cond.instanceMethod yX7_grow ∈ xT := x_mem (i := 920) (by decide +kernel) (by decide +kernel)
theorem kC_X7_grow : Cond.code yX7_grow cX7_grow 3 none ∈ xT := x_mem (i := 921) (by decide +kernel) (by decide +kernel)
theorem kM_L_43 : Cond.methodLink RL 43 yX7_clear ∈ xT := x_mem (i := 922) (by decide +kernel) (by decide +kernel)
theorem kI_X7_clear : Cond.instanceMethod yX7_clear ∈ xT := x_mem (i := 923) (by decide +kernel) (by decide +kernel)
theorem kV_X7_clear : Cond.selects RX7 yX7_clear yX7_clear ∈ xT := x_mem (i := 924) (by decide +kernel) (by decide +kernel)
theorem kC_X7_clear : Cond.code yX7_clear cX7_clear 2 (some .int) ∈ xT := x_mem (i := 925) (by decide +kernel) (by decide +kernel)
theorem kM_L_47 : Cond.methodLink RL 47 yX7_undo ∈ xT := x_mem (i := 926) (by decide +kernel) (by decide +kernel)
theorem kI_X7_undo : Cond.instanceMethod yX7_undo ∈ xT := x_mem (i := 927) (by decide +kernel) (by decide +kernel)
theorem kV_X7_undo : Cond.selects RX7 yX7_undo yX7_undo ∈ xT := x_mem (i := 928) (by decide +kernel) (by decide +kernel)
theorem kC_X7_undo : Cond.code yX7_undo cX7_undo 2 (some .int) ∈ xT := x_mem (i := 929) (by decide +kernel) (by decide +kernel)
theorem kM_L_51 : Cond.methodLink RL 51 yX7_keep ∈ xT := x_mem (i := 930) (by decide +kernel) (by decide +kernel)
theorem kI_X7_keep : Cond.instanceMethod yX7_keep ∈ xT := x_mem (i := 931) (by decide +kernel) (by decide +kernel)
theorem kV_X7_keep : Cond.selects RX7 yX7_keep yX7_keep ∈ xT := x_mem (i := 932) (by decide +kernel) (by decide +kernel)
theorem kC_X7_keep : Cond.code yX7_keep cX7_keep 3 (some .int) ∈ xT := x_mem (i := 933) (by decide +kernel) (by decide +kernel)
theorem kM_L_55 : Cond.methodLink RL 55 yX7_back ∈ xT := x_mem (i := 934) (by decide +kernel) (by decide +kernel)
theorem kI_X7_back : Cond.instanceMethod yX7_back ∈ xT := x_mem (i := 935) (by decide +kernel) (by decide +kernel)
theorem kV_X7_back : Cond.selects RX7 yX7_back yX7_back ∈ xT := x_mem (i := 936) (by decide +kernel) (by decide +kernel)
theorem kC_X7_back : Cond.code yX7_back cX7_back 3 (some .int) ∈ xT := x_mem (i := 937) (by decide +kernel) (by decide +kernel)
theorem kM_L_59 : Cond.methodLink RL 59 yX7_arc ∈ xT := x_mem (i := 938) (by decide +kernel) (by decide +kernel)
theorem kI_X7_arc : Cond.instanceMethod yX7_arc ∈ xT := x_mem (i := 939) (by decide +kernel) (by decide +kernel)
theorem kV_X7_arc : Cond.selects RX7 yX7_arc yX7_arc ∈ xT := x_mem (i := 940) (by decide +kernel) (by decide +kernel)
theorem kC_X7_arc : Cond.code yX7_arc cX7_arc 3 (some .int) ∈ xT := x_mem (i := 941) (by decide +kernel) (by decide +kernel)
theorem kM_L_63 : Cond.methodLink RL 63 yX7_reaches ∈ xT := x_mem (i := 942) (by decide +kernel) (by decide +kernel)
theorem kI_X7_reaches : Cond.instanceMethod yX7_reaches ∈ xT := x_mem (i := 943) (by decide +kernel) (by decide +kernel)
theorem kV_X7_reaches : Cond.selects RX7 yX7_reaches yX7_reaches ∈ xT := x_mem (i := 944) (by decide +kernel) (by decide +kernel)
theorem kC_X7_reaches : Cond.code yX7_reaches cX7_reaches 3 (some .int) ∈ xT := x_mem (i := 945) (by decide +kernel) (by decide +kernel)
theorem kM_L_67 : Cond.methodLink RL 67 yX7_above ∈ xT := x_mem (i := 946) (by decide +kernel) (by decide +kernel)
theorem kI_X7_above : Cond.instanceMethod yX7_above ∈ xT := x_mem (i := 947) (by decide +kernel) (by decide +kernel)
theorem kV_X7_above : Cond.selects RX7 yX7_above yX7_above ∈ xT := x_mem (i := 948) (by decide +kernel) (by decide +kernel)
theorem kC_X7_above : Cond.code yX7_above cX7_above 3 (some .int) ∈ xT := x_mem (i := 949) (by decide +kernel) (by decide +kernel)
theorem kM_X7_187 : Cond.methodLink RX7 187 yX7_aboveOf ∈ xT := x_mem (i := 950) (by decide +kernel) (by decide +kernel)
theorem kI_X7_aboveOf : Cond.instanceMethod yX7_aboveOf ∈ xT := x_mem (i := 952) (by decide +kernel) (by decide +kernel)
theorem kC_X7_aboveOf : Cond.code yX7_aboveOf cX7_aboveOf 4 (some .int) ∈ xT := x_mem (i := 953) (by decide +kernel) (by decide +kernel)
theorem kM_L_72 : Cond.methodLink RL 72 yX7_way ∈ xT := x_mem (i := 954) (by decide +kernel) (by decide +kernel)
theorem kI_X7_way : Cond.instanceMethod yX7_way ∈ xT := x_mem (i := 955) (by decide +kernel) (by decide +kernel)
theorem kV_X7_way : Cond.selects RX7 yX7_way yX7_way ∈ xT := x_mem (i := 956) (by decide +kernel) (by decide +kernel)
theorem kC_X7_way : Cond.code yX7_way cX7_way 7 (some .int) ∈ xT := x_mem (i := 957) (by decide +kernel) (by decide +kernel)
theorem kM_L_76 : Cond.methodLink RL 76 yX7_around ∈ xT := x_mem (i := 958) (by decide +kernel) (by decide +kernel)
theorem kI_X7_around : Cond.instanceMethod yX7_around ∈ xT := x_mem (i := 959) (by decide +kernel) (by decide +kernel)
theorem kV_X7_around : Cond.selects RX7 yX7_around yX7_around ∈ xT := x_mem (i := 960) (by decide +kernel) (by decide +kernel)
theorem kC_X7_around : Cond.code yX7_around cX7_around 3 (some .int) ∈ xT := x_mem (i := 961) (by decide +kernel) (by decide +kernel)
theorem kM_X7_191 : Cond.methodLink RX7 191 yX7_treeOf ∈ xT := x_mem (i := 962) (by decide +kernel) (by decide +kernel)
theorem kI_X7_treeOf : Cond.instanceMethod yX7_treeOf ∈ xT := x_mem (i := 964) (by decide +kernel) (by decide +kernel)
theorem kC_X7_treeOf : Cond.code yX7_treeOf cX7_treeOf 4 (some .int) ∈ xT := x_mem (i := 965) (by decide +kernel) (by decide +kernel)
theorem kM_X7_194 : Cond.methodLink RX7 194 yX7_comingTo ∈ xT := x_mem (i := 966) (by decide +kernel) (by decide +kernel)
theorem kI_X7_comingTo : Cond.instanceMethod yX7_comingTo ∈ xT := x_mem (i := 968) (by decide +kernel) (by decide +kernel)
theorem kC_X7_comingTo : Cond.code yX7_comingTo cX7_comingTo 4 (some .int) ∈ xT := x_mem (i := 969) (by decide +kernel) (by decide +kernel)
theorem kM_X7_197 : Cond.methodLink RX7 197 yX7_ringOf ∈ xT := x_mem (i := 970) (by decide +kernel) (by decide +kernel)
theorem kI_X7_ringOf : Cond.instanceMethod yX7_ringOf ∈ xT := x_mem (i := 972) (by decide +kernel) (by decide +kernel)
theorem kC_X7_ringOf : Cond.code yX7_ringOf cX7_ringOf 2 (some .int) ∈ xT := x_mem (i := 973) (by decide +kernel) (by decide +kernel)
theorem kM_L_80 : Cond.methodLink RL 80 yX7_needless ∈ xT := x_mem (i := 974) (by decide +kernel) (by decide +kernel)
theorem kI_X7_needless : Cond.instanceMethod yX7_needless ∈ xT := x_mem (i := 975) (by decide +kernel) (by decide +kernel)
theorem kV_X7_needless : Cond.selects RX7 yX7_needless yX7_needless ∈ xT := x_mem (i := 976) (by decide +kernel) (by decide +kernel)
theorem kC_X7_needless : Cond.code yX7_needless cX7_needless 3 (some .int) ∈ xT := x_mem (i := 977) (by decide +kernel) (by decide +kernel)
theorem kM_X7_204 : Cond.methodLink RX7 204 yX7_isNeedless ∈ xT := x_mem (i := 978) (by decide +kernel) (by decide +kernel)
theorem kI_X7_isNeedless : Cond.instanceMethod yX7_isNeedless ∈ xT := x_mem (i := 980) (by decide +kernel) (by decide +kernel)
theorem kC_X7_isNeedless : Cond.code yX7_isNeedless cX7_isNeedless 3 (some .boolean) ∈ xT := x_mem (i := 981) (by decide +kernel) (by decide +kernel)
theorem kM_X7_200 : Cond.methodLink RX7 200 yX7_without ∈ xT := x_mem (i := 982) (by decide +kernel) (by decide +kernel)
theorem kI_X7_without : Cond.instanceMethod yX7_without ∈ xT := x_mem (i := 984) (by decide +kernel) (by decide +kernel)
theorem kC_X7_without : Cond.code yX7_without cX7_without 8 (some .int) ∈ xT := x_mem (i := 985) (by decide +kernel) (by decide +kernel)
theorem kM_L_84 : Cond.methodLink RL 84 yX7_reduced ∈ xT := x_mem (i := 986) (by decide +kernel) (by decide +kernel)
theorem kI_X7_reduced : Cond.instanceMethod yX7_reduced ∈ xT := x_mem (i := 987) (by decide +kernel) (by decide +kernel)
theorem kV_X7_reduced : Cond.selects RX7 yX7_reduced yX7_reduced ∈ xT := x_mem (i := 988) (by decide +kernel) (by decide +kernel)
theorem kC_X7_reduced : Cond.code yX7_reduced cX7_reduced 1 (some .int) ∈ xT := x_mem (i := 989) (by decide +kernel) (by decide +kernel)
theorem kM_X7_207 : Cond.methodLink RX7 207 yX7_rings ∈ xT := x_mem (i := 990) (by decide +kernel) (by decide +kernel)
theorem kI_X7_rings : Cond.instanceMethod yX7_rings ∈ xT := x_mem (i := 992) (by decide +kernel) (by decide +kernel)
theorem kC_X7_rings : Cond.code yX7_rings cX7_rings 3 (some .int) ∈ xT := x_mem (i := 993) (by decide +kernel) (by decide +kernel)
theorem kM_X7_210 : Cond.methodLink RX7 210 yX7_needlessMany ∈ xT := x_mem (i := 994) (by decide +kernel) (by decide +kernel)
theorem kI_X7_needlessMany : Cond.instanceMethod yX7_needlessMany ∈ xT := x_mem (i := 996) (by decide +kernel) (by decide +kernel)
theorem kC_X7_needlessMany : Cond.code yX7_needlessMany cX7_needlessMany 4 (some .int) ∈ xT := x_mem (i := 997) (by decide +kernel) (by decide +kernel)
theorem kM_L_88 : Cond.methodLink RL 88 yX7_fold ∈ xT := x_mem (i := 998) (by decide +kernel) (by decide +kernel)
theorem kI_X7_fold : Cond.instanceMethod yX7_fold ∈ xT := x_mem (i := 999) (by decide +kernel) (by decide +kernel)
theorem kV_X7_fold : Cond.selects RX7 yX7_fold yX7_fold ∈ xT := x_mem (i := 1000) (by decide +kernel) (by decide +kernel)
theorem kC_X7_fold : Cond.code yX7_fold cX7_fold 9 (some .int) ∈ xT := x_mem (i := 1001) (by decide +kernel) (by decide +kernel)
theorem kQ_X7_213 : Cond.constantLong RX7 213 3 ∈ xT := x_mem (i := 1002) (by decide +kernel) (by decide +kernel)
theorem kQ_X7_215 : Cond.constantLong RX7 215 999 ∈ xT := x_mem (i := 1003) (by decide +kernel) (by decide +kernel)
theorem kM_L_92 : Cond.methodLink RL 92 yX7_gain ∈ xT := x_mem (i := 1004) (by decide +kernel) (by decide +kernel)
theorem kI_X7_gain : Cond.instanceMethod yX7_gain ∈ xT := x_mem (i := 1005) (by decide +kernel) (by decide +kernel)
theorem kV_X7_gain : Cond.selects RX7 yX7_gain yX7_gain ∈ xT := x_mem (i := 1006) (by decide +kernel) (by decide +kernel)
theorem kC_X7_gain : Cond.code yX7_gain cX7_gain 4 (some .int) ∈ xT := x_mem (i := 1007) (by decide +kernel) (by decide +kernel)
theorem kM_X7_217 : Cond.methodLink RX7 217 yX7_gainOf ∈ xT := x_mem (i := 1008) (by decide +kernel) (by decide +kernel)
theorem kI_X7_gainOf : Cond.instanceMethod yX7_gainOf ∈ xT := x_mem (i := 1010) (by decide +kernel) (by decide +kernel)
theorem kC_X7_gainOf : Cond.code yX7_gainOf cX7_gainOf 7 (some .int) ∈ xT := x_mem (i := 1011) (by decide +kernel) (by decide +kernel)
theorem kM_L_96 : Cond.methodLink RL 96 yX7_best ∈ xT := x_mem (i := 1012) (by decide +kernel) (by decide +kernel)
theorem kI_X7_best : Cond.instanceMethod yX7_best ∈ xT := x_mem (i := 1013) (by decide +kernel) (by decide +kernel)
theorem kV_X7_best : Cond.selects RX7 yX7_best yX7_best ∈ xT := x_mem (i := 1014) (by decide +kernel) (by decide +kernel)
theorem kC_X7_best : Cond.code yX7_best cX7_best 6 (some .int) ∈ xT := x_mem (i := 1015) (by decide +kernel) (by decide +kernel)
theorem kM_L_100 : Cond.methodLink RL 100 yX7_loss ∈ xT := x_mem (i := 1016) (by decide +kernel) (by decide +kernel)
theorem kI_X7_loss : Cond.instanceMethod yX7_loss ∈ xT := x_mem (i := 1017) (by decide +kernel) (by decide +kernel)
theorem kV_X7_loss : Cond.selects RX7 yX7_loss yX7_loss ∈ xT := x_mem (i := 1018) (by decide +kernel) (by decide +kernel)
theorem kC_X7_loss : Cond.code yX7_loss cX7_loss 3 (some .int) ∈ xT := x_mem (i := 1019) (by decide +kernel) (by decide +kernel)
theorem kM_X7_220 : Cond.methodLink RX7 220 yX7_lossOf ∈ xT := x_mem (i := 1020) (by decide +kernel) (by decide +kernel)
theorem kI_X7_lossOf : Cond.instanceMethod yX7_lossOf ∈ xT := x_mem (i := 1022) (by decide +kernel) (by decide +kernel)
theorem kC_X7_lossOf : Cond.code yX7_lossOf cX7_lossOf 5 (some .int) ∈ xT := x_mem (i := 1023) (by decide +kernel) (by decide +kernel)
theorem kM_L_104 : Cond.methodLink RL 104 yX7_worst ∈ xT := x_mem (i := 1024) (by decide +kernel) (by decide +kernel)
theorem kI_X7_worst : Cond.instanceMethod yX7_worst ∈ xT := x_mem (i := 1025) (by decide +kernel) (by decide +kernel)
theorem kV_X7_worst : Cond.selects RX7 yX7_worst yX7_worst ∈ xT := x_mem (i := 1026) (by decide +kernel) (by decide +kernel)
theorem kC_X7_worst : Cond.code yX7_worst cX7_worst 6 (some .int) ∈ xT := x_mem (i := 1027) (by decide +kernel) (by decide +kernel)
theorem kM_L_108 : Cond.methodLink RL 108 yX7_sever ∈ xT := x_mem (i := 1028) (by decide +kernel) (by decide +kernel)
theorem kI_X7_sever : Cond.instanceMethod yX7_sever ∈ xT := x_mem (i := 1029) (by decide +kernel) (by decide +kernel)
theorem kV_X7_sever : Cond.selects RX7 yX7_sever yX7_sever ∈ xT := x_mem (i := 1030) (by decide +kernel) (by decide +kernel)
theorem kC_X7_sever : Cond.code yX7_sever cX7_sever 5 (some .int) ∈ xT := x_mem (i := 1031) (by decide +kernel) (by decide +kernel)
theorem kM_X7_223 : Cond.methodLink RX7 223 yX7_findsWay ∈ xT := x_mem (i := 1032) (by decide +kernel) (by decide +kernel)
theorem kI_X7_findsWay : Cond.instanceMethod yX7_findsWay ∈ xT := x_mem (i := 1034) (by decide +kernel) (by decide +kernel)
theorem kC_X7_findsWay : Cond.code yX7_findsWay cX7_findsWay 6 (some .boolean) ∈ xT := x_mem (i := 1035) (by decide +kernel) (by decide +kernel)
theorem kM_X7_226 : Cond.methodLink RX7 226 yX7_goAlong ∈ xT := x_mem (i := 1036) (by decide +kernel) (by decide +kernel)
theorem kI_X7_goAlong : Cond.instanceMethod yX7_goAlong ∈ xT := x_mem (i := 1038) (by decide +kernel) (by decide +kernel)
theorem kC_X7_goAlong : Cond.code yX7_goAlong cX7_goAlong 4 none ∈ xT := x_mem (i := 1039) (by decide +kernel) (by decide +kernel)
theorem kM_L_112 : Cond.methodLink RL 112 yX7_chain ∈ xT := x_mem (i := 1040) (by decide +kernel) (by decide +kernel)
theorem kI_X7_chain : Cond.instanceMethod yX7_chain ∈ xT := x_mem (i := 1041) (by decide +kernel) (by decide +kernel)
theorem kV_X7_chain : Cond.selects RX7 yX7_chain yX7_chain ∈ xT := x_mem (i := 1042) (by decide +kernel) (by decide +kernel)
theorem kC_X7_chain : Cond.code yX7_chain cX7_chain 2 (some .int) ∈ xT := x_mem (i := 1043) (by decide +kernel) (by decide +kernel)
theorem kM_X7_231 : Cond.methodLink RX7 231 yX7_isChain ∈ xT := x_mem (i := 1044) (by decide +kernel) (by decide +kernel)
theorem kS_X7_isChain : Cond.static yX7_isChain ∈ xT := x_mem (i := 1045) (by decide +kernel) (by decide +kernel)
theorem kC_X7_isChain : Cond.code yX7_isChain cX7_isChain 1 (some .boolean) ∈ xT := x_mem (i := 1046) (by decide +kernel) (by decide +kernel)
theorem kQ_X7_229 : Cond.constantLong RX7 229 2 ∈ xT := x_mem (i := 1047) (by decide +kernel) (by decide +kernel)
theorem kM_L_117 : Cond.methodLink RL 117 yX7_add ∈ xT := x_mem (i := 1048) (by decide +kernel) (by decide +kernel)
theorem kI_X7_add : Cond.instanceMethod yX7_add ∈ xT := x_mem (i := 1049) (by decide +kernel) (by decide +kernel)
theorem kV_X7_add : Cond.selects RX7 yX7_add yX7_add ∈ xT := x_mem (i := 1050) (by decide +kernel) (by decide +kernel)
theorem kC_X7_add : Cond.code yX7_add cX7_add 8 (some .int) ∈ xT := x_mem (i := 1051) (by decide +kernel) (by decide +kernel)
theorem kM_X7_234 : Cond.methodLink RX7 234 yX7_isOneOf ∈ xT := x_mem (i := 1052) (by decide +kernel) (by decide +kernel)
theorem kS_X7_isOneOf : Cond.static yX7_isOneOf ∈ xT := x_mem (i := 1053) (by decide +kernel) (by decide +kernel)
theorem kC_X7_isOneOf : Cond.code yX7_isOneOf cX7_isOneOf 2 (some .boolean) ∈ xT := x_mem (i := 1054) (by decide +kernel) (by decide +kernel)
theorem kQ_X7_237 : Cond.constantLong RX7 237 (-9999) ∈ xT := x_mem (i := 1055) (by decide +kernel) (by decide +kernel)
theorem kQ_X7_239 : Cond.constantLong RX7 239 9999 ∈ xT := x_mem (i := 1056) (by decide +kernel) (by decide +kernel)
theorem kM_L_121 : Cond.methodLink RL 121 yX7_last ∈ xT := x_mem (i := 1057) (by decide +kernel) (by decide +kernel)
theorem kI_X7_last : Cond.instanceMethod yX7_last ∈ xT := x_mem (i := 1058) (by decide +kernel) (by decide +kernel)
theorem kV_X7_last : Cond.selects RX7 yX7_last yX7_last ∈ xT := x_mem (i := 1059) (by decide +kernel) (by decide +kernel)
theorem kC_X7_last : Cond.code yX7_last cX7_last 4 (some .int) ∈ xT := x_mem (i := 1060) (by decide +kernel) (by decide +kernel)
theorem kK_X7_241 : Cond.constant RX7 241 50000 ∈ xT := x_mem (i := 1061) (by decide +kernel) (by decide +kernel)
theorem kM_L_125 : Cond.methodLink RL 125 yX7_sum ∈ xT := x_mem (i := 1062) (by decide +kernel) (by decide +kernel)
theorem kI_X7_sum : Cond.instanceMethod yX7_sum ∈ xT := x_mem (i := 1063) (by decide +kernel) (by decide +kernel)
theorem kV_X7_sum : Cond.selects RX7 yX7_sum yX7_sum ∈ xT := x_mem (i := 1064) (by decide +kernel) (by decide +kernel)
theorem kC_X7_sum : Cond.code yX7_sum cX7_sum 6 (some .int) ∈ xT := x_mem (i := 1065) (by decide +kernel) (by decide +kernel)
theorem kK_X7_242 : Cond.constant RX7 242 500000 ∈ xT := x_mem (i := 1066) (by decide +kernel) (by decide +kernel)
theorem kM_L_129 : Cond.methodLink RL 129 yX7_strike ∈ xT := x_mem (i := 1067) (by decide +kernel) (by decide +kernel)
theorem kI_X7_strike : Cond.instanceMethod yX7_strike ∈ xT := x_mem (i := 1068) (by decide +kernel) (by decide +kernel)
theorem kV_X7_strike : Cond.selects RX7 yX7_strike yX7_strike ∈ xT := x_mem (i := 1069) (by decide +kernel) (by decide +kernel)
theorem kC_X7_strike : Cond.code yX7_strike cX7_strike 8 (some .int) ∈ xT := x_mem (i := 1070) (by decide +kernel) (by decide +kernel)
theorem kM_L_133 : Cond.methodLink RL 133 yX7_append ∈ xT := x_mem (i := 1071) (by decide +kernel) (by decide +kernel)
theorem kI_X7_append : Cond.instanceMethod yX7_append ∈ xT := x_mem (i := 1072) (by decide +kernel) (by decide +kernel)
theorem kV_X7_append : Cond.selects RX7 yX7_append yX7_append ∈ xT := x_mem (i := 1073) (by decide +kernel) (by decide +kernel)
theorem kC_X7_append : Cond.code yX7_append cX7_append 5 (some .int) ∈ xT := x_mem (i := 1074) (by decide +kernel) (by decide +kernel)
theorem kM_L_137 : Cond.methodLink RL 137 yX7_drop ∈ xT := x_mem (i := 1075) (by decide +kernel) (by decide +kernel)
theorem kI_X7_drop : Cond.instanceMethod yX7_drop ∈ xT := x_mem (i := 1076) (by decide +kernel) (by decide +kernel)
theorem kV_X7_drop : Cond.selects RX7 yX7_drop yX7_drop ∈ xT := x_mem (i := 1077) (by decide +kernel) (by decide +kernel)
theorem kC_X7_drop : Cond.code yX7_drop cX7_drop 3 (some .int) ∈ xT := x_mem (i := 1078) (by decide +kernel) (by decide +kernel)
theorem kM_L_141 : Cond.methodLink RL 141 yX7_count ∈ xT := x_mem (i := 1079) (by decide +kernel) (by decide +kernel)
theorem kI_X7_count : Cond.instanceMethod yX7_count ∈ xT := x_mem (i := 1080) (by decide +kernel) (by decide +kernel)
theorem kV_X7_count : Cond.selects RX7 yX7_count yX7_count ∈ xT := x_mem (i := 1081) (by decide +kernel) (by decide +kernel)
theorem kC_X7_count : Cond.code yX7_count cX7_count 2 (some .int) ∈ xT := x_mem (i := 1082) (by decide +kernel) (by decide +kernel)
theorem kM_X7_243 : Cond.methodLink RX7 243 yX7_allThings ∈ xT := x_mem (i := 1083) (by decide +kernel) (by decide +kernel)
theorem kI_X7_allThings : Cond.instanceMethod yX7_allThings ∈ xT := x_mem (i := 1085) (by decide +kernel) (by decide +kernel)
theorem kC_X7_allThings : Cond.code yX7_allThings cX7_allThings 3 (some .int) ∈ xT := x_mem (i := 1086) (by decide +kernel) (by decide +kernel)
theorem kF_J0_9 : Cond.fieldLink RJ0 9 "java/lang/String" "value" "[B" ∈ xT := x_mem (i := 1087) (by decide +kernel) (by decide +kernel)
theorem kF_J0_15 : Cond.fieldLink RJ0 15 "java/lang/String" "coder" "B" ∈ xT := x_mem (i := 1088) (by decide +kernel) (by decide +kernel)
theorem kin_X0 : ∀ w ∈ u_ws RX0 TX0 4, w ∈ xT := by decide +kernel
theorem kin_X1 : ∀ w ∈ u_ws RX1 TX1 3, w ∈ xT := by decide +kernel
theorem kin_X2 : ∀ w ∈ u_ws RX2 TX2 2, w ∈ xT := by decide +kernel
theorem kin_X3 : ∀ w ∈ u_ws RX3 TX3 5, w ∈ xT := by decide +kernel
theorem kin_X4 : ∀ w ∈ u_ws RX4 TX4 3, w ∈ xT := by decide +kernel
theorem kin_X5 : ∀ w ∈ u_ws RX5 TX5 7, w ∈ xT := by decide +kernel
theorem kin_X6 : ∀ w ∈ u_ws RX6 TX6 8, w ∈ xT := by decide +kernel
theorem kin_X7 : ∀ w ∈ u_ws RX7 TX7 25, w ∈ xT := by decide +kernel
theorem vc_X6_71 : xV RX6 71 RX5 yX5_readAll cX5_readAll 3 (some .int) 1 := ⟨⟨kM_X6_71, kI_X5_readAll, kV_X5_readAll, kN_X5, kC_X5_readAll⟩, by decide +kernel, by decide +kernel, by decide +kernel⟩
theorem vc_X6_78 : xV RX6 78 RX6 yX6_doClause cX6_doClause 5 none 1 := ⟨⟨kM_X6_78, kI_X6_doClause, kV_X6_doClause, kN_X6, kC_X6_doClause⟩, by decide +kernel, by decide +kernel, by decide +kernel⟩
theorem vc_X6_82 : xV RX6 82 RX4 yX4_forget cX4_forget 1 none 0 := ⟨⟨kM_X6_82, kI_X4_forget, kV_X4_forget, kN_X4, kC_X4_forget⟩, by decide +kernel, by decide +kernel, by decide +kernel⟩
theorem vc_X6_85 : xV RX6 85 RX0 yX0_vanish cX0_vanish 1 none 0 := ⟨⟨kM_X6_85, kI_X0_vanish, kV_X0_vanish, kN_X0, kC_X0_vanish⟩, by decide +kernel, by decide +kernel, by decide +kernel⟩
theorem vc_X6_88 : xV RX6 88 RX5 yX5_numberOf cX5_numberOf 3 (some .int) 2 := ⟨⟨kM_X6_88, kI_X5_numberOf, kV_X5_numberOf, kN_X5, kC_X5_numberOf⟩, by decide +kernel, by decide +kernel, by decide +kernel⟩
theorem vc_X6_95 : xV RX6 95 RX3 yX3_makeEmpty cX3_makeEmpty 3 none 1 := ⟨⟨kM_X6_95, kI_X3_makeEmpty, kV_X3_makeEmpty, kN_X3, kC_X3_makeEmpty⟩, by decide +kernel, by decide +kernel, by decide +kernel⟩
theorem vc_X6_98 : xV RX6 98 RX6 yX6_putIfNew cX6_putIfNew 3 none 2 := ⟨⟨kM_X6_98, kI_X6_putIfNew, kV_X6_putIfNew, kN_X6, kC_X6_putIfNew⟩, by decide +kernel, by decide +kernel, by decide +kernel⟩
theorem vc_X6_102 : xV RX6 102 RX3 yX3_hasArc cX3_hasArc 3 (some .boolean) 2 := ⟨⟨kM_X6_102, kI_X3_hasArc, kV_X3_hasArc, kN_X3, kC_X3_hasArc⟩, by decide +kernel, by decide +kernel, by decide +kernel⟩
theorem vc_X6_106 : xV RX6 106 RX3 yX3_arcs cX3_arcs 1 (some .int) 0 := ⟨⟨kM_X6_106, kI_X3_arcs, kV_X3_arcs, kN_X3, kC_X3_arcs⟩, by decide +kernel, by decide +kernel, by decide +kernel⟩
theorem vc_X6_110 : xV RX6 110 RX3 yX3_putIn cX3_putIn 4 none 2 := ⟨⟨kM_X6_110, kI_X3_putIn, kV_X3_putIn, kN_X3, kC_X3_putIn⟩, by decide +kernel, by decide +kernel, by decide +kernel⟩
theorem vc_X6_113 : xV RX6 113 RX6 yX6_arePair cX6_arePair 3 (some .boolean) 2 := ⟨⟨kM_X6_113, kI_X6_arePair, kV_X6_arePair, kN_X6, kC_X6_arePair⟩, by decide +kernel, by decide +kernel, by decide +kernel⟩
theorem vc_X6_116 : xV RX6 116 RX4 yX4_note cX4_note 2 none 1 := ⟨⟨kM_X6_116, kI_X4_note, kV_X4_note, kN_X4, kC_X4_note⟩, by decide +kernel, by decide +kernel, by decide +kernel⟩
theorem vc_X6_120 : xV RX6 120 RX3 yX3_pairs cX3_pairs 3 (some .int) 0 := ⟨⟨kM_X6_120, kI_X3_pairs, kV_X3_pairs, kN_X3, kC_X3_pairs⟩, by decide +kernel, by decide +kernel, by decide +kernel⟩
theorem vc_X6_123 : xV RX6 123 RX3 yX3_allPoints cX3_allPoints 1 (some .int) 0 := ⟨⟨kM_X6_123, kI_X3_allPoints, kV_X3_allPoints, kN_X3, kC_X3_allPoints⟩, by decide +kernel, by decide +kernel, by decide +kernel⟩
theorem vc_X6_126 : xV RX6 126 RX3 yX3_arcsBetween cX3_arcsBetween 5 (some .int) 2 := ⟨⟨kM_X6_126, kI_X3_arcsBetween, kV_X3_arcsBetween, kN_X3, kC_X3_arcsBetween⟩, by decide +kernel, by decide +kernel, by decide +kernel⟩
theorem vc_X6_129 : xV RX6 129 RX3 yX3_takeOut cX3_takeOut 4 none 2 := ⟨⟨kM_X6_129, kI_X3_takeOut, kV_X3_takeOut, kN_X3, kC_X3_takeOut⟩, by decide +kernel, by decide +kernel, by decide +kernel⟩
theorem vc_X6_138 : xV RX6 138 RX4 yX4_restore cX4_restore 2 none 1 := ⟨⟨kM_X6_138, kI_X4_restore, kV_X4_restore, kN_X4, kC_X4_restore⟩, by decide +kernel, by decide +kernel, by decide +kernel⟩
theorem vc_X6_141 : xV RX6 141 RX3 yX3_copyFrom cX3_copyFrom 2 none 1 := ⟨⟨kM_X6_141, kI_X3_copyFrom, kV_X3_copyFrom, kN_X3, kC_X3_copyFrom⟩, by decide +kernel, by decide +kernel, by decide +kernel⟩
theorem vc_X6_144 : xS RX6 144 yX6_has cX6_has 2 (some .boolean) 2 := ⟨⟨kM_X6_144, kS_X6_has, kN_X6, kC_X6_has⟩, by decide +kernel, by decide +kernel, by decide +kernel⟩
theorem vc_X6_147 : xV RX6 147 RX6 yX6_isPoint cX6_isPoint 2 (some .boolean) 1 := ⟨⟨kM_X6_147, kI_X6_isPoint, kV_X6_isPoint, kN_X6, kC_X6_isPoint⟩, by decide +kernel, by decide +kernel, by decide +kernel⟩
theorem vc_X6_151 : xV RX6 151 RX3 yX3_comesTo cX3_comesTo 3 (some .boolean) 2 := ⟨⟨kM_X6_151, kI_X3_comesTo, kV_X3_comesTo, kN_X3, kC_X3_comesTo⟩, by decide +kernel, by decide +kernel, by decide +kernel⟩
theorem vc_X6_154 : xV RX6 154 RX3 yX3_aboveOf cX3_aboveOf 3 (some .int) 2 := ⟨⟨kM_X6_154, kI_X3_aboveOf, kV_X3_aboveOf, kN_X3, kC_X3_aboveOf⟩, by decide +kernel, by decide +kernel, by decide +kernel⟩
theorem vc_X6_157 : xV RX6 157 RX3 yX3_depthOf cX3_depthOf 5 (some .int) 2 := ⟨⟨kM_X6_157, kI_X3_depthOf, kV_X3_depthOf, kN_X3, kC_X3_depthOf⟩, by decide +kernel, by decide +kernel, by decide +kernel⟩
theorem vc_X6_160 : xV RX6 160 RX3 yX3_climb cX3_climb 6 (some .int) 3 := ⟨⟨kM_X6_160, kI_X3_climb, kV_X3_climb, kN_X3, kC_X3_climb⟩, by decide +kernel, by decide +kernel, by decide +kernel⟩
theorem vc_X6_167 : xV RX6 167 RX3 yX3_comersTo cX3_comersTo 4 (some .int) 1 := ⟨⟨kM_X6_167, kI_X3_comersTo, kV_X3_comersTo, kN_X3, kC_X3_comersTo⟩, by decide +kernel, by decide +kernel, by decide +kernel⟩
theorem vc_X6_170 : xV RX6 170 RX3 yX3_ringOf cX3_ringOf 2 (some .int) 1 := ⟨⟨kM_X6_170, kI_X3_ringOf, kV_X3_ringOf, kN_X3, kC_X3_ringOf⟩, by decide +kernel, by decide +kernel, by decide +kernel⟩
theorem vc_X6_173 : xV RX6 173 RX6 yX6_isArcThere cX6_isArcThere 3 (some .boolean) 2 := ⟨⟨kM_X6_173, kI_X6_isArcThere, kV_X6_isArcThere, kN_X6, kC_X6_isArcThere⟩, by decide +kernel, by decide +kernel, by decide +kernel⟩
theorem vc_X6_176 : xV RX6 176 RX3 yX3_isNeedless cX3_isNeedless 3 (some .boolean) 2 := ⟨⟨kM_X6_176, kI_X3_isNeedless, kV_X3_isNeedless, kN_X3, kC_X3_isNeedless⟩, by decide +kernel, by decide +kernel, by decide +kernel⟩
theorem vc_X6_179 : xV RX6 179 RX3 yX3_rings cX3_rings 3 (some .int) 0 := ⟨⟨kM_X6_179, kI_X3_rings, kV_X3_rings, kN_X3, kC_X3_rings⟩, by decide +kernel, by decide +kernel, by decide +kernel⟩
theorem vc_X6_182 : xV RX6 182 RX3 yX3_needlessArcs cX3_needlessArcs 4 (some .int) 0 := ⟨⟨kM_X6_182, kI_X3_needlessArcs, kV_X3_needlessArcs, kN_X3, kC_X3_needlessArcs⟩, by decide +kernel, by decide +kernel, by decide +kernel⟩
theorem vc_X6_185 : xV RX6 185 RX6 yX6_foldPair cX6_foldPair 6 (some .int) 4 := ⟨⟨kM_X6_185, kI_X6_foldPair, kV_X6_foldPair, kN_X6, kC_X6_foldPair⟩, by decide +kernel, by decide +kernel, by decide +kernel⟩
theorem vc_X6_189 : xS RX6 189 yX6_tell cX6_tell 2 (some .int) 2 := ⟨⟨kM_X6_189, kS_X6_tell, kN_X6, kC_X6_tell⟩, by decide +kernel, by decide +kernel, by decide +kernel⟩
theorem vc_X6_192 : xS RX6 192 yJ9_max_7cf53 cJ9_max_7cf53 2 (some .int) 2 := ⟨⟨kM_X6_192, kS_J9_max_7cf53, kN_J9, kC_J9_max_7cf53⟩, by decide +kernel, by decide +kernel, by decide +kernel⟩
theorem vc_X6_197 : xV RX6 197 RX3 yX3_pairsGained cX3_pairsGained 5 (some .int) 2 := ⟨⟨kM_X6_197, kI_X3_pairsGained, kV_X3_pairsGained, kN_X3, kC_X3_pairsGained⟩, by decide +kernel, by decide +kernel, by decide +kernel⟩
theorem vc_X6_200 : xV RX6 200 RX3 yX3_workGained cX3_workGained 5 (some .int) 2 := ⟨⟨kM_X6_200, kI_X3_workGained, kV_X3_workGained, kN_X3, kC_X3_workGained⟩, by decide +kernel, by decide +kernel, by decide +kernel⟩
theorem vc_X6_203 : xV RX6 203 RX3 yX3_pairsLost cX3_pairsLost 5 (some .int) 2 := ⟨⟨kM_X6_203, kI_X3_pairsLost, kV_X3_pairsLost, kN_X3, kC_X3_pairsLost⟩, by decide +kernel, by decide +kernel, by decide +kernel⟩
theorem vc_X6_206 : xV RX6 206 RX1 yX1_fewestArcs cX1_fewestArcs 5 (some .int) 3 := ⟨⟨kM_X6_206, kI_X1_fewestArcs, kV_X1_fewestArcs, kN_X1, kC_X1_fewestArcs⟩, by decide +kernel, by decide +kernel, by decide +kernel⟩
theorem vc_X6_210 : xS RX6 210 yX6_isChain cX6_isChain 1 (some .boolean) 1 := ⟨⟨kM_X6_210, kS_X6_isChain, kN_X6, kC_X6_isChain⟩, by decide +kernel, by decide +kernel, by decide +kernel⟩
theorem vc_X6_213 : xV RX6 213 RX0 yX0_begin cX0_begin 1 none 0 := ⟨⟨kM_X6_213, kI_X0_begin, kV_X0_begin, kN_X0, kC_X0_begin⟩, by decide +kernel, by decide +kernel, by decide +kernel⟩
theorem vc_X6_216 : xV RX6 216 RX6 yX6_isTellable cX6_isTellable 2 (some .boolean) 1 := ⟨⟨kM_X6_216, kI_X6_isTellable, kV_X6_isTellable, kN_X6, kC_X6_isTellable⟩, by decide +kernel, by decide +kernel, by decide +kernel⟩
theorem vc_X6_224 : xV RX6 224 RX0 yX0_insert cX0_insert 5 none 3 := ⟨⟨kM_X6_224, kI_X0_insert, kV_X0_insert, kN_X0, kC_X0_insert⟩, by decide +kernel, by decide +kernel, by decide +kernel⟩
theorem vc_X6_236 : xV RX6 236 RX0 yX0_total cX0_total 5 (some .int) 2 := ⟨⟨kM_X6_236, kI_X0_total, kV_X0_total, kN_X0, kC_X0_total⟩, by decide +kernel, by decide +kernel, by decide +kernel⟩
theorem vc_X6_241 : xV RX6 241 RX6 yX6_strikeArcs cX6_strikeArcs 7 (some .int) 2 := ⟨⟨kM_X6_241, kI_X6_strikeArcs, kV_X6_strikeArcs, kN_X6, kC_X6_strikeArcs⟩, by decide +kernel, by decide +kernel, by decide +kernel⟩
theorem vc_X6_245 : xV RX6 245 RX6 yX6_thingsOfChains cX6_thingsOfChains 3 (some .int) 0 := ⟨⟨kM_X6_245, kI_X6_thingsOfChains, kV_X6_thingsOfChains, kN_X6, kC_X6_thingsOfChains⟩, by decide +kernel, by decide +kernel, by decide +kernel⟩
theorem vc_X6_248 : xS RX6 248 yJ6_bitCount_0f7a4 cJ6_bitCount_0f7a4 1 (some .int) 1 := ⟨⟨kM_X6_248, kS_J6_bitCount_0f7a4, kN_J6, kC_J6_bitCount_0f7a4⟩, by decide +kernel, by decide +kernel, by decide +kernel⟩
theorem vc_X1_21 : xS RX1 21 yJ7_fill_53178 cJ7_fill_53178 4 none 2 := ⟨⟨kM_X1_21, kS_J7_fill_53178, kN_J7, kC_J7_fill_53178⟩, by decide +kernel, by decide +kernel, by decide +kernel⟩
theorem vc_X1_27 : xV RX1 27 RX1 yX1_findWay cX1_findWay 10 (some .boolean) 3 := ⟨⟨kM_X1_27, kI_X1_findWay, kV_X1_findWay, kN_X1, kC_X1_findWay⟩, by decide +kernel, by decide +kernel, by decide +kernel⟩
theorem vc_X1_31 : xV RX1 31 RX1 yX1_useWay cX1_useWay 6 none 2 := ⟨⟨kM_X1_31, kI_X1_useWay, kV_X1_useWay, kN_X1, kC_X1_useWay⟩, by decide +kernel, by decide +kernel, by decide +kernel⟩
theorem vc_X1_35 : xN RX1 35 RX6 yX6_has cX6_has 2 (some .boolean) 2 := ⟨⟨kM_X1_35, kS_X6_has, kN_X6, kC_X6_has⟩, by decide +kernel, by decide +kernel, by decide +kernel⟩
theorem vc_X1_39 : xN RX1 39 RX6 yX6_lowest cX6_lowest 1 (some .int) 1 := ⟨⟨kM_X1_39, kS_X6_lowest, kN_X6, kC_X6_lowest⟩, by decide +kernel, by decide +kernel, by decide +kernel⟩
theorem vc_X1_52 : xV RX1 52 RX1 yX1_useStep cX1_useStep 3 none 2 := ⟨⟨kM_X1_52, kI_X1_useStep, kV_X1_useStep, kN_X1, kC_X1_useStep⟩, by decide +kernel, by decide +kernel, by decide +kernel⟩
theorem vc_X3_21 : xV RX3 21 RX3 yX3_makeEmpty cX3_makeEmpty 3 none 1 := ⟨⟨kM_X3_21, kI_X3_makeEmpty, kV_X3_makeEmpty, kN_X3, kC_X3_makeEmpty⟩, by decide +kernel, by decide +kernel, by decide +kernel⟩
theorem vc_X3_32 : xS RX3 32 yJ7_fill_53178 cJ7_fill_53178 4 none 2 := ⟨⟨kM_X3_32, kS_J7_fill_53178, kN_J7, kC_J7_fill_53178⟩, by decide +kernel, by decide +kernel, by decide +kernel⟩
theorem vc_X3_44 : xN RX3 44 RX6 yX6_has cX6_has 2 (some .boolean) 2 := ⟨⟨kM_X3_44, kS_X6_has, kN_X6, kC_X6_has⟩, by decide +kernel, by decide +kernel, by decide +kernel⟩
theorem vc_X3_48 : xV RX3 48 RX3 yX3_allPoints cX3_allPoints 1 (some .int) 0 := ⟨⟨kM_X3_48, kI_X3_allPoints, kV_X3_allPoints, kN_X3, kC_X3_allPoints⟩, by decide +kernel, by decide +kernel, by decide +kernel⟩
theorem vc_X3_52 : xV RX3 52 RX3 yX3_arcsBetween cX3_arcsBetween 5 (some .int) 2 := ⟨⟨kM_X3_52, kI_X3_arcsBetween, kV_X3_arcsBetween, kN_X3, kC_X3_arcsBetween⟩, by decide +kernel, by decide +kernel, by decide +kernel⟩
theorem vc_X3_56 : xS RX3 56 yJ6_bitCount_0f7a4 cJ6_bitCount_0f7a4 1 (some .int) 1 := ⟨⟨kM_X3_56, kS_J6_bitCount_0f7a4, kN_J6, kC_J6_bitCount_0f7a4⟩, by decide +kernel, by decide +kernel, by decide +kernel⟩
theorem vc_X3_62 : xV RX3 62 RX3 yX3_aboveOf cX3_aboveOf 3 (some .int) 2 := ⟨⟨kM_X3_62, kI_X3_aboveOf, kV_X3_aboveOf, kN_X3, kC_X3_aboveOf⟩, by decide +kernel, by decide +kernel, by decide +kernel⟩
theorem vc_X3_65 : xV RX3 65 RX3 yX3_comesTo cX3_comesTo 3 (some .boolean) 2 := ⟨⟨kM_X3_65, kI_X3_comesTo, kV_X3_comesTo, kN_X3, kC_X3_comesTo⟩, by decide +kernel, by decide +kernel, by decide +kernel⟩
theorem vc_X3_68 : xV RX3 68 RX3 yX3_graft cX3_graft 5 none 4 := ⟨⟨kM_X3_68, kI_X3_graft, kV_X3_graft, kN_X3, kC_X3_graft⟩, by decide +kernel, by decide +kernel, by decide +kernel⟩
theorem vc_X3_72 : xV RX3 72 RX3 yX3_followArcs cX3_followArcs 5 none 3 := ⟨⟨kM_X3_72, kI_X3_followArcs, kV_X3_followArcs, kN_X3, kC_X3_followArcs⟩, by decide +kernel, by decide +kernel, by decide +kernel⟩
theorem vc_X3_76 : xV RX3 76 RX3 yX3_hasArc cX3_hasArc 3 (some .boolean) 2 := ⟨⟨kM_X3_76, kI_X3_hasArc, kV_X3_hasArc, kN_X3, kC_X3_hasArc⟩, by decide +kernel, by decide +kernel, by decide +kernel⟩
theorem vc_X3_79 : xV RX3 79 RX3 yX3_stoodOn cX3_stoodOn 6 (some .boolean) 3 := ⟨⟨kM_X3_79, kI_X3_stoodOn, kV_X3_stoodOn, kN_X3, kC_X3_stoodOn⟩, by decide +kernel, by decide +kernel, by decide +kernel⟩
theorem vc_X3_83 : xV RX3 83 RX3 yX3_makeAnew cX3_makeAnew 3 none 1 := ⟨⟨kM_X3_83, kI_X3_makeAnew, kV_X3_makeAnew, kN_X3, kC_X3_makeAnew⟩, by decide +kernel, by decide +kernel, by decide +kernel⟩
theorem vc_X3_86 : xV RX3 86 RX3 yX3_comersTo cX3_comersTo 4 (some .int) 1 := ⟨⟨kM_X3_86, kI_X3_comersTo, kV_X3_comersTo, kN_X3, kC_X3_comersTo⟩, by decide +kernel, by decide +kernel, by decide +kernel⟩
theorem vc_X3_89 : xV RX3 89 RX3 yX3_ringOf cX3_ringOf 2 (some .int) 1 := ⟨⟨kM_X3_89, kI_X3_ringOf, kV_X3_ringOf, kN_X3, kC_X3_ringOf⟩, by decide +kernel, by decide +kernel, by decide +kernel⟩
theorem vc_X3_92 : xN RX3 92 RX6 yX6_lowest cX6_lowest 1 (some .int) 1 := ⟨⟨kM_X3_92, kS_X6_lowest, kN_X6, kC_X6_lowest⟩, by decide +kernel, by decide +kernel, by decide +kernel⟩
theorem vc_X3_95 : xV RX3 95 RX3 yX3_membersWithout cX3_membersWithout 9 (some .int) 3 := ⟨⟨kM_X3_95, kI_X3_membersWithout, kV_X3_membersWithout, kN_X3, kC_X3_membersWithout⟩, by decide +kernel, by decide +kernel, by decide +kernel⟩
theorem vc_X3_99 : xV RX3 99 RX3 yX3_isNeedless cX3_isNeedless 3 (some .boolean) 2 := ⟨⟨kM_X3_99, kI_X3_isNeedless, kV_X3_isNeedless, kN_X3, kC_X3_isNeedless⟩, by decide +kernel, by decide +kernel, by decide +kernel⟩
theorem vc_X3_102 : xV RX3 102 RX3 yX3_newMembers cX3_newMembers 4 (some .int) 3 := ⟨⟨kM_X3_102, kI_X3_newMembers, kV_X3_newMembers, kN_X3, kC_X3_newMembers⟩, by decide +kernel, by decide +kernel, by decide +kernel⟩
theorem vc_X4_22 : xV RX4 22 RX3 yX3_copyFrom cX3_copyFrom 2 none 1 := ⟨⟨kM_X4_22, kI_X3_copyFrom, kV_X3_copyFrom, kN_X3, kC_X3_copyFrom⟩, by decide +kernel, by decide +kernel, by decide +kernel⟩
theorem vc_X4_29 : xS RX4 29 yJ9_min_7cf53 cJ9_min_7cf53 2 (some .int) 2 := ⟨⟨kM_X4_29, kS_J9_min_7cf53, kN_J9, kC_J9_min_7cf53⟩, by decide +kernel, by decide +kernel, by decide +kernel⟩
theorem vc_X5_29 : xV RX5 29 RX5 yX5_readClause cX5_readClause 5 (some .boolean) 1 := ⟨⟨kM_X5_29, kI_X5_readClause, kV_X5_readClause, kN_X5, kC_X5_readClause⟩, by decide +kernel, by decide +kernel, by decide +kernel⟩
theorem vc_X5_36 : xV RX5 36 RX5 yX5_numberOf cX5_numberOf 3 (some .int) 2 := ⟨⟨kM_X5_36, kI_X5_numberOf, kV_X5_numberOf, kN_X5, kC_X5_numberOf⟩, by decide +kernel, by decide +kernel, by decide +kernel⟩
theorem vc_X5_40 : xV RX5 40 RX5 yX5_nextToken cX5_nextToken 2 none 0 := ⟨⟨kM_X5_40, kI_X5_nextToken, kV_X5_nextToken, kN_X5, kC_X5_nextToken⟩, by decide +kernel, by decide +kernel, by decide +kernel⟩
theorem vc_X5_46 : xV RX5 46 RX5 yX5_isSemicolon cX5_isSemicolon 1 (some .boolean) 0 := ⟨⟨kM_X5_46, kI_X5_isSemicolon, kV_X5_isSemicolon, kN_X5, kC_X5_isSemicolon⟩, by decide +kernel, by decide +kernel, by decide +kernel⟩
theorem vc_X5_50 : xV RX5 50 RX5 yX5_kindOfToken cX5_kindOfToken 2 (some .int) 0 := ⟨⟨kM_X5_50, kI_X5_kindOfToken, kV_X5_kindOfToken, kN_X5, kC_X5_kindOfToken⟩, by decide +kernel, by decide +kernel, by decide +kernel⟩
theorem vc_X5_54 : xS RX5 54 yX5_numbersOf cX5_numbersOf 1 (some .int) 1 := ⟨⟨kM_X5_54, kS_X5_numbersOf, kN_X5, kC_X5_numbersOf⟩, by decide +kernel, by decide +kernel, by decide +kernel⟩
theorem vc_X5_58 : xV RX5 58 RX5 yX5_takeNumber cX5_takeNumber 8 (some .boolean) 3 := ⟨⟨kM_X5_58, kI_X5_takeNumber, kV_X5_takeNumber, kN_X5, kC_X5_takeNumber⟩, by decide +kernel, by decide +kernel, by decide +kernel⟩
theorem vc_X5_62 : xV RX5 62 RX5 yX5_tokenNumber cX5_tokenNumber 3 (some .int) 0 := ⟨⟨kM_X5_62, kI_X5_tokenNumber, kV_X5_tokenNumber, kN_X5, kC_X5_tokenNumber⟩, by decide +kernel, by decide +kernel, by decide +kernel⟩
theorem vc_X5_73 : xS RX5 73 yX5_sortOf cX5_sortOf 1 (some .int) 1 := ⟨⟨kM_X5_73, kS_X5_sortOf, kN_X5, kC_X5_sortOf⟩, by decide +kernel, by decide +kernel, by decide +kernel⟩
theorem vc_X5_76 : xS RX5 76 yX5_wordOf cX5_wordOf 1 (some (.object "java/lang/String")) 1 := ⟨⟨kM_X5_76, kS_X5_wordOf, kN_X5, kC_X5_wordOf⟩, by decide +kernel, by decide +kernel, by decide +kernel⟩
theorem vc_X5_80 : xV RX5 80 RX5 yX5_tokenIs cX5_tokenIs 3 (some .boolean) 1 := ⟨⟨kM_X5_80, kI_X5_tokenIs, kV_X5_tokenIs, kN_X5, kC_X5_tokenIs⟩, by decide +kernel, by decide +kernel, by decide +kernel⟩
theorem vc_X5_84 : xV RX5 84 RJ0 yJ0_length_8abf5 cJ0_length_8abf5 1 (some .int) 0 := ⟨⟨kM_X5_84, kI_J0_length_8abf5, kV_J0_length_8abf5, kN_J0, kC_J0_length_8abf5⟩, by decide +kernel, by decide +kernel, by decide +kernel⟩
theorem vc_X5_88 : xV RX5 88 RJ0 yJ0_charAt_5068e cJ0_charAt_5068e 2 (some .char) 1 := ⟨⟨kM_X5_88, kI_J0_charAt_5068e, kV_J0_charAt_5068e, kN_J0, kC_J0_charAt_5068e⟩, by decide +kernel, by decide +kernel, by decide +kernel⟩
theorem vc_L_13 : xV RL 13 RX6 yX6_write cX6_write 2 (some .int) 1 := ⟨⟨kM_L_13, kI_X6_write, kV_X6_write, kN_X6, kC_X6_write⟩, by decide +kernel, by decide +kernel, by decide +kernel⟩
theorem vc_L_17 : xV RL 17 RX7 yX7_write cX7_write 2 (some .int) 1 := ⟨⟨kM_L_17, kI_X7_write, kV_X7_write, kN_X7, kC_X7_write⟩, by decide +kernel, by decide +kernel, by decide +kernel⟩
theorem vc_L_18 : xV RL 18 RX6 yX6_erase cX6_erase 2 (some .int) 0 := ⟨⟨kM_L_18, kI_X6_erase, kV_X6_erase, kN_X6, kC_X6_erase⟩, by decide +kernel, by decide +kernel, by decide +kernel⟩
theorem vc_L_22 : xV RL 22 RX7 yX7_erase cX7_erase 2 (some .int) 0 := ⟨⟨kM_L_22, kI_X7_erase, kV_X7_erase, kN_X7, kC_X7_erase⟩, by decide +kernel, by decide +kernel, by decide +kernel⟩
theorem vc_L_23 : xV RL 23 RX6 yX6_fault cX6_fault 1 (some .int) 0 := ⟨⟨kM_L_23, kI_X6_fault, kV_X6_fault, kN_X6, kC_X6_fault⟩, by decide +kernel, by decide +kernel, by decide +kernel⟩
theorem vc_L_26 : xV RL 26 RX7 yX7_fault cX7_fault 1 (some .int) 0 := ⟨⟨kM_L_26, kI_X7_fault, kV_X7_fault, kN_X7, kC_X7_fault⟩, by decide +kernel, by decide +kernel, by decide +kernel⟩
theorem vc_L_27 : xV RL 27 RX6 yX6_net cX6_net 2 (some .int) 0 := ⟨⟨kM_L_27, kI_X6_net, kV_X6_net, kN_X6, kC_X6_net⟩, by decide +kernel, by decide +kernel, by decide +kernel⟩
theorem vc_L_30 : xV RL 30 RX7 yX7_net cX7_net 2 (some .int) 0 := ⟨⟨kM_L_30, kI_X7_net, kV_X7_net, kN_X7, kC_X7_net⟩, by decide +kernel, by decide +kernel, by decide +kernel⟩
theorem vc_L_31 : xV RL 31 RX6 yX6_put cX6_put 4 (some .int) 2 := ⟨⟨kM_L_31, kI_X6_put, kV_X6_put, kN_X6, kC_X6_put⟩, by decide +kernel, by decide +kernel, by decide +kernel⟩
theorem vc_L_35 : xV RL 35 RX7 yX7_put cX7_put 4 (some .int) 2 := ⟨⟨kM_L_35, kI_X7_put, kV_X7_put, kN_X7, kC_X7_put⟩, by decide +kernel, by decide +kernel, by decide +kernel⟩
theorem vc_L_36 : xV RL 36 RX6 yX6_take cX6_take 5 (some .int) 2 := ⟨⟨kM_L_36, kI_X6_take, kV_X6_take, kN_X6, kC_X6_take⟩, by decide +kernel, by decide +kernel, by decide +kernel⟩
theorem vc_L_39 : xV RL 39 RX7 yX7_take cX7_take 7 (some .int) 2 := ⟨⟨kM_L_39, kI_X7_take, kV_X7_take, kN_X7, kC_X7_take⟩, by decide +kernel, by decide +kernel, by decide +kernel⟩
theorem vc_L_40 : xV RL 40 RX6 yX6_clear cX6_clear 2 (some .int) 0 := ⟨⟨kM_L_40, kI_X6_clear, kV_X6_clear, kN_X6, kC_X6_clear⟩, by decide +kernel, by decide +kernel, by decide +kernel⟩
theorem vc_L_43 : xV RL 43 RX7 yX7_clear cX7_clear 2 (some .int) 0 := ⟨⟨kM_L_43, kI_X7_clear, kV_X7_clear, kN_X7, kC_X7_clear⟩, by decide +kernel, by decide +kernel, by decide +kernel⟩
theorem vc_L_44 : xV RL 44 RX6 yX6_undo cX6_undo 1 (some .int) 0 := ⟨⟨kM_L_44, kI_X6_undo, kV_X6_undo, kN_X6, kC_X6_undo⟩, by decide +kernel, by decide +kernel, by decide +kernel⟩
theorem vc_L_47 : xV RL 47 RX7 yX7_undo cX7_undo 2 (some .int) 0 := ⟨⟨kM_L_47, kI_X7_undo, kV_X7_undo, kN_X7, kC_X7_undo⟩, by decide +kernel, by decide +kernel, by decide +kernel⟩
theorem vc_L_48 : xV RL 48 RX6 yX6_keep cX6_keep 2 (some .int) 1 := ⟨⟨kM_L_48, kI_X6_keep, kV_X6_keep, kN_X6, kC_X6_keep⟩, by decide +kernel, by decide +kernel, by decide +kernel⟩
theorem vc_L_51 : xV RL 51 RX7 yX7_keep cX7_keep 3 (some .int) 1 := ⟨⟨kM_L_51, kI_X7_keep, kV_X7_keep, kN_X7, kC_X7_keep⟩, by decide +kernel, by decide +kernel, by decide +kernel⟩
theorem vc_L_52 : xV RL 52 RX6 yX6_back cX6_back 2 (some .int) 1 := ⟨⟨kM_L_52, kI_X6_back, kV_X6_back, kN_X6, kC_X6_back⟩, by decide +kernel, by decide +kernel, by decide +kernel⟩
theorem vc_L_55 : xV RL 55 RX7 yX7_back cX7_back 3 (some .int) 1 := ⟨⟨kM_L_55, kI_X7_back, kV_X7_back, kN_X7, kC_X7_back⟩, by decide +kernel, by decide +kernel, by decide +kernel⟩
theorem vc_L_56 : xV RL 56 RX6 yX6_arc cX6_arc 3 (some .int) 2 := ⟨⟨kM_L_56, kI_X6_arc, kV_X6_arc, kN_X6, kC_X6_arc⟩, by decide +kernel, by decide +kernel, by decide +kernel⟩
theorem vc_L_59 : xV RL 59 RX7 yX7_arc cX7_arc 3 (some .int) 2 := ⟨⟨kM_L_59, kI_X7_arc, kV_X7_arc, kN_X7, kC_X7_arc⟩, by decide +kernel, by decide +kernel, by decide +kernel⟩
theorem vc_L_60 : xV RL 60 RX6 yX6_reaches cX6_reaches 3 (some .int) 2 := ⟨⟨kM_L_60, kI_X6_reaches, kV_X6_reaches, kN_X6, kC_X6_reaches⟩, by decide +kernel, by decide +kernel, by decide +kernel⟩
theorem vc_L_63 : xV RL 63 RX7 yX7_reaches cX7_reaches 3 (some .int) 2 := ⟨⟨kM_L_63, kI_X7_reaches, kV_X7_reaches, kN_X7, kC_X7_reaches⟩, by decide +kernel, by decide +kernel, by decide +kernel⟩
theorem vc_L_64 : xV RL 64 RX6 yX6_above cX6_above 3 (some .int) 2 := ⟨⟨kM_L_64, kI_X6_above, kV_X6_above, kN_X6, kC_X6_above⟩, by decide +kernel, by decide +kernel, by decide +kernel⟩
theorem vc_L_67 : xV RL 67 RX7 yX7_above cX7_above 3 (some .int) 2 := ⟨⟨kM_L_67, kI_X7_above, kV_X7_above, kN_X7, kC_X7_above⟩, by decide +kernel, by decide +kernel, by decide +kernel⟩
theorem vc_L_68 : xV RL 68 RX6 yX6_way cX6_way 5 (some .int) 3 := ⟨⟨kM_L_68, kI_X6_way, kV_X6_way, kN_X6, kC_X6_way⟩, by decide +kernel, by decide +kernel, by decide +kernel⟩
theorem vc_L_72 : xV RL 72 RX7 yX7_way cX7_way 7 (some .int) 3 := ⟨⟨kM_L_72, kI_X7_way, kV_X7_way, kN_X7, kC_X7_way⟩, by decide +kernel, by decide +kernel, by decide +kernel⟩
theorem vc_L_73 : xV RL 73 RX6 yX6_around cX6_around 3 (some .int) 2 := ⟨⟨kM_L_73, kI_X6_around, kV_X6_around, kN_X6, kC_X6_around⟩, by decide +kernel, by decide +kernel, by decide +kernel⟩
theorem vc_L_76 : xV RL 76 RX7 yX7_around cX7_around 3 (some .int) 2 := ⟨⟨kM_L_76, kI_X7_around, kV_X7_around, kN_X7, kC_X7_around⟩, by decide +kernel, by decide +kernel, by decide +kernel⟩
theorem vc_L_77 : xV RL 77 RX6 yX6_needless cX6_needless 3 (some .int) 2 := ⟨⟨kM_L_77, kI_X6_needless, kV_X6_needless, kN_X6, kC_X6_needless⟩, by decide +kernel, by decide +kernel, by decide +kernel⟩
theorem vc_L_80 : xV RL 80 RX7 yX7_needless cX7_needless 3 (some .int) 2 := ⟨⟨kM_L_80, kI_X7_needless, kV_X7_needless, kN_X7, kC_X7_needless⟩, by decide +kernel, by decide +kernel, by decide +kernel⟩
theorem vc_L_81 : xV RL 81 RX6 yX6_reduced cX6_reduced 1 (some .int) 0 := ⟨⟨kM_L_81, kI_X6_reduced, kV_X6_reduced, kN_X6, kC_X6_reduced⟩, by decide +kernel, by decide +kernel, by decide +kernel⟩
theorem vc_L_84 : xV RL 84 RX7 yX7_reduced cX7_reduced 1 (some .int) 0 := ⟨⟨kM_L_84, kI_X7_reduced, kV_X7_reduced, kN_X7, kC_X7_reduced⟩, by decide +kernel, by decide +kernel, by decide +kernel⟩
theorem vc_L_85 : xV RL 85 RX6 yX6_fold cX6_fold 6 (some .int) 2 := ⟨⟨kM_L_85, kI_X6_fold, kV_X6_fold, kN_X6, kC_X6_fold⟩, by decide +kernel, by decide +kernel, by decide +kernel⟩
theorem vc_L_88 : xV RL 88 RX7 yX7_fold cX7_fold 9 (some .int) 2 := ⟨⟨kM_L_88, kI_X7_fold, kV_X7_fold, kN_X7, kC_X7_fold⟩, by decide +kernel, by decide +kernel, by decide +kernel⟩
theorem vc_L_89 : xV RL 89 RX6 yX6_gain cX6_gain 4 (some .int) 3 := ⟨⟨kM_L_89, kI_X6_gain, kV_X6_gain, kN_X6, kC_X6_gain⟩, by decide +kernel, by decide +kernel, by decide +kernel⟩
theorem vc_L_92 : xV RL 92 RX7 yX7_gain cX7_gain 4 (some .int) 3 := ⟨⟨kM_L_92, kI_X7_gain, kV_X7_gain, kN_X7, kC_X7_gain⟩, by decide +kernel, by decide +kernel, by decide +kernel⟩
theorem vc_L_93 : xV RL 93 RX6 yX6_best cX6_best 6 (some .int) 0 := ⟨⟨kM_L_93, kI_X6_best, kV_X6_best, kN_X6, kC_X6_best⟩, by decide +kernel, by decide +kernel, by decide +kernel⟩
theorem vc_L_96 : xV RL 96 RX7 yX7_best cX7_best 6 (some .int) 0 := ⟨⟨kM_L_96, kI_X7_best, kV_X7_best, kN_X7, kC_X7_best⟩, by decide +kernel, by decide +kernel, by decide +kernel⟩
theorem vc_L_97 : xV RL 97 RX6 yX6_loss cX6_loss 3 (some .int) 2 := ⟨⟨kM_L_97, kI_X6_loss, kV_X6_loss, kN_X6, kC_X6_loss⟩, by decide +kernel, by decide +kernel, by decide +kernel⟩
theorem vc_L_100 : xV RL 100 RX7 yX7_loss cX7_loss 3 (some .int) 2 := ⟨⟨kM_L_100, kI_X7_loss, kV_X7_loss, kN_X7, kC_X7_loss⟩, by decide +kernel, by decide +kernel, by decide +kernel⟩
theorem vc_L_101 : xV RL 101 RX6 yX6_worst cX6_worst 6 (some .int) 0 := ⟨⟨kM_L_101, kI_X6_worst, kV_X6_worst, kN_X6, kC_X6_worst⟩, by decide +kernel, by decide +kernel, by decide +kernel⟩
theorem vc_L_104 : xV RL 104 RX7 yX7_worst cX7_worst 6 (some .int) 0 := ⟨⟨kM_L_104, kI_X7_worst, kV_X7_worst, kN_X7, kC_X7_worst⟩, by decide +kernel, by decide +kernel, by decide +kernel⟩
theorem vc_L_105 : xV RL 105 RX6 yX6_sever cX6_sever 3 (some .int) 2 := ⟨⟨kM_L_105, kI_X6_sever, kV_X6_sever, kN_X6, kC_X6_sever⟩, by decide +kernel, by decide +kernel, by decide +kernel⟩
theorem vc_L_108 : xV RL 108 RX7 yX7_sever cX7_sever 5 (some .int) 2 := ⟨⟨kM_L_108, kI_X7_sever, kV_X7_sever, kN_X7, kC_X7_sever⟩, by decide +kernel, by decide +kernel, by decide +kernel⟩
theorem vc_L_109 : xV RL 109 RX6 yX6_chain cX6_chain 2 (some .int) 1 := ⟨⟨kM_L_109, kI_X6_chain, kV_X6_chain, kN_X6, kC_X6_chain⟩, by decide +kernel, by decide +kernel, by decide +kernel⟩
theorem vc_L_112 : xV RL 112 RX7 yX7_chain cX7_chain 2 (some .int) 1 := ⟨⟨kM_L_112, kI_X7_chain, kV_X7_chain, kN_X7, kC_X7_chain⟩, by decide +kernel, by decide +kernel, by decide +kernel⟩
theorem vc_L_113 : xV RL 113 RX6 yX6_add cX6_add 6 (some .int) 4 := ⟨⟨kM_L_113, kI_X6_add, kV_X6_add, kN_X6, kC_X6_add⟩, by decide +kernel, by decide +kernel, by decide +kernel⟩
theorem vc_L_117 : xV RL 117 RX7 yX7_add cX7_add 8 (some .int) 4 := ⟨⟨kM_L_117, kI_X7_add, kV_X7_add, kN_X7, kC_X7_add⟩, by decide +kernel, by decide +kernel, by decide +kernel⟩
theorem vc_L_118 : xV RL 118 RX6 yX6_last cX6_last 5 (some .int) 2 := ⟨⟨kM_L_118, kI_X6_last, kV_X6_last, kN_X6, kC_X6_last⟩, by decide +kernel, by decide +kernel, by decide +kernel⟩
theorem vc_L_121 : xV RL 121 RX7 yX7_last cX7_last 4 (some .int) 2 := ⟨⟨kM_L_121, kI_X7_last, kV_X7_last, kN_X7, kC_X7_last⟩, by decide +kernel, by decide +kernel, by decide +kernel⟩
theorem vc_L_122 : xV RL 122 RX6 yX6_sum cX6_sum 3 (some .int) 2 := ⟨⟨kM_L_122, kI_X6_sum, kV_X6_sum, kN_X6, kC_X6_sum⟩, by decide +kernel, by decide +kernel, by decide +kernel⟩
theorem vc_L_125 : xV RL 125 RX7 yX7_sum cX7_sum 6 (some .int) 2 := ⟨⟨kM_L_125, kI_X7_sum, kV_X7_sum, kN_X7, kC_X7_sum⟩, by decide +kernel, by decide +kernel, by decide +kernel⟩
theorem vc_L_126 : xV RL 126 RX6 yX6_strike cX6_strike 3 (some .int) 2 := ⟨⟨kM_L_126, kI_X6_strike, kV_X6_strike, kN_X6, kC_X6_strike⟩, by decide +kernel, by decide +kernel, by decide +kernel⟩
theorem vc_L_129 : xV RL 129 RX7 yX7_strike cX7_strike 8 (some .int) 2 := ⟨⟨kM_L_129, kI_X7_strike, kV_X7_strike, kN_X7, kC_X7_strike⟩, by decide +kernel, by decide +kernel, by decide +kernel⟩
theorem vc_L_130 : xV RL 130 RX6 yX6_append cX6_append 7 (some .int) 2 := ⟨⟨kM_L_130, kI_X6_append, kV_X6_append, kN_X6, kC_X6_append⟩, by decide +kernel, by decide +kernel, by decide +kernel⟩
theorem vc_L_133 : xV RL 133 RX7 yX7_append cX7_append 5 (some .int) 2 := ⟨⟨kM_L_133, kI_X7_append, kV_X7_append, kN_X7, kC_X7_append⟩, by decide +kernel, by decide +kernel, by decide +kernel⟩
theorem vc_L_134 : xV RL 134 RX6 yX6_drop cX6_drop 3 (some .int) 1 := ⟨⟨kM_L_134, kI_X6_drop, kV_X6_drop, kN_X6, kC_X6_drop⟩, by decide +kernel, by decide +kernel, by decide +kernel⟩
theorem vc_L_137 : xV RL 137 RX7 yX7_drop cX7_drop 3 (some .int) 1 := ⟨⟨kM_L_137, kI_X7_drop, kV_X7_drop, kN_X7, kC_X7_drop⟩, by decide +kernel, by decide +kernel, by decide +kernel⟩
theorem vc_L_138 : xV RL 138 RX6 yX6_count cX6_count 2 (some .int) 1 := ⟨⟨kM_L_138, kI_X6_count, kV_X6_count, kN_X6, kC_X6_count⟩, by decide +kernel, by decide +kernel, by decide +kernel⟩
theorem vc_L_141 : xV RL 141 RX7 yX7_count cX7_count 2 (some .int) 1 := ⟨⟨kM_L_141, kI_X7_count, kV_X7_count, kN_X7, kC_X7_count⟩, by decide +kernel, by decide +kernel, by decide +kernel⟩
theorem vc_X7_59 : xV RX7 59 RX7 yX7_begin cX7_begin 3 none 1 := ⟨⟨kM_X7_59, kI_X7_begin, kV_X7_begin, kN_X7, kC_X7_begin⟩, by decide +kernel, by decide +kernel, by decide +kernel⟩
theorem vc_X7_63 : xV RX7 63 RX7 yX7_loseChains cX7_loseChains 2 none 0 := ⟨⟨kM_X7_63, kI_X7_loseChains, kV_X7_loseChains, kN_X7, kC_X7_loseChains⟩, by decide +kernel, by decide +kernel, by decide +kernel⟩
theorem vc_X7_66 : xS RX7 66 yX7_in cX7_in 6 (some .boolean) 3 := ⟨⟨kM_X7_66, kS_X7_in, kN_X7, kC_X7_in⟩, by decide +kernel, by decide +kernel, by decide +kernel⟩
theorem vc_X7_70 : xV RX7 70 RX7 yX7_isPoint cX7_isPoint 2 (some .boolean) 1 := ⟨⟨kM_X7_70, kI_X7_isPoint, kV_X7_isPoint, kN_X7, kC_X7_isPoint⟩, by decide +kernel, by decide +kernel, by decide +kernel⟩
theorem vc_X7_74 : xV RX7 74 RX7 yX7_areTwo cX7_areTwo 3 (some .boolean) 2 := ⟨⟨kM_X7_74, kI_X7_areTwo, kV_X7_areTwo, kN_X7, kC_X7_areTwo⟩, by decide +kernel, by decide +kernel, by decide +kernel⟩
theorem vc_X7_78 : xS RX7 78 yX7_has cX7_has 2 (some .boolean) 2 := ⟨⟨kM_X7_78, kS_X7_has, kN_X7, kC_X7_has⟩, by decide +kernel, by decide +kernel, by decide +kernel⟩
theorem vc_X7_81 : xS RX7 81 yX7_ones cX7_ones 3 (some .int) 1 := ⟨⟨kM_X7_81, kS_X7_ones, kN_X7, kC_X7_ones⟩, by decide +kernel, by decide +kernel, by decide +kernel⟩
theorem vc_X7_85 : xV RX7 85 RX7 yX7_isIn cX7_isIn 3 (some .boolean) 2 := ⟨⟨kM_X7_85, kI_X7_isIn, kV_X7_isIn, kN_X7, kC_X7_isIn⟩, by decide +kernel, by decide +kernel, by decide +kernel⟩
theorem vc_X7_88 : xV RX7 88 RX7 yX7_goOn cX7_goOn 6 none 2 := ⟨⟨kM_X7_88, kI_X7_goOn, kV_X7_goOn, kN_X7, kC_X7_goOn⟩, by decide +kernel, by decide +kernel, by decide +kernel⟩
theorem vc_X7_103 : xV RX7 103 RX7 yX7_letter cX7_letter 1 (some .int) 0 := ⟨⟨kM_X7_103, kI_X7_letter, kV_X7_letter, kN_X7, kC_X7_letter⟩, by decide +kernel, by decide +kernel, by decide +kernel⟩
theorem vc_X7_127 : xV RX7 127 RX7 yX7_next cX7_next 2 none 0 := ⟨⟨kM_X7_127, kI_X7_next, kV_X7_next, kN_X7, kC_X7_next⟩, by decide +kernel, by decide +kernel, by decide +kernel⟩
theorem vc_X7_130 : xV RX7 130 RX7 yX7_faults cX7_faults 1 (some .boolean) 0 := ⟨⟨kM_X7_130, kI_X7_faults, kV_X7_faults, kN_X7, kC_X7_faults⟩, by decide +kernel, by decide +kernel, by decide +kernel⟩
theorem vc_X7_134 : xV RX7 134 RX7 yX7_isWord cX7_isWord 6 (some .boolean) 4 := ⟨⟨kM_X7_134, kI_X7_isWord, kV_X7_isWord, kN_X7, kC_X7_isWord⟩, by decide +kernel, by decide +kernel, by decide +kernel⟩
theorem vc_X7_141 : xV RX7 141 RX7 yX7_takesNumber cX7_takesNumber 3 (some .boolean) 2 := ⟨⟨kM_X7_141, kI_X7_takesNumber, kV_X7_takesNumber, kN_X7, kC_X7_takesNumber⟩, by decide +kernel, by decide +kernel, by decide +kernel⟩
theorem vc_X7_144 : xV RX7 144 RX7 yX7_wordOf cX7_wordOf 1 (some .int) 0 := ⟨⟨kM_X7_144, kI_X7_wordOf, kV_X7_wordOf, kN_X7, kC_X7_wordOf⟩, by decide +kernel, by decide +kernel, by decide +kernel⟩
theorem vc_X7_150 : xV RX7 150 RX7 yX7_takesPoint cX7_takesPoint 4 (some .boolean) 2 := ⟨⟨kM_X7_150, kI_X7_takesPoint, kV_X7_takesPoint, kN_X7, kC_X7_takesPoint⟩, by decide +kernel, by decide +kernel, by decide +kernel⟩
theorem vc_X7_153 : xV RX7 153 RX7 yX7_readClause cX7_readClause 4 (some .boolean) 0 := ⟨⟨kM_X7_153, kI_X7_readClause, kV_X7_readClause, kN_X7, kC_X7_readClause⟩, by decide +kernel, by decide +kernel, by decide +kernel⟩
theorem vc_X7_156 : xV RX7 156 RX7 yX7_readAll cX7_readAll 1 (some .boolean) 0 := ⟨⟨kM_X7_156, kI_X7_readAll, kV_X7_readAll, kN_X7, kC_X7_readAll⟩, by decide +kernel, by decide +kernel, by decide +kernel⟩
theorem vc_X7_159 : xV RX7 159 RX7 yX7_arcs cX7_arcs 3 (some .int) 0 := ⟨⟨kM_X7_159, kI_X7_arcs, kV_X7_arcs, kN_X7, kC_X7_arcs⟩, by decide +kernel, by decide +kernel, by decide +kernel⟩
theorem vc_X7_162 : xV RX7 162 RX7 yX7_putIn cX7_putIn 4 none 2 := ⟨⟨kM_X7_162, kI_X7_putIn, kV_X7_putIn, kN_X7, kC_X7_putIn⟩, by decide +kernel, by decide +kernel, by decide +kernel⟩
theorem vc_X7_165 : xV RX7 165 RX7 yX7_putIfNew cX7_putIfNew 3 none 2 := ⟨⟨kM_X7_165, kI_X7_putIfNew, kV_X7_putIfNew, kN_X7, kC_X7_putIfNew⟩, by decide +kernel, by decide +kernel, by decide +kernel⟩
theorem vc_X7_168 : xV RX7 168 RX7 yX7_doClause cX7_doClause 5 none 1 := ⟨⟨kM_X7_168, kI_X7_doClause, kV_X7_doClause, kN_X7, kC_X7_doClause⟩, by decide +kernel, by decide +kernel, by decide +kernel⟩
theorem vc_X7_171 : xV RX7 171 RX7 yX7_isArc cX7_isArc 3 (some .boolean) 2 := ⟨⟨kM_X7_171, kI_X7_isArc, kV_X7_isArc, kN_X7, kC_X7_isArc⟩, by decide +kernel, by decide +kernel, by decide +kernel⟩
theorem vc_X7_174 : xV RX7 174 RX7 yX7_pairs cX7_pairs 4 (some .int) 0 := ⟨⟨kM_X7_174, kI_X7_pairs, kV_X7_pairs, kN_X7, kC_X7_pairs⟩, by decide +kernel, by decide +kernel, by decide +kernel⟩
theorem vc_X7_177 : xV RX7 177 RX7 yX7_note cX7_note 2 none 0 := ⟨⟨kM_X7_177, kI_X7_note, kV_X7_note, kN_X7, kC_X7_note⟩, by decide +kernel, by decide +kernel, by decide +kernel⟩
theorem vc_X7_180 : xV RX7 180 RX7 yX7_stoodOn cX7_stoodOn 7 (some .boolean) 3 := ⟨⟨kM_X7_180, kI_X7_stoodOn, kV_X7_stoodOn, kN_X7, kC_X7_stoodOn⟩, by decide +kernel, by decide +kernel, by decide +kernel⟩
theorem vc_X7_184 : xV RX7 184 RX7 yX7_grow cX7_grow 3 none 1 := ⟨⟨kM_X7_184, kI_X7_grow, kV_X7_grow, kN_X7, kC_X7_grow⟩, by decide +kernel, by decide +kernel, by decide +kernel⟩
theorem vc_X7_187 : xV RX7 187 RX7 yX7_aboveOf cX7_aboveOf 4 (some .int) 2 := ⟨⟨kM_X7_187, kI_X7_aboveOf, kV_X7_aboveOf, kN_X7, kC_X7_aboveOf⟩, by decide +kernel, by decide +kernel, by decide +kernel⟩
theorem vc_X7_191 : xV RX7 191 RX7 yX7_treeOf cX7_treeOf 4 (some .int) 1 := ⟨⟨kM_X7_191, kI_X7_treeOf, kV_X7_treeOf, kN_X7, kC_X7_treeOf⟩, by decide +kernel, by decide +kernel, by decide +kernel⟩
theorem vc_X7_194 : xV RX7 194 RX7 yX7_comingTo cX7_comingTo 4 (some .int) 1 := ⟨⟨kM_X7_194, kI_X7_comingTo, kV_X7_comingTo, kN_X7, kC_X7_comingTo⟩, by decide +kernel, by decide +kernel, by decide +kernel⟩
theorem vc_X7_197 : xV RX7 197 RX7 yX7_ringOf cX7_ringOf 2 (some .int) 1 := ⟨⟨kM_X7_197, kI_X7_ringOf, kV_X7_ringOf, kN_X7, kC_X7_ringOf⟩, by decide +kernel, by decide +kernel, by decide +kernel⟩
theorem vc_X7_200 : xV RX7 200 RX7 yX7_without cX7_without 8 (some .int) 3 := ⟨⟨kM_X7_200, kI_X7_without, kV_X7_without, kN_X7, kC_X7_without⟩, by decide +kernel, by decide +kernel, by decide +kernel⟩
theorem vc_X7_204 : xV RX7 204 RX7 yX7_isNeedless cX7_isNeedless 3 (some .boolean) 2 := ⟨⟨kM_X7_204, kI_X7_isNeedless, kV_X7_isNeedless, kN_X7, kC_X7_isNeedless⟩, by decide +kernel, by decide +kernel, by decide +kernel⟩
theorem vc_X7_207 : xV RX7 207 RX7 yX7_rings cX7_rings 3 (some .int) 0 := ⟨⟨kM_X7_207, kI_X7_rings, kV_X7_rings, kN_X7, kC_X7_rings⟩, by decide +kernel, by decide +kernel, by decide +kernel⟩
theorem vc_X7_210 : xV RX7 210 RX7 yX7_needlessMany cX7_needlessMany 4 (some .int) 0 := ⟨⟨kM_X7_210, kI_X7_needlessMany, kV_X7_needlessMany, kN_X7, kC_X7_needlessMany⟩, by decide +kernel, by decide +kernel, by decide +kernel⟩
theorem vc_X7_217 : xV RX7 217 RX7 yX7_gainOf cX7_gainOf 7 (some .int) 3 := ⟨⟨kM_X7_217, kI_X7_gainOf, kV_X7_gainOf, kN_X7, kC_X7_gainOf⟩, by decide +kernel, by decide +kernel, by decide +kernel⟩
theorem vc_X7_220 : xV RX7 220 RX7 yX7_lossOf cX7_lossOf 5 (some .int) 2 := ⟨⟨kM_X7_220, kI_X7_lossOf, kV_X7_lossOf, kN_X7, kC_X7_lossOf⟩, by decide +kernel, by decide +kernel, by decide +kernel⟩
theorem vc_X7_223 : xV RX7 223 RX7 yX7_findsWay cX7_findsWay 6 (some .boolean) 2 := ⟨⟨kM_X7_223, kI_X7_findsWay, kV_X7_findsWay, kN_X7, kC_X7_findsWay⟩, by decide +kernel, by decide +kernel, by decide +kernel⟩
theorem vc_X7_226 : xV RX7 226 RX7 yX7_goAlong cX7_goAlong 4 none 2 := ⟨⟨kM_X7_226, kI_X7_goAlong, kV_X7_goAlong, kN_X7, kC_X7_goAlong⟩, by decide +kernel, by decide +kernel, by decide +kernel⟩
theorem vc_X7_231 : xS RX7 231 yX7_isChain cX7_isChain 1 (some .boolean) 1 := ⟨⟨kM_X7_231, kS_X7_isChain, kN_X7, kC_X7_isChain⟩, by decide +kernel, by decide +kernel, by decide +kernel⟩
theorem vc_X7_234 : xS RX7 234 yX7_isOneOf cX7_isOneOf 2 (some .boolean) 2 := ⟨⟨kM_X7_234, kS_X7_isOneOf, kN_X7, kC_X7_isOneOf⟩, by decide +kernel, by decide +kernel, by decide +kernel⟩
theorem vc_X7_243 : xV RX7 243 RX7 yX7_allThings cX7_allThings 3 (some .int) 0 := ⟨⟨kM_X7_243, kI_X7_allThings, kV_X7_allThings, kN_X7, kC_X7_allThings⟩, by decide +kernel, by decide +kernel, by decide +kernel⟩
theorem vc_J0_335 : xV RJ0 335 RJ0 yJ0_coder_7d493 cJ0_coder_7d493 1 (some .byte) 0 := ⟨⟨kM_J0_335, kI_J0_coder_7d493, kV_J0_coder_7d493, kN_J0, kC_J0_coder_7d493⟩, by decide +kernel, by decide +kernel, by decide +kernel⟩
theorem vc_J0_492 : xV RJ0 492 RJ0 yJ0_isLatin1_aae02 cJ0_isLatin1_aae02 1 (some .boolean) 0 := ⟨⟨kM_J0_492, kI_J0_isLatin1_aae02, kV_J0_isLatin1_aae02, kN_J0, kC_J0_isLatin1_aae02⟩, by decide +kernel, by decide +kernel, by decide +kernel⟩
theorem vc_J0_495 : xS RJ0 495 yJ1_charAt_3b067 cJ1_charAt_3b067 2 (some .char) 2 := ⟨⟨kM_J0_495, kS_J1_charAt_3b067, kN_J1, kC_J1_charAt_3b067⟩, by decide +kernel, by decide +kernel, by decide +kernel⟩
theorem vc_J0_498 : xS RJ0 498 yJ2_charAt_3b067 cJ2_charAt_3b067 2 (some .char) 2 := ⟨⟨kM_J0_498, kS_J2_charAt_3b067, kN_J2, kC_J2_charAt_3b067⟩, by decide +kernel, by decide +kernel, by decide +kernel⟩
theorem vc_J0_1059 : xS RJ0 1059 yJ3_checkIndex_8e157 cJ3_checkIndex_8e157 3 (some .int) 3 := ⟨⟨kM_J0_1059, kS_J3_checkIndex_8e157, kN_J3, kC_J3_checkIndex_8e157⟩, by decide +kernel, by decide +kernel, by decide +kernel⟩
theorem vc_J1_9 : xS RJ1 9 yJ0_checkIndex_df160 cJ0_checkIndex_df160 2 none 2 := ⟨⟨kM_J1_9, kS_J0_checkIndex_df160, kN_J0, kC_J0_checkIndex_df160⟩, by decide +kernel, by decide +kernel, by decide +kernel⟩
theorem vc_J2_48 : xS RJ2 48 yJ2_length_9d52b cJ2_length_9d52b 1 (some .int) 1 := ⟨⟨kM_J2_48, kS_J2_length_9d52b, kN_J2, kC_J2_length_9d52b⟩, by decide +kernel, by decide +kernel, by decide +kernel⟩
theorem vc_J2_67 : xS RJ2 67 yJ2_checkIndex_2214a cJ2_checkIndex_2214a 2 none 2 := ⟨⟨kM_J2_67, kS_J2_checkIndex_2214a, kN_J2, kC_J2_checkIndex_2214a⟩, by decide +kernel, by decide +kernel, by decide +kernel⟩
theorem vc_J2_71 : xS RJ2 71 yJ2_getChar_3b067 cJ2_getChar_3b067 2 (some .char) 2 := ⟨⟨kM_J2_71, kS_J2_getChar_3b067, kN_J2, kC_J2_getChar_3b067⟩, by decide +kernel, by decide +kernel, by decide +kernel⟩
theorem vc_J2_414 : xS RJ2 414 yJ0_checkIndex_df160 cJ0_checkIndex_df160 2 none 2 := ⟨⟨kM_J2_414, kS_J0_checkIndex_df160, kN_J0, kC_J0_checkIndex_df160⟩, by decide +kernel, by decide +kernel, by decide +kernel⟩
end
section
theorem kM_X3_38 : Cond.methodLink RX3 38 arraycopyName ∈ xT := x_mem (i := 449) (by decide +kernel) (by decide +kernel)
theorem kS_copy : Cond.static arraycopyName ∈ xT := x_mem (i := 450) (by decide +kernel) (by decide +kernel)
theorem kA_copy : Cond.native arraycopyName ∈ xT := x_mem (i := 451) (by decide +kernel) (by decide +kernel)
theorem xm_or {w : Cond} (h : xm w = true) : (w.onTables && w.keeps) = true ∨ ∃ a i x b, w = .methodLinkNest a i x b := by
  cases w <;> first | exact Or.inr ⟨_, _, _, _, rfl⟩ | exact Or.inl h
theorem xm_tab {w : Cond} (h : xm w = true) : w.onTables = true := by
  rcases xm_or h with h | ⟨a, i, x, b, rfl⟩
  · simp only [Bool.and_eq_true] at h; exact h.1
  · rfl
def xH (U : State) : Prop := ∀ w ∈ xT, va_Nw w U
theorem xH.use {U : State} (h : xH U) {w : Cond} (hw : w ∈ xT) {a : Array Value} : w.before a U = true := va_Nw.use (xm_tab (List.mem_filter.mp hw).2) (h w hw)
theorem xH.same {u U : State} (h : xH u) (e : u.vm = U.vm) : xH U := fun w hw => va_Nw.same (xm_tab (List.mem_filter.mp hw).2) e (h w hw)
theorem xH.warm {s U : State} (h : xH s) (hW : s.WarmedH U.vm) : xH U := fun w hw => by
  rcases xm_or (List.mem_filter.mp hw).2 with g | ⟨a, i, x, b, rfl⟩
  · exact word_at hW (Or.inl g) (h w hw)
  · exact va_Nw.warmM hW (h _ hw)
abbrev xtys (cI cZ cN cC : ClassId) : List (ClassId × FieldType) := [(cI, .int), (cZ, .boolean), (cN, .object "ReachTrees$Net"), (cC, .object "ReachTrees$Chain")]
/-- the tables as they must be: classes, array classes, words -/
def xK (D : va_G) (tys : List (ClassId × FieldType)) (U : State) : Prop := va_K D vwCl tys U ∧ xH U
theorem xK.same {D : va_G} {tys : List (ClassId × FieldType)} {u U : State} (h : xK D tys u) (e : u.vm = U.vm) : xK D tys U := ⟨va_K.moved (by rw [e]; exact Vm.Alike.refl _) h.1, h.2.same e⟩
theorem xK.warm {D : va_G} {tys : List (ClassId × FieldType)} {s U : State} (h : xK D tys s) (hW : s.WarmedH U.vm) : xK D tys U := ⟨va_K.moved hW.alike h.1, h.2.warm hW⟩
/-- the addresses of a world -/
def xA (ws : va_W) : Nat → Prop := fun q => q ∈ ws.map (·.1)
theorem xA_of {ws : va_W} {q : Nat} (h : xA ws q) : ∃ (k : Nat) (e : va_E), ws[k]? = some (q, e) := by
  obtain ⟨c, hc, rfl⟩ := List.mem_map.mp h
  obtain ⟨k, hk⟩ := List.mem_iff_getElem?.mp hc
  exact ⟨k, c.2, hk⟩
theorem xA_in {ws : va_W} {k : Nat} {c : Nat × va_E} (h : ws[k]? = some c) : xA ws c.1 := List.mem_map.mpr ⟨c, List.mem_of_getElem? h, rfl⟩
theorem xD_map {A : Nat → Prop} {ws ws' : va_W} (h : ws'.map (·.1) = ws.map (·.1)) (hD : va_D A ws) : va_D A ws' := by
  have key : ∀ (i : Nat) (c : Nat × va_E), ws'[i]? = some c → ∃ c2, ws[i]? = some c2 ∧ c2.1 = c.1 := by
    intro i c hc
    have h1 : (ws'.map (·.1))[i]? = some c.1 := by rw [List.getElem?_map, hc]; rfl
    rw [h, List.getElem?_map] at h1
    cases h2 : ws[i]? with
    | none => rw [h2] at h1; cases h1
    | some c2 => rw [h2] at h1; exact ⟨c2, rfl, Option.some.inj h1⟩
  refine ⟨fun i j a b ha hb hab => ?_, fun i a ha => ?_⟩
  · obtain ⟨a2, h1, h2⟩ := key i a ha
    obtain ⟨b2, h3, h4⟩ := key j b hb
    exact hD.1 i j a2 b2 h1 h3 (by rw [h2, h4]; exact hab)
  · obtain ⟨a2, h1, h2⟩ := key i a ha
    rw [← h2]; exact hD.2 i a2 h1
/-- a world that the heap holds, apart, in A; nothing else has changed since H0 -/
def xw (D : va_G) (A : Nat → Prop) (H0 : Heap) (ws : va_W) (H : Heap) (locs : List Loc) : Prop := va_P D vwCl ws H ∧ va_D A ws ∧ va_S A H0 H locs
def xQ (D : va_G) (ws ws' : va_W) (r : Option Value) : Array Value → State → Outcome → State → Prop := fun _ st o t => o = .returned r ∧ va_P D vwCl ws' t.heap ∧ va_F (xA ws) st t
def xPre (D : va_G) (tys : List (ClassId × FieldType)) (av : List Value) (ws : va_W) : Array Value → State → Prop := fun v U => v = av.toArray ∧ va_P D vwCl ws U.heap ∧ xK D tys U ∧ va_D (fun _ => True) ws
abbrev xRm (fr lo : Nat) : Room := { frames := fr, cells := 0, slots := 0, locals := lo }
/-- a method's contract: from the world ws it comes to ws' and answers r; no new cells -/
def xMet (l : Launch) (D : va_G) (tys : List (ClassId × FieldType)) (y : MethodName) (cc : ByteArray) (maxL : Nat) (ret : Option FieldType) (fr lo : Nat) (av : List Value) (ws ws' : va_W) (r : Option Value) : Prop :=
  Met l y [Cond.code y cc maxL ret] (xRm fr lo) (xPre D tys av ws) (xQ D ws ws' r) 0 0 (xA ws)
/-- what stays over a method's body -/
def xE (p : Program) (s : State) (m : MethodId) (args : Array Value) (meth : Method) (c : Code) (cc : ByteArray) (nL : Nat) (ret : Option FieldType) (own : String) (D : va_G) (tys : List (ClassId × FieldType)) : Prop :=
  p.tables.exec = Jvm.exec ∧ c.code = cc ∧ c.maxLocals = nL ∧ meth.sig.returnType = ret ∧ s.vm.findClass own = some m.cls ∧ xK D tys s ∧ meth.locks = false
abbrev xG (p : Program) (l : Launch) (e : Env) (fr lo : Nat) (s : State) (m : MethodId) (args : Array Value) (below : List Frame) (meth : Method) (c : Code) (D : va_G) (ws ws' : va_W) (r : Option Value) (H : Heap) (locs : List Loc) (g : JFrame) : Prop :=
  W p l e (xRm fr lo) s m args below meth c H locs 0 0 (MQ below (xQ D ws ws' r) args s 0 0 (xA ws)) g
theorem x_enter {l : Launch} {D : va_G} {tys : List (ClassId × FieldType)} {y : MethodName} {cc : ByteArray} {maxL : Nat} {ret : Option FieldType} {fr lo : Nat} {av : List Value} {ws ws' : va_W} {r : Option Value}
    (hy : plainName y.cls = true) (hlen : (lg_sl av).length ≤ maxL)
    (body : ∀ (p : Program) (e : Env) (s : State) (m : MethodId) (args : Array Value) (below : List Frame) (meth : Method) (c : Code), xE p s m args meth c cc maxL ret y.cls D tys → ∀ ls : Array Slot, lv_has ls maxL (lv_args 0 av) → xw D (xA ws) s.heap ws s.heap [] → xG p l e fr lo s m args below meth c D ws ws' r s.heap [] (F0 m 0 ls [])) :
    xMet l D tys y cc maxL ret fr lo av ws ws' r := by
  refine Met.ofW (cc := cc) (maxL := maxL) (ret := ret) hy rfl ?_
  intro p e s m args below meth c s₁ B hml hv
  obtain ⟨rfl, hP, hK, hD0⟩ := hv
  have hown : s.vm.findClass y.cls = some m.cls := findClass_of_methodNamed B.named
  have hl := lv_entry av (n := maxL) hlen
  rw [lg_entry_eq]
  exact body p e s m av.toArray below meth c ⟨B.exec, B.bytes, hml, B.returns, hown, hK, B.notSynchronized⟩ _ hl ⟨hP, ⟨hD0.1, fun k q h => xA_in h⟩, va_S.rf⟩
section XR
variable {p : Program} {l : Launch} {e : Env} {R : Room} {s : State} {m : MethodId} {args : Array Value} {below : List Frame} {meth : Method} {c : Code} {H : Heap} {locs : List Loc} {cells slots : Nat} {Q : State → Prop}
variable {cc : ByteArray} {nL : Nat} {ret : Option FieldType} {own : String} {D : va_G} {tys : List (ClassId × FieldType)} {A : Nat → Prop} {H0 : Heap} {ws ws' : va_W} {pc : Nat} {ls : Array Slot} {rest : List Value} {a : Nat}
theorem x_iret {fr lo : Nat} {v : Int32} (E : xE p s m args meth c cc nL (some .int) own D tys) (hw : xw D (xA ws) s.heap ws' H locs) (hdg : decode cc pc = .ok (.ireturn, 1)) : xG p l e fr lo s m args below meth c D ws ws' (some (.int v)) H locs (F0 m pc ls [.int v]) := by
  obtain ⟨hx, hb, hml, hr, hown, hK, hlocks⟩ := E
  exact W.iret hx hb hr (fun t ht hW => ⟨rfl, by rw [ht]; exact hw.1, hw.2.2.F ht⟩) hw.2.2.2.2 hdg hlocks
theorem x_zret {fr lo : Nat} {v : Int32} (E : xE p s m args meth c cc nL (some .boolean) own D tys) (hw : xw D (xA ws) s.heap ws' H locs) (hn : narrow .boolean (.int v) = .int v) (hdg : decode cc pc = .ok (.ireturn, 1)) : xG p l e fr lo s m args below meth c D ws ws' (some (.int v)) H locs (F0 m pc ls [.int v]) := by
  obtain ⟨hx, hb, hml, hr, hown, hK, hlocks⟩ := E
  exact W.zret hx hb hr hn (fun t ht hW => ⟨rfl, by rw [ht]; exact hw.1, hw.2.2.F ht⟩) hw.2.2.2.2 hdg hlocks
theorem x_vret {fr lo : Nat} (E : xE p s m args meth c cc nL none own D tys) (hw : xw D (xA ws) s.heap ws' H locs) (hdg : decode cc pc = .ok (.return_, 1)) : xG p l e fr lo s m args below meth c D ws ws' none H locs (F0 m pc ls []) := by
  obtain ⟨hx, hb, hml, hr, hown, hK, hlocks⟩ := E
  exact W.vret hx hb hr (fun t ht hW => ⟨rfl, by rw [ht]; exact hw.1, hw.2.2.F ht⟩) hw.2.2.2.2 hdg hlocks
theorem x_get (E : xE p s m args meth c cc nL ret own D tys) (hw : xw D A H0 ws H locs) {C : String} {T : u_T} {N ci index : Nat} (hin : ∀ w ∈ u_ws C T N, w ∈ xT) (q0 : Nat) {fs : List Value} (he : ws[q0]? = some (a, .inr (ci, fs))) (hc : vwCl[ci]? = some (C, T, N)) (k : Nat) (hk : k < N) (hlink : Cond.fieldLink own index (T k).1 (T k).2.1 (T k).2.2.1 ∈ xT) {v : Value} (hv : fs[k]? = some v) (hdg : decode cc pc = .ok (.getfield index, 3))
    (kk : W p l e R s m args below meth c H locs cells slots Q (F0 m (pc + 3) ls (v :: rest))) : W p l e R s m args below meth c H locs cells slots Q (F0 m pc ls (.ref a :: rest)) := by
  obtain ⟨hx, hb, hml, hr, hown, hK, hlocks⟩ := E
  exact va_get (D := D) (Ts := xT) hx hb (fun w h => hK.2.use h) hin hown hK.1 hw.1 q0 he hc k hk (hK.2.use hlink) (fun _ h => h) hv hdg kk
theorem x_put (E : xE p s m args meth c cc nL ret own D tys) (hw : xw D A H0 ws H locs) {C : String} {T : u_T} {N ci index : Nat} (hin : ∀ w ∈ u_ws C T N, w ∈ xT) (ty0 : Nat → FieldType) (hty : ∀ k, k < N → parseFieldDescriptor (T k).2.2.1 = some (ty0 k)) (hnm : ∀ a, a < N → ∀ b, b < N → a ≠ b → (T a).2.1 ≠ (T b).2.1) (q0 : Nat) {fs : List Value} (he : ws[q0]? = some (a, .inr (ci, fs))) (hc : vwCl[ci]? = some (C, T, N)) (k : Nat) (hk : k < N) (hlink : Cond.fieldLink own index (T k).1 (T k).2.1 (T k).2.2.1 ∈ xT) (hfin : (T k).2.2.2 = false) {v : Value} (hn : narrow (ty0 k) v = v) (hfit : fits (ty0 k) v = true) (hl : k < fs.length) (hs : ws.set q0 (a, .inr (ci, fs.set k v)) = ws')
    (hdg : decode cc pc = .ok (.putfield index, 3)) (kk : ∀ (H : Heap) (locs : List Loc), xw D A H0 ws' H locs → W p l e R s m args below meth c H locs cells slots Q (F0 m (pc + 3) ls rest)) : W p l e R s m args below meth c H locs cells slots Q (F0 m pc ls (v :: .ref a :: rest)) := by
  obtain ⟨hx, hb, hml, hr, hown, hK, hlocks⟩ := E
  subst hs
  exact va_put (D := D) (Ts := xT) hx hb (fun w h => hK.2.use h) hin ty0 hty hnm hown hK.1 hw.1 hw.2.1 hw.2.2 q0 he hc k hk (hK.2.use hlink) (fun _ h => h) hfin (hty k hk) hn hfit hl hdg (fun H1 l1 h1 h2 h3 => kk H1 l1 ⟨h1, h2, h3⟩)
theorem x_iald (E : xE p s m args meth c cc nL ret own D tys) (hw : xw D A H0 ws H locs) (q0 t0 : Nat) {cA : ClassId} {n : Nat} {f : Nat → Int32} (ha : ws[q0]? = some (a, .inl (cA, n, .inl f))) (ht : tys[t0]? = some (cA, .int)) {i : Int32} (hin : vp_in i n) (hdg : decode cc pc = .ok (.iaload, 1))
    (kk : W p l e R s m args below meth c H locs cells slots Q (F0 m (pc + 1) ls (.int (f i.toNatClampNeg) :: rest))) : W p l e R s m args below meth c H locs cells slots Q (F0 m pc ls (.int i :: .ref a :: rest)) :=
  va_iald E.1 E.2.1 E.2.2.2.2.2.1.1 hw.1 q0 t0 ha ht hin hdg kk
theorem x_zald (E : xE p s m args meth c cc nL ret own D tys) (hw : xw D A H0 ws H locs) (q0 t0 : Nat) {cA : ClassId} {n : Nat} {f : Nat → Int32} (ha : ws[q0]? = some (a, .inl (cA, n, .inl f))) (ht : tys[t0]? = some (cA, .boolean)) {i : Int32} (hin : vp_in i n) (hdg : decode cc pc = .ok (.baload, 1))
    (kk : W p l e R s m args below meth c H locs cells slots Q (F0 m (pc + 1) ls (.int (f i.toNatClampNeg) :: rest))) : W p l e R s m args below meth c H locs cells slots Q (F0 m pc ls (.int i :: .ref a :: rest)) :=
  va_zald E.1 E.2.1 E.2.2.2.2.2.1.1 hw.1 q0 t0 ha ht hin hdg kk
theorem x_iast (E : xE p s m args meth c cc nL ret own D tys) (hw : xw D A H0 ws H locs) (q0 t0 : Nat) {cA : ClassId} {n : Nat} {f : Nat → Int32} (ha : ws[q0]? = some (a, .inl (cA, n, .inl f))) (ht : tys[t0]? = some (cA, .int)) {i x : Int32} (hin : vp_in i n) (hs : ws.set q0 (a, .inl (cA, n, .inl (upd f i.toNatClampNeg x))) = ws') (hdg : decode cc pc = .ok (.iastore, 1))
    (kk : ∀ (H : Heap) (locs : List Loc), xw D A H0 ws' H locs → W p l e R s m args below meth c H locs cells slots Q (F0 m (pc + 1) ls rest)) : W p l e R s m args below meth c H locs cells slots Q (F0 m pc ls (.int x :: .int i :: .ref a :: rest)) := by
  subst hs
  exact va_iast E.1 E.2.1 E.2.2.2.2.2.1.1 hw.1 hw.2.1 hw.2.2 q0 t0 ha ht hin hdg (fun H1 l1 h1 h2 h3 => kk H1 l1 ⟨h1, h2, h3⟩)
theorem x_zast (E : xE p s m args meth c cc nL ret own D tys) (hw : xw D A H0 ws H locs) (q0 t0 : Nat) {cA : ClassId} {n : Nat} {f : Nat → Int32} (ha : ws[q0]? = some (a, .inl (cA, n, .inl f))) (ht : tys[t0]? = some (cA, .boolean)) {i x : Int32} (hin : vp_in i n) (hs : ws.set q0 (a, .inl (cA, n, .inl (upd f i.toNatClampNeg (vp_nar .boolean x)))) = ws') (hdg : decode cc pc = .ok (.bastore, 1))
    (kk : ∀ (H : Heap) (locs : List Loc), xw D A H0 ws' H locs → W p l e R s m args below meth c H locs cells slots Q (F0 m (pc + 1) ls rest)) : W p l e R s m args below meth c H locs cells slots Q (F0 m pc ls (.int x :: .int i :: .ref a :: rest)) := by
  subst hs
  exact va_zast E.1 E.2.1 E.2.2.2.2.2.1.1 hw.1 hw.2.1 hw.2.2 q0 t0 ha ht hin hdg (fun H1 l1 h1 h2 h3 => kk H1 l1 ⟨h1, h2, h3⟩)
theorem x_alen (E : xE p s m args meth c cc nL ret own D tys) (hw : xw D A H0 ws H locs) (q0 t0 : Nat) {cA : ClassId} {x : vp_A} (ha : ws[q0]? = some (a, .inl (cA, x))) {ty : FieldType} (ht : tys[t0]? = some (cA, ty)) {v : Int32} (hv : Int32.ofNat x.1 = v) (hdg : decode cc pc = .ok (.arraylength, 1))
    (kk : W p l e R s m args below meth c H locs cells slots Q (F0 m (pc + 1) ls (.int v :: rest))) : W p l e R s m args below meth c H locs cells slots Q (F0 m pc ls (.ref a :: rest)) :=
  va_alen E.1 E.2.1 E.2.2.2.2.2.1.1 hw.1 q0 t0 ha ht hv hdg kk
theorem x_copy {index : Nat} (E : xE p s m args meth c cc nL ret own D tys) (hw : xw D A H0 ws H locs) (hls : ls.size = nL) (hlink : Cond.methodLink own index arraycopyName ∈ xT) (q0 q1 : Nat) {a0 : Nat} {cA : ClassId} {n0 n1 : Nat} {f g : Nat → Int32} (ha0 : ws[q0]? = some (a0, .inl (cA, n0, .inl f))) (ha1 : ws[q1]? = some (a, .inl (cA, n1, .inl g))) (ht : tys[0]? = some (cA, .int))
    {sp dp n : Int32} (h1 : ¬ sp < 0) (h2 : ¬ dp < 0) (h3 : ¬ n < 0) (h4 : sp.toNatClampNeg + n.toNatClampNeg ≤ n0) (h5 : dp.toNatClampNeg + n.toNatClampNeg ≤ n1) (hframes : 1 ≤ R.frames) (hlocals : (rest.map fun v => v.category).sum + (nativeFrameWords "java/lang/System" "arraycopy" 5 + 11) ≤ R.locals)
    (hs : ws.set q1 (a, .inl (cA, n1, .inl (va_cpy f g sp.toNatClampNeg dp.toNatClampNeg n.toNatClampNeg))) = ws') (hdg : decode cc pc = .ok (.invokestatic index, 3))
    (kk : ∀ (H : Heap) (locs : List Loc), xw D A H0 ws' H locs → W p l e R s m args below meth c H locs cells slots Q (F0 m (pc + 3) ls rest)) : W p l e R s m args below meth c H locs cells slots Q (F0 m pc ls (.int n :: .int dp :: .ref a :: .int sp :: .ref a0 :: rest)) := by
  obtain ⟨hx, hb, hml, hr, hown, hK, hlocks⟩ := E
  subst hs
  exact va_copyi hx hb (hml.trans hls.symm) hown (hK.2.use hlink) (hK.2.use kA_copy) (hK.2.use kS_copy) (hK.2.use kN_J10) hK.1 hw.1 hw.2.1 hw.2.2 q0 q1 0 0 ha0 ha1 ht ht rfl h1 h2 h3 h4 h5 (fun _ _ => rfl) hframes hlocals hdg (fun H1 l1 h1 h2 h3 => kk H1 l1 ⟨h1, h2, h3⟩)
end XR
/-- cells put at places -/
def xrep : va_W → List Nat → va_W → va_W
  | ws, i :: is, c :: cs => xrep (ws.set i c) is cs
  | ws, _, _ => ws
theorem xrep_at : ∀ (is : List Nat) (cs ws : va_W), is.length = cs.length → ∀ (k : Nat) (c : Nat × va_E), (xrep ws is cs)[k]? = some c → (∃ j : Nat, is[j]? = some k ∧ cs[j]? = some c) ∨ (k ∉ is ∧ ws[k]? = some c)
  | [], cs, ws, _, k, c, h => Or.inr ⟨List.not_mem_nil, by simpa [xrep] using h⟩
  | i :: is, [], ws, hl, k, c, h => by cases hl
  | i :: is, d :: cs, ws, hl, k, c, h => by
    have h : (xrep (ws.set i d) is cs)[k]? = some c := h
    rcases xrep_at is cs (ws.set i d) (by simpa using hl) k c h with ⟨j, h1, h2⟩ | ⟨h1, h2⟩
    · exact Or.inl ⟨j + 1, by simpa using h1, by simpa using h2⟩
    · by_cases hik : i = k
      · subst hik
        refine Or.inl ⟨0, rfl, ?_⟩
        rw [List.getElem?_set_self'] at h2
        cases h3 : ws[i]? with
        | none => rw [h3] at h2; cases h2
        | some z => rw [h3] at h2; exact h2
      · refine Or.inr ⟨fun hm => ?_, by rwa [List.getElem?_set_ne hik] at h2⟩
        rcases List.mem_cons.mp hm with e | e
        · exact hik e.symm
        · exact h1 e
theorem x_places {ws wc : va_W} {isC : List Nat} (hC : isC.map (fun i => ws[i]?) = wc.map some) {j : Nat} {c : Nat × va_E} (h : wc[j]? = some c) : ∃ i : Nat, isC[j]? = some i ∧ ws[i]? = some c := by
  have h1 : (isC.map (fun i => ws[i]?))[j]? = some (some c) := by rw [hC, List.getElem?_map, h]; rfl
  rw [List.getElem?_map] at h1
  cases hi : isC[j]? with
  | none => rw [hi] at h1; cases h1
  | some i => rw [hi] at h1; exact ⟨i, rfl, Option.some.inj h1⟩
theorem x_sub {ws wc : va_W} {isC : List Nat} (hC : isC.map (fun i => ws[i]?) = wc.map some) {D : va_G} {H : Heap} (hP : va_P D vwCl ws H) : va_P D vwCl wc H := fun j c h => by
  obtain ⟨i, -, h2⟩ := x_places hC h
  exact hP i c h2
theorem x_subD {ws wc : va_W} {isC : List Nat} (hn : va_nd isC = true) (hC : isC.map (fun i => ws[i]?) = wc.map some) {A : Nat → Prop} (hD : va_D A ws) : va_D (fun _ => True) wc := (hD.sub isC hn hC).weaken (fun _ _ _ _ => trivial)
section XC
variable {p : Program} {l : Launch} {e : Env} {R : Room} {s : State} {m : MethodId} {args : Array Value} {below : List Frame} {meth : Method} {c : Code} {H : Heap} {locs : List Loc} {cells slots : Nat} {Q : State → Prop}
variable {cc : ByteArray} {nL : Nat} {ret : Option FieldType} {own : String} {D : va_G} {tys : List (ClassId × FieldType)} {A : Nat → Prop} {H0 : Heap} {ws ws' wc wc' : va_W} {pc : Nat} {ls : Array Slot} {rest st0 st1 : List Value} {a : Array Value} {r : Option Value}
theorem x_after {isC : List Nat} (hr : va_Run p l e R s m args below meth c H locs cells slots 0 0 (F0 m pc ls st0) rest (xQ D wc wc' r a) (xA wc)) (hw : xw D A H0 ws H locs) (hC : isC.map (fun i => ws[i]?) = wc.map some) (hlen : isC.length = wc'.length) (hn : xrep ws isC wc' = ws') (hadr : ws'.map (·.1) = ws.map (·.1))
    (kk : ∀ (H : Heap) (locs : List Loc), xw D A H0 ws' H locs → W p l e R s m args below meth c H locs cells slots Q (F0 m (pc + 3) ls (r.toList ++ rest))) : W p l e R s m args below meth c H locs cells slots Q (F0 m pc ls st0) := by
  intro T hT X
  obtain ⟨v, st₀, t, T', L, h0, X', hL, e1, e2, ⟨hv, hP1, hz, hk⟩, st⟩ := hr T hT X
  cases hv
  rw [h0] at hz hk
  obtain ⟨hP, hD, hS⟩ := hw
  have hAA : ∀ q, xA wc q → A q := fun q hq => by
    obtain ⟨j, z, hj⟩ := xA_of hq
    obtain ⟨i, -, h2⟩ := x_places hC hj
    exact hD.2 i _ h2
  have hP' : va_P D vwCl ws' T'.heap := by
    intro k q hq
    rw [e1]
    rw [← hn] at hq
    rcases xrep_at isC wc' ws hlen k q hq with ⟨j, h1, h2⟩ | ⟨h1, h2⟩
    · exact hP1 j q h2
    · have hlt := (hP k q h2).lt
      refine (hP k q h2).kept (hk q.1 hlt (fun hin => ?_))
      obtain ⟨j, z, hj⟩ := xA_of hin
      obtain ⟨i, h3, h4⟩ := x_places hC hj
      have hij := hD.1 i k _ q h4 h2 rfl
      subst hij
      exact h1 (List.mem_of_getElem? h3)
  have hS' : va_S A H0 T'.heap (locs ++ L) := ⟨Nat.le_trans hS.1 (by rw [e1]; exact hz), fun q h1 h2 => by rw [e1, hk q (Nat.lt_of_lt_of_le h1 hS.1) (fun z => h2 (hAA q z))]; exact hS.2.1 q h1 h2, fun q hq => by
    rcases List.mem_append.mp hq with h | h
    · exact hS.2.2 q h
    · exact hAA _ (hL q h)⟩
  obtain ⟨t2, a1, b1⟩ := kk T'.heap (locs ++ L) ⟨hP', xD_map hadr hD, hS'⟩ T' rfl X'
  exact ⟨t2, st t2 a1, b1⟩
theorem xPre_blind {av : List Value} : FrameBlind (xPre D tys av wc) := fun a U g mk q => by
  obtain ⟨q0, qP, qK, qD⟩ := q
  exact ⟨q0, qP, xK.same qK rfl, qD⟩
theorem x_good {y : MethodName} {bytes : ByteArray} {maxL : Nat} {rt : Option FieldType} (h : Cond.code y bytes maxL rt ∈ xT) : GoodIn xT [Cond.code y bytes maxL rt] := fun w hw => by
  rcases List.mem_cons.mp hw with rfl | hw
  · exact ⟨h, Or.inl rfl⟩
  · cases hw
variable {y : MethodName} {bytes : ByteArray} {maxL n idx fr' lo' : Nat} {rt : Option FieldType} {C : String} {b : Nat} {As : List Value}
/-- invokevirtual -/
theorem x_callV {isC : List Nat} (E : xE p s m args meth c cc nL ret own D tys) (hw : xw D A H0 ws H locs) (hV : xV own idx C y bytes maxL rt n) (hM : xMet l D tys y bytes maxL rt fr' lo' (.ref b :: As) wc wc' r) (q0 ci : Nat) {q : vw_C} {fs : List Value} (he : ws[q0]? = some (b, .inr (ci, fs))) (hc : vwCl[ci]? = some q) (hq : q.1 = C)
    (hC : isC.map (fun i => ws[i]?) = wc.map some) (hnd : va_nd isC = true) (hlen : isC.length = wc'.length) (hn : xrep ws isC wc' = ws') (hadr : ws'.map (·.1) = ws.map (·.1)) (hAs : As.length = n) (hrm : fr' + 1 ≤ R.frames ∧ 8 + (maxL + 11) + lo' ≤ R.locals) (hcl : cells ≤ R.cells ∧ slots ≤ R.slots) (hls : ls.size = nL) (hst : st0 = As.reverse ++ .ref b :: rest) (hst1 : r.toList ++ rest = st1) (hrest : (rest.map fun v => v.category).sum ≤ 8) (hdg : decode cc pc = .ok (.invokevirtual idx, 3))
    (kk : ∀ (H : Heap) (locs : List Loc), xw D A H0 ws' H locs → W p l e R s m args below meth c H locs cells slots Q (F0 m (pc + 3) ls st1)) : W p l e R s m args below meth c H locs cells slots Q (F0 m pc ls st0) := by
  subst hst1
  obtain ⟨hx, hb, hml, hr, hown, hK, hlocks⟩ := id E
  obtain ⟨⟨w1, w2, w3, w4, w5⟩, d1, d2, d3⟩ := hV
  subst hq
  have hts : ∀ w ∈ xT, w.before args s = true := fun w h => hK.2.use h
  have hcb : CallB R s args own idx y bytes maxL rt [Cond.code y bytes maxL rt] (xRm fr' lo') 0 0 n := callB_of n hts (x_good w5) rfl rfl rfl (hts _ w4) (hts _ w1) ⟨d1, d2, d3⟩ hrm
  exact x_after (va_runV (As := As) (rest := rest) ⟨hx, hb, hml, hown, hts⟩ hM ⟨hcb, hts _ w2, hts _ w3⟩ ⟨xPre_blind, va_recv hK.1 hw.1 hc he, fun U hU hW => ⟨rfl, by rw [hU]; exact x_sub hC hw.1, hK.warm hW, x_subD hnd hC hw.2.1⟩⟩ rfl hAs hls hst (lv_room hrest) hdg hcl) hw hC hlen hn hadr kk
/-- invokestatic -/
theorem x_callS {isC : List Nat} (E : xE p s m args meth c cc nL ret own D tys) (hw : xw D A H0 ws H locs) (hV : xS own idx y bytes maxL rt n) (hM : xMet l D tys y bytes maxL rt fr' lo' As wc wc' r)
    (hC : isC.map (fun i => ws[i]?) = wc.map some) (hnd : va_nd isC = true) (hlen : isC.length = wc'.length) (hn : xrep ws isC wc' = ws') (hadr : ws'.map (·.1) = ws.map (·.1)) (hAs : As.length = n) (hrm : fr' + 1 ≤ R.frames ∧ 8 + (maxL + 11) + lo' ≤ R.locals) (hcl : cells ≤ R.cells ∧ slots ≤ R.slots) (hls : ls.size = nL) (hst : st0 = As.reverse ++ rest) (hst1 : r.toList ++ rest = st1) (hrest : (rest.map fun v => v.category).sum ≤ 8) (hdg : decode cc pc = .ok (.invokestatic idx, 3))
    (kk : ∀ (H : Heap) (locs : List Loc), xw D A H0 ws' H locs → W p l e R s m args below meth c H locs cells slots Q (F0 m (pc + 3) ls st1)) : W p l e R s m args below meth c H locs cells slots Q (F0 m pc ls st0) := by
  subst hst1
  obtain ⟨hx, hb, hml, hr, hown, hK, hlocks⟩ := id E
  obtain ⟨⟨w1, w2, w4, w5⟩, d1, d2, d3⟩ := hV
  have hts : ∀ w ∈ xT, w.before args s = true := fun w h => hK.2.use h
  have hcb : CallB R s args own idx y bytes maxL rt [Cond.code y bytes maxL rt] (xRm fr' lo') 0 0 n := callB_of n hts (x_good w5) rfl rfl rfl (hts _ w4) (hts _ w1) ⟨d1, d2, d3⟩ hrm
  exact x_after (va_runS (As := As) (rest := rest) ⟨hx, hb, hml, hown, hts⟩ hM ⟨hcb, hts _ w2⟩ ⟨xPre_blind, fun U hU hW => ⟨rfl, by rw [hU]; exact x_sub hC hw.1, hK.warm hW, x_subD hnd hC hw.2.1⟩⟩ rfl hAs hls hst (lv_room hrest) hdg hcl) hw hC hlen hn hadr kk
/-- invokestatic of a nest mate's private method -/
theorem x_callN {isC : List Nat} {host : String} (E : xE p s m args meth c cc nL ret own D tys) (hw : xw D A H0 ws H locs) (hV : xN own idx host y bytes maxL rt n) (hM : xMet l D tys y bytes maxL rt fr' lo' As wc wc' r)
    (hC : isC.map (fun i => ws[i]?) = wc.map some) (hnd : va_nd isC = true) (hlen : isC.length = wc'.length) (hn : xrep ws isC wc' = ws') (hadr : ws'.map (·.1) = ws.map (·.1)) (hAs : As.length = n) (hrm : fr' + 1 ≤ R.frames ∧ 8 + (maxL + 11) + lo' ≤ R.locals) (hcl : cells ≤ R.cells ∧ slots ≤ R.slots) (hls : ls.size = nL) (hst : st0 = As.reverse ++ rest) (hst1 : r.toList ++ rest = st1) (hrest : (rest.map fun v => v.category).sum ≤ 8) (hdg : decode cc pc = .ok (.invokestatic idx, 3))
    (kk : ∀ (H : Heap) (locs : List Loc), xw D A H0 ws' H locs → W p l e R s m args below meth c H locs cells slots Q (F0 m (pc + 3) ls st1)) : W p l e R s m args below meth c H locs cells slots Q (F0 m pc ls st0) := by
  subst hst1
  obtain ⟨hx, hb, hml, hr, hown, hK, hlocks⟩ := id E
  obtain ⟨⟨w1, w2, w4, w5⟩, d1, d2, d3⟩ := hV
  have hts : ∀ w ∈ xT, w.before args s = true := fun w h => hK.2.use h
  exact x_after (va_runSN (As := As) (rest := rest) ⟨hx, hb, hml, hown, hts⟩ hM ⟨va_cnB n hts (x_good w5) rfl rfl rfl (hK.2 _ w1) (hts _ w4) ⟨d1, d2, d3⟩ hrm, hts _ w2, trivial⟩ ⟨xPre_blind, fun U hU hW => ⟨rfl, by rw [hU]; exact x_sub hC hw.1, hK.warm hW, x_subD hnd hC hw.2.1⟩⟩ rfl hAs hls hst (lv_room hrest) hdg hcl) hw hC hlen hn hadr kk
end XC
/-! guards of the pure functions -/
def xin (i : Int32) (n : Nat) : Bool := !(decide (i < 0) || decide (n ≤ i.toNatClampNeg))
theorem xin_vp {i : Int32} {n : Nat} (h : xin i n = true) : vp_in i n := by
  unfold xin at h
  simp only [Bool.not_eq_true', Bool.or_eq_false_iff, decide_eq_false_iff_not] at h
  rintro (h1 | h1)
  · exact h.1 h1
  · exact h.2 h1
theorem vp_xin {i : Int32} {n : Nat} (h : vp_in i n) : xin i n = true := by
  unfold xin
  simp only [Bool.not_eq_true', Bool.or_eq_false_iff, decide_eq_false_iff_not]
  exact ⟨fun h1 => h (Or.inl h1), fun h1 => h (Or.inr h1)⟩
theorem xgd {α : Type} {b : Bool} {x : Option α} {r : α} (h : (if b = true then x else none) = some r) : b = true ∧ x = some r := by
  cases b
  · simp at h
  · exact ⟨rfl, by simpa using h⟩
/-- a number that is a truth value -/
def xz (v : Int32) : Bool := decide (v = 0) || decide (v = 1)
theorem xz_n {v : Int32} (h : xz v = true) : narrow .boolean (.int v) = .int v := by
  unfold xz at h
  simp only [Bool.or_eq_true, decide_eq_true_eq] at h
  rcases h with rfl | rfl <;> rfl
theorem x_lsw_out {x : Int32} {d : Int} (h0 : ¬ x = 0) (h1 : ¬ x = 1) {a b : Int} : Op.lookupswitch.offset [(0, a), (1, b)] d x.toInt = d := by
  have g0 : ¬ x.toInt = 0 := fun h => h0 (Int32.toInt_inj.mp (by rw [h]; rfl))
  have g1 : ¬ x.toInt = 1 := fun h => h1 (Int32.toInt_inj.mp (by rw [h]; rfl))
  simp [Op.lookupswitch.offset, g0, g1, Ne.symm g0, Ne.symm g1]
end
section
abbrev wF (cI cZ cN cC : ClassId) (h0 : Nat) (nn : Nat) (arr : Nat → Int32) : va_W := [(h0, .inl (cI, nn, .inl arr))]
abbrev wNet (cI cZ cN cC : ClassId) (h0 h1 h2 h3 : Nat) (pts : Int32) (wrk : Int32) (out : Nat → Int32) (mem : Nat → Int32) (abv : Nat → Int32) : va_W := [(h0, .inr (3, [.int pts, .int wrk, .ref h1, .ref h2, .ref h3])), (h1, .inl (cI, 10, .inl out)), (h2, .inl (cI, 10, .inl mem)), (h3, .inl (cI, 100, .inl abv))]
def f_J6_bitCount_0f7a4 (x0 : Int32) : (Int32) :=
  ((((((((x0 - (((Int32.toUInt32 x0 >>> (Int32.toUInt32 1 &&& Int32.toUInt32 31)).toInt32) &&& 1431655765)) &&& 858993459) + (((Int32.toUInt32 (x0 - (((Int32.toUInt32 x0 >>> (Int32.toUInt32 1 &&& Int32.toUInt32 31)).toInt32) &&& 1431655765)) >>> (Int32.toUInt32 2 &&& Int32.toUInt32 31)).toInt32) &&& 858993459)) + ((Int32.toUInt32 (((x0 - (((Int32.toUInt32 x0 >>> (Int32.toUInt32 1 &&& Int32.toUInt32 31)).toInt32) &&& 1431655765)) &&& 858993459) + (((Int32.toUInt32 (x0 - (((Int32.toUInt32 x0 >>> (Int32.toUInt32 1 &&& Int32.toUInt32 31)).toInt32) &&& 1431655765)) >>> (Int32.toUInt32 2 &&& Int32.toUInt32 31)).toInt32) &&& 858993459)) >>> (Int32.toUInt32 4 &&& Int32.toUInt32 31)).toInt32)) &&& 252645135) + ((Int32.toUInt32 (((((x0 - (((Int32.toUInt32 x0 >>> (Int32.toUInt32 1 &&& Int32.toUInt32 31)).toInt32) &&& 1431655765)) &&& 858993459) + (((Int32.toUInt32 (x0 - (((Int32.toUInt32 x0 >>> (Int32.toUInt32 1 &&& Int32.toUInt32 31)).toInt32) &&& 1431655765)) >>> (Int32.toUInt32 2 &&& Int32.toUInt32 31)).toInt32) &&& 858993459)) + ((Int32.toUInt32 (((x0 - (((Int32.toUInt32 x0 >>> (Int32.toUInt32 1 &&& Int32.toUInt32 31)).toInt32) &&& 1431655765)) &&& 858993459) + (((Int32.toUInt32 (x0 - (((Int32.toUInt32 x0 >>> (Int32.toUInt32 1 &&& Int32.toUInt32 31)).toInt32) &&& 1431655765)) >>> (Int32.toUInt32 2 &&& Int32.toUInt32 31)).toInt32) &&& 858993459)) >>> (Int32.toUInt32 4 &&& Int32.toUInt32 31)).toInt32)) &&& 252645135) >>> (Int32.toUInt32 8 &&& Int32.toUInt32 31)).toInt32)) + ((Int32.toUInt32 ((((((x0 - (((Int32.toUInt32 x0 >>> (Int32.toUInt32 1 &&& Int32.toUInt32 31)).toInt32) &&& 1431655765)) &&& 858993459) + (((Int32.toUInt32 (x0 - (((Int32.toUInt32 x0 >>> (Int32.toUInt32 1 &&& Int32.toUInt32 31)).toInt32) &&& 1431655765)) >>> (Int32.toUInt32 2 &&& Int32.toUInt32 31)).toInt32) &&& 858993459)) + ((Int32.toUInt32 (((x0 - (((Int32.toUInt32 x0 >>> (Int32.toUInt32 1 &&& Int32.toUInt32 31)).toInt32) &&& 1431655765)) &&& 858993459) + (((Int32.toUInt32 (x0 - (((Int32.toUInt32 x0 >>> (Int32.toUInt32 1 &&& Int32.toUInt32 31)).toInt32) &&& 1431655765)) >>> (Int32.toUInt32 2 &&& Int32.toUInt32 31)).toInt32) &&& 858993459)) >>> (Int32.toUInt32 4 &&& Int32.toUInt32 31)).toInt32)) &&& 252645135) + ((Int32.toUInt32 (((((x0 - (((Int32.toUInt32 x0 >>> (Int32.toUInt32 1 &&& Int32.toUInt32 31)).toInt32) &&& 1431655765)) &&& 858993459) + (((Int32.toUInt32 (x0 - (((Int32.toUInt32 x0 >>> (Int32.toUInt32 1 &&& Int32.toUInt32 31)).toInt32) &&& 1431655765)) >>> (Int32.toUInt32 2 &&& Int32.toUInt32 31)).toInt32) &&& 858993459)) + ((Int32.toUInt32 (((x0 - (((Int32.toUInt32 x0 >>> (Int32.toUInt32 1 &&& Int32.toUInt32 31)).toInt32) &&& 1431655765)) &&& 858993459) + (((Int32.toUInt32 (x0 - (((Int32.toUInt32 x0 >>> (Int32.toUInt32 1 &&& Int32.toUInt32 31)).toInt32) &&& 1431655765)) >>> (Int32.toUInt32 2 &&& Int32.toUInt32 31)).toInt32) &&& 858993459)) >>> (Int32.toUInt32 4 &&& Int32.toUInt32 31)).toInt32)) &&& 252645135) >>> (Int32.toUInt32 8 &&& Int32.toUInt32 31)).toInt32)) >>> (Int32.toUInt32 16 &&& Int32.toUInt32 31)).toInt32)) &&& 63)
set_option maxHeartbeats 4000000 in
set_option maxRecDepth 100000 in
theorem c_J6_bitCount_0f7a4 {l : Launch} {D : va_G} {cI cZ cN cC : ClassId}  {x0 : Int32} {res : Int32} (hf : f_J6_bitCount_0f7a4 x0 = res) : xMet l D (xtys cI cZ cN cC) yJ6_bitCount_0f7a4 cJ6_bitCount_0f7a4 1 (some .int) 0 0 [.int x0] ([] : va_W) ([] : va_W) (some (.int res)) := by
  refine x_enter (by decide) (Nat.le_of_ble_eq_true rfl) ?_
  intro p e s m args below meth c E ls hl hw
  have E : xE p s m args meth c cJ6_bitCount_0f7a4 1 (some .int) RJ6 D (xtys cI cZ cN cC) := E
  obtain ⟨hx, hb, -⟩ := id E
  have hl : lv_has ls 1 [(0, .int x0)] := hl
  unfold f_J6_bitCount_0f7a4 at hf
  refine lv_iload_n hx hb dJ6_bitCount_0f7a4_0 rfl (lv_at hl 0 rfl) ?_
  refine lv_iload_n hx hb dJ6_bitCount_0f7a4_1 rfl (lv_at hl 0 rfl) ?_
  refine lv_iconst (v := 1) hx hb dJ6_bitCount_0f7a4_2 (by decide) ?_
  refine lv_iushr (v := (Int32.toUInt32 x0 >>> (Int32.toUInt32 1 &&& Int32.toUInt32 31)).toInt32) hx hb dJ6_bitCount_0f7a4_3 rfl ?_
  refine lv_ldcw hx hb E.2.2.2.2.1 (E.2.2.2.2.2.1.2.use kK_J6_265) dJ6_bitCount_0f7a4_4 ?_
  refine lv_iand hx hb dJ6_bitCount_0f7a4_7 ?_
  refine lv_isub hx hb dJ6_bitCount_0f7a4_8 ?_
  refine lv_istore_n (lv' := [(0, .int (x0 - (((Int32.toUInt32 x0 >>> (Int32.toUInt32 1 &&& Int32.toUInt32 31)).toInt32) &&& 1431655765)))]) hx hb dJ6_bitCount_0f7a4_9 rfl hl (by decide) rfl (fun ls hl => ?_)
  refine lv_iload_n hx hb dJ6_bitCount_0f7a4_10 rfl (lv_at hl 0 rfl) ?_
  refine lv_ldcw hx hb E.2.2.2.2.1 (E.2.2.2.2.2.1.2.use kK_J6_266) dJ6_bitCount_0f7a4_11 ?_
  refine lv_iand hx hb dJ6_bitCount_0f7a4_14 ?_
  refine lv_iload_n hx hb dJ6_bitCount_0f7a4_15 rfl (lv_at hl 0 rfl) ?_
  refine lv_iconst (v := 2) hx hb dJ6_bitCount_0f7a4_16 (by decide) ?_
  refine lv_iushr (v := (Int32.toUInt32 (x0 - (((Int32.toUInt32 x0 >>> (Int32.toUInt32 1 &&& Int32.toUInt32 31)).toInt32) &&& 1431655765)) >>> (Int32.toUInt32 2 &&& Int32.toUInt32 31)).toInt32) hx hb dJ6_bitCount_0f7a4_17 rfl ?_
  refine lv_ldcw hx hb E.2.2.2.2.1 (E.2.2.2.2.2.1.2.use kK_J6_266) dJ6_bitCount_0f7a4_18 ?_
  refine lv_iand hx hb dJ6_bitCount_0f7a4_21 ?_
  refine lv_iadd hx hb dJ6_bitCount_0f7a4_22 ?_
  refine lv_istore_n (lv' := [(0, .int (((x0 - (((Int32.toUInt32 x0 >>> (Int32.toUInt32 1 &&& Int32.toUInt32 31)).toInt32) &&& 1431655765)) &&& 858993459) + (((Int32.toUInt32 (x0 - (((Int32.toUInt32 x0 >>> (Int32.toUInt32 1 &&& Int32.toUInt32 31)).toInt32) &&& 1431655765)) >>> (Int32.toUInt32 2 &&& Int32.toUInt32 31)).toInt32) &&& 858993459)))]) hx hb dJ6_bitCount_0f7a4_23 rfl hl (by decide) rfl (fun ls hl => ?_)
  refine lv_iload_n hx hb dJ6_bitCount_0f7a4_24 rfl (lv_at hl 0 rfl) ?_
  refine lv_iload_n hx hb dJ6_bitCount_0f7a4_25 rfl (lv_at hl 0 rfl) ?_
  refine lv_iconst (v := 4) hx hb dJ6_bitCount_0f7a4_26 (by decide) ?_
  refine lv_iushr (v := (Int32.toUInt32 (((x0 - (((Int32.toUInt32 x0 >>> (Int32.toUInt32 1 &&& Int32.toUInt32 31)).toInt32) &&& 1431655765)) &&& 858993459) + (((Int32.toUInt32 (x0 - (((Int32.toUInt32 x0 >>> (Int32.toUInt32 1 &&& Int32.toUInt32 31)).toInt32) &&& 1431655765)) >>> (Int32.toUInt32 2 &&& Int32.toUInt32 31)).toInt32) &&& 858993459)) >>> (Int32.toUInt32 4 &&& Int32.toUInt32 31)).toInt32) hx hb dJ6_bitCount_0f7a4_27 rfl ?_
  refine lv_iadd hx hb dJ6_bitCount_0f7a4_28 ?_
  refine lv_ldcw hx hb E.2.2.2.2.1 (E.2.2.2.2.2.1.2.use kK_J6_267) dJ6_bitCount_0f7a4_29 ?_
  refine lv_iand hx hb dJ6_bitCount_0f7a4_32 ?_
  refine lv_istore_n (lv' := [(0, .int (((((x0 - (((Int32.toUInt32 x0 >>> (Int32.toUInt32 1 &&& Int32.toUInt32 31)).toInt32) &&& 1431655765)) &&& 858993459) + (((Int32.toUInt32 (x0 - (((Int32.toUInt32 x0 >>> (Int32.toUInt32 1 &&& Int32.toUInt32 31)).toInt32) &&& 1431655765)) >>> (Int32.toUInt32 2 &&& Int32.toUInt32 31)).toInt32) &&& 858993459)) + ((Int32.toUInt32 (((x0 - (((Int32.toUInt32 x0 >>> (Int32.toUInt32 1 &&& Int32.toUInt32 31)).toInt32) &&& 1431655765)) &&& 858993459) + (((Int32.toUInt32 (x0 - (((Int32.toUInt32 x0 >>> (Int32.toUInt32 1 &&& Int32.toUInt32 31)).toInt32) &&& 1431655765)) >>> (Int32.toUInt32 2 &&& Int32.toUInt32 31)).toInt32) &&& 858993459)) >>> (Int32.toUInt32 4 &&& Int32.toUInt32 31)).toInt32)) &&& 252645135))]) hx hb dJ6_bitCount_0f7a4_33 rfl hl (by decide) rfl (fun ls hl => ?_)
  refine lv_iload_n hx hb dJ6_bitCount_0f7a4_34 rfl (lv_at hl 0 rfl) ?_
  refine lv_iload_n hx hb dJ6_bitCount_0f7a4_35 rfl (lv_at hl 0 rfl) ?_
  refine lv_bipush (v := 8) hx hb dJ6_bitCount_0f7a4_36 (by decide) ?_
  refine lv_iushr (v := (Int32.toUInt32 (((((x0 - (((Int32.toUInt32 x0 >>> (Int32.toUInt32 1 &&& Int32.toUInt32 31)).toInt32) &&& 1431655765)) &&& 858993459) + (((Int32.toUInt32 (x0 - (((Int32.toUInt32 x0 >>> (Int32.toUInt32 1 &&& Int32.toUInt32 31)).toInt32) &&& 1431655765)) >>> (Int32.toUInt32 2 &&& Int32.toUInt32 31)).toInt32) &&& 858993459)) + ((Int32.toUInt32 (((x0 - (((Int32.toUInt32 x0 >>> (Int32.toUInt32 1 &&& Int32.toUInt32 31)).toInt32) &&& 1431655765)) &&& 858993459) + (((Int32.toUInt32 (x0 - (((Int32.toUInt32 x0 >>> (Int32.toUInt32 1 &&& Int32.toUInt32 31)).toInt32) &&& 1431655765)) >>> (Int32.toUInt32 2 &&& Int32.toUInt32 31)).toInt32) &&& 858993459)) >>> (Int32.toUInt32 4 &&& Int32.toUInt32 31)).toInt32)) &&& 252645135) >>> (Int32.toUInt32 8 &&& Int32.toUInt32 31)).toInt32) hx hb dJ6_bitCount_0f7a4_38 rfl ?_
  refine lv_iadd hx hb dJ6_bitCount_0f7a4_39 ?_
  refine lv_istore_n (lv' := [(0, .int ((((((x0 - (((Int32.toUInt32 x0 >>> (Int32.toUInt32 1 &&& Int32.toUInt32 31)).toInt32) &&& 1431655765)) &&& 858993459) + (((Int32.toUInt32 (x0 - (((Int32.toUInt32 x0 >>> (Int32.toUInt32 1 &&& Int32.toUInt32 31)).toInt32) &&& 1431655765)) >>> (Int32.toUInt32 2 &&& Int32.toUInt32 31)).toInt32) &&& 858993459)) + ((Int32.toUInt32 (((x0 - (((Int32.toUInt32 x0 >>> (Int32.toUInt32 1 &&& Int32.toUInt32 31)).toInt32) &&& 1431655765)) &&& 858993459) + (((Int32.toUInt32 (x0 - (((Int32.toUInt32 x0 >>> (Int32.toUInt32 1 &&& Int32.toUInt32 31)).toInt32) &&& 1431655765)) >>> (Int32.toUInt32 2 &&& Int32.toUInt32 31)).toInt32) &&& 858993459)) >>> (Int32.toUInt32 4 &&& Int32.toUInt32 31)).toInt32)) &&& 252645135) + ((Int32.toUInt32 (((((x0 - (((Int32.toUInt32 x0 >>> (Int32.toUInt32 1 &&& Int32.toUInt32 31)).toInt32) &&& 1431655765)) &&& 858993459) + (((Int32.toUInt32 (x0 - (((Int32.toUInt32 x0 >>> (Int32.toUInt32 1 &&& Int32.toUInt32 31)).toInt32) &&& 1431655765)) >>> (Int32.toUInt32 2 &&& Int32.toUInt32 31)).toInt32) &&& 858993459)) + ((Int32.toUInt32 (((x0 - (((Int32.toUInt32 x0 >>> (Int32.toUInt32 1 &&& Int32.toUInt32 31)).toInt32) &&& 1431655765)) &&& 858993459) + (((Int32.toUInt32 (x0 - (((Int32.toUInt32 x0 >>> (Int32.toUInt32 1 &&& Int32.toUInt32 31)).toInt32) &&& 1431655765)) >>> (Int32.toUInt32 2 &&& Int32.toUInt32 31)).toInt32) &&& 858993459)) >>> (Int32.toUInt32 4 &&& Int32.toUInt32 31)).toInt32)) &&& 252645135) >>> (Int32.toUInt32 8 &&& Int32.toUInt32 31)).toInt32)))]) hx hb dJ6_bitCount_0f7a4_40 rfl hl (by decide) rfl (fun ls hl => ?_)
  refine lv_iload_n hx hb dJ6_bitCount_0f7a4_41 rfl (lv_at hl 0 rfl) ?_
  refine lv_iload_n hx hb dJ6_bitCount_0f7a4_42 rfl (lv_at hl 0 rfl) ?_
  refine lv_bipush (v := 16) hx hb dJ6_bitCount_0f7a4_43 (by decide) ?_
  refine lv_iushr (v := (Int32.toUInt32 ((((((x0 - (((Int32.toUInt32 x0 >>> (Int32.toUInt32 1 &&& Int32.toUInt32 31)).toInt32) &&& 1431655765)) &&& 858993459) + (((Int32.toUInt32 (x0 - (((Int32.toUInt32 x0 >>> (Int32.toUInt32 1 &&& Int32.toUInt32 31)).toInt32) &&& 1431655765)) >>> (Int32.toUInt32 2 &&& Int32.toUInt32 31)).toInt32) &&& 858993459)) + ((Int32.toUInt32 (((x0 - (((Int32.toUInt32 x0 >>> (Int32.toUInt32 1 &&& Int32.toUInt32 31)).toInt32) &&& 1431655765)) &&& 858993459) + (((Int32.toUInt32 (x0 - (((Int32.toUInt32 x0 >>> (Int32.toUInt32 1 &&& Int32.toUInt32 31)).toInt32) &&& 1431655765)) >>> (Int32.toUInt32 2 &&& Int32.toUInt32 31)).toInt32) &&& 858993459)) >>> (Int32.toUInt32 4 &&& Int32.toUInt32 31)).toInt32)) &&& 252645135) + ((Int32.toUInt32 (((((x0 - (((Int32.toUInt32 x0 >>> (Int32.toUInt32 1 &&& Int32.toUInt32 31)).toInt32) &&& 1431655765)) &&& 858993459) + (((Int32.toUInt32 (x0 - (((Int32.toUInt32 x0 >>> (Int32.toUInt32 1 &&& Int32.toUInt32 31)).toInt32) &&& 1431655765)) >>> (Int32.toUInt32 2 &&& Int32.toUInt32 31)).toInt32) &&& 858993459)) + ((Int32.toUInt32 (((x0 - (((Int32.toUInt32 x0 >>> (Int32.toUInt32 1 &&& Int32.toUInt32 31)).toInt32) &&& 1431655765)) &&& 858993459) + (((Int32.toUInt32 (x0 - (((Int32.toUInt32 x0 >>> (Int32.toUInt32 1 &&& Int32.toUInt32 31)).toInt32) &&& 1431655765)) >>> (Int32.toUInt32 2 &&& Int32.toUInt32 31)).toInt32) &&& 858993459)) >>> (Int32.toUInt32 4 &&& Int32.toUInt32 31)).toInt32)) &&& 252645135) >>> (Int32.toUInt32 8 &&& Int32.toUInt32 31)).toInt32)) >>> (Int32.toUInt32 16 &&& Int32.toUInt32 31)).toInt32) hx hb dJ6_bitCount_0f7a4_45 rfl ?_
  refine lv_iadd hx hb dJ6_bitCount_0f7a4_46 ?_
  refine lv_istore_n (lv' := [(0, .int (((((((x0 - (((Int32.toUInt32 x0 >>> (Int32.toUInt32 1 &&& Int32.toUInt32 31)).toInt32) &&& 1431655765)) &&& 858993459) + (((Int32.toUInt32 (x0 - (((Int32.toUInt32 x0 >>> (Int32.toUInt32 1 &&& Int32.toUInt32 31)).toInt32) &&& 1431655765)) >>> (Int32.toUInt32 2 &&& Int32.toUInt32 31)).toInt32) &&& 858993459)) + ((Int32.toUInt32 (((x0 - (((Int32.toUInt32 x0 >>> (Int32.toUInt32 1 &&& Int32.toUInt32 31)).toInt32) &&& 1431655765)) &&& 858993459) + (((Int32.toUInt32 (x0 - (((Int32.toUInt32 x0 >>> (Int32.toUInt32 1 &&& Int32.toUInt32 31)).toInt32) &&& 1431655765)) >>> (Int32.toUInt32 2 &&& Int32.toUInt32 31)).toInt32) &&& 858993459)) >>> (Int32.toUInt32 4 &&& Int32.toUInt32 31)).toInt32)) &&& 252645135) + ((Int32.toUInt32 (((((x0 - (((Int32.toUInt32 x0 >>> (Int32.toUInt32 1 &&& Int32.toUInt32 31)).toInt32) &&& 1431655765)) &&& 858993459) + (((Int32.toUInt32 (x0 - (((Int32.toUInt32 x0 >>> (Int32.toUInt32 1 &&& Int32.toUInt32 31)).toInt32) &&& 1431655765)) >>> (Int32.toUInt32 2 &&& Int32.toUInt32 31)).toInt32) &&& 858993459)) + ((Int32.toUInt32 (((x0 - (((Int32.toUInt32 x0 >>> (Int32.toUInt32 1 &&& Int32.toUInt32 31)).toInt32) &&& 1431655765)) &&& 858993459) + (((Int32.toUInt32 (x0 - (((Int32.toUInt32 x0 >>> (Int32.toUInt32 1 &&& Int32.toUInt32 31)).toInt32) &&& 1431655765)) >>> (Int32.toUInt32 2 &&& Int32.toUInt32 31)).toInt32) &&& 858993459)) >>> (Int32.toUInt32 4 &&& Int32.toUInt32 31)).toInt32)) &&& 252645135) >>> (Int32.toUInt32 8 &&& Int32.toUInt32 31)).toInt32)) + ((Int32.toUInt32 ((((((x0 - (((Int32.toUInt32 x0 >>> (Int32.toUInt32 1 &&& Int32.toUInt32 31)).toInt32) &&& 1431655765)) &&& 858993459) + (((Int32.toUInt32 (x0 - (((Int32.toUInt32 x0 >>> (Int32.toUInt32 1 &&& Int32.toUInt32 31)).toInt32) &&& 1431655765)) >>> (Int32.toUInt32 2 &&& Int32.toUInt32 31)).toInt32) &&& 858993459)) + ((Int32.toUInt32 (((x0 - (((Int32.toUInt32 x0 >>> (Int32.toUInt32 1 &&& Int32.toUInt32 31)).toInt32) &&& 1431655765)) &&& 858993459) + (((Int32.toUInt32 (x0 - (((Int32.toUInt32 x0 >>> (Int32.toUInt32 1 &&& Int32.toUInt32 31)).toInt32) &&& 1431655765)) >>> (Int32.toUInt32 2 &&& Int32.toUInt32 31)).toInt32) &&& 858993459)) >>> (Int32.toUInt32 4 &&& Int32.toUInt32 31)).toInt32)) &&& 252645135) + ((Int32.toUInt32 (((((x0 - (((Int32.toUInt32 x0 >>> (Int32.toUInt32 1 &&& Int32.toUInt32 31)).toInt32) &&& 1431655765)) &&& 858993459) + (((Int32.toUInt32 (x0 - (((Int32.toUInt32 x0 >>> (Int32.toUInt32 1 &&& Int32.toUInt32 31)).toInt32) &&& 1431655765)) >>> (Int32.toUInt32 2 &&& Int32.toUInt32 31)).toInt32) &&& 858993459)) + ((Int32.toUInt32 (((x0 - (((Int32.toUInt32 x0 >>> (Int32.toUInt32 1 &&& Int32.toUInt32 31)).toInt32) &&& 1431655765)) &&& 858993459) + (((Int32.toUInt32 (x0 - (((Int32.toUInt32 x0 >>> (Int32.toUInt32 1 &&& Int32.toUInt32 31)).toInt32) &&& 1431655765)) >>> (Int32.toUInt32 2 &&& Int32.toUInt32 31)).toInt32) &&& 858993459)) >>> (Int32.toUInt32 4 &&& Int32.toUInt32 31)).toInt32)) &&& 252645135) >>> (Int32.toUInt32 8 &&& Int32.toUInt32 31)).toInt32)) >>> (Int32.toUInt32 16 &&& Int32.toUInt32 31)).toInt32)))]) hx hb dJ6_bitCount_0f7a4_47 rfl hl (by decide) rfl (fun ls hl => ?_)
  refine lv_iload_n hx hb dJ6_bitCount_0f7a4_48 rfl (lv_at hl 0 rfl) ?_
  refine lv_bipush (v := 63) hx hb dJ6_bitCount_0f7a4_49 (by decide) ?_
  refine lv_iand hx hb dJ6_bitCount_0f7a4_51 ?_
  subst hf
  exact x_iret E hw dJ6_bitCount_0f7a4_52

def f_X6_has (x0 : Int32) (x1 : Int32) : (Int32) :=
  if (x0 &&& (1 <<< (x1 &&& 31))) = 0 then
   0
  else
   1
set_option maxHeartbeats 4000000 in
set_option maxRecDepth 100000 in
theorem c_X6_has {l : Launch} {D : va_G} {cI cZ cN cC : ClassId}  {x0 : Int32} {x1 : Int32} {res : Int32} (hf : f_X6_has x0 x1 = res) : xMet l D (xtys cI cZ cN cC) yX6_has cX6_has 2 (some .boolean) 0 0 [.int x0, .int x1] ([] : va_W) ([] : va_W) (some (.int res)) := by
  refine x_enter (by decide) (Nat.le_of_ble_eq_true rfl) ?_
  intro p e s m args below meth c E ls hl hw
  have E : xE p s m args meth c cX6_has 2 (some .boolean) RX6 D (xtys cI cZ cN cC) := E
  obtain ⟨hx, hb, -⟩ := id E
  have hl : lv_has ls 2 [(0, .int x0), (1, .int x1)] := hl
  unfold f_X6_has at hf
  refine lv_iload_n hx hb dX6_has_0 rfl (lv_at hl 0 rfl) ?_
  refine lv_iconst (v := 1) hx hb dX6_has_1 (by decide) ?_
  refine lv_iload_n hx hb dX6_has_2 rfl (lv_at hl 1 rfl) ?_
  refine lv_ishl hx hb dX6_has_3 ?_
  refine lv_iand hx hb dX6_has_4 ?_
  refine lv_if_eq (tgt := 12) hx hb dX6_has_5 (by decide) (fun c1 => ?_) (fun c1 => ?_)
  · rw [if_pos c1] at hf
    refine lv_iconst (v := 0) hx hb dX6_has_12 (by decide) ?_
    subst hf
    exact x_zret E hw (xz_n (by decide)) dX6_has_13
  · rw [if_neg c1] at hf
    refine lv_iconst (v := 1) hx hb dX6_has_8 (by decide) ?_
    refine lv_goto (tgt := 13) hx hb dX6_has_9 (by decide) ?_
    subst hf
    exact x_zret E hw (xz_n (by decide)) dX6_has_13
theorem z_X6_has {x0 : Int32} {x1 : Int32} : xz (f_X6_has x0 x1) = true := by
  unfold f_X6_has
  first | (repeat' split) <;> first | decide

def f_X6_lowest (x0 : Int32) : (Int32) :=
  (f_J6_bitCount_0f7a4 ((x0 &&& (-x0)) - 1))
set_option maxHeartbeats 4000000 in
set_option maxRecDepth 100000 in
theorem c_X6_lowest {l : Launch} {D : va_G} {cI cZ cN cC : ClassId}  {x0 : Int32} {res : Int32} (hf : f_X6_lowest x0 = res) : xMet l D (xtys cI cZ cN cC) yX6_lowest cX6_lowest 1 (some .int) 1 20 [.int x0] ([] : va_W) ([] : va_W) (some (.int res)) := by
  refine x_enter (by decide) (Nat.le_of_ble_eq_true rfl) ?_
  intro p e s m args below meth c E ls hl hw
  have E : xE p s m args meth c cX6_lowest 1 (some .int) RX6 D (xtys cI cZ cN cC) := E
  obtain ⟨hx, hb, -⟩ := id E
  have hl : lv_has ls 1 [(0, .int x0)] := hl
  unfold f_X6_lowest at hf
  refine lv_iload_n hx hb dX6_lowest_0 rfl (lv_at hl 0 rfl) ?_
  refine lv_iload_n hx hb dX6_lowest_1 rfl (lv_at hl 0 rfl) ?_
  refine lv_ineg hx hb dX6_lowest_2 ?_
  refine lv_iand hx hb dX6_lowest_3 ?_
  refine lv_iconst (v := 1) hx hb dX6_lowest_4 (by decide) ?_
  refine lv_isub hx hb dX6_lowest_5 ?_
  refine x_callS (isC := []) (ws' := ([] : va_W)) (st1 := [.int (f_J6_bitCount_0f7a4 ((x0 &&& (-x0)) - 1))]) (As := [.int ((x0 &&& (-x0)) - 1)]) (rest := []) E hw vc_X6_248 (c_J6_bitCount_0f7a4 (cI := cI) (cZ := cZ) (cN := cN) (cC := cC)    (x0 := ((x0 &&& (-x0)) - 1)) rfl) rfl rfl rfl rfl rfl rfl ⟨Nat.le_of_ble_eq_true rfl, Nat.le_of_ble_eq_true rfl⟩ ⟨Nat.le_refl _, Nat.le_refl _⟩ hl.1 rfl rfl (Nat.le_of_ble_eq_true rfl) dX6_lowest_6 (fun H locs hw => ?_)
  subst hf
  exact x_iret E hw dX6_lowest_9

def f_X6_tell (x0 : Int32) (x1 : Int32) : (Int32) :=
  ((10 * x0) + x1)
set_option maxHeartbeats 4000000 in
set_option maxRecDepth 100000 in
theorem c_X6_tell {l : Launch} {D : va_G} {cI cZ cN cC : ClassId}  {x0 : Int32} {x1 : Int32} {res : Int32} (hf : f_X6_tell x0 x1 = res) : xMet l D (xtys cI cZ cN cC) yX6_tell cX6_tell 2 (some .int) 0 0 [.int x0, .int x1] ([] : va_W) ([] : va_W) (some (.int res)) := by
  refine x_enter (by decide) (Nat.le_of_ble_eq_true rfl) ?_
  intro p e s m args below meth c E ls hl hw
  have E : xE p s m args meth c cX6_tell 2 (some .int) RX6 D (xtys cI cZ cN cC) := E
  obtain ⟨hx, hb, -⟩ := id E
  have hl : lv_has ls 2 [(0, .int x0), (1, .int x1)] := hl
  unfold f_X6_tell at hf
  refine lv_bipush (v := 10) hx hb dX6_tell_0 (by decide) ?_
  refine lv_iload_n hx hb dX6_tell_2 rfl (lv_at hl 0 rfl) ?_
  refine lv_imul hx hb dX6_tell_3 ?_
  refine lv_iload_n hx hb dX6_tell_4 rfl (lv_at hl 1 rfl) ?_
  refine lv_iadd hx hb dX6_tell_5 ?_
  subst hf
  exact x_iret E hw dX6_tell_6

def f_X6_isChain (x0 : Int32) : (Int32) :=
  if x0 < 0 then
   0
  else
   if 3 ≤ x0 then
    0
   else
    1
set_option maxHeartbeats 4000000 in
set_option maxRecDepth 100000 in
theorem c_X6_isChain {l : Launch} {D : va_G} {cI cZ cN cC : ClassId}  {x0 : Int32} {res : Int32} (hf : f_X6_isChain x0 = res) : xMet l D (xtys cI cZ cN cC) yX6_isChain cX6_isChain 1 (some .boolean) 0 0 [.int x0] ([] : va_W) ([] : va_W) (some (.int res)) := by
  refine x_enter (by decide) (Nat.le_of_ble_eq_true rfl) ?_
  intro p e s m args below meth c E ls hl hw
  have E : xE p s m args meth c cX6_isChain 1 (some .boolean) RX6 D (xtys cI cZ cN cC) := E
  obtain ⟨hx, hb, -⟩ := id E
  have hl : lv_has ls 1 [(0, .int x0)] := hl
  unfold f_X6_isChain at hf
  refine lv_iload_n hx hb dX6_isChain_0 rfl (lv_at hl 0 rfl) ?_
  refine lv_if_lt (tgt := 13) hx hb dX6_isChain_1 (by decide) (fun c1 => ?_) (fun c1 => ?_)
  · rw [if_pos c1] at hf
    refine lv_iconst (v := 0) hx hb dX6_isChain_13 (by decide) ?_
    subst hf
    exact x_zret E hw (xz_n (by decide)) dX6_isChain_14
  · rw [if_neg c1] at hf
    refine lv_iload_n hx hb dX6_isChain_4 rfl (lv_at hl 0 rfl) ?_
    refine lv_iconst (v := 3) hx hb dX6_isChain_5 (by decide) ?_
    refine lv_icmp_ge (tgt := 13) hx hb dX6_isChain_6 (by decide) (fun c2 => ?_) (fun c2 => ?_)
    · rw [if_pos c2] at hf
      refine lv_iconst (v := 0) hx hb dX6_isChain_13 (by decide) ?_
      subst hf
      exact x_zret E hw (xz_n (by decide)) dX6_isChain_14
    · rw [if_neg c2] at hf
      refine lv_iconst (v := 1) hx hb dX6_isChain_9 (by decide) ?_
      refine lv_goto (tgt := 14) hx hb dX6_isChain_10 (by decide) ?_
      subst hf
      exact x_zret E hw (xz_n (by decide)) dX6_isChain_14
theorem z_X6_isChain {x0 : Int32} : xz (f_X6_isChain x0) = true := by
  unfold f_X6_isChain
  first | (repeat' split) <;> first | decide

def f_J7_fill_53178_5 (x1 : Int32) (x3 : Int32) (nn : Nat) : Nat → Int32 → (Nat → Int32) → Option ((Nat → Int32))
  | 0, _, _ => none
  | n + 1, x2, arr =>
    if x3 ≤ x2 then
     some arr
    else
     if xin x2 nn then
     f_J7_fill_53178_5 x1 x3 nn n (x2 + 1) (upd arr (Int32.toNatClampNeg x2) x1)
     else none
set_option maxHeartbeats 4000000 in
set_option maxRecDepth 100000 in
theorem b_J7_fill_53178_5 {p : Program} {l : Launch} {e : Env} {s : State} {m : MethodId} {args : Array Value} {below : List Frame} {meth : Method} {c : Code} {D : va_G} {cI cZ cN cC : ClassId} {ws0 : va_W} {h0 : Nat} {nn : Nat} {x1 : Int32} {x3 : Int32} {res : (Nat → Int32)} (E : xE p s m args meth c cJ7_fill_53178 4 none RJ7 D (xtys cI cZ cN cC)) : ∀ (n : Nat) (x2 : Int32) (arr : (Nat → Int32)), f_J7_fill_53178_5 x1 x3 nn n x2 arr = some res → ∀ (H : Heap) (locs : List Loc) (ls : Array Slot), xw D (xA ws0) s.heap (wF cI cZ cN cC h0 nn arr) H locs → lv_has ls 4 [(0, .ref h0), (1, .int x1), (2, .int x2), (3, .int x3)] → xG p l e 0 0 s m args below meth c D ws0 (wF cI cZ cN cC h0 nn res) none H locs (F0 m 5 ls []) := by
  obtain ⟨hx, hb, -⟩ := id E
  intro n
  induction n with
  | zero =>
    intro _ _ hf
    rw [f_J7_fill_53178_5] at hf; cases hf
  | succ n ih =>
    intro x2 arr hf H locs ls hw hl
    rw [f_J7_fill_53178_5] at hf
    refine lv_iload_n hx hb dJ7_fill_53178_5 rfl (lv_at hl 2 rfl) ?_
    refine lv_iload_n hx hb dJ7_fill_53178_6 rfl (lv_at hl 3 rfl) ?_
    refine lv_icmp_ge (tgt := 20) hx hb dJ7_fill_53178_7 (by decide) (fun c1 => ?_) (fun c1 => ?_)
    · rw [if_pos c1] at hf
      cases hf
      exact x_vret E hw dJ7_fill_53178_20
    · rw [if_neg c1] at hf
      refine lv_aload_n hx hb dJ7_fill_53178_10 rfl (lv_at hl 0 rfl) ?_
      refine lv_iload_n hx hb dJ7_fill_53178_11 rfl (lv_at hl 2 rfl) ?_
      refine lv_iload_n hx hb dJ7_fill_53178_12 rfl (lv_at hl 1 rfl) ?_
      obtain ⟨g2, hf⟩ := xgd hf
      refine x_iast (ws' := (wF cI cZ cN cC h0 nn (upd arr (Int32.toNatClampNeg x2) x1))) E hw 0 0 rfl rfl (xin_vp g2) rfl dJ7_fill_53178_13 (fun H locs hw => ?_)
      refine lv_iinc (v := (x2 + 1)) (lv' := [(2, .int (x2 + 1)), (0, .ref h0), (1, .int x1), (3, .int x3)]) hx hb dJ7_fill_53178_14 hl (k := 2) rfl rfl (by decide) rfl (fun ls hl => ?_)
      refine lv_goto (tgt := 5) hx hb dJ7_fill_53178_17 (by decide) ?_
      exact ih _ _ hf _ _ _ hw (lv_sub hl [1, 2, 0, 3] rfl)
def f_J7_fill_53178 (N : Nat) (x1 : Int32) (arr : (Nat → Int32)) (nn : Nat) : Option ((Nat → Int32)) :=
  f_J7_fill_53178_5 x1 (Int32.ofNat nn) nn N 0 arr
set_option maxHeartbeats 4000000 in
set_option maxRecDepth 100000 in
theorem c_J7_fill_53178 {l : Launch} {D : va_G} {cI cZ cN cC : ClassId} {h0 : Nat} {nn : Nat} {arr : (Nat → Int32)} {x1 : Int32} {N : Nat} {res : (Nat → Int32)} (hf : f_J7_fill_53178 N x1 arr nn = some res) : xMet l D (xtys cI cZ cN cC) yJ7_fill_53178 cJ7_fill_53178 4 none 0 0 [.ref h0, .int x1] (wF cI cZ cN cC h0 nn arr) (wF cI cZ cN cC h0 nn res) none := by
  refine x_enter (by decide) (Nat.le_of_ble_eq_true rfl) ?_
  intro p e s m args below meth c E ls hl hw
  have E : xE p s m args meth c cJ7_fill_53178 4 none RJ7 D (xtys cI cZ cN cC) := E
  obtain ⟨hx, hb, -⟩ := id E
  have hl : lv_has ls 4 [(0, .ref h0), (1, .int x1)] := hl
  unfold f_J7_fill_53178 at hf
  refine lv_iconst (v := 0) hx hb dJ7_fill_53178_0 (by decide) ?_
  refine lv_istore_n (lv' := [(2, .int 0), (0, .ref h0), (1, .int x1)]) hx hb dJ7_fill_53178_1 rfl hl (by decide) rfl (fun ls hl => ?_)
  refine lv_aload_n hx hb dJ7_fill_53178_2 rfl (lv_at hl 1 rfl) ?_
  refine x_alen E hw 0 0 rfl rfl (v := (Int32.ofNat nn)) rfl dJ7_fill_53178_3 ?_
  refine lv_istore_n (lv' := [(3, .int (Int32.ofNat nn)), (2, .int 0), (0, .ref h0), (1, .int x1)]) hx hb dJ7_fill_53178_4 rfl hl (by decide) rfl (fun ls hl => ?_)
  exact b_J7_fill_53178_5 E N _ _ hf _ _ _ hw (lv_sub hl [2, 3, 1, 0] rfl)
end
section
def f_X3_allPoints (pts : Int32) : (Int32) :=
  ((1 <<< (pts &&& 31)) - 1)
set_option maxHeartbeats 4000000 in
set_option maxRecDepth 100000 in
theorem c_X3_allPoints {l : Launch} {D : va_G} {cI cZ cN cC : ClassId} {h0 h1 h2 h3 : Nat} {pts : Int32} {wrk : Int32} {out : (Nat → Int32)} {mem : (Nat → Int32)} {abv : (Nat → Int32)}  {res : Int32} (hf : f_X3_allPoints pts = res) : xMet l D (xtys cI cZ cN cC) yX3_allPoints cX3_allPoints 1 (some .int) 0 0 [.ref h0] (wNet cI cZ cN cC h0 h1 h2 h3 pts wrk out mem abv) (wNet cI cZ cN cC h0 h1 h2 h3 pts wrk out mem abv) (some (.int res)) := by
  refine x_enter (by decide) (Nat.le_of_ble_eq_true rfl) ?_
  intro p e s m args below meth c E ls hl hw
  have E : xE p s m args meth c cX3_allPoints 1 (some .int) RX3 D (xtys cI cZ cN cC) := E
  obtain ⟨hx, hb, -⟩ := id E
  have hl : lv_has ls 1 [(0, .ref h0)] := hl
  unfold f_X3_allPoints at hf
  refine lv_iconst (v := 1) hx hb dX3_allPoints_0 (by decide) ?_
  refine lv_aload_n hx hb dX3_allPoints_1 rfl (lv_at hl 0 rfl) ?_
  refine x_get E hw kin_X3 0 rfl rfl 0 (by decide) kF_X3_25 (v := .int pts) rfl dX3_allPoints_2 ?_
  refine lv_ishl hx hb dX3_allPoints_5 ?_
  refine lv_iconst (v := 1) hx hb dX3_allPoints_6 (by decide) ?_
  refine lv_isub hx hb dX3_allPoints_7 ?_
  subst hf
  exact x_iret E hw dX3_allPoints_8

def f_X3_hasArc (x1 : Int32) (x2 : Int32) (out : (Nat → Int32)) : Option (Int32) :=
  if xin x1 10 then
  some (f_X6_has (out (Int32.toNatClampNeg x1)) x2)
  else none
set_option maxHeartbeats 4000000 in
set_option maxRecDepth 100000 in
theorem c_X3_hasArc {l : Launch} {D : va_G} {cI cZ cN cC : ClassId} {h0 h1 h2 h3 : Nat} {pts : Int32} {wrk : Int32} {out : (Nat → Int32)} {mem : (Nat → Int32)} {abv : (Nat → Int32)} {x1 : Int32} {x2 : Int32} {res : Int32} (hf : f_X3_hasArc x1 x2 out = some res) : xMet l D (xtys cI cZ cN cC) yX3_hasArc cX3_hasArc 3 (some .boolean) 1 21 [.ref h0, .int x1, .int x2] (wNet cI cZ cN cC h0 h1 h2 h3 pts wrk out mem abv) (wNet cI cZ cN cC h0 h1 h2 h3 pts wrk out mem abv) (some (.int res)) := by
  refine x_enter (by decide) (Nat.le_of_ble_eq_true rfl) ?_
  intro p e s m args below meth c E ls hl hw
  have E : xE p s m args meth c cX3_hasArc 3 (some .boolean) RX3 D (xtys cI cZ cN cC) := E
  obtain ⟨hx, hb, -⟩ := id E
  have hl : lv_has ls 3 [(0, .ref h0), (1, .int x1), (2, .int x2)] := hl
  unfold f_X3_hasArc at hf
  refine lv_aload_n hx hb dX3_hasArc_0 rfl (lv_at hl 0 rfl) ?_
  refine x_get E hw kin_X3 0 rfl rfl 2 (by decide) kF_X3_9 (v := .ref h1) rfl dX3_hasArc_1 ?_
  refine lv_iload_n hx hb dX3_hasArc_4 rfl (lv_at hl 1 rfl) ?_
  obtain ⟨g1, hf⟩ := xgd hf
  refine x_iald E hw 1 0 rfl rfl (xin_vp g1) dX3_hasArc_5 ?_
  refine lv_iload_n hx hb dX3_hasArc_6 rfl (lv_at hl 2 rfl) ?_
  refine x_callN (isC := []) (ws' := (wNet cI cZ cN cC h0 h1 h2 h3 pts wrk out mem abv)) (st1 := [.int (f_X6_has (out (Int32.toNatClampNeg x1)) x2)]) (As := [.int (out (Int32.toNatClampNeg x1)), .int x2]) (rest := []) E hw vc_X3_44 (c_X6_has (cI := cI) (cZ := cZ) (cN := cN) (cC := cC)    (x0 := (out (Int32.toNatClampNeg x1))) (x1 := x2) rfl) rfl rfl rfl rfl rfl rfl ⟨Nat.le_of_ble_eq_true rfl, Nat.le_of_ble_eq_true rfl⟩ ⟨Nat.le_refl _, Nat.le_refl _⟩ hl.1 rfl rfl (Nat.le_of_ble_eq_true rfl) dX3_hasArc_7 (fun H locs hw => ?_)
  cases hf
  exact x_zret E hw (xz_n z_X6_has) dX3_hasArc_10

def f_X3_arcsBetween_5 (x1 : Int32) (x2 : Int32) (pts : Int32) (out : (Nat → Int32)) : Nat → Int32 → Int32 → Option (Int32)
  | 0, _, _ => none
  | n + 1, x3, x4 =>
    if pts ≤ x4 then
     some x3
    else
     if (f_X6_has x1 x4) = 0 then
      f_X3_arcsBetween_5 x1 x2 pts out n x3 (x4 + 1)
     else
      if xin x4 10 then
      f_X3_arcsBetween_5 x1 x2 pts out n (x3 + (f_J6_bitCount_0f7a4 ((out (Int32.toNatClampNeg x4)) &&& x2))) (x4 + 1)
      else none
set_option maxHeartbeats 4000000 in
set_option maxRecDepth 100000 in
theorem b_X3_arcsBetween_5 {p : Program} {l : Launch} {e : Env} {s : State} {m : MethodId} {args : Array Value} {below : List Frame} {meth : Method} {c : Code} {D : va_G} {cI cZ cN cC : ClassId} {ws0 : va_W} {h0 h1 h2 h3 : Nat} {x1 : Int32} {x2 : Int32} {pts : Int32} {wrk : Int32} {out : (Nat → Int32)} {mem : (Nat → Int32)} {abv : (Nat → Int32)} {res : Int32} (E : xE p s m args meth c cX3_arcsBetween 5 (some .int) RX3 D (xtys cI cZ cN cC)) : ∀ (n : Nat) (x3 : Int32) (x4 : Int32), f_X3_arcsBetween_5 x1 x2 pts out n x3 x4 = some res → ∀ (H : Heap) (locs : List Loc) (ls : Array Slot), xw D (xA ws0) s.heap (wNet cI cZ cN cC h0 h1 h2 h3 pts wrk out mem abv) H locs → lv_has ls 5 [(0, .ref h0), (1, .int x1), (2, .int x2), (3, .int x3), (4, .int x4)] → xG p l e 1 21 s m args below meth c D ws0 (wNet cI cZ cN cC h0 h1 h2 h3 pts wrk out mem abv) (some (.int res)) H locs (F0 m 5 ls []) := by
  obtain ⟨hx, hb, -⟩ := id E
  intro n
  induction n with
  | zero =>
    intro _ _ hf
    rw [f_X3_arcsBetween_5] at hf; cases hf
  | succ n ih =>
    intro x3 x4 hf H locs ls hw hl
    rw [f_X3_arcsBetween_5] at hf
    refine lv_iload hx hb dX3_arcsBetween_5 (lv_at hl 4 rfl) ?_
    refine lv_aload_n hx hb dX3_arcsBetween_7 rfl (lv_at hl 0 rfl) ?_
    refine x_get E hw kin_X3 0 rfl rfl 0 (by decide) kF_X3_25 (v := .int pts) rfl dX3_arcsBetween_8 ?_
    refine lv_icmp_ge (tgt := 44) hx hb dX3_arcsBetween_11 (by decide) (fun c1 => ?_) (fun c1 => ?_)
    · rw [if_pos c1] at hf
      refine lv_iload_n hx hb dX3_arcsBetween_44 rfl (lv_at hl 3 rfl) ?_
      cases hf
      exact x_iret E hw dX3_arcsBetween_45
    · rw [if_neg c1] at hf
      refine lv_iload_n hx hb dX3_arcsBetween_14 rfl (lv_at hl 1 rfl) ?_
      refine lv_iload hx hb dX3_arcsBetween_15 (lv_at hl 4 rfl) ?_
      refine x_callN (isC := []) (ws' := (wNet cI cZ cN cC h0 h1 h2 h3 pts wrk out mem abv)) (st1 := [.int (f_X6_has x1 x4)]) (As := [.int x1, .int x4]) (rest := []) E hw vc_X3_44 (c_X6_has (cI := cI) (cZ := cZ) (cN := cN) (cC := cC)    (x0 := x1) (x1 := x4) rfl) rfl rfl rfl rfl rfl rfl ⟨Nat.le_of_ble_eq_true rfl, Nat.le_of_ble_eq_true rfl⟩ ⟨Nat.le_refl _, Nat.le_refl _⟩ hl.1 rfl rfl (Nat.le_of_ble_eq_true rfl) dX3_arcsBetween_17 (fun H locs hw => ?_)
      refine lv_if_eq (tgt := 38) hx hb dX3_arcsBetween_20 (by decide) (fun c2 => ?_) (fun c2 => ?_)
      · rw [if_pos c2] at hf
        refine lv_iinc (v := (x4 + 1)) (lv' := [(4, .int (x4 + 1)), (0, .ref h0), (1, .int x1), (2, .int x2), (3, .int x3)]) hx hb dX3_arcsBetween_38 hl (k := 4) rfl rfl (by decide) rfl (fun ls hl => ?_)
        refine lv_goto (tgt := 5) hx hb dX3_arcsBetween_41 (by decide) ?_
        exact ih _ _ hf _ _ _ hw (lv_sub hl [1, 2, 3, 4, 0] rfl)
      · rw [if_neg c2] at hf
        refine lv_iload_n hx hb dX3_arcsBetween_23 rfl (lv_at hl 3 rfl) ?_
        refine lv_aload_n hx hb dX3_arcsBetween_24 rfl (lv_at hl 0 rfl) ?_
        refine x_get E hw kin_X3 0 rfl rfl 2 (by decide) kF_X3_9 (v := .ref h1) rfl dX3_arcsBetween_25 ?_
        refine lv_iload hx hb dX3_arcsBetween_28 (lv_at hl 4 rfl) ?_
        obtain ⟨g3, hf⟩ := xgd hf
        refine x_iald E hw 1 0 rfl rfl (xin_vp g3) dX3_arcsBetween_30 ?_
        refine lv_iload_n hx hb dX3_arcsBetween_31 rfl (lv_at hl 2 rfl) ?_
        refine lv_iand hx hb dX3_arcsBetween_32 ?_
        refine x_callS (isC := []) (ws' := (wNet cI cZ cN cC h0 h1 h2 h3 pts wrk out mem abv)) (st1 := [.int (f_J6_bitCount_0f7a4 ((out (Int32.toNatClampNeg x4)) &&& x2)), .int x3]) (As := [.int ((out (Int32.toNatClampNeg x4)) &&& x2)]) (rest := [.int x3]) E hw vc_X3_56 (c_J6_bitCount_0f7a4 (cI := cI) (cZ := cZ) (cN := cN) (cC := cC)    (x0 := ((out (Int32.toNatClampNeg x4)) &&& x2)) rfl) rfl rfl rfl rfl rfl rfl ⟨Nat.le_of_ble_eq_true rfl, Nat.le_of_ble_eq_true rfl⟩ ⟨Nat.le_refl _, Nat.le_refl _⟩ hl.1 rfl rfl (Nat.le_of_ble_eq_true rfl) dX3_arcsBetween_33 (fun H locs hw => ?_)
        refine lv_iadd hx hb dX3_arcsBetween_36 ?_
        refine lv_istore_n (lv' := [(3, .int (x3 + (f_J6_bitCount_0f7a4 ((out (Int32.toNatClampNeg x4)) &&& x2)))), (0, .ref h0), (1, .int x1), (2, .int x2), (4, .int x4)]) hx hb dX3_arcsBetween_37 rfl hl (by decide) rfl (fun ls hl => ?_)
        refine lv_iinc (v := (x4 + 1)) (lv' := [(4, .int (x4 + 1)), (3, .int (x3 + (f_J6_bitCount_0f7a4 ((out (Int32.toNatClampNeg x4)) &&& x2)))), (0, .ref h0), (1, .int x1), (2, .int x2)]) hx hb dX3_arcsBetween_38 hl (k := 4) rfl rfl (by decide) rfl (fun ls hl => ?_)
        refine lv_goto (tgt := 5) hx hb dX3_arcsBetween_41 (by decide) ?_
        exact ih _ _ hf _ _ _ hw (lv_sub hl [2, 3, 4, 1, 0] rfl)
def f_X3_arcsBetween (N : Nat) (x1 : Int32) (x2 : Int32) (pts : Int32) (out : (Nat → Int32)) : Option (Int32) :=
  f_X3_arcsBetween_5 x1 x2 pts out N 0 0
set_option maxHeartbeats 4000000 in
set_option maxRecDepth 100000 in
theorem c_X3_arcsBetween {l : Launch} {D : va_G} {cI cZ cN cC : ClassId} {h0 h1 h2 h3 : Nat} {pts : Int32} {wrk : Int32} {out : (Nat → Int32)} {mem : (Nat → Int32)} {abv : (Nat → Int32)} {x1 : Int32} {x2 : Int32} {N : Nat} {res : Int32} (hf : f_X3_arcsBetween N x1 x2 pts out = some res) : xMet l D (xtys cI cZ cN cC) yX3_arcsBetween cX3_arcsBetween 5 (some .int) 1 21 [.ref h0, .int x1, .int x2] (wNet cI cZ cN cC h0 h1 h2 h3 pts wrk out mem abv) (wNet cI cZ cN cC h0 h1 h2 h3 pts wrk out mem abv) (some (.int res)) := by
  refine x_enter (by decide) (Nat.le_of_ble_eq_true rfl) ?_
  intro p e s m args below meth c E ls hl hw
  have E : xE p s m args meth c cX3_arcsBetween 5 (some .int) RX3 D (xtys cI cZ cN cC) := E
  obtain ⟨hx, hb, -⟩ := id E
  have hl : lv_has ls 5 [(0, .ref h0), (1, .int x1), (2, .int x2)] := hl
  unfold f_X3_arcsBetween at hf
  refine lv_iconst (v := 0) hx hb dX3_arcsBetween_0 (by decide) ?_
  refine lv_istore_n (lv' := [(3, .int 0), (0, .ref h0), (1, .int x1), (2, .int x2)]) hx hb dX3_arcsBetween_1 rfl hl (by decide) rfl (fun ls hl => ?_)
  refine lv_iconst (v := 0) hx hb dX3_arcsBetween_2 (by decide) ?_
  refine lv_istore (lv' := [(4, .int 0), (3, .int 0), (0, .ref h0), (1, .int x1), (2, .int x2)]) hx hb dX3_arcsBetween_3 hl (by decide) rfl (fun ls hl => ?_)
  exact b_X3_arcsBetween_5 E N _ _ hf _ _ _ hw (lv_sub hl [2, 3, 4, 1, 0] rfl)

def f_X3_arcs (N : Nat) (pts : Int32) (out : (Nat → Int32)) : Option (Int32) :=
  (f_X3_arcsBetween N (f_X3_allPoints pts) (f_X3_allPoints pts) pts out).bind fun q1 =>
  some q1
set_option maxHeartbeats 4000000 in
set_option maxRecDepth 100000 in
theorem c_X3_arcs {l : Launch} {D : va_G} {cI cZ cN cC : ClassId} {h0 h1 h2 h3 : Nat} {pts : Int32} {wrk : Int32} {out : (Nat → Int32)} {mem : (Nat → Int32)} {abv : (Nat → Int32)}  {N : Nat} {res : Int32} (hf : f_X3_arcs N pts out = some res) : xMet l D (xtys cI cZ cN cC) yX3_arcs cX3_arcs 1 (some .int) 2 45 [.ref h0] (wNet cI cZ cN cC h0 h1 h2 h3 pts wrk out mem abv) (wNet cI cZ cN cC h0 h1 h2 h3 pts wrk out mem abv) (some (.int res)) := by
  refine x_enter (by decide) (Nat.le_of_ble_eq_true rfl) ?_
  intro p e s m args below meth c E ls hl hw
  have E : xE p s m args meth c cX3_arcs 1 (some .int) RX3 D (xtys cI cZ cN cC) := E
  obtain ⟨hx, hb, -⟩ := id E
  have hl : lv_has ls 1 [(0, .ref h0)] := hl
  unfold f_X3_arcs at hf
  refine lv_aload_n hx hb dX3_arcs_0 rfl (lv_at hl 0 rfl) ?_
  refine lv_aload_n hx hb dX3_arcs_1 rfl (lv_at hl 0 rfl) ?_
  refine x_callV (isC := [0, 1, 2, 3]) (ws' := (wNet cI cZ cN cC h0 h1 h2 h3 pts wrk out mem abv)) (st1 := [.int (f_X3_allPoints pts), .ref h0]) (As := []) (rest := [.ref h0]) E hw vc_X3_48 (c_X3_allPoints (cI := cI) (cZ := cZ) (cN := cN) (cC := cC) (h0 := h0) (h1 := h1) (h2 := h2) (h3 := h3)  (pts := pts) (wrk := wrk) (out := out) (mem := mem) (abv := abv)  rfl) 0 3 rfl rfl rfl rfl rfl rfl rfl rfl rfl ⟨Nat.le_of_ble_eq_true rfl, Nat.le_of_ble_eq_true rfl⟩ ⟨Nat.le_refl _, Nat.le_refl _⟩ hl.1 rfl rfl (Nat.le_of_ble_eq_true rfl) dX3_arcs_2 (fun H locs hw => ?_)
  refine lv_aload_n hx hb dX3_arcs_5 rfl (lv_at hl 0 rfl) ?_
  refine x_callV (isC := [0, 1, 2, 3]) (ws' := (wNet cI cZ cN cC h0 h1 h2 h3 pts wrk out mem abv)) (st1 := [.int (f_X3_allPoints pts), .int (f_X3_allPoints pts), .ref h0]) (As := []) (rest := [.int (f_X3_allPoints pts), .ref h0]) E hw vc_X3_48 (c_X3_allPoints (cI := cI) (cZ := cZ) (cN := cN) (cC := cC) (h0 := h0) (h1 := h1) (h2 := h2) (h3 := h3)  (pts := pts) (wrk := wrk) (out := out) (mem := mem) (abv := abv)  rfl) 0 3 rfl rfl rfl rfl rfl rfl rfl rfl rfl ⟨Nat.le_of_ble_eq_true rfl, Nat.le_of_ble_eq_true rfl⟩ ⟨Nat.le_refl _, Nat.le_refl _⟩ hl.1 rfl rfl (Nat.le_of_ble_eq_true rfl) dX3_arcs_6 (fun H locs hw => ?_)
  obtain ⟨q1, hq1, hf⟩ := Option.bind_eq_some_iff.mp hf
  refine x_callV (isC := [0, 1, 2, 3]) (ws' := (wNet cI cZ cN cC h0 h1 h2 h3 pts wrk out mem abv)) (st1 := [.int q1]) (As := [.int (f_X3_allPoints pts), .int (f_X3_allPoints pts)]) (rest := []) E hw vc_X3_52 (c_X3_arcsBetween (cI := cI) (cZ := cZ) (cN := cN) (cC := cC) (h0 := h0) (h1 := h1) (h2 := h2) (h3 := h3)  (pts := pts) (wrk := wrk) (out := out) (mem := mem) (abv := abv) (x1 := (f_X3_allPoints pts)) (x2 := (f_X3_allPoints pts)) hq1) 0 3 rfl rfl rfl rfl rfl rfl rfl rfl rfl ⟨Nat.le_of_ble_eq_true rfl, Nat.le_of_ble_eq_true rfl⟩ ⟨Nat.le_refl _, Nat.le_refl _⟩ hl.1 rfl rfl (Nat.le_of_ble_eq_true rfl) dX3_arcs_9 (fun H locs hw => ?_)
  cases hf
  exact x_iret E hw dX3_arcs_12

def f_X3_comesTo (x1 : Int32) (x2 : Int32) (mem : (Nat → Int32)) : Option (Int32) :=
  if xin x1 10 then
  some (f_X6_has (mem (Int32.toNatClampNeg x1)) x2)
  else none
set_option maxHeartbeats 4000000 in
set_option maxRecDepth 100000 in
theorem c_X3_comesTo {l : Launch} {D : va_G} {cI cZ cN cC : ClassId} {h0 h1 h2 h3 : Nat} {pts : Int32} {wrk : Int32} {out : (Nat → Int32)} {mem : (Nat → Int32)} {abv : (Nat → Int32)} {x1 : Int32} {x2 : Int32} {res : Int32} (hf : f_X3_comesTo x1 x2 mem = some res) : xMet l D (xtys cI cZ cN cC) yX3_comesTo cX3_comesTo 3 (some .boolean) 1 21 [.ref h0, .int x1, .int x2] (wNet cI cZ cN cC h0 h1 h2 h3 pts wrk out mem abv) (wNet cI cZ cN cC h0 h1 h2 h3 pts wrk out mem abv) (some (.int res)) := by
  refine x_enter (by decide) (Nat.le_of_ble_eq_true rfl) ?_
  intro p e s m args below meth c E ls hl hw
  have E : xE p s m args meth c cX3_comesTo 3 (some .boolean) RX3 D (xtys cI cZ cN cC) := E
  obtain ⟨hx, hb, -⟩ := id E
  have hl : lv_has ls 3 [(0, .ref h0), (1, .int x1), (2, .int x2)] := hl
  unfold f_X3_comesTo at hf
  refine lv_aload_n hx hb dX3_comesTo_0 rfl (lv_at hl 0 rfl) ?_
  refine x_get E hw kin_X3 0 rfl rfl 3 (by decide) kF_X3_15 (v := .ref h2) rfl dX3_comesTo_1 ?_
  refine lv_iload_n hx hb dX3_comesTo_4 rfl (lv_at hl 1 rfl) ?_
  obtain ⟨g1, hf⟩ := xgd hf
  refine x_iald E hw 2 0 rfl rfl (xin_vp g1) dX3_comesTo_5 ?_
  refine lv_iload_n hx hb dX3_comesTo_6 rfl (lv_at hl 2 rfl) ?_
  refine x_callN (isC := []) (ws' := (wNet cI cZ cN cC h0 h1 h2 h3 pts wrk out mem abv)) (st1 := [.int (f_X6_has (mem (Int32.toNatClampNeg x1)) x2)]) (As := [.int (mem (Int32.toNatClampNeg x1)), .int x2]) (rest := []) E hw vc_X3_44 (c_X6_has (cI := cI) (cZ := cZ) (cN := cN) (cC := cC)    (x0 := (mem (Int32.toNatClampNeg x1))) (x1 := x2) rfl) rfl rfl rfl rfl rfl rfl ⟨Nat.le_of_ble_eq_true rfl, Nat.le_of_ble_eq_true rfl⟩ ⟨Nat.le_refl _, Nat.le_refl _⟩ hl.1 rfl rfl (Nat.le_of_ble_eq_true rfl) dX3_comesTo_7 (fun H locs hw => ?_)
  cases hf
  exact x_zret E hw (xz_n z_X6_has) dX3_comesTo_10

def f_X3_pairs_4 (pts : Int32) (mem : (Nat → Int32)) : Nat → Int32 → Int32 → Option (Int32)
  | 0, _, _ => none
  | n + 1, x1, x2 =>
    if pts ≤ x2 then
     some x1
    else
     if xin x2 10 then
     f_X3_pairs_4 pts mem n (x1 + ((f_J6_bitCount_0f7a4 (mem (Int32.toNatClampNeg x2))) - 1)) (x2 + 1)
     else none
set_option maxHeartbeats 4000000 in
set_option maxRecDepth 100000 in
theorem b_X3_pairs_4 {p : Program} {l : Launch} {e : Env} {s : State} {m : MethodId} {args : Array Value} {below : List Frame} {meth : Method} {c : Code} {D : va_G} {cI cZ cN cC : ClassId} {ws0 : va_W} {h0 h1 h2 h3 : Nat} {pts : Int32} {wrk : Int32} {out : (Nat → Int32)} {mem : (Nat → Int32)} {abv : (Nat → Int32)} {res : Int32} (E : xE p s m args meth c cX3_pairs 3 (some .int) RX3 D (xtys cI cZ cN cC)) : ∀ (n : Nat) (x1 : Int32) (x2 : Int32), f_X3_pairs_4 pts mem n x1 x2 = some res → ∀ (H : Heap) (locs : List Loc) (ls : Array Slot), xw D (xA ws0) s.heap (wNet cI cZ cN cC h0 h1 h2 h3 pts wrk out mem abv) H locs → lv_has ls 3 [(0, .ref h0), (1, .int x1), (2, .int x2)] → xG p l e 1 20 s m args below meth c D ws0 (wNet cI cZ cN cC h0 h1 h2 h3 pts wrk out mem abv) (some (.int res)) H locs (F0 m 4 ls []) := by
  obtain ⟨hx, hb, -⟩ := id E
  intro n
  induction n with
  | zero =>
    intro _ _ hf
    rw [f_X3_pairs_4] at hf; cases hf
  | succ n ih =>
    intro x1 x2 hf H locs ls hw hl
    rw [f_X3_pairs_4] at hf
    refine lv_iload_n hx hb dX3_pairs_4 rfl (lv_at hl 2 rfl) ?_
    refine lv_aload_n hx hb dX3_pairs_5 rfl (lv_at hl 0 rfl) ?_
    refine x_get E hw kin_X3 0 rfl rfl 0 (by decide) kF_X3_25 (v := .int pts) rfl dX3_pairs_6 ?_
    refine lv_icmp_ge (tgt := 32) hx hb dX3_pairs_9 (by decide) (fun c1 => ?_) (fun c1 => ?_)
    · rw [if_pos c1] at hf
      refine lv_iload_n hx hb dX3_pairs_32 rfl (lv_at hl 1 rfl) ?_
      cases hf
      exact x_iret E hw dX3_pairs_33
    · rw [if_neg c1] at hf
      refine lv_iload_n hx hb dX3_pairs_12 rfl (lv_at hl 1 rfl) ?_
      refine lv_aload_n hx hb dX3_pairs_13 rfl (lv_at hl 0 rfl) ?_
      refine x_get E hw kin_X3 0 rfl rfl 3 (by decide) kF_X3_15 (v := .ref h2) rfl dX3_pairs_14 ?_
      refine lv_iload_n hx hb dX3_pairs_17 rfl (lv_at hl 2 rfl) ?_
      obtain ⟨g2, hf⟩ := xgd hf
      refine x_iald E hw 2 0 rfl rfl (xin_vp g2) dX3_pairs_18 ?_
      refine x_callS (isC := []) (ws' := (wNet cI cZ cN cC h0 h1 h2 h3 pts wrk out mem abv)) (st1 := [.int (f_J6_bitCount_0f7a4 (mem (Int32.toNatClampNeg x2))), .int x1]) (As := [.int (mem (Int32.toNatClampNeg x2))]) (rest := [.int x1]) E hw vc_X3_56 (c_J6_bitCount_0f7a4 (cI := cI) (cZ := cZ) (cN := cN) (cC := cC)    (x0 := (mem (Int32.toNatClampNeg x2))) rfl) rfl rfl rfl rfl rfl rfl ⟨Nat.le_of_ble_eq_true rfl, Nat.le_of_ble_eq_true rfl⟩ ⟨Nat.le_refl _, Nat.le_refl _⟩ hl.1 rfl rfl (Nat.le_of_ble_eq_true rfl) dX3_pairs_19 (fun H locs hw => ?_)
      refine lv_iconst (v := 1) hx hb dX3_pairs_22 (by decide) ?_
      refine lv_isub hx hb dX3_pairs_23 ?_
      refine lv_iadd hx hb dX3_pairs_24 ?_
      refine lv_istore_n (lv' := [(1, .int (x1 + ((f_J6_bitCount_0f7a4 (mem (Int32.toNatClampNeg x2))) - 1))), (0, .ref h0), (2, .int x2)]) hx hb dX3_pairs_25 rfl hl (by decide) rfl (fun ls hl => ?_)
      refine lv_iinc (v := (x2 + 1)) (lv' := [(2, .int (x2 + 1)), (1, .int (x1 + ((f_J6_bitCount_0f7a4 (mem (Int32.toNatClampNeg x2))) - 1))), (0, .ref h0)]) hx hb dX3_pairs_26 hl (k := 2) rfl rfl (by decide) rfl (fun ls hl => ?_)
      refine lv_goto (tgt := 4) hx hb dX3_pairs_29 (by decide) ?_
      exact ih _ _ hf _ _ _ hw (lv_sub hl [2, 1, 0] rfl)
def f_X3_pairs (N : Nat) (pts : Int32) (mem : (Nat → Int32)) : Option (Int32) :=
  f_X3_pairs_4 pts mem N 0 0
set_option maxHeartbeats 4000000 in
set_option maxRecDepth 100000 in
theorem c_X3_pairs {l : Launch} {D : va_G} {cI cZ cN cC : ClassId} {h0 h1 h2 h3 : Nat} {pts : Int32} {wrk : Int32} {out : (Nat → Int32)} {mem : (Nat → Int32)} {abv : (Nat → Int32)}  {N : Nat} {res : Int32} (hf : f_X3_pairs N pts mem = some res) : xMet l D (xtys cI cZ cN cC) yX3_pairs cX3_pairs 3 (some .int) 1 20 [.ref h0] (wNet cI cZ cN cC h0 h1 h2 h3 pts wrk out mem abv) (wNet cI cZ cN cC h0 h1 h2 h3 pts wrk out mem abv) (some (.int res)) := by
  refine x_enter (by decide) (Nat.le_of_ble_eq_true rfl) ?_
  intro p e s m args below meth c E ls hl hw
  have E : xE p s m args meth c cX3_pairs 3 (some .int) RX3 D (xtys cI cZ cN cC) := E
  obtain ⟨hx, hb, -⟩ := id E
  have hl : lv_has ls 3 [(0, .ref h0)] := hl
  unfold f_X3_pairs at hf
  refine lv_iconst (v := 0) hx hb dX3_pairs_0 (by decide) ?_
  refine lv_istore_n (lv' := [(1, .int 0), (0, .ref h0)]) hx hb dX3_pairs_1 rfl hl (by decide) rfl (fun ls hl => ?_)
  refine lv_iconst (v := 0) hx hb dX3_pairs_2 (by decide) ?_
  refine lv_istore_n (lv' := [(2, .int 0), (1, .int 0), (0, .ref h0)]) hx hb dX3_pairs_3 rfl hl (by decide) rfl (fun ls hl => ?_)
  exact b_X3_pairs_4 E N _ _ hf _ _ _ hw (lv_sub hl [2, 1, 0] rfl)

def f_X3_aboveOf (x1 : Int32) (x2 : Int32) (abv : (Nat → Int32)) : Option (Int32) :=
  if xin ((x1 * 10) + x2) 100 then
  some (abv (Int32.toNatClampNeg ((x1 * 10) + x2)))
  else none
set_option maxHeartbeats 4000000 in
set_option maxRecDepth 100000 in
theorem c_X3_aboveOf {l : Launch} {D : va_G} {cI cZ cN cC : ClassId} {h0 h1 h2 h3 : Nat} {pts : Int32} {wrk : Int32} {out : (Nat → Int32)} {mem : (Nat → Int32)} {abv : (Nat → Int32)} {x1 : Int32} {x2 : Int32} {res : Int32} (hf : f_X3_aboveOf x1 x2 abv = some res) : xMet l D (xtys cI cZ cN cC) yX3_aboveOf cX3_aboveOf 3 (some .int) 0 0 [.ref h0, .int x1, .int x2] (wNet cI cZ cN cC h0 h1 h2 h3 pts wrk out mem abv) (wNet cI cZ cN cC h0 h1 h2 h3 pts wrk out mem abv) (some (.int res)) := by
  refine x_enter (by decide) (Nat.le_of_ble_eq_true rfl) ?_
  intro p e s m args below meth c E ls hl hw
  have E : xE p s m args meth c cX3_aboveOf 3 (some .int) RX3 D (xtys cI cZ cN cC) := E
  obtain ⟨hx, hb, -⟩ := id E
  have hl : lv_has ls 3 [(0, .ref h0), (1, .int x1), (2, .int x2)] := hl
  unfold f_X3_aboveOf at hf
  refine lv_aload_n hx hb dX3_aboveOf_0 rfl (lv_at hl 0 rfl) ?_
  refine x_get E hw kin_X3 0 rfl rfl 4 (by decide) kF_X3_18 (v := .ref h3) rfl dX3_aboveOf_1 ?_
  refine lv_iload_n hx hb dX3_aboveOf_4 rfl (lv_at hl 1 rfl) ?_
  refine lv_bipush (v := 10) hx hb dX3_aboveOf_5 (by decide) ?_
  refine lv_imul hx hb dX3_aboveOf_7 ?_
  refine lv_iload_n hx hb dX3_aboveOf_8 rfl (lv_at hl 2 rfl) ?_
  refine lv_iadd hx hb dX3_aboveOf_9 ?_
  obtain ⟨g1, hf⟩ := xgd hf
  refine x_iald E hw 3 0 rfl rfl (xin_vp g1) dX3_aboveOf_10 ?_
  cases hf
  exact x_iret E hw dX3_aboveOf_11

def f_X3_depthOf_5 (x1 : Int32) (abv : (Nat → Int32)) : Nat → Int32 → Int32 → Option (Int32)
  | 0, _, _ => none
  | n + 1, x3, x4 =>
    if x4 = x1 then
     some x3
    else
     if x4 = (-1) then
      some x3
     else
      if 10 ≤ x3 then
       some x3
      else
       (f_X3_aboveOf x1 x4 abv).bind fun q4 =>
       f_X3_depthOf_5 x1 abv n (x3 + 1) q4
set_option maxHeartbeats 4000000 in
set_option maxRecDepth 100000 in
theorem b_X3_depthOf_5 {p : Program} {l : Launch} {e : Env} {s : State} {m : MethodId} {args : Array Value} {below : List Frame} {meth : Method} {c : Code} {D : va_G} {cI cZ cN cC : ClassId} {ws0 : va_W} {h0 h1 h2 h3 : Nat} {x1 : Int32} {pts : Int32} {wrk : Int32} {out : (Nat → Int32)} {mem : (Nat → Int32)} {abv : (Nat → Int32)} {res : Int32} (E : xE p s m args meth c cX3_depthOf 5 (some .int) RX3 D (xtys cI cZ cN cC)) : ∀ (n : Nat) (x3 : Int32) (x4 : Int32), f_X3_depthOf_5 x1 abv n x3 x4 = some res → ∀ (H : Heap) (locs : List Loc) (ls : Array Slot), xw D (xA ws0) s.heap (wNet cI cZ cN cC h0 h1 h2 h3 pts wrk out mem abv) H locs → lv_has ls 5 [(0, .ref h0), (1, .int x1), (3, .int x3), (4, .int x4)] → xG p l e 1 22 s m args below meth c D ws0 (wNet cI cZ cN cC h0 h1 h2 h3 pts wrk out mem abv) (some (.int res)) H locs (F0 m 5 ls []) := by
  obtain ⟨hx, hb, -⟩ := id E
  intro n
  induction n with
  | zero =>
    intro _ _ hf
    rw [f_X3_depthOf_5] at hf; cases hf
  | succ n ih =>
    intro x3 x4 hf H locs ls hw hl
    rw [f_X3_depthOf_5] at hf
    refine lv_iload hx hb dX3_depthOf_5 (lv_at hl 3 rfl) ?_
    refine lv_iload_n hx hb dX3_depthOf_7 rfl (lv_at hl 1 rfl) ?_
    refine lv_icmp_eq (tgt := 38) hx hb dX3_depthOf_8 (by decide) (fun c1 => ?_) (fun c1 => ?_)
    · rw [if_pos c1] at hf
      refine lv_iload_n hx hb dX3_depthOf_38 rfl (lv_at hl 2 rfl) ?_
      cases hf
      exact x_iret E hw dX3_depthOf_39
    · rw [if_neg c1] at hf
      refine lv_iload hx hb dX3_depthOf_11 (lv_at hl 3 rfl) ?_
      refine lv_iconst (v := (-1)) hx hb dX3_depthOf_13 (by decide) ?_
      refine lv_icmp_eq (tgt := 38) hx hb dX3_depthOf_14 (by decide) (fun c2 => ?_) (fun c2 => ?_)
      · rw [if_pos c2] at hf
        refine lv_iload_n hx hb dX3_depthOf_38 rfl (lv_at hl 2 rfl) ?_
        cases hf
        exact x_iret E hw dX3_depthOf_39
      · rw [if_neg c2] at hf
        refine lv_iload_n hx hb dX3_depthOf_17 rfl (lv_at hl 2 rfl) ?_
        refine lv_bipush (v := 10) hx hb dX3_depthOf_18 (by decide) ?_
        refine lv_icmp_ge (tgt := 38) hx hb dX3_depthOf_20 (by decide) (fun c3 => ?_) (fun c3 => ?_)
        · rw [if_pos c3] at hf
          refine lv_iload_n hx hb dX3_depthOf_38 rfl (lv_at hl 2 rfl) ?_
          cases hf
          exact x_iret E hw dX3_depthOf_39
        · rw [if_neg c3] at hf
          refine lv_aload_n hx hb dX3_depthOf_23 rfl (lv_at hl 0 rfl) ?_
          refine lv_iload_n hx hb dX3_depthOf_24 rfl (lv_at hl 1 rfl) ?_
          refine lv_iload hx hb dX3_depthOf_25 (lv_at hl 3 rfl) ?_
          obtain ⟨q4, hq4, hf⟩ := Option.bind_eq_some_iff.mp hf
          refine x_callV (isC := [0, 1, 2, 3]) (ws' := (wNet cI cZ cN cC h0 h1 h2 h3 pts wrk out mem abv)) (st1 := [.int q4]) (As := [.int x1, .int x4]) (rest := []) E hw vc_X3_62 (c_X3_aboveOf (cI := cI) (cZ := cZ) (cN := cN) (cC := cC) (h0 := h0) (h1 := h1) (h2 := h2) (h3 := h3)  (pts := pts) (wrk := wrk) (out := out) (mem := mem) (abv := abv) (x1 := x1) (x2 := x4) hq4) 0 3 rfl rfl rfl rfl rfl rfl rfl rfl rfl ⟨Nat.le_of_ble_eq_true rfl, Nat.le_of_ble_eq_true rfl⟩ ⟨Nat.le_refl _, Nat.le_refl _⟩ hl.1 rfl rfl (Nat.le_of_ble_eq_true rfl) dX3_depthOf_27 (fun H locs hw => ?_)
          refine lv_istore (lv' := [(4, .int q4), (0, .ref h0), (1, .int x1), (3, .int x3)]) hx hb dX3_depthOf_30 hl (by decide) rfl (fun ls hl => ?_)
          refine lv_iinc (v := (x3 + 1)) (lv' := [(3, .int (x3 + 1)), (4, .int q4), (0, .ref h0), (1, .int x1)]) hx hb dX3_depthOf_32 hl (k := 3) rfl rfl (by decide) rfl (fun ls hl => ?_)
          refine lv_goto (tgt := 5) hx hb dX3_depthOf_35 (by decide) ?_
          exact ih _ _ hf _ _ _ hw (lv_sub hl [2, 3, 0, 1] rfl)
def f_X3_depthOf (N : Nat) (x1 : Int32) (x2 : Int32) (abv : (Nat → Int32)) : Option (Int32) :=
  f_X3_depthOf_5 x1 abv N 0 x2
set_option maxHeartbeats 4000000 in
set_option maxRecDepth 100000 in
theorem c_X3_depthOf {l : Launch} {D : va_G} {cI cZ cN cC : ClassId} {h0 h1 h2 h3 : Nat} {pts : Int32} {wrk : Int32} {out : (Nat → Int32)} {mem : (Nat → Int32)} {abv : (Nat → Int32)} {x1 : Int32} {x2 : Int32} {N : Nat} {res : Int32} (hf : f_X3_depthOf N x1 x2 abv = some res) : xMet l D (xtys cI cZ cN cC) yX3_depthOf cX3_depthOf 5 (some .int) 1 22 [.ref h0, .int x1, .int x2] (wNet cI cZ cN cC h0 h1 h2 h3 pts wrk out mem abv) (wNet cI cZ cN cC h0 h1 h2 h3 pts wrk out mem abv) (some (.int res)) := by
  refine x_enter (by decide) (Nat.le_of_ble_eq_true rfl) ?_
  intro p e s m args below meth c E ls hl hw
  have E : xE p s m args meth c cX3_depthOf 5 (some .int) RX3 D (xtys cI cZ cN cC) := E
  obtain ⟨hx, hb, -⟩ := id E
  have hl : lv_has ls 5 [(0, .ref h0), (1, .int x1), (2, .int x2)] := hl
  unfold f_X3_depthOf at hf
  refine lv_iconst (v := 0) hx hb dX3_depthOf_0 (by decide) ?_
  refine lv_istore_n (lv' := [(3, .int 0), (0, .ref h0), (1, .int x1), (2, .int x2)]) hx hb dX3_depthOf_1 rfl hl (by decide) rfl (fun ls hl => ?_)
  refine lv_iload_n hx hb dX3_depthOf_2 rfl (lv_at hl 3 rfl) ?_
  refine lv_istore (lv' := [(4, .int x2), (3, .int 0), (0, .ref h0), (1, .int x1), (2, .int x2)]) hx hb dX3_depthOf_3 hl (by decide) rfl (fun ls hl => ?_)
  exact b_X3_depthOf_5 E N _ _ hf _ _ _ hw (lv_sub hl [2, 3, 1, 0] rfl)

def f_X3_climb_6 (x1 : Int32) (x3 : Int32) (abv : (Nat → Int32)) : Nat → Int32 → Int32 → Option (Int32)
  | 0, _, _ => none
  | n + 1, x4, x5 =>
    if x3 ≤ x5 then
     some x4
    else
     if x4 = (-1) then
      some x4
     else
      (f_X3_aboveOf x1 x4 abv).bind fun q3 =>
      f_X3_climb_6 x1 x3 abv n q3 (x5 + 1)
set_option maxHeartbeats 4000000 in
set_option maxRecDepth 100000 in
theorem b_X3_climb_6 {p : Program} {l : Launch} {e : Env} {s : State} {m : MethodId} {args : Array Value} {below : List Frame} {meth : Method} {c : Code} {D : va_G} {cI cZ cN cC : ClassId} {ws0 : va_W} {h0 h1 h2 h3 : Nat} {x1 : Int32} {x3 : Int32} {pts : Int32} {wrk : Int32} {out : (Nat → Int32)} {mem : (Nat → Int32)} {abv : (Nat → Int32)} {res : Int32} (E : xE p s m args meth c cX3_climb 6 (some .int) RX3 D (xtys cI cZ cN cC)) : ∀ (n : Nat) (x4 : Int32) (x5 : Int32), f_X3_climb_6 x1 x3 abv n x4 x5 = some res → ∀ (H : Heap) (locs : List Loc) (ls : Array Slot), xw D (xA ws0) s.heap (wNet cI cZ cN cC h0 h1 h2 h3 pts wrk out mem abv) H locs → lv_has ls 6 [(0, .ref h0), (1, .int x1), (3, .int x3), (4, .int x4), (5, .int x5)] → xG p l e 1 22 s m args below meth c D ws0 (wNet cI cZ cN cC h0 h1 h2 h3 pts wrk out mem abv) (some (.int res)) H locs (F0 m 6 ls []) := by
  obtain ⟨hx, hb, -⟩ := id E
  intro n
  induction n with
  | zero =>
    intro _ _ hf
    rw [f_X3_climb_6] at hf; cases hf
  | succ n ih =>
    intro x4 x5 hf H locs ls hw hl
    rw [f_X3_climb_6] at hf
    refine lv_iload hx hb dX3_climb_6 (lv_at hl 4 rfl) ?_
    refine lv_iload_n hx hb dX3_climb_8 rfl (lv_at hl 2 rfl) ?_
    refine lv_icmp_ge (tgt := 33) hx hb dX3_climb_9 (by decide) (fun c1 => ?_) (fun c1 => ?_)
    · rw [if_pos c1] at hf
      refine lv_iload hx hb dX3_climb_33 (lv_at hl 3 rfl) ?_
      cases hf
      exact x_iret E hw dX3_climb_35
    · rw [if_neg c1] at hf
      refine lv_iload hx hb dX3_climb_12 (lv_at hl 3 rfl) ?_
      refine lv_iconst (v := (-1)) hx hb dX3_climb_14 (by decide) ?_
      refine lv_icmp_eq (tgt := 33) hx hb dX3_climb_15 (by decide) (fun c2 => ?_) (fun c2 => ?_)
      · rw [if_pos c2] at hf
        refine lv_iload hx hb dX3_climb_33 (lv_at hl 3 rfl) ?_
        cases hf
        exact x_iret E hw dX3_climb_35
      · rw [if_neg c2] at hf
        refine lv_aload_n hx hb dX3_climb_18 rfl (lv_at hl 0 rfl) ?_
        refine lv_iload_n hx hb dX3_climb_19 rfl (lv_at hl 1 rfl) ?_
        refine lv_iload hx hb dX3_climb_20 (lv_at hl 3 rfl) ?_
        obtain ⟨q3, hq3, hf⟩ := Option.bind_eq_some_iff.mp hf
        refine x_callV (isC := [0, 1, 2, 3]) (ws' := (wNet cI cZ cN cC h0 h1 h2 h3 pts wrk out mem abv)) (st1 := [.int q3]) (As := [.int x1, .int x4]) (rest := []) E hw vc_X3_62 (c_X3_aboveOf (cI := cI) (cZ := cZ) (cN := cN) (cC := cC) (h0 := h0) (h1 := h1) (h2 := h2) (h3 := h3)  (pts := pts) (wrk := wrk) (out := out) (mem := mem) (abv := abv) (x1 := x1) (x2 := x4) hq3) 0 3 rfl rfl rfl rfl rfl rfl rfl rfl rfl ⟨Nat.le_of_ble_eq_true rfl, Nat.le_of_ble_eq_true rfl⟩ ⟨Nat.le_refl _, Nat.le_refl _⟩ hl.1 rfl rfl (Nat.le_of_ble_eq_true rfl) dX3_climb_22 (fun H locs hw => ?_)
        refine lv_istore (lv' := [(4, .int q3), (0, .ref h0), (1, .int x1), (3, .int x3), (5, .int x5)]) hx hb dX3_climb_25 hl (by decide) rfl (fun ls hl => ?_)
        refine lv_iinc (v := (x5 + 1)) (lv' := [(5, .int (x5 + 1)), (4, .int q3), (0, .ref h0), (1, .int x1), (3, .int x3)]) hx hb dX3_climb_27 hl (k := 4) rfl rfl (by decide) rfl (fun ls hl => ?_)
        refine lv_goto (tgt := 6) hx hb dX3_climb_30 (by decide) ?_
        exact ih _ _ hf _ _ _ hw (lv_sub hl [2, 3, 4, 1, 0] rfl)
def f_X3_climb (N : Nat) (x1 : Int32) (x2 : Int32) (x3 : Int32) (abv : (Nat → Int32)) : Option (Int32) :=
  f_X3_climb_6 x1 x3 abv N x2 0
set_option maxHeartbeats 4000000 in
set_option maxRecDepth 100000 in
theorem c_X3_climb {l : Launch} {D : va_G} {cI cZ cN cC : ClassId} {h0 h1 h2 h3 : Nat} {pts : Int32} {wrk : Int32} {out : (Nat → Int32)} {mem : (Nat → Int32)} {abv : (Nat → Int32)} {x1 : Int32} {x2 : Int32} {x3 : Int32} {N : Nat} {res : Int32} (hf : f_X3_climb N x1 x2 x3 abv = some res) : xMet l D (xtys cI cZ cN cC) yX3_climb cX3_climb 6 (some .int) 1 22 [.ref h0, .int x1, .int x2, .int x3] (wNet cI cZ cN cC h0 h1 h2 h3 pts wrk out mem abv) (wNet cI cZ cN cC h0 h1 h2 h3 pts wrk out mem abv) (some (.int res)) := by
  refine x_enter (by decide) (Nat.le_of_ble_eq_true rfl) ?_
  intro p e s m args below meth c E ls hl hw
  have E : xE p s m args meth c cX3_climb 6 (some .int) RX3 D (xtys cI cZ cN cC) := E
  obtain ⟨hx, hb, -⟩ := id E
  have hl : lv_has ls 6 [(0, .ref h0), (1, .int x1), (2, .int x2), (3, .int x3)] := hl
  unfold f_X3_climb at hf
  refine lv_iload_n hx hb dX3_climb_0 rfl (lv_at hl 2 rfl) ?_
  refine lv_istore (lv' := [(4, .int x2), (0, .ref h0), (1, .int x1), (2, .int x2), (3, .int x3)]) hx hb dX3_climb_1 hl (by decide) rfl (fun ls hl => ?_)
  refine lv_iconst (v := 0) hx hb dX3_climb_3 (by decide) ?_
  refine lv_istore (lv' := [(5, .int 0), (4, .int x2), (0, .ref h0), (1, .int x1), (2, .int x2), (3, .int x3)]) hx hb dX3_climb_4 hl (by decide) rfl (fun ls hl => ?_)
  exact b_X3_climb_6 E N _ _ hf _ _ _ hw (lv_sub hl [2, 3, 5, 1, 0] rfl)

def f_X3_stoodOn_3 (x1 : Int32) (x2 : Int32) (x3 : Int32) (pts : Int32) (abv : (Nat → Int32)) : Nat → Int32 → Option (Int32)
  | 0, _ => none
  | n + 1, x4 =>
    if pts ≤ x4 then
     some 0
    else
     (f_X3_aboveOf x1 x4 abv).bind fun q2 =>
     if q2 = (-1) then
      f_X3_stoodOn_3 x1 x2 x3 pts abv n (x4 + 1)
     else
      if (f_X6_has x2 q2) = 0 then
       f_X3_stoodOn_3 x1 x2 x3 pts abv n (x4 + 1)
      else
       if (f_X6_has x3 x4) = 0 then
        f_X3_stoodOn_3 x1 x2 x3 pts abv n (x4 + 1)
       else
        some 1
set_option maxHeartbeats 4000000 in
set_option maxRecDepth 100000 in
theorem b_X3_stoodOn_3 {p : Program} {l : Launch} {e : Env} {s : State} {m : MethodId} {args : Array Value} {below : List Frame} {meth : Method} {c : Code} {D : va_G} {cI cZ cN cC : ClassId} {ws0 : va_W} {h0 h1 h2 h3 : Nat} {x1 : Int32} {x2 : Int32} {x3 : Int32} {pts : Int32} {wrk : Int32} {out : (Nat → Int32)} {mem : (Nat → Int32)} {abv : (Nat → Int32)} {res : Int32} (E : xE p s m args meth c cX3_stoodOn 6 (some .boolean) RX3 D (xtys cI cZ cN cC)) : ∀ (n : Nat) (x4 : Int32), f_X3_stoodOn_3 x1 x2 x3 pts abv n x4 = some res → ∀ (H : Heap) (locs : List Loc) (ls : Array Slot), xw D (xA ws0) s.heap (wNet cI cZ cN cC h0 h1 h2 h3 pts wrk out mem abv) H locs → lv_has ls 6 [(0, .ref h0), (1, .int x1), (2, .int x2), (3, .int x3), (4, .int x4)] → xG p l e 1 22 s m args below meth c D ws0 (wNet cI cZ cN cC h0 h1 h2 h3 pts wrk out mem abv) (some (.int res)) H locs (F0 m 3 ls []) := by
  obtain ⟨hx, hb, -⟩ := id E
  intro n
  induction n with
  | zero =>
    intro _ hf
    rw [f_X3_stoodOn_3] at hf; cases hf
  | succ n ih =>
    intro x4 hf H locs ls hw hl
    rw [f_X3_stoodOn_3] at hf
    refine lv_iload hx hb dX3_stoodOn_3 (lv_at hl 4 rfl) ?_
    refine lv_aload_n hx hb dX3_stoodOn_5 rfl (lv_at hl 0 rfl) ?_
    refine x_get E hw kin_X3 0 rfl rfl 0 (by decide) kF_X3_25 (v := .int pts) rfl dX3_stoodOn_6 ?_
    refine lv_icmp_ge (tgt := 53) hx hb dX3_stoodOn_9 (by decide) (fun c1 => ?_) (fun c1 => ?_)
    · rw [if_pos c1] at hf
      refine lv_iconst (v := 0) hx hb dX3_stoodOn_53 (by decide) ?_
      cases hf
      exact x_zret E hw (xz_n (by decide)) dX3_stoodOn_54
    · rw [if_neg c1] at hf
      refine lv_aload_n hx hb dX3_stoodOn_12 rfl (lv_at hl 0 rfl) ?_
      refine lv_iload_n hx hb dX3_stoodOn_13 rfl (lv_at hl 1 rfl) ?_
      refine lv_iload hx hb dX3_stoodOn_14 (lv_at hl 4 rfl) ?_
      obtain ⟨q2, hq2, hf⟩ := Option.bind_eq_some_iff.mp hf
      refine x_callV (isC := [0, 1, 2, 3]) (ws' := (wNet cI cZ cN cC h0 h1 h2 h3 pts wrk out mem abv)) (st1 := [.int q2]) (As := [.int x1, .int x4]) (rest := []) E hw vc_X3_62 (c_X3_aboveOf (cI := cI) (cZ := cZ) (cN := cN) (cC := cC) (h0 := h0) (h1 := h1) (h2 := h2) (h3 := h3)  (pts := pts) (wrk := wrk) (out := out) (mem := mem) (abv := abv) (x1 := x1) (x2 := x4) hq2) 0 3 rfl rfl rfl rfl rfl rfl rfl rfl rfl ⟨Nat.le_of_ble_eq_true rfl, Nat.le_of_ble_eq_true rfl⟩ ⟨Nat.le_refl _, Nat.le_refl _⟩ hl.1 rfl rfl (Nat.le_of_ble_eq_true rfl) dX3_stoodOn_16 (fun H locs hw => ?_)
      refine lv_istore (lv' := [(5, .int q2), (0, .ref h0), (1, .int x1), (2, .int x2), (3, .int x3), (4, .int x4)]) hx hb dX3_stoodOn_19 hl (by decide) rfl (fun ls hl => ?_)
      refine lv_iload hx hb dX3_stoodOn_21 (lv_at hl 0 rfl) ?_
      refine lv_iconst (v := (-1)) hx hb dX3_stoodOn_23 (by decide) ?_
      refine lv_icmp_eq (tgt := 47) hx hb dX3_stoodOn_24 (by decide) (fun c3 => ?_) (fun c3 => ?_)
      · rw [if_pos c3] at hf
        refine lv_iinc (v := (x4 + 1)) (lv' := [(4, .int (x4 + 1)), (5, .int q2), (0, .ref h0), (1, .int x1), (2, .int x2), (3, .int x3)]) hx hb dX3_stoodOn_47 hl (k := 5) rfl rfl (by decide) rfl (fun ls hl => ?_)
        refine lv_goto (tgt := 3) hx hb dX3_stoodOn_50 (by decide) ?_
        exact ih _ hf _ _ _ hw (lv_sub hl [2, 3, 4, 5, 0] rfl)
      · rw [if_neg c3] at hf
        refine lv_iload_n hx hb dX3_stoodOn_27 rfl (lv_at hl 3 rfl) ?_
        refine lv_iload hx hb dX3_stoodOn_28 (lv_at hl 0 rfl) ?_
        refine x_callN (isC := []) (ws' := (wNet cI cZ cN cC h0 h1 h2 h3 pts wrk out mem abv)) (st1 := [.int (f_X6_has x2 q2)]) (As := [.int x2, .int q2]) (rest := []) E hw vc_X3_44 (c_X6_has (cI := cI) (cZ := cZ) (cN := cN) (cC := cC)    (x0 := x2) (x1 := q2) rfl) rfl rfl rfl rfl rfl rfl ⟨Nat.le_of_ble_eq_true rfl, Nat.le_of_ble_eq_true rfl⟩ ⟨Nat.le_refl _, Nat.le_refl _⟩ hl.1 rfl rfl (Nat.le_of_ble_eq_true rfl) dX3_stoodOn_30 (fun H locs hw => ?_)
        refine lv_if_eq (tgt := 47) hx hb dX3_stoodOn_33 (by decide) (fun c4 => ?_) (fun c4 => ?_)
        · rw [if_pos c4] at hf
          refine lv_iinc (v := (x4 + 1)) (lv' := [(4, .int (x4 + 1)), (5, .int q2), (0, .ref h0), (1, .int x1), (2, .int x2), (3, .int x3)]) hx hb dX3_stoodOn_47 hl (k := 5) rfl rfl (by decide) rfl (fun ls hl => ?_)
          refine lv_goto (tgt := 3) hx hb dX3_stoodOn_50 (by decide) ?_
          exact ih _ hf _ _ _ hw (lv_sub hl [2, 3, 4, 5, 0] rfl)
        · rw [if_neg c4] at hf
          refine lv_iload_n hx hb dX3_stoodOn_36 rfl (lv_at hl 4 rfl) ?_
          refine lv_iload hx hb dX3_stoodOn_37 (lv_at hl 5 rfl) ?_
          refine x_callN (isC := []) (ws' := (wNet cI cZ cN cC h0 h1 h2 h3 pts wrk out mem abv)) (st1 := [.int (f_X6_has x3 x4)]) (As := [.int x3, .int x4]) (rest := []) E hw vc_X3_44 (c_X6_has (cI := cI) (cZ := cZ) (cN := cN) (cC := cC)    (x0 := x3) (x1 := x4) rfl) rfl rfl rfl rfl rfl rfl ⟨Nat.le_of_ble_eq_true rfl, Nat.le_of_ble_eq_true rfl⟩ ⟨Nat.le_refl _, Nat.le_refl _⟩ hl.1 rfl rfl (Nat.le_of_ble_eq_true rfl) dX3_stoodOn_39 (fun H locs hw => ?_)
          refine lv_if_eq (tgt := 47) hx hb dX3_stoodOn_42 (by decide) (fun c5 => ?_) (fun c5 => ?_)
          · rw [if_pos c5] at hf
            refine lv_iinc (v := (x4 + 1)) (lv' := [(4, .int (x4 + 1)), (5, .int q2), (0, .ref h0), (1, .int x1), (2, .int x2), (3, .int x3)]) hx hb dX3_stoodOn_47 hl (k := 5) rfl rfl (by decide) rfl (fun ls hl => ?_)
            refine lv_goto (tgt := 3) hx hb dX3_stoodOn_50 (by decide) ?_
            exact ih _ hf _ _ _ hw (lv_sub hl [2, 3, 4, 5, 0] rfl)
          · rw [if_neg c5] at hf
            refine lv_iconst (v := 1) hx hb dX3_stoodOn_45 (by decide) ?_
            cases hf
            exact x_zret E hw (xz_n (by decide)) dX3_stoodOn_46
def f_X3_stoodOn (N : Nat) (x1 : Int32) (x2 : Int32) (x3 : Int32) (pts : Int32) (abv : (Nat → Int32)) : Option (Int32) :=
  f_X3_stoodOn_3 x1 x2 x3 pts abv N 0
set_option maxHeartbeats 4000000 in
set_option maxRecDepth 100000 in
theorem c_X3_stoodOn {l : Launch} {D : va_G} {cI cZ cN cC : ClassId} {h0 h1 h2 h3 : Nat} {pts : Int32} {wrk : Int32} {out : (Nat → Int32)} {mem : (Nat → Int32)} {abv : (Nat → Int32)} {x1 : Int32} {x2 : Int32} {x3 : Int32} {N : Nat} {res : Int32} (hf : f_X3_stoodOn N x1 x2 x3 pts abv = some res) : xMet l D (xtys cI cZ cN cC) yX3_stoodOn cX3_stoodOn 6 (some .boolean) 1 22 [.ref h0, .int x1, .int x2, .int x3] (wNet cI cZ cN cC h0 h1 h2 h3 pts wrk out mem abv) (wNet cI cZ cN cC h0 h1 h2 h3 pts wrk out mem abv) (some (.int res)) := by
  refine x_enter (by decide) (Nat.le_of_ble_eq_true rfl) ?_
  intro p e s m args below meth c E ls hl hw
  have E : xE p s m args meth c cX3_stoodOn 6 (some .boolean) RX3 D (xtys cI cZ cN cC) := E
  obtain ⟨hx, hb, -⟩ := id E
  have hl : lv_has ls 6 [(0, .ref h0), (1, .int x1), (2, .int x2), (3, .int x3)] := hl
  unfold f_X3_stoodOn at hf
  refine lv_iconst (v := 0) hx hb dX3_stoodOn_0 (by decide) ?_
  refine lv_istore (lv' := [(4, .int 0), (0, .ref h0), (1, .int x1), (2, .int x2), (3, .int x3)]) hx hb dX3_stoodOn_1 hl (by decide) rfl (fun ls hl => ?_)
  exact b_X3_stoodOn_3 E N _ hf _ _ _ hw (lv_sub hl [1, 2, 3, 4, 0] rfl)

def f_X3_comersTo_4 (x1 : Int32) (pts : Int32) (mem : (Nat → Int32)) : Nat → Int32 → Int32 → Option (Int32)
  | 0, _, _ => none
  | n + 1, x2, x3 =>
    if pts ≤ x3 then
     some x2
    else
     (f_X3_comesTo x3 x1 mem).bind fun q2 =>
     if q2 = 0 then
      f_X3_comersTo_4 x1 pts mem n x2 (x3 + 1)
     else
      f_X3_comersTo_4 x1 pts mem n (x2 ||| (1 <<< (x3 &&& 31))) (x3 + 1)
set_option maxHeartbeats 4000000 in
set_option maxRecDepth 100000 in
theorem b_X3_comersTo_4 {p : Program} {l : Launch} {e : Env} {s : State} {m : MethodId} {args : Array Value} {below : List Frame} {meth : Method} {c : Code} {D : va_G} {cI cZ cN cC : ClassId} {ws0 : va_W} {h0 h1 h2 h3 : Nat} {x1 : Int32} {pts : Int32} {wrk : Int32} {out : (Nat → Int32)} {mem : (Nat → Int32)} {abv : (Nat → Int32)} {res : Int32} (E : xE p s m args meth c cX3_comersTo 4 (some .int) RX3 D (xtys cI cZ cN cC)) : ∀ (n : Nat) (x2 : Int32) (x3 : Int32), f_X3_comersTo_4 x1 pts mem n x2 x3 = some res → ∀ (H : Heap) (locs : List Loc) (ls : Array Slot), xw D (xA ws0) s.heap (wNet cI cZ cN cC h0 h1 h2 h3 pts wrk out mem abv) H locs → lv_has ls 4 [(0, .ref h0), (1, .int x1), (2, .int x2), (3, .int x3)] → xG p l e 2 43 s m args below meth c D ws0 (wNet cI cZ cN cC h0 h1 h2 h3 pts wrk out mem abv) (some (.int res)) H locs (F0 m 4 ls []) := by
  obtain ⟨hx, hb, -⟩ := id E
  intro n
  induction n with
  | zero =>
    intro _ _ hf
    rw [f_X3_comersTo_4] at hf; cases hf
  | succ n ih =>
    intro x2 x3 hf H locs ls hw hl
    rw [f_X3_comersTo_4] at hf
    refine lv_iload_n hx hb dX3_comersTo_4 rfl (lv_at hl 3 rfl) ?_
    refine lv_aload_n hx hb dX3_comersTo_5 rfl (lv_at hl 0 rfl) ?_
    refine x_get E hw kin_X3 0 rfl rfl 0 (by decide) kF_X3_25 (v := .int pts) rfl dX3_comersTo_6 ?_
    refine lv_icmp_ge (tgt := 33) hx hb dX3_comersTo_9 (by decide) (fun c1 => ?_) (fun c1 => ?_)
    · rw [if_pos c1] at hf
      refine lv_iload_n hx hb dX3_comersTo_33 rfl (lv_at hl 2 rfl) ?_
      cases hf
      exact x_iret E hw dX3_comersTo_34
    · rw [if_neg c1] at hf
      refine lv_aload_n hx hb dX3_comersTo_12 rfl (lv_at hl 0 rfl) ?_
      refine lv_iload_n hx hb dX3_comersTo_13 rfl (lv_at hl 3 rfl) ?_
      refine lv_iload_n hx hb dX3_comersTo_14 rfl (lv_at hl 1 rfl) ?_
      obtain ⟨q2, hq2, hf⟩ := Option.bind_eq_some_iff.mp hf
      refine x_callV (isC := [0, 1, 2, 3]) (ws' := (wNet cI cZ cN cC h0 h1 h2 h3 pts wrk out mem abv)) (st1 := [.int q2]) (As := [.int x3, .int x1]) (rest := []) E hw vc_X3_65 (c_X3_comesTo (cI := cI) (cZ := cZ) (cN := cN) (cC := cC) (h0 := h0) (h1 := h1) (h2 := h2) (h3 := h3)  (pts := pts) (wrk := wrk) (out := out) (mem := mem) (abv := abv) (x1 := x3) (x2 := x1) hq2) 0 3 rfl rfl rfl rfl rfl rfl rfl rfl rfl ⟨Nat.le_of_ble_eq_true rfl, Nat.le_of_ble_eq_true rfl⟩ ⟨Nat.le_refl _, Nat.le_refl _⟩ hl.1 rfl rfl (Nat.le_of_ble_eq_true rfl) dX3_comersTo_15 (fun H locs hw => ?_)
      refine lv_if_eq (tgt := 27) hx hb dX3_comersTo_18 (by decide) (fun c3 => ?_) (fun c3 => ?_)
      · rw [if_pos c3] at hf
        refine lv_iinc (v := (x3 + 1)) (lv' := [(3, .int (x3 + 1)), (0, .ref h0), (1, .int x1), (2, .int x2)]) hx hb dX3_comersTo_27 hl (k := 3) rfl rfl (by decide) rfl (fun ls hl => ?_)
        refine lv_goto (tgt := 4) hx hb dX3_comersTo_30 (by decide) ?_
        exact ih _ _ hf _ _ _ hw (lv_sub hl [1, 2, 3, 0] rfl)
      · rw [if_neg c3] at hf
        refine lv_iload_n hx hb dX3_comersTo_21 rfl (lv_at hl 2 rfl) ?_
        refine lv_iconst (v := 1) hx hb dX3_comersTo_22 (by decide) ?_
        refine lv_iload_n hx hb dX3_comersTo_23 rfl (lv_at hl 3 rfl) ?_
        refine lv_ishl hx hb dX3_comersTo_24 ?_
        refine lv_ior hx hb dX3_comersTo_25 ?_
        refine lv_istore_n (lv' := [(2, .int (x2 ||| (1 <<< (x3 &&& 31)))), (0, .ref h0), (1, .int x1), (3, .int x3)]) hx hb dX3_comersTo_26 rfl hl (by decide) rfl (fun ls hl => ?_)
        refine lv_iinc (v := (x3 + 1)) (lv' := [(3, .int (x3 + 1)), (2, .int (x2 ||| (1 <<< (x3 &&& 31)))), (0, .ref h0), (1, .int x1)]) hx hb dX3_comersTo_27 hl (k := 3) rfl rfl (by decide) rfl (fun ls hl => ?_)
        refine lv_goto (tgt := 4) hx hb dX3_comersTo_30 (by decide) ?_
        exact ih _ _ hf _ _ _ hw (lv_sub hl [2, 3, 1, 0] rfl)
def f_X3_comersTo (N : Nat) (x1 : Int32) (pts : Int32) (mem : (Nat → Int32)) : Option (Int32) :=
  f_X3_comersTo_4 x1 pts mem N 0 0
set_option maxHeartbeats 4000000 in
set_option maxRecDepth 100000 in
theorem c_X3_comersTo {l : Launch} {D : va_G} {cI cZ cN cC : ClassId} {h0 h1 h2 h3 : Nat} {pts : Int32} {wrk : Int32} {out : (Nat → Int32)} {mem : (Nat → Int32)} {abv : (Nat → Int32)} {x1 : Int32} {N : Nat} {res : Int32} (hf : f_X3_comersTo N x1 pts mem = some res) : xMet l D (xtys cI cZ cN cC) yX3_comersTo cX3_comersTo 4 (some .int) 2 43 [.ref h0, .int x1] (wNet cI cZ cN cC h0 h1 h2 h3 pts wrk out mem abv) (wNet cI cZ cN cC h0 h1 h2 h3 pts wrk out mem abv) (some (.int res)) := by
  refine x_enter (by decide) (Nat.le_of_ble_eq_true rfl) ?_
  intro p e s m args below meth c E ls hl hw
  have E : xE p s m args meth c cX3_comersTo 4 (some .int) RX3 D (xtys cI cZ cN cC) := E
  obtain ⟨hx, hb, -⟩ := id E
  have hl : lv_has ls 4 [(0, .ref h0), (1, .int x1)] := hl
  unfold f_X3_comersTo at hf
  refine lv_iconst (v := 0) hx hb dX3_comersTo_0 (by decide) ?_
  refine lv_istore_n (lv' := [(2, .int 0), (0, .ref h0), (1, .int x1)]) hx hb dX3_comersTo_1 rfl hl (by decide) rfl (fun ls hl => ?_)
  refine lv_iconst (v := 0) hx hb dX3_comersTo_2 (by decide) ?_
  refine lv_istore_n (lv' := [(3, .int 0), (2, .int 0), (0, .ref h0), (1, .int x1)]) hx hb dX3_comersTo_3 rfl hl (by decide) rfl (fun ls hl => ?_)
  exact b_X3_comersTo_4 E N _ _ hf _ _ _ hw (lv_sub hl [2, 3, 1, 0] rfl)

def f_X3_ringOf (N : Nat) (x1 : Int32) (pts : Int32) (mem : (Nat → Int32)) : Option (Int32) :=
  if xin x1 10 then
  (f_X3_comersTo N x1 pts mem).bind fun q2 =>
  some ((mem (Int32.toNatClampNeg x1)) &&& q2)
  else none
set_option maxHeartbeats 4000000 in
set_option maxRecDepth 100000 in
theorem c_X3_ringOf {l : Launch} {D : va_G} {cI cZ cN cC : ClassId} {h0 h1 h2 h3 : Nat} {pts : Int32} {wrk : Int32} {out : (Nat → Int32)} {mem : (Nat → Int32)} {abv : (Nat → Int32)} {x1 : Int32} {N : Nat} {res : Int32} (hf : f_X3_ringOf N x1 pts mem = some res) : xMet l D (xtys cI cZ cN cC) yX3_ringOf cX3_ringOf 2 (some .int) 3 66 [.ref h0, .int x1] (wNet cI cZ cN cC h0 h1 h2 h3 pts wrk out mem abv) (wNet cI cZ cN cC h0 h1 h2 h3 pts wrk out mem abv) (some (.int res)) := by
  refine x_enter (by decide) (Nat.le_of_ble_eq_true rfl) ?_
  intro p e s m args below meth c E ls hl hw
  have E : xE p s m args meth c cX3_ringOf 2 (some .int) RX3 D (xtys cI cZ cN cC) := E
  obtain ⟨hx, hb, -⟩ := id E
  have hl : lv_has ls 2 [(0, .ref h0), (1, .int x1)] := hl
  unfold f_X3_ringOf at hf
  refine lv_aload_n hx hb dX3_ringOf_0 rfl (lv_at hl 0 rfl) ?_
  refine x_get E hw kin_X3 0 rfl rfl 3 (by decide) kF_X3_15 (v := .ref h2) rfl dX3_ringOf_1 ?_
  refine lv_iload_n hx hb dX3_ringOf_4 rfl (lv_at hl 1 rfl) ?_
  obtain ⟨g1, hf⟩ := xgd hf
  refine x_iald E hw 2 0 rfl rfl (xin_vp g1) dX3_ringOf_5 ?_
  refine lv_aload_n hx hb dX3_ringOf_6 rfl (lv_at hl 0 rfl) ?_
  refine lv_iload_n hx hb dX3_ringOf_7 rfl (lv_at hl 1 rfl) ?_
  obtain ⟨q2, hq2, hf⟩ := Option.bind_eq_some_iff.mp hf
  refine x_callV (isC := [0, 1, 2, 3]) (ws' := (wNet cI cZ cN cC h0 h1 h2 h3 pts wrk out mem abv)) (st1 := [.int q2, .int (mem (Int32.toNatClampNeg x1))]) (As := [.int x1]) (rest := [.int (mem (Int32.toNatClampNeg x1))]) E hw vc_X3_86 (c_X3_comersTo (cI := cI) (cZ := cZ) (cN := cN) (cC := cC) (h0 := h0) (h1 := h1) (h2 := h2) (h3 := h3)  (pts := pts) (wrk := wrk) (out := out) (mem := mem) (abv := abv) (x1 := x1) hq2) 0 3 rfl rfl rfl rfl rfl rfl rfl rfl rfl ⟨Nat.le_of_ble_eq_true rfl, Nat.le_of_ble_eq_true rfl⟩ ⟨Nat.le_refl _, Nat.le_refl _⟩ hl.1 rfl rfl (Nat.le_of_ble_eq_true rfl) dX3_ringOf_8 (fun H locs hw => ?_)
  refine lv_iand hx hb dX3_ringOf_11 ?_
  cases hf
  exact x_iret E hw dX3_ringOf_12

def f_X3_rings_4 (N : Nat) (pts : Int32) (mem : (Nat → Int32)) : Nat → Int32 → Int32 → Option (Int32)
  | 0, _, _ => none
  | n + 1, x1, x2 =>
    if pts ≤ x2 then
     some x1
    else
     (f_X3_ringOf N x2 pts mem).bind fun q2 =>
     if (f_X6_lowest q2) = x2 then
      f_X3_rings_4 N pts mem n (x1 + 1) (x2 + 1)
     else
      f_X3_rings_4 N pts mem n x1 (x2 + 1)
set_option maxHeartbeats 4000000 in
set_option maxRecDepth 100000 in
theorem b_X3_rings_4 {p : Program} {l : Launch} {e : Env} {s : State} {m : MethodId} {args : Array Value} {below : List Frame} {meth : Method} {c : Code} {D : va_G} {cI cZ cN cC : ClassId} {ws0 : va_W} {h0 h1 h2 h3 : Nat} {pts : Int32} {wrk : Int32} {out : (Nat → Int32)} {mem : (Nat → Int32)} {abv : (Nat → Int32)} {N : Nat} {res : Int32} (E : xE p s m args meth c cX3_rings 3 (some .int) RX3 D (xtys cI cZ cN cC)) : ∀ (n : Nat) (x1 : Int32) (x2 : Int32), f_X3_rings_4 N pts mem n x1 x2 = some res → ∀ (H : Heap) (locs : List Loc) (ls : Array Slot), xw D (xA ws0) s.heap (wNet cI cZ cN cC h0 h1 h2 h3 pts wrk out mem abv) H locs → lv_has ls 3 [(0, .ref h0), (1, .int x1), (2, .int x2)] → xG p l e 4 87 s m args below meth c D ws0 (wNet cI cZ cN cC h0 h1 h2 h3 pts wrk out mem abv) (some (.int res)) H locs (F0 m 4 ls []) := by
  obtain ⟨hx, hb, -⟩ := id E
  intro n
  induction n with
  | zero =>
    intro _ _ hf
    rw [f_X3_rings_4] at hf; cases hf
  | succ n ih =>
    intro x1 x2 hf H locs ls hw hl
    rw [f_X3_rings_4] at hf
    refine lv_iload_n hx hb dX3_rings_4 rfl (lv_at hl 2 rfl) ?_
    refine lv_aload_n hx hb dX3_rings_5 rfl (lv_at hl 0 rfl) ?_
    refine x_get E hw kin_X3 0 rfl rfl 0 (by decide) kF_X3_25 (v := .int pts) rfl dX3_rings_6 ?_
    refine lv_icmp_ge (tgt := 33) hx hb dX3_rings_9 (by decide) (fun c1 => ?_) (fun c1 => ?_)
    · rw [if_pos c1] at hf
      refine lv_iload_n hx hb dX3_rings_33 rfl (lv_at hl 1 rfl) ?_
      cases hf
      exact x_iret E hw dX3_rings_34
    · rw [if_neg c1] at hf
      refine lv_aload_n hx hb dX3_rings_12 rfl (lv_at hl 0 rfl) ?_
      refine lv_iload_n hx hb dX3_rings_13 rfl (lv_at hl 2 rfl) ?_
      obtain ⟨q2, hq2, hf⟩ := Option.bind_eq_some_iff.mp hf
      refine x_callV (isC := [0, 1, 2, 3]) (ws' := (wNet cI cZ cN cC h0 h1 h2 h3 pts wrk out mem abv)) (st1 := [.int q2]) (As := [.int x2]) (rest := []) E hw vc_X3_89 (c_X3_ringOf (cI := cI) (cZ := cZ) (cN := cN) (cC := cC) (h0 := h0) (h1 := h1) (h2 := h2) (h3 := h3)  (pts := pts) (wrk := wrk) (out := out) (mem := mem) (abv := abv) (x1 := x2) hq2) 0 3 rfl rfl rfl rfl rfl rfl rfl rfl rfl ⟨Nat.le_of_ble_eq_true rfl, Nat.le_of_ble_eq_true rfl⟩ ⟨Nat.le_refl _, Nat.le_refl _⟩ hl.1 rfl rfl (Nat.le_of_ble_eq_true rfl) dX3_rings_14 (fun H locs hw => ?_)
      refine x_callN (isC := []) (ws' := (wNet cI cZ cN cC h0 h1 h2 h3 pts wrk out mem abv)) (st1 := [.int (f_X6_lowest q2)]) (As := [.int q2]) (rest := []) E hw vc_X3_92 (c_X6_lowest (cI := cI) (cZ := cZ) (cN := cN) (cC := cC)    (x0 := q2) rfl) rfl rfl rfl rfl rfl rfl ⟨Nat.le_of_ble_eq_true rfl, Nat.le_of_ble_eq_true rfl⟩ ⟨Nat.le_refl _, Nat.le_refl _⟩ hl.1 rfl rfl (Nat.le_of_ble_eq_true rfl) dX3_rings_17 (fun H locs hw => ?_)
      refine lv_iload_n hx hb dX3_rings_20 rfl (lv_at hl 2 rfl) ?_
      refine lv_icmp_ne (tgt := 27) hx hb dX3_rings_21 (by decide) (fun c3 => ?_) (fun c3 => ?_)
      · rw [if_neg c3] at hf
        refine lv_iinc (v := (x2 + 1)) (lv' := [(2, .int (x2 + 1)), (0, .ref h0), (1, .int x1)]) hx hb dX3_rings_27 hl (k := 2) rfl rfl (by decide) rfl (fun ls hl => ?_)
        refine lv_goto (tgt := 4) hx hb dX3_rings_30 (by decide) ?_
        exact ih _ _ hf _ _ _ hw (lv_sub hl [1, 2, 0] rfl)
      · rw [if_pos c3] at hf
        refine lv_iinc (v := (x1 + 1)) (lv' := [(1, .int (x1 + 1)), (0, .ref h0), (2, .int x2)]) hx hb dX3_rings_24 hl (k := 1) rfl rfl (by decide) rfl (fun ls hl => ?_)
        refine lv_iinc (v := (x2 + 1)) (lv' := [(2, .int (x2 + 1)), (1, .int (x1 + 1)), (0, .ref h0)]) hx hb dX3_rings_27 hl (k := 2) rfl rfl (by decide) rfl (fun ls hl => ?_)
        refine lv_goto (tgt := 4) hx hb dX3_rings_30 (by decide) ?_
        exact ih _ _ hf _ _ _ hw (lv_sub hl [2, 1, 0] rfl)
def f_X3_rings (N : Nat) (pts : Int32) (mem : (Nat → Int32)) : Option (Int32) :=
  f_X3_rings_4 N pts mem N 0 0
set_option maxHeartbeats 4000000 in
set_option maxRecDepth 100000 in
theorem c_X3_rings {l : Launch} {D : va_G} {cI cZ cN cC : ClassId} {h0 h1 h2 h3 : Nat} {pts : Int32} {wrk : Int32} {out : (Nat → Int32)} {mem : (Nat → Int32)} {abv : (Nat → Int32)}  {N : Nat} {res : Int32} (hf : f_X3_rings N pts mem = some res) : xMet l D (xtys cI cZ cN cC) yX3_rings cX3_rings 3 (some .int) 4 87 [.ref h0] (wNet cI cZ cN cC h0 h1 h2 h3 pts wrk out mem abv) (wNet cI cZ cN cC h0 h1 h2 h3 pts wrk out mem abv) (some (.int res)) := by
  refine x_enter (by decide) (Nat.le_of_ble_eq_true rfl) ?_
  intro p e s m args below meth c E ls hl hw
  have E : xE p s m args meth c cX3_rings 3 (some .int) RX3 D (xtys cI cZ cN cC) := E
  obtain ⟨hx, hb, -⟩ := id E
  have hl : lv_has ls 3 [(0, .ref h0)] := hl
  unfold f_X3_rings at hf
  refine lv_iconst (v := 0) hx hb dX3_rings_0 (by decide) ?_
  refine lv_istore_n (lv' := [(1, .int 0), (0, .ref h0)]) hx hb dX3_rings_1 rfl hl (by decide) rfl (fun ls hl => ?_)
  refine lv_iconst (v := 0) hx hb dX3_rings_2 (by decide) ?_
  refine lv_istore_n (lv' := [(2, .int 0), (1, .int 0), (0, .ref h0)]) hx hb dX3_rings_3 rfl hl (by decide) rfl (fun ls hl => ?_)
  exact b_X3_rings_4 E N _ _ hf _ _ _ hw (lv_sub hl [2, 1, 0] rfl)

def f_X3_membersWithout_60 (k12 : Int32 → Int32 → Int32 → Option (Int32)) (x4 : Int32) (x5 : Int32) (x6 : Int32) (x7 : Int32) (t0 : Int32) : Option (Int32) :=
  k12 (x4 ||| t0) ((x5 &&& ((1 <<< (x7 &&& 31)) ^^^ (-1))) ||| (t0 &&& (x4 ^^^ (-1)))) (x6 + 1)
set_option maxHeartbeats 4000000 in
set_option maxRecDepth 100000 in
theorem b_X3_membersWithout_60 {p : Program} {l : Launch} {e : Env} {s : State} {m : MethodId} {args : Array Value} {below : List Frame} {meth : Method} {c : Code} {D : va_G} {cI cZ cN cC : ClassId} {ws0 : va_W} {h0 h1 h2 h3 : Nat} {x2 : Int32} {x3 : Int32} {x4 : Int32} {x5 : Int32} {x6 : Int32} {x7 : Int32} {t0 : Int32} {pts : Int32} {wrk : Int32} {out : (Nat → Int32)} {mem : (Nat → Int32)} {abv : (Nat → Int32)} {res : Int32} (E : xE p s m args meth c cX3_membersWithout 9 (some .int) RX3 D (xtys cI cZ cN cC)) {k12 : Int32 → Int32 → Int32 → Option (Int32)} (hk12 : ∀ (x4 : Int32) (x5 : Int32) (x6 : Int32), k12 x4 x5 x6 = some res → ∀ (H : Heap) (locs : List Loc) (ls : Array Slot), xw D (xA ws0) s.heap (wNet cI cZ cN cC h0 h1 h2 h3 pts wrk out mem abv) H locs → lv_has ls 9 [(0, .ref h0), (2, .int x2), (3, .int x3), (4, .int x4), (5, .int x5), (6, .int x6)] → xG p l e 2 40 s m args below meth c D ws0 (wNet cI cZ cN cC h0 h1 h2 h3 pts wrk out mem abv) (some (.int res)) H locs (F0 m 12 ls [])) : f_X3_membersWithout_60 k12 x4 x5 x6 x7 t0 = some res → ∀ (H : Heap) (locs : List Loc) (ls : Array Slot), xw D (xA ws0) s.heap (wNet cI cZ cN cC h0 h1 h2 h3 pts wrk out mem abv) H locs → lv_has ls 9 [(0, .ref h0), (2, .int x2), (3, .int x3), (4, .int x4), (5, .int x5), (6, .int x6), (7, .int x7)] → xG p l e 2 40 s m args below meth c D ws0 (wNet cI cZ cN cC h0 h1 h2 h3 pts wrk out mem abv) (some (.int res)) H locs (F0 m 60 ls [.int t0]) := by
  obtain ⟨hx, hb, -⟩ := id E
  intro hf H locs ls hw hl
  unfold f_X3_membersWithout_60 at hf
  refine lv_istore (lv' := [(8, .int t0), (0, .ref h0), (2, .int x2), (3, .int x3), (4, .int x4), (5, .int x5), (6, .int x6), (7, .int x7)]) hx hb dX3_membersWithout_60 hl (by decide) rfl (fun ls hl => ?_)
  refine lv_iload hx hb dX3_membersWithout_62 (lv_at hl 5 rfl) ?_
  refine lv_iconst (v := 1) hx hb dX3_membersWithout_64 (by decide) ?_
  refine lv_iload hx hb dX3_membersWithout_65 (lv_at hl 7 rfl) ?_
  refine lv_ishl hx hb dX3_membersWithout_67 ?_
  refine lv_iconst (v := (-1)) hx hb dX3_membersWithout_68 (by decide) ?_
  refine lv_ixor hx hb dX3_membersWithout_69 ?_
  refine lv_iand hx hb dX3_membersWithout_70 ?_
  refine lv_iload hx hb dX3_membersWithout_71 (lv_at hl 0 rfl) ?_
  refine lv_iload hx hb dX3_membersWithout_73 (lv_at hl 4 rfl) ?_
  refine lv_iconst (v := (-1)) hx hb dX3_membersWithout_75 (by decide) ?_
  refine lv_ixor hx hb dX3_membersWithout_76 ?_
  refine lv_iand hx hb dX3_membersWithout_77 ?_
  refine lv_ior hx hb dX3_membersWithout_78 ?_
  refine lv_istore (lv' := [(5, .int ((x5 &&& ((1 <<< (x7 &&& 31)) ^^^ (-1))) ||| (t0 &&& (x4 ^^^ (-1))))), (8, .int t0), (0, .ref h0), (2, .int x2), (3, .int x3), (4, .int x4), (6, .int x6), (7, .int x7)]) hx hb dX3_membersWithout_79 hl (by decide) rfl (fun ls hl => ?_)
  refine lv_iload hx hb dX3_membersWithout_81 (lv_at hl 5 rfl) ?_
  refine lv_iload hx hb dX3_membersWithout_83 (lv_at hl 1 rfl) ?_
  refine lv_ior hx hb dX3_membersWithout_85 ?_
  refine lv_istore (lv' := [(4, .int (x4 ||| t0)), (5, .int ((x5 &&& ((1 <<< (x7 &&& 31)) ^^^ (-1))) ||| (t0 &&& (x4 ^^^ (-1))))), (8, .int t0), (0, .ref h0), (2, .int x2), (3, .int x3), (6, .int x6), (7, .int x7)]) hx hb dX3_membersWithout_86 hl (by decide) rfl (fun ls hl => ?_)
  refine lv_iinc (v := (x6 + 1)) (lv' := [(6, .int (x6 + 1)), (4, .int (x4 ||| t0)), (5, .int ((x5 &&& ((1 <<< (x7 &&& 31)) ^^^ (-1))) ||| (t0 &&& (x4 ^^^ (-1))))), (8, .int t0), (0, .ref h0), (2, .int x2), (3, .int x3), (7, .int x7)]) hx hb dX3_membersWithout_88 hl (k := 6) rfl rfl (by decide) rfl (fun ls hl => ?_)
  refine lv_goto (tgt := 12) hx hb dX3_membersWithout_91 (by decide) ?_
  exact hk12 _ _ _ hf _ _ _ hw (lv_sub hl [4, 5, 6, 1, 2, 0] rfl)
def f_X3_membersWithout_12 (x2 : Int32) (x3 : Int32) (out : (Nat → Int32)) : Nat → Int32 → Int32 → Int32 → Option (Int32)
  | 0, _, _, _ => none
  | n + 1, x4, x5, x6 =>
    if 10 ≤ x6 then
     some x4
    else
     if x5 = 0 then
      some x4
     else
      if (f_X6_lowest x5) = x2 then
       if xin (f_X6_lowest x5) 10 then
       f_X3_membersWithout_60 (fun x4 x5 x6 => f_X3_membersWithout_12 x2 x3 out n x4 x5 x6) x4 x5 x6 (f_X6_lowest x5) ((out (Int32.toNatClampNeg (f_X6_lowest x5))) &&& ((1 <<< (x3 &&& 31)) ^^^ (-1)))
       else none
      else
       if xin (f_X6_lowest x5) 10 then
       f_X3_membersWithout_60 (fun x4 x5 x6 => f_X3_membersWithout_12 x2 x3 out n x4 x5 x6) x4 x5 x6 (f_X6_lowest x5) (out (Int32.toNatClampNeg (f_X6_lowest x5)))
       else none
set_option maxHeartbeats 4000000 in
set_option maxRecDepth 100000 in
theorem b_X3_membersWithout_12 {p : Program} {l : Launch} {e : Env} {s : State} {m : MethodId} {args : Array Value} {below : List Frame} {meth : Method} {c : Code} {D : va_G} {cI cZ cN cC : ClassId} {ws0 : va_W} {h0 h1 h2 h3 : Nat} {x2 : Int32} {x3 : Int32} {pts : Int32} {wrk : Int32} {out : (Nat → Int32)} {mem : (Nat → Int32)} {abv : (Nat → Int32)} {res : Int32} (E : xE p s m args meth c cX3_membersWithout 9 (some .int) RX3 D (xtys cI cZ cN cC)) : ∀ (n : Nat) (x4 : Int32) (x5 : Int32) (x6 : Int32), f_X3_membersWithout_12 x2 x3 out n x4 x5 x6 = some res → ∀ (H : Heap) (locs : List Loc) (ls : Array Slot), xw D (xA ws0) s.heap (wNet cI cZ cN cC h0 h1 h2 h3 pts wrk out mem abv) H locs → lv_has ls 9 [(0, .ref h0), (2, .int x2), (3, .int x3), (4, .int x4), (5, .int x5), (6, .int x6)] → xG p l e 2 40 s m args below meth c D ws0 (wNet cI cZ cN cC h0 h1 h2 h3 pts wrk out mem abv) (some (.int res)) H locs (F0 m 12 ls []) := by
  obtain ⟨hx, hb, -⟩ := id E
  intro n
  induction n with
  | zero =>
    intro _ _ _ hf
    rw [f_X3_membersWithout_12] at hf; cases hf
  | succ n ih =>
    intro x4 x5 x6 hf H locs ls hw hl
    rw [f_X3_membersWithout_12] at hf
    refine lv_iload hx hb dX3_membersWithout_12 (lv_at hl 5 rfl) ?_
    refine lv_bipush (v := 10) hx hb dX3_membersWithout_14 (by decide) ?_
    refine lv_icmp_ge (tgt := 94) hx hb dX3_membersWithout_16 (by decide) (fun c1 => ?_) (fun c1 => ?_)
    · rw [if_pos c1] at hf
      refine lv_iload hx hb dX3_membersWithout_94 (lv_at hl 3 rfl) ?_
      cases hf
      exact x_iret E hw dX3_membersWithout_96
    · rw [if_neg c1] at hf
      refine lv_iload hx hb dX3_membersWithout_19 (lv_at hl 4 rfl) ?_
      refine lv_if_eq (tgt := 94) hx hb dX3_membersWithout_21 (by decide) (fun c2 => ?_) (fun c2 => ?_)
      · rw [if_pos c2] at hf
        refine lv_iload hx hb dX3_membersWithout_94 (lv_at hl 3 rfl) ?_
        cases hf
        exact x_iret E hw dX3_membersWithout_96
      · rw [if_neg c2] at hf
        refine lv_iload hx hb dX3_membersWithout_24 (lv_at hl 4 rfl) ?_
        refine x_callN (isC := []) (ws' := (wNet cI cZ cN cC h0 h1 h2 h3 pts wrk out mem abv)) (st1 := [.int (f_X6_lowest x5)]) (As := [.int x5]) (rest := []) E hw vc_X3_92 (c_X6_lowest (cI := cI) (cZ := cZ) (cN := cN) (cC := cC)    (x0 := x5) rfl) rfl rfl rfl rfl rfl rfl ⟨Nat.le_of_ble_eq_true rfl, Nat.le_of_ble_eq_true rfl⟩ ⟨Nat.le_refl _, Nat.le_refl _⟩ hl.1 rfl rfl (Nat.le_of_ble_eq_true rfl) dX3_membersWithout_26 (fun H locs hw => ?_)
        refine lv_istore (lv' := [(7, .int (f_X6_lowest x5)), (0, .ref h0), (2, .int x2), (3, .int x3), (4, .int x4), (5, .int x5), (6, .int x6)]) hx hb dX3_membersWithout_29 hl (by decide) rfl (fun ls hl => ?_)
        refine lv_iload hx hb dX3_membersWithout_31 (lv_at hl 0 rfl) ?_
        refine lv_iload_n hx hb dX3_membersWithout_33 rfl (lv_at hl 2 rfl) ?_
        refine lv_icmp_ne (tgt := 53) hx hb dX3_membersWithout_34 (by decide) (fun c3 => ?_) (fun c3 => ?_)
        · rw [if_neg c3] at hf
          refine lv_aload_n hx hb dX3_membersWithout_53 rfl (lv_at hl 1 rfl) ?_
          refine x_get E hw kin_X3 0 rfl rfl 2 (by decide) kF_X3_9 (v := .ref h1) rfl dX3_membersWithout_54 ?_
          refine lv_iload hx hb dX3_membersWithout_57 (lv_at hl 0 rfl) ?_
          obtain ⟨g4, hf⟩ := xgd hf
          refine x_iald E hw 1 0 rfl rfl (xin_vp g4) dX3_membersWithout_59 ?_
          exact b_X3_membersWithout_60 E ih  hf _ _ _ hw (lv_sub hl [1, 2, 3, 4, 5, 6, 0] rfl)
        · rw [if_pos c3] at hf
          refine lv_aload_n hx hb dX3_membersWithout_37 rfl (lv_at hl 1 rfl) ?_
          refine x_get E hw kin_X3 0 rfl rfl 2 (by decide) kF_X3_9 (v := .ref h1) rfl dX3_membersWithout_38 ?_
          refine lv_iload hx hb dX3_membersWithout_41 (lv_at hl 0 rfl) ?_
          obtain ⟨g5, hf⟩ := xgd hf
          refine x_iald E hw 1 0 rfl rfl (xin_vp g5) dX3_membersWithout_43 ?_
          refine lv_iconst (v := 1) hx hb dX3_membersWithout_44 (by decide) ?_
          refine lv_iload_n hx hb dX3_membersWithout_45 rfl (lv_at hl 3 rfl) ?_
          refine lv_ishl hx hb dX3_membersWithout_46 ?_
          refine lv_iconst (v := (-1)) hx hb dX3_membersWithout_47 (by decide) ?_
          refine lv_ixor hx hb dX3_membersWithout_48 ?_
          refine lv_iand hx hb dX3_membersWithout_49 ?_
          refine lv_goto (tgt := 60) hx hb dX3_membersWithout_50 (by decide) ?_
          exact b_X3_membersWithout_60 E ih  hf _ _ _ hw (lv_sub hl [1, 2, 3, 4, 5, 6, 0] rfl)
def f_X3_membersWithout (N : Nat) (x1 : Int32) (x2 : Int32) (x3 : Int32) (out : (Nat → Int32)) : Option (Int32) :=
  f_X3_membersWithout_12 x2 x3 out N (1 <<< (x1 &&& 31)) (1 <<< (x1 &&& 31)) 0
set_option maxHeartbeats 4000000 in
set_option maxRecDepth 100000 in
theorem c_X3_membersWithout {l : Launch} {D : va_G} {cI cZ cN cC : ClassId} {h0 h1 h2 h3 : Nat} {pts : Int32} {wrk : Int32} {out : (Nat → Int32)} {mem : (Nat → Int32)} {abv : (Nat → Int32)} {x1 : Int32} {x2 : Int32} {x3 : Int32} {N : Nat} {res : Int32} (hf : f_X3_membersWithout N x1 x2 x3 out = some res) : xMet l D (xtys cI cZ cN cC) yX3_membersWithout cX3_membersWithout 9 (some .int) 2 40 [.ref h0, .int x1, .int x2, .int x3] (wNet cI cZ cN cC h0 h1 h2 h3 pts wrk out mem abv) (wNet cI cZ cN cC h0 h1 h2 h3 pts wrk out mem abv) (some (.int res)) := by
  refine x_enter (by decide) (Nat.le_of_ble_eq_true rfl) ?_
  intro p e s m args below meth c E ls hl hw
  have E : xE p s m args meth c cX3_membersWithout 9 (some .int) RX3 D (xtys cI cZ cN cC) := E
  obtain ⟨hx, hb, -⟩ := id E
  have hl : lv_has ls 9 [(0, .ref h0), (1, .int x1), (2, .int x2), (3, .int x3)] := hl
  unfold f_X3_membersWithout at hf
  refine lv_iconst (v := 1) hx hb dX3_membersWithout_0 (by decide) ?_
  refine lv_iload_n hx hb dX3_membersWithout_1 rfl (lv_at hl 1 rfl) ?_
  refine lv_ishl hx hb dX3_membersWithout_2 ?_
  refine lv_istore (lv' := [(4, .int (1 <<< (x1 &&& 31))), (0, .ref h0), (1, .int x1), (2, .int x2), (3, .int x3)]) hx hb dX3_membersWithout_3 hl (by decide) rfl (fun ls hl => ?_)
  refine lv_iload hx hb dX3_membersWithout_5 (lv_at hl 0 rfl) ?_
  refine lv_istore (lv' := [(5, .int (1 <<< (x1 &&& 31))), (4, .int (1 <<< (x1 &&& 31))), (0, .ref h0), (1, .int x1), (2, .int x2), (3, .int x3)]) hx hb dX3_membersWithout_7 hl (by decide) rfl (fun ls hl => ?_)
  refine lv_iconst (v := 0) hx hb dX3_membersWithout_9 (by decide) ?_
  refine lv_istore (lv' := [(6, .int 0), (5, .int (1 <<< (x1 &&& 31))), (4, .int (1 <<< (x1 &&& 31))), (0, .ref h0), (1, .int x1), (2, .int x2), (3, .int x3)]) hx hb dX3_membersWithout_10 hl (by decide) rfl (fun ls hl => ?_)
  exact b_X3_membersWithout_12 E N _ _ _ hf _ _ _ hw (lv_sub hl [3, 5, 6, 2, 1, 0] rfl)

def f_X3_isNeedless (N : Nat) (x1 : Int32) (x2 : Int32) (out : (Nat → Int32)) : Option (Int32) :=
  (f_X3_membersWithout N x1 x1 x2 out).bind fun q1 =>
  some (f_X6_has q1 x2)
set_option maxHeartbeats 4000000 in
set_option maxRecDepth 100000 in
theorem c_X3_isNeedless {l : Launch} {D : va_G} {cI cZ cN cC : ClassId} {h0 h1 h2 h3 : Nat} {pts : Int32} {wrk : Int32} {out : (Nat → Int32)} {mem : (Nat → Int32)} {abv : (Nat → Int32)} {x1 : Int32} {x2 : Int32} {N : Nat} {res : Int32} (hf : f_X3_isNeedless N x1 x2 out = some res) : xMet l D (xtys cI cZ cN cC) yX3_isNeedless cX3_isNeedless 3 (some .boolean) 3 68 [.ref h0, .int x1, .int x2] (wNet cI cZ cN cC h0 h1 h2 h3 pts wrk out mem abv) (wNet cI cZ cN cC h0 h1 h2 h3 pts wrk out mem abv) (some (.int res)) := by
  refine x_enter (by decide) (Nat.le_of_ble_eq_true rfl) ?_
  intro p e s m args below meth c E ls hl hw
  have E : xE p s m args meth c cX3_isNeedless 3 (some .boolean) RX3 D (xtys cI cZ cN cC) := E
  obtain ⟨hx, hb, -⟩ := id E
  have hl : lv_has ls 3 [(0, .ref h0), (1, .int x1), (2, .int x2)] := hl
  unfold f_X3_isNeedless at hf
  refine lv_aload_n hx hb dX3_isNeedless_0 rfl (lv_at hl 0 rfl) ?_
  refine lv_iload_n hx hb dX3_isNeedless_1 rfl (lv_at hl 1 rfl) ?_
  refine lv_iload_n hx hb dX3_isNeedless_2 rfl (lv_at hl 1 rfl) ?_
  refine lv_iload_n hx hb dX3_isNeedless_3 rfl (lv_at hl 2 rfl) ?_
  obtain ⟨q1, hq1, hf⟩ := Option.bind_eq_some_iff.mp hf
  refine x_callV (isC := [0, 1, 2, 3]) (ws' := (wNet cI cZ cN cC h0 h1 h2 h3 pts wrk out mem abv)) (st1 := [.int q1]) (As := [.int x1, .int x1, .int x2]) (rest := []) E hw vc_X3_95 (c_X3_membersWithout (cI := cI) (cZ := cZ) (cN := cN) (cC := cC) (h0 := h0) (h1 := h1) (h2 := h2) (h3 := h3)  (pts := pts) (wrk := wrk) (out := out) (mem := mem) (abv := abv) (x1 := x1) (x2 := x1) (x3 := x2) hq1) 0 3 rfl rfl rfl rfl rfl rfl rfl rfl rfl ⟨Nat.le_of_ble_eq_true rfl, Nat.le_of_ble_eq_true rfl⟩ ⟨Nat.le_refl _, Nat.le_refl _⟩ hl.1 rfl rfl (Nat.le_of_ble_eq_true rfl) dX3_isNeedless_4 (fun H locs hw => ?_)
  refine lv_iload_n hx hb dX3_isNeedless_7 rfl (lv_at hl 2 rfl) ?_
  refine x_callN (isC := []) (ws' := (wNet cI cZ cN cC h0 h1 h2 h3 pts wrk out mem abv)) (st1 := [.int (f_X6_has q1 x2)]) (As := [.int q1, .int x2]) (rest := []) E hw vc_X3_44 (c_X6_has (cI := cI) (cZ := cZ) (cN := cN) (cC := cC)    (x0 := q1) (x1 := x2) rfl) rfl rfl rfl rfl rfl rfl ⟨Nat.le_of_ble_eq_true rfl, Nat.le_of_ble_eq_true rfl⟩ ⟨Nat.le_refl _, Nat.le_refl _⟩ hl.1 rfl rfl (Nat.le_of_ble_eq_true rfl) dX3_isNeedless_8 (fun H locs hw => ?_)
  cases hf
  exact x_zret E hw (xz_n z_X6_has) dX3_isNeedless_11

def f_X3_needlessArcs_14 (k4 : Int32 → Int32 → Option (Int32)) (N : Nat) (x2 : Int32) (pts : Int32) (out : (Nat → Int32)) : Nat → Int32 → Int32 → Option (Int32)
  | 0, _, _ => none
  | n + 1, x1, x3 =>
    if pts ≤ x3 then
     k4 x1 (x2 + 1)
    else
     (f_X3_hasArc x2 x3 out).bind fun q3 =>
     if q3 = 0 then
      f_X3_needlessArcs_14 k4 N x2 pts out n x1 (x3 + 1)
     else
      (f_X3_isNeedless N x2 x3 out).bind fun q5 =>
      if q5 = 0 then
       f_X3_needlessArcs_14 k4 N x2 pts out n x1 (x3 + 1)
      else
       f_X3_needlessArcs_14 k4 N x2 pts out n (x1 + 1) (x3 + 1)
set_option maxHeartbeats 4000000 in
set_option maxRecDepth 100000 in
theorem b_X3_needlessArcs_14 {p : Program} {l : Launch} {e : Env} {s : State} {m : MethodId} {args : Array Value} {below : List Frame} {meth : Method} {c : Code} {D : va_G} {cI cZ cN cC : ClassId} {ws0 : va_W} {h0 h1 h2 h3 : Nat} {x2 : Int32} {pts : Int32} {wrk : Int32} {out : (Nat → Int32)} {mem : (Nat → Int32)} {abv : (Nat → Int32)} {N : Nat} {res : Int32} (E : xE p s m args meth c cX3_needlessArcs 4 (some .int) RX3 D (xtys cI cZ cN cC)) {k4 : Int32 → Int32 → Option (Int32)} (hk4 : ∀ (x1 : Int32) (x2 : Int32), k4 x1 x2 = some res → ∀ (H : Heap) (locs : List Loc) (ls : Array Slot), xw D (xA ws0) s.heap (wNet cI cZ cN cC h0 h1 h2 h3 pts wrk out mem abv) H locs → lv_has ls 4 [(0, .ref h0), (1, .int x1), (2, .int x2)] → xG p l e 4 90 s m args below meth c D ws0 (wNet cI cZ cN cC h0 h1 h2 h3 pts wrk out mem abv) (some (.int res)) H locs (F0 m 4 ls [])) : ∀ (n : Nat) (x1 : Int32) (x3 : Int32), f_X3_needlessArcs_14 k4 N x2 pts out n x1 x3 = some res → ∀ (H : Heap) (locs : List Loc) (ls : Array Slot), xw D (xA ws0) s.heap (wNet cI cZ cN cC h0 h1 h2 h3 pts wrk out mem abv) H locs → lv_has ls 4 [(0, .ref h0), (1, .int x1), (2, .int x2), (3, .int x3)] → xG p l e 4 90 s m args below meth c D ws0 (wNet cI cZ cN cC h0 h1 h2 h3 pts wrk out mem abv) (some (.int res)) H locs (F0 m 14 ls []) := by
  obtain ⟨hx, hb, -⟩ := id E
  intro n
  induction n with
  | zero =>
    intro _ _ hf
    rw [f_X3_needlessArcs_14] at hf; cases hf
  | succ n ih =>
    intro x1 x3 hf H locs ls hw hl
    rw [f_X3_needlessArcs_14] at hf
    refine lv_iload_n hx hb dX3_needlessArcs_14 rfl (lv_at hl 3 rfl) ?_
    refine lv_aload_n hx hb dX3_needlessArcs_15 rfl (lv_at hl 0 rfl) ?_
    refine x_get E hw kin_X3 0 rfl rfl 0 (by decide) kF_X3_25 (v := .int pts) rfl dX3_needlessArcs_16 ?_
    refine lv_icmp_ge (tgt := 49) hx hb dX3_needlessArcs_19 (by decide) (fun c2 => ?_) (fun c2 => ?_)
    · rw [if_pos c2] at hf
      refine lv_iinc (v := (x2 + 1)) (lv' := [(2, .int (x2 + 1)), (0, .ref h0), (1, .int x1), (3, .int x3)]) hx hb dX3_needlessArcs_49 hl (k := 2) rfl rfl (by decide) rfl (fun ls hl => ?_)
      refine lv_goto (tgt := 4) hx hb dX3_needlessArcs_52 (by decide) ?_
      exact hk4 _ _ hf _ _ _ hw (lv_sub hl [1, 2, 0] rfl)
    · rw [if_neg c2] at hf
      refine lv_aload_n hx hb dX3_needlessArcs_22 rfl (lv_at hl 0 rfl) ?_
      refine lv_iload_n hx hb dX3_needlessArcs_23 rfl (lv_at hl 2 rfl) ?_
      refine lv_iload_n hx hb dX3_needlessArcs_24 rfl (lv_at hl 3 rfl) ?_
      obtain ⟨q3, hq3, hf⟩ := Option.bind_eq_some_iff.mp hf
      refine x_callV (isC := [0, 1, 2, 3]) (ws' := (wNet cI cZ cN cC h0 h1 h2 h3 pts wrk out mem abv)) (st1 := [.int q3]) (As := [.int x2, .int x3]) (rest := []) E hw vc_X3_76 (c_X3_hasArc (cI := cI) (cZ := cZ) (cN := cN) (cC := cC) (h0 := h0) (h1 := h1) (h2 := h2) (h3 := h3)  (pts := pts) (wrk := wrk) (out := out) (mem := mem) (abv := abv) (x1 := x2) (x2 := x3) hq3) 0 3 rfl rfl rfl rfl rfl rfl rfl rfl rfl ⟨Nat.le_of_ble_eq_true rfl, Nat.le_of_ble_eq_true rfl⟩ ⟨Nat.le_refl _, Nat.le_refl _⟩ hl.1 rfl rfl (Nat.le_of_ble_eq_true rfl) dX3_needlessArcs_25 (fun H locs hw => ?_)
      refine lv_if_eq (tgt := 43) hx hb dX3_needlessArcs_28 (by decide) (fun c4 => ?_) (fun c4 => ?_)
      · rw [if_pos c4] at hf
        refine lv_iinc (v := (x3 + 1)) (lv' := [(3, .int (x3 + 1)), (0, .ref h0), (1, .int x1), (2, .int x2)]) hx hb dX3_needlessArcs_43 hl (k := 3) rfl rfl (by decide) rfl (fun ls hl => ?_)
        refine lv_goto (tgt := 14) hx hb dX3_needlessArcs_46 (by decide) ?_
        exact ih _ _ hf _ _ _ hw (lv_sub hl [1, 2, 3, 0] rfl)
      · rw [if_neg c4] at hf
        refine lv_aload_n hx hb dX3_needlessArcs_31 rfl (lv_at hl 0 rfl) ?_
        refine lv_iload_n hx hb dX3_needlessArcs_32 rfl (lv_at hl 2 rfl) ?_
        refine lv_iload_n hx hb dX3_needlessArcs_33 rfl (lv_at hl 3 rfl) ?_
        obtain ⟨q5, hq5, hf⟩ := Option.bind_eq_some_iff.mp hf
        refine x_callV (isC := [0, 1, 2, 3]) (ws' := (wNet cI cZ cN cC h0 h1 h2 h3 pts wrk out mem abv)) (st1 := [.int q5]) (As := [.int x2, .int x3]) (rest := []) E hw vc_X3_99 (c_X3_isNeedless (cI := cI) (cZ := cZ) (cN := cN) (cC := cC) (h0 := h0) (h1 := h1) (h2 := h2) (h3 := h3)  (pts := pts) (wrk := wrk) (out := out) (mem := mem) (abv := abv) (x1 := x2) (x2 := x3) hq5) 0 3 rfl rfl rfl rfl rfl rfl rfl rfl rfl ⟨Nat.le_of_ble_eq_true rfl, Nat.le_of_ble_eq_true rfl⟩ ⟨Nat.le_refl _, Nat.le_refl _⟩ hl.1 rfl rfl (Nat.le_of_ble_eq_true rfl) dX3_needlessArcs_34 (fun H locs hw => ?_)
        refine lv_if_eq (tgt := 43) hx hb dX3_needlessArcs_37 (by decide) (fun c6 => ?_) (fun c6 => ?_)
        · rw [if_pos c6] at hf
          refine lv_iinc (v := (x3 + 1)) (lv' := [(3, .int (x3 + 1)), (0, .ref h0), (1, .int x1), (2, .int x2)]) hx hb dX3_needlessArcs_43 hl (k := 3) rfl rfl (by decide) rfl (fun ls hl => ?_)
          refine lv_goto (tgt := 14) hx hb dX3_needlessArcs_46 (by decide) ?_
          exact ih _ _ hf _ _ _ hw (lv_sub hl [1, 2, 3, 0] rfl)
        · rw [if_neg c6] at hf
          refine lv_iinc (v := (x1 + 1)) (lv' := [(1, .int (x1 + 1)), (0, .ref h0), (2, .int x2), (3, .int x3)]) hx hb dX3_needlessArcs_40 hl (k := 1) rfl rfl (by decide) rfl (fun ls hl => ?_)
          refine lv_iinc (v := (x3 + 1)) (lv' := [(3, .int (x3 + 1)), (1, .int (x1 + 1)), (0, .ref h0), (2, .int x2)]) hx hb dX3_needlessArcs_43 hl (k := 3) rfl rfl (by decide) rfl (fun ls hl => ?_)
          refine lv_goto (tgt := 14) hx hb dX3_needlessArcs_46 (by decide) ?_
          exact ih _ _ hf _ _ _ hw (lv_sub hl [2, 1, 3, 0] rfl)
def f_X3_needlessArcs_4 (N : Nat) (pts : Int32) (out : (Nat → Int32)) : Nat → Int32 → Int32 → Option (Int32)
  | 0, _, _ => none
  | n + 1, x1, x2 =>
    if pts ≤ x2 then
     some x1
    else
     f_X3_needlessArcs_14 (fun x1 x2 => f_X3_needlessArcs_4 N pts out n x1 x2) N x2 pts out N x1 0
set_option maxHeartbeats 4000000 in
set_option maxRecDepth 100000 in
theorem b_X3_needlessArcs_4 {p : Program} {l : Launch} {e : Env} {s : State} {m : MethodId} {args : Array Value} {below : List Frame} {meth : Method} {c : Code} {D : va_G} {cI cZ cN cC : ClassId} {ws0 : va_W} {h0 h1 h2 h3 : Nat} {pts : Int32} {wrk : Int32} {out : (Nat → Int32)} {mem : (Nat → Int32)} {abv : (Nat → Int32)} {N : Nat} {res : Int32} (E : xE p s m args meth c cX3_needlessArcs 4 (some .int) RX3 D (xtys cI cZ cN cC)) : ∀ (n : Nat) (x1 : Int32) (x2 : Int32), f_X3_needlessArcs_4 N pts out n x1 x2 = some res → ∀ (H : Heap) (locs : List Loc) (ls : Array Slot), xw D (xA ws0) s.heap (wNet cI cZ cN cC h0 h1 h2 h3 pts wrk out mem abv) H locs → lv_has ls 4 [(0, .ref h0), (1, .int x1), (2, .int x2)] → xG p l e 4 90 s m args below meth c D ws0 (wNet cI cZ cN cC h0 h1 h2 h3 pts wrk out mem abv) (some (.int res)) H locs (F0 m 4 ls []) := by
  obtain ⟨hx, hb, -⟩ := id E
  intro n
  induction n with
  | zero =>
    intro _ _ hf
    rw [f_X3_needlessArcs_4] at hf; cases hf
  | succ n ih =>
    intro x1 x2 hf H locs ls hw hl
    rw [f_X3_needlessArcs_4] at hf
    refine lv_iload_n hx hb dX3_needlessArcs_4 rfl (lv_at hl 2 rfl) ?_
    refine lv_aload_n hx hb dX3_needlessArcs_5 rfl (lv_at hl 0 rfl) ?_
    refine x_get E hw kin_X3 0 rfl rfl 0 (by decide) kF_X3_25 (v := .int pts) rfl dX3_needlessArcs_6 ?_
    refine lv_icmp_ge (tgt := 55) hx hb dX3_needlessArcs_9 (by decide) (fun c1 => ?_) (fun c1 => ?_)
    · rw [if_pos c1] at hf
      refine lv_iload_n hx hb dX3_needlessArcs_55 rfl (lv_at hl 1 rfl) ?_
      cases hf
      exact x_iret E hw dX3_needlessArcs_56
    · rw [if_neg c1] at hf
      refine lv_iconst (v := 0) hx hb dX3_needlessArcs_12 (by decide) ?_
      refine lv_istore_n (lv' := [(3, .int 0), (0, .ref h0), (1, .int x1), (2, .int x2)]) hx hb dX3_needlessArcs_13 rfl hl (by decide) rfl (fun ls hl => ?_)
      exact b_X3_needlessArcs_14 E ih N _ _ hf _ _ _ hw (lv_sub hl [1, 2, 3, 0] rfl)
def f_X3_needlessArcs (N : Nat) (pts : Int32) (out : (Nat → Int32)) : Option (Int32) :=
  f_X3_needlessArcs_4 N pts out N 0 0
set_option maxHeartbeats 4000000 in
set_option maxRecDepth 100000 in
theorem c_X3_needlessArcs {l : Launch} {D : va_G} {cI cZ cN cC : ClassId} {h0 h1 h2 h3 : Nat} {pts : Int32} {wrk : Int32} {out : (Nat → Int32)} {mem : (Nat → Int32)} {abv : (Nat → Int32)}  {N : Nat} {res : Int32} (hf : f_X3_needlessArcs N pts out = some res) : xMet l D (xtys cI cZ cN cC) yX3_needlessArcs cX3_needlessArcs 4 (some .int) 4 90 [.ref h0] (wNet cI cZ cN cC h0 h1 h2 h3 pts wrk out mem abv) (wNet cI cZ cN cC h0 h1 h2 h3 pts wrk out mem abv) (some (.int res)) := by
  refine x_enter (by decide) (Nat.le_of_ble_eq_true rfl) ?_
  intro p e s m args below meth c E ls hl hw
  have E : xE p s m args meth c cX3_needlessArcs 4 (some .int) RX3 D (xtys cI cZ cN cC) := E
  obtain ⟨hx, hb, -⟩ := id E
  have hl : lv_has ls 4 [(0, .ref h0)] := hl
  unfold f_X3_needlessArcs at hf
  refine lv_iconst (v := 0) hx hb dX3_needlessArcs_0 (by decide) ?_
  refine lv_istore_n (lv' := [(1, .int 0), (0, .ref h0)]) hx hb dX3_needlessArcs_1 rfl hl (by decide) rfl (fun ls hl => ?_)
  refine lv_iconst (v := 0) hx hb dX3_needlessArcs_2 (by decide) ?_
  refine lv_istore_n (lv' := [(2, .int 0), (1, .int 0), (0, .ref h0)]) hx hb dX3_needlessArcs_3 rfl hl (by decide) rfl (fun ls hl => ?_)
  exact b_X3_needlessArcs_4 E N _ _ hf _ _ _ hw (lv_sub hl [2, 1, 0] rfl)

def f_X3_pairsLost_5 (N : Nat) (x1 : Int32) (x2 : Int32) (pts : Int32) (out : (Nat → Int32)) (mem : (Nat → Int32)) (abv : (Nat → Int32)) : Nat → Int32 → Int32 → Option (Int32)
  | 0, _, _ => none
  | n + 1, x3, x4 =>
    if pts ≤ x4 then
     some x3
    else
     (f_X3_aboveOf x4 x2 abv).bind fun q2 =>
     if q2 = x1 then
      if xin x4 10 then
      (f_X3_membersWithout N x4 x1 x2 out).bind fun q5 =>
      f_X3_pairsLost_5 N x1 x2 pts out mem abv n (x3 + (f_J6_bitCount_0f7a4 ((mem (Int32.toNatClampNeg x4)) &&& (q5 ^^^ (-1))))) (x4 + 1)
      else none
     else
      f_X3_pairsLost_5 N x1 x2 pts out mem abv n x3 (x4 + 1)
set_option maxHeartbeats 4000000 in
set_option maxRecDepth 100000 in
theorem b_X3_pairsLost_5 {p : Program} {l : Launch} {e : Env} {s : State} {m : MethodId} {args : Array Value} {below : List Frame} {meth : Method} {c : Code} {D : va_G} {cI cZ cN cC : ClassId} {ws0 : va_W} {h0 h1 h2 h3 : Nat} {x1 : Int32} {x2 : Int32} {pts : Int32} {wrk : Int32} {out : (Nat → Int32)} {mem : (Nat → Int32)} {abv : (Nat → Int32)} {N : Nat} {res : Int32} (E : xE p s m args meth c cX3_pairsLost 5 (some .int) RX3 D (xtys cI cZ cN cC)) : ∀ (n : Nat) (x3 : Int32) (x4 : Int32), f_X3_pairsLost_5 N x1 x2 pts out mem abv n x3 x4 = some res → ∀ (H : Heap) (locs : List Loc) (ls : Array Slot), xw D (xA ws0) s.heap (wNet cI cZ cN cC h0 h1 h2 h3 pts wrk out mem abv) H locs → lv_has ls 5 [(0, .ref h0), (1, .int x1), (2, .int x2), (3, .int x3), (4, .int x4)] → xG p l e 3 68 s m args below meth c D ws0 (wNet cI cZ cN cC h0 h1 h2 h3 pts wrk out mem abv) (some (.int res)) H locs (F0 m 5 ls []) := by
  obtain ⟨hx, hb, -⟩ := id E
  intro n
  induction n with
  | zero =>
    intro _ _ hf
    rw [f_X3_pairsLost_5] at hf; cases hf
  | succ n ih =>
    intro x3 x4 hf H locs ls hw hl
    rw [f_X3_pairsLost_5] at hf
    refine lv_iload hx hb dX3_pairsLost_5 (lv_at hl 4 rfl) ?_
    refine lv_aload_n hx hb dX3_pairsLost_7 rfl (lv_at hl 0 rfl) ?_
    refine x_get E hw kin_X3 0 rfl rfl 0 (by decide) kF_X3_25 (v := .int pts) rfl dX3_pairsLost_8 ?_
    refine lv_icmp_ge (tgt := 55) hx hb dX3_pairsLost_11 (by decide) (fun c1 => ?_) (fun c1 => ?_)
    · rw [if_pos c1] at hf
      refine lv_iload_n hx hb dX3_pairsLost_55 rfl (lv_at hl 3 rfl) ?_
      cases hf
      exact x_iret E hw dX3_pairsLost_56
    · rw [if_neg c1] at hf
      refine lv_aload_n hx hb dX3_pairsLost_14 rfl (lv_at hl 0 rfl) ?_
      refine lv_iload hx hb dX3_pairsLost_15 (lv_at hl 4 rfl) ?_
      refine lv_iload_n hx hb dX3_pairsLost_17 rfl (lv_at hl 2 rfl) ?_
      obtain ⟨q2, hq2, hf⟩ := Option.bind_eq_some_iff.mp hf
      refine x_callV (isC := [0, 1, 2, 3]) (ws' := (wNet cI cZ cN cC h0 h1 h2 h3 pts wrk out mem abv)) (st1 := [.int q2]) (As := [.int x4, .int x2]) (rest := []) E hw vc_X3_62 (c_X3_aboveOf (cI := cI) (cZ := cZ) (cN := cN) (cC := cC) (h0 := h0) (h1 := h1) (h2 := h2) (h3 := h3)  (pts := pts) (wrk := wrk) (out := out) (mem := mem) (abv := abv) (x1 := x4) (x2 := x2) hq2) 0 3 rfl rfl rfl rfl rfl rfl rfl rfl rfl ⟨Nat.le_of_ble_eq_true rfl, Nat.le_of_ble_eq_true rfl⟩ ⟨Nat.le_refl _, Nat.le_refl _⟩ hl.1 rfl rfl (Nat.le_of_ble_eq_true rfl) dX3_pairsLost_18 (fun H locs hw => ?_)
      refine lv_iload_n hx hb dX3_pairsLost_21 rfl (lv_at hl 1 rfl) ?_
      refine lv_icmp_ne (tgt := 49) hx hb dX3_pairsLost_22 (by decide) (fun c3 => ?_) (fun c3 => ?_)
      · rw [if_neg c3] at hf
        refine lv_iinc (v := (x4 + 1)) (lv' := [(4, .int (x4 + 1)), (0, .ref h0), (1, .int x1), (2, .int x2), (3, .int x3)]) hx hb dX3_pairsLost_49 hl (k := 4) rfl rfl (by decide) rfl (fun ls hl => ?_)
        refine lv_goto (tgt := 5) hx hb dX3_pairsLost_52 (by decide) ?_
        exact ih _ _ hf _ _ _ hw (lv_sub hl [1, 2, 3, 4, 0] rfl)
      · rw [if_pos c3] at hf
        refine lv_iload_n hx hb dX3_pairsLost_25 rfl (lv_at hl 3 rfl) ?_
        refine lv_aload_n hx hb dX3_pairsLost_26 rfl (lv_at hl 0 rfl) ?_
        refine x_get E hw kin_X3 0 rfl rfl 3 (by decide) kF_X3_15 (v := .ref h2) rfl dX3_pairsLost_27 ?_
        refine lv_iload hx hb dX3_pairsLost_30 (lv_at hl 4 rfl) ?_
        obtain ⟨g4, hf⟩ := xgd hf
        refine x_iald E hw 2 0 rfl rfl (xin_vp g4) dX3_pairsLost_32 ?_
        refine lv_aload_n hx hb dX3_pairsLost_33 rfl (lv_at hl 0 rfl) ?_
        refine lv_iload hx hb dX3_pairsLost_34 (lv_at hl 4 rfl) ?_
        refine lv_iload_n hx hb dX3_pairsLost_36 rfl (lv_at hl 1 rfl) ?_
        refine lv_iload_n hx hb dX3_pairsLost_37 rfl (lv_at hl 2 rfl) ?_
        obtain ⟨q5, hq5, hf⟩ := Option.bind_eq_some_iff.mp hf
        refine x_callV (isC := [0, 1, 2, 3]) (ws' := (wNet cI cZ cN cC h0 h1 h2 h3 pts wrk out mem abv)) (st1 := [.int q5, .int (mem (Int32.toNatClampNeg x4)), .int x3]) (As := [.int x4, .int x1, .int x2]) (rest := [.int (mem (Int32.toNatClampNeg x4)), .int x3]) E hw vc_X3_95 (c_X3_membersWithout (cI := cI) (cZ := cZ) (cN := cN) (cC := cC) (h0 := h0) (h1 := h1) (h2 := h2) (h3 := h3)  (pts := pts) (wrk := wrk) (out := out) (mem := mem) (abv := abv) (x1 := x4) (x2 := x1) (x3 := x2) hq5) 0 3 rfl rfl rfl rfl rfl rfl rfl rfl rfl ⟨Nat.le_of_ble_eq_true rfl, Nat.le_of_ble_eq_true rfl⟩ ⟨Nat.le_refl _, Nat.le_refl _⟩ hl.1 rfl rfl (Nat.le_of_ble_eq_true rfl) dX3_pairsLost_38 (fun H locs hw => ?_)
        refine lv_iconst (v := (-1)) hx hb dX3_pairsLost_41 (by decide) ?_
        refine lv_ixor hx hb dX3_pairsLost_42 ?_
        refine lv_iand hx hb dX3_pairsLost_43 ?_
        refine x_callS (isC := []) (ws' := (wNet cI cZ cN cC h0 h1 h2 h3 pts wrk out mem abv)) (st1 := [.int (f_J6_bitCount_0f7a4 ((mem (Int32.toNatClampNeg x4)) &&& (q5 ^^^ (-1)))), .int x3]) (As := [.int ((mem (Int32.toNatClampNeg x4)) &&& (q5 ^^^ (-1)))]) (rest := [.int x3]) E hw vc_X3_56 (c_J6_bitCount_0f7a4 (cI := cI) (cZ := cZ) (cN := cN) (cC := cC)    (x0 := ((mem (Int32.toNatClampNeg x4)) &&& (q5 ^^^ (-1)))) rfl) rfl rfl rfl rfl rfl rfl ⟨Nat.le_of_ble_eq_true rfl, Nat.le_of_ble_eq_true rfl⟩ ⟨Nat.le_refl _, Nat.le_refl _⟩ hl.1 rfl rfl (Nat.le_of_ble_eq_true rfl) dX3_pairsLost_44 (fun H locs hw => ?_)
        refine lv_iadd hx hb dX3_pairsLost_47 ?_
        refine lv_istore_n (lv' := [(3, .int (x3 + (f_J6_bitCount_0f7a4 ((mem (Int32.toNatClampNeg x4)) &&& (q5 ^^^ (-1)))))), (0, .ref h0), (1, .int x1), (2, .int x2), (4, .int x4)]) hx hb dX3_pairsLost_48 rfl hl (by decide) rfl (fun ls hl => ?_)
        refine lv_iinc (v := (x4 + 1)) (lv' := [(4, .int (x4 + 1)), (3, .int (x3 + (f_J6_bitCount_0f7a4 ((mem (Int32.toNatClampNeg x4)) &&& (q5 ^^^ (-1)))))), (0, .ref h0), (1, .int x1), (2, .int x2)]) hx hb dX3_pairsLost_49 hl (k := 4) rfl rfl (by decide) rfl (fun ls hl => ?_)
        refine lv_goto (tgt := 5) hx hb dX3_pairsLost_52 (by decide) ?_
        exact ih _ _ hf _ _ _ hw (lv_sub hl [2, 3, 4, 1, 0] rfl)
def f_X3_pairsLost (N : Nat) (x1 : Int32) (x2 : Int32) (pts : Int32) (out : (Nat → Int32)) (mem : (Nat → Int32)) (abv : (Nat → Int32)) : Option (Int32) :=
  f_X3_pairsLost_5 N x1 x2 pts out mem abv N 0 0
set_option maxHeartbeats 4000000 in
set_option maxRecDepth 100000 in
theorem c_X3_pairsLost {l : Launch} {D : va_G} {cI cZ cN cC : ClassId} {h0 h1 h2 h3 : Nat} {pts : Int32} {wrk : Int32} {out : (Nat → Int32)} {mem : (Nat → Int32)} {abv : (Nat → Int32)} {x1 : Int32} {x2 : Int32} {N : Nat} {res : Int32} (hf : f_X3_pairsLost N x1 x2 pts out mem abv = some res) : xMet l D (xtys cI cZ cN cC) yX3_pairsLost cX3_pairsLost 5 (some .int) 3 68 [.ref h0, .int x1, .int x2] (wNet cI cZ cN cC h0 h1 h2 h3 pts wrk out mem abv) (wNet cI cZ cN cC h0 h1 h2 h3 pts wrk out mem abv) (some (.int res)) := by
  refine x_enter (by decide) (Nat.le_of_ble_eq_true rfl) ?_
  intro p e s m args below meth c E ls hl hw
  have E : xE p s m args meth c cX3_pairsLost 5 (some .int) RX3 D (xtys cI cZ cN cC) := E
  obtain ⟨hx, hb, -⟩ := id E
  have hl : lv_has ls 5 [(0, .ref h0), (1, .int x1), (2, .int x2)] := hl
  unfold f_X3_pairsLost at hf
  refine lv_iconst (v := 0) hx hb dX3_pairsLost_0 (by decide) ?_
  refine lv_istore_n (lv' := [(3, .int 0), (0, .ref h0), (1, .int x1), (2, .int x2)]) hx hb dX3_pairsLost_1 rfl hl (by decide) rfl (fun ls hl => ?_)
  refine lv_iconst (v := 0) hx hb dX3_pairsLost_2 (by decide) ?_
  refine lv_istore (lv' := [(4, .int 0), (3, .int 0), (0, .ref h0), (1, .int x1), (2, .int x2)]) hx hb dX3_pairsLost_3 hl (by decide) rfl (fun ls hl => ?_)
  exact b_X3_pairsLost_5 E N _ _ hf _ _ _ hw (lv_sub hl [2, 3, 4, 1, 0] rfl)

def f_X3_newMembers (x1 : Int32) (x2 : Int32) (x3 : Int32) (mem : (Nat → Int32)) : Option (Int32) :=
  (f_X3_comesTo x1 x2 mem).bind fun q1 =>
  if q1 = 0 then
   some 0
  else
   if xin x3 10 then
   if xin x1 10 then
   some ((mem (Int32.toNatClampNeg x3)) &&& ((mem (Int32.toNatClampNeg x1)) ^^^ (-1)))
   else none
   else none
set_option maxHeartbeats 4000000 in
set_option maxRecDepth 100000 in
theorem c_X3_newMembers {l : Launch} {D : va_G} {cI cZ cN cC : ClassId} {h0 h1 h2 h3 : Nat} {pts : Int32} {wrk : Int32} {out : (Nat → Int32)} {mem : (Nat → Int32)} {abv : (Nat → Int32)} {x1 : Int32} {x2 : Int32} {x3 : Int32} {res : Int32} (hf : f_X3_newMembers x1 x2 x3 mem = some res) : xMet l D (xtys cI cZ cN cC) yX3_newMembers cX3_newMembers 4 (some .int) 2 43 [.ref h0, .int x1, .int x2, .int x3] (wNet cI cZ cN cC h0 h1 h2 h3 pts wrk out mem abv) (wNet cI cZ cN cC h0 h1 h2 h3 pts wrk out mem abv) (some (.int res)) := by
  refine x_enter (by decide) (Nat.le_of_ble_eq_true rfl) ?_
  intro p e s m args below meth c E ls hl hw
  have E : xE p s m args meth c cX3_newMembers 4 (some .int) RX3 D (xtys cI cZ cN cC) := E
  obtain ⟨hx, hb, -⟩ := id E
  have hl : lv_has ls 4 [(0, .ref h0), (1, .int x1), (2, .int x2), (3, .int x3)] := hl
  unfold f_X3_newMembers at hf
  refine lv_aload_n hx hb dX3_newMembers_0 rfl (lv_at hl 0 rfl) ?_
  refine lv_iload_n hx hb dX3_newMembers_1 rfl (lv_at hl 1 rfl) ?_
  refine lv_iload_n hx hb dX3_newMembers_2 rfl (lv_at hl 2 rfl) ?_
  obtain ⟨q1, hq1, hf⟩ := Option.bind_eq_some_iff.mp hf
  refine x_callV (isC := [0, 1, 2, 3]) (ws' := (wNet cI cZ cN cC h0 h1 h2 h3 pts wrk out mem abv)) (st1 := [.int q1]) (As := [.int x1, .int x2]) (rest := []) E hw vc_X3_65 (c_X3_comesTo (cI := cI) (cZ := cZ) (cN := cN) (cC := cC) (h0 := h0) (h1 := h1) (h2 := h2) (h3 := h3)  (pts := pts) (wrk := wrk) (out := out) (mem := mem) (abv := abv) (x1 := x1) (x2 := x2) hq1) 0 3 rfl rfl rfl rfl rfl rfl rfl rfl rfl ⟨Nat.le_of_ble_eq_true rfl, Nat.le_of_ble_eq_true rfl⟩ ⟨Nat.le_refl _, Nat.le_refl _⟩ hl.1 rfl rfl (Nat.le_of_ble_eq_true rfl) dX3_newMembers_3 (fun H locs hw => ?_)
  refine lv_if_eq (tgt := 27) hx hb dX3_newMembers_6 (by decide) (fun c2 => ?_) (fun c2 => ?_)
  · rw [if_pos c2] at hf
    refine lv_iconst (v := 0) hx hb dX3_newMembers_27 (by decide) ?_
    cases hf
    exact x_iret E hw dX3_newMembers_28
  · rw [if_neg c2] at hf
    refine lv_aload_n hx hb dX3_newMembers_9 rfl (lv_at hl 0 rfl) ?_
    refine x_get E hw kin_X3 0 rfl rfl 3 (by decide) kF_X3_15 (v := .ref h2) rfl dX3_newMembers_10 ?_
    refine lv_iload_n hx hb dX3_newMembers_13 rfl (lv_at hl 3 rfl) ?_
    obtain ⟨g3, hf⟩ := xgd hf
    refine x_iald E hw 2 0 rfl rfl (xin_vp g3) dX3_newMembers_14 ?_
    refine lv_aload_n hx hb dX3_newMembers_15 rfl (lv_at hl 0 rfl) ?_
    refine x_get E hw kin_X3 0 rfl rfl 3 (by decide) kF_X3_15 (v := .ref h2) rfl dX3_newMembers_16 ?_
    refine lv_iload_n hx hb dX3_newMembers_19 rfl (lv_at hl 1 rfl) ?_
    obtain ⟨g4, hf⟩ := xgd hf
    refine x_iald E hw 2 0 rfl rfl (xin_vp g4) dX3_newMembers_20 ?_
    refine lv_iconst (v := (-1)) hx hb dX3_newMembers_21 (by decide) ?_
    refine lv_ixor hx hb dX3_newMembers_22 ?_
    refine lv_iand hx hb dX3_newMembers_23 ?_
    refine lv_goto (tgt := 28) hx hb dX3_newMembers_24 (by decide) ?_
    cases hf
    exact x_iret E hw dX3_newMembers_28

def f_X3_pairsGained_5 (x1 : Int32) (x2 : Int32) (pts : Int32) (mem : (Nat → Int32)) : Nat → Int32 → Int32 → Option (Int32)
  | 0, _, _ => none
  | n + 1, x3, x4 =>
    if pts ≤ x4 then
     some x3
    else
     (f_X3_newMembers x4 x1 x2 mem).bind fun q2 =>
     f_X3_pairsGained_5 x1 x2 pts mem n (x3 + (f_J6_bitCount_0f7a4 q2)) (x4 + 1)
set_option maxHeartbeats 4000000 in
set_option maxRecDepth 100000 in
theorem b_X3_pairsGained_5 {p : Program} {l : Launch} {e : Env} {s : State} {m : MethodId} {args : Array Value} {below : List Frame} {meth : Method} {c : Code} {D : va_G} {cI cZ cN cC : ClassId} {ws0 : va_W} {h0 h1 h2 h3 : Nat} {x1 : Int32} {x2 : Int32} {pts : Int32} {wrk : Int32} {out : (Nat → Int32)} {mem : (Nat → Int32)} {abv : (Nat → Int32)} {res : Int32} (E : xE p s m args meth c cX3_pairsGained 5 (some .int) RX3 D (xtys cI cZ cN cC)) : ∀ (n : Nat) (x3 : Int32) (x4 : Int32), f_X3_pairsGained_5 x1 x2 pts mem n x3 x4 = some res → ∀ (H : Heap) (locs : List Loc) (ls : Array Slot), xw D (xA ws0) s.heap (wNet cI cZ cN cC h0 h1 h2 h3 pts wrk out mem abv) H locs → lv_has ls 5 [(0, .ref h0), (1, .int x1), (2, .int x2), (3, .int x3), (4, .int x4)] → xG p l e 3 66 s m args below meth c D ws0 (wNet cI cZ cN cC h0 h1 h2 h3 pts wrk out mem abv) (some (.int res)) H locs (F0 m 5 ls []) := by
  obtain ⟨hx, hb, -⟩ := id E
  intro n
  induction n with
  | zero =>
    intro _ _ hf
    rw [f_X3_pairsGained_5] at hf; cases hf
  | succ n ih =>
    intro x3 x4 hf H locs ls hw hl
    rw [f_X3_pairsGained_5] at hf
    refine lv_iload hx hb dX3_pairsGained_5 (lv_at hl 4 rfl) ?_
    refine lv_aload_n hx hb dX3_pairsGained_7 rfl (lv_at hl 0 rfl) ?_
    refine x_get E hw kin_X3 0 rfl rfl 0 (by decide) kF_X3_25 (v := .int pts) rfl dX3_pairsGained_8 ?_
    refine lv_icmp_ge (tgt := 34) hx hb dX3_pairsGained_11 (by decide) (fun c1 => ?_) (fun c1 => ?_)
    · rw [if_pos c1] at hf
      refine lv_iload_n hx hb dX3_pairsGained_34 rfl (lv_at hl 3 rfl) ?_
      cases hf
      exact x_iret E hw dX3_pairsGained_35
    · rw [if_neg c1] at hf
      refine lv_iload_n hx hb dX3_pairsGained_14 rfl (lv_at hl 3 rfl) ?_
      refine lv_aload_n hx hb dX3_pairsGained_15 rfl (lv_at hl 0 rfl) ?_
      refine lv_iload hx hb dX3_pairsGained_16 (lv_at hl 4 rfl) ?_
      refine lv_iload_n hx hb dX3_pairsGained_18 rfl (lv_at hl 1 rfl) ?_
      refine lv_iload_n hx hb dX3_pairsGained_19 rfl (lv_at hl 2 rfl) ?_
      obtain ⟨q2, hq2, hf⟩ := Option.bind_eq_some_iff.mp hf
      refine x_callV (isC := [0, 1, 2, 3]) (ws' := (wNet cI cZ cN cC h0 h1 h2 h3 pts wrk out mem abv)) (st1 := [.int q2, .int x3]) (As := [.int x4, .int x1, .int x2]) (rest := [.int x3]) E hw vc_X3_102 (c_X3_newMembers (cI := cI) (cZ := cZ) (cN := cN) (cC := cC) (h0 := h0) (h1 := h1) (h2 := h2) (h3 := h3)  (pts := pts) (wrk := wrk) (out := out) (mem := mem) (abv := abv) (x1 := x4) (x2 := x1) (x3 := x2) hq2) 0 3 rfl rfl rfl rfl rfl rfl rfl rfl rfl ⟨Nat.le_of_ble_eq_true rfl, Nat.le_of_ble_eq_true rfl⟩ ⟨Nat.le_refl _, Nat.le_refl _⟩ hl.1 rfl rfl (Nat.le_of_ble_eq_true rfl) dX3_pairsGained_20 (fun H locs hw => ?_)
      refine x_callS (isC := []) (ws' := (wNet cI cZ cN cC h0 h1 h2 h3 pts wrk out mem abv)) (st1 := [.int (f_J6_bitCount_0f7a4 q2), .int x3]) (As := [.int q2]) (rest := [.int x3]) E hw vc_X3_56 (c_J6_bitCount_0f7a4 (cI := cI) (cZ := cZ) (cN := cN) (cC := cC)    (x0 := q2) rfl) rfl rfl rfl rfl rfl rfl ⟨Nat.le_of_ble_eq_true rfl, Nat.le_of_ble_eq_true rfl⟩ ⟨Nat.le_refl _, Nat.le_refl _⟩ hl.1 rfl rfl (Nat.le_of_ble_eq_true rfl) dX3_pairsGained_23 (fun H locs hw => ?_)
      refine lv_iadd hx hb dX3_pairsGained_26 ?_
      refine lv_istore_n (lv' := [(3, .int (x3 + (f_J6_bitCount_0f7a4 q2))), (0, .ref h0), (1, .int x1), (2, .int x2), (4, .int x4)]) hx hb dX3_pairsGained_27 rfl hl (by decide) rfl (fun ls hl => ?_)
      refine lv_iinc (v := (x4 + 1)) (lv' := [(4, .int (x4 + 1)), (3, .int (x3 + (f_J6_bitCount_0f7a4 q2))), (0, .ref h0), (1, .int x1), (2, .int x2)]) hx hb dX3_pairsGained_28 hl (k := 4) rfl rfl (by decide) rfl (fun ls hl => ?_)
      refine lv_goto (tgt := 5) hx hb dX3_pairsGained_31 (by decide) ?_
      exact ih _ _ hf _ _ _ hw (lv_sub hl [2, 3, 4, 1, 0] rfl)
def f_X3_pairsGained (N : Nat) (x1 : Int32) (x2 : Int32) (pts : Int32) (mem : (Nat → Int32)) : Option (Int32) :=
  f_X3_pairsGained_5 x1 x2 pts mem N 0 0
set_option maxHeartbeats 4000000 in
set_option maxRecDepth 100000 in
theorem c_X3_pairsGained {l : Launch} {D : va_G} {cI cZ cN cC : ClassId} {h0 h1 h2 h3 : Nat} {pts : Int32} {wrk : Int32} {out : (Nat → Int32)} {mem : (Nat → Int32)} {abv : (Nat → Int32)} {x1 : Int32} {x2 : Int32} {N : Nat} {res : Int32} (hf : f_X3_pairsGained N x1 x2 pts mem = some res) : xMet l D (xtys cI cZ cN cC) yX3_pairsGained cX3_pairsGained 5 (some .int) 3 66 [.ref h0, .int x1, .int x2] (wNet cI cZ cN cC h0 h1 h2 h3 pts wrk out mem abv) (wNet cI cZ cN cC h0 h1 h2 h3 pts wrk out mem abv) (some (.int res)) := by
  refine x_enter (by decide) (Nat.le_of_ble_eq_true rfl) ?_
  intro p e s m args below meth c E ls hl hw
  have E : xE p s m args meth c cX3_pairsGained 5 (some .int) RX3 D (xtys cI cZ cN cC) := E
  obtain ⟨hx, hb, -⟩ := id E
  have hl : lv_has ls 5 [(0, .ref h0), (1, .int x1), (2, .int x2)] := hl
  unfold f_X3_pairsGained at hf
  refine lv_iconst (v := 0) hx hb dX3_pairsGained_0 (by decide) ?_
  refine lv_istore_n (lv' := [(3, .int 0), (0, .ref h0), (1, .int x1), (2, .int x2)]) hx hb dX3_pairsGained_1 rfl hl (by decide) rfl (fun ls hl => ?_)
  refine lv_iconst (v := 0) hx hb dX3_pairsGained_2 (by decide) ?_
  refine lv_istore (lv' := [(4, .int 0), (3, .int 0), (0, .ref h0), (1, .int x1), (2, .int x2)]) hx hb dX3_pairsGained_3 hl (by decide) rfl (fun ls hl => ?_)
  exact b_X3_pairsGained_5 E N _ _ hf _ _ _ hw (lv_sub hl [2, 3, 4, 1, 0] rfl)

def f_X3_workGained_5 (N : Nat) (x1 : Int32) (x2 : Int32) (pts : Int32) (out : (Nat → Int32)) (mem : (Nat → Int32)) : Nat → Int32 → Int32 → Option (Int32)
  | 0, _, _ => none
  | n + 1, x3, x4 =>
    if pts ≤ x4 then
     some x3
    else
     (f_X3_comesTo x4 x1 mem).bind fun q2 =>
     if q2 = 0 then
      f_X3_workGained_5 N x1 x2 pts out mem n x3 (x4 + 1)
     else
      (f_X3_newMembers x4 x1 x2 mem).bind fun q4 =>
      (f_X3_arcsBetween N q4 (f_X3_allPoints pts) pts out).bind fun q5 =>
      f_X3_workGained_5 N x1 x2 pts out mem n (x3 + (1 + q5)) (x4 + 1)
set_option maxHeartbeats 4000000 in
set_option maxRecDepth 100000 in
theorem b_X3_workGained_5 {p : Program} {l : Launch} {e : Env} {s : State} {m : MethodId} {args : Array Value} {below : List Frame} {meth : Method} {c : Code} {D : va_G} {cI cZ cN cC : ClassId} {ws0 : va_W} {h0 h1 h2 h3 : Nat} {x1 : Int32} {x2 : Int32} {pts : Int32} {wrk : Int32} {out : (Nat → Int32)} {mem : (Nat → Int32)} {abv : (Nat → Int32)} {N : Nat} {res : Int32} (E : xE p s m args meth c cX3_workGained 5 (some .int) RX3 D (xtys cI cZ cN cC)) : ∀ (n : Nat) (x3 : Int32) (x4 : Int32), f_X3_workGained_5 N x1 x2 pts out mem n x3 x4 = some res → ∀ (H : Heap) (locs : List Loc) (ls : Array Slot), xw D (xA ws0) s.heap (wNet cI cZ cN cC h0 h1 h2 h3 pts wrk out mem abv) H locs → lv_has ls 5 [(0, .ref h0), (1, .int x1), (2, .int x2), (3, .int x3), (4, .int x4)] → xG p l e 3 66 s m args below meth c D ws0 (wNet cI cZ cN cC h0 h1 h2 h3 pts wrk out mem abv) (some (.int res)) H locs (F0 m 5 ls []) := by
  obtain ⟨hx, hb, -⟩ := id E
  intro n
  induction n with
  | zero =>
    intro _ _ hf
    rw [f_X3_workGained_5] at hf; cases hf
  | succ n ih =>
    intro x3 x4 hf H locs ls hw hl
    rw [f_X3_workGained_5] at hf
    refine lv_iload hx hb dX3_workGained_5 (lv_at hl 4 rfl) ?_
    refine lv_aload_n hx hb dX3_workGained_7 rfl (lv_at hl 0 rfl) ?_
    refine x_get E hw kin_X3 0 rfl rfl 0 (by decide) kF_X3_25 (v := .int pts) rfl dX3_workGained_8 ?_
    refine lv_icmp_ge (tgt := 51) hx hb dX3_workGained_11 (by decide) (fun c1 => ?_) (fun c1 => ?_)
    · rw [if_pos c1] at hf
      refine lv_iload_n hx hb dX3_workGained_51 rfl (lv_at hl 3 rfl) ?_
      cases hf
      exact x_iret E hw dX3_workGained_52
    · rw [if_neg c1] at hf
      refine lv_aload_n hx hb dX3_workGained_14 rfl (lv_at hl 0 rfl) ?_
      refine lv_iload hx hb dX3_workGained_15 (lv_at hl 4 rfl) ?_
      refine lv_iload_n hx hb dX3_workGained_17 rfl (lv_at hl 1 rfl) ?_
      obtain ⟨q2, hq2, hf⟩ := Option.bind_eq_some_iff.mp hf
      refine x_callV (isC := [0, 1, 2, 3]) (ws' := (wNet cI cZ cN cC h0 h1 h2 h3 pts wrk out mem abv)) (st1 := [.int q2]) (As := [.int x4, .int x1]) (rest := []) E hw vc_X3_65 (c_X3_comesTo (cI := cI) (cZ := cZ) (cN := cN) (cC := cC) (h0 := h0) (h1 := h1) (h2 := h2) (h3 := h3)  (pts := pts) (wrk := wrk) (out := out) (mem := mem) (abv := abv) (x1 := x4) (x2 := x1) hq2) 0 3 rfl rfl rfl rfl rfl rfl rfl rfl rfl ⟨Nat.le_of_ble_eq_true rfl, Nat.le_of_ble_eq_true rfl⟩ ⟨Nat.le_refl _, Nat.le_refl _⟩ hl.1 rfl rfl (Nat.le_of_ble_eq_true rfl) dX3_workGained_18 (fun H locs hw => ?_)
      refine lv_if_eq (tgt := 45) hx hb dX3_workGained_21 (by decide) (fun c3 => ?_) (fun c3 => ?_)
      · rw [if_pos c3] at hf
        refine lv_iinc (v := (x4 + 1)) (lv' := [(4, .int (x4 + 1)), (0, .ref h0), (1, .int x1), (2, .int x2), (3, .int x3)]) hx hb dX3_workGained_45 hl (k := 4) rfl rfl (by decide) rfl (fun ls hl => ?_)
        refine lv_goto (tgt := 5) hx hb dX3_workGained_48 (by decide) ?_
        exact ih _ _ hf _ _ _ hw (lv_sub hl [1, 2, 3, 4, 0] rfl)
      · rw [if_neg c3] at hf
        refine lv_iload_n hx hb dX3_workGained_24 rfl (lv_at hl 3 rfl) ?_
        refine lv_iconst (v := 1) hx hb dX3_workGained_25 (by decide) ?_
        refine lv_aload_n hx hb dX3_workGained_26 rfl (lv_at hl 0 rfl) ?_
        refine lv_aload_n hx hb dX3_workGained_27 rfl (lv_at hl 0 rfl) ?_
        refine lv_iload hx hb dX3_workGained_28 (lv_at hl 4 rfl) ?_
        refine lv_iload_n hx hb dX3_workGained_30 rfl (lv_at hl 1 rfl) ?_
        refine lv_iload_n hx hb dX3_workGained_31 rfl (lv_at hl 2 rfl) ?_
        obtain ⟨q4, hq4, hf⟩ := Option.bind_eq_some_iff.mp hf
        refine x_callV (isC := [0, 1, 2, 3]) (ws' := (wNet cI cZ cN cC h0 h1 h2 h3 pts wrk out mem abv)) (st1 := [.int q4, .ref h0, .int 1, .int x3]) (As := [.int x4, .int x1, .int x2]) (rest := [.ref h0, .int 1, .int x3]) E hw vc_X3_102 (c_X3_newMembers (cI := cI) (cZ := cZ) (cN := cN) (cC := cC) (h0 := h0) (h1 := h1) (h2 := h2) (h3 := h3)  (pts := pts) (wrk := wrk) (out := out) (mem := mem) (abv := abv) (x1 := x4) (x2 := x1) (x3 := x2) hq4) 0 3 rfl rfl rfl rfl rfl rfl rfl rfl rfl ⟨Nat.le_of_ble_eq_true rfl, Nat.le_of_ble_eq_true rfl⟩ ⟨Nat.le_refl _, Nat.le_refl _⟩ hl.1 rfl rfl (Nat.le_of_ble_eq_true rfl) dX3_workGained_32 (fun H locs hw => ?_)
        refine lv_aload_n hx hb dX3_workGained_35 rfl (lv_at hl 0 rfl) ?_
        refine x_callV (isC := [0, 1, 2, 3]) (ws' := (wNet cI cZ cN cC h0 h1 h2 h3 pts wrk out mem abv)) (st1 := [.int (f_X3_allPoints pts), .int q4, .ref h0, .int 1, .int x3]) (As := []) (rest := [.int q4, .ref h0, .int 1, .int x3]) E hw vc_X3_48 (c_X3_allPoints (cI := cI) (cZ := cZ) (cN := cN) (cC := cC) (h0 := h0) (h1 := h1) (h2 := h2) (h3 := h3)  (pts := pts) (wrk := wrk) (out := out) (mem := mem) (abv := abv)  rfl) 0 3 rfl rfl rfl rfl rfl rfl rfl rfl rfl ⟨Nat.le_of_ble_eq_true rfl, Nat.le_of_ble_eq_true rfl⟩ ⟨Nat.le_refl _, Nat.le_refl _⟩ hl.1 rfl rfl (Nat.le_of_ble_eq_true rfl) dX3_workGained_36 (fun H locs hw => ?_)
        obtain ⟨q5, hq5, hf⟩ := Option.bind_eq_some_iff.mp hf
        refine x_callV (isC := [0, 1, 2, 3]) (ws' := (wNet cI cZ cN cC h0 h1 h2 h3 pts wrk out mem abv)) (st1 := [.int q5, .int 1, .int x3]) (As := [.int q4, .int (f_X3_allPoints pts)]) (rest := [.int 1, .int x3]) E hw vc_X3_52 (c_X3_arcsBetween (cI := cI) (cZ := cZ) (cN := cN) (cC := cC) (h0 := h0) (h1 := h1) (h2 := h2) (h3 := h3)  (pts := pts) (wrk := wrk) (out := out) (mem := mem) (abv := abv) (x1 := q4) (x2 := (f_X3_allPoints pts)) hq5) 0 3 rfl rfl rfl rfl rfl rfl rfl rfl rfl ⟨Nat.le_of_ble_eq_true rfl, Nat.le_of_ble_eq_true rfl⟩ ⟨Nat.le_refl _, Nat.le_refl _⟩ hl.1 rfl rfl (Nat.le_of_ble_eq_true rfl) dX3_workGained_39 (fun H locs hw => ?_)
        refine lv_iadd hx hb dX3_workGained_42 ?_
        refine lv_iadd hx hb dX3_workGained_43 ?_
        refine lv_istore_n (lv' := [(3, .int (x3 + (1 + q5))), (0, .ref h0), (1, .int x1), (2, .int x2), (4, .int x4)]) hx hb dX3_workGained_44 rfl hl (by decide) rfl (fun ls hl => ?_)
        refine lv_iinc (v := (x4 + 1)) (lv' := [(4, .int (x4 + 1)), (3, .int (x3 + (1 + q5))), (0, .ref h0), (1, .int x1), (2, .int x2)]) hx hb dX3_workGained_45 hl (k := 4) rfl rfl (by decide) rfl (fun ls hl => ?_)
        refine lv_goto (tgt := 5) hx hb dX3_workGained_48 (by decide) ?_
        exact ih _ _ hf _ _ _ hw (lv_sub hl [2, 3, 4, 1, 0] rfl)
def f_X3_workGained (N : Nat) (x1 : Int32) (x2 : Int32) (pts : Int32) (out : (Nat → Int32)) (mem : (Nat → Int32)) : Option (Int32) :=
  f_X3_workGained_5 N x1 x2 pts out mem N 0 0
set_option maxHeartbeats 4000000 in
set_option maxRecDepth 100000 in
theorem c_X3_workGained {l : Launch} {D : va_G} {cI cZ cN cC : ClassId} {h0 h1 h2 h3 : Nat} {pts : Int32} {wrk : Int32} {out : (Nat → Int32)} {mem : (Nat → Int32)} {abv : (Nat → Int32)} {x1 : Int32} {x2 : Int32} {N : Nat} {res : Int32} (hf : f_X3_workGained N x1 x2 pts out mem = some res) : xMet l D (xtys cI cZ cN cC) yX3_workGained cX3_workGained 5 (some .int) 3 66 [.ref h0, .int x1, .int x2] (wNet cI cZ cN cC h0 h1 h2 h3 pts wrk out mem abv) (wNet cI cZ cN cC h0 h1 h2 h3 pts wrk out mem abv) (some (.int res)) := by
  refine x_enter (by decide) (Nat.le_of_ble_eq_true rfl) ?_
  intro p e s m args below meth c E ls hl hw
  have E : xE p s m args meth c cX3_workGained 5 (some .int) RX3 D (xtys cI cZ cN cC) := E
  obtain ⟨hx, hb, -⟩ := id E
  have hl : lv_has ls 5 [(0, .ref h0), (1, .int x1), (2, .int x2)] := hl
  unfold f_X3_workGained at hf
  refine lv_iconst (v := 0) hx hb dX3_workGained_0 (by decide) ?_
  refine lv_istore_n (lv' := [(3, .int 0), (0, .ref h0), (1, .int x1), (2, .int x2)]) hx hb dX3_workGained_1 rfl hl (by decide) rfl (fun ls hl => ?_)
  refine lv_iconst (v := 0) hx hb dX3_workGained_2 (by decide) ?_
  refine lv_istore (lv' := [(4, .int 0), (3, .int 0), (0, .ref h0), (1, .int x1), (2, .int x2)]) hx hb dX3_workGained_3 hl (by decide) rfl (fun ls hl => ?_)
  exact b_X3_workGained_5 E N _ _ hf _ _ _ hw (lv_sub hl [2, 3, 4, 1, 0] rfl)

def f_X3_makeEmpty_28 (pts : Int32) (wrk : Int32) (out : (Nat → Int32)) (abv : (Nat → Int32)) : Nat → Int32 → (Nat → Int32) → Option (Int32 × Int32 × (Nat → Int32) × (Nat → Int32) × (Nat → Int32))
  | 0, _, _ => none
  | n + 1, x2, mem =>
    if 10 ≤ x2 then
     some (pts, wrk, out, mem, abv)
    else
     if xin x2 10 then
     f_X3_makeEmpty_28 pts wrk out abv n (x2 + 1) (upd mem (Int32.toNatClampNeg x2) (1 <<< (x2 &&& 31)))
     else none
set_option maxHeartbeats 4000000 in
set_option maxRecDepth 100000 in
theorem b_X3_makeEmpty_28 {p : Program} {l : Launch} {e : Env} {s : State} {m : MethodId} {args : Array Value} {below : List Frame} {meth : Method} {c : Code} {D : va_G} {cI cZ cN cC : ClassId} {ws0 : va_W} {h0 h1 h2 h3 : Nat} {pts : Int32} {wrk : Int32} {out : (Nat → Int32)} {abv : (Nat → Int32)} {res : Int32 × Int32 × (Nat → Int32) × (Nat → Int32) × (Nat → Int32)} (E : xE p s m args meth c cX3_makeEmpty 3 none RX3 D (xtys cI cZ cN cC)) : ∀ (n : Nat) (x2 : Int32) (mem : (Nat → Int32)), f_X3_makeEmpty_28 pts wrk out abv n x2 mem = some res → ∀ (H : Heap) (locs : List Loc) (ls : Array Slot), xw D (xA ws0) s.heap (wNet cI cZ cN cC h0 h1 h2 h3 pts wrk out mem abv) H locs → lv_has ls 3 [(0, .ref h0), (2, .int x2)] → xG p l e 1 23 s m args below meth c D ws0 (wNet cI cZ cN cC h0 h1 h2 h3 res.1 res.2.1 res.2.2.1 res.2.2.2.1 res.2.2.2.2) none H locs (F0 m 28 ls []) := by
  obtain ⟨hx, hb, -⟩ := id E
  intro n
  induction n with
  | zero =>
    intro _ _ hf
    rw [f_X3_makeEmpty_28] at hf; cases hf
  | succ n ih =>
    intro x2 mem hf H locs ls hw hl
    rw [f_X3_makeEmpty_28] at hf
    refine lv_iload_n hx hb dX3_makeEmpty_28 rfl (lv_at hl 1 rfl) ?_
    refine lv_bipush (v := 10) hx hb dX3_makeEmpty_29 (by decide) ?_
    refine lv_icmp_ge (tgt := 49) hx hb dX3_makeEmpty_31 (by decide) (fun c3 => ?_) (fun c3 => ?_)
    · rw [if_pos c3] at hf
      cases hf
      exact x_vret E hw dX3_makeEmpty_49
    · rw [if_neg c3] at hf
      refine lv_aload_n hx hb dX3_makeEmpty_34 rfl (lv_at hl 0 rfl) ?_
      refine x_get E hw kin_X3 0 rfl rfl 3 (by decide) kF_X3_15 (v := .ref h2) rfl dX3_makeEmpty_35 ?_
      refine lv_iload_n hx hb dX3_makeEmpty_38 rfl (lv_at hl 1 rfl) ?_
      refine lv_iconst (v := 1) hx hb dX3_makeEmpty_39 (by decide) ?_
      refine lv_iload_n hx hb dX3_makeEmpty_40 rfl (lv_at hl 1 rfl) ?_
      refine lv_ishl hx hb dX3_makeEmpty_41 ?_
      obtain ⟨g4, hf⟩ := xgd hf
      refine x_iast (ws' := (wNet cI cZ cN cC h0 h1 h2 h3 pts wrk out (upd mem (Int32.toNatClampNeg x2) (1 <<< (x2 &&& 31))) abv)) E hw 2 0 rfl rfl (xin_vp g4) rfl dX3_makeEmpty_42 (fun H locs hw => ?_)
      refine lv_iinc (v := (x2 + 1)) (lv' := [(2, .int (x2 + 1)), (0, .ref h0)]) hx hb dX3_makeEmpty_43 hl (k := 1) rfl rfl (by decide) rfl (fun ls hl => ?_)
      refine lv_goto (tgt := 28) hx hb dX3_makeEmpty_46 (by decide) ?_
      exact ih _ _ hf _ _ _ hw (lv_sub hl [1, 0] rfl)
def f_X3_makeEmpty (N : Nat) (x1 : Int32) (out : (Nat → Int32)) (mem : (Nat → Int32)) (abv : (Nat → Int32)) : Option (Int32 × Int32 × (Nat → Int32) × (Nat → Int32) × (Nat → Int32)) :=
  (f_J7_fill_53178 N 0 out 10).bind fun q1 =>
  (f_J7_fill_53178 N (-1) abv 100).bind fun q2 =>
  f_X3_makeEmpty_28 x1 0 q1 q2 N 0 mem
set_option maxHeartbeats 4000000 in
set_option maxRecDepth 100000 in
theorem c_X3_makeEmpty {l : Launch} {D : va_G} {cI cZ cN cC : ClassId} {h0 h1 h2 h3 : Nat} {pts : Int32} {wrk : Int32} {out : (Nat → Int32)} {mem : (Nat → Int32)} {abv : (Nat → Int32)} {x1 : Int32} {N : Nat} {res : Int32 × Int32 × (Nat → Int32) × (Nat → Int32) × (Nat → Int32)} (hf : f_X3_makeEmpty N x1 out mem abv = some res) : xMet l D (xtys cI cZ cN cC) yX3_makeEmpty cX3_makeEmpty 3 none 1 23 [.ref h0, .int x1] (wNet cI cZ cN cC h0 h1 h2 h3 pts wrk out mem abv) (wNet cI cZ cN cC h0 h1 h2 h3 res.1 res.2.1 res.2.2.1 res.2.2.2.1 res.2.2.2.2) none := by
  refine x_enter (by decide) (Nat.le_of_ble_eq_true rfl) ?_
  intro p e s m args below meth c E ls hl hw
  have E : xE p s m args meth c cX3_makeEmpty 3 none RX3 D (xtys cI cZ cN cC) := E
  obtain ⟨hx, hb, -⟩ := id E
  have hl : lv_has ls 3 [(0, .ref h0), (1, .int x1)] := hl
  unfold f_X3_makeEmpty at hf
  refine lv_aload_n hx hb dX3_makeEmpty_0 rfl (lv_at hl 0 rfl) ?_
  refine lv_iload_n hx hb dX3_makeEmpty_1 rfl (lv_at hl 1 rfl) ?_
  refine x_put (ws' := (wNet cI cZ cN cC h0 h1 h2 h3 x1 wrk out mem abv)) E hw kin_X3 tyX3 tyX3_ok nmX3 0 rfl rfl 0 (by decide) kF_X3_25 rfl (v := .int x1) rfl rfl (by decide) rfl dX3_makeEmpty_2 (fun H locs hw => ?_)
  refine lv_aload_n hx hb dX3_makeEmpty_5 rfl (lv_at hl 0 rfl) ?_
  refine lv_iconst (v := 0) hx hb dX3_makeEmpty_6 (by decide) ?_
  refine x_put (ws' := (wNet cI cZ cN cC h0 h1 h2 h3 x1 0 out mem abv)) E hw kin_X3 tyX3 tyX3_ok nmX3 0 rfl rfl 1 (by decide) kF_X3_29 rfl (v := .int 0) rfl rfl (by decide) rfl dX3_makeEmpty_7 (fun H locs hw => ?_)
  refine lv_aload_n hx hb dX3_makeEmpty_10 rfl (lv_at hl 0 rfl) ?_
  refine x_get E hw kin_X3 0 rfl rfl 2 (by decide) kF_X3_9 (v := .ref h1) rfl dX3_makeEmpty_11 ?_
  refine lv_iconst (v := 0) hx hb dX3_makeEmpty_14 (by decide) ?_
  obtain ⟨q1, hq1, hf⟩ := Option.bind_eq_some_iff.mp hf
  refine x_callS (isC := [1]) (ws' := (wNet cI cZ cN cC h0 h1 h2 h3 x1 0 q1 mem abv)) (st1 := []) (As := [.ref h1, .int 0]) (rest := []) E hw vc_X3_32 (c_J7_fill_53178 (cI := cI) (cZ := cZ) (cN := cN) (cC := cC) (h0 := h1) (nn := 10) (arr := out) (x1 := 0) hq1) rfl rfl rfl rfl rfl rfl ⟨Nat.le_of_ble_eq_true rfl, Nat.le_of_ble_eq_true rfl⟩ ⟨Nat.le_refl _, Nat.le_refl _⟩ hl.1 rfl rfl (Nat.le_of_ble_eq_true rfl) dX3_makeEmpty_15 (fun H locs hw => ?_)
  refine lv_aload_n hx hb dX3_makeEmpty_18 rfl (lv_at hl 0 rfl) ?_
  refine x_get E hw kin_X3 0 rfl rfl 4 (by decide) kF_X3_18 (v := .ref h3) rfl dX3_makeEmpty_19 ?_
  refine lv_iconst (v := (-1)) hx hb dX3_makeEmpty_22 (by decide) ?_
  obtain ⟨q2, hq2, hf⟩ := Option.bind_eq_some_iff.mp hf
  refine x_callS (isC := [3]) (ws' := (wNet cI cZ cN cC h0 h1 h2 h3 x1 0 q1 mem q2)) (st1 := []) (As := [.ref h3, .int (-1)]) (rest := []) E hw vc_X3_32 (c_J7_fill_53178 (cI := cI) (cZ := cZ) (cN := cN) (cC := cC) (h0 := h3) (nn := 100) (arr := abv) (x1 := (-1)) hq2) rfl rfl rfl rfl rfl rfl ⟨Nat.le_of_ble_eq_true rfl, Nat.le_of_ble_eq_true rfl⟩ ⟨Nat.le_refl _, Nat.le_refl _⟩ hl.1 rfl rfl (Nat.le_of_ble_eq_true rfl) dX3_makeEmpty_23 (fun H locs hw => ?_)
  refine lv_iconst (v := 0) hx hb dX3_makeEmpty_26 (by decide) ?_
  refine lv_istore_n (lv' := [(2, .int 0), (0, .ref h0), (1, .int x1)]) hx hb dX3_makeEmpty_27 rfl hl (by decide) rfl (fun ls hl => ?_)
  exact b_X3_makeEmpty_28 E N _ _ hf _ _ _ hw (lv_sub hl [1, 0] rfl)

abbrev wNet2 (cI cZ cN cC : ClassId) (h0 h1 h2 h3 k0 k1 k2 k3 : Nat) (pts : Int32) (wrk : Int32) (out : Nat → Int32) (mem : Nat → Int32) (abv : Nat → Int32) (pts2 : Int32) (wrk2 : Int32) (out2 : Nat → Int32) (mem2 : Nat → Int32) (abv2 : Nat → Int32) : va_W := [(h0, .inr (3, [.int pts, .int wrk, .ref h1, .ref h2, .ref h3])), (h1, .inl (cI, 10, .inl out)), (h2, .inl (cI, 10, .inl mem)), (h3, .inl (cI, 100, .inl abv)), (k0, .inr (3, [.int pts2, .int wrk2, .ref k1, .ref k2, .ref k3])), (k1, .inl (cI, 10, .inl out2)), (k2, .inl (cI, 10, .inl mem2)), (k3, .inl (cI, 100, .inl abv2))]
def f_X3_copyFrom (out : (Nat → Int32)) (mem : (Nat → Int32)) (abv : (Nat → Int32)) (pts2 : Int32) (wrk2 : Int32) (out2 : (Nat → Int32)) (mem2 : (Nat → Int32)) (abv2 : (Nat → Int32)) : (Int32 × Int32 × (Nat → Int32) × (Nat → Int32) × (Nat → Int32)) :=
  (pts2, wrk2, (va_cpy out2 out (Int32.toNatClampNeg 0) (Int32.toNatClampNeg 0) (Int32.toNatClampNeg 10)), (va_cpy mem2 mem (Int32.toNatClampNeg 0) (Int32.toNatClampNeg 0) (Int32.toNatClampNeg 10)), (va_cpy abv2 abv (Int32.toNatClampNeg 0) (Int32.toNatClampNeg 0) (Int32.toNatClampNeg 100)))
set_option maxHeartbeats 4000000 in
set_option maxRecDepth 100000 in
theorem c_X3_copyFrom {l : Launch} {D : va_G} {cI cZ cN cC : ClassId} {h0 h1 h2 h3 k0 k1 k2 k3 : Nat} {pts : Int32} {wrk : Int32} {out : (Nat → Int32)} {mem : (Nat → Int32)} {abv : (Nat → Int32)} {pts2 : Int32} {wrk2 : Int32} {out2 : (Nat → Int32)} {mem2 : (Nat → Int32)} {abv2 : (Nat → Int32)}  {res : Int32 × Int32 × (Nat → Int32) × (Nat → Int32) × (Nat → Int32)} (hf : f_X3_copyFrom out mem abv pts2 wrk2 out2 mem2 abv2 = res) : xMet l D (xtys cI cZ cN cC) yX3_copyFrom cX3_copyFrom 2 none 1 60 [.ref h0, .ref k0] (wNet2 cI cZ cN cC h0 h1 h2 h3 k0 k1 k2 k3 pts wrk out mem abv pts2 wrk2 out2 mem2 abv2) (wNet2 cI cZ cN cC h0 h1 h2 h3 k0 k1 k2 k3 res.1 res.2.1 res.2.2.1 res.2.2.2.1 res.2.2.2.2 pts2 wrk2 out2 mem2 abv2) none := by
  refine x_enter (by decide) (Nat.le_of_ble_eq_true rfl) ?_
  intro p e s m args below meth c E ls hl hw
  have E : xE p s m args meth c cX3_copyFrom 2 none RX3 D (xtys cI cZ cN cC) := E
  obtain ⟨hx, hb, -⟩ := id E
  have hl : lv_has ls 2 [(0, .ref h0), (1, .ref k0)] := hl
  unfold f_X3_copyFrom at hf
  refine lv_aload_n hx hb dX3_copyFrom_0 rfl (lv_at hl 0 rfl) ?_
  refine lv_aload_n hx hb dX3_copyFrom_1 rfl (lv_at hl 1 rfl) ?_
  refine x_get E hw kin_X3 4 rfl rfl 0 (by decide) kF_X3_25 (v := .int pts2) rfl dX3_copyFrom_2 ?_
  refine x_put (ws' := (wNet2 cI cZ cN cC h0 h1 h2 h3 k0 k1 k2 k3 pts2 wrk out mem abv pts2 wrk2 out2 mem2 abv2)) E hw kin_X3 tyX3 tyX3_ok nmX3 0 rfl rfl 0 (by decide) kF_X3_25 rfl (v := .int pts2) rfl rfl (by decide) rfl dX3_copyFrom_5 (fun H locs hw => ?_)
  refine lv_aload_n hx hb dX3_copyFrom_8 rfl (lv_at hl 0 rfl) ?_
  refine lv_aload_n hx hb dX3_copyFrom_9 rfl (lv_at hl 1 rfl) ?_
  refine x_get E hw kin_X3 4 rfl rfl 1 (by decide) kF_X3_29 (v := .int wrk2) rfl dX3_copyFrom_10 ?_
  refine x_put (ws' := (wNet2 cI cZ cN cC h0 h1 h2 h3 k0 k1 k2 k3 pts2 wrk2 out mem abv pts2 wrk2 out2 mem2 abv2)) E hw kin_X3 tyX3 tyX3_ok nmX3 0 rfl rfl 1 (by decide) kF_X3_29 rfl (v := .int wrk2) rfl rfl (by decide) rfl dX3_copyFrom_13 (fun H locs hw => ?_)
  refine lv_aload_n hx hb dX3_copyFrom_16 rfl (lv_at hl 1 rfl) ?_
  refine x_get E hw kin_X3 4 rfl rfl 2 (by decide) kF_X3_9 (v := .ref k1) rfl dX3_copyFrom_17 ?_
  refine lv_iconst (v := 0) hx hb dX3_copyFrom_20 (by decide) ?_
  refine lv_aload_n hx hb dX3_copyFrom_21 rfl (lv_at hl 0 rfl) ?_
  refine x_get E hw kin_X3 0 rfl rfl 2 (by decide) kF_X3_9 (v := .ref h1) rfl dX3_copyFrom_22 ?_
  refine lv_iconst (v := 0) hx hb dX3_copyFrom_25 (by decide) ?_
  refine lv_bipush (v := 10) hx hb dX3_copyFrom_26 (by decide) ?_
  refine x_copy (ws' := (wNet2 cI cZ cN cC h0 h1 h2 h3 k0 k1 k2 k3 pts2 wrk2 (va_cpy out2 out (Int32.toNatClampNeg 0) (Int32.toNatClampNeg 0) (Int32.toNatClampNeg 10)) mem abv pts2 wrk2 out2 mem2 abv2)) E hw (hl.1) kM_X3_38 5 1 rfl rfl rfl (by decide) (by decide) (by decide) (by decide) (by decide) (Nat.le_of_ble_eq_true rfl) (Nat.le_of_ble_eq_true rfl) rfl dX3_copyFrom_28 (fun H locs hw => ?_)
  refine lv_aload_n hx hb dX3_copyFrom_31 rfl (lv_at hl 1 rfl) ?_
  refine x_get E hw kin_X3 4 rfl rfl 3 (by decide) kF_X3_15 (v := .ref k2) rfl dX3_copyFrom_32 ?_
  refine lv_iconst (v := 0) hx hb dX3_copyFrom_35 (by decide) ?_
  refine lv_aload_n hx hb dX3_copyFrom_36 rfl (lv_at hl 0 rfl) ?_
  refine x_get E hw kin_X3 0 rfl rfl 3 (by decide) kF_X3_15 (v := .ref h2) rfl dX3_copyFrom_37 ?_
  refine lv_iconst (v := 0) hx hb dX3_copyFrom_40 (by decide) ?_
  refine lv_bipush (v := 10) hx hb dX3_copyFrom_41 (by decide) ?_
  refine x_copy (ws' := (wNet2 cI cZ cN cC h0 h1 h2 h3 k0 k1 k2 k3 pts2 wrk2 (va_cpy out2 out (Int32.toNatClampNeg 0) (Int32.toNatClampNeg 0) (Int32.toNatClampNeg 10)) (va_cpy mem2 mem (Int32.toNatClampNeg 0) (Int32.toNatClampNeg 0) (Int32.toNatClampNeg 10)) abv pts2 wrk2 out2 mem2 abv2)) E hw (hl.1) kM_X3_38 6 2 rfl rfl rfl (by decide) (by decide) (by decide) (by decide) (by decide) (Nat.le_of_ble_eq_true rfl) (Nat.le_of_ble_eq_true rfl) rfl dX3_copyFrom_43 (fun H locs hw => ?_)
  refine lv_aload_n hx hb dX3_copyFrom_46 rfl (lv_at hl 1 rfl) ?_
  refine x_get E hw kin_X3 4 rfl rfl 4 (by decide) kF_X3_18 (v := .ref k3) rfl dX3_copyFrom_47 ?_
  refine lv_iconst (v := 0) hx hb dX3_copyFrom_50 (by decide) ?_
  refine lv_aload_n hx hb dX3_copyFrom_51 rfl (lv_at hl 0 rfl) ?_
  refine x_get E hw kin_X3 0 rfl rfl 4 (by decide) kF_X3_18 (v := .ref h3) rfl dX3_copyFrom_52 ?_
  refine lv_iconst (v := 0) hx hb dX3_copyFrom_55 (by decide) ?_
  refine lv_bipush (v := 100) hx hb dX3_copyFrom_56 (by decide) ?_
  refine x_copy (ws' := (wNet2 cI cZ cN cC h0 h1 h2 h3 k0 k1 k2 k3 pts2 wrk2 (va_cpy out2 out (Int32.toNatClampNeg 0) (Int32.toNatClampNeg 0) (Int32.toNatClampNeg 10)) (va_cpy mem2 mem (Int32.toNatClampNeg 0) (Int32.toNatClampNeg 0) (Int32.toNatClampNeg 10)) (va_cpy abv2 abv (Int32.toNatClampNeg 0) (Int32.toNatClampNeg 0) (Int32.toNatClampNeg 100)) pts2 wrk2 out2 mem2 abv2)) E hw (hl.1) kM_X3_38 7 3 rfl rfl rfl (by decide) (by decide) (by decide) (by decide) (by decide) (Nat.le_of_ble_eq_true rfl) (Nat.le_of_ble_eq_true rfl) rfl dX3_copyFrom_58 (fun H locs hw => ?_)
  subst hf
  exact x_vret E hw dX3_copyFrom_61
end
