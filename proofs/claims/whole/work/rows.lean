section
-- ===== PART A: goes FIRST, ahead of the names: the tables' words, and 'selects' of the private methods out of them =====
/-- a private method of a class that the tables say can be made, by its rows of tables_1 -/
def lw_okq (q : MethodName × Nat) : Prop := (q.1.cls ≠ "java/lang/invoke/MethodHandle" ∧ q.1.cls ≠ "java/lang/invoke/VarHandle") ∧ Cond.instantiable q.1.cls q.2 ∈ tables_1 ∧ Cond.privateMethod q.1 ∈ tables_1 ∧ Cond.instanceMethod q.1 ∈ tables_1
theorem lw_p0 : lw_okq (⟨"ReachTrees$Reader", "readClause", "(I)Z"⟩, 7) := ⟨⟨by decide +kernel, by decide +kernel⟩, List.mem_of_getElem? (i := 43) (by decide +kernel), List.mem_of_getElem? (i := 209) (by decide +kernel), List.mem_of_getElem? (i := 210) (by decide +kernel)⟩
theorem lw_p1 : lw_okq (⟨"ReachTrees$Reader", "nextToken", "()V"⟩, 7) := ⟨⟨by decide +kernel, by decide +kernel⟩, List.mem_of_getElem? (i := 43) (by decide +kernel), List.mem_of_getElem? (i := 213) (by decide +kernel), List.mem_of_getElem? (i := 214) (by decide +kernel)⟩
theorem lw_p2 : lw_okq (⟨"ReachTrees$Reader", "kindOfToken", "()I"⟩, 7) := ⟨⟨by decide +kernel, by decide +kernel⟩, List.mem_of_getElem? (i := 43) (by decide +kernel), List.mem_of_getElem? (i := 220) (by decide +kernel), List.mem_of_getElem? (i := 221) (by decide +kernel)⟩
theorem lw_p3 : lw_okq (⟨"ReachTrees$Reader", "tokenIs", "(Ljava/lang/String;)Z"⟩, 7) := ⟨⟨by decide +kernel, by decide +kernel⟩, List.mem_of_getElem? (i := 43) (by decide +kernel), List.mem_of_getElem? (i := 232) (by decide +kernel), List.mem_of_getElem? (i := 233) (by decide +kernel)⟩
theorem lw_p4 : lw_okq (⟨"ReachTrees$Reader", "takeNumber", "(III)Z"⟩, 7) := ⟨⟨by decide +kernel, by decide +kernel⟩, List.mem_of_getElem? (i := 43) (by decide +kernel), List.mem_of_getElem? (i := 287) (by decide +kernel), List.mem_of_getElem? (i := 288) (by decide +kernel)⟩
theorem lw_p5 : lw_okq (⟨"ReachTrees$Reader", "tokenNumber", "()I"⟩, 7) := ⟨⟨by decide +kernel, by decide +kernel⟩, List.mem_of_getElem? (i := 43) (by decide +kernel), List.mem_of_getElem? (i := 291) (by decide +kernel), List.mem_of_getElem? (i := 292) (by decide +kernel)⟩
theorem lw_p6 : lw_okq (⟨"ReachTrees$Reader", "isSemicolon", "()Z"⟩, 7) := ⟨⟨by decide +kernel, by decide +kernel⟩, List.mem_of_getElem? (i := 43) (by decide +kernel), List.mem_of_getElem? (i := 299) (by decide +kernel), List.mem_of_getElem? (i := 300) (by decide +kernel)⟩
theorem lw_p7 : lw_okq (⟨"ReachTrees", "doClause", "(I)V"⟩, 8) := ⟨⟨by decide +kernel, by decide +kernel⟩, List.mem_of_getElem? (i := 18) (by decide +kernel), List.mem_of_getElem? (i := 308) (by decide +kernel), List.mem_of_getElem? (i := 309) (by decide +kernel)⟩
theorem lw_p8 : lw_okq (⟨"ReachTrees", "putIfNew", "(II)V"⟩, 8) := ⟨⟨by decide +kernel, by decide +kernel⟩, List.mem_of_getElem? (i := 18) (by decide +kernel), List.mem_of_getElem? (i := 314) (by decide +kernel), List.mem_of_getElem? (i := 315) (by decide +kernel)⟩
theorem lw_p9 : lw_okq (⟨"ReachTrees$Net", "graft", "(IIII)V"⟩, 5) := ⟨⟨by decide +kernel, by decide +kernel⟩, List.mem_of_getElem? (i := 73) (by decide +kernel), List.mem_of_getElem? (i := 351) (by decide +kernel), List.mem_of_getElem? (i := 352) (by decide +kernel)⟩
theorem lw_p10 : lw_okq (⟨"ReachTrees$Net", "followArcs", "(III)V"⟩, 5) := ⟨⟨by decide +kernel, by decide +kernel⟩, List.mem_of_getElem? (i := 73) (by decide +kernel), List.mem_of_getElem? (i := 355) (by decide +kernel), List.mem_of_getElem? (i := 356) (by decide +kernel)⟩
theorem lw_p11 : lw_okq (⟨"ReachTrees", "arePair", "(II)Z"⟩, 8) := ⟨⟨by decide +kernel, by decide +kernel⟩, List.mem_of_getElem? (i := 18) (by decide +kernel), List.mem_of_getElem? (i := 372) (by decide +kernel), List.mem_of_getElem? (i := 373) (by decide +kernel)⟩
theorem lw_p12 : lw_okq (⟨"ReachTrees", "isPoint", "(I)Z"⟩, 8) := ⟨⟨by decide +kernel, by decide +kernel⟩, List.mem_of_getElem? (i := 18) (by decide +kernel), List.mem_of_getElem? (i := 376) (by decide +kernel), List.mem_of_getElem? (i := 377) (by decide +kernel)⟩
theorem lw_p13 : lw_okq (⟨"ReachTrees$Net", "stoodOn", "(III)Z"⟩, 5) := ⟨⟨by decide +kernel, by decide +kernel⟩, List.mem_of_getElem? (i := 73) (by decide +kernel), List.mem_of_getElem? (i := 408) (by decide +kernel), List.mem_of_getElem? (i := 409) (by decide +kernel)⟩
theorem lw_p14 : lw_okq (⟨"ReachTrees$Net", "makeAnew", "(I)V"⟩, 5) := ⟨⟨by decide +kernel, by decide +kernel⟩, List.mem_of_getElem? (i := 73) (by decide +kernel), List.mem_of_getElem? (i := 416) (by decide +kernel), List.mem_of_getElem? (i := 417) (by decide +kernel)⟩
theorem lw_p15 : lw_okq (⟨"ReachTrees", "isArcThere", "(II)Z"⟩, 8) := ⟨⟨by decide +kernel, by decide +kernel⟩, List.mem_of_getElem? (i := 18) (by decide +kernel), List.mem_of_getElem? (i := 485) (by decide +kernel), List.mem_of_getElem? (i := 486) (by decide +kernel)⟩
def lw_privs_1 : List (MethodName × Nat) := [(⟨"ReachTrees$Reader", "readClause", "(I)Z"⟩, 7), (⟨"ReachTrees$Reader", "nextToken", "()V"⟩, 7), (⟨"ReachTrees$Reader", "kindOfToken", "()I"⟩, 7), (⟨"ReachTrees$Reader", "tokenIs", "(Ljava/lang/String;)Z"⟩, 7), (⟨"ReachTrees$Reader", "takeNumber", "(III)Z"⟩, 7), (⟨"ReachTrees$Reader", "tokenNumber", "()I"⟩, 7), (⟨"ReachTrees$Reader", "isSemicolon", "()Z"⟩, 7), (⟨"ReachTrees", "doClause", "(I)V"⟩, 8), (⟨"ReachTrees", "putIfNew", "(II)V"⟩, 8), (⟨"ReachTrees$Net", "graft", "(IIII)V"⟩, 5), (⟨"ReachTrees$Net", "followArcs", "(III)V"⟩, 5), (⟨"ReachTrees", "arePair", "(II)Z"⟩, 8), (⟨"ReachTrees", "isPoint", "(I)Z"⟩, 8), (⟨"ReachTrees$Net", "stoodOn", "(III)Z"⟩, 5), (⟨"ReachTrees$Net", "makeAnew", "(I)V"⟩, 5), (⟨"ReachTrees", "isArcThere", "(II)Z"⟩, 8)]
theorem lw_r1 : ∀ q ∈ lw_privs_1, lw_okq q := List.forall_mem_cons.mpr ⟨lw_p0, List.forall_mem_cons.mpr ⟨lw_p1, List.forall_mem_cons.mpr ⟨lw_p2, List.forall_mem_cons.mpr ⟨lw_p3, List.forall_mem_cons.mpr ⟨lw_p4, List.forall_mem_cons.mpr ⟨lw_p5, List.forall_mem_cons.mpr ⟨lw_p6, List.forall_mem_cons.mpr ⟨lw_p7, List.forall_mem_cons.mpr ⟨lw_p8, List.forall_mem_cons.mpr ⟨lw_p9, List.forall_mem_cons.mpr ⟨lw_p10, List.forall_mem_cons.mpr ⟨lw_p11, List.forall_mem_cons.mpr ⟨lw_p12, List.forall_mem_cons.mpr ⟨lw_p13, List.forall_mem_cons.mpr ⟨lw_p14, List.forall_mem_cons.mpr ⟨lw_p15, fun _ h => absurd h List.not_mem_nil⟩⟩⟩⟩⟩⟩⟩⟩⟩⟩⟩⟩⟩⟩⟩⟩
theorem lw_p16 : lw_okq (⟨"ReachTrees$Net", "membersWithout", "(III)I"⟩, 5) := ⟨⟨by decide +kernel, by decide +kernel⟩, List.mem_of_getElem? (i := 73) (by decide +kernel), List.mem_of_getElem? (i := 493) (by decide +kernel), List.mem_of_getElem? (i := 494) (by decide +kernel)⟩
theorem lw_p17 : lw_okq (⟨"ReachTrees", "foldPair", "(IIII)I"⟩, 8) := ⟨⟨by decide +kernel, by decide +kernel⟩, List.mem_of_getElem? (i := 18) (by decide +kernel), List.mem_of_getElem? (i := 519) (by decide +kernel), List.mem_of_getElem? (i := 520) (by decide +kernel)⟩
theorem lw_p18 : lw_okq (⟨"ReachTrees$Net", "newMembers", "(III)I"⟩, 5) := ⟨⟨by decide +kernel, by decide +kernel⟩, List.mem_of_getElem? (i := 73) (by decide +kernel), List.mem_of_getElem? (i := 537) (by decide +kernel), List.mem_of_getElem? (i := 538) (by decide +kernel)⟩
theorem lw_p19 : lw_okq (⟨"ReachTrees$Cut", "findWay", "(LReachTrees$Net;II)Z"⟩, 3) := ⟨⟨by decide +kernel, by decide +kernel⟩, List.mem_of_getElem? (i := 127) (by decide +kernel), List.mem_of_getElem? (i := 570) (by decide +kernel), List.mem_of_getElem? (i := 571) (by decide +kernel)⟩
theorem lw_p20 : lw_okq (⟨"ReachTrees$Cut", "useWay", "(II)V"⟩, 3) := ⟨⟨by decide +kernel, by decide +kernel⟩, List.mem_of_getElem? (i := 127) (by decide +kernel), List.mem_of_getElem? (i := 576) (by decide +kernel), List.mem_of_getElem? (i := 577) (by decide +kernel)⟩
theorem lw_p21 : lw_okq (⟨"ReachTrees$Cut", "useStep", "(II)V"⟩, 3) := ⟨⟨by decide +kernel, by decide +kernel⟩, List.mem_of_getElem? (i := 127) (by decide +kernel), List.mem_of_getElem? (i := 580) (by decide +kernel), List.mem_of_getElem? (i := 581) (by decide +kernel)⟩
theorem lw_p22 : lw_okq (⟨"ReachTrees", "isTellable", "(I)Z"⟩, 8) := ⟨⟨by decide +kernel, by decide +kernel⟩, List.mem_of_getElem? (i := 18) (by decide +kernel), List.mem_of_getElem? (i := 599) (by decide +kernel), List.mem_of_getElem? (i := 600) (by decide +kernel)⟩
theorem lw_p23 : lw_okq (⟨"ReachTrees", "strikeArcs", "(LReachTrees$Chain;Z)I"⟩, 8) := ⟨⟨by decide +kernel, by decide +kernel⟩, List.mem_of_getElem? (i := 18) (by decide +kernel), List.mem_of_getElem? (i := 625) (by decide +kernel), List.mem_of_getElem? (i := 626) (by decide +kernel)⟩
theorem lw_p24 : lw_okq (⟨"ReachTrees", "thingsOfChains", "()I"⟩, 8) := ⟨⟨by decide +kernel, by decide +kernel⟩, List.mem_of_getElem? (i := 18) (by decide +kernel), List.mem_of_getElem? (i := 641) (by decide +kernel), List.mem_of_getElem? (i := 642) (by decide +kernel)⟩
theorem lw_p25 : lw_okq (⟨"ReachTreesModel", "begin", "(I)V"⟩, 25) := ⟨⟨by decide +kernel, by decide +kernel⟩, List.mem_of_getElem? (i := 645) (by decide +kernel), List.mem_of_getElem? (i := 651) (by decide +kernel), List.mem_of_getElem? (i := 652) (by decide +kernel)⟩
theorem lw_p26 : lw_okq (⟨"ReachTreesModel", "loseChains", "()V"⟩, 25) := ⟨⟨by decide +kernel, by decide +kernel⟩, List.mem_of_getElem? (i := 645) (by decide +kernel), List.mem_of_getElem? (i := 655) (by decide +kernel), List.mem_of_getElem? (i := 656) (by decide +kernel)⟩
theorem lw_p27 : lw_okq (⟨"ReachTreesModel", "readAll", "()Z"⟩, 25) := ⟨⟨by decide +kernel, by decide +kernel⟩, List.mem_of_getElem? (i := 645) (by decide +kernel), List.mem_of_getElem? (i := 751) (by decide +kernel), List.mem_of_getElem? (i := 752) (by decide +kernel)⟩
theorem lw_p28 : lw_okq (⟨"ReachTreesModel", "next", "()V"⟩, 25) := ⟨⟨by decide +kernel, by decide +kernel⟩, List.mem_of_getElem? (i := 645) (by decide +kernel), List.mem_of_getElem? (i := 755) (by decide +kernel), List.mem_of_getElem? (i := 756) (by decide +kernel)⟩
theorem lw_p29 : lw_okq (⟨"ReachTreesModel", "letter", "()I"⟩, 25) := ⟨⟨by decide +kernel, by decide +kernel⟩, List.mem_of_getElem? (i := 645) (by decide +kernel), List.mem_of_getElem? (i := 759) (by decide +kernel), List.mem_of_getElem? (i := 760) (by decide +kernel)⟩
theorem lw_p30 : lw_okq (⟨"ReachTreesModel", "readClause", "()Z"⟩, 25) := ⟨⟨by decide +kernel, by decide +kernel⟩, List.mem_of_getElem? (i := 645) (by decide +kernel), List.mem_of_getElem? (i := 767) (by decide +kernel), List.mem_of_getElem? (i := 768) (by decide +kernel)⟩
theorem lw_p31 : lw_okq (⟨"ReachTreesModel", "wordOf", "()I"⟩, 25) := ⟨⟨by decide +kernel, by decide +kernel⟩, List.mem_of_getElem? (i := 645) (by decide +kernel), List.mem_of_getElem? (i := 771) (by decide +kernel), List.mem_of_getElem? (i := 772) (by decide +kernel)⟩
def lw_privs_2 : List (MethodName × Nat) := [(⟨"ReachTrees$Net", "membersWithout", "(III)I"⟩, 5), (⟨"ReachTrees", "foldPair", "(IIII)I"⟩, 8), (⟨"ReachTrees$Net", "newMembers", "(III)I"⟩, 5), (⟨"ReachTrees$Cut", "findWay", "(LReachTrees$Net;II)Z"⟩, 3), (⟨"ReachTrees$Cut", "useWay", "(II)V"⟩, 3), (⟨"ReachTrees$Cut", "useStep", "(II)V"⟩, 3), (⟨"ReachTrees", "isTellable", "(I)Z"⟩, 8), (⟨"ReachTrees", "strikeArcs", "(LReachTrees$Chain;Z)I"⟩, 8), (⟨"ReachTrees", "thingsOfChains", "()I"⟩, 8), (⟨"ReachTreesModel", "begin", "(I)V"⟩, 25), (⟨"ReachTreesModel", "loseChains", "()V"⟩, 25), (⟨"ReachTreesModel", "readAll", "()Z"⟩, 25), (⟨"ReachTreesModel", "next", "()V"⟩, 25), (⟨"ReachTreesModel", "letter", "()I"⟩, 25), (⟨"ReachTreesModel", "readClause", "()Z"⟩, 25), (⟨"ReachTreesModel", "wordOf", "()I"⟩, 25)]
theorem lw_r2 : ∀ q ∈ lw_privs_2, lw_okq q := List.forall_mem_cons.mpr ⟨lw_p16, List.forall_mem_cons.mpr ⟨lw_p17, List.forall_mem_cons.mpr ⟨lw_p18, List.forall_mem_cons.mpr ⟨lw_p19, List.forall_mem_cons.mpr ⟨lw_p20, List.forall_mem_cons.mpr ⟨lw_p21, List.forall_mem_cons.mpr ⟨lw_p22, List.forall_mem_cons.mpr ⟨lw_p23, List.forall_mem_cons.mpr ⟨lw_p24, List.forall_mem_cons.mpr ⟨lw_p25, List.forall_mem_cons.mpr ⟨lw_p26, List.forall_mem_cons.mpr ⟨lw_p27, List.forall_mem_cons.mpr ⟨lw_p28, List.forall_mem_cons.mpr ⟨lw_p29, List.forall_mem_cons.mpr ⟨lw_p30, List.forall_mem_cons.mpr ⟨lw_p31, fun _ h => absurd h List.not_mem_nil⟩⟩⟩⟩⟩⟩⟩⟩⟩⟩⟩⟩⟩⟩⟩⟩
theorem lw_p32 : lw_okq (⟨"ReachTreesModel", "isWord", "(IIII)Z"⟩, 25) := ⟨⟨by decide +kernel, by decide +kernel⟩, List.mem_of_getElem? (i := 645) (by decide +kernel), List.mem_of_getElem? (i := 775) (by decide +kernel), List.mem_of_getElem? (i := 776) (by decide +kernel)⟩
theorem lw_p33 : lw_okq (⟨"ReachTreesModel", "faults", "()Z"⟩, 25) := ⟨⟨by decide +kernel, by decide +kernel⟩, List.mem_of_getElem? (i := 645) (by decide +kernel), List.mem_of_getElem? (i := 779) (by decide +kernel), List.mem_of_getElem? (i := 780) (by decide +kernel)⟩
theorem lw_p34 : lw_okq (⟨"ReachTreesModel", "takesNumber", "(II)Z"⟩, 25) := ⟨⟨by decide +kernel, by decide +kernel⟩, List.mem_of_getElem? (i := 645) (by decide +kernel), List.mem_of_getElem? (i := 783) (by decide +kernel), List.mem_of_getElem? (i := 784) (by decide +kernel)⟩
theorem lw_p35 : lw_okq (⟨"ReachTreesModel", "takesPoint", "(II)Z"⟩, 25) := ⟨⟨by decide +kernel, by decide +kernel⟩, List.mem_of_getElem? (i := 645) (by decide +kernel), List.mem_of_getElem? (i := 787) (by decide +kernel), List.mem_of_getElem? (i := 788) (by decide +kernel)⟩
theorem lw_p36 : lw_okq (⟨"ReachTreesModel", "doClause", "(I)V"⟩, 25) := ⟨⟨by decide +kernel, by decide +kernel⟩, List.mem_of_getElem? (i := 645) (by decide +kernel), List.mem_of_getElem? (i := 795) (by decide +kernel), List.mem_of_getElem? (i := 796) (by decide +kernel)⟩
theorem lw_p37 : lw_okq (⟨"ReachTreesModel", "putIfNew", "(II)V"⟩, 25) := ⟨⟨by decide +kernel, by decide +kernel⟩, List.mem_of_getElem? (i := 645) (by decide +kernel), List.mem_of_getElem? (i := 799) (by decide +kernel), List.mem_of_getElem? (i := 800) (by decide +kernel)⟩
theorem lw_p38 : lw_okq (⟨"ReachTreesModel", "arcs", "()I"⟩, 25) := ⟨⟨by decide +kernel, by decide +kernel⟩, List.mem_of_getElem? (i := 645) (by decide +kernel), List.mem_of_getElem? (i := 806) (by decide +kernel), List.mem_of_getElem? (i := 807) (by decide +kernel)⟩
theorem lw_p39 : lw_okq (⟨"ReachTreesModel", "putIn", "(II)V"⟩, 25) := ⟨⟨by decide +kernel, by decide +kernel⟩, List.mem_of_getElem? (i := 645) (by decide +kernel), List.mem_of_getElem? (i := 813) (by decide +kernel), List.mem_of_getElem? (i := 814) (by decide +kernel)⟩
theorem lw_p40 : lw_okq (⟨"ReachTreesModel", "isIn", "(II)Z"⟩, 25) := ⟨⟨by decide +kernel, by decide +kernel⟩, List.mem_of_getElem? (i := 645) (by decide +kernel), List.mem_of_getElem? (i := 817) (by decide +kernel), List.mem_of_getElem? (i := 818) (by decide +kernel)⟩
theorem lw_p41 : lw_okq (⟨"ReachTreesModel", "goOn", "(II)V"⟩, 25) := ⟨⟨by decide +kernel, by decide +kernel⟩, List.mem_of_getElem? (i := 645) (by decide +kernel), List.mem_of_getElem? (i := 821) (by decide +kernel), List.mem_of_getElem? (i := 822) (by decide +kernel)⟩
theorem lw_p42 : lw_okq (⟨"ReachTreesModel", "areTwo", "(II)Z"⟩, 25) := ⟨⟨by decide +kernel, by decide +kernel⟩, List.mem_of_getElem? (i := 645) (by decide +kernel), List.mem_of_getElem? (i := 829) (by decide +kernel), List.mem_of_getElem? (i := 830) (by decide +kernel)⟩
theorem lw_p43 : lw_okq (⟨"ReachTreesModel", "isPoint", "(I)Z"⟩, 25) := ⟨⟨by decide +kernel, by decide +kernel⟩, List.mem_of_getElem? (i := 645) (by decide +kernel), List.mem_of_getElem? (i := 833) (by decide +kernel), List.mem_of_getElem? (i := 834) (by decide +kernel)⟩
theorem lw_p44 : lw_okq (⟨"ReachTreesModel", "isArc", "(II)Z"⟩, 25) := ⟨⟨by decide +kernel, by decide +kernel⟩, List.mem_of_getElem? (i := 645) (by decide +kernel), List.mem_of_getElem? (i := 837) (by decide +kernel), List.mem_of_getElem? (i := 838) (by decide +kernel)⟩
theorem lw_p45 : lw_okq (⟨"ReachTreesModel", "pairs", "()I"⟩, 25) := ⟨⟨by decide +kernel, by decide +kernel⟩, List.mem_of_getElem? (i := 645) (by decide +kernel), List.mem_of_getElem? (i := 841) (by decide +kernel), List.mem_of_getElem? (i := 842) (by decide +kernel)⟩
theorem lw_p46 : lw_okq (⟨"ReachTreesModel", "note", "()V"⟩, 25) := ⟨⟨by decide +kernel, by decide +kernel⟩, List.mem_of_getElem? (i := 645) (by decide +kernel), List.mem_of_getElem? (i := 845) (by decide +kernel), List.mem_of_getElem? (i := 846) (by decide +kernel)⟩
theorem lw_p47 : lw_okq (⟨"ReachTreesModel", "stoodOn", "(III)Z"⟩, 25) := ⟨⟨by decide +kernel, by decide +kernel⟩, List.mem_of_getElem? (i := 645) (by decide +kernel), List.mem_of_getElem? (i := 853) (by decide +kernel), List.mem_of_getElem? (i := 854) (by decide +kernel)⟩
def lw_privs_3 : List (MethodName × Nat) := [(⟨"ReachTreesModel", "isWord", "(IIII)Z"⟩, 25), (⟨"ReachTreesModel", "faults", "()Z"⟩, 25), (⟨"ReachTreesModel", "takesNumber", "(II)Z"⟩, 25), (⟨"ReachTreesModel", "takesPoint", "(II)Z"⟩, 25), (⟨"ReachTreesModel", "doClause", "(I)V"⟩, 25), (⟨"ReachTreesModel", "putIfNew", "(II)V"⟩, 25), (⟨"ReachTreesModel", "arcs", "()I"⟩, 25), (⟨"ReachTreesModel", "putIn", "(II)V"⟩, 25), (⟨"ReachTreesModel", "isIn", "(II)Z"⟩, 25), (⟨"ReachTreesModel", "goOn", "(II)V"⟩, 25), (⟨"ReachTreesModel", "areTwo", "(II)Z"⟩, 25), (⟨"ReachTreesModel", "isPoint", "(I)Z"⟩, 25), (⟨"ReachTreesModel", "isArc", "(II)Z"⟩, 25), (⟨"ReachTreesModel", "pairs", "()I"⟩, 25), (⟨"ReachTreesModel", "note", "()V"⟩, 25), (⟨"ReachTreesModel", "stoodOn", "(III)Z"⟩, 25)]
theorem lw_r3 : ∀ q ∈ lw_privs_3, lw_okq q := List.forall_mem_cons.mpr ⟨lw_p32, List.forall_mem_cons.mpr ⟨lw_p33, List.forall_mem_cons.mpr ⟨lw_p34, List.forall_mem_cons.mpr ⟨lw_p35, List.forall_mem_cons.mpr ⟨lw_p36, List.forall_mem_cons.mpr ⟨lw_p37, List.forall_mem_cons.mpr ⟨lw_p38, List.forall_mem_cons.mpr ⟨lw_p39, List.forall_mem_cons.mpr ⟨lw_p40, List.forall_mem_cons.mpr ⟨lw_p41, List.forall_mem_cons.mpr ⟨lw_p42, List.forall_mem_cons.mpr ⟨lw_p43, List.forall_mem_cons.mpr ⟨lw_p44, List.forall_mem_cons.mpr ⟨lw_p45, List.forall_mem_cons.mpr ⟨lw_p46, List.forall_mem_cons.mpr ⟨lw_p47, fun _ h => absurd h List.not_mem_nil⟩⟩⟩⟩⟩⟩⟩⟩⟩⟩⟩⟩⟩⟩⟩⟩
theorem lw_p48 : lw_okq (⟨"ReachTreesModel", "grow", "(I)V"⟩, 25) := ⟨⟨by decide +kernel, by decide +kernel⟩, List.mem_of_getElem? (i := 645) (by decide +kernel), List.mem_of_getElem? (i := 857) (by decide +kernel), List.mem_of_getElem? (i := 858) (by decide +kernel)⟩
theorem lw_p49 : lw_okq (⟨"ReachTreesModel", "aboveOf", "(II)I"⟩, 25) := ⟨⟨by decide +kernel, by decide +kernel⟩, List.mem_of_getElem? (i := 645) (by decide +kernel), List.mem_of_getElem? (i := 889) (by decide +kernel), List.mem_of_getElem? (i := 890) (by decide +kernel)⟩
theorem lw_p50 : lw_okq (⟨"ReachTreesModel", "treeOf", "(I)I"⟩, 25) := ⟨⟨by decide +kernel, by decide +kernel⟩, List.mem_of_getElem? (i := 645) (by decide +kernel), List.mem_of_getElem? (i := 901) (by decide +kernel), List.mem_of_getElem? (i := 902) (by decide +kernel)⟩
theorem lw_p51 : lw_okq (⟨"ReachTreesModel", "comingTo", "(I)I"⟩, 25) := ⟨⟨by decide +kernel, by decide +kernel⟩, List.mem_of_getElem? (i := 645) (by decide +kernel), List.mem_of_getElem? (i := 905) (by decide +kernel), List.mem_of_getElem? (i := 906) (by decide +kernel)⟩
theorem lw_p52 : lw_okq (⟨"ReachTreesModel", "ringOf", "(I)I"⟩, 25) := ⟨⟨by decide +kernel, by decide +kernel⟩, List.mem_of_getElem? (i := 645) (by decide +kernel), List.mem_of_getElem? (i := 909) (by decide +kernel), List.mem_of_getElem? (i := 910) (by decide +kernel)⟩
theorem lw_p53 : lw_okq (⟨"ReachTreesModel", "isNeedless", "(II)Z"⟩, 25) := ⟨⟨by decide +kernel, by decide +kernel⟩, List.mem_of_getElem? (i := 645) (by decide +kernel), List.mem_of_getElem? (i := 917) (by decide +kernel), List.mem_of_getElem? (i := 918) (by decide +kernel)⟩
theorem lw_p54 : lw_okq (⟨"ReachTreesModel", "without", "(III)I"⟩, 25) := ⟨⟨by decide +kernel, by decide +kernel⟩, List.mem_of_getElem? (i := 645) (by decide +kernel), List.mem_of_getElem? (i := 921) (by decide +kernel), List.mem_of_getElem? (i := 922) (by decide +kernel)⟩
theorem lw_p55 : lw_okq (⟨"ReachTreesModel", "rings", "()I"⟩, 25) := ⟨⟨by decide +kernel, by decide +kernel⟩, List.mem_of_getElem? (i := 645) (by decide +kernel), List.mem_of_getElem? (i := 929) (by decide +kernel), List.mem_of_getElem? (i := 930) (by decide +kernel)⟩
theorem lw_p56 : lw_okq (⟨"ReachTreesModel", "needlessMany", "()I"⟩, 25) := ⟨⟨by decide +kernel, by decide +kernel⟩, List.mem_of_getElem? (i := 645) (by decide +kernel), List.mem_of_getElem? (i := 933) (by decide +kernel), List.mem_of_getElem? (i := 934) (by decide +kernel)⟩
theorem lw_p57 : lw_okq (⟨"ReachTreesModel", "gainOf", "(III)I"⟩, 25) := ⟨⟨by decide +kernel, by decide +kernel⟩, List.mem_of_getElem? (i := 645) (by decide +kernel), List.mem_of_getElem? (i := 947) (by decide +kernel), List.mem_of_getElem? (i := 948) (by decide +kernel)⟩
theorem lw_p58 : lw_okq (⟨"ReachTreesModel", "lossOf", "(II)I"⟩, 25) := ⟨⟨by decide +kernel, by decide +kernel⟩, List.mem_of_getElem? (i := 645) (by decide +kernel), List.mem_of_getElem? (i := 959) (by decide +kernel), List.mem_of_getElem? (i := 960) (by decide +kernel)⟩
theorem lw_p59 : lw_okq (⟨"ReachTreesModel", "findsWay", "(II)Z"⟩, 25) := ⟨⟨by decide +kernel, by decide +kernel⟩, List.mem_of_getElem? (i := 645) (by decide +kernel), List.mem_of_getElem? (i := 971) (by decide +kernel), List.mem_of_getElem? (i := 972) (by decide +kernel)⟩
theorem lw_p60 : lw_okq (⟨"ReachTreesModel", "goAlong", "(II)V"⟩, 25) := ⟨⟨by decide +kernel, by decide +kernel⟩, List.mem_of_getElem? (i := 645) (by decide +kernel), List.mem_of_getElem? (i := 975) (by decide +kernel), List.mem_of_getElem? (i := 976) (by decide +kernel)⟩
theorem lw_p61 : lw_okq (⟨"ReachTreesModel", "allThings", "()I"⟩, 25) := ⟨⟨by decide +kernel, by decide +kernel⟩, List.mem_of_getElem? (i := 645) (by decide +kernel), List.mem_of_getElem? (i := 1022) (by decide +kernel), List.mem_of_getElem? (i := 1023) (by decide +kernel)⟩
def lw_privs_4 : List (MethodName × Nat) := [(⟨"ReachTreesModel", "grow", "(I)V"⟩, 25), (⟨"ReachTreesModel", "aboveOf", "(II)I"⟩, 25), (⟨"ReachTreesModel", "treeOf", "(I)I"⟩, 25), (⟨"ReachTreesModel", "comingTo", "(I)I"⟩, 25), (⟨"ReachTreesModel", "ringOf", "(I)I"⟩, 25), (⟨"ReachTreesModel", "isNeedless", "(II)Z"⟩, 25), (⟨"ReachTreesModel", "without", "(III)I"⟩, 25), (⟨"ReachTreesModel", "rings", "()I"⟩, 25), (⟨"ReachTreesModel", "needlessMany", "()I"⟩, 25), (⟨"ReachTreesModel", "gainOf", "(III)I"⟩, 25), (⟨"ReachTreesModel", "lossOf", "(II)I"⟩, 25), (⟨"ReachTreesModel", "findsWay", "(II)Z"⟩, 25), (⟨"ReachTreesModel", "goAlong", "(II)V"⟩, 25), (⟨"ReachTreesModel", "allThings", "()I"⟩, 25)]
theorem lw_r4 : ∀ q ∈ lw_privs_4, lw_okq q := List.forall_mem_cons.mpr ⟨lw_p48, List.forall_mem_cons.mpr ⟨lw_p49, List.forall_mem_cons.mpr ⟨lw_p50, List.forall_mem_cons.mpr ⟨lw_p51, List.forall_mem_cons.mpr ⟨lw_p52, List.forall_mem_cons.mpr ⟨lw_p53, List.forall_mem_cons.mpr ⟨lw_p54, List.forall_mem_cons.mpr ⟨lw_p55, List.forall_mem_cons.mpr ⟨lw_p56, List.forall_mem_cons.mpr ⟨lw_p57, List.forall_mem_cons.mpr ⟨lw_p58, List.forall_mem_cons.mpr ⟨lw_p59, List.forall_mem_cons.mpr ⟨lw_p60, List.forall_mem_cons.mpr ⟨lw_p61, fun _ h => absurd h List.not_mem_nil⟩⟩⟩⟩⟩⟩⟩⟩⟩⟩⟩⟩⟩⟩
def lw_privs : List (MethodName × Nat) := lw_privs_1 ++ (lw_privs_2 ++ (lw_privs_3 ++ (lw_privs_4)))
def lw_tbl : List Cond := k2_sels lw_privs ++ tables_1
theorem lw_privs_ok : ∀ q ∈ lw_privs, lw_okq q := by
  show ∀ q ∈ lw_privs_1 ++ (lw_privs_2 ++ (lw_privs_3 ++ (lw_privs_4))), lw_okq q
  exact List.forall_mem_append.mpr ⟨lw_r1, List.forall_mem_append.mpr ⟨lw_r2, List.forall_mem_append.mpr ⟨lw_r3, lw_r4⟩⟩⟩
end
section
def RX0 : String := "ReachTrees$Chain"
def TX0 : u_T := fun k => match k with
  | 0 => ("ReachTrees$Chain", "values", "[I", true)
  | 1 => ("ReachTrees$Chain", "isArc", "[Z", true)
  | 2 => ("ReachTrees$Chain", "missing", "Z", false)
  | _ => ("ReachTrees$Chain", "size", "I", false)
def tyX0 : Nat → FieldType := fun k => match k with
  | 0 => .array .int
  | 1 => .array .boolean
  | 2 => .boolean
  | _ => .int
theorem nmX0 : ∀ a, a < 4 → ∀ b, b < 4 → a ≠ b → (TX0 a).2.1 ≠ (TX0 b).2.1 := by decide +kernel
theorem tyX0_ok : ∀ k, k < 4 → parseFieldDescriptor (TX0 k).2.2.1 = some (tyX0 k) := by decide +kernel
abbrev cX0_init : ByteArray := prog_2_method_1_code
def yX0_init : MethodName := ⟨RX0, "<init>", "()V"⟩
abbrev cX0_begin : ByteArray := prog_2_method_2_code
def yX0_begin : MethodName := ⟨RX0, "begin", "()V"⟩
abbrev cX0_vanish : ByteArray := prog_2_method_3_code
def yX0_vanish : MethodName := ⟨RX0, "vanish", "()V"⟩
abbrev cX0_insert : ByteArray := prog_2_method_4_code
def yX0_insert : MethodName := ⟨RX0, "insert", "(IIZ)V"⟩
abbrev cX0_total : ByteArray := prog_2_method_5_code
def yX0_total : MethodName := ⟨RX0, "total", "(ZZ)I"⟩
def RX1 : String := "ReachTrees$Cut"
def TX1 : u_T := fun k => match k with
  | 0 => ("ReachTrees$Cut", "used", "[I", true)
  | 1 => ("ReachTrees$Cut", "usedInto", "[I", true)
  | _ => ("ReachTrees$Cut", "cameFrom", "[I", true)
def tyX1 : Nat → FieldType := fun k => match k with
  | 0 => .array .int
  | 1 => .array .int
  | _ => .array .int
theorem nmX1 : ∀ a, a < 3 → ∀ b, b < 3 → a ≠ b → (TX1 a).2.1 ≠ (TX1 b).2.1 := by decide +kernel
theorem tyX1_ok : ∀ k, k < 3 → parseFieldDescriptor (TX1 k).2.2.1 = some (tyX1 k) := by decide +kernel
abbrev cX1_init : ByteArray := prog_3_method_1_code
def yX1_init : MethodName := ⟨RX1, "<init>", "()V"⟩
abbrev cX1_fewestArcs : ByteArray := prog_3_method_2_code
def yX1_fewestArcs : MethodName := ⟨RX1, "fewestArcs", "(LReachTrees$Net;II)I"⟩
abbrev cX1_findWay : ByteArray := prog_3_method_3_code
def yX1_findWay : MethodName := ⟨RX1, "findWay", "(LReachTrees$Net;II)Z"⟩
abbrev cX1_useWay : ByteArray := prog_3_method_4_code
def yX1_useWay : MethodName := ⟨RX1, "useWay", "(II)V"⟩
abbrev cX1_useStep : ByteArray := prog_3_method_5_code
def yX1_useStep : MethodName := ⟨RX1, "useStep", "(II)V"⟩
def RX2 : String := "ReachTrees$Letters"
def TX2 : u_T := fun k => match k with
  | 0 => ("ReachTrees$Letters", "row", "[I", true)
  | _ => ("ReachTrees$Letters", "length", "I", false)
def tyX2 : Nat → FieldType := fun k => match k with
  | 0 => .array .int
  | _ => .int
theorem nmX2 : ∀ a, a < 2 → ∀ b, b < 2 → a ≠ b → (TX2 a).2.1 ≠ (TX2 b).2.1 := by decide +kernel
theorem tyX2_ok : ∀ k, k < 2 → parseFieldDescriptor (TX2 k).2.2.1 = some (tyX2 k) := by decide +kernel
abbrev cX2_init : ByteArray := prog_4_method_1_code
def yX2_init : MethodName := ⟨RX2, "<init>", "()V"⟩
def RX3 : String := "ReachTrees$Net"
def TX3 : u_T := fun k => match k with
  | 0 => ("ReachTrees$Net", "points", "I", false)
  | 1 => ("ReachTrees$Net", "work", "I", false)
  | 2 => ("ReachTrees$Net", "outgoing", "[I", true)
  | 3 => ("ReachTrees$Net", "members", "[I", true)
  | _ => ("ReachTrees$Net", "aboves", "[I", true)
def tyX3 : Nat → FieldType := fun k => match k with
  | 0 => .int
  | 1 => .int
  | 2 => .array .int
  | 3 => .array .int
  | _ => .array .int
theorem nmX3 : ∀ a, a < 5 → ∀ b, b < 5 → a ≠ b → (TX3 a).2.1 ≠ (TX3 b).2.1 := by decide +kernel
theorem tyX3_ok : ∀ k, k < 5 → parseFieldDescriptor (TX3 k).2.2.1 = some (tyX3 k) := by decide +kernel
abbrev cX3_init : ByteArray := prog_5_method_1_code
def yX3_init : MethodName := ⟨RX3, "<init>", "()V"⟩
abbrev cX3_makeEmpty : ByteArray := prog_5_method_2_code
def yX3_makeEmpty : MethodName := ⟨RX3, "makeEmpty", "(I)V"⟩
abbrev cX3_copyFrom : ByteArray := prog_5_method_3_code
def yX3_copyFrom : MethodName := ⟨RX3, "copyFrom", "(LReachTrees$Net;)V"⟩
abbrev cX3_allPoints : ByteArray := prog_5_method_4_code
def yX3_allPoints : MethodName := ⟨RX3, "allPoints", "()I"⟩
abbrev cX3_hasArc : ByteArray := prog_5_method_5_code
def yX3_hasArc : MethodName := ⟨RX3, "hasArc", "(II)Z"⟩
abbrev cX3_arcs : ByteArray := prog_5_method_6_code
def yX3_arcs : MethodName := ⟨RX3, "arcs", "()I"⟩
abbrev cX3_arcsBetween : ByteArray := prog_5_method_7_code
def yX3_arcsBetween : MethodName := ⟨RX3, "arcsBetween", "(II)I"⟩
abbrev cX3_comesTo : ByteArray := prog_5_method_8_code
def yX3_comesTo : MethodName := ⟨RX3, "comesTo", "(II)Z"⟩
abbrev cX3_pairs : ByteArray := prog_5_method_9_code
def yX3_pairs : MethodName := ⟨RX3, "pairs", "()I"⟩
abbrev cX3_aboveOf : ByteArray := prog_5_method_10_code
def yX3_aboveOf : MethodName := ⟨RX3, "aboveOf", "(II)I"⟩
abbrev cX3_depthOf : ByteArray := prog_5_method_11_code
def yX3_depthOf : MethodName := ⟨RX3, "depthOf", "(II)I"⟩
abbrev cX3_climb : ByteArray := prog_5_method_12_code
def yX3_climb : MethodName := ⟨RX3, "climb", "(III)I"⟩
abbrev cX3_putIn : ByteArray := prog_5_method_13_code
def yX3_putIn : MethodName := ⟨RX3, "putIn", "(II)V"⟩
abbrev cX3_graft : ByteArray := prog_5_method_14_code
def yX3_graft : MethodName := ⟨RX3, "graft", "(IIII)V"⟩
abbrev cX3_followArcs : ByteArray := prog_5_method_15_code
def yX3_followArcs : MethodName := ⟨RX3, "followArcs", "(III)V"⟩
abbrev cX3_takeOut : ByteArray := prog_5_method_16_code
def yX3_takeOut : MethodName := ⟨RX3, "takeOut", "(II)V"⟩
abbrev cX3_stoodOn : ByteArray := prog_5_method_17_code
def yX3_stoodOn : MethodName := ⟨RX3, "stoodOn", "(III)Z"⟩
abbrev cX3_makeAnew : ByteArray := prog_5_method_18_code
def yX3_makeAnew : MethodName := ⟨RX3, "makeAnew", "(I)V"⟩
abbrev cX3_comersTo : ByteArray := prog_5_method_19_code
def yX3_comersTo : MethodName := ⟨RX3, "comersTo", "(I)I"⟩
abbrev cX3_ringOf : ByteArray := prog_5_method_20_code
def yX3_ringOf : MethodName := ⟨RX3, "ringOf", "(I)I"⟩
abbrev cX3_rings : ByteArray := prog_5_method_21_code
def yX3_rings : MethodName := ⟨RX3, "rings", "()I"⟩
abbrev cX3_isNeedless : ByteArray := prog_5_method_22_code
def yX3_isNeedless : MethodName := ⟨RX3, "isNeedless", "(II)Z"⟩
abbrev cX3_needlessArcs : ByteArray := prog_5_method_23_code
def yX3_needlessArcs : MethodName := ⟨RX3, "needlessArcs", "()I"⟩
abbrev cX3_membersWithout : ByteArray := prog_5_method_24_code
def yX3_membersWithout : MethodName := ⟨RX3, "membersWithout", "(III)I"⟩
abbrev cX3_pairsLost : ByteArray := prog_5_method_25_code
def yX3_pairsLost : MethodName := ⟨RX3, "pairsLost", "(II)I"⟩
abbrev cX3_newMembers : ByteArray := prog_5_method_26_code
def yX3_newMembers : MethodName := ⟨RX3, "newMembers", "(III)I"⟩
abbrev cX3_pairsGained : ByteArray := prog_5_method_27_code
def yX3_pairsGained : MethodName := ⟨RX3, "pairsGained", "(II)I"⟩
abbrev cX3_workGained : ByteArray := prog_5_method_28_code
def yX3_workGained : MethodName := ⟨RX3, "workGained", "(II)I"⟩
def RX4 : String := "ReachTrees$Past"
def TX4 : u_T := fun k => match k with
  | 0 => ("ReachTrees$Past", "notes", "[LReachTrees$Net;", true)
  | 1 => ("ReachTrees$Past", "next", "I", false)
  | _ => ("ReachTrees$Past", "size", "I", false)
def tyX4 : Nat → FieldType := fun k => match k with
  | 0 => .array (.object "ReachTrees$Net")
  | 1 => .int
  | _ => .int
theorem nmX4 : ∀ a, a < 3 → ∀ b, b < 3 → a ≠ b → (TX4 a).2.1 ≠ (TX4 b).2.1 := by decide +kernel
theorem tyX4_ok : ∀ k, k < 3 → parseFieldDescriptor (TX4 k).2.2.1 = some (tyX4 k) := by decide +kernel
abbrev cX4_init : ByteArray := prog_6_method_1_code
def yX4_init : MethodName := ⟨RX4, "<init>", "()V"⟩
abbrev cX4_note : ByteArray := prog_6_method_2_code
def yX4_note : MethodName := ⟨RX4, "note", "(LReachTrees$Net;)V"⟩
abbrev cX4_restore : ByteArray := prog_6_method_3_code
def yX4_restore : MethodName := ⟨RX4, "restore", "(LReachTrees$Net;)V"⟩
abbrev cX4_forget : ByteArray := prog_6_method_4_code
def yX4_forget : MethodName := ⟨RX4, "forget", "()V"⟩
def RX5 : String := "ReachTrees$Reader"
def TX5 : u_T := fun k => match k with
  | 0 => ("ReachTrees$Reader", "letters", "LReachTrees$Letters;", true)
  | 1 => ("ReachTrees$Reader", "kinds", "[I", true)
  | 2 => ("ReachTrees$Reader", "numbers", "[I", true)
  | 3 => ("ReachTrees$Reader", "clauses", "I", false)
  | 4 => ("ReachTrees$Reader", "tokenSort", "I", false)
  | 5 => ("ReachTrees$Reader", "tokenStart", "I", false)
  | _ => ("ReachTrees$Reader", "tokenEnd", "I", false)
def tyX5 : Nat → FieldType := fun k => match k with
  | 0 => .object "ReachTrees$Letters"
  | 1 => .array .int
  | 2 => .array .int
  | 3 => .int
  | 4 => .int
  | 5 => .int
  | _ => .int
theorem nmX5 : ∀ a, a < 7 → ∀ b, b < 7 → a ≠ b → (TX5 a).2.1 ≠ (TX5 b).2.1 := by decide +kernel
theorem tyX5_ok : ∀ k, k < 7 → parseFieldDescriptor (TX5 k).2.2.1 = some (tyX5 k) := by decide +kernel
abbrev cX5_init : ByteArray := prog_7_method_1_code
def yX5_init : MethodName := ⟨RX5, "<init>", "(LReachTrees$Letters;)V"⟩
abbrev cX5_numberOf : ByteArray := prog_7_method_2_code
def yX5_numberOf : MethodName := ⟨RX5, "numberOf", "(II)I"⟩
abbrev cX5_readAll : ByteArray := prog_7_method_3_code
def yX5_readAll : MethodName := ⟨RX5, "readAll", "(I)I"⟩
abbrev cX5_readClause : ByteArray := prog_7_method_4_code
def yX5_readClause : MethodName := ⟨RX5, "readClause", "(I)Z"⟩
abbrev cX5_takeNumber : ByteArray := prog_7_method_5_code
def yX5_takeNumber : MethodName := ⟨RX5, "takeNumber", "(III)Z"⟩
abbrev cX5_tokenNumber : ByteArray := prog_7_method_6_code
def yX5_tokenNumber : MethodName := ⟨RX5, "tokenNumber", "()I"⟩
abbrev cX5_nextToken : ByteArray := prog_7_method_7_code
def yX5_nextToken : MethodName := ⟨RX5, "nextToken", "()V"⟩
abbrev cX5_sortOf : ByteArray := prog_7_method_8_code
def yX5_sortOf : MethodName := ⟨RX5, "sortOf", "(I)I"⟩
abbrev cX5_isSemicolon : ByteArray := prog_7_method_9_code
def yX5_isSemicolon : MethodName := ⟨RX5, "isSemicolon", "()Z"⟩
abbrev cX5_kindOfToken : ByteArray := prog_7_method_10_code
def yX5_kindOfToken : MethodName := ⟨RX5, "kindOfToken", "()I"⟩
abbrev cX5_tokenIs : ByteArray := prog_7_method_11_code
def yX5_tokenIs : MethodName := ⟨RX5, "tokenIs", "(Ljava/lang/String;)Z"⟩
abbrev cX5_wordOf : ByteArray := prog_7_method_12_code
def yX5_wordOf : MethodName := ⟨RX5, "wordOf", "(I)Ljava/lang/String;"⟩
abbrev cX5_numbersOf : ByteArray := prog_7_method_13_code
def yX5_numbersOf : MethodName := ⟨RX5, "numbersOf", "(I)I"⟩
def RX6 : String := "ReachTrees"
def TX6 : u_T := fun k => match k with
  | 0 => ("ReachTrees", "letters", "LReachTrees$Letters;", true)
  | 1 => ("ReachTrees", "reader", "LReachTrees$Reader;", true)
  | 2 => ("ReachTrees", "live", "LReachTrees$Net;", true)
  | 3 => ("ReachTrees", "past", "LReachTrees$Past;", true)
  | 4 => ("ReachTrees", "kept", "[LReachTrees$Net;", true)
  | 5 => ("ReachTrees", "keptSet", "I", false)
  | 6 => ("ReachTrees", "cut", "LReachTrees$Cut;", true)
  | _ => ("ReachTrees", "chains", "[LReachTrees$Chain;", true)
def tyX6 : Nat → FieldType := fun k => match k with
  | 0 => .object "ReachTrees$Letters"
  | 1 => .object "ReachTrees$Reader"
  | 2 => .object "ReachTrees$Net"
  | 3 => .object "ReachTrees$Past"
  | 4 => .array (.object "ReachTrees$Net")
  | 5 => .int
  | 6 => .object "ReachTrees$Cut"
  | _ => .array (.object "ReachTrees$Chain")
theorem nmX6 : ∀ a, a < 8 → ∀ b, b < 8 → a ≠ b → (TX6 a).2.1 ≠ (TX6 b).2.1 := by decide +kernel
theorem tyX6_ok : ∀ k, k < 8 → parseFieldDescriptor (TX6 k).2.2.1 = some (tyX6 k) := by decide +kernel
abbrev cX6_init : ByteArray := prog_1_method_1_code
def yX6_init : MethodName := ⟨RX6, "<init>", "()V"⟩
abbrev cX6_write : ByteArray := prog_1_method_2_code
def yX6_write : MethodName := ⟨RX6, "write", "(I)I"⟩
abbrev cX6_erase : ByteArray := prog_1_method_3_code
def yX6_erase : MethodName := ⟨RX6, "erase", "()I"⟩
abbrev cX6_fault : ByteArray := prog_1_method_4_code
def yX6_fault : MethodName := ⟨RX6, "fault", "()I"⟩
abbrev cX6_net : ByteArray := prog_1_method_5_code
def yX6_net : MethodName := ⟨RX6, "net", "()I"⟩
abbrev cX6_doClause : ByteArray := prog_1_method_6_code
def yX6_doClause : MethodName := ⟨RX6, "doClause", "(I)V"⟩
abbrev cX6_putIfNew : ByteArray := prog_1_method_7_code
def yX6_putIfNew : MethodName := ⟨RX6, "putIfNew", "(II)V"⟩
abbrev cX6_put : ByteArray := prog_1_method_8_code
def yX6_put : MethodName := ⟨RX6, "put", "(II)I"⟩
abbrev cX6_take : ByteArray := prog_1_method_9_code
def yX6_take : MethodName := ⟨RX6, "take", "(II)I"⟩
abbrev cX6_clear : ByteArray := prog_1_method_10_code
def yX6_clear : MethodName := ⟨RX6, "clear", "()I"⟩
abbrev cX6_undo : ByteArray := prog_1_method_11_code
def yX6_undo : MethodName := ⟨RX6, "undo", "()I"⟩
abbrev cX6_keep : ByteArray := prog_1_method_12_code
def yX6_keep : MethodName := ⟨RX6, "keep", "(I)I"⟩
abbrev cX6_back : ByteArray := prog_1_method_13_code
def yX6_back : MethodName := ⟨RX6, "back", "(I)I"⟩
abbrev cX6_arc : ByteArray := prog_1_method_14_code
def yX6_arc : MethodName := ⟨RX6, "arc", "(II)I"⟩
abbrev cX6_reaches : ByteArray := prog_1_method_15_code
def yX6_reaches : MethodName := ⟨RX6, "reaches", "(II)I"⟩
abbrev cX6_above : ByteArray := prog_1_method_16_code
def yX6_above : MethodName := ⟨RX6, "above", "(II)I"⟩
abbrev cX6_way : ByteArray := prog_1_method_17_code
def yX6_way : MethodName := ⟨RX6, "way", "(III)I"⟩
abbrev cX6_around : ByteArray := prog_1_method_18_code
def yX6_around : MethodName := ⟨RX6, "around", "(II)I"⟩
abbrev cX6_needless : ByteArray := prog_1_method_19_code
def yX6_needless : MethodName := ⟨RX6, "needless", "(II)I"⟩
abbrev cX6_reduced : ByteArray := prog_1_method_20_code
def yX6_reduced : MethodName := ⟨RX6, "reduced", "()I"⟩
abbrev cX6_fold : ByteArray := prog_1_method_21_code
def yX6_fold : MethodName := ⟨RX6, "fold", "(II)I"⟩
abbrev cX6_foldPair : ByteArray := prog_1_method_22_code
def yX6_foldPair : MethodName := ⟨RX6, "foldPair", "(IIII)I"⟩
abbrev cX6_gain : ByteArray := prog_1_method_23_code
def yX6_gain : MethodName := ⟨RX6, "gain", "(III)I"⟩
abbrev cX6_best : ByteArray := prog_1_method_24_code
def yX6_best : MethodName := ⟨RX6, "best", "()I"⟩
abbrev cX6_loss : ByteArray := prog_1_method_25_code
def yX6_loss : MethodName := ⟨RX6, "loss", "(II)I"⟩
abbrev cX6_worst : ByteArray := prog_1_method_26_code
def yX6_worst : MethodName := ⟨RX6, "worst", "()I"⟩
abbrev cX6_sever : ByteArray := prog_1_method_27_code
def yX6_sever : MethodName := ⟨RX6, "sever", "(II)I"⟩
abbrev cX6_chain : ByteArray := prog_1_method_28_code
def yX6_chain : MethodName := ⟨RX6, "chain", "(I)I"⟩
abbrev cX6_add : ByteArray := prog_1_method_29_code
def yX6_add : MethodName := ⟨RX6, "add", "(IIII)I"⟩
abbrev cX6_last : ByteArray := prog_1_method_30_code
def yX6_last : MethodName := ⟨RX6, "last", "(II)I"⟩
abbrev cX6_sum : ByteArray := prog_1_method_31_code
def yX6_sum : MethodName := ⟨RX6, "sum", "(II)I"⟩
abbrev cX6_strike : ByteArray := prog_1_method_32_code
def yX6_strike : MethodName := ⟨RX6, "strike", "(II)I"⟩
abbrev cX6_strikeArcs : ByteArray := prog_1_method_33_code
def yX6_strikeArcs : MethodName := ⟨RX6, "strikeArcs", "(LReachTrees$Chain;Z)I"⟩
abbrev cX6_append : ByteArray := prog_1_method_34_code
def yX6_append : MethodName := ⟨RX6, "append", "(II)I"⟩
abbrev cX6_drop : ByteArray := prog_1_method_35_code
def yX6_drop : MethodName := ⟨RX6, "drop", "(I)I"⟩
abbrev cX6_count : ByteArray := prog_1_method_36_code
def yX6_count : MethodName := ⟨RX6, "count", "(I)I"⟩
abbrev cX6_thingsOfChains : ByteArray := prog_1_method_37_code
def yX6_thingsOfChains : MethodName := ⟨RX6, "thingsOfChains", "()I"⟩
abbrev cX6_isPoint : ByteArray := prog_1_method_38_code
def yX6_isPoint : MethodName := ⟨RX6, "isPoint", "(I)Z"⟩
abbrev cX6_arePair : ByteArray := prog_1_method_39_code
def yX6_arePair : MethodName := ⟨RX6, "arePair", "(II)Z"⟩
abbrev cX6_isArcThere : ByteArray := prog_1_method_40_code
def yX6_isArcThere : MethodName := ⟨RX6, "isArcThere", "(II)Z"⟩
abbrev cX6_isTellable : ByteArray := prog_1_method_41_code
def yX6_isTellable : MethodName := ⟨RX6, "isTellable", "(I)Z"⟩
abbrev cX6_isChain : ByteArray := prog_1_method_42_code
def yX6_isChain : MethodName := ⟨RX6, "isChain", "(I)Z"⟩
abbrev cX6_tell : ByteArray := prog_1_method_43_code
def yX6_tell : MethodName := ⟨RX6, "tell", "(II)I"⟩
abbrev cX6_has : ByteArray := prog_1_method_44_code
def yX6_has : MethodName := ⟨RX6, "has", "(II)Z"⟩
abbrev cX6_lowest : ByteArray := prog_1_method_45_code
def yX6_lowest : MethodName := ⟨RX6, "lowest", "(I)I"⟩
def RX7 : String := "ReachTreesModel"
def TX7 : u_T := fun k => match k with
  | 0 => ("ReachTreesModel", "n", "I", false)
  | 1 => ("ReachTreesModel", "st", "[I", true)
  | 2 => ("ReachTreesModel", "past", "[I", true)
  | 3 => ("ReachTreesModel", "undoMany", "I", false)
  | 4 => ("ReachTreesModel", "kept", "[I", true)
  | 5 => ("ReachTreesModel", "isKept", "[I", true)
  | 6 => ("ReachTreesModel", "pile", "[I", true)
  | 7 => ("ReachTreesModel", "nexts", "[I", true)
  | 8 => ("ReachTreesModel", "text", "[I", true)
  | 9 => ("ReachTreesModel", "length", "I", false)
  | 10 => ("ReachTreesModel", "place", "I", false)
  | 11 => ("ReachTreesModel", "sort", "I", false)
  | 12 => ("ReachTreesModel", "from", "I", false)
  | 13 => ("ReachTreesModel", "number", "I", false)
  | 14 => ("ReachTreesModel", "wrong", "I", false)
  | 15 => ("ReachTreesModel", "clauses", "[I", true)
  | 16 => ("ReachTreesModel", "clauseMany", "I", false)
  | 17 => ("ReachTreesModel", "points", "I", false)
  | 18 => ("ReachTreesModel", "aside", "[I", true)
  | 19 => ("ReachTreesModel", "open", "[I", true)
  | 20 => ("ReachTreesModel", "by", "[I", true)
  | 21 => ("ReachTreesModel", "twice", "[I", true)
  | 22 => ("ReachTreesModel", "sizes", "[I", true)
  | 23 => ("ReachTreesModel", "sorts", "[I", true)
  | _ => ("ReachTreesModel", "things", "[I", true)
def tyX7 : Nat → FieldType := fun k => match k with
  | 0 => .int
  | 1 => .array .int
  | 2 => .array .int
  | 3 => .int
  | 4 => .array .int
  | 5 => .array .int
  | 6 => .array .int
  | 7 => .array .int
  | 8 => .array .int
  | 9 => .int
  | 10 => .int
  | 11 => .int
  | 12 => .int
  | 13 => .int
  | 14 => .int
  | 15 => .array .int
  | 16 => .int
  | 17 => .int
  | 18 => .array .int
  | 19 => .array .int
  | 20 => .array .int
  | 21 => .array .int
  | 22 => .array .int
  | 23 => .array .int
  | _ => .array .int
theorem nmX7 : ∀ a, a < 25 → ∀ b, b < 25 → a ≠ b → (TX7 a).2.1 ≠ (TX7 b).2.1 := by decide +kernel
theorem tyX7_ok : ∀ k, k < 25 → parseFieldDescriptor (TX7 k).2.2.1 = some (tyX7 k) := by decide +kernel
abbrev cX7_init : ByteArray := prog_9_method_1_code
def yX7_init : MethodName := ⟨RX7, "<init>", "()V"⟩
abbrev cX7_in : ByteArray := prog_9_method_2_code
def yX7_in : MethodName := ⟨RX7, "in", "(JJJ)Z"⟩
abbrev cX7_has : ByteArray := prog_9_method_3_code
def yX7_has : MethodName := ⟨RX7, "has", "(II)Z"⟩
abbrev cX7_ones : ByteArray := prog_9_method_4_code
def yX7_ones : MethodName := ⟨RX7, "ones", "(I)I"⟩
abbrev cX7_isPoint : ByteArray := prog_9_method_5_code
def yX7_isPoint : MethodName := ⟨RX7, "isPoint", "(I)Z"⟩
abbrev cX7_areTwo : ByteArray := prog_9_method_6_code
def yX7_areTwo : MethodName := ⟨RX7, "areTwo", "(II)Z"⟩
abbrev cX7_isArc : ByteArray := prog_9_method_7_code
def yX7_isArc : MethodName := ⟨RX7, "isArc", "(II)Z"⟩
abbrev cX7_begin : ByteArray := prog_9_method_8_code
def yX7_begin : MethodName := ⟨RX7, "begin", "(I)V"⟩
abbrev cX7_isIn : ByteArray := prog_9_method_9_code
def yX7_isIn : MethodName := ⟨RX7, "isIn", "(II)Z"⟩
abbrev cX7_arcs : ByteArray := prog_9_method_10_code
def yX7_arcs : MethodName := ⟨RX7, "arcs", "()I"⟩
abbrev cX7_pairs : ByteArray := prog_9_method_11_code
def yX7_pairs : MethodName := ⟨RX7, "pairs", "()I"⟩
abbrev cX7_goOn : ByteArray := prog_9_method_12_code
def yX7_goOn : MethodName := ⟨RX7, "goOn", "(II)V"⟩
abbrev cX7_putIn : ByteArray := prog_9_method_13_code
def yX7_putIn : MethodName := ⟨RX7, "putIn", "(II)V"⟩
abbrev cX7_grow : ByteArray := prog_9_method_14_code
def yX7_grow : MethodName := ⟨RX7, "grow", "(I)V"⟩
abbrev cX7_note : ByteArray := prog_9_method_15_code
def yX7_note : MethodName := ⟨RX7, "note", "()V"⟩
abbrev cX7_write : ByteArray := prog_9_method_16_code
def yX7_write : MethodName := ⟨RX7, "write", "(I)I"⟩
abbrev cX7_erase : ByteArray := prog_9_method_17_code
def yX7_erase : MethodName := ⟨RX7, "erase", "()I"⟩
abbrev cX7_letter : ByteArray := prog_9_method_18_code
def yX7_letter : MethodName := ⟨RX7, "letter", "()I"⟩
abbrev cX7_next : ByteArray := prog_9_method_19_code
def yX7_next : MethodName := ⟨RX7, "next", "()V"⟩
abbrev cX7_faults : ByteArray := prog_9_method_20_code
def yX7_faults : MethodName := ⟨RX7, "faults", "()Z"⟩
abbrev cX7_takesNumber : ByteArray := prog_9_method_21_code
def yX7_takesNumber : MethodName := ⟨RX7, "takesNumber", "(II)Z"⟩
abbrev cX7_isWord : ByteArray := prog_9_method_22_code
def yX7_isWord : MethodName := ⟨RX7, "isWord", "(IIII)Z"⟩
abbrev cX7_wordOf : ByteArray := prog_9_method_23_code
def yX7_wordOf : MethodName := ⟨RX7, "wordOf", "()I"⟩
abbrev cX7_takesPoint : ByteArray := prog_9_method_24_code
def yX7_takesPoint : MethodName := ⟨RX7, "takesPoint", "(II)Z"⟩
abbrev cX7_readClause : ByteArray := prog_9_method_25_code
def yX7_readClause : MethodName := ⟨RX7, "readClause", "()Z"⟩
abbrev cX7_readAll : ByteArray := prog_9_method_26_code
def yX7_readAll : MethodName := ⟨RX7, "readAll", "()Z"⟩
abbrev cX7_fault : ByteArray := prog_9_method_27_code
def yX7_fault : MethodName := ⟨RX7, "fault", "()I"⟩
abbrev cX7_putIfNew : ByteArray := prog_9_method_28_code
def yX7_putIfNew : MethodName := ⟨RX7, "putIfNew", "(II)V"⟩
abbrev cX7_doClause : ByteArray := prog_9_method_29_code
def yX7_doClause : MethodName := ⟨RX7, "doClause", "(I)V"⟩
abbrev cX7_loseChains : ByteArray := prog_9_method_30_code
def yX7_loseChains : MethodName := ⟨RX7, "loseChains", "()V"⟩
abbrev cX7_net : ByteArray := prog_9_method_31_code
def yX7_net : MethodName := ⟨RX7, "net", "()I"⟩
abbrev cX7_put : ByteArray := prog_9_method_32_code
def yX7_put : MethodName := ⟨RX7, "put", "(II)I"⟩
abbrev cX7_stoodOn : ByteArray := prog_9_method_33_code
def yX7_stoodOn : MethodName := ⟨RX7, "stoodOn", "(III)Z"⟩
abbrev cX7_take : ByteArray := prog_9_method_34_code
def yX7_take : MethodName := ⟨RX7, "take", "(II)I"⟩
abbrev cX7_clear : ByteArray := prog_9_method_35_code
def yX7_clear : MethodName := ⟨RX7, "clear", "()I"⟩
abbrev cX7_undo : ByteArray := prog_9_method_36_code
def yX7_undo : MethodName := ⟨RX7, "undo", "()I"⟩
abbrev cX7_keep : ByteArray := prog_9_method_37_code
def yX7_keep : MethodName := ⟨RX7, "keep", "(I)I"⟩
abbrev cX7_back : ByteArray := prog_9_method_38_code
def yX7_back : MethodName := ⟨RX7, "back", "(I)I"⟩
abbrev cX7_arc : ByteArray := prog_9_method_39_code
def yX7_arc : MethodName := ⟨RX7, "arc", "(II)I"⟩
abbrev cX7_reaches : ByteArray := prog_9_method_40_code
def yX7_reaches : MethodName := ⟨RX7, "reaches", "(II)I"⟩
abbrev cX7_aboveOf : ByteArray := prog_9_method_41_code
def yX7_aboveOf : MethodName := ⟨RX7, "aboveOf", "(II)I"⟩
abbrev cX7_above : ByteArray := prog_9_method_42_code
def yX7_above : MethodName := ⟨RX7, "above", "(II)I"⟩
abbrev cX7_way : ByteArray := prog_9_method_43_code
def yX7_way : MethodName := ⟨RX7, "way", "(III)I"⟩
abbrev cX7_treeOf : ByteArray := prog_9_method_44_code
def yX7_treeOf : MethodName := ⟨RX7, "treeOf", "(I)I"⟩
abbrev cX7_comingTo : ByteArray := prog_9_method_45_code
def yX7_comingTo : MethodName := ⟨RX7, "comingTo", "(I)I"⟩
abbrev cX7_ringOf : ByteArray := prog_9_method_46_code
def yX7_ringOf : MethodName := ⟨RX7, "ringOf", "(I)I"⟩
abbrev cX7_around : ByteArray := prog_9_method_47_code
def yX7_around : MethodName := ⟨RX7, "around", "(II)I"⟩
abbrev cX7_without : ByteArray := prog_9_method_48_code
def yX7_without : MethodName := ⟨RX7, "without", "(III)I"⟩
abbrev cX7_isNeedless : ByteArray := prog_9_method_49_code
def yX7_isNeedless : MethodName := ⟨RX7, "isNeedless", "(II)Z"⟩
abbrev cX7_needless : ByteArray := prog_9_method_50_code
def yX7_needless : MethodName := ⟨RX7, "needless", "(II)I"⟩
abbrev cX7_needlessMany : ByteArray := prog_9_method_51_code
def yX7_needlessMany : MethodName := ⟨RX7, "needlessMany", "()I"⟩
abbrev cX7_rings : ByteArray := prog_9_method_52_code
def yX7_rings : MethodName := ⟨RX7, "rings", "()I"⟩
abbrev cX7_reduced : ByteArray := prog_9_method_53_code
def yX7_reduced : MethodName := ⟨RX7, "reduced", "()I"⟩
abbrev cX7_fold : ByteArray := prog_9_method_54_code
def yX7_fold : MethodName := ⟨RX7, "fold", "(II)I"⟩
abbrev cX7_gainOf : ByteArray := prog_9_method_55_code
def yX7_gainOf : MethodName := ⟨RX7, "gainOf", "(III)I"⟩
abbrev cX7_gain : ByteArray := prog_9_method_56_code
def yX7_gain : MethodName := ⟨RX7, "gain", "(III)I"⟩
abbrev cX7_best : ByteArray := prog_9_method_57_code
def yX7_best : MethodName := ⟨RX7, "best", "()I"⟩
abbrev cX7_lossOf : ByteArray := prog_9_method_58_code
def yX7_lossOf : MethodName := ⟨RX7, "lossOf", "(II)I"⟩
abbrev cX7_loss : ByteArray := prog_9_method_59_code
def yX7_loss : MethodName := ⟨RX7, "loss", "(II)I"⟩
abbrev cX7_worst : ByteArray := prog_9_method_60_code
def yX7_worst : MethodName := ⟨RX7, "worst", "()I"⟩
abbrev cX7_findsWay : ByteArray := prog_9_method_61_code
def yX7_findsWay : MethodName := ⟨RX7, "findsWay", "(II)Z"⟩
abbrev cX7_sever : ByteArray := prog_9_method_62_code
def yX7_sever : MethodName := ⟨RX7, "sever", "(II)I"⟩
abbrev cX7_goAlong : ByteArray := prog_9_method_63_code
def yX7_goAlong : MethodName := ⟨RX7, "goAlong", "(II)V"⟩
abbrev cX7_isChain : ByteArray := prog_9_method_64_code
def yX7_isChain : MethodName := ⟨RX7, "isChain", "(I)Z"⟩
abbrev cX7_isOneOf : ByteArray := prog_9_method_65_code
def yX7_isOneOf : MethodName := ⟨RX7, "isOneOf", "(II)Z"⟩
abbrev cX7_chain : ByteArray := prog_9_method_66_code
def yX7_chain : MethodName := ⟨RX7, "chain", "(I)I"⟩
abbrev cX7_add : ByteArray := prog_9_method_67_code
def yX7_add : MethodName := ⟨RX7, "add", "(IIII)I"⟩
abbrev cX7_last : ByteArray := prog_9_method_68_code
def yX7_last : MethodName := ⟨RX7, "last", "(II)I"⟩
abbrev cX7_sum : ByteArray := prog_9_method_69_code
def yX7_sum : MethodName := ⟨RX7, "sum", "(II)I"⟩
abbrev cX7_strike : ByteArray := prog_9_method_70_code
def yX7_strike : MethodName := ⟨RX7, "strike", "(II)I"⟩
abbrev cX7_append : ByteArray := prog_9_method_71_code
def yX7_append : MethodName := ⟨RX7, "append", "(II)I"⟩
abbrev cX7_drop : ByteArray := prog_9_method_72_code
def yX7_drop : MethodName := ⟨RX7, "drop", "(I)I"⟩
abbrev cX7_allThings : ByteArray := prog_9_method_73_code
def yX7_allThings : MethodName := ⟨RX7, "allThings", "()I"⟩
abbrev cX7_count : ByteArray := prog_9_method_74_code
def yX7_count : MethodName := ⟨RX7, "count", "(I)I"⟩
def RJx145de : String := "java/io/Serializable"
def RJx9f9b0 : String := "java/lang/CharSequence"
def RJxb160c : String := "java/lang/Comparable"
def RJ6 : String := "java/lang/Integer"
abbrev cJ6_bitCount_0f7a4 : ByteArray := prog_10_method_49_code
def yJ6_bitCount_0f7a4 : MethodName := ⟨RJ6, "bitCount", "(I)I"⟩
def RJ9 : String := "java/lang/Math"
abbrev cJ9_max_7cf53 : ByteArray := prog_11_method_65_code
def yJ9_max_7cf53 : MethodName := ⟨RJ9, "max", "(II)I"⟩
abbrev cJ9_min_7cf53 : ByteArray := prog_11_method_69_code
def yJ9_min_7cf53 : MethodName := ⟨RJ9, "min", "(II)I"⟩
def RJ0 : String := "java/lang/String"
abbrev cJ0_length_8abf5 : ByteArray := prog_12_method_54_code
def yJ0_length_8abf5 : MethodName := ⟨RJ0, "length", "()I"⟩
abbrev cJ0_charAt_5068e : ByteArray := prog_12_method_56_code
def yJ0_charAt_5068e : MethodName := ⟨RJ0, "charAt", "(I)C"⟩
abbrev cJ0_coder_7d493 : ByteArray := prog_12_method_152_code
def yJ0_coder_7d493 : MethodName := ⟨RJ0, "coder", "()B"⟩
abbrev cJ0_isLatin1_aae02 : ByteArray := prog_12_method_154_code
def yJ0_isLatin1_aae02 : MethodName := ⟨RJ0, "isLatin1", "()Z"⟩
abbrev cJ0_checkIndex_df160 : ByteArray := prog_12_method_155_code
def yJ0_checkIndex_df160 : MethodName := ⟨RJ0, "checkIndex", "(II)V"⟩
def RJ1 : String := "java/lang/StringLatin1"
abbrev cJ1_charAt_3b067 : ByteArray := prog_13_method_2_code
def yJ1_charAt_3b067 : MethodName := ⟨RJ1, "charAt", "([BI)C"⟩
def RJ2 : String := "java/lang/StringUTF16"
abbrev cJ2_getChar_3b067 : ByteArray := prog_14_method_5_code
def yJ2_getChar_3b067 : MethodName := ⟨RJ2, "getChar", "([BI)C"⟩
abbrev cJ2_length_9d52b : ByteArray := prog_14_method_6_code
def yJ2_length_9d52b : MethodName := ⟨RJ2, "length", "([B)I"⟩
abbrev cJ2_charAt_3b067 : ByteArray := prog_14_method_83_code
def yJ2_charAt_3b067 : MethodName := ⟨RJ2, "charAt", "([BI)C"⟩
abbrev cJ2_checkIndex_2214a : ByteArray := prog_14_method_91_code
def yJ2_checkIndex_2214a : MethodName := ⟨RJ2, "checkIndex", "(I[B)V"⟩
def RJ10 : String := "java/lang/System"
def RJxfd54e : String := "java/lang/constant/Constable"
def RJx3cf43 : String := "java/lang/constant/ConstantDesc"
def RJ7 : String := "java/util/Arrays"
abbrev cJ7_fill_53178 : ByteArray := prog_16_method_103_code
def yJ7_fill_53178 : MethodName := ⟨RJ7, "fill", "([II)V"⟩
def RJ3 : String := "jdk/internal/util/Preconditions"
abbrev cJ3_checkIndex_8e157 : ByteArray := prog_17_method_11_code
def yJ3_checkIndex_8e157 : MethodName := ⟨RJ3, "checkIndex", "(IILjava/util/function/BiFunction;)I"⟩
def RL : String := "ReachTreesLaw"
abbrev cL_law : ByteArray := code
def yL_law : MethodName := ⟨RL, "law", "([I)Z"⟩
abbrev vwCl : List vw_C := [(RX0, TX0, 4), (RX1, TX1, 3), (RX2, TX2, 2), (RX3, TX3, 5), (RX4, TX4, 3), (RX5, TX5, 7), (RX6, TX6, 8), (RX7, TX7, 25)]
end
section
/-! ===== the words that stand in every contract; the worlds; calls (own rows) ===== -/
def xm : Cond → Bool
  | .methodLinkNest _ _ _ _ => true
  | w => w.onTables && w.keeps
def xT : List Cond := lw_tbl.filter xm
theorem x_mem {w : Cond} {i : Nat} (h : lw_tbl[i]? = some w) (hm : xm w = true) : w ∈ xT := List.mem_filter.mpr ⟨List.mem_of_getElem? h, hm⟩
theorem xm_or {w : Cond} (h : xm w = true) : (w.onTables && w.keeps) = true ∨ ∃ a i x b, w = .methodLinkNest a i x b := by
  cases w <;> first | exact Or.inr ⟨_, _, _, _, rfl⟩ | exact Or.inl h
theorem xm_tab {w : Cond} (h : xm w = true) : w.onTables = true := by
  rcases xm_or h with h | ⟨a, i, x, b, rfl⟩
  · simp only [Bool.and_eq_true] at h; exact h.1
  · rfl
def xH (U : State) : Prop := ∀ w ∈ xT, va_Nw w U
theorem xH.use {U : State} (h : xH U) {w : Cond} (hw : w ∈ xT) {a : Array Value} : w.before a U = true := va_Nw.use (xm_tab (List.mem_filter.mp hw).2) (h w hw)
theorem xH.same {u U : State} (h : xH u) (e : u.vm = U.vm) : xH U := fun w hw => va_Nw.same (xm_tab (List.mem_filter.mp hw).2) e (h w hw)
theorem xH.warm {s U : State} (h : xH s) (hW : s.WarmedH U.vm) : xH U := fun w hw => by
  rcases xm_or (List.mem_filter.mp hw).2 with g | ⟨a, i, x, b, rfl⟩
  · exact word_at hW (Or.inl g) (h w hw)
  · exact va_Nw.warmM hW (h _ hw)
abbrev xtys (cI cZ cN cC : ClassId) : List (ClassId × FieldType) := [(cI, .int), (cZ, .boolean), (cN, .object "ReachTrees$Net"), (cC, .object "ReachTrees$Chain")]
/-- the tables as they must be: classes, array classes, words -/
def xK (D : va_G) (tys : List (ClassId × FieldType)) (U : State) : Prop := va_K D vwCl tys U ∧ xH U
theorem xK.same {D : va_G} {tys : List (ClassId × FieldType)} {u U : State} (h : xK D tys u) (e : u.vm = U.vm) : xK D tys U := ⟨va_K.moved (by rw [e]; exact Vm.Alike.refl _) h.1, h.2.same e⟩
theorem xK.warm {D : va_G} {tys : List (ClassId × FieldType)} {s U : State} (h : xK D tys s) (hW : s.WarmedH U.vm) : xK D tys U := ⟨va_K.moved hW.alike h.1, h.2.warm hW⟩
/-- the addresses of a world -/
def xA (ws : va_W) : Nat → Prop := fun q => q ∈ ws.map (·.1)
theorem xA_of {ws : va_W} {q : Nat} (h : xA ws q) : ∃ (k : Nat) (e : va_E), ws[k]? = some (q, e) := by
  obtain ⟨c, hc, rfl⟩ := List.mem_map.mp h
  obtain ⟨k, hk⟩ := List.mem_iff_getElem?.mp hc
  exact ⟨k, c.2, hk⟩
theorem xA_in {ws : va_W} {k : Nat} {c : Nat × va_E} (h : ws[k]? = some c) : xA ws c.1 := List.mem_map.mpr ⟨c, List.mem_of_getElem? h, rfl⟩
theorem xD_map {A : Nat → Prop} {ws ws' : va_W} (h : ws'.map (·.1) = ws.map (·.1)) (hD : va_D A ws) : va_D A ws' := by
  have key : ∀ (i : Nat) (c : Nat × va_E), ws'[i]? = some c → ∃ c2, ws[i]? = some c2 ∧ c2.1 = c.1 := by
    intro i c hc
    have h1 : (ws'.map (·.1))[i]? = some c.1 := by rw [List.getElem?_map, hc]; rfl
    rw [h, List.getElem?_map] at h1
    cases h2 : ws[i]? with
    | none => rw [h2] at h1; cases h1
    | some c2 => rw [h2] at h1; exact ⟨c2, rfl, Option.some.inj h1⟩
  refine ⟨fun i j a b ha hb hab => ?_, fun i a ha => ?_⟩
  · obtain ⟨a2, h1, h2⟩ := key i a ha
    obtain ⟨b2, h3, h4⟩ := key j b hb
    exact hD.1 i j a2 b2 h1 h3 (by rw [h2, h4]; exact hab)
  · obtain ⟨a2, h1, h2⟩ := key i a ha
    rw [← h2]; exact hD.2 i a2 h1
/-- a world that the heap holds, apart, in A; nothing else has changed since H0 -/
def xw (D : va_G) (A : Nat → Prop) (H0 : Heap) (ws : va_W) (H : Heap) (locs : List Loc) : Prop := va_P D vwCl ws H ∧ va_D A ws ∧ va_S A H0 H locs
def xQ (D : va_G) (ws ws' : va_W) (r : Option Value) : Array Value → State → Outcome → State → Prop := fun _ st o t => o = .returned r ∧ va_P D vwCl ws' t.heap ∧ va_F (xA ws) st t
def xPre (D : va_G) (tys : List (ClassId × FieldType)) (av : List Value) (ws : va_W) : Array Value → State → Prop := fun v U => v = av.toArray ∧ va_P D vwCl ws U.heap ∧ xK D tys U ∧ va_D (fun _ => True) ws
abbrev xRm (fr lo : Nat) : Room := { frames := fr, cells := 0, slots := 0, locals := lo }
/-- a method's contract: from the world ws it comes to ws' and answers r; no new cells -/
def xMet (l : Launch) (D : va_G) (tys : List (ClassId × FieldType)) (y : MethodName) (cc : ByteArray) (maxL : Nat) (ret : Option FieldType) (fr lo : Nat) (av : List Value) (ws ws' : va_W) (r : Option Value) : Prop :=
  Met l y [Cond.code y cc maxL ret] (xRm fr lo) (xPre D tys av ws) (xQ D ws ws' r) 0 0 (xA ws)
/-- what stays over a method's body -/
def xE (p : Program) (s : State) (m : MethodId) (args : Array Value) (meth : Method) (c : Code) (cc : ByteArray) (nL : Nat) (ret : Option FieldType) (own : String) (D : va_G) (tys : List (ClassId × FieldType)) : Prop :=
  p.tables.exec = Jvm.exec ∧ c.code = cc ∧ c.maxLocals = nL ∧ meth.sig.returnType = ret ∧ s.vm.findClass own = some m.cls ∧ xK D tys s ∧ meth.locks = false
abbrev xG (p : Program) (l : Launch) (e : Env) (fr lo : Nat) (s : State) (m : MethodId) (args : Array Value) (below : List Frame) (meth : Method) (c : Code) (D : va_G) (ws ws' : va_W) (r : Option Value) (H : Heap) (locs : List Loc) (g : JFrame) : Prop :=
  W p l e (xRm fr lo) s m args below meth c H locs 0 0 (MQ below (xQ D ws ws' r) args s 0 0 (xA ws)) g
theorem x_enter {l : Launch} {D : va_G} {tys : List (ClassId × FieldType)} {y : MethodName} {cc : ByteArray} {maxL : Nat} {ret : Option FieldType} {fr lo : Nat} {av : List Value} {ws ws' : va_W} {r : Option Value}
    (hy : plainName y.cls = true) (hlen : (lg_sl av).length ≤ maxL)
    (body : ∀ (p : Program) (e : Env) (s : State) (m : MethodId) (args : Array Value) (below : List Frame) (meth : Method) (c : Code), xE p s m args meth c cc maxL ret y.cls D tys → ∀ ls : Array Slot, lv_has ls maxL (lv_args 0 av) → xw D (xA ws) s.heap ws s.heap [] → xG p l e fr lo s m args below meth c D ws ws' r s.heap [] (F0 m 0 ls [])) :
    xMet l D tys y cc maxL ret fr lo av ws ws' r := by
  refine Met.ofW (cc := cc) (maxL := maxL) (ret := ret) hy rfl ?_
  intro p e s m args below meth c s₁ B hml hv
  obtain ⟨rfl, hP, hK, hD0⟩ := hv
  have hown : s.vm.findClass y.cls = some m.cls := findClass_of_methodNamed B.named
  have hl := lv_entry av (n := maxL) hlen
  rw [lg_entry_eq]
  exact body p e s m av.toArray below meth c ⟨B.exec, B.bytes, hml, B.returns, hown, hK, B.notSynchronized⟩ _ hl ⟨hP, ⟨hD0.1, fun k q h => xA_in h⟩, va_S.rf⟩
section XR
variable {p : Program} {l : Launch} {e : Env} {R : Room} {s : State} {m : MethodId} {args : Array Value} {below : List Frame} {meth : Method} {c : Code} {H : Heap} {locs : List Loc} {cells slots : Nat} {Q : State → Prop}
variable {cc : ByteArray} {nL : Nat} {ret : Option FieldType} {own : String} {D : va_G} {tys : List (ClassId × FieldType)} {A : Nat → Prop} {H0 : Heap} {ws ws' : va_W} {pc : Nat} {ls : Array Slot} {rest : List Value} {a : Nat}
theorem x_iret {fr lo : Nat} {v : Int32} (E : xE p s m args meth c cc nL (some .int) own D tys) (hw : xw D (xA ws) s.heap ws' H locs) (hdg : decode cc pc = .ok (.ireturn, 1)) : xG p l e fr lo s m args below meth c D ws ws' (some (.int v)) H locs (F0 m pc ls [.int v]) := by
  obtain ⟨hx, hb, hml, hr, hown, hK, hlocks⟩ := E
  exact W.iret hx hb hr (fun t ht hW => ⟨rfl, by rw [ht]; exact hw.1, hw.2.2.F ht⟩) hw.2.2.2.2 hdg hlocks
theorem x_zret {fr lo : Nat} {v : Int32} (E : xE p s m args meth c cc nL (some .boolean) own D tys) (hw : xw D (xA ws) s.heap ws' H locs) (hn : narrow .boolean (.int v) = .int v) (hdg : decode cc pc = .ok (.ireturn, 1)) : xG p l e fr lo s m args below meth c D ws ws' (some (.int v)) H locs (F0 m pc ls [.int v]) := by
  obtain ⟨hx, hb, hml, hr, hown, hK, hlocks⟩ := E
  exact W.zret hx hb hr hn (fun t ht hW => ⟨rfl, by rw [ht]; exact hw.1, hw.2.2.F ht⟩) hw.2.2.2.2 hdg hlocks
theorem x_vret {fr lo : Nat} (E : xE p s m args meth c cc nL none own D tys) (hw : xw D (xA ws) s.heap ws' H locs) (hdg : decode cc pc = .ok (.return_, 1)) : xG p l e fr lo s m args below meth c D ws ws' none H locs (F0 m pc ls []) := by
  obtain ⟨hx, hb, hml, hr, hown, hK, hlocks⟩ := E
  exact W.vret hx hb hr (fun t ht hW => ⟨rfl, by rw [ht]; exact hw.1, hw.2.2.F ht⟩) hw.2.2.2.2 hdg hlocks
theorem x_get (E : xE p s m args meth c cc nL ret own D tys) (hw : xw D A H0 ws H locs) {C : String} {T : u_T} {N ci index : Nat} (hin : ∀ w ∈ u_ws C T N, w ∈ xT) (q0 : Nat) {fs : List Value} (he : ws[q0]? = some (a, .inr (ci, fs))) (hc : vwCl[ci]? = some (C, T, N)) (k : Nat) (hk : k < N) (hlink : Cond.fieldLink own index (T k).1 (T k).2.1 (T k).2.2.1 ∈ xT) {v : Value} (hv : fs[k]? = some v) (hdg : decode cc pc = .ok (.getfield index, 3))
    (kk : W p l e R s m args below meth c H locs cells slots Q (F0 m (pc + 3) ls (v :: rest))) : W p l e R s m args below meth c H locs cells slots Q (F0 m pc ls (.ref a :: rest)) := by
  obtain ⟨hx, hb, hml, hr, hown, hK, hlocks⟩ := E
  exact va_get (D := D) (Ts := xT) hx hb (fun w h => hK.2.use h) hin hown hK.1 hw.1 q0 he hc k hk (hK.2.use hlink) (fun _ h => h) hv hdg kk
theorem x_put (E : xE p s m args meth c cc nL ret own D tys) (hw : xw D A H0 ws H locs) {C : String} {T : u_T} {N ci index : Nat} (hin : ∀ w ∈ u_ws C T N, w ∈ xT) (ty0 : Nat → FieldType) (hty : ∀ k, k < N → parseFieldDescriptor (T k).2.2.1 = some (ty0 k)) (hnm : ∀ a, a < N → ∀ b, b < N → a ≠ b → (T a).2.1 ≠ (T b).2.1) (q0 : Nat) {fs : List Value} (he : ws[q0]? = some (a, .inr (ci, fs))) (hc : vwCl[ci]? = some (C, T, N)) (k : Nat) (hk : k < N) (hlink : Cond.fieldLink own index (T k).1 (T k).2.1 (T k).2.2.1 ∈ xT) (hfin : (T k).2.2.2 = false) {v : Value} (hn : narrow (ty0 k) v = v) (hfit : fits (ty0 k) v = true) (hl : k < fs.length) (hs : ws.set q0 (a, .inr (ci, fs.set k v)) = ws')
    (hdg : decode cc pc = .ok (.putfield index, 3)) (kk : ∀ (H : Heap) (locs : List Loc), xw D A H0 ws' H locs → W p l e R s m args below meth c H locs cells slots Q (F0 m (pc + 3) ls rest)) : W p l e R s m args below meth c H locs cells slots Q (F0 m pc ls (v :: .ref a :: rest)) := by
  obtain ⟨hx, hb, hml, hr, hown, hK, hlocks⟩ := E
  subst hs
  exact va_put (D := D) (Ts := xT) hx hb (fun w h => hK.2.use h) hin ty0 hty hnm hown hK.1 hw.1 hw.2.1 hw.2.2 q0 he hc k hk (hK.2.use hlink) (fun _ h => h) hfin (hty k hk) hn hfit hl hdg (fun H1 l1 h1 h2 h3 => kk H1 l1 ⟨h1, h2, h3⟩)
theorem x_iald (E : xE p s m args meth c cc nL ret own D tys) (hw : xw D A H0 ws H locs) (q0 t0 : Nat) {cA : ClassId} {n : Nat} {f : Nat → Int32} (ha : ws[q0]? = some (a, .inl (cA, n, .inl f))) (ht : tys[t0]? = some (cA, .int)) {i : Int32} (hin : vp_in i n) (hdg : decode cc pc = .ok (.iaload, 1))
    (kk : W p l e R s m args below meth c H locs cells slots Q (F0 m (pc + 1) ls (.int (f i.toNatClampNeg) :: rest))) : W p l e R s m args below meth c H locs cells slots Q (F0 m pc ls (.int i :: .ref a :: rest)) :=
  va_iald E.1 E.2.1 E.2.2.2.2.2.1.1 hw.1 q0 t0 ha ht hin hdg kk
theorem x_zald (E : xE p s m args meth c cc nL ret own D tys) (hw : xw D A H0 ws H locs) (q0 t0 : Nat) {cA : ClassId} {n : Nat} {f : Nat → Int32} (ha : ws[q0]? = some (a, .inl (cA, n, .inl f))) (ht : tys[t0]? = some (cA, .boolean)) {i : Int32} (hin : vp_in i n) (hdg : decode cc pc = .ok (.baload, 1))
    (kk : W p l e R s m args below meth c H locs cells slots Q (F0 m (pc + 1) ls (.int (f i.toNatClampNeg) :: rest))) : W p l e R s m args below meth c H locs cells slots Q (F0 m pc ls (.int i :: .ref a :: rest)) :=
  va_zald E.1 E.2.1 E.2.2.2.2.2.1.1 hw.1 q0 t0 ha ht hin hdg kk
theorem x_iast (E : xE p s m args meth c cc nL ret own D tys) (hw : xw D A H0 ws H locs) (q0 t0 : Nat) {cA : ClassId} {n : Nat} {f : Nat → Int32} (ha : ws[q0]? = some (a, .inl (cA, n, .inl f))) (ht : tys[t0]? = some (cA, .int)) {i x : Int32} (hin : vp_in i n) (hs : ws.set q0 (a, .inl (cA, n, .inl (upd f i.toNatClampNeg x))) = ws') (hdg : decode cc pc = .ok (.iastore, 1))
    (kk : ∀ (H : Heap) (locs : List Loc), xw D A H0 ws' H locs → W p l e R s m args below meth c H locs cells slots Q (F0 m (pc + 1) ls rest)) : W p l e R s m args below meth c H locs cells slots Q (F0 m pc ls (.int x :: .int i :: .ref a :: rest)) := by
  subst hs
  exact va_iast E.1 E.2.1 E.2.2.2.2.2.1.1 hw.1 hw.2.1 hw.2.2 q0 t0 ha ht hin hdg (fun H1 l1 h1 h2 h3 => kk H1 l1 ⟨h1, h2, h3⟩)
theorem x_zast (E : xE p s m args meth c cc nL ret own D tys) (hw : xw D A H0 ws H locs) (q0 t0 : Nat) {cA : ClassId} {n : Nat} {f : Nat → Int32} (ha : ws[q0]? = some (a, .inl (cA, n, .inl f))) (ht : tys[t0]? = some (cA, .boolean)) {i x : Int32} (hin : vp_in i n) (hs : ws.set q0 (a, .inl (cA, n, .inl (upd f i.toNatClampNeg (vp_nar .boolean x)))) = ws') (hdg : decode cc pc = .ok (.bastore, 1))
    (kk : ∀ (H : Heap) (locs : List Loc), xw D A H0 ws' H locs → W p l e R s m args below meth c H locs cells slots Q (F0 m (pc + 1) ls rest)) : W p l e R s m args below meth c H locs cells slots Q (F0 m pc ls (.int x :: .int i :: .ref a :: rest)) := by
  subst hs
  exact va_zast E.1 E.2.1 E.2.2.2.2.2.1.1 hw.1 hw.2.1 hw.2.2 q0 t0 ha ht hin hdg (fun H1 l1 h1 h2 h3 => kk H1 l1 ⟨h1, h2, h3⟩)
theorem x_alen (E : xE p s m args meth c cc nL ret own D tys) (hw : xw D A H0 ws H locs) (q0 t0 : Nat) {cA : ClassId} {x : vp_A} (ha : ws[q0]? = some (a, .inl (cA, x))) {ty : FieldType} (ht : tys[t0]? = some (cA, ty)) {v : Int32} (hv : Int32.ofNat x.1 = v) (hdg : decode cc pc = .ok (.arraylength, 1))
    (kk : W p l e R s m args below meth c H locs cells slots Q (F0 m (pc + 1) ls (.int v :: rest))) : W p l e R s m args below meth c H locs cells slots Q (F0 m pc ls (.ref a :: rest)) :=
  va_alen E.1 E.2.1 E.2.2.2.2.2.1.1 hw.1 q0 t0 ha ht hv hdg kk
end XR
/-- cells put at places -/
def xrep : va_W → List Nat → va_W → va_W
  | ws, i :: is, c :: cs => xrep (ws.set i c) is cs
  | ws, _, _ => ws
theorem xrep_at : ∀ (is : List Nat) (cs ws : va_W), is.length = cs.length → ∀ (k : Nat) (c : Nat × va_E), (xrep ws is cs)[k]? = some c → (∃ j : Nat, is[j]? = some k ∧ cs[j]? = some c) ∨ (k ∉ is ∧ ws[k]? = some c)
  | [], cs, ws, _, k, c, h => Or.inr ⟨List.not_mem_nil, by simpa [xrep] using h⟩
  | i :: is, [], ws, hl, k, c, h => by cases hl
  | i :: is, d :: cs, ws, hl, k, c, h => by
    have h : (xrep (ws.set i d) is cs)[k]? = some c := h
    rcases xrep_at is cs (ws.set i d) (by simpa using hl) k c h with ⟨j, h1, h2⟩ | ⟨h1, h2⟩
    · exact Or.inl ⟨j + 1, by simpa using h1, by simpa using h2⟩
    · by_cases hik : i = k
      · subst hik
        refine Or.inl ⟨0, rfl, ?_⟩
        rw [List.getElem?_set_self'] at h2
        cases h3 : ws[i]? with
        | none => rw [h3] at h2; cases h2
        | some z => rw [h3] at h2; exact h2
      · refine Or.inr ⟨fun hm => ?_, by rwa [List.getElem?_set_ne hik] at h2⟩
        rcases List.mem_cons.mp hm with e | e
        · exact hik e.symm
        · exact h1 e
theorem x_places {ws wc : va_W} {isC : List Nat} (hC : isC.map (fun i => ws[i]?) = wc.map some) {j : Nat} {c : Nat × va_E} (h : wc[j]? = some c) : ∃ i : Nat, isC[j]? = some i ∧ ws[i]? = some c := by
  have h1 : (isC.map (fun i => ws[i]?))[j]? = some (some c) := by rw [hC, List.getElem?_map, h]; rfl
  rw [List.getElem?_map] at h1
  cases hi : isC[j]? with
  | none => rw [hi] at h1; cases h1
  | some i => rw [hi] at h1; exact ⟨i, rfl, Option.some.inj h1⟩
theorem x_sub {ws wc : va_W} {isC : List Nat} (hC : isC.map (fun i => ws[i]?) = wc.map some) {D : va_G} {H : Heap} (hP : va_P D vwCl ws H) : va_P D vwCl wc H := fun j c h => by
  obtain ⟨i, -, h2⟩ := x_places hC h
  exact hP i c h2
theorem x_subD {ws wc : va_W} {isC : List Nat} (hn : va_nd isC = true) (hC : isC.map (fun i => ws[i]?) = wc.map some) {A : Nat → Prop} (hD : va_D A ws) : va_D (fun _ => True) wc := (hD.sub isC hn hC).weaken (fun _ _ _ _ => trivial)
section XC
variable {p : Program} {l : Launch} {e : Env} {R : Room} {s : State} {m : MethodId} {args : Array Value} {below : List Frame} {meth : Method} {c : Code} {H : Heap} {locs : List Loc} {cells slots : Nat} {Q : State → Prop}
variable {cc : ByteArray} {nL : Nat} {ret : Option FieldType} {own : String} {D : va_G} {tys : List (ClassId × FieldType)} {A : Nat → Prop} {H0 : Heap} {ws ws' wc wc' : va_W} {pc : Nat} {ls : Array Slot} {rest st0 : List Value} {a : Array Value} {r : Option Value}
theorem x_after {isC : List Nat} (hr : va_Run p l e R s m args below meth c H locs cells slots 0 0 (F0 m pc ls st0) rest (xQ D wc wc' r a) (xA wc)) (hw : xw D A H0 ws H locs) (hC : isC.map (fun i => ws[i]?) = wc.map some) (hlen : isC.length = wc'.length) (hn : xrep ws isC wc' = ws') (hadr : ws'.map (·.1) = ws.map (·.1))
    (kk : ∀ (H : Heap) (locs : List Loc), xw D A H0 ws' H locs → W p l e R s m args below meth c H locs cells slots Q (F0 m (pc + 3) ls (r.toList ++ rest))) : W p l e R s m args below meth c H locs cells slots Q (F0 m pc ls st0) := by
  intro T hT X
  obtain ⟨v, st₀, t, T', L, h0, X', hL, e1, e2, ⟨hv, hP1, hz, hk⟩, st⟩ := hr T hT X
  cases hv
  rw [h0] at hz hk
  obtain ⟨hP, hD, hS⟩ := hw
  have hAA : ∀ q, xA wc q → A q := fun q hq => by
    obtain ⟨j, z, hj⟩ := xA_of hq
    obtain ⟨i, -, h2⟩ := x_places hC hj
    exact hD.2 i _ h2
  have hP' : va_P D vwCl ws' T'.heap := by
    intro k q hq
    rw [e1]
    rw [← hn] at hq
    rcases xrep_at isC wc' ws hlen k q hq with ⟨j, h1, h2⟩ | ⟨h1, h2⟩
    · exact hP1 j q h2
    · have hlt := (hP k q h2).lt
      refine (hP k q h2).kept (hk q.1 hlt (fun hin => ?_))
      obtain ⟨j, z, hj⟩ := xA_of hin
      obtain ⟨i, h3, h4⟩ := x_places hC hj
      have hij := hD.1 i k _ q h4 h2 rfl
      subst hij
      exact h1 (List.mem_of_getElem? h3)
  have hS' : va_S A H0 T'.heap (locs ++ L) := ⟨Nat.le_trans hS.1 (by rw [e1]; exact hz), fun q h1 h2 => by rw [e1, hk q (Nat.lt_of_lt_of_le h1 hS.1) (fun z => h2 (hAA q z))]; exact hS.2.1 q h1 h2, fun q hq => by
    rcases List.mem_append.mp hq with h | h
    · exact hS.2.2 q h
    · exact hAA _ (hL q h)⟩
  obtain ⟨t2, a1, b1⟩ := kk T'.heap (locs ++ L) ⟨hP', xD_map hadr hD, hS'⟩ T' rfl X'
  exact ⟨t2, st t2 a1, b1⟩
theorem xPre_blind {av : List Value} : FrameBlind (xPre D tys av wc) := fun a U g mk q => by
  obtain ⟨q0, qP, qK, qD⟩ := q
  exact ⟨q0, qP, xK.same qK rfl, qD⟩
/-- the words of a call -/
def xV (own : String) (idx : Nat) (C : String) (y : MethodName) (bytes : ByteArray) (maxL : Nat) (ret : Option FieldType) (n : Nat) : Prop :=
  (Cond.methodLink own idx y ∈ xT ∧ Cond.instanceMethod y ∈ xT ∧ Cond.selects C y y ∈ xT ∧ Cond.initialized y.cls ∈ xT ∧ Cond.code y bytes maxL ret ∈ xT) ∧ y.cls ≠ "java/lang/invoke/MethodHandle" ∧ y.cls ≠ "java/lang/invoke/VarHandle" ∧ (parseMethodDescriptor y.desc).map (fun d => d.parameters.length) = some n
def xS (own : String) (idx : Nat) (y : MethodName) (bytes : ByteArray) (maxL : Nat) (ret : Option FieldType) (n : Nat) : Prop :=
  (Cond.methodLink own idx y ∈ xT ∧ Cond.static y ∈ xT ∧ Cond.initialized y.cls ∈ xT ∧ Cond.code y bytes maxL ret ∈ xT) ∧ y.cls ≠ "java/lang/invoke/MethodHandle" ∧ y.cls ≠ "java/lang/invoke/VarHandle" ∧ (parseMethodDescriptor y.desc).map (fun d => d.parameters.length) = some n
def xN (own : String) (idx : Nat) (host : String) (y : MethodName) (bytes : ByteArray) (maxL : Nat) (ret : Option FieldType) (n : Nat) : Prop :=
  (Cond.methodLinkNest own idx y host ∈ xT ∧ Cond.static y ∈ xT ∧ Cond.initialized y.cls ∈ xT ∧ Cond.code y bytes maxL ret ∈ xT) ∧ y.cls ≠ "java/lang/invoke/MethodHandle" ∧ y.cls ≠ "java/lang/invoke/VarHandle" ∧ (parseMethodDescriptor y.desc).map (fun d => d.parameters.length) = some n
theorem x_good {y : MethodName} {bytes : ByteArray} {maxL : Nat} {rt : Option FieldType} (h : Cond.code y bytes maxL rt ∈ xT) : GoodIn xT [Cond.code y bytes maxL rt] := fun w hw => by
  rcases List.mem_cons.mp hw with rfl | hw
  · exact ⟨h, Or.inl rfl⟩
  · cases hw
variable {y : MethodName} {bytes : ByteArray} {maxL n idx fr' lo' : Nat} {rt : Option FieldType} {C : String} {b : Nat} {As : List Value}
/-- invokevirtual -/
theorem x_callV {isC : List Nat} (E : xE p s m args meth c cc nL ret own D tys) (hw : xw D A H0 ws H locs) (hV : xV own idx C y bytes maxL rt n) (hM : xMet l D tys y bytes maxL rt fr' lo' (.ref b :: As) wc wc' r) (q0 ci : Nat) {q : vw_C} {fs : List Value} (he : ws[q0]? = some (b, .inr (ci, fs))) (hc : vwCl[ci]? = some q) (hq : q.1 = C)
    (hC : isC.map (fun i => ws[i]?) = wc.map some) (hnd : va_nd isC = true) (hlen : isC.length = wc'.length) (hn : xrep ws isC wc' = ws') (hadr : ws'.map (·.1) = ws.map (·.1)) (hAs : As.length = n) (hrm : fr' + 1 ≤ R.frames ∧ 8 + (maxL + 11) + lo' ≤ R.locals) (hcl : cells ≤ R.cells ∧ slots ≤ R.slots) (hls : ls.size = nL) (hst : st0 = As.reverse ++ .ref b :: rest) (hrest : (rest.map fun v => v.category).sum ≤ 8) (hdg : decode cc pc = .ok (.invokevirtual idx, 3))
    (kk : ∀ (H : Heap) (locs : List Loc), xw D A H0 ws' H locs → W p l e R s m args below meth c H locs cells slots Q (F0 m (pc + 3) ls (r.toList ++ rest))) : W p l e R s m args below meth c H locs cells slots Q (F0 m pc ls st0) := by
  obtain ⟨hx, hb, hml, hr, hown, hK, hlocks⟩ := id E
  obtain ⟨⟨w1, w2, w3, w4, w5⟩, d1, d2, d3⟩ := hV
  subst hq
  have hts : ∀ w ∈ xT, w.before args s = true := fun w h => hK.2.use h
  have hcb : CallB R s args own idx y bytes maxL rt [Cond.code y bytes maxL rt] (xRm fr' lo') 0 0 n := callB_of n hts (x_good w5) rfl rfl rfl (hts _ w4) (hts _ w1) ⟨d1, d2, d3⟩ hrm
  exact x_after (va_runV (As := As) (rest := rest) ⟨hx, hb, hml, hown, hts⟩ hM ⟨hcb, hts _ w2, hts _ w3⟩ ⟨xPre_blind, va_recv hK.1 hw.1 hc he, fun U hU hW => ⟨rfl, by rw [hU]; exact x_sub hC hw.1, hK.warm hW, x_subD hnd hC hw.2.1⟩⟩ rfl hAs hls hst (lv_room hrest) hdg hcl) hw hC hlen hn hadr kk
/-- invokestatic -/
theorem x_callS {isC : List Nat} (E : xE p s m args meth c cc nL ret own D tys) (hw : xw D A H0 ws H locs) (hV : xS own idx y bytes maxL rt n) (hM : xMet l D tys y bytes maxL rt fr' lo' As wc wc' r)
    (hC : isC.map (fun i => ws[i]?) = wc.map some) (hnd : va_nd isC = true) (hlen : isC.length = wc'.length) (hn : xrep ws isC wc' = ws') (hadr : ws'.map (·.1) = ws.map (·.1)) (hAs : As.length = n) (hrm : fr' + 1 ≤ R.frames ∧ 8 + (maxL + 11) + lo' ≤ R.locals) (hcl : cells ≤ R.cells ∧ slots ≤ R.slots) (hls : ls.size = nL) (hst : st0 = As.reverse ++ rest) (hrest : (rest.map fun v => v.category).sum ≤ 8) (hdg : decode cc pc = .ok (.invokestatic idx, 3))
    (kk : ∀ (H : Heap) (locs : List Loc), xw D A H0 ws' H locs → W p l e R s m args below meth c H locs cells slots Q (F0 m (pc + 3) ls (r.toList ++ rest))) : W p l e R s m args below meth c H locs cells slots Q (F0 m pc ls st0) := by
  obtain ⟨hx, hb, hml, hr, hown, hK, hlocks⟩ := id E
  obtain ⟨⟨w1, w2, w4, w5⟩, d1, d2, d3⟩ := hV
  have hts : ∀ w ∈ xT, w.before args s = true := fun w h => hK.2.use h
  have hcb : CallB R s args own idx y bytes maxL rt [Cond.code y bytes maxL rt] (xRm fr' lo') 0 0 n := callB_of n hts (x_good w5) rfl rfl rfl (hts _ w4) (hts _ w1) ⟨d1, d2, d3⟩ hrm
  exact x_after (va_runS (As := As) (rest := rest) ⟨hx, hb, hml, hown, hts⟩ hM ⟨hcb, hts _ w2⟩ ⟨xPre_blind, fun U hU hW => ⟨rfl, by rw [hU]; exact x_sub hC hw.1, hK.warm hW, x_subD hnd hC hw.2.1⟩⟩ rfl hAs hls hst (lv_room hrest) hdg hcl) hw hC hlen hn hadr kk
/-- invokestatic of a nest mate's private method -/
theorem x_callN {isC : List Nat} {host : String} (E : xE p s m args meth c cc nL ret own D tys) (hw : xw D A H0 ws H locs) (hV : xN own idx host y bytes maxL rt n) (hM : xMet l D tys y bytes maxL rt fr' lo' As wc wc' r)
    (hC : isC.map (fun i => ws[i]?) = wc.map some) (hnd : va_nd isC = true) (hlen : isC.length = wc'.length) (hn : xrep ws isC wc' = ws') (hadr : ws'.map (·.1) = ws.map (·.1)) (hAs : As.length = n) (hrm : fr' + 1 ≤ R.frames ∧ 8 + (maxL + 11) + lo' ≤ R.locals) (hcl : cells ≤ R.cells ∧ slots ≤ R.slots) (hls : ls.size = nL) (hst : st0 = As.reverse ++ rest) (hrest : (rest.map fun v => v.category).sum ≤ 8) (hdg : decode cc pc = .ok (.invokestatic idx, 3))
    (kk : ∀ (H : Heap) (locs : List Loc), xw D A H0 ws' H locs → W p l e R s m args below meth c H locs cells slots Q (F0 m (pc + 3) ls (r.toList ++ rest))) : W p l e R s m args below meth c H locs cells slots Q (F0 m pc ls st0) := by
  obtain ⟨hx, hb, hml, hr, hown, hK, hlocks⟩ := id E
  obtain ⟨⟨w1, w2, w4, w5⟩, d1, d2, d3⟩ := hV
  have hts : ∀ w ∈ xT, w.before args s = true := fun w h => hK.2.use h
  exact x_after (va_runSN (As := As) (rest := rest) ⟨hx, hb, hml, hown, hts⟩ hM ⟨va_cnB n hts (x_good w5) rfl rfl rfl (hK.2 _ w1) (hts _ w4) ⟨d1, d2, d3⟩ hrm, hts _ w2, trivial⟩ ⟨xPre_blind, fun U hU hW => ⟨rfl, by rw [hU]; exact x_sub hC hw.1, hK.warm hW, x_subD hnd hC hw.2.1⟩⟩ rfl hAs hls hst (lv_room hrest) hdg hcl) hw hC hlen hn hadr kk
end XC
/-! guards of the pure functions -/
def xin (i : Int32) (n : Nat) : Bool := !(decide (i < 0) || decide (n ≤ i.toNatClampNeg))
theorem xin_vp {i : Int32} {n : Nat} (h : xin i n = true) : vp_in i n := by
  unfold xin at h
  simp only [Bool.not_eq_true', Bool.or_eq_false_iff, decide_eq_false_iff_not] at h
  rintro (h1 | h1)
  · exact h.1 h1
  · exact h.2 h1
theorem vp_xin {i : Int32} {n : Nat} (h : vp_in i n) : xin i n = true := by
  unfold xin
  simp only [Bool.not_eq_true', Bool.or_eq_false_iff, decide_eq_false_iff_not]
  exact ⟨fun h1 => h (Or.inl h1), fun h1 => h (Or.inr h1)⟩
theorem xgd {α : Type} {b : Bool} {x : Option α} {r : α} (h : (if b = true then x else none) = some r) : b = true ∧ x = some r := by
  cases b
  · simp at h
  · exact ⟨rfl, by simpa using h⟩
/-- a number that is a truth value -/
def xz (v : Int32) : Bool := decide (v = 0) || decide (v = 1)
theorem xz_n {v : Int32} (h : xz v = true) : narrow .boolean (.int v) = .int v := by
  unfold xz at h
  simp only [Bool.or_eq_true, decide_eq_true_eq] at h
  rcases h with rfl | rfl <;> rfl
end
section
theorem kV_X5_readClause : Cond.selects RX5 yX5_readClause yX5_readClause ∈ xT := x_mem (i := 0) (by decide +kernel) (by decide +kernel)
theorem kV_X5_nextToken : Cond.selects RX5 yX5_nextToken yX5_nextToken ∈ xT := x_mem (i := 1) (by decide +kernel) (by decide +kernel)
theorem kV_X5_kindOfToken : Cond.selects RX5 yX5_kindOfToken yX5_kindOfToken ∈ xT := x_mem (i := 2) (by decide +kernel) (by decide +kernel)
theorem kV_X5_tokenIs : Cond.selects RX5 yX5_tokenIs yX5_tokenIs ∈ xT := x_mem (i := 3) (by decide +kernel) (by decide +kernel)
theorem kV_X5_takeNumber : Cond.selects RX5 yX5_takeNumber yX5_takeNumber ∈ xT := x_mem (i := 4) (by decide +kernel) (by decide +kernel)
theorem kV_X5_tokenNumber : Cond.selects RX5 yX5_tokenNumber yX5_tokenNumber ∈ xT := x_mem (i := 5) (by decide +kernel) (by decide +kernel)
theorem kV_X5_isSemicolon : Cond.selects RX5 yX5_isSemicolon yX5_isSemicolon ∈ xT := x_mem (i := 6) (by decide +kernel) (by decide +kernel)
theorem kV_X6_doClause : Cond.selects RX6 yX6_doClause yX6_doClause ∈ xT := x_mem (i := 7) (by decide +kernel) (by decide +kernel)
theorem kV_X6_putIfNew : Cond.selects RX6 yX6_putIfNew yX6_putIfNew ∈ xT := x_mem (i := 8) (by decide +kernel) (by decide +kernel)
theorem kV_X3_graft : Cond.selects RX3 yX3_graft yX3_graft ∈ xT := x_mem (i := 9) (by decide +kernel) (by decide +kernel)
theorem kV_X3_followArcs : Cond.selects RX3 yX3_followArcs yX3_followArcs ∈ xT := x_mem (i := 10) (by decide +kernel) (by decide +kernel)
theorem kV_X6_arePair : Cond.selects RX6 yX6_arePair yX6_arePair ∈ xT := x_mem (i := 11) (by decide +kernel) (by decide +kernel)
theorem kV_X6_isPoint : Cond.selects RX6 yX6_isPoint yX6_isPoint ∈ xT := x_mem (i := 12) (by decide +kernel) (by decide +kernel)
theorem kV_X3_stoodOn : Cond.selects RX3 yX3_stoodOn yX3_stoodOn ∈ xT := x_mem (i := 13) (by decide +kernel) (by decide +kernel)
theorem kV_X3_makeAnew : Cond.selects RX3 yX3_makeAnew yX3_makeAnew ∈ xT := x_mem (i := 14) (by decide +kernel) (by decide +kernel)
theorem kV_X6_isArcThere : Cond.selects RX6 yX6_isArcThere yX6_isArcThere ∈ xT := x_mem (i := 15) (by decide +kernel) (by decide +kernel)
theorem kV_X3_membersWithout : Cond.selects RX3 yX3_membersWithout yX3_membersWithout ∈ xT := x_mem (i := 16) (by decide +kernel) (by decide +kernel)
theorem kV_X6_foldPair : Cond.selects RX6 yX6_foldPair yX6_foldPair ∈ xT := x_mem (i := 17) (by decide +kernel) (by decide +kernel)
theorem kV_X3_newMembers : Cond.selects RX3 yX3_newMembers yX3_newMembers ∈ xT := x_mem (i := 18) (by decide +kernel) (by decide +kernel)
theorem kV_X1_findWay : Cond.selects RX1 yX1_findWay yX1_findWay ∈ xT := x_mem (i := 19) (by decide +kernel) (by decide +kernel)
theorem kV_X1_useWay : Cond.selects RX1 yX1_useWay yX1_useWay ∈ xT := x_mem (i := 20) (by decide +kernel) (by decide +kernel)
theorem kV_X1_useStep : Cond.selects RX1 yX1_useStep yX1_useStep ∈ xT := x_mem (i := 21) (by decide +kernel) (by decide +kernel)
theorem kV_X6_isTellable : Cond.selects RX6 yX6_isTellable yX6_isTellable ∈ xT := x_mem (i := 22) (by decide +kernel) (by decide +kernel)
theorem kV_X6_strikeArcs : Cond.selects RX6 yX6_strikeArcs yX6_strikeArcs ∈ xT := x_mem (i := 23) (by decide +kernel) (by decide +kernel)
theorem kV_X6_thingsOfChains : Cond.selects RX6 yX6_thingsOfChains yX6_thingsOfChains ∈ xT := x_mem (i := 24) (by decide +kernel) (by decide +kernel)
theorem kV_X7_begin : Cond.selects RX7 yX7_begin yX7_begin ∈ xT := x_mem (i := 25) (by decide +kernel) (by decide +kernel)
theorem kV_X7_loseChains : Cond.selects RX7 yX7_loseChains yX7_loseChains ∈ xT := x_mem (i := 26) (by decide +kernel) (by decide +kernel)
theorem kV_X7_readAll : Cond.selects RX7 yX7_readAll yX7_readAll ∈ xT := x_mem (i := 27) (by decide +kernel) (by decide +kernel)
theorem kV_X7_next : Cond.selects RX7 yX7_next yX7_next ∈ xT := x_mem (i := 28) (by decide +kernel) (by decide +kernel)
theorem kV_X7_letter : Cond.selects RX7 yX7_letter yX7_letter ∈ xT := x_mem (i := 29) (by decide +kernel) (by decide +kernel)
theorem kV_X7_readClause : Cond.selects RX7 yX7_readClause yX7_readClause ∈ xT := x_mem (i := 30) (by decide +kernel) (by decide +kernel)
theorem kV_X7_wordOf : Cond.selects RX7 yX7_wordOf yX7_wordOf ∈ xT := x_mem (i := 31) (by decide +kernel) (by decide +kernel)
theorem kV_X7_isWord : Cond.selects RX7 yX7_isWord yX7_isWord ∈ xT := x_mem (i := 32) (by decide +kernel) (by decide +kernel)
theorem kV_X7_faults : Cond.selects RX7 yX7_faults yX7_faults ∈ xT := x_mem (i := 33) (by decide +kernel) (by decide +kernel)
theorem kV_X7_takesNumber : Cond.selects RX7 yX7_takesNumber yX7_takesNumber ∈ xT := x_mem (i := 34) (by decide +kernel) (by decide +kernel)
theorem kV_X7_takesPoint : Cond.selects RX7 yX7_takesPoint yX7_takesPoint ∈ xT := x_mem (i := 35) (by decide +kernel) (by decide +kernel)
theorem kV_X7_doClause : Cond.selects RX7 yX7_doClause yX7_doClause ∈ xT := x_mem (i := 36) (by decide +kernel) (by decide +kernel)
theorem kV_X7_putIfNew : Cond.selects RX7 yX7_putIfNew yX7_putIfNew ∈ xT := x_mem (i := 37) (by decide +kernel) (by decide +kernel)
theorem kV_X7_arcs : Cond.selects RX7 yX7_arcs yX7_arcs ∈ xT := x_mem (i := 38) (by decide +kernel) (by decide +kernel)
theorem kV_X7_putIn : Cond.selects RX7 yX7_putIn yX7_putIn ∈ xT := x_mem (i := 39) (by decide +kernel) (by decide +kernel)
theorem kV_X7_isIn : Cond.selects RX7 yX7_isIn yX7_isIn ∈ xT := x_mem (i := 40) (by decide +kernel) (by decide +kernel)
theorem kV_X7_goOn : Cond.selects RX7 yX7_goOn yX7_goOn ∈ xT := x_mem (i := 41) (by decide +kernel) (by decide +kernel)
theorem kV_X7_areTwo : Cond.selects RX7 yX7_areTwo yX7_areTwo ∈ xT := x_mem (i := 42) (by decide +kernel) (by decide +kernel)
theorem kV_X7_isPoint : Cond.selects RX7 yX7_isPoint yX7_isPoint ∈ xT := x_mem (i := 43) (by decide +kernel) (by decide +kernel)
theorem kV_X7_isArc : Cond.selects RX7 yX7_isArc yX7_isArc ∈ xT := x_mem (i := 44) (by decide +kernel) (by decide +kernel)
theorem kV_X7_pairs : Cond.selects RX7 yX7_pairs yX7_pairs ∈ xT := x_mem (i := 45) (by decide +kernel) (by decide +kernel)
theorem kV_X7_note : Cond.selects RX7 yX7_note yX7_note ∈ xT := x_mem (i := 46) (by decide +kernel) (by decide +kernel)
theorem kV_X7_stoodOn : Cond.selects RX7 yX7_stoodOn yX7_stoodOn ∈ xT := x_mem (i := 47) (by decide +kernel) (by decide +kernel)
theorem kV_X7_grow : Cond.selects RX7 yX7_grow yX7_grow ∈ xT := x_mem (i := 48) (by decide +kernel) (by decide +kernel)
theorem kV_X7_aboveOf : Cond.selects RX7 yX7_aboveOf yX7_aboveOf ∈ xT := x_mem (i := 49) (by decide +kernel) (by decide +kernel)
theorem kV_X7_treeOf : Cond.selects RX7 yX7_treeOf yX7_treeOf ∈ xT := x_mem (i := 50) (by decide +kernel) (by decide +kernel)
theorem kV_X7_comingTo : Cond.selects RX7 yX7_comingTo yX7_comingTo ∈ xT := x_mem (i := 51) (by decide +kernel) (by decide +kernel)
theorem kV_X7_ringOf : Cond.selects RX7 yX7_ringOf yX7_ringOf ∈ xT := x_mem (i := 52) (by decide +kernel) (by decide +kernel)
theorem kV_X7_isNeedless : Cond.selects RX7 yX7_isNeedless yX7_isNeedless ∈ xT := x_mem (i := 53) (by decide +kernel) (by decide +kernel)
theorem kV_X7_without : Cond.selects RX7 yX7_without yX7_without ∈ xT := x_mem (i := 54) (by decide +kernel) (by decide +kernel)
theorem kV_X7_rings : Cond.selects RX7 yX7_rings yX7_rings ∈ xT := x_mem (i := 55) (by decide +kernel) (by decide +kernel)
theorem kV_X7_needlessMany : Cond.selects RX7 yX7_needlessMany yX7_needlessMany ∈ xT := x_mem (i := 56) (by decide +kernel) (by decide +kernel)
theorem kV_X7_gainOf : Cond.selects RX7 yX7_gainOf yX7_gainOf ∈ xT := x_mem (i := 57) (by decide +kernel) (by decide +kernel)
theorem kV_X7_lossOf : Cond.selects RX7 yX7_lossOf yX7_lossOf ∈ xT := x_mem (i := 58) (by decide +kernel) (by decide +kernel)
theorem kV_X7_findsWay : Cond.selects RX7 yX7_findsWay yX7_findsWay ∈ xT := x_mem (i := 59) (by decide +kernel) (by decide +kernel)
theorem kV_X7_goAlong : Cond.selects RX7 yX7_goAlong yX7_goAlong ∈ xT := x_mem (i := 60) (by decide +kernel) (by decide +kernel)
theorem kV_X7_allThings : Cond.selects RX7 yX7_allThings yX7_allThings ∈ xT := x_mem (i := 61) (by decide +kernel) (by decide +kernel)
theorem kN_L : Cond.initialized RL ∈ xT := x_mem (i := 62) (by decide +kernel) (by decide +kernel)
theorem kN_X6 : Cond.initialized RX6 ∈ xT := x_mem (i := 63) (by decide +kernel) (by decide +kernel)
theorem kN_X2 : Cond.initialized RX2 ∈ xT := x_mem (i := 64) (by decide +kernel) (by decide +kernel)
theorem kN_X5 : Cond.initialized RX5 ∈ xT := x_mem (i := 65) (by decide +kernel) (by decide +kernel)
theorem kN_X3 : Cond.initialized RX3 ∈ xT := x_mem (i := 66) (by decide +kernel) (by decide +kernel)
theorem kN_J7 : Cond.initialized RJ7 ∈ xT := x_mem (i := 67) (by decide +kernel) (by decide +kernel)
theorem kN_X4 : Cond.initialized RX4 ∈ xT := x_mem (i := 68) (by decide +kernel) (by decide +kernel)
theorem kN_X1 : Cond.initialized RX1 ∈ xT := x_mem (i := 69) (by decide +kernel) (by decide +kernel)
theorem kN_X0 : Cond.initialized RX0 ∈ xT := x_mem (i := 70) (by decide +kernel) (by decide +kernel)
theorem kN_X7 : Cond.initialized RX7 ∈ xT := x_mem (i := 71) (by decide +kernel) (by decide +kernel)
theorem kN_J0 : Cond.initialized RJ0 ∈ xT := x_mem (i := 72) (by decide +kernel) (by decide +kernel)
theorem kN_J1 : Cond.initialized RJ1 ∈ xT := x_mem (i := 73) (by decide +kernel) (by decide +kernel)
theorem kN_J3 : Cond.initialized RJ3 ∈ xT := x_mem (i := 74) (by decide +kernel) (by decide +kernel)
theorem kN_J2 : Cond.initialized RJ2 ∈ xT := x_mem (i := 75) (by decide +kernel) (by decide +kernel)
theorem kN_J6 : Cond.initialized RJ6 ∈ xT := x_mem (i := 76) (by decide +kernel) (by decide +kernel)
theorem kN_J10 : Cond.initialized RJ10 ∈ xT := x_mem (i := 77) (by decide +kernel) (by decide +kernel)
theorem kN_J9 : Cond.initialized RJ9 ∈ xT := x_mem (i := 78) (by decide +kernel) (by decide +kernel)
theorem kM_L_9 : Cond.methodLink RL 9 yX6_init ∈ xT := x_mem (i := 81) (by decide +kernel) (by decide +kernel)
theorem kI_X6_init : Cond.instanceMethod yX6_init ∈ xT := x_mem (i := 82) (by decide +kernel) (by decide +kernel)
theorem kC_X6_init : Cond.code yX6_init cX6_init 2 none ∈ xT := x_mem (i := 83) (by decide +kernel) (by decide +kernel)
theorem kM_X6_9 : Cond.methodLinkNest RX6 9 yX2_init RX6 ∈ xT := x_mem (i := 89) (by decide +kernel) (by decide +kernel)
theorem kI_X2_init : Cond.instanceMethod yX2_init ∈ xT := x_mem (i := 90) (by decide +kernel) (by decide +kernel)
theorem kC_X2_init : Cond.code yX2_init cX2_init 1 none ∈ xT := x_mem (i := 91) (by decide +kernel) (by decide +kernel)
theorem kF_X2_9 : Cond.fieldLink RX2 9 "ReachTrees$Letters" "row" "[I" ∈ xT := x_mem (i := 93) (by decide +kernel) (by decide +kernel)
theorem kF_X6_64 : Cond.fieldLink RX6 64 "ReachTrees$Letters" "row" "[I" ∈ xT := x_mem (i := 94) (by decide +kernel) (by decide +kernel)
theorem kF_X5_65 : Cond.fieldLink RX5 65 "ReachTrees$Letters" "row" "[I" ∈ xT := x_mem (i := 95) (by decide +kernel) (by decide +kernel)
theorem kF_X6_61 : Cond.fieldLink RX6 61 "ReachTrees$Letters" "length" "I" ∈ xT := x_mem (i := 96) (by decide +kernel) (by decide +kernel)
theorem kF_X5_70 : Cond.fieldLink RX5 70 "ReachTrees$Letters" "length" "I" ∈ xT := x_mem (i := 97) (by decide +kernel) (by decide +kernel)
theorem kM_X6_18 : Cond.methodLink RX6 18 yX5_init ∈ xT := x_mem (i := 106) (by decide +kernel) (by decide +kernel)
theorem kI_X5_init : Cond.instanceMethod yX5_init ∈ xT := x_mem (i := 107) (by decide +kernel) (by decide +kernel)
theorem kC_X5_init : Cond.code yX5_init cX5_init 2 none ∈ xT := x_mem (i := 108) (by decide +kernel) (by decide +kernel)
theorem kF_X5_18 : Cond.fieldLink RX5 18 "ReachTrees$Reader" "letters" "LReachTrees$Letters;" ∈ xT := x_mem (i := 110) (by decide +kernel) (by decide +kernel)
theorem kF_X5_9 : Cond.fieldLink RX5 9 "ReachTrees$Reader" "kinds" "[I" ∈ xT := x_mem (i := 111) (by decide +kernel) (by decide +kernel)
theorem kF_X6_92 : Cond.fieldLink RX6 92 "ReachTrees$Reader" "kinds" "[I" ∈ xT := x_mem (i := 112) (by decide +kernel) (by decide +kernel)
theorem kF_X5_15 : Cond.fieldLink RX5 15 "ReachTrees$Reader" "numbers" "[I" ∈ xT := x_mem (i := 113) (by decide +kernel) (by decide +kernel)
theorem kF_X5_22 : Cond.fieldLink RX5 22 "ReachTrees$Reader" "clauses" "I" ∈ xT := x_mem (i := 114) (by decide +kernel) (by decide +kernel)
theorem kF_X6_75 : Cond.fieldLink RX6 75 "ReachTrees$Reader" "clauses" "I" ∈ xT := x_mem (i := 115) (by decide +kernel) (by decide +kernel)
theorem kF_X5_43 : Cond.fieldLink RX5 43 "ReachTrees$Reader" "tokenSort" "I" ∈ xT := x_mem (i := 116) (by decide +kernel) (by decide +kernel)
theorem kF_X5_33 : Cond.fieldLink RX5 33 "ReachTrees$Reader" "tokenStart" "I" ∈ xT := x_mem (i := 117) (by decide +kernel) (by decide +kernel)
theorem kF_X5_26 : Cond.fieldLink RX5 26 "ReachTrees$Reader" "tokenEnd" "I" ∈ xT := x_mem (i := 118) (by decide +kernel) (by decide +kernel)
theorem kM_X6_27 : Cond.methodLink RX6 27 yX3_init ∈ xT := x_mem (i := 136) (by decide +kernel) (by decide +kernel)
theorem kI_X3_init : Cond.instanceMethod yX3_init ∈ xT := x_mem (i := 137) (by decide +kernel) (by decide +kernel)
theorem kC_X3_init : Cond.code yX3_init cX3_init 1 none ∈ xT := x_mem (i := 138) (by decide +kernel) (by decide +kernel)
theorem kM_X3_21 : Cond.methodLink RX3 21 yX3_makeEmpty ∈ xT := x_mem (i := 140) (by decide +kernel) (by decide +kernel)
theorem kI_X3_makeEmpty : Cond.instanceMethod yX3_makeEmpty ∈ xT := x_mem (i := 141) (by decide +kernel) (by decide +kernel)
theorem kV_X3_makeEmpty : Cond.selects RX3 yX3_makeEmpty yX3_makeEmpty ∈ xT := x_mem (i := 142) (by decide +kernel) (by decide +kernel)
theorem kC_X3_makeEmpty : Cond.code yX3_makeEmpty cX3_makeEmpty 3 none ∈ xT := x_mem (i := 143) (by decide +kernel) (by decide +kernel)
theorem kM_X3_32 : Cond.methodLink RX3 32 yJ7_fill_53178 ∈ xT := x_mem (i := 144) (by decide +kernel) (by decide +kernel)
theorem kS_J7_fill_53178 : Cond.static yJ7_fill_53178 ∈ xT := x_mem (i := 145) (by decide +kernel) (by decide +kernel)
theorem kC_J7_fill_53178 : Cond.code yJ7_fill_53178 cJ7_fill_53178 4 none ∈ xT := x_mem (i := 146) (by decide +kernel) (by decide +kernel)
theorem kF_X3_25 : Cond.fieldLink RX3 25 "ReachTrees$Net" "points" "I" ∈ xT := x_mem (i := 147) (by decide +kernel) (by decide +kernel)
theorem kF_X1_48 : Cond.fieldLink RX1 48 "ReachTrees$Net" "points" "I" ∈ xT := x_mem (i := 148) (by decide +kernel) (by decide +kernel)
theorem kF_X6_68 : Cond.fieldLink RX6 68 "ReachTrees$Net" "points" "I" ∈ xT := x_mem (i := 149) (by decide +kernel) (by decide +kernel)
theorem kF_X3_29 : Cond.fieldLink RX3 29 "ReachTrees$Net" "work" "I" ∈ xT := x_mem (i := 150) (by decide +kernel) (by decide +kernel)
theorem kF_X6_132 : Cond.fieldLink RX6 132 "ReachTrees$Net" "work" "I" ∈ xT := x_mem (i := 151) (by decide +kernel) (by decide +kernel)
theorem kF_X3_9 : Cond.fieldLink RX3 9 "ReachTrees$Net" "outgoing" "[I" ∈ xT := x_mem (i := 152) (by decide +kernel) (by decide +kernel)
theorem kF_X1_43 : Cond.fieldLink RX1 43 "ReachTrees$Net" "outgoing" "[I" ∈ xT := x_mem (i := 153) (by decide +kernel) (by decide +kernel)
theorem kF_X3_15 : Cond.fieldLink RX3 15 "ReachTrees$Net" "members" "[I" ∈ xT := x_mem (i := 154) (by decide +kernel) (by decide +kernel)
theorem kF_X6_164 : Cond.fieldLink RX6 164 "ReachTrees$Net" "members" "[I" ∈ xT := x_mem (i := 155) (by decide +kernel) (by decide +kernel)
theorem kF_X3_18 : Cond.fieldLink RX3 18 "ReachTrees$Net" "aboves" "[I" ∈ xT := x_mem (i := 156) (by decide +kernel) (by decide +kernel)
theorem kM_X6_34 : Cond.methodLink RX6 34 yX4_init ∈ xT := x_mem (i := 170) (by decide +kernel) (by decide +kernel)
theorem kI_X4_init : Cond.instanceMethod yX4_init ∈ xT := x_mem (i := 171) (by decide +kernel) (by decide +kernel)
theorem kC_X4_init : Cond.code yX4_init cX4_init 2 none ∈ xT := x_mem (i := 172) (by decide +kernel) (by decide +kernel)
theorem kM_X4_17 : Cond.methodLink RX4 17 yX3_init ∈ xT := x_mem (i := 176) (by decide +kernel) (by decide +kernel)
theorem kF_X4_11 : Cond.fieldLink RX4 11 "ReachTrees$Past" "notes" "[LReachTrees$Net;" ∈ xT := x_mem (i := 177) (by decide +kernel) (by decide +kernel)
theorem kF_X4_18 : Cond.fieldLink RX4 18 "ReachTrees$Past" "next" "I" ∈ xT := x_mem (i := 178) (by decide +kernel) (by decide +kernel)
theorem kF_X4_26 : Cond.fieldLink RX4 26 "ReachTrees$Past" "size" "I" ∈ xT := x_mem (i := 179) (by decide +kernel) (by decide +kernel)
theorem kF_X6_135 : Cond.fieldLink RX6 135 "ReachTrees$Past" "size" "I" ∈ xT := x_mem (i := 180) (by decide +kernel) (by decide +kernel)
theorem kM_X6_49 : Cond.methodLinkNest RX6 49 yX1_init RX6 ∈ xT := x_mem (i := 190) (by decide +kernel) (by decide +kernel)
theorem kI_X1_init : Cond.instanceMethod yX1_init ∈ xT := x_mem (i := 191) (by decide +kernel) (by decide +kernel)
theorem kC_X1_init : Cond.code yX1_init cX1_init 1 none ∈ xT := x_mem (i := 192) (by decide +kernel) (by decide +kernel)
theorem kF_X1_9 : Cond.fieldLink RX1 9 "ReachTrees$Cut" "used" "[I" ∈ xT := x_mem (i := 194) (by decide +kernel) (by decide +kernel)
theorem kF_X1_15 : Cond.fieldLink RX1 15 "ReachTrees$Cut" "usedInto" "[I" ∈ xT := x_mem (i := 195) (by decide +kernel) (by decide +kernel)
theorem kF_X1_18 : Cond.fieldLink RX1 18 "ReachTrees$Cut" "cameFrom" "[I" ∈ xT := x_mem (i := 196) (by decide +kernel) (by decide +kernel)
theorem kM_X6_60 : Cond.methodLinkNest RX6 60 yX0_init RX6 ∈ xT := x_mem (i := 207) (by decide +kernel) (by decide +kernel)
theorem kI_X0_init : Cond.instanceMethod yX0_init ∈ xT := x_mem (i := 208) (by decide +kernel) (by decide +kernel)
theorem kC_X0_init : Cond.code yX0_init cX0_init 1 none ∈ xT := x_mem (i := 209) (by decide +kernel) (by decide +kernel)
theorem kF_X0_9 : Cond.fieldLink RX0 9 "ReachTrees$Chain" "values" "[I" ∈ xT := x_mem (i := 211) (by decide +kernel) (by decide +kernel)
theorem kF_X6_232 : Cond.fieldLink RX6 232 "ReachTrees$Chain" "values" "[I" ∈ xT := x_mem (i := 212) (by decide +kernel) (by decide +kernel)
theorem kF_X0_15 : Cond.fieldLink RX0 15 "ReachTrees$Chain" "isArc" "[Z" ∈ xT := x_mem (i := 213) (by decide +kernel) (by decide +kernel)
theorem kF_X6_228 : Cond.fieldLink RX6 228 "ReachTrees$Chain" "isArc" "[Z" ∈ xT := x_mem (i := 214) (by decide +kernel) (by decide +kernel)
theorem kF_X0_19 : Cond.fieldLink RX0 19 "ReachTrees$Chain" "missing" "Z" ∈ xT := x_mem (i := 215) (by decide +kernel) (by decide +kernel)
theorem kF_X6_219 : Cond.fieldLink RX6 219 "ReachTrees$Chain" "missing" "Z" ∈ xT := x_mem (i := 216) (by decide +kernel) (by decide +kernel)
theorem kF_X0_23 : Cond.fieldLink RX0 23 "ReachTrees$Chain" "size" "I" ∈ xT := x_mem (i := 217) (by decide +kernel) (by decide +kernel)
theorem kF_X6_223 : Cond.fieldLink RX6 223 "ReachTrees$Chain" "size" "I" ∈ xT := x_mem (i := 218) (by decide +kernel) (by decide +kernel)
theorem kF_X6_10 : Cond.fieldLink RX6 10 "ReachTrees" "letters" "LReachTrees$Letters;" ∈ xT := x_mem (i := 229) (by decide +kernel) (by decide +kernel)
theorem kF_X6_21 : Cond.fieldLink RX6 21 "ReachTrees" "reader" "LReachTrees$Reader;" ∈ xT := x_mem (i := 230) (by decide +kernel) (by decide +kernel)
theorem kF_X6_28 : Cond.fieldLink RX6 28 "ReachTrees" "live" "LReachTrees$Net;" ∈ xT := x_mem (i := 231) (by decide +kernel) (by decide +kernel)
theorem kF_X6_35 : Cond.fieldLink RX6 35 "ReachTrees" "past" "LReachTrees$Past;" ∈ xT := x_mem (i := 232) (by decide +kernel) (by decide +kernel)
theorem kF_X6_39 : Cond.fieldLink RX6 39 "ReachTrees" "kept" "[LReachTrees$Net;" ∈ xT := x_mem (i := 233) (by decide +kernel) (by decide +kernel)
theorem kF_X6_43 : Cond.fieldLink RX6 43 "ReachTrees" "keptSet" "I" ∈ xT := x_mem (i := 234) (by decide +kernel) (by decide +kernel)
theorem kF_X6_50 : Cond.fieldLink RX6 50 "ReachTrees" "cut" "LReachTrees$Cut;" ∈ xT := x_mem (i := 235) (by decide +kernel) (by decide +kernel)
theorem kF_X6_56 : Cond.fieldLink RX6 56 "ReachTrees" "chains" "[LReachTrees$Chain;" ∈ xT := x_mem (i := 236) (by decide +kernel) (by decide +kernel)
theorem kM_L_13 : Cond.methodLink RL 13 yX6_write ∈ xT := x_mem (i := 254) (by decide +kernel) (by decide +kernel)
theorem kI_X6_write : Cond.instanceMethod yX6_write ∈ xT := x_mem (i := 255) (by decide +kernel) (by decide +kernel)
theorem kV_X6_write : Cond.selects RX6 yX6_write yX6_write ∈ xT := x_mem (i := 256) (by decide +kernel) (by decide +kernel)
theorem kC_X6_write : Cond.code yX6_write cX6_write 2 (some .int) ∈ xT := x_mem (i := 257) (by decide +kernel) (by decide +kernel)
theorem kM_L_18 : Cond.methodLink RL 18 yX6_erase ∈ xT := x_mem (i := 258) (by decide +kernel) (by decide +kernel)
theorem kI_X6_erase : Cond.instanceMethod yX6_erase ∈ xT := x_mem (i := 259) (by decide +kernel) (by decide +kernel)
theorem kV_X6_erase : Cond.selects RX6 yX6_erase yX6_erase ∈ xT := x_mem (i := 260) (by decide +kernel) (by decide +kernel)
theorem kC_X6_erase : Cond.code yX6_erase cX6_erase 2 (some .int) ∈ xT := x_mem (i := 261) (by decide +kernel) (by decide +kernel)
theorem kM_L_23 : Cond.methodLink RL 23 yX6_fault ∈ xT := x_mem (i := 262) (by decide +kernel) (by decide +kernel)
theorem kI_X6_fault : Cond.instanceMethod yX6_fault ∈ xT := x_mem (i := 263) (by decide +kernel) (by decide +kernel)
theorem kV_X6_fault : Cond.selects RX6 yX6_fault yX6_fault ∈ xT := x_mem (i := 264) (by decide +kernel) (by decide +kernel)
theorem kC_X6_fault : Cond.code yX6_fault cX6_fault 1 (some .int) ∈ xT := x_mem (i := 265) (by decide +kernel) (by decide +kernel)
theorem kM_X6_71 : Cond.methodLink RX6 71 yX5_readAll ∈ xT := x_mem (i := 266) (by decide +kernel) (by decide +kernel)
theorem kI_X5_readAll : Cond.instanceMethod yX5_readAll ∈ xT := x_mem (i := 267) (by decide +kernel) (by decide +kernel)
theorem kV_X5_readAll : Cond.selects RX5 yX5_readAll yX5_readAll ∈ xT := x_mem (i := 268) (by decide +kernel) (by decide +kernel)
theorem kC_X5_readAll : Cond.code yX5_readAll cX5_readAll 3 (some .int) ∈ xT := x_mem (i := 269) (by decide +kernel) (by decide +kernel)
theorem kM_X5_29 : Cond.methodLink RX5 29 yX5_readClause ∈ xT := x_mem (i := 270) (by decide +kernel) (by decide +kernel)
theorem kI_X5_readClause : Cond.instanceMethod yX5_readClause ∈ xT := x_mem (i := 272) (by decide +kernel) (by decide +kernel)
theorem kC_X5_readClause : Cond.code yX5_readClause cX5_readClause 5 (some .boolean) ∈ xT := x_mem (i := 273) (by decide +kernel) (by decide +kernel)
theorem kM_X5_40 : Cond.methodLink RX5 40 yX5_nextToken ∈ xT := x_mem (i := 274) (by decide +kernel) (by decide +kernel)
theorem kI_X5_nextToken : Cond.instanceMethod yX5_nextToken ∈ xT := x_mem (i := 276) (by decide +kernel) (by decide +kernel)
theorem kC_X5_nextToken : Cond.code yX5_nextToken cX5_nextToken 2 none ∈ xT := x_mem (i := 277) (by decide +kernel) (by decide +kernel)
theorem kM_X5_73 : Cond.methodLink RX5 73 yX5_sortOf ∈ xT := x_mem (i := 278) (by decide +kernel) (by decide +kernel)
theorem kS_X5_sortOf : Cond.static yX5_sortOf ∈ xT := x_mem (i := 279) (by decide +kernel) (by decide +kernel)
theorem kC_X5_sortOf : Cond.code yX5_sortOf cX5_sortOf 1 (some .int) ∈ xT := x_mem (i := 280) (by decide +kernel) (by decide +kernel)
theorem kM_X5_50 : Cond.methodLink RX5 50 yX5_kindOfToken ∈ xT := x_mem (i := 281) (by decide +kernel) (by decide +kernel)
theorem kI_X5_kindOfToken : Cond.instanceMethod yX5_kindOfToken ∈ xT := x_mem (i := 283) (by decide +kernel) (by decide +kernel)
theorem kC_X5_kindOfToken : Cond.code yX5_kindOfToken cX5_kindOfToken 2 (some .int) ∈ xT := x_mem (i := 284) (by decide +kernel) (by decide +kernel)
theorem kM_X5_76 : Cond.methodLink RX5 76 yX5_wordOf ∈ xT := x_mem (i := 285) (by decide +kernel) (by decide +kernel)
theorem kS_X5_wordOf : Cond.static yX5_wordOf ∈ xT := x_mem (i := 286) (by decide +kernel) (by decide +kernel)
theorem kC_X5_wordOf : Cond.code yX5_wordOf cX5_wordOf 1 (some .object) ∈ xT := x_mem (i := 287) (by decide +kernel) (by decide +kernel)
theorem kM_X5_80 : Cond.methodLink RX5 80 yX5_tokenIs ∈ xT := x_mem (i := 293) (by decide +kernel) (by decide +kernel)
theorem kI_X5_tokenIs : Cond.instanceMethod yX5_tokenIs ∈ xT := x_mem (i := 295) (by decide +kernel) (by decide +kernel)
theorem kC_X5_tokenIs : Cond.code yX5_tokenIs cX5_tokenIs 3 (some .boolean) ∈ xT := x_mem (i := 296) (by decide +kernel) (by decide +kernel)
theorem kM_X5_84 : Cond.methodLink RX5 84 yJ0_length_8abf5 ∈ xT := x_mem (i := 297) (by decide +kernel) (by decide +kernel)
theorem kI_J0_length_8abf5 : Cond.instanceMethod yJ0_length_8abf5 ∈ xT := x_mem (i := 298) (by decide +kernel) (by decide +kernel)
theorem kV_J0_length_8abf5 : Cond.selects RJ0 yJ0_length_8abf5 yJ0_length_8abf5 ∈ xT := x_mem (i := 299) (by decide +kernel) (by decide +kernel)
theorem kC_J0_length_8abf5 : Cond.code yJ0_length_8abf5 cJ0_length_8abf5 1 (some .int) ∈ xT := x_mem (i := 300) (by decide +kernel) (by decide +kernel)
theorem kM_J0_335 : Cond.methodLink RJ0 335 yJ0_coder_7d493 ∈ xT := x_mem (i := 301) (by decide +kernel) (by decide +kernel)
theorem kI_J0_coder_7d493 : Cond.instanceMethod yJ0_coder_7d493 ∈ xT := x_mem (i := 302) (by decide +kernel) (by decide +kernel)
theorem kV_J0_coder_7d493 : Cond.selects RJ0 yJ0_coder_7d493 yJ0_coder_7d493 ∈ xT := x_mem (i := 303) (by decide +kernel) (by decide +kernel)
theorem kC_J0_coder_7d493 : Cond.code yJ0_coder_7d493 cJ0_coder_7d493 1 (some .byte) ∈ xT := x_mem (i := 304) (by decide +kernel) (by decide +kernel)
theorem kF_J0_38 : Cond.fieldLink RJ0 38 "java/lang/String" "COMPACT_STRINGS" "Z" ∈ xT := x_mem (i := 305) (by decide +kernel) (by decide +kernel)
theorem kM_X5_88 : Cond.methodLink RX5 88 yJ0_charAt_5068e ∈ xT := x_mem (i := 307) (by decide +kernel) (by decide +kernel)
theorem kI_J0_charAt_5068e : Cond.instanceMethod yJ0_charAt_5068e ∈ xT := x_mem (i := 308) (by decide +kernel) (by decide +kernel)
theorem kV_J0_charAt_5068e : Cond.selects RJ0 yJ0_charAt_5068e yJ0_charAt_5068e ∈ xT := x_mem (i := 309) (by decide +kernel) (by decide +kernel)
theorem kC_J0_charAt_5068e : Cond.code yJ0_charAt_5068e cJ0_charAt_5068e 2 (some .char) ∈ xT := x_mem (i := 310) (by decide +kernel) (by decide +kernel)
theorem kM_J0_492 : Cond.methodLink RJ0 492 yJ0_isLatin1_aae02 ∈ xT := x_mem (i := 311) (by decide +kernel) (by decide +kernel)
theorem kI_J0_isLatin1_aae02 : Cond.instanceMethod yJ0_isLatin1_aae02 ∈ xT := x_mem (i := 312) (by decide +kernel) (by decide +kernel)
theorem kV_J0_isLatin1_aae02 : Cond.selects RJ0 yJ0_isLatin1_aae02 yJ0_isLatin1_aae02 ∈ xT := x_mem (i := 313) (by decide +kernel) (by decide +kernel)
theorem kC_J0_isLatin1_aae02 : Cond.code yJ0_isLatin1_aae02 cJ0_isLatin1_aae02 1 (some .boolean) ∈ xT := x_mem (i := 314) (by decide +kernel) (by decide +kernel)
theorem kM_J0_495 : Cond.methodLink RJ0 495 yJ1_charAt_3b067 ∈ xT := x_mem (i := 315) (by decide +kernel) (by decide +kernel)
theorem kS_J1_charAt_3b067 : Cond.static yJ1_charAt_3b067 ∈ xT := x_mem (i := 316) (by decide +kernel) (by decide +kernel)
theorem kC_J1_charAt_3b067 : Cond.code yJ1_charAt_3b067 cJ1_charAt_3b067 2 (some .char) ∈ xT := x_mem (i := 317) (by decide +kernel) (by decide +kernel)
theorem kM_J1_9 : Cond.methodLink RJ1 9 yJ0_checkIndex_df160 ∈ xT := x_mem (i := 318) (by decide +kernel) (by decide +kernel)
theorem kS_J0_checkIndex_df160 : Cond.static yJ0_checkIndex_df160 ∈ xT := x_mem (i := 319) (by decide +kernel) (by decide +kernel)
theorem kC_J0_checkIndex_df160 : Cond.code yJ0_checkIndex_df160 cJ0_checkIndex_df160 2 none ∈ xT := x_mem (i := 320) (by decide +kernel) (by decide +kernel)
theorem kF_J0_1053 : Cond.fieldLink RJ0 1053 "jdk/internal/util/Preconditions" "SIOOBE_FORMATTER" "Ljava/util/function/BiFunction;" ∈ xT := x_mem (i := 321) (by decide +kernel) (by decide +kernel)
theorem kM_J0_1059 : Cond.methodLink RJ0 1059 yJ3_checkIndex_8e157 ∈ xT := x_mem (i := 323) (by decide +kernel) (by decide +kernel)
theorem kS_J3_checkIndex_8e157 : Cond.static yJ3_checkIndex_8e157 ∈ xT := x_mem (i := 324) (by decide +kernel) (by decide +kernel)
theorem kC_J3_checkIndex_8e157 : Cond.code yJ3_checkIndex_8e157 cJ3_checkIndex_8e157 3 (some .int) ∈ xT := x_mem (i := 325) (by decide +kernel) (by decide +kernel)
theorem kM_J0_498 : Cond.methodLink RJ0 498 yJ2_charAt_3b067 ∈ xT := x_mem (i := 326) (by decide +kernel) (by decide +kernel)
theorem kS_J2_charAt_3b067 : Cond.static yJ2_charAt_3b067 ∈ xT := x_mem (i := 327) (by decide +kernel) (by decide +kernel)
theorem kC_J2_charAt_3b067 : Cond.code yJ2_charAt_3b067 cJ2_charAt_3b067 2 (some .char) ∈ xT := x_mem (i := 328) (by decide +kernel) (by decide +kernel)
theorem kM_J2_67 : Cond.methodLink RJ2 67 yJ2_checkIndex_2214a ∈ xT := x_mem (i := 329) (by decide +kernel) (by decide +kernel)
theorem kS_J2_checkIndex_2214a : Cond.static yJ2_checkIndex_2214a ∈ xT := x_mem (i := 330) (by decide +kernel) (by decide +kernel)
theorem kC_J2_checkIndex_2214a : Cond.code yJ2_checkIndex_2214a cJ2_checkIndex_2214a 2 none ∈ xT := x_mem (i := 331) (by decide +kernel) (by decide +kernel)
theorem kM_J2_48 : Cond.methodLink RJ2 48 yJ2_length_9d52b ∈ xT := x_mem (i := 332) (by decide +kernel) (by decide +kernel)
theorem kS_J2_length_9d52b : Cond.static yJ2_length_9d52b ∈ xT := x_mem (i := 333) (by decide +kernel) (by decide +kernel)
theorem kC_J2_length_9d52b : Cond.code yJ2_length_9d52b cJ2_length_9d52b 1 (some .int) ∈ xT := x_mem (i := 334) (by decide +kernel) (by decide +kernel)
theorem kM_J2_414 : Cond.methodLink RJ2 414 yJ0_checkIndex_df160 ∈ xT := x_mem (i := 335) (by decide +kernel) (by decide +kernel)
theorem kM_J2_71 : Cond.methodLink RJ2 71 yJ2_getChar_3b067 ∈ xT := x_mem (i := 336) (by decide +kernel) (by decide +kernel)
theorem kS_J2_getChar_3b067 : Cond.static yJ2_getChar_3b067 ∈ xT := x_mem (i := 337) (by decide +kernel) (by decide +kernel)
theorem kC_J2_getChar_3b067 : Cond.code yJ2_getChar_3b067 cJ2_getChar_3b067 2 (some .char) ∈ xT := x_mem (i := 338) (by decide +kernel) (by decide +kernel)
theorem kF_J2_44 : Cond.fieldLink RJ2 44 "java/lang/StringUTF16" "$assertionsDisabled" "Z" ∈ xT := x_mem (i := 339) (by decide +kernel) (by decide +kernel)
theorem kF_J2_59 : Cond.fieldLink RJ2 59 "java/lang/StringUTF16" "HI_BYTE_SHIFT" "I" ∈ xT := x_mem (i := 341) (by decide +kernel) (by decide +kernel)
theorem kF_J2_63 : Cond.fieldLink RJ2 63 "java/lang/StringUTF16" "LO_BYTE_SHIFT" "I" ∈ xT := x_mem (i := 343) (by decide +kernel) (by decide +kernel)
theorem kM_X5_54 : Cond.methodLink RX5 54 yX5_numbersOf ∈ xT := x_mem (i := 345) (by decide +kernel) (by decide +kernel)
theorem kS_X5_numbersOf : Cond.static yX5_numbersOf ∈ xT := x_mem (i := 346) (by decide +kernel) (by decide +kernel)
theorem kC_X5_numbersOf : Cond.code yX5_numbersOf cX5_numbersOf 1 (some .int) ∈ xT := x_mem (i := 347) (by decide +kernel) (by decide +kernel)
theorem kM_X5_58 : Cond.methodLink RX5 58 yX5_takeNumber ∈ xT := x_mem (i := 348) (by decide +kernel) (by decide +kernel)
theorem kI_X5_takeNumber : Cond.instanceMethod yX5_takeNumber ∈ xT := x_mem (i := 350) (by decide +kernel) (by decide +kernel)
theorem kC_X5_takeNumber : Cond.code yX5_takeNumber cX5_takeNumber 8 (some .boolean) ∈ xT := x_mem (i := 351) (by decide +kernel) (by decide +kernel)
theorem kM_X5_62 : Cond.methodLink RX5 62 yX5_tokenNumber ∈ xT := x_mem (i := 352) (by decide +kernel) (by decide +kernel)
theorem kI_X5_tokenNumber : Cond.instanceMethod yX5_tokenNumber ∈ xT := x_mem (i := 354) (by decide +kernel) (by decide +kernel)
theorem kC_X5_tokenNumber : Cond.code yX5_tokenNumber cX5_tokenNumber 3 (some .int) ∈ xT := x_mem (i := 355) (by decide +kernel) (by decide +kernel)
theorem kM_X5_36 : Cond.methodLink RX5 36 yX5_numberOf ∈ xT := x_mem (i := 356) (by decide +kernel) (by decide +kernel)
theorem kI_X5_numberOf : Cond.instanceMethod yX5_numberOf ∈ xT := x_mem (i := 357) (by decide +kernel) (by decide +kernel)
theorem kV_X5_numberOf : Cond.selects RX5 yX5_numberOf yX5_numberOf ∈ xT := x_mem (i := 358) (by decide +kernel) (by decide +kernel)
theorem kC_X5_numberOf : Cond.code yX5_numberOf cX5_numberOf 3 (some .int) ∈ xT := x_mem (i := 359) (by decide +kernel) (by decide +kernel)
theorem kM_X5_46 : Cond.methodLink RX5 46 yX5_isSemicolon ∈ xT := x_mem (i := 360) (by decide +kernel) (by decide +kernel)
theorem kI_X5_isSemicolon : Cond.instanceMethod yX5_isSemicolon ∈ xT := x_mem (i := 362) (by decide +kernel) (by decide +kernel)
theorem kC_X5_isSemicolon : Cond.code yX5_isSemicolon cX5_isSemicolon 1 (some .boolean) ∈ xT := x_mem (i := 363) (by decide +kernel) (by decide +kernel)
theorem kM_L_27 : Cond.methodLink RL 27 yX6_net ∈ xT := x_mem (i := 365) (by decide +kernel) (by decide +kernel)
theorem kI_X6_net : Cond.instanceMethod yX6_net ∈ xT := x_mem (i := 366) (by decide +kernel) (by decide +kernel)
theorem kV_X6_net : Cond.selects RX6 yX6_net yX6_net ∈ xT := x_mem (i := 367) (by decide +kernel) (by decide +kernel)
theorem kC_X6_net : Cond.code yX6_net cX6_net 2 (some .int) ∈ xT := x_mem (i := 368) (by decide +kernel) (by decide +kernel)
theorem kM_X6_78 : Cond.methodLink RX6 78 yX6_doClause ∈ xT := x_mem (i := 369) (by decide +kernel) (by decide +kernel)
theorem kI_X6_doClause : Cond.instanceMethod yX6_doClause ∈ xT := x_mem (i := 371) (by decide +kernel) (by decide +kernel)
theorem kC_X6_doClause : Cond.code yX6_doClause cX6_doClause 5 none ∈ xT := x_mem (i := 372) (by decide +kernel) (by decide +kernel)
theorem kM_X6_88 : Cond.methodLink RX6 88 yX5_numberOf ∈ xT := x_mem (i := 373) (by decide +kernel) (by decide +kernel)
theorem kM_X6_95 : Cond.methodLink RX6 95 yX3_makeEmpty ∈ xT := x_mem (i := 374) (by decide +kernel) (by decide +kernel)
theorem kM_X6_98 : Cond.methodLink RX6 98 yX6_putIfNew ∈ xT := x_mem (i := 375) (by decide +kernel) (by decide +kernel)
theorem kI_X6_putIfNew : Cond.instanceMethod yX6_putIfNew ∈ xT := x_mem (i := 377) (by decide +kernel) (by decide +kernel)
theorem kC_X6_putIfNew : Cond.code yX6_putIfNew cX6_putIfNew 3 none ∈ xT := x_mem (i := 378) (by decide +kernel) (by decide +kernel)
theorem kM_X6_102 : Cond.methodLink RX6 102 yX3_hasArc ∈ xT := x_mem (i := 379) (by decide +kernel) (by decide +kernel)
theorem kI_X3_hasArc : Cond.instanceMethod yX3_hasArc ∈ xT := x_mem (i := 380) (by decide +kernel) (by decide +kernel)
theorem kV_X3_hasArc : Cond.selects RX3 yX3_hasArc yX3_hasArc ∈ xT := x_mem (i := 381) (by decide +kernel) (by decide +kernel)
theorem kC_X3_hasArc : Cond.code yX3_hasArc cX3_hasArc 3 (some .boolean) ∈ xT := x_mem (i := 382) (by decide +kernel) (by decide +kernel)
theorem kM_X3_44 : Cond.methodLinkNest RX3 44 yX6_has RX6 ∈ xT := x_mem (i := 383) (by decide +kernel) (by decide +kernel)
theorem kS_X6_has : Cond.static yX6_has ∈ xT := x_mem (i := 384) (by decide +kernel) (by decide +kernel)
theorem kC_X6_has : Cond.code yX6_has cX6_has 2 (some .boolean) ∈ xT := x_mem (i := 385) (by decide +kernel) (by decide +kernel)
theorem kM_X6_106 : Cond.methodLink RX6 106 yX3_arcs ∈ xT := x_mem (i := 386) (by decide +kernel) (by decide +kernel)
theorem kI_X3_arcs : Cond.instanceMethod yX3_arcs ∈ xT := x_mem (i := 387) (by decide +kernel) (by decide +kernel)
theorem kV_X3_arcs : Cond.selects RX3 yX3_arcs yX3_arcs ∈ xT := x_mem (i := 388) (by decide +kernel) (by decide +kernel)
theorem kC_X3_arcs : Cond.code yX3_arcs cX3_arcs 1 (some .int) ∈ xT := x_mem (i := 389) (by decide +kernel) (by decide +kernel)
theorem kM_X3_48 : Cond.methodLink RX3 48 yX3_allPoints ∈ xT := x_mem (i := 390) (by decide +kernel) (by decide +kernel)
theorem kI_X3_allPoints : Cond.instanceMethod yX3_allPoints ∈ xT := x_mem (i := 391) (by decide +kernel) (by decide +kernel)
theorem kV_X3_allPoints : Cond.selects RX3 yX3_allPoints yX3_allPoints ∈ xT := x_mem (i := 392) (by decide +kernel) (by decide +kernel)
theorem kC_X3_allPoints : Cond.code yX3_allPoints cX3_allPoints 1 (some .int) ∈ xT := x_mem (i := 393) (by decide +kernel) (by decide +kernel)
theorem kM_X3_52 : Cond.methodLink RX3 52 yX3_arcsBetween ∈ xT := x_mem (i := 394) (by decide +kernel) (by decide +kernel)
theorem kI_X3_arcsBetween : Cond.instanceMethod yX3_arcsBetween ∈ xT := x_mem (i := 395) (by decide +kernel) (by decide +kernel)
theorem kV_X3_arcsBetween : Cond.selects RX3 yX3_arcsBetween yX3_arcsBetween ∈ xT := x_mem (i := 396) (by decide +kernel) (by decide +kernel)
theorem kC_X3_arcsBetween : Cond.code yX3_arcsBetween cX3_arcsBetween 5 (some .int) ∈ xT := x_mem (i := 397) (by decide +kernel) (by decide +kernel)
theorem kM_X3_56 : Cond.methodLink RX3 56 yJ6_bitCount_0f7a4 ∈ xT := x_mem (i := 398) (by decide +kernel) (by decide +kernel)
theorem kS_J6_bitCount_0f7a4 : Cond.static yJ6_bitCount_0f7a4 ∈ xT := x_mem (i := 399) (by decide +kernel) (by decide +kernel)
theorem kC_J6_bitCount_0f7a4 : Cond.code yJ6_bitCount_0f7a4 cJ6_bitCount_0f7a4 1 (some .int) ∈ xT := x_mem (i := 400) (by decide +kernel) (by decide +kernel)
theorem kK_J6_265 : Cond.constant RJ6 265 1431655765 ∈ xT := x_mem (i := 401) (by decide +kernel) (by decide +kernel)
theorem kK_J6_266 : Cond.constant RJ6 266 858993459 ∈ xT := x_mem (i := 402) (by decide +kernel) (by decide +kernel)
theorem kK_J6_267 : Cond.constant RJ6 267 252645135 ∈ xT := x_mem (i := 403) (by decide +kernel) (by decide +kernel)
theorem kM_X6_110 : Cond.methodLink RX6 110 yX3_putIn ∈ xT := x_mem (i := 404) (by decide +kernel) (by decide +kernel)
theorem kI_X3_putIn : Cond.instanceMethod yX3_putIn ∈ xT := x_mem (i := 405) (by decide +kernel) (by decide +kernel)
theorem kV_X3_putIn : Cond.selects RX3 yX3_putIn yX3_putIn ∈ xT := x_mem (i := 406) (by decide +kernel) (by decide +kernel)
theorem kC_X3_putIn : Cond.code yX3_putIn cX3_putIn 4 none ∈ xT := x_mem (i := 407) (by decide +kernel) (by decide +kernel)
theorem kM_X3_65 : Cond.methodLink RX3 65 yX3_comesTo ∈ xT := x_mem (i := 408) (by decide +kernel) (by decide +kernel)
theorem kI_X3_comesTo : Cond.instanceMethod yX3_comesTo ∈ xT := x_mem (i := 409) (by decide +kernel) (by decide +kernel)
theorem kV_X3_comesTo : Cond.selects RX3 yX3_comesTo yX3_comesTo ∈ xT := x_mem (i := 410) (by decide +kernel) (by decide +kernel)
theorem kC_X3_comesTo : Cond.code yX3_comesTo cX3_comesTo 3 (some .boolean) ∈ xT := x_mem (i := 411) (by decide +kernel) (by decide +kernel)
theorem kM_X3_68 : Cond.methodLink RX3 68 yX3_graft ∈ xT := x_mem (i := 412) (by decide +kernel) (by decide +kernel)
theorem kI_X3_graft : Cond.instanceMethod yX3_graft ∈ xT := x_mem (i := 414) (by decide +kernel) (by decide +kernel)
theorem kC_X3_graft : Cond.code yX3_graft cX3_graft 5 none ∈ xT := x_mem (i := 415) (by decide +kernel) (by decide +kernel)
theorem kM_X3_72 : Cond.methodLink RX3 72 yX3_followArcs ∈ xT := x_mem (i := 416) (by decide +kernel) (by decide +kernel)
theorem kI_X3_followArcs : Cond.instanceMethod yX3_followArcs ∈ xT := x_mem (i := 418) (by decide +kernel) (by decide +kernel)
theorem kC_X3_followArcs : Cond.code yX3_followArcs cX3_followArcs 5 none ∈ xT := x_mem (i := 419) (by decide +kernel) (by decide +kernel)
theorem kM_X3_76 : Cond.methodLink RX3 76 yX3_hasArc ∈ xT := x_mem (i := 420) (by decide +kernel) (by decide +kernel)
theorem kM_X6_82 : Cond.methodLink RX6 82 yX4_forget ∈ xT := x_mem (i := 421) (by decide +kernel) (by decide +kernel)
theorem kI_X4_forget : Cond.instanceMethod yX4_forget ∈ xT := x_mem (i := 422) (by decide +kernel) (by decide +kernel)
theorem kV_X4_forget : Cond.selects RX4 yX4_forget yX4_forget ∈ xT := x_mem (i := 423) (by decide +kernel) (by decide +kernel)
theorem kC_X4_forget : Cond.code yX4_forget cX4_forget 1 none ∈ xT := x_mem (i := 424) (by decide +kernel) (by decide +kernel)
theorem kM_X6_85 : Cond.methodLink RX6 85 yX0_vanish ∈ xT := x_mem (i := 425) (by decide +kernel) (by decide +kernel)
theorem kI_X0_vanish : Cond.instanceMethod yX0_vanish ∈ xT := x_mem (i := 426) (by decide +kernel) (by decide +kernel)
theorem kV_X0_vanish : Cond.selects RX0 yX0_vanish yX0_vanish ∈ xT := x_mem (i := 427) (by decide +kernel) (by decide +kernel)
theorem kC_X0_vanish : Cond.code yX0_vanish cX0_vanish 1 none ∈ xT := x_mem (i := 428) (by decide +kernel) (by decide +kernel)
theorem kM_L_31 : Cond.methodLink RL 31 yX6_put ∈ xT := x_mem (i := 429) (by decide +kernel) (by decide +kernel)
theorem kI_X6_put : Cond.instanceMethod yX6_put ∈ xT := x_mem (i := 430) (by decide +kernel) (by decide +kernel)
theorem kV_X6_put : Cond.selects RX6 yX6_put yX6_put ∈ xT := x_mem (i := 431) (by decide +kernel) (by decide +kernel)
theorem kC_X6_put : Cond.code yX6_put cX6_put 4 (some .int) ∈ xT := x_mem (i := 432) (by decide +kernel) (by decide +kernel)
theorem kM_X6_113 : Cond.methodLink RX6 113 yX6_arePair ∈ xT := x_mem (i := 433) (by decide +kernel) (by decide +kernel)
theorem kI_X6_arePair : Cond.instanceMethod yX6_arePair ∈ xT := x_mem (i := 435) (by decide +kernel) (by decide +kernel)
theorem kC_X6_arePair : Cond.code yX6_arePair cX6_arePair 3 (some .boolean) ∈ xT := x_mem (i := 436) (by decide +kernel) (by decide +kernel)
theorem kM_X6_147 : Cond.methodLink RX6 147 yX6_isPoint ∈ xT := x_mem (i := 437) (by decide +kernel) (by decide +kernel)
theorem kI_X6_isPoint : Cond.instanceMethod yX6_isPoint ∈ xT := x_mem (i := 439) (by decide +kernel) (by decide +kernel)
theorem kC_X6_isPoint : Cond.code yX6_isPoint cX6_isPoint 2 (some .boolean) ∈ xT := x_mem (i := 440) (by decide +kernel) (by decide +kernel)
theorem kM_X6_116 : Cond.methodLink RX6 116 yX4_note ∈ xT := x_mem (i := 441) (by decide +kernel) (by decide +kernel)
theorem kI_X4_note : Cond.instanceMethod yX4_note ∈ xT := x_mem (i := 442) (by decide +kernel) (by decide +kernel)
theorem kV_X4_note : Cond.selects RX4 yX4_note yX4_note ∈ xT := x_mem (i := 443) (by decide +kernel) (by decide +kernel)
theorem kC_X4_note : Cond.code yX4_note cX4_note 2 none ∈ xT := x_mem (i := 444) (by decide +kernel) (by decide +kernel)
theorem kM_X4_22 : Cond.methodLink RX4 22 yX3_copyFrom ∈ xT := x_mem (i := 445) (by decide +kernel) (by decide +kernel)
theorem kI_X3_copyFrom : Cond.instanceMethod yX3_copyFrom ∈ xT := x_mem (i := 446) (by decide +kernel) (by decide +kernel)
theorem kV_X3_copyFrom : Cond.selects RX3 yX3_copyFrom yX3_copyFrom ∈ xT := x_mem (i := 447) (by decide +kernel) (by decide +kernel)
theorem kC_X3_copyFrom : Cond.code yX3_copyFrom cX3_copyFrom 2 none ∈ xT := x_mem (i := 448) (by decide +kernel) (by decide +kernel)
theorem kM_X4_29 : Cond.methodLink RX4 29 yJ9_min_7cf53 ∈ xT := x_mem (i := 452) (by decide +kernel) (by decide +kernel)
theorem kS_J9_min_7cf53 : Cond.static yJ9_min_7cf53 ∈ xT := x_mem (i := 453) (by decide +kernel) (by decide +kernel)
theorem kC_J9_min_7cf53 : Cond.code yJ9_min_7cf53 cJ9_min_7cf53 2 (some .int) ∈ xT := x_mem (i := 454) (by decide +kernel) (by decide +kernel)
theorem kM_X6_120 : Cond.methodLink RX6 120 yX3_pairs ∈ xT := x_mem (i := 455) (by decide +kernel) (by decide +kernel)
theorem kI_X3_pairs : Cond.instanceMethod yX3_pairs ∈ xT := x_mem (i := 456) (by decide +kernel) (by decide +kernel)
theorem kV_X3_pairs : Cond.selects RX3 yX3_pairs yX3_pairs ∈ xT := x_mem (i := 457) (by decide +kernel) (by decide +kernel)
theorem kC_X3_pairs : Cond.code yX3_pairs cX3_pairs 3 (some .int) ∈ xT := x_mem (i := 458) (by decide +kernel) (by decide +kernel)
theorem kM_L_36 : Cond.methodLink RL 36 yX6_take ∈ xT := x_mem (i := 459) (by decide +kernel) (by decide +kernel)
theorem kI_X6_take : Cond.instanceMethod yX6_take ∈ xT := x_mem (i := 460) (by decide +kernel) (by decide +kernel)
theorem kV_X6_take : Cond.selects RX6 yX6_take yX6_take ∈ xT := x_mem (i := 461) (by decide +kernel) (by decide +kernel)
theorem kC_X6_take : Cond.code yX6_take cX6_take 5 (some .int) ∈ xT := x_mem (i := 462) (by decide +kernel) (by decide +kernel)
theorem kM_X6_123 : Cond.methodLink RX6 123 yX3_allPoints ∈ xT := x_mem (i := 463) (by decide +kernel) (by decide +kernel)
theorem kM_X6_126 : Cond.methodLink RX6 126 yX3_arcsBetween ∈ xT := x_mem (i := 464) (by decide +kernel) (by decide +kernel)
theorem kM_X6_129 : Cond.methodLink RX6 129 yX3_takeOut ∈ xT := x_mem (i := 465) (by decide +kernel) (by decide +kernel)
theorem kI_X3_takeOut : Cond.instanceMethod yX3_takeOut ∈ xT := x_mem (i := 466) (by decide +kernel) (by decide +kernel)
theorem kV_X3_takeOut : Cond.selects RX3 yX3_takeOut yX3_takeOut ∈ xT := x_mem (i := 467) (by decide +kernel) (by decide +kernel)
theorem kC_X3_takeOut : Cond.code yX3_takeOut cX3_takeOut 4 none ∈ xT := x_mem (i := 468) (by decide +kernel) (by decide +kernel)
theorem kM_X3_79 : Cond.methodLink RX3 79 yX3_stoodOn ∈ xT := x_mem (i := 469) (by decide +kernel) (by decide +kernel)
theorem kI_X3_stoodOn : Cond.instanceMethod yX3_stoodOn ∈ xT := x_mem (i := 471) (by decide +kernel) (by decide +kernel)
theorem kC_X3_stoodOn : Cond.code yX3_stoodOn cX3_stoodOn 6 (some .boolean) ∈ xT := x_mem (i := 472) (by decide +kernel) (by decide +kernel)
theorem kM_X3_62 : Cond.methodLink RX3 62 yX3_aboveOf ∈ xT := x_mem (i := 473) (by decide +kernel) (by decide +kernel)
theorem kI_X3_aboveOf : Cond.instanceMethod yX3_aboveOf ∈ xT := x_mem (i := 474) (by decide +kernel) (by decide +kernel)
theorem kV_X3_aboveOf : Cond.selects RX3 yX3_aboveOf yX3_aboveOf ∈ xT := x_mem (i := 475) (by decide +kernel) (by decide +kernel)
theorem kC_X3_aboveOf : Cond.code yX3_aboveOf cX3_aboveOf 3 (some .int) ∈ xT := x_mem (i := 476) (by decide +kernel) (by decide +kernel)
theorem kM_X3_83 : Cond.methodLink RX3 83 yX3_makeAnew ∈ xT := x_mem (i := 477) (by decide +kernel) (by decide +kernel)
theorem kI_X3_makeAnew : Cond.instanceMethod yX3_makeAnew ∈ xT := x_mem (i := 479) (by decide +kernel) (by decide +kernel)
theorem kC_X3_makeAnew : Cond.code yX3_makeAnew cX3_makeAnew 3 none ∈ xT := x_mem (i := 480) (by decide +kernel) (by decide +kernel)
theorem kM_L_40 : Cond.methodLink RL 40 yX6_clear ∈ xT := x_mem (i := 481) (by decide +kernel) (by decide +kernel)
theorem kI_X6_clear : Cond.instanceMethod yX6_clear ∈ xT := x_mem (i := 482) (by decide +kernel) (by decide +kernel)
theorem kV_X6_clear : Cond.selects RX6 yX6_clear yX6_clear ∈ xT := x_mem (i := 483) (by decide +kernel) (by decide +kernel)
theorem kC_X6_clear : Cond.code yX6_clear cX6_clear 2 (some .int) ∈ xT := x_mem (i := 484) (by decide +kernel) (by decide +kernel)
theorem kM_L_44 : Cond.methodLink RL 44 yX6_undo ∈ xT := x_mem (i := 485) (by decide +kernel) (by decide +kernel)
theorem kI_X6_undo : Cond.instanceMethod yX6_undo ∈ xT := x_mem (i := 486) (by decide +kernel) (by decide +kernel)
theorem kV_X6_undo : Cond.selects RX6 yX6_undo yX6_undo ∈ xT := x_mem (i := 487) (by decide +kernel) (by decide +kernel)
theorem kC_X6_undo : Cond.code yX6_undo cX6_undo 1 (some .int) ∈ xT := x_mem (i := 488) (by decide +kernel) (by decide +kernel)
theorem kM_X6_138 : Cond.methodLink RX6 138 yX4_restore ∈ xT := x_mem (i := 489) (by decide +kernel) (by decide +kernel)
theorem kI_X4_restore : Cond.instanceMethod yX4_restore ∈ xT := x_mem (i := 490) (by decide +kernel) (by decide +kernel)
theorem kV_X4_restore : Cond.selects RX4 yX4_restore yX4_restore ∈ xT := x_mem (i := 491) (by decide +kernel) (by decide +kernel)
theorem kC_X4_restore : Cond.code yX4_restore cX4_restore 2 none ∈ xT := x_mem (i := 492) (by decide +kernel) (by decide +kernel)
theorem kM_L_48 : Cond.methodLink RL 48 yX6_keep ∈ xT := x_mem (i := 493) (by decide +kernel) (by decide +kernel)
theorem kI_X6_keep : Cond.instanceMethod yX6_keep ∈ xT := x_mem (i := 494) (by decide +kernel) (by decide +kernel)
theorem kV_X6_keep : Cond.selects RX6 yX6_keep yX6_keep ∈ xT := x_mem (i := 495) (by decide +kernel) (by decide +kernel)
theorem kC_X6_keep : Cond.code yX6_keep cX6_keep 2 (some .int) ∈ xT := x_mem (i := 496) (by decide +kernel) (by decide +kernel)
theorem kM_X6_141 : Cond.methodLink RX6 141 yX3_copyFrom ∈ xT := x_mem (i := 497) (by decide +kernel) (by decide +kernel)
theorem kM_L_52 : Cond.methodLink RL 52 yX6_back ∈ xT := x_mem (i := 498) (by decide +kernel) (by decide +kernel)
theorem kI_X6_back : Cond.instanceMethod yX6_back ∈ xT := x_mem (i := 499) (by decide +kernel) (by decide +kernel)
theorem kV_X6_back : Cond.selects RX6 yX6_back yX6_back ∈ xT := x_mem (i := 500) (by decide +kernel) (by decide +kernel)
theorem kC_X6_back : Cond.code yX6_back cX6_back 2 (some .int) ∈ xT := x_mem (i := 501) (by decide +kernel) (by decide +kernel)
theorem kM_X6_144 : Cond.methodLink RX6 144 yX6_has ∈ xT := x_mem (i := 502) (by decide +kernel) (by decide +kernel)
theorem kM_L_56 : Cond.methodLink RL 56 yX6_arc ∈ xT := x_mem (i := 503) (by decide +kernel) (by decide +kernel)
theorem kI_X6_arc : Cond.instanceMethod yX6_arc ∈ xT := x_mem (i := 504) (by decide +kernel) (by decide +kernel)
theorem kV_X6_arc : Cond.selects RX6 yX6_arc yX6_arc ∈ xT := x_mem (i := 505) (by decide +kernel) (by decide +kernel)
theorem kC_X6_arc : Cond.code yX6_arc cX6_arc 3 (some .int) ∈ xT := x_mem (i := 506) (by decide +kernel) (by decide +kernel)
theorem kM_L_60 : Cond.methodLink RL 60 yX6_reaches ∈ xT := x_mem (i := 507) (by decide +kernel) (by decide +kernel)
theorem kI_X6_reaches : Cond.instanceMethod yX6_reaches ∈ xT := x_mem (i := 508) (by decide +kernel) (by decide +kernel)
theorem kV_X6_reaches : Cond.selects RX6 yX6_reaches yX6_reaches ∈ xT := x_mem (i := 509) (by decide +kernel) (by decide +kernel)
theorem kC_X6_reaches : Cond.code yX6_reaches cX6_reaches 3 (some .int) ∈ xT := x_mem (i := 510) (by decide +kernel) (by decide +kernel)
theorem kM_X6_151 : Cond.methodLink RX6 151 yX3_comesTo ∈ xT := x_mem (i := 511) (by decide +kernel) (by decide +kernel)
theorem kM_L_64 : Cond.methodLink RL 64 yX6_above ∈ xT := x_mem (i := 512) (by decide +kernel) (by decide +kernel)
theorem kI_X6_above : Cond.instanceMethod yX6_above ∈ xT := x_mem (i := 513) (by decide +kernel) (by decide +kernel)
theorem kV_X6_above : Cond.selects RX6 yX6_above yX6_above ∈ xT := x_mem (i := 514) (by decide +kernel) (by decide +kernel)
theorem kC_X6_above : Cond.code yX6_above cX6_above 3 (some .int) ∈ xT := x_mem (i := 515) (by decide +kernel) (by decide +kernel)
theorem kM_X6_154 : Cond.methodLink RX6 154 yX3_aboveOf ∈ xT := x_mem (i := 516) (by decide +kernel) (by decide +kernel)
theorem kM_L_68 : Cond.methodLink RL 68 yX6_way ∈ xT := x_mem (i := 517) (by decide +kernel) (by decide +kernel)
theorem kI_X6_way : Cond.instanceMethod yX6_way ∈ xT := x_mem (i := 518) (by decide +kernel) (by decide +kernel)
theorem kV_X6_way : Cond.selects RX6 yX6_way yX6_way ∈ xT := x_mem (i := 519) (by decide +kernel) (by decide +kernel)
theorem kC_X6_way : Cond.code yX6_way cX6_way 5 (some .int) ∈ xT := x_mem (i := 520) (by decide +kernel) (by decide +kernel)
theorem kM_X6_157 : Cond.methodLink RX6 157 yX3_depthOf ∈ xT := x_mem (i := 521) (by decide +kernel) (by decide +kernel)
theorem kI_X3_depthOf : Cond.instanceMethod yX3_depthOf ∈ xT := x_mem (i := 522) (by decide +kernel) (by decide +kernel)
theorem kV_X3_depthOf : Cond.selects RX3 yX3_depthOf yX3_depthOf ∈ xT := x_mem (i := 523) (by decide +kernel) (by decide +kernel)
theorem kC_X3_depthOf : Cond.code yX3_depthOf cX3_depthOf 5 (some .int) ∈ xT := x_mem (i := 524) (by decide +kernel) (by decide +kernel)
theorem kM_X6_160 : Cond.methodLink RX6 160 yX3_climb ∈ xT := x_mem (i := 525) (by decide +kernel) (by decide +kernel)
theorem kI_X3_climb : Cond.instanceMethod yX3_climb ∈ xT := x_mem (i := 526) (by decide +kernel) (by decide +kernel)
theorem kV_X3_climb : Cond.selects RX3 yX3_climb yX3_climb ∈ xT := x_mem (i := 527) (by decide +kernel) (by decide +kernel)
theorem kC_X3_climb : Cond.code yX3_climb cX3_climb 6 (some .int) ∈ xT := x_mem (i := 528) (by decide +kernel) (by decide +kernel)
theorem kM_L_73 : Cond.methodLink RL 73 yX6_around ∈ xT := x_mem (i := 529) (by decide +kernel) (by decide +kernel)
theorem kI_X6_around : Cond.instanceMethod yX6_around ∈ xT := x_mem (i := 530) (by decide +kernel) (by decide +kernel)
theorem kV_X6_around : Cond.selects RX6 yX6_around yX6_around ∈ xT := x_mem (i := 531) (by decide +kernel) (by decide +kernel)
theorem kC_X6_around : Cond.code yX6_around cX6_around 3 (some .int) ∈ xT := x_mem (i := 532) (by decide +kernel) (by decide +kernel)
theorem kM_X6_167 : Cond.methodLink RX6 167 yX3_comersTo ∈ xT := x_mem (i := 533) (by decide +kernel) (by decide +kernel)
theorem kI_X3_comersTo : Cond.instanceMethod yX3_comersTo ∈ xT := x_mem (i := 534) (by decide +kernel) (by decide +kernel)
theorem kV_X3_comersTo : Cond.selects RX3 yX3_comersTo yX3_comersTo ∈ xT := x_mem (i := 535) (by decide +kernel) (by decide +kernel)
theorem kC_X3_comersTo : Cond.code yX3_comersTo cX3_comersTo 4 (some .int) ∈ xT := x_mem (i := 536) (by decide +kernel) (by decide +kernel)
theorem kM_X6_170 : Cond.methodLink RX6 170 yX3_ringOf ∈ xT := x_mem (i := 537) (by decide +kernel) (by decide +kernel)
theorem kI_X3_ringOf : Cond.instanceMethod yX3_ringOf ∈ xT := x_mem (i := 538) (by decide +kernel) (by decide +kernel)
theorem kV_X3_ringOf : Cond.selects RX3 yX3_ringOf yX3_ringOf ∈ xT := x_mem (i := 539) (by decide +kernel) (by decide +kernel)
theorem kC_X3_ringOf : Cond.code yX3_ringOf cX3_ringOf 2 (some .int) ∈ xT := x_mem (i := 540) (by decide +kernel) (by decide +kernel)
theorem kM_X3_86 : Cond.methodLink RX3 86 yX3_comersTo ∈ xT := x_mem (i := 541) (by decide +kernel) (by decide +kernel)
theorem kM_L_77 : Cond.methodLink RL 77 yX6_needless ∈ xT := x_mem (i := 542) (by decide +kernel) (by decide +kernel)
theorem kI_X6_needless : Cond.instanceMethod yX6_needless ∈ xT := x_mem (i := 543) (by decide +kernel) (by decide +kernel)
theorem kV_X6_needless : Cond.selects RX6 yX6_needless yX6_needless ∈ xT := x_mem (i := 544) (by decide +kernel) (by decide +kernel)
theorem kC_X6_needless : Cond.code yX6_needless cX6_needless 3 (some .int) ∈ xT := x_mem (i := 545) (by decide +kernel) (by decide +kernel)
theorem kM_X6_173 : Cond.methodLink RX6 173 yX6_isArcThere ∈ xT := x_mem (i := 546) (by decide +kernel) (by decide +kernel)
theorem kI_X6_isArcThere : Cond.instanceMethod yX6_isArcThere ∈ xT := x_mem (i := 548) (by decide +kernel) (by decide +kernel)
theorem kC_X6_isArcThere : Cond.code yX6_isArcThere cX6_isArcThere 3 (some .boolean) ∈ xT := x_mem (i := 549) (by decide +kernel) (by decide +kernel)
theorem kM_X6_176 : Cond.methodLink RX6 176 yX3_isNeedless ∈ xT := x_mem (i := 550) (by decide +kernel) (by decide +kernel)
theorem kI_X3_isNeedless : Cond.instanceMethod yX3_isNeedless ∈ xT := x_mem (i := 551) (by decide +kernel) (by decide +kernel)
theorem kV_X3_isNeedless : Cond.selects RX3 yX3_isNeedless yX3_isNeedless ∈ xT := x_mem (i := 552) (by decide +kernel) (by decide +kernel)
theorem kC_X3_isNeedless : Cond.code yX3_isNeedless cX3_isNeedless 3 (some .boolean) ∈ xT := x_mem (i := 553) (by decide +kernel) (by decide +kernel)
theorem kM_X3_95 : Cond.methodLink RX3 95 yX3_membersWithout ∈ xT := x_mem (i := 554) (by decide +kernel) (by decide +kernel)
theorem kI_X3_membersWithout : Cond.instanceMethod yX3_membersWithout ∈ xT := x_mem (i := 556) (by decide +kernel) (by decide +kernel)
theorem kC_X3_membersWithout : Cond.code yX3_membersWithout cX3_membersWithout 9 (some .int) ∈ xT := x_mem (i := 557) (by decide +kernel) (by decide +kernel)
theorem kM_X3_92 : Cond.methodLinkNest RX3 92 yX6_lowest RX6 ∈ xT := x_mem (i := 558) (by decide +kernel) (by decide +kernel)
theorem kS_X6_lowest : Cond.static yX6_lowest ∈ xT := x_mem (i := 559) (by decide +kernel) (by decide +kernel)
theorem kC_X6_lowest : Cond.code yX6_lowest cX6_lowest 1 (some .int) ∈ xT := x_mem (i := 560) (by decide +kernel) (by decide +kernel)
theorem kM_X6_248 : Cond.methodLink RX6 248 yJ6_bitCount_0f7a4 ∈ xT := x_mem (i := 561) (by decide +kernel) (by decide +kernel)
theorem kM_L_81 : Cond.methodLink RL 81 yX6_reduced ∈ xT := x_mem (i := 562) (by decide +kernel) (by decide +kernel)
theorem kI_X6_reduced : Cond.instanceMethod yX6_reduced ∈ xT := x_mem (i := 563) (by decide +kernel) (by decide +kernel)
theorem kV_X6_reduced : Cond.selects RX6 yX6_reduced yX6_reduced ∈ xT := x_mem (i := 564) (by decide +kernel) (by decide +kernel)
theorem kC_X6_reduced : Cond.code yX6_reduced cX6_reduced 1 (some .int) ∈ xT := x_mem (i := 565) (by decide +kernel) (by decide +kernel)
theorem kM_X6_179 : Cond.methodLink RX6 179 yX3_rings ∈ xT := x_mem (i := 566) (by decide +kernel) (by decide +kernel)
theorem kI_X3_rings : Cond.instanceMethod yX3_rings ∈ xT := x_mem (i := 567) (by decide +kernel) (by decide +kernel)
theorem kV_X3_rings : Cond.selects RX3 yX3_rings yX3_rings ∈ xT := x_mem (i := 568) (by decide +kernel) (by decide +kernel)
theorem kC_X3_rings : Cond.code yX3_rings cX3_rings 3 (some .int) ∈ xT := x_mem (i := 569) (by decide +kernel) (by decide +kernel)
theorem kM_X3_89 : Cond.methodLink RX3 89 yX3_ringOf ∈ xT := x_mem (i := 570) (by decide +kernel) (by decide +kernel)
theorem kM_X6_182 : Cond.methodLink RX6 182 yX3_needlessArcs ∈ xT := x_mem (i := 571) (by decide +kernel) (by decide +kernel)
theorem kI_X3_needlessArcs : Cond.instanceMethod yX3_needlessArcs ∈ xT := x_mem (i := 572) (by decide +kernel) (by decide +kernel)
theorem kV_X3_needlessArcs : Cond.selects RX3 yX3_needlessArcs yX3_needlessArcs ∈ xT := x_mem (i := 573) (by decide +kernel) (by decide +kernel)
theorem kC_X3_needlessArcs : Cond.code yX3_needlessArcs cX3_needlessArcs 4 (some .int) ∈ xT := x_mem (i := 574) (by decide +kernel) (by decide +kernel)
theorem kM_X3_99 : Cond.methodLink RX3 99 yX3_isNeedless ∈ xT := x_mem (i := 575) (by decide +kernel) (by decide +kernel)
theorem kM_L_85 : Cond.methodLink RL 85 yX6_fold ∈ xT := x_mem (i := 576) (by decide +kernel) (by decide +kernel)
theorem kI_X6_fold : Cond.instanceMethod yX6_fold ∈ xT := x_mem (i := 577) (by decide +kernel) (by decide +kernel)
theorem kV_X6_fold : Cond.selects RX6 yX6_fold yX6_fold ∈ xT := x_mem (i := 578) (by decide +kernel) (by decide +kernel)
theorem kC_X6_fold : Cond.code yX6_fold cX6_fold 6 (some .int) ∈ xT := x_mem (i := 579) (by decide +kernel) (by decide +kernel)
theorem kM_X6_185 : Cond.methodLink RX6 185 yX6_foldPair ∈ xT := x_mem (i := 580) (by decide +kernel) (by decide +kernel)
theorem kI_X6_foldPair : Cond.instanceMethod yX6_foldPair ∈ xT := x_mem (i := 582) (by decide +kernel) (by decide +kernel)
theorem kC_X6_foldPair : Cond.code yX6_foldPair cX6_foldPair 6 (some .int) ∈ xT := x_mem (i := 583) (by decide +kernel) (by decide +kernel)
theorem kM_X6_189 : Cond.methodLink RX6 189 yX6_tell ∈ xT := x_mem (i := 584) (by decide +kernel) (by decide +kernel)
theorem kS_X6_tell : Cond.static yX6_tell ∈ xT := x_mem (i := 585) (by decide +kernel) (by decide +kernel)
theorem kC_X6_tell : Cond.code yX6_tell cX6_tell 2 (some .int) ∈ xT := x_mem (i := 586) (by decide +kernel) (by decide +kernel)
theorem kM_X6_192 : Cond.methodLink RX6 192 yJ9_max_7cf53 ∈ xT := x_mem (i := 587) (by decide +kernel) (by decide +kernel)
theorem kS_J9_max_7cf53 : Cond.static yJ9_max_7cf53 ∈ xT := x_mem (i := 588) (by decide +kernel) (by decide +kernel)
theorem kC_J9_max_7cf53 : Cond.code yJ9_max_7cf53 cJ9_max_7cf53 2 (some .int) ∈ xT := x_mem (i := 589) (by decide +kernel) (by decide +kernel)
theorem kM_L_89 : Cond.methodLink RL 89 yX6_gain ∈ xT := x_mem (i := 590) (by decide +kernel) (by decide +kernel)
theorem kI_X6_gain : Cond.instanceMethod yX6_gain ∈ xT := x_mem (i := 591) (by decide +kernel) (by decide +kernel)
theorem kV_X6_gain : Cond.selects RX6 yX6_gain yX6_gain ∈ xT := x_mem (i := 592) (by decide +kernel) (by decide +kernel)
theorem kC_X6_gain : Cond.code yX6_gain cX6_gain 4 (some .int) ∈ xT := x_mem (i := 593) (by decide +kernel) (by decide +kernel)
theorem kM_X6_197 : Cond.methodLink RX6 197 yX3_pairsGained ∈ xT := x_mem (i := 594) (by decide +kernel) (by decide +kernel)
theorem kI_X3_pairsGained : Cond.instanceMethod yX3_pairsGained ∈ xT := x_mem (i := 595) (by decide +kernel) (by decide +kernel)
theorem kV_X3_pairsGained : Cond.selects RX3 yX3_pairsGained yX3_pairsGained ∈ xT := x_mem (i := 596) (by decide +kernel) (by decide +kernel)
theorem kC_X3_pairsGained : Cond.code yX3_pairsGained cX3_pairsGained 5 (some .int) ∈ xT := x_mem (i := 597) (by decide +kernel) (by decide +kernel)
theorem kM_X3_102 : Cond.methodLink RX3 102 yX3_newMembers ∈ xT := x_mem (i := 598) (by decide +kernel) (by decide +kernel)
theorem kI_X3_newMembers : Cond.instanceMethod yX3_newMembers ∈ xT := x_mem (i := 600) (by decide +kernel) (by decide +kernel)
theorem kC_X3_newMembers : Cond.code yX3_newMembers cX3_newMembers 4 (some .int) ∈ xT := x_mem (i := 601) (by decide +kernel) (by decide +kernel)
theorem kM_X6_200 : Cond.methodLink RX6 200 yX3_workGained ∈ xT := x_mem (i := 602) (by decide +kernel) (by decide +kernel)
theorem kI_X3_workGained : Cond.instanceMethod yX3_workGained ∈ xT := x_mem (i := 603) (by decide +kernel) (by decide +kernel)
theorem kV_X3_workGained : Cond.selects RX3 yX3_workGained yX3_workGained ∈ xT := x_mem (i := 604) (by decide +kernel) (by decide +kernel)
theorem kC_X3_workGained : Cond.code yX3_workGained cX3_workGained 5 (some .int) ∈ xT := x_mem (i := 605) (by decide +kernel) (by decide +kernel)
theorem kM_L_93 : Cond.methodLink RL 93 yX6_best ∈ xT := x_mem (i := 606) (by decide +kernel) (by decide +kernel)
theorem kI_X6_best : Cond.instanceMethod yX6_best ∈ xT := x_mem (i := 607) (by decide +kernel) (by decide +kernel)
theorem kV_X6_best : Cond.selects RX6 yX6_best yX6_best ∈ xT := x_mem (i := 608) (by decide +kernel) (by decide +kernel)
theorem kC_X6_best : Cond.code yX6_best cX6_best 6 (some .int) ∈ xT := x_mem (i := 609) (by decide +kernel) (by decide +kernel)
theorem kM_L_97 : Cond.methodLink RL 97 yX6_loss ∈ xT := x_mem (i := 610) (by decide +kernel) (by decide +kernel)
theorem kI_X6_loss : Cond.instanceMethod yX6_loss ∈ xT := x_mem (i := 611) (by decide +kernel) (by decide +kernel)
theorem kV_X6_loss : Cond.selects RX6 yX6_loss yX6_loss ∈ xT := x_mem (i := 612) (by decide +kernel) (by decide +kernel)
theorem kC_X6_loss : Cond.code yX6_loss cX6_loss 3 (some .int) ∈ xT := x_mem (i := 613) (by decide +kernel) (by decide +kernel)
theorem kM_X6_203 : Cond.methodLink RX6 203 yX3_pairsLost ∈ xT := x_mem (i := 614) (by decide +kernel) (by decide +kernel)
theorem kI_X3_pairsLost : Cond.instanceMethod yX3_pairsLost ∈ xT := x_mem (i := 615) (by decide +kernel) (by decide +kernel)
theorem kV_X3_pairsLost : Cond.selects RX3 yX3_pairsLost yX3_pairsLost ∈ xT := x_mem (i := 616) (by decide +kernel) (by decide +kernel)
theorem kC_X3_pairsLost : Cond.code yX3_pairsLost cX3_pairsLost 5 (some .int) ∈ xT := x_mem (i := 617) (by decide +kernel) (by decide +kernel)
theorem kM_L_101 : Cond.methodLink RL 101 yX6_worst ∈ xT := x_mem (i := 618) (by decide +kernel) (by decide +kernel)
theorem kI_X6_worst : Cond.instanceMethod yX6_worst ∈ xT := x_mem (i := 619) (by decide +kernel) (by decide +kernel)
theorem kV_X6_worst : Cond.selects RX6 yX6_worst yX6_worst ∈ xT := x_mem (i := 620) (by decide +kernel) (by decide +kernel)
theorem kC_X6_worst : Cond.code yX6_worst cX6_worst 6 (some .int) ∈ xT := x_mem (i := 621) (by decide +kernel) (by decide +kernel)
theorem kM_L_105 : Cond.methodLink RL 105 yX6_sever ∈ xT := x_mem (i := 622) (by decide +kernel) (by decide +kernel)
theorem kI_X6_sever : Cond.instanceMethod yX6_sever ∈ xT := x_mem (i := 623) (by decide +kernel) (by decide +kernel)
theorem kV_X6_sever : Cond.selects RX6 yX6_sever yX6_sever ∈ xT := x_mem (i := 624) (by decide +kernel) (by decide +kernel)
theorem kC_X6_sever : Cond.code yX6_sever cX6_sever 3 (some .int) ∈ xT := x_mem (i := 625) (by decide +kernel) (by decide +kernel)
theorem kM_X6_206 : Cond.methodLink RX6 206 yX1_fewestArcs ∈ xT := x_mem (i := 626) (by decide +kernel) (by decide +kernel)
theorem kI_X1_fewestArcs : Cond.instanceMethod yX1_fewestArcs ∈ xT := x_mem (i := 627) (by decide +kernel) (by decide +kernel)
theorem kV_X1_fewestArcs : Cond.selects RX1 yX1_fewestArcs yX1_fewestArcs ∈ xT := x_mem (i := 628) (by decide +kernel) (by decide +kernel)
theorem kC_X1_fewestArcs : Cond.code yX1_fewestArcs cX1_fewestArcs 5 (some .int) ∈ xT := x_mem (i := 629) (by decide +kernel) (by decide +kernel)
theorem kM_X1_21 : Cond.methodLink RX1 21 yJ7_fill_53178 ∈ xT := x_mem (i := 630) (by decide +kernel) (by decide +kernel)
theorem kM_X1_27 : Cond.methodLink RX1 27 yX1_findWay ∈ xT := x_mem (i := 631) (by decide +kernel) (by decide +kernel)
theorem kI_X1_findWay : Cond.instanceMethod yX1_findWay ∈ xT := x_mem (i := 633) (by decide +kernel) (by decide +kernel)
theorem kC_X1_findWay : Cond.code yX1_findWay cX1_findWay 10 (some .boolean) ∈ xT := x_mem (i := 634) (by decide +kernel) (by decide +kernel)
theorem kM_X1_35 : Cond.methodLinkNest RX1 35 yX6_has RX6 ∈ xT := x_mem (i := 635) (by decide +kernel) (by decide +kernel)
theorem kM_X1_39 : Cond.methodLinkNest RX1 39 yX6_lowest RX6 ∈ xT := x_mem (i := 636) (by decide +kernel) (by decide +kernel)
theorem kM_X1_31 : Cond.methodLink RX1 31 yX1_useWay ∈ xT := x_mem (i := 637) (by decide +kernel) (by decide +kernel)
theorem kI_X1_useWay : Cond.instanceMethod yX1_useWay ∈ xT := x_mem (i := 639) (by decide +kernel) (by decide +kernel)
theorem kC_X1_useWay : Cond.code yX1_useWay cX1_useWay 6 none ∈ xT := x_mem (i := 640) (by decide +kernel) (by decide +kernel)
theorem kM_X1_52 : Cond.methodLink RX1 52 yX1_useStep ∈ xT := x_mem (i := 641) (by decide +kernel) (by decide +kernel)
theorem kI_X1_useStep : Cond.instanceMethod yX1_useStep ∈ xT := x_mem (i := 643) (by decide +kernel) (by decide +kernel)
theorem kC_X1_useStep : Cond.code yX1_useStep cX1_useStep 3 none ∈ xT := x_mem (i := 644) (by decide +kernel) (by decide +kernel)
theorem kM_L_109 : Cond.methodLink RL 109 yX6_chain ∈ xT := x_mem (i := 645) (by decide +kernel) (by decide +kernel)
theorem kI_X6_chain : Cond.instanceMethod yX6_chain ∈ xT := x_mem (i := 646) (by decide +kernel) (by decide +kernel)
theorem kV_X6_chain : Cond.selects RX6 yX6_chain yX6_chain ∈ xT := x_mem (i := 647) (by decide +kernel) (by decide +kernel)
theorem kC_X6_chain : Cond.code yX6_chain cX6_chain 2 (some .int) ∈ xT := x_mem (i := 648) (by decide +kernel) (by decide +kernel)
theorem kM_X6_210 : Cond.methodLink RX6 210 yX6_isChain ∈ xT := x_mem (i := 649) (by decide +kernel) (by decide +kernel)
theorem kS_X6_isChain : Cond.static yX6_isChain ∈ xT := x_mem (i := 650) (by decide +kernel) (by decide +kernel)
theorem kC_X6_isChain : Cond.code yX6_isChain cX6_isChain 1 (some .boolean) ∈ xT := x_mem (i := 651) (by decide +kernel) (by decide +kernel)
theorem kM_X6_213 : Cond.methodLink RX6 213 yX0_begin ∈ xT := x_mem (i := 652) (by decide +kernel) (by decide +kernel)
theorem kI_X0_begin : Cond.instanceMethod yX0_begin ∈ xT := x_mem (i := 653) (by decide +kernel) (by decide +kernel)
theorem kV_X0_begin : Cond.selects RX0 yX0_begin yX0_begin ∈ xT := x_mem (i := 654) (by decide +kernel) (by decide +kernel)
theorem kC_X0_begin : Cond.code yX0_begin cX0_begin 1 none ∈ xT := x_mem (i := 655) (by decide +kernel) (by decide +kernel)
theorem kM_L_113 : Cond.methodLink RL 113 yX6_add ∈ xT := x_mem (i := 656) (by decide +kernel) (by decide +kernel)
theorem kI_X6_add : Cond.instanceMethod yX6_add ∈ xT := x_mem (i := 657) (by decide +kernel) (by decide +kernel)
theorem kV_X6_add : Cond.selects RX6 yX6_add yX6_add ∈ xT := x_mem (i := 658) (by decide +kernel) (by decide +kernel)
theorem kC_X6_add : Cond.code yX6_add cX6_add 6 (some .int) ∈ xT := x_mem (i := 659) (by decide +kernel) (by decide +kernel)
theorem kM_X6_216 : Cond.methodLink RX6 216 yX6_isTellable ∈ xT := x_mem (i := 660) (by decide +kernel) (by decide +kernel)
theorem kI_X6_isTellable : Cond.instanceMethod yX6_isTellable ∈ xT := x_mem (i := 662) (by decide +kernel) (by decide +kernel)
theorem kC_X6_isTellable : Cond.code yX6_isTellable cX6_isTellable 2 (some .boolean) ∈ xT := x_mem (i := 663) (by decide +kernel) (by decide +kernel)
theorem kM_X6_224 : Cond.methodLink RX6 224 yX0_insert ∈ xT := x_mem (i := 664) (by decide +kernel) (by decide +kernel)
theorem kI_X0_insert : Cond.instanceMethod yX0_insert ∈ xT := x_mem (i := 665) (by decide +kernel) (by decide +kernel)
theorem kV_X0_insert : Cond.selects RX0 yX0_insert yX0_insert ∈ xT := x_mem (i := 666) (by decide +kernel) (by decide +kernel)
theorem kC_X0_insert : Cond.code yX0_insert cX0_insert 5 none ∈ xT := x_mem (i := 667) (by decide +kernel) (by decide +kernel)
theorem kM_L_118 : Cond.methodLink RL 118 yX6_last ∈ xT := x_mem (i := 668) (by decide +kernel) (by decide +kernel)
theorem kI_X6_last : Cond.instanceMethod yX6_last ∈ xT := x_mem (i := 669) (by decide +kernel) (by decide +kernel)
theorem kV_X6_last : Cond.selects RX6 yX6_last yX6_last ∈ xT := x_mem (i := 670) (by decide +kernel) (by decide +kernel)
theorem kC_X6_last : Cond.code yX6_last cX6_last 5 (some .int) ∈ xT := x_mem (i := 671) (by decide +kernel) (by decide +kernel)
theorem kK_X6_235 : Cond.constant RX6 235 50000 ∈ xT := x_mem (i := 672) (by decide +kernel) (by decide +kernel)
theorem kM_L_122 : Cond.methodLink RL 122 yX6_sum ∈ xT := x_mem (i := 673) (by decide +kernel) (by decide +kernel)
theorem kI_X6_sum : Cond.instanceMethod yX6_sum ∈ xT := x_mem (i := 674) (by decide +kernel) (by decide +kernel)
theorem kV_X6_sum : Cond.selects RX6 yX6_sum yX6_sum ∈ xT := x_mem (i := 675) (by decide +kernel) (by decide +kernel)
theorem kC_X6_sum : Cond.code yX6_sum cX6_sum 3 (some .int) ∈ xT := x_mem (i := 676) (by decide +kernel) (by decide +kernel)
theorem kM_X6_236 : Cond.methodLink RX6 236 yX0_total ∈ xT := x_mem (i := 677) (by decide +kernel) (by decide +kernel)
theorem kI_X0_total : Cond.instanceMethod yX0_total ∈ xT := x_mem (i := 678) (by decide +kernel) (by decide +kernel)
theorem kV_X0_total : Cond.selects RX0 yX0_total yX0_total ∈ xT := x_mem (i := 679) (by decide +kernel) (by decide +kernel)
theorem kC_X0_total : Cond.code yX0_total cX0_total 5 (some .int) ∈ xT := x_mem (i := 680) (by decide +kernel) (by decide +kernel)
theorem kK_X6_240 : Cond.constant RX6 240 500000 ∈ xT := x_mem (i := 681) (by decide +kernel) (by decide +kernel)
theorem kM_L_126 : Cond.methodLink RL 126 yX6_strike ∈ xT := x_mem (i := 682) (by decide +kernel) (by decide +kernel)
theorem kI_X6_strike : Cond.instanceMethod yX6_strike ∈ xT := x_mem (i := 683) (by decide +kernel) (by decide +kernel)
theorem kV_X6_strike : Cond.selects RX6 yX6_strike yX6_strike ∈ xT := x_mem (i := 684) (by decide +kernel) (by decide +kernel)
theorem kC_X6_strike : Cond.code yX6_strike cX6_strike 3 (some .int) ∈ xT := x_mem (i := 685) (by decide +kernel) (by decide +kernel)
theorem kM_X6_241 : Cond.methodLink RX6 241 yX6_strikeArcs ∈ xT := x_mem (i := 686) (by decide +kernel) (by decide +kernel)
theorem kI_X6_strikeArcs : Cond.instanceMethod yX6_strikeArcs ∈ xT := x_mem (i := 688) (by decide +kernel) (by decide +kernel)
theorem kC_X6_strikeArcs : Cond.code yX6_strikeArcs cX6_strikeArcs 7 (some .int) ∈ xT := x_mem (i := 689) (by decide +kernel) (by decide +kernel)
theorem kM_L_130 : Cond.methodLink RL 130 yX6_append ∈ xT := x_mem (i := 690) (by decide +kernel) (by decide +kernel)
theorem kI_X6_append : Cond.instanceMethod yX6_append ∈ xT := x_mem (i := 691) (by decide +kernel) (by decide +kernel)
theorem kV_X6_append : Cond.selects RX6 yX6_append yX6_append ∈ xT := x_mem (i := 692) (by decide +kernel) (by decide +kernel)
theorem kC_X6_append : Cond.code yX6_append cX6_append 7 (some .int) ∈ xT := x_mem (i := 693) (by decide +kernel) (by decide +kernel)
theorem kM_L_134 : Cond.methodLink RL 134 yX6_drop ∈ xT := x_mem (i := 694) (by decide +kernel) (by decide +kernel)
theorem kI_X6_drop : Cond.instanceMethod yX6_drop ∈ xT := x_mem (i := 695) (by decide +kernel) (by decide +kernel)
theorem kV_X6_drop : Cond.selects RX6 yX6_drop yX6_drop ∈ xT := x_mem (i := 696) (by decide +kernel) (by decide +kernel)
theorem kC_X6_drop : Cond.code yX6_drop cX6_drop 3 (some .int) ∈ xT := x_mem (i := 697) (by decide +kernel) (by decide +kernel)
theorem kM_L_138 : Cond.methodLink RL 138 yX6_count ∈ xT := x_mem (i := 698) (by decide +kernel) (by decide +kernel)
theorem kI_X6_count : Cond.instanceMethod yX6_count ∈ xT := x_mem (i := 699) (by decide +kernel) (by decide +kernel)
theorem kV_X6_count : Cond.selects RX6 yX6_count yX6_count ∈ xT := x_mem (i := 700) (by decide +kernel) (by decide +kernel)
theorem kC_X6_count : Cond.code yX6_count cX6_count 2 (some .int) ∈ xT := x_mem (i := 701) (by decide +kernel) (by decide +kernel)
theorem kM_X6_245 : Cond.methodLink RX6 245 yX6_thingsOfChains ∈ xT := x_mem (i := 702) (by decide +kernel) (by decide +kernel)
theorem kI_X6_thingsOfChains : Cond.instanceMethod yX6_thingsOfChains ∈ xT := x_mem (i := 704) (by decide +kernel) (by decide +kernel)
theorem kC_X6_thingsOfChains : Cond.code yX6_thingsOfChains cX6_thingsOfChains 3 (some .int) ∈ xT := x_mem (i := 705) (by decide +kernel) (by decide +kernel)
theorem kM_L_12 : Cond.methodLink RL 12 yX7_init ∈ xT := x_mem (i := 708) (by decide +kernel) (by decide +kernel)
theorem kI_X7_init : Cond.instanceMethod yX7_init ∈ xT := x_mem (i := 709) (by decide +kernel) (by decide +kernel)
theorem kC_X7_init : Cond.code yX7_init cX7_init 1 none ∈ xT := x_mem (i := 710) (by decide +kernel) (by decide +kernel)
theorem kM_X7_59 : Cond.methodLink RX7 59 yX7_begin ∈ xT := x_mem (i := 712) (by decide +kernel) (by decide +kernel)
theorem kI_X7_begin : Cond.instanceMethod yX7_begin ∈ xT := x_mem (i := 714) (by decide +kernel) (by decide +kernel)
theorem kC_X7_begin : Cond.code yX7_begin cX7_begin 3 none ∈ xT := x_mem (i := 715) (by decide +kernel) (by decide +kernel)
theorem kM_X7_63 : Cond.methodLink RX7 63 yX7_loseChains ∈ xT := x_mem (i := 716) (by decide +kernel) (by decide +kernel)
theorem kI_X7_loseChains : Cond.instanceMethod yX7_loseChains ∈ xT := x_mem (i := 718) (by decide +kernel) (by decide +kernel)
theorem kC_X7_loseChains : Cond.code yX7_loseChains cX7_loseChains 2 none ∈ xT := x_mem (i := 719) (by decide +kernel) (by decide +kernel)
theorem kF_X7_7 : Cond.fieldLink RX7 7 "ReachTreesModel" "n" "I" ∈ xT := x_mem (i := 720) (by decide +kernel) (by decide +kernel)
theorem kF_X7_13 : Cond.fieldLink RX7 13 "ReachTreesModel" "st" "[I" ∈ xT := x_mem (i := 721) (by decide +kernel) (by decide +kernel)
theorem kF_X7_17 : Cond.fieldLink RX7 17 "ReachTreesModel" "past" "[I" ∈ xT := x_mem (i := 722) (by decide +kernel) (by decide +kernel)
theorem kF_X7_92 : Cond.fieldLink RX7 92 "ReachTreesModel" "undoMany" "I" ∈ xT := x_mem (i := 723) (by decide +kernel) (by decide +kernel)
theorem kF_X7_20 : Cond.fieldLink RX7 20 "ReachTreesModel" "kept" "[I" ∈ xT := x_mem (i := 724) (by decide +kernel) (by decide +kernel)
theorem kF_X7_23 : Cond.fieldLink RX7 23 "ReachTreesModel" "isKept" "[I" ∈ xT := x_mem (i := 725) (by decide +kernel) (by decide +kernel)
theorem kF_X7_26 : Cond.fieldLink RX7 26 "ReachTreesModel" "pile" "[I" ∈ xT := x_mem (i := 726) (by decide +kernel) (by decide +kernel)
theorem kF_X7_29 : Cond.fieldLink RX7 29 "ReachTreesModel" "nexts" "[I" ∈ xT := x_mem (i := 727) (by decide +kernel) (by decide +kernel)
theorem kF_X7_32 : Cond.fieldLink RX7 32 "ReachTreesModel" "text" "[I" ∈ xT := x_mem (i := 728) (by decide +kernel) (by decide +kernel)
theorem kF_X7_97 : Cond.fieldLink RX7 97 "ReachTreesModel" "length" "I" ∈ xT := x_mem (i := 729) (by decide +kernel) (by decide +kernel)
theorem kF_X7_100 : Cond.fieldLink RX7 100 "ReachTreesModel" "place" "I" ∈ xT := x_mem (i := 730) (by decide +kernel) (by decide +kernel)
theorem kF_X7_118 : Cond.fieldLink RX7 118 "ReachTreesModel" "sort" "I" ∈ xT := x_mem (i := 731) (by decide +kernel) (by decide +kernel)
theorem kF_X7_107 : Cond.fieldLink RX7 107 "ReachTreesModel" "from" "I" ∈ xT := x_mem (i := 732) (by decide +kernel) (by decide +kernel)
theorem kF_X7_121 : Cond.fieldLink RX7 121 "ReachTreesModel" "number" "I" ∈ xT := x_mem (i := 733) (by decide +kernel) (by decide +kernel)
theorem kF_X7_124 : Cond.fieldLink RX7 124 "ReachTreesModel" "wrong" "I" ∈ xT := x_mem (i := 734) (by decide +kernel) (by decide +kernel)
theorem kF_X7_35 : Cond.fieldLink RX7 35 "ReachTreesModel" "clauses" "[I" ∈ xT := x_mem (i := 735) (by decide +kernel) (by decide +kernel)
theorem kF_X7_147 : Cond.fieldLink RX7 147 "ReachTreesModel" "clauseMany" "I" ∈ xT := x_mem (i := 736) (by decide +kernel) (by decide +kernel)
theorem kF_X7_138 : Cond.fieldLink RX7 138 "ReachTreesModel" "points" "I" ∈ xT := x_mem (i := 737) (by decide +kernel) (by decide +kernel)
theorem kF_X7_38 : Cond.fieldLink RX7 38 "ReachTreesModel" "aside" "[I" ∈ xT := x_mem (i := 738) (by decide +kernel) (by decide +kernel)
theorem kF_X7_41 : Cond.fieldLink RX7 41 "ReachTreesModel" "open" "[I" ∈ xT := x_mem (i := 739) (by decide +kernel) (by decide +kernel)
theorem kF_X7_44 : Cond.fieldLink RX7 44 "ReachTreesModel" "by" "[I" ∈ xT := x_mem (i := 740) (by decide +kernel) (by decide +kernel)
theorem kF_X7_47 : Cond.fieldLink RX7 47 "ReachTreesModel" "twice" "[I" ∈ xT := x_mem (i := 741) (by decide +kernel) (by decide +kernel)
theorem kF_X7_50 : Cond.fieldLink RX7 50 "ReachTreesModel" "sizes" "[I" ∈ xT := x_mem (i := 742) (by decide +kernel) (by decide +kernel)
theorem kF_X7_53 : Cond.fieldLink RX7 53 "ReachTreesModel" "sorts" "[I" ∈ xT := x_mem (i := 743) (by decide +kernel) (by decide +kernel)
theorem kF_X7_56 : Cond.fieldLink RX7 56 "ReachTreesModel" "things" "[I" ∈ xT := x_mem (i := 744) (by decide +kernel) (by decide +kernel)
theorem kM_L_17 : Cond.methodLink RL 17 yX7_write ∈ xT := x_mem (i := 796) (by decide +kernel) (by decide +kernel)
theorem kI_X7_write : Cond.instanceMethod yX7_write ∈ xT := x_mem (i := 797) (by decide +kernel) (by decide +kernel)
theorem kV_X7_write : Cond.selects RX7 yX7_write yX7_write ∈ xT := x_mem (i := 798) (by decide +kernel) (by decide +kernel)
theorem kC_X7_write : Cond.code yX7_write cX7_write 2 (some .int) ∈ xT := x_mem (i := 799) (by decide +kernel) (by decide +kernel)
theorem kQ_X7_95 : Cond.constantLong RX7 95 255 ∈ xT := x_mem (i := 800) (by decide +kernel) (by decide +kernel)
theorem kM_X7_66 : Cond.methodLink RX7 66 yX7_in ∈ xT := x_mem (i := 801) (by decide +kernel) (by decide +kernel)
theorem kS_X7_in : Cond.static yX7_in ∈ xT := x_mem (i := 802) (by decide +kernel) (by decide +kernel)
theorem kC_X7_in : Cond.code yX7_in cX7_in 6 (some .boolean) ∈ xT := x_mem (i := 803) (by decide +kernel) (by decide +kernel)
theorem kM_L_22 : Cond.methodLink RL 22 yX7_erase ∈ xT := x_mem (i := 804) (by decide +kernel) (by decide +kernel)
theorem kI_X7_erase : Cond.instanceMethod yX7_erase ∈ xT := x_mem (i := 805) (by decide +kernel) (by decide +kernel)
theorem kV_X7_erase : Cond.selects RX7 yX7_erase yX7_erase ∈ xT := x_mem (i := 806) (by decide +kernel) (by decide +kernel)
theorem kC_X7_erase : Cond.code yX7_erase cX7_erase 2 (some .int) ∈ xT := x_mem (i := 807) (by decide +kernel) (by decide +kernel)
theorem kM_L_26 : Cond.methodLink RL 26 yX7_fault ∈ xT := x_mem (i := 808) (by decide +kernel) (by decide +kernel)
theorem kI_X7_fault : Cond.instanceMethod yX7_fault ∈ xT := x_mem (i := 809) (by decide +kernel) (by decide +kernel)
theorem kV_X7_fault : Cond.selects RX7 yX7_fault yX7_fault ∈ xT := x_mem (i := 810) (by decide +kernel) (by decide +kernel)
theorem kC_X7_fault : Cond.code yX7_fault cX7_fault 1 (some .int) ∈ xT := x_mem (i := 811) (by decide +kernel) (by decide +kernel)
theorem kM_X7_156 : Cond.methodLink RX7 156 yX7_readAll ∈ xT := x_mem (i := 812) (by decide +kernel) (by decide +kernel)
theorem kI_X7_readAll : Cond.instanceMethod yX7_readAll ∈ xT := x_mem (i := 814) (by decide +kernel) (by decide +kernel)
theorem kC_X7_readAll : Cond.code yX7_readAll cX7_readAll 1 (some .boolean) ∈ xT := x_mem (i := 815) (by decide +kernel) (by decide +kernel)
theorem kM_X7_127 : Cond.methodLink RX7 127 yX7_next ∈ xT := x_mem (i := 816) (by decide +kernel) (by decide +kernel)
theorem kI_X7_next : Cond.instanceMethod yX7_next ∈ xT := x_mem (i := 818) (by decide +kernel) (by decide +kernel)
theorem kC_X7_next : Cond.code yX7_next cX7_next 2 none ∈ xT := x_mem (i := 819) (by decide +kernel) (by decide +kernel)
theorem kM_X7_103 : Cond.methodLink RX7 103 yX7_letter ∈ xT := x_mem (i := 820) (by decide +kernel) (by decide +kernel)
theorem kI_X7_letter : Cond.instanceMethod yX7_letter ∈ xT := x_mem (i := 822) (by decide +kernel) (by decide +kernel)
theorem kC_X7_letter : Cond.code yX7_letter cX7_letter 1 (some .int) ∈ xT := x_mem (i := 823) (by decide +kernel) (by decide +kernel)
theorem kQ_X7_110 : Cond.constantLong RX7 110 97 ∈ xT := x_mem (i := 824) (by decide +kernel) (by decide +kernel)
theorem kQ_X7_112 : Cond.constantLong RX7 112 122 ∈ xT := x_mem (i := 825) (by decide +kernel) (by decide +kernel)
theorem kQ_X7_114 : Cond.constantLong RX7 114 48 ∈ xT := x_mem (i := 826) (by decide +kernel) (by decide +kernel)
theorem kQ_X7_116 : Cond.constantLong RX7 116 57 ∈ xT := x_mem (i := 827) (by decide +kernel) (by decide +kernel)
theorem kM_X7_153 : Cond.methodLink RX7 153 yX7_readClause ∈ xT := x_mem (i := 828) (by decide +kernel) (by decide +kernel)
theorem kI_X7_readClause : Cond.instanceMethod yX7_readClause ∈ xT := x_mem (i := 830) (by decide +kernel) (by decide +kernel)
theorem kC_X7_readClause : Cond.code yX7_readClause cX7_readClause 4 (some .boolean) ∈ xT := x_mem (i := 831) (by decide +kernel) (by decide +kernel)
theorem kM_X7_144 : Cond.methodLink RX7 144 yX7_wordOf ∈ xT := x_mem (i := 832) (by decide +kernel) (by decide +kernel)
theorem kI_X7_wordOf : Cond.instanceMethod yX7_wordOf ∈ xT := x_mem (i := 834) (by decide +kernel) (by decide +kernel)
theorem kC_X7_wordOf : Cond.code yX7_wordOf cX7_wordOf 1 (some .int) ∈ xT := x_mem (i := 835) (by decide +kernel) (by decide +kernel)
theorem kM_X7_134 : Cond.methodLink RX7 134 yX7_isWord ∈ xT := x_mem (i := 836) (by decide +kernel) (by decide +kernel)
theorem kI_X7_isWord : Cond.instanceMethod yX7_isWord ∈ xT := x_mem (i := 838) (by decide +kernel) (by decide +kernel)
theorem kC_X7_isWord : Cond.code yX7_isWord cX7_isWord 6 (some .boolean) ∈ xT := x_mem (i := 839) (by decide +kernel) (by decide +kernel)
theorem kM_X7_130 : Cond.methodLink RX7 130 yX7_faults ∈ xT := x_mem (i := 840) (by decide +kernel) (by decide +kernel)
theorem kI_X7_faults : Cond.instanceMethod yX7_faults ∈ xT := x_mem (i := 842) (by decide +kernel) (by decide +kernel)
theorem kC_X7_faults : Cond.code yX7_faults cX7_faults 1 (some .boolean) ∈ xT := x_mem (i := 843) (by decide +kernel) (by decide +kernel)
theorem kM_X7_141 : Cond.methodLink RX7 141 yX7_takesNumber ∈ xT := x_mem (i := 844) (by decide +kernel) (by decide +kernel)
theorem kI_X7_takesNumber : Cond.instanceMethod yX7_takesNumber ∈ xT := x_mem (i := 846) (by decide +kernel) (by decide +kernel)
theorem kC_X7_takesNumber : Cond.code yX7_takesNumber cX7_takesNumber 3 (some .boolean) ∈ xT := x_mem (i := 847) (by decide +kernel) (by decide +kernel)
theorem kM_X7_150 : Cond.methodLink RX7 150 yX7_takesPoint ∈ xT := x_mem (i := 848) (by decide +kernel) (by decide +kernel)
theorem kI_X7_takesPoint : Cond.instanceMethod yX7_takesPoint ∈ xT := x_mem (i := 850) (by decide +kernel) (by decide +kernel)
theorem kC_X7_takesPoint : Cond.code yX7_takesPoint cX7_takesPoint 4 (some .boolean) ∈ xT := x_mem (i := 851) (by decide +kernel) (by decide +kernel)
theorem kM_L_30 : Cond.methodLink RL 30 yX7_net ∈ xT := x_mem (i := 852) (by decide +kernel) (by decide +kernel)
theorem kI_X7_net : Cond.instanceMethod yX7_net ∈ xT := x_mem (i := 853) (by decide +kernel) (by decide +kernel)
theorem kV_X7_net : Cond.selects RX7 yX7_net yX7_net ∈ xT := x_mem (i := 854) (by decide +kernel) (by decide +kernel)
theorem kC_X7_net : Cond.code yX7_net cX7_net 2 (some .int) ∈ xT := x_mem (i := 855) (by decide +kernel) (by decide +kernel)
theorem kM_X7_168 : Cond.methodLink RX7 168 yX7_doClause ∈ xT := x_mem (i := 856) (by decide +kernel) (by decide +kernel)
theorem kI_X7_doClause : Cond.instanceMethod yX7_doClause ∈ xT := x_mem (i := 858) (by decide +kernel) (by decide +kernel)
theorem kC_X7_doClause : Cond.code yX7_doClause cX7_doClause 5 none ∈ xT := x_mem (i := 859) (by decide +kernel) (by decide +kernel)
theorem kM_X7_165 : Cond.methodLink RX7 165 yX7_putIfNew ∈ xT := x_mem (i := 860) (by decide +kernel) (by decide +kernel)
theorem kI_X7_putIfNew : Cond.instanceMethod yX7_putIfNew ∈ xT := x_mem (i := 862) (by decide +kernel) (by decide +kernel)
theorem kC_X7_putIfNew : Cond.code yX7_putIfNew cX7_putIfNew 3 none ∈ xT := x_mem (i := 863) (by decide +kernel) (by decide +kernel)
theorem kM_X7_78 : Cond.methodLink RX7 78 yX7_has ∈ xT := x_mem (i := 864) (by decide +kernel) (by decide +kernel)
theorem kS_X7_has : Cond.static yX7_has ∈ xT := x_mem (i := 865) (by decide +kernel) (by decide +kernel)
theorem kC_X7_has : Cond.code yX7_has cX7_has 2 (some .boolean) ∈ xT := x_mem (i := 866) (by decide +kernel) (by decide +kernel)
theorem kM_X7_159 : Cond.methodLink RX7 159 yX7_arcs ∈ xT := x_mem (i := 867) (by decide +kernel) (by decide +kernel)
theorem kI_X7_arcs : Cond.instanceMethod yX7_arcs ∈ xT := x_mem (i := 869) (by decide +kernel) (by decide +kernel)
theorem kC_X7_arcs : Cond.code yX7_arcs cX7_arcs 3 (some .int) ∈ xT := x_mem (i := 870) (by decide +kernel) (by decide +kernel)
theorem kM_X7_81 : Cond.methodLink RX7 81 yX7_ones ∈ xT := x_mem (i := 871) (by decide +kernel) (by decide +kernel)
theorem kS_X7_ones : Cond.static yX7_ones ∈ xT := x_mem (i := 872) (by decide +kernel) (by decide +kernel)
theorem kC_X7_ones : Cond.code yX7_ones cX7_ones 3 (some .int) ∈ xT := x_mem (i := 873) (by decide +kernel) (by decide +kernel)
theorem kM_X7_162 : Cond.methodLink RX7 162 yX7_putIn ∈ xT := x_mem (i := 874) (by decide +kernel) (by decide +kernel)
theorem kI_X7_putIn : Cond.instanceMethod yX7_putIn ∈ xT := x_mem (i := 876) (by decide +kernel) (by decide +kernel)
theorem kC_X7_putIn : Cond.code yX7_putIn cX7_putIn 4 none ∈ xT := x_mem (i := 877) (by decide +kernel) (by decide +kernel)
theorem kM_X7_85 : Cond.methodLink RX7 85 yX7_isIn ∈ xT := x_mem (i := 878) (by decide +kernel) (by decide +kernel)
theorem kI_X7_isIn : Cond.instanceMethod yX7_isIn ∈ xT := x_mem (i := 880) (by decide +kernel) (by decide +kernel)
theorem kC_X7_isIn : Cond.code yX7_isIn cX7_isIn 3 (some .boolean) ∈ xT := x_mem (i := 881) (by decide +kernel) (by decide +kernel)
theorem kM_X7_88 : Cond.methodLink RX7 88 yX7_goOn ∈ xT := x_mem (i := 882) (by decide +kernel) (by decide +kernel)
theorem kI_X7_goOn : Cond.instanceMethod yX7_goOn ∈ xT := x_mem (i := 884) (by decide +kernel) (by decide +kernel)
theorem kC_X7_goOn : Cond.code yX7_goOn cX7_goOn 6 none ∈ xT := x_mem (i := 885) (by decide +kernel) (by decide +kernel)
theorem kM_L_35 : Cond.methodLink RL 35 yX7_put ∈ xT := x_mem (i := 886) (by decide +kernel) (by decide +kernel)
theorem kI_X7_put : Cond.instanceMethod yX7_put ∈ xT := x_mem (i := 887) (by decide +kernel) (by decide +kernel)
theorem kV_X7_put : Cond.selects RX7 yX7_put yX7_put ∈ xT := x_mem (i := 888) (by decide +kernel) (by decide +kernel)
theorem kC_X7_put : Cond.code yX7_put cX7_put 4 (some .int) ∈ xT := x_mem (i := 889) (by decide +kernel) (by decide +kernel)
theorem kM_X7_74 : Cond.methodLink RX7 74 yX7_areTwo ∈ xT := x_mem (i := 890) (by decide +kernel) (by decide +kernel)
theorem kI_X7_areTwo : Cond.instanceMethod yX7_areTwo ∈ xT := x_mem (i := 892) (by decide +kernel) (by decide +kernel)
theorem kC_X7_areTwo : Cond.code yX7_areTwo cX7_areTwo 3 (some .boolean) ∈ xT := x_mem (i := 893) (by decide +kernel) (by decide +kernel)
theorem kM_X7_70 : Cond.methodLink RX7 70 yX7_isPoint ∈ xT := x_mem (i := 894) (by decide +kernel) (by decide +kernel)
theorem kI_X7_isPoint : Cond.instanceMethod yX7_isPoint ∈ xT := x_mem (i := 896) (by decide +kernel) (by decide +kernel)
theorem kC_X7_isPoint : Cond.code yX7_isPoint cX7_isPoint 2 (some .boolean) ∈ xT := x_mem (i := 897) (by decide +kernel) (by decide +kernel)
theorem kM_X7_171 : Cond.methodLink RX7 171 yX7_isArc ∈ xT := x_mem (i := 898) (by decide +kernel) (by decide +kernel)
theorem kI_X7_isArc : Cond.instanceMethod yX7_isArc ∈ xT := x_mem (i := 900) (by decide +kernel) (by decide +kernel)
theorem kC_X7_isArc : Cond.code yX7_isArc cX7_isArc 3 (some .boolean) ∈ xT := x_mem (i := 901) (by decide +kernel) (by decide +kernel)
theorem kM_X7_174 : Cond.methodLink RX7 174 yX7_pairs ∈ xT := x_mem (i := 902) (by decide +kernel) (by decide +kernel)
theorem kI_X7_pairs : Cond.instanceMethod yX7_pairs ∈ xT := x_mem (i := 904) (by decide +kernel) (by decide +kernel)
theorem kC_X7_pairs : Cond.code yX7_pairs cX7_pairs 4 (some .int) ∈ xT := x_mem (i := 905) (by decide +kernel) (by decide +kernel)
theorem kM_X7_177 : Cond.methodLink RX7 177 yX7_note ∈ xT := x_mem (i := 906) (by decide +kernel) (by decide +kernel)
theorem kI_X7_note : Cond.instanceMethod yX7_note ∈ xT := x_mem (i := 908) (by decide +kernel) (by decide +kernel)
theorem kC_X7_note : Cond.code yX7_note cX7_note 2 none ∈ xT := x_mem (i := 909) (by decide +kernel) (by decide +kernel)
theorem kM_L_39 : Cond.methodLink RL 39 yX7_take ∈ xT := x_mem (i := 910) (by decide +kernel) (by decide +kernel)
theorem kI_X7_take : Cond.instanceMethod yX7_take ∈ xT := x_mem (i := 911) (by decide +kernel) (by decide +kernel)
theorem kV_X7_take : Cond.selects RX7 yX7_take yX7_take ∈ xT := x_mem (i := 912) (by decide +kernel) (by decide +kernel)
theorem kC_X7_take : Cond.code yX7_take cX7_take 7 (some .int) ∈ xT := x_mem (i := 913) (by decide +kernel) (by decide +kernel)
theorem kM_X7_180 : Cond.methodLink RX7 180 yX7_stoodOn ∈ xT := x_mem (i := 914) (by decide +kernel) (by decide +kernel)
theorem kI_X7_stoodOn : Cond.instanceMethod yX7_stoodOn ∈ xT := x_mem (i := 916) (by decide +kernel) (by decide +kernel)
theorem kC_X7_stoodOn : Cond.code yX7_stoodOn cX7_stoodOn 7 (some .boolean) ∈ xT := x_mem (i := 917) (by decide +kernel) (by decide +kernel)
theorem kM_X7_184 : Cond.methodLink RX7 184 yX7_grow ∈ xT := x_mem (i := 918) (by decide +kernel) (by decide +kernel)
theorem kI_X7_grow : Cond.instanceMethod yX7_grow ∈ xT := x_mem (i := 920) (by decide +kernel) (by decide +kernel)
theorem kC_X7_grow : Cond.code yX7_grow cX7_grow 3 none ∈ xT := x_mem (i := 921) (by decide +kernel) (by decide +kernel)
theorem kM_L_43 : Cond.methodLink RL 43 yX7_clear ∈ xT := x_mem (i := 922) (by decide +kernel) (by decide +kernel)
theorem kI_X7_clear : Cond.instanceMethod yX7_clear ∈ xT := x_mem (i := 923) (by decide +kernel) (by decide +kernel)
theorem kV_X7_clear : Cond.selects RX7 yX7_clear yX7_clear ∈ xT := x_mem (i := 924) (by decide +kernel) (by decide +kernel)
theorem kC_X7_clear : Cond.code yX7_clear cX7_clear 2 (some .int) ∈ xT := x_mem (i := 925) (by decide +kernel) (by decide +kernel)
theorem kM_L_47 : Cond.methodLink RL 47 yX7_undo ∈ xT := x_mem (i := 926) (by decide +kernel) (by decide +kernel)
theorem kI_X7_undo : Cond.instanceMethod yX7_undo ∈ xT := x_mem (i := 927) (by decide +kernel) (by decide +kernel)
theorem kV_X7_undo : Cond.selects RX7 yX7_undo yX7_undo ∈ xT := x_mem (i := 928) (by decide +kernel) (by decide +kernel)
theorem kC_X7_undo : Cond.code yX7_undo cX7_undo 2 (some .int) ∈ xT := x_mem (i := 929) (by decide +kernel) (by decide +kernel)
theorem kM_L_51 : Cond.methodLink RL 51 yX7_keep ∈ xT := x_mem (i := 930) (by decide +kernel) (by decide +kernel)
theorem kI_X7_keep : Cond.instanceMethod yX7_keep ∈ xT := x_mem (i := 931) (by decide +kernel) (by decide +kernel)
theorem kV_X7_keep : Cond.selects RX7 yX7_keep yX7_keep ∈ xT := x_mem (i := 932) (by decide +kernel) (by decide +kernel)
theorem kC_X7_keep : Cond.code yX7_keep cX7_keep 3 (some .int) ∈ xT := x_mem (i := 933) (by decide +kernel) (by decide +kernel)
theorem kM_L_55 : Cond.methodLink RL 55 yX7_back ∈ xT := x_mem (i := 934) (by decide +kernel) (by decide +kernel)
theorem kI_X7_back : Cond.instanceMethod yX7_back ∈ xT := x_mem (i := 935) (by decide +kernel) (by decide +kernel)
theorem kV_X7_back : Cond.selects RX7 yX7_back yX7_back ∈ xT := x_mem (i := 936) (by decide +kernel) (by decide +kernel)
theorem kC_X7_back : Cond.code yX7_back cX7_back 3 (some .int) ∈ xT := x_mem (i := 937) (by decide +kernel) (by decide +kernel)
theorem kM_L_59 : Cond.methodLink RL 59 yX7_arc ∈ xT := x_mem (i := 938) (by decide +kernel) (by decide +kernel)
theorem kI_X7_arc : Cond.instanceMethod yX7_arc ∈ xT := x_mem (i := 939) (by decide +kernel) (by decide +kernel)
theorem kV_X7_arc : Cond.selects RX7 yX7_arc yX7_arc ∈ xT := x_mem (i := 940) (by decide +kernel) (by decide +kernel)
theorem kC_X7_arc : Cond.code yX7_arc cX7_arc 3 (some .int) ∈ xT := x_mem (i := 941) (by decide +kernel) (by decide +kernel)
theorem kM_L_63 : Cond.methodLink RL 63 yX7_reaches ∈ xT := x_mem (i := 942) (by decide +kernel) (by decide +kernel)
theorem kI_X7_reaches : Cond.instanceMethod yX7_reaches ∈ xT := x_mem (i := 943) (by decide +kernel) (by decide +kernel)
theorem kV_X7_reaches : Cond.selects RX7 yX7_reaches yX7_reaches ∈ xT := x_mem (i := 944) (by decide +kernel) (by decide +kernel)
theorem kC_X7_reaches : Cond.code yX7_reaches cX7_reaches 3 (some .int) ∈ xT := x_mem (i := 945) (by decide +kernel) (by decide +kernel)
theorem kM_L_67 : Cond.methodLink RL 67 yX7_above ∈ xT := x_mem (i := 946) (by decide +kernel) (by decide +kernel)
theorem kI_X7_above : Cond.instanceMethod yX7_above ∈ xT := x_mem (i := 947) (by decide +kernel) (by decide +kernel)
theorem kV_X7_above : Cond.selects RX7 yX7_above yX7_above ∈ xT := x_mem (i := 948) (by decide +kernel) (by decide +kernel)
theorem kC_X7_above : Cond.code yX7_above cX7_above 3 (some .int) ∈ xT := x_mem (i := 949) (by decide +kernel) (by decide +kernel)
theorem kM_X7_187 : Cond.methodLink RX7 187 yX7_aboveOf ∈ xT := x_mem (i := 950) (by decide +kernel) (by decide +kernel)
theorem kI_X7_aboveOf : Cond.instanceMethod yX7_aboveOf ∈ xT := x_mem (i := 952) (by decide +kernel) (by decide +kernel)
theorem kC_X7_aboveOf : Cond.code yX7_aboveOf cX7_aboveOf 4 (some .int) ∈ xT := x_mem (i := 953) (by decide +kernel) (by decide +kernel)
theorem kM_L_72 : Cond.methodLink RL 72 yX7_way ∈ xT := x_mem (i := 954) (by decide +kernel) (by decide +kernel)
theorem kI_X7_way : Cond.instanceMethod yX7_way ∈ xT := x_mem (i := 955) (by decide +kernel) (by decide +kernel)
theorem kV_X7_way : Cond.selects RX7 yX7_way yX7_way ∈ xT := x_mem (i := 956) (by decide +kernel) (by decide +kernel)
theorem kC_X7_way : Cond.code yX7_way cX7_way 7 (some .int) ∈ xT := x_mem (i := 957) (by decide +kernel) (by decide +kernel)
theorem kM_L_76 : Cond.methodLink RL 76 yX7_around ∈ xT := x_mem (i := 958) (by decide +kernel) (by decide +kernel)
theorem kI_X7_around : Cond.instanceMethod yX7_around ∈ xT := x_mem (i := 959) (by decide +kernel) (by decide +kernel)
theorem kV_X7_around : Cond.selects RX7 yX7_around yX7_around ∈ xT := x_mem (i := 960) (by decide +kernel) (by decide +kernel)
theorem kC_X7_around : Cond.code yX7_around cX7_around 3 (some .int) ∈ xT := x_mem (i := 961) (by decide +kernel) (by decide +kernel)
theorem kM_X7_191 : Cond.methodLink RX7 191 yX7_treeOf ∈ xT := x_mem (i := 962) (by decide +kernel) (by decide +kernel)
theorem kI_X7_treeOf : Cond.instanceMethod yX7_treeOf ∈ xT := x_mem (i := 964) (by decide +kernel) (by decide +kernel)
theorem kC_X7_treeOf : Cond.code yX7_treeOf cX7_treeOf 4 (some .int) ∈ xT := x_mem (i := 965) (by decide +kernel) (by decide +kernel)
theorem kM_X7_194 : Cond.methodLink RX7 194 yX7_comingTo ∈ xT := x_mem (i := 966) (by decide +kernel) (by decide +kernel)
theorem kI_X7_comingTo : Cond.instanceMethod yX7_comingTo ∈ xT := x_mem (i := 968) (by decide +kernel) (by decide +kernel)
theorem kC_X7_comingTo : Cond.code yX7_comingTo cX7_comingTo 4 (some .int) ∈ xT := x_mem (i := 969) (by decide +kernel) (by decide +kernel)
theorem kM_X7_197 : Cond.methodLink RX7 197 yX7_ringOf ∈ xT := x_mem (i := 970) (by decide +kernel) (by decide +kernel)
theorem kI_X7_ringOf : Cond.instanceMethod yX7_ringOf ∈ xT := x_mem (i := 972) (by decide +kernel) (by decide +kernel)
theorem kC_X7_ringOf : Cond.code yX7_ringOf cX7_ringOf 2 (some .int) ∈ xT := x_mem (i := 973) (by decide +kernel) (by decide +kernel)
theorem kM_L_80 : Cond.methodLink RL 80 yX7_needless ∈ xT := x_mem (i := 974) (by decide +kernel) (by decide +kernel)
theorem kI_X7_needless : Cond.instanceMethod yX7_needless ∈ xT := x_mem (i := 975) (by decide +kernel) (by decide +kernel)
theorem kV_X7_needless : Cond.selects RX7 yX7_needless yX7_needless ∈ xT := x_mem (i := 976) (by decide +kernel) (by decide +kernel)
theorem kC_X7_needless : Cond.code yX7_needless cX7_needless 3 (some .int) ∈ xT := x_mem (i := 977) (by decide +kernel) (by decide +kernel)
theorem kM_X7_204 : Cond.methodLink RX7 204 yX7_isNeedless ∈ xT := x_mem (i := 978) (by decide +kernel) (by decide +kernel)
theorem kI_X7_isNeedless : Cond.instanceMethod yX7_isNeedless ∈ xT := x_mem (i := 980) (by decide +kernel) (by decide +kernel)
theorem kC_X7_isNeedless : Cond.code yX7_isNeedless cX7_isNeedless 3 (some .boolean) ∈ xT := x_mem (i := 981) (by decide +kernel) (by decide +kernel)
theorem kM_X7_200 : Cond.methodLink RX7 200 yX7_without ∈ xT := x_mem (i := 982) (by decide +kernel) (by decide +kernel)
theorem kI_X7_without : Cond.instanceMethod yX7_without ∈ xT := x_mem (i := 984) (by decide +kernel) (by decide +kernel)
theorem kC_X7_without : Cond.code yX7_without cX7_without 8 (some .int) ∈ xT := x_mem (i := 985) (by decide +kernel) (by decide +kernel)
theorem kM_L_84 : Cond.methodLink RL 84 yX7_reduced ∈ xT := x_mem (i := 986) (by decide +kernel) (by decide +kernel)
theorem kI_X7_reduced : Cond.instanceMethod yX7_reduced ∈ xT := x_mem (i := 987) (by decide +kernel) (by decide +kernel)
theorem kV_X7_reduced : Cond.selects RX7 yX7_reduced yX7_reduced ∈ xT := x_mem (i := 988) (by decide +kernel) (by decide +kernel)
theorem kC_X7_reduced : Cond.code yX7_reduced cX7_reduced 1 (some .int) ∈ xT := x_mem (i := 989) (by decide +kernel) (by decide +kernel)
theorem kM_X7_207 : Cond.methodLink RX7 207 yX7_rings ∈ xT := x_mem (i := 990) (by decide +kernel) (by decide +kernel)
theorem kI_X7_rings : Cond.instanceMethod yX7_rings ∈ xT := x_mem (i := 992) (by decide +kernel) (by decide +kernel)
theorem kC_X7_rings : Cond.code yX7_rings cX7_rings 3 (some .int) ∈ xT := x_mem (i := 993) (by decide +kernel) (by decide +kernel)
theorem kM_X7_210 : Cond.methodLink RX7 210 yX7_needlessMany ∈ xT := x_mem (i := 994) (by decide +kernel) (by decide +kernel)
theorem kI_X7_needlessMany : Cond.instanceMethod yX7_needlessMany ∈ xT := x_mem (i := 996) (by decide +kernel) (by decide +kernel)
theorem kC_X7_needlessMany : Cond.code yX7_needlessMany cX7_needlessMany 4 (some .int) ∈ xT := x_mem (i := 997) (by decide +kernel) (by decide +kernel)
theorem kM_L_88 : Cond.methodLink RL 88 yX7_fold ∈ xT := x_mem (i := 998) (by decide +kernel) (by decide +kernel)
theorem kI_X7_fold : Cond.instanceMethod yX7_fold ∈ xT := x_mem (i := 999) (by decide +kernel) (by decide +kernel)
theorem kV_X7_fold : Cond.selects RX7 yX7_fold yX7_fold ∈ xT := x_mem (i := 1000) (by decide +kernel) (by decide +kernel)
theorem kC_X7_fold : Cond.code yX7_fold cX7_fold 9 (some .int) ∈ xT := x_mem (i := 1001) (by decide +kernel) (by decide +kernel)
theorem kQ_X7_213 : Cond.constantLong RX7 213 3 ∈ xT := x_mem (i := 1002) (by decide +kernel) (by decide +kernel)
theorem kQ_X7_215 : Cond.constantLong RX7 215 999 ∈ xT := x_mem (i := 1003) (by decide +kernel) (by decide +kernel)
theorem kM_L_92 : Cond.methodLink RL 92 yX7_gain ∈ xT := x_mem (i := 1004) (by decide +kernel) (by decide +kernel)
theorem kI_X7_gain : Cond.instanceMethod yX7_gain ∈ xT := x_mem (i := 1005) (by decide +kernel) (by decide +kernel)
theorem kV_X7_gain : Cond.selects RX7 yX7_gain yX7_gain ∈ xT := x_mem (i := 1006) (by decide +kernel) (by decide +kernel)
theorem kC_X7_gain : Cond.code yX7_gain cX7_gain 4 (some .int) ∈ xT := x_mem (i := 1007) (by decide +kernel) (by decide +kernel)
theorem kM_X7_217 : Cond.methodLink RX7 217 yX7_gainOf ∈ xT := x_mem (i := 1008) (by decide +kernel) (by decide +kernel)
theorem kI_X7_gainOf : Cond.instanceMethod yX7_gainOf ∈ xT := x_mem (i := 1010) (by decide +kernel) (by decide +kernel)
theorem kC_X7_gainOf : Cond.code yX7_gainOf cX7_gainOf 7 (some .int) ∈ xT := x_mem (i := 1011) (by decide +kernel) (by decide +kernel)
theorem kM_L_96 : Cond.methodLink RL 96 yX7_best ∈ xT := x_mem (i := 1012) (by decide +kernel) (by decide +kernel)
theorem kI_X7_best : Cond.instanceMethod yX7_best ∈ xT := x_mem (i := 1013) (by decide +kernel) (by decide +kernel)
theorem kV_X7_best : Cond.selects RX7 yX7_best yX7_best ∈ xT := x_mem (i := 1014) (by decide +kernel) (by decide +kernel)
theorem kC_X7_best : Cond.code yX7_best cX7_best 6 (some .int) ∈ xT := x_mem (i := 1015) (by decide +kernel) (by decide +kernel)
theorem kM_L_100 : Cond.methodLink RL 100 yX7_loss ∈ xT := x_mem (i := 1016) (by decide +kernel) (by decide +kernel)
theorem kI_X7_loss : Cond.instanceMethod yX7_loss ∈ xT := x_mem (i := 1017) (by decide +kernel) (by decide +kernel)
theorem kV_X7_loss : Cond.selects RX7 yX7_loss yX7_loss ∈ xT := x_mem (i := 1018) (by decide +kernel) (by decide +kernel)
theorem kC_X7_loss : Cond.code yX7_loss cX7_loss 3 (some .int) ∈ xT := x_mem (i := 1019) (by decide +kernel) (by decide +kernel)
theorem kM_X7_220 : Cond.methodLink RX7 220 yX7_lossOf ∈ xT := x_mem (i := 1020) (by decide +kernel) (by decide +kernel)
theorem kI_X7_lossOf : Cond.instanceMethod yX7_lossOf ∈ xT := x_mem (i := 1022) (by decide +kernel) (by decide +kernel)
theorem kC_X7_lossOf : Cond.code yX7_lossOf cX7_lossOf 5 (some .int) ∈ xT := x_mem (i := 1023) (by decide +kernel) (by decide +kernel)
theorem kM_L_104 : Cond.methodLink RL 104 yX7_worst ∈ xT := x_mem (i := 1024) (by decide +kernel) (by decide +kernel)
theorem kI_X7_worst : Cond.instanceMethod yX7_worst ∈ xT := x_mem (i := 1025) (by decide +kernel) (by decide +kernel)
theorem kV_X7_worst : Cond.selects RX7 yX7_worst yX7_worst ∈ xT := x_mem (i := 1026) (by decide +kernel) (by decide +kernel)
theorem kC_X7_worst : Cond.code yX7_worst cX7_worst 6 (some .int) ∈ xT := x_mem (i := 1027) (by decide +kernel) (by decide +kernel)
theorem kM_L_108 : Cond.methodLink RL 108 yX7_sever ∈ xT := x_mem (i := 1028) (by decide +kernel) (by decide +kernel)
theorem kI_X7_sever : Cond.instanceMethod yX7_sever ∈ xT := x_mem (i := 1029) (by decide +kernel) (by decide +kernel)
theorem kV_X7_sever : Cond.selects RX7 yX7_sever yX7_sever ∈ xT := x_mem (i := 1030) (by decide +kernel) (by decide +kernel)
theorem kC_X7_sever : Cond.code yX7_sever cX7_sever 5 (some .int) ∈ xT := x_mem (i := 1031) (by decide +kernel) (by decide +kernel)
theorem kM_X7_223 : Cond.methodLink RX7 223 yX7_findsWay ∈ xT := x_mem (i := 1032) (by decide +kernel) (by decide +kernel)
theorem kI_X7_findsWay : Cond.instanceMethod yX7_findsWay ∈ xT := x_mem (i := 1034) (by decide +kernel) (by decide +kernel)
theorem kC_X7_findsWay : Cond.code yX7_findsWay cX7_findsWay 6 (some .boolean) ∈ xT := x_mem (i := 1035) (by decide +kernel) (by decide +kernel)
theorem kM_X7_226 : Cond.methodLink RX7 226 yX7_goAlong ∈ xT := x_mem (i := 1036) (by decide +kernel) (by decide +kernel)
theorem kI_X7_goAlong : Cond.instanceMethod yX7_goAlong ∈ xT := x_mem (i := 1038) (by decide +kernel) (by decide +kernel)
theorem kC_X7_goAlong : Cond.code yX7_goAlong cX7_goAlong 4 none ∈ xT := x_mem (i := 1039) (by decide +kernel) (by decide +kernel)
theorem kM_L_112 : Cond.methodLink RL 112 yX7_chain ∈ xT := x_mem (i := 1040) (by decide +kernel) (by decide +kernel)
theorem kI_X7_chain : Cond.instanceMethod yX7_chain ∈ xT := x_mem (i := 1041) (by decide +kernel) (by decide +kernel)
theorem kV_X7_chain : Cond.selects RX7 yX7_chain yX7_chain ∈ xT := x_mem (i := 1042) (by decide +kernel) (by decide +kernel)
theorem kC_X7_chain : Cond.code yX7_chain cX7_chain 2 (some .int) ∈ xT := x_mem (i := 1043) (by decide +kernel) (by decide +kernel)
theorem kM_X7_231 : Cond.methodLink RX7 231 yX7_isChain ∈ xT := x_mem (i := 1044) (by decide +kernel) (by decide +kernel)
theorem kS_X7_isChain : Cond.static yX7_isChain ∈ xT := x_mem (i := 1045) (by decide +kernel) (by decide +kernel)
theorem kC_X7_isChain : Cond.code yX7_isChain cX7_isChain 1 (some .boolean) ∈ xT := x_mem (i := 1046) (by decide +kernel) (by decide +kernel)
theorem kQ_X7_229 : Cond.constantLong RX7 229 2 ∈ xT := x_mem (i := 1047) (by decide +kernel) (by decide +kernel)
theorem kM_L_117 : Cond.methodLink RL 117 yX7_add ∈ xT := x_mem (i := 1048) (by decide +kernel) (by decide +kernel)
theorem kI_X7_add : Cond.instanceMethod yX7_add ∈ xT := x_mem (i := 1049) (by decide +kernel) (by decide +kernel)
theorem kV_X7_add : Cond.selects RX7 yX7_add yX7_add ∈ xT := x_mem (i := 1050) (by decide +kernel) (by decide +kernel)
theorem kC_X7_add : Cond.code yX7_add cX7_add 8 (some .int) ∈ xT := x_mem (i := 1051) (by decide +kernel) (by decide +kernel)
theorem kM_X7_234 : Cond.methodLink RX7 234 yX7_isOneOf ∈ xT := x_mem (i := 1052) (by decide +kernel) (by decide +kernel)
theorem kS_X7_isOneOf : Cond.static yX7_isOneOf ∈ xT := x_mem (i := 1053) (by decide +kernel) (by decide +kernel)
theorem kC_X7_isOneOf : Cond.code yX7_isOneOf cX7_isOneOf 2 (some .boolean) ∈ xT := x_mem (i := 1054) (by decide +kernel) (by decide +kernel)
theorem kQ_X7_237 : Cond.constantLong RX7 237 (-9999) ∈ xT := x_mem (i := 1055) (by decide +kernel) (by decide +kernel)
theorem kQ_X7_239 : Cond.constantLong RX7 239 9999 ∈ xT := x_mem (i := 1056) (by decide +kernel) (by decide +kernel)
theorem kM_L_121 : Cond.methodLink RL 121 yX7_last ∈ xT := x_mem (i := 1057) (by decide +kernel) (by decide +kernel)
theorem kI_X7_last : Cond.instanceMethod yX7_last ∈ xT := x_mem (i := 1058) (by decide +kernel) (by decide +kernel)
theorem kV_X7_last : Cond.selects RX7 yX7_last yX7_last ∈ xT := x_mem (i := 1059) (by decide +kernel) (by decide +kernel)
theorem kC_X7_last : Cond.code yX7_last cX7_last 4 (some .int) ∈ xT := x_mem (i := 1060) (by decide +kernel) (by decide +kernel)
theorem kK_X7_241 : Cond.constant RX7 241 50000 ∈ xT := x_mem (i := 1061) (by decide +kernel) (by decide +kernel)
theorem kM_L_125 : Cond.methodLink RL 125 yX7_sum ∈ xT := x_mem (i := 1062) (by decide +kernel) (by decide +kernel)
theorem kI_X7_sum : Cond.instanceMethod yX7_sum ∈ xT := x_mem (i := 1063) (by decide +kernel) (by decide +kernel)
theorem kV_X7_sum : Cond.selects RX7 yX7_sum yX7_sum ∈ xT := x_mem (i := 1064) (by decide +kernel) (by decide +kernel)
theorem kC_X7_sum : Cond.code yX7_sum cX7_sum 6 (some .int) ∈ xT := x_mem (i := 1065) (by decide +kernel) (by decide +kernel)
theorem kK_X7_242 : Cond.constant RX7 242 500000 ∈ xT := x_mem (i := 1066) (by decide +kernel) (by decide +kernel)
theorem kM_L_129 : Cond.methodLink RL 129 yX7_strike ∈ xT := x_mem (i := 1067) (by decide +kernel) (by decide +kernel)
theorem kI_X7_strike : Cond.instanceMethod yX7_strike ∈ xT := x_mem (i := 1068) (by decide +kernel) (by decide +kernel)
theorem kV_X7_strike : Cond.selects RX7 yX7_strike yX7_strike ∈ xT := x_mem (i := 1069) (by decide +kernel) (by decide +kernel)
theorem kC_X7_strike : Cond.code yX7_strike cX7_strike 8 (some .int) ∈ xT := x_mem (i := 1070) (by decide +kernel) (by decide +kernel)
theorem kM_L_133 : Cond.methodLink RL 133 yX7_append ∈ xT := x_mem (i := 1071) (by decide +kernel) (by decide +kernel)
theorem kI_X7_append : Cond.instanceMethod yX7_append ∈ xT := x_mem (i := 1072) (by decide +kernel) (by decide +kernel)
theorem kV_X7_append : Cond.selects RX7 yX7_append yX7_append ∈ xT := x_mem (i := 1073) (by decide +kernel) (by decide +kernel)
theorem kC_X7_append : Cond.code yX7_append cX7_append 5 (some .int) ∈ xT := x_mem (i := 1074) (by decide +kernel) (by decide +kernel)
theorem kM_L_137 : Cond.methodLink RL 137 yX7_drop ∈ xT := x_mem (i := 1075) (by decide +kernel) (by decide +kernel)
theorem kI_X7_drop : Cond.instanceMethod yX7_drop ∈ xT := x_mem (i := 1076) (by decide +kernel) (by decide +kernel)
theorem kV_X7_drop : Cond.selects RX7 yX7_drop yX7_drop ∈ xT := x_mem (i := 1077) (by decide +kernel) (by decide +kernel)
theorem kC_X7_drop : Cond.code yX7_drop cX7_drop 3 (some .int) ∈ xT := x_mem (i := 1078) (by decide +kernel) (by decide +kernel)
theorem kM_L_141 : Cond.methodLink RL 141 yX7_count ∈ xT := x_mem (i := 1079) (by decide +kernel) (by decide +kernel)
theorem kI_X7_count : Cond.instanceMethod yX7_count ∈ xT := x_mem (i := 1080) (by decide +kernel) (by decide +kernel)
theorem kV_X7_count : Cond.selects RX7 yX7_count yX7_count ∈ xT := x_mem (i := 1081) (by decide +kernel) (by decide +kernel)
theorem kC_X7_count : Cond.code yX7_count cX7_count 2 (some .int) ∈ xT := x_mem (i := 1082) (by decide +kernel) (by decide +kernel)
theorem kM_X7_243 : Cond.methodLink RX7 243 yX7_allThings ∈ xT := x_mem (i := 1083) (by decide +kernel) (by decide +kernel)
theorem kI_X7_allThings : Cond.instanceMethod yX7_allThings ∈ xT := x_mem (i := 1085) (by decide +kernel) (by decide +kernel)
theorem kC_X7_allThings : Cond.code yX7_allThings cX7_allThings 3 (some .int) ∈ xT := x_mem (i := 1086) (by decide +kernel) (by decide +kernel)
theorem kF_J0_9 : Cond.fieldLink RJ0 9 "java/lang/String" "value" "[B" ∈ xT := x_mem (i := 1087) (by decide +kernel) (by decide +kernel)
theorem kF_J0_15 : Cond.fieldLink RJ0 15 "java/lang/String" "coder" "B" ∈ xT := x_mem (i := 1088) (by decide +kernel) (by decide +kernel)
theorem kin_X0 : ∀ w ∈ u_ws RX0 TX0 4, w ∈ xT := by decide +kernel
theorem kin_X1 : ∀ w ∈ u_ws RX1 TX1 3, w ∈ xT := by decide +kernel
theorem kin_X2 : ∀ w ∈ u_ws RX2 TX2 2, w ∈ xT := by decide +kernel
theorem kin_X3 : ∀ w ∈ u_ws RX3 TX3 5, w ∈ xT := by decide +kernel
theorem kin_X4 : ∀ w ∈ u_ws RX4 TX4 3, w ∈ xT := by decide +kernel
theorem kin_X5 : ∀ w ∈ u_ws RX5 TX5 7, w ∈ xT := by decide +kernel
theorem kin_X6 : ∀ w ∈ u_ws RX6 TX6 8, w ∈ xT := by decide +kernel
theorem kin_X7 : ∀ w ∈ u_ws RX7 TX7 25, w ∈ xT := by decide +kernel
theorem vc_X6_71 : xV RX6 71 RX5 yX5_readAll cX5_readAll 3 (some .int) 1 := ⟨⟨kM_X6_71, kI_X5_readAll, kV_X5_readAll, kN_X5, kC_X5_readAll⟩, by decide +kernel, by decide +kernel, by decide +kernel⟩
theorem vc_X6_78 : xV RX6 78 RX6 yX6_doClause cX6_doClause 5 none 1 := ⟨⟨kM_X6_78, kI_X6_doClause, kV_X6_doClause, kN_X6, kC_X6_doClause⟩, by decide +kernel, by decide +kernel, by decide +kernel⟩
theorem vc_X6_82 : xV RX6 82 RX4 yX4_forget cX4_forget 1 none 0 := ⟨⟨kM_X6_82, kI_X4_forget, kV_X4_forget, kN_X4, kC_X4_forget⟩, by decide +kernel, by decide +kernel, by decide +kernel⟩
theorem vc_X6_85 : xV RX6 85 RX0 yX0_vanish cX0_vanish 1 none 0 := ⟨⟨kM_X6_85, kI_X0_vanish, kV_X0_vanish, kN_X0, kC_X0_vanish⟩, by decide +kernel, by decide +kernel, by decide +kernel⟩
theorem vc_X6_88 : xV RX6 88 RX5 yX5_numberOf cX5_numberOf 3 (some .int) 2 := ⟨⟨kM_X6_88, kI_X5_numberOf, kV_X5_numberOf, kN_X5, kC_X5_numberOf⟩, by decide +kernel, by decide +kernel, by decide +kernel⟩
theorem vc_X6_95 : xV RX6 95 RX3 yX3_makeEmpty cX3_makeEmpty 3 none 1 := ⟨⟨kM_X6_95, kI_X3_makeEmpty, kV_X3_makeEmpty, kN_X3, kC_X3_makeEmpty⟩, by decide +kernel, by decide +kernel, by decide +kernel⟩
theorem vc_X6_98 : xV RX6 98 RX6 yX6_putIfNew cX6_putIfNew 3 none 2 := ⟨⟨kM_X6_98, kI_X6_putIfNew, kV_X6_putIfNew, kN_X6, kC_X6_putIfNew⟩, by decide +kernel, by decide +kernel, by decide +kernel⟩
theorem vc_X6_102 : xV RX6 102 RX3 yX3_hasArc cX3_hasArc 3 (some .boolean) 2 := ⟨⟨kM_X6_102, kI_X3_hasArc, kV_X3_hasArc, kN_X3, kC_X3_hasArc⟩, by decide +kernel, by decide +kernel, by decide +kernel⟩
theorem vc_X6_106 : xV RX6 106 RX3 yX3_arcs cX3_arcs 1 (some .int) 0 := ⟨⟨kM_X6_106, kI_X3_arcs, kV_X3_arcs, kN_X3, kC_X3_arcs⟩, by decide +kernel, by decide +kernel, by decide +kernel⟩
theorem vc_X6_110 : xV RX6 110 RX3 yX3_putIn cX3_putIn 4 none 2 := ⟨⟨kM_X6_110, kI_X3_putIn, kV_X3_putIn, kN_X3, kC_X3_putIn⟩, by decide +kernel, by decide +kernel, by decide +kernel⟩
theorem vc_X6_113 : xV RX6 113 RX6 yX6_arePair cX6_arePair 3 (some .boolean) 2 := ⟨⟨kM_X6_113, kI_X6_arePair, kV_X6_arePair, kN_X6, kC_X6_arePair⟩, by decide +kernel, by decide +kernel, by decide +kernel⟩
theorem vc_X6_116 : xV RX6 116 RX4 yX4_note cX4_note 2 none 1 := ⟨⟨kM_X6_116, kI_X4_note, kV_X4_note, kN_X4, kC_X4_note⟩, by decide +kernel, by decide +kernel, by decide +kernel⟩
theorem vc_X6_120 : xV RX6 120 RX3 yX3_pairs cX3_pairs 3 (some .int) 0 := ⟨⟨kM_X6_120, kI_X3_pairs, kV_X3_pairs, kN_X3, kC_X3_pairs⟩, by decide +kernel, by decide +kernel, by decide +kernel⟩
theorem vc_X6_123 : xV RX6 123 RX3 yX3_allPoints cX3_allPoints 1 (some .int) 0 := ⟨⟨kM_X6_123, kI_X3_allPoints, kV_X3_allPoints, kN_X3, kC_X3_allPoints⟩, by decide +kernel, by decide +kernel, by decide +kernel⟩
theorem vc_X6_126 : xV RX6 126 RX3 yX3_arcsBetween cX3_arcsBetween 5 (some .int) 2 := ⟨⟨kM_X6_126, kI_X3_arcsBetween, kV_X3_arcsBetween, kN_X3, kC_X3_arcsBetween⟩, by decide +kernel, by decide +kernel, by decide +kernel⟩
theorem vc_X6_129 : xV RX6 129 RX3 yX3_takeOut cX3_takeOut 4 none 2 := ⟨⟨kM_X6_129, kI_X3_takeOut, kV_X3_takeOut, kN_X3, kC_X3_takeOut⟩, by decide +kernel, by decide +kernel, by decide +kernel⟩
theorem vc_X6_138 : xV RX6 138 RX4 yX4_restore cX4_restore 2 none 1 := ⟨⟨kM_X6_138, kI_X4_restore, kV_X4_restore, kN_X4, kC_X4_restore⟩, by decide +kernel, by decide +kernel, by decide +kernel⟩
theorem vc_X6_141 : xV RX6 141 RX3 yX3_copyFrom cX3_copyFrom 2 none 1 := ⟨⟨kM_X6_141, kI_X3_copyFrom, kV_X3_copyFrom, kN_X3, kC_X3_copyFrom⟩, by decide +kernel, by decide +kernel, by decide +kernel⟩
theorem vc_X6_144 : xS RX6 144 yX6_has cX6_has 2 (some .boolean) 2 := ⟨⟨kM_X6_144, kS_X6_has, kN_X6, kC_X6_has⟩, by decide +kernel, by decide +kernel, by decide +kernel⟩
theorem vc_X6_147 : xV RX6 147 RX6 yX6_isPoint cX6_isPoint 2 (some .boolean) 1 := ⟨⟨kM_X6_147, kI_X6_isPoint, kV_X6_isPoint, kN_X6, kC_X6_isPoint⟩, by decide +kernel, by decide +kernel, by decide +kernel⟩
theorem vc_X6_151 : xV RX6 151 RX3 yX3_comesTo cX3_comesTo 3 (some .boolean) 2 := ⟨⟨kM_X6_151, kI_X3_comesTo, kV_X3_comesTo, kN_X3, kC_X3_comesTo⟩, by decide +kernel, by decide +kernel, by decide +kernel⟩
theorem vc_X6_154 : xV RX6 154 RX3 yX3_aboveOf cX3_aboveOf 3 (some .int) 2 := ⟨⟨kM_X6_154, kI_X3_aboveOf, kV_X3_aboveOf, kN_X3, kC_X3_aboveOf⟩, by decide +kernel, by decide +kernel, by decide +kernel⟩
theorem vc_X6_157 : xV RX6 157 RX3 yX3_depthOf cX3_depthOf 5 (some .int) 2 := ⟨⟨kM_X6_157, kI_X3_depthOf, kV_X3_depthOf, kN_X3, kC_X3_depthOf⟩, by decide +kernel, by decide +kernel, by decide +kernel⟩
theorem vc_X6_160 : xV RX6 160 RX3 yX3_climb cX3_climb 6 (some .int) 3 := ⟨⟨kM_X6_160, kI_X3_climb, kV_X3_climb, kN_X3, kC_X3_climb⟩, by decide +kernel, by decide +kernel, by decide +kernel⟩
theorem vc_X6_167 : xV RX6 167 RX3 yX3_comersTo cX3_comersTo 4 (some .int) 1 := ⟨⟨kM_X6_167, kI_X3_comersTo, kV_X3_comersTo, kN_X3, kC_X3_comersTo⟩, by decide +kernel, by decide +kernel, by decide +kernel⟩
theorem vc_X6_170 : xV RX6 170 RX3 yX3_ringOf cX3_ringOf 2 (some .int) 1 := ⟨⟨kM_X6_170, kI_X3_ringOf, kV_X3_ringOf, kN_X3, kC_X3_ringOf⟩, by decide +kernel, by decide +kernel, by decide +kernel⟩
theorem vc_X6_173 : xV RX6 173 RX6 yX6_isArcThere cX6_isArcThere 3 (some .boolean) 2 := ⟨⟨kM_X6_173, kI_X6_isArcThere, kV_X6_isArcThere, kN_X6, kC_X6_isArcThere⟩, by decide +kernel, by decide +kernel, by decide +kernel⟩
theorem vc_X6_176 : xV RX6 176 RX3 yX3_isNeedless cX3_isNeedless 3 (some .boolean) 2 := ⟨⟨kM_X6_176, kI_X3_isNeedless, kV_X3_isNeedless, kN_X3, kC_X3_isNeedless⟩, by decide +kernel, by decide +kernel, by decide +kernel⟩
theorem vc_X6_179 : xV RX6 179 RX3 yX3_rings cX3_rings 3 (some .int) 0 := ⟨⟨kM_X6_179, kI_X3_rings, kV_X3_rings, kN_X3, kC_X3_rings⟩, by decide +kernel, by decide +kernel, by decide +kernel⟩
theorem vc_X6_182 : xV RX6 182 RX3 yX3_needlessArcs cX3_needlessArcs 4 (some .int) 0 := ⟨⟨kM_X6_182, kI_X3_needlessArcs, kV_X3_needlessArcs, kN_X3, kC_X3_needlessArcs⟩, by decide +kernel, by decide +kernel, by decide +kernel⟩
theorem vc_X6_185 : xV RX6 185 RX6 yX6_foldPair cX6_foldPair 6 (some .int) 4 := ⟨⟨kM_X6_185, kI_X6_foldPair, kV_X6_foldPair, kN_X6, kC_X6_foldPair⟩, by decide +kernel, by decide +kernel, by decide +kernel⟩
theorem vc_X6_189 : xS RX6 189 yX6_tell cX6_tell 2 (some .int) 2 := ⟨⟨kM_X6_189, kS_X6_tell, kN_X6, kC_X6_tell⟩, by decide +kernel, by decide +kernel, by decide +kernel⟩
theorem vc_X6_192 : xS RX6 192 yJ9_max_7cf53 cJ9_max_7cf53 2 (some .int) 2 := ⟨⟨kM_X6_192, kS_J9_max_7cf53, kN_J9, kC_J9_max_7cf53⟩, by decide +kernel, by decide +kernel, by decide +kernel⟩
theorem vc_X6_197 : xV RX6 197 RX3 yX3_pairsGained cX3_pairsGained 5 (some .int) 2 := ⟨⟨kM_X6_197, kI_X3_pairsGained, kV_X3_pairsGained, kN_X3, kC_X3_pairsGained⟩, by decide +kernel, by decide +kernel, by decide +kernel⟩
theorem vc_X6_200 : xV RX6 200 RX3 yX3_workGained cX3_workGained 5 (some .int) 2 := ⟨⟨kM_X6_200, kI_X3_workGained, kV_X3_workGained, kN_X3, kC_X3_workGained⟩, by decide +kernel, by decide +kernel, by decide +kernel⟩
theorem vc_X6_203 : xV RX6 203 RX3 yX3_pairsLost cX3_pairsLost 5 (some .int) 2 := ⟨⟨kM_X6_203, kI_X3_pairsLost, kV_X3_pairsLost, kN_X3, kC_X3_pairsLost⟩, by decide +kernel, by decide +kernel, by decide +kernel⟩
theorem vc_X6_206 : xV RX6 206 RX1 yX1_fewestArcs cX1_fewestArcs 5 (some .int) 3 := ⟨⟨kM_X6_206, kI_X1_fewestArcs, kV_X1_fewestArcs, kN_X1, kC_X1_fewestArcs⟩, by decide +kernel, by decide +kernel, by decide +kernel⟩
theorem vc_X6_210 : xS RX6 210 yX6_isChain cX6_isChain 1 (some .boolean) 1 := ⟨⟨kM_X6_210, kS_X6_isChain, kN_X6, kC_X6_isChain⟩, by decide +kernel, by decide +kernel, by decide +kernel⟩
theorem vc_X6_213 : xV RX6 213 RX0 yX0_begin cX0_begin 1 none 0 := ⟨⟨kM_X6_213, kI_X0_begin, kV_X0_begin, kN_X0, kC_X0_begin⟩, by decide +kernel, by decide +kernel, by decide +kernel⟩
theorem vc_X6_216 : xV RX6 216 RX6 yX6_isTellable cX6_isTellable 2 (some .boolean) 1 := ⟨⟨kM_X6_216, kI_X6_isTellable, kV_X6_isTellable, kN_X6, kC_X6_isTellable⟩, by decide +kernel, by decide +kernel, by decide +kernel⟩
theorem vc_X6_224 : xV RX6 224 RX0 yX0_insert cX0_insert 5 none 3 := ⟨⟨kM_X6_224, kI_X0_insert, kV_X0_insert, kN_X0, kC_X0_insert⟩, by decide +kernel, by decide +kernel, by decide +kernel⟩
theorem vc_X6_236 : xV RX6 236 RX0 yX0_total cX0_total 5 (some .int) 2 := ⟨⟨kM_X6_236, kI_X0_total, kV_X0_total, kN_X0, kC_X0_total⟩, by decide +kernel, by decide +kernel, by decide +kernel⟩
theorem vc_X6_241 : xV RX6 241 RX6 yX6_strikeArcs cX6_strikeArcs 7 (some .int) 2 := ⟨⟨kM_X6_241, kI_X6_strikeArcs, kV_X6_strikeArcs, kN_X6, kC_X6_strikeArcs⟩, by decide +kernel, by decide +kernel, by decide +kernel⟩
theorem vc_X6_245 : xV RX6 245 RX6 yX6_thingsOfChains cX6_thingsOfChains 3 (some .int) 0 := ⟨⟨kM_X6_245, kI_X6_thingsOfChains, kV_X6_thingsOfChains, kN_X6, kC_X6_thingsOfChains⟩, by decide +kernel, by decide +kernel, by decide +kernel⟩
theorem vc_X6_248 : xS RX6 248 yJ6_bitCount_0f7a4 cJ6_bitCount_0f7a4 1 (some .int) 1 := ⟨⟨kM_X6_248, kS_J6_bitCount_0f7a4, kN_J6, kC_J6_bitCount_0f7a4⟩, by decide +kernel, by decide +kernel, by decide +kernel⟩
theorem vc_X1_21 : xS RX1 21 yJ7_fill_53178 cJ7_fill_53178 4 none 2 := ⟨⟨kM_X1_21, kS_J7_fill_53178, kN_J7, kC_J7_fill_53178⟩, by decide +kernel, by decide +kernel, by decide +kernel⟩
theorem vc_X1_27 : xV RX1 27 RX1 yX1_findWay cX1_findWay 10 (some .boolean) 3 := ⟨⟨kM_X1_27, kI_X1_findWay, kV_X1_findWay, kN_X1, kC_X1_findWay⟩, by decide +kernel, by decide +kernel, by decide +kernel⟩
theorem vc_X1_31 : xV RX1 31 RX1 yX1_useWay cX1_useWay 6 none 2 := ⟨⟨kM_X1_31, kI_X1_useWay, kV_X1_useWay, kN_X1, kC_X1_useWay⟩, by decide +kernel, by decide +kernel, by decide +kernel⟩
theorem vc_X1_35 : xN RX1 35 RX6 yX6_has cX6_has 2 (some .boolean) 2 := ⟨⟨kM_X1_35, kS_X6_has, kN_X6, kC_X6_has⟩, by decide +kernel, by decide +kernel, by decide +kernel⟩
theorem vc_X1_39 : xN RX1 39 RX6 yX6_lowest cX6_lowest 1 (some .int) 1 := ⟨⟨kM_X1_39, kS_X6_lowest, kN_X6, kC_X6_lowest⟩, by decide +kernel, by decide +kernel, by decide +kernel⟩
theorem vc_X1_52 : xV RX1 52 RX1 yX1_useStep cX1_useStep 3 none 2 := ⟨⟨kM_X1_52, kI_X1_useStep, kV_X1_useStep, kN_X1, kC_X1_useStep⟩, by decide +kernel, by decide +kernel, by decide +kernel⟩
theorem vc_X3_21 : xV RX3 21 RX3 yX3_makeEmpty cX3_makeEmpty 3 none 1 := ⟨⟨kM_X3_21, kI_X3_makeEmpty, kV_X3_makeEmpty, kN_X3, kC_X3_makeEmpty⟩, by decide +kernel, by decide +kernel, by decide +kernel⟩
theorem vc_X3_32 : xS RX3 32 yJ7_fill_53178 cJ7_fill_53178 4 none 2 := ⟨⟨kM_X3_32, kS_J7_fill_53178, kN_J7, kC_J7_fill_53178⟩, by decide +kernel, by decide +kernel, by decide +kernel⟩
theorem vc_X3_44 : xN RX3 44 RX6 yX6_has cX6_has 2 (some .boolean) 2 := ⟨⟨kM_X3_44, kS_X6_has, kN_X6, kC_X6_has⟩, by decide +kernel, by decide +kernel, by decide +kernel⟩
theorem vc_X3_48 : xV RX3 48 RX3 yX3_allPoints cX3_allPoints 1 (some .int) 0 := ⟨⟨kM_X3_48, kI_X3_allPoints, kV_X3_allPoints, kN_X3, kC_X3_allPoints⟩, by decide +kernel, by decide +kernel, by decide +kernel⟩
theorem vc_X3_52 : xV RX3 52 RX3 yX3_arcsBetween cX3_arcsBetween 5 (some .int) 2 := ⟨⟨kM_X3_52, kI_X3_arcsBetween, kV_X3_arcsBetween, kN_X3, kC_X3_arcsBetween⟩, by decide +kernel, by decide +kernel, by decide +kernel⟩
theorem vc_X3_56 : xS RX3 56 yJ6_bitCount_0f7a4 cJ6_bitCount_0f7a4 1 (some .int) 1 := ⟨⟨kM_X3_56, kS_J6_bitCount_0f7a4, kN_J6, kC_J6_bitCount_0f7a4⟩, by decide +kernel, by decide +kernel, by decide +kernel⟩
theorem vc_X3_62 : xV RX3 62 RX3 yX3_aboveOf cX3_aboveOf 3 (some .int) 2 := ⟨⟨kM_X3_62, kI_X3_aboveOf, kV_X3_aboveOf, kN_X3, kC_X3_aboveOf⟩, by decide +kernel, by decide +kernel, by decide +kernel⟩
theorem vc_X3_65 : xV RX3 65 RX3 yX3_comesTo cX3_comesTo 3 (some .boolean) 2 := ⟨⟨kM_X3_65, kI_X3_comesTo, kV_X3_comesTo, kN_X3, kC_X3_comesTo⟩, by decide +kernel, by decide +kernel, by decide +kernel⟩
theorem vc_X3_68 : xV RX3 68 RX3 yX3_graft cX3_graft 5 none 4 := ⟨⟨kM_X3_68, kI_X3_graft, kV_X3_graft, kN_X3, kC_X3_graft⟩, by decide +kernel, by decide +kernel, by decide +kernel⟩
theorem vc_X3_72 : xV RX3 72 RX3 yX3_followArcs cX3_followArcs 5 none 3 := ⟨⟨kM_X3_72, kI_X3_followArcs, kV_X3_followArcs, kN_X3, kC_X3_followArcs⟩, by decide +kernel, by decide +kernel, by decide +kernel⟩
theorem vc_X3_76 : xV RX3 76 RX3 yX3_hasArc cX3_hasArc 3 (some .boolean) 2 := ⟨⟨kM_X3_76, kI_X3_hasArc, kV_X3_hasArc, kN_X3, kC_X3_hasArc⟩, by decide +kernel, by decide +kernel, by decide +kernel⟩
theorem vc_X3_79 : xV RX3 79 RX3 yX3_stoodOn cX3_stoodOn 6 (some .boolean) 3 := ⟨⟨kM_X3_79, kI_X3_stoodOn, kV_X3_stoodOn, kN_X3, kC_X3_stoodOn⟩, by decide +kernel, by decide +kernel, by decide +kernel⟩
theorem vc_X3_83 : xV RX3 83 RX3 yX3_makeAnew cX3_makeAnew 3 none 1 := ⟨⟨kM_X3_83, kI_X3_makeAnew, kV_X3_makeAnew, kN_X3, kC_X3_makeAnew⟩, by decide +kernel, by decide +kernel, by decide +kernel⟩
theorem vc_X3_86 : xV RX3 86 RX3 yX3_comersTo cX3_comersTo 4 (some .int) 1 := ⟨⟨kM_X3_86, kI_X3_comersTo, kV_X3_comersTo, kN_X3, kC_X3_comersTo⟩, by decide +kernel, by decide +kernel, by decide +kernel⟩
theorem vc_X3_89 : xV RX3 89 RX3 yX3_ringOf cX3_ringOf 2 (some .int) 1 := ⟨⟨kM_X3_89, kI_X3_ringOf, kV_X3_ringOf, kN_X3, kC_X3_ringOf⟩, by decide +kernel, by decide +kernel, by decide +kernel⟩
theorem vc_X3_92 : xN RX3 92 RX6 yX6_lowest cX6_lowest 1 (some .int) 1 := ⟨⟨kM_X3_92, kS_X6_lowest, kN_X6, kC_X6_lowest⟩, by decide +kernel, by decide +kernel, by decide +kernel⟩
theorem vc_X3_95 : xV RX3 95 RX3 yX3_membersWithout cX3_membersWithout 9 (some .int) 3 := ⟨⟨kM_X3_95, kI_X3_membersWithout, kV_X3_membersWithout, kN_X3, kC_X3_membersWithout⟩, by decide +kernel, by decide +kernel, by decide +kernel⟩
theorem vc_X3_99 : xV RX3 99 RX3 yX3_isNeedless cX3_isNeedless 3 (some .boolean) 2 := ⟨⟨kM_X3_99, kI_X3_isNeedless, kV_X3_isNeedless, kN_X3, kC_X3_isNeedless⟩, by decide +kernel, by decide +kernel, by decide +kernel⟩
theorem vc_X3_102 : xV RX3 102 RX3 yX3_newMembers cX3_newMembers 4 (some .int) 3 := ⟨⟨kM_X3_102, kI_X3_newMembers, kV_X3_newMembers, kN_X3, kC_X3_newMembers⟩, by decide +kernel, by decide +kernel, by decide +kernel⟩
theorem vc_X4_22 : xV RX4 22 RX3 yX3_copyFrom cX3_copyFrom 2 none 1 := ⟨⟨kM_X4_22, kI_X3_copyFrom, kV_X3_copyFrom, kN_X3, kC_X3_copyFrom⟩, by decide +kernel, by decide +kernel, by decide +kernel⟩
theorem vc_X4_29 : xS RX4 29 yJ9_min_7cf53 cJ9_min_7cf53 2 (some .int) 2 := ⟨⟨kM_X4_29, kS_J9_min_7cf53, kN_J9, kC_J9_min_7cf53⟩, by decide +kernel, by decide +kernel, by decide +kernel⟩
theorem vc_X5_29 : xV RX5 29 RX5 yX5_readClause cX5_readClause 5 (some .boolean) 1 := ⟨⟨kM_X5_29, kI_X5_readClause, kV_X5_readClause, kN_X5, kC_X5_readClause⟩, by decide +kernel, by decide +kernel, by decide +kernel⟩
theorem vc_X5_36 : xV RX5 36 RX5 yX5_numberOf cX5_numberOf 3 (some .int) 2 := ⟨⟨kM_X5_36, kI_X5_numberOf, kV_X5_numberOf, kN_X5, kC_X5_numberOf⟩, by decide +kernel, by decide +kernel, by decide +kernel⟩
theorem vc_X5_40 : xV RX5 40 RX5 yX5_nextToken cX5_nextToken 2 none 0 := ⟨⟨kM_X5_40, kI_X5_nextToken, kV_X5_nextToken, kN_X5, kC_X5_nextToken⟩, by decide +kernel, by decide +kernel, by decide +kernel⟩
theorem vc_X5_46 : xV RX5 46 RX5 yX5_isSemicolon cX5_isSemicolon 1 (some .boolean) 0 := ⟨⟨kM_X5_46, kI_X5_isSemicolon, kV_X5_isSemicolon, kN_X5, kC_X5_isSemicolon⟩, by decide +kernel, by decide +kernel, by decide +kernel⟩
theorem vc_X5_50 : xV RX5 50 RX5 yX5_kindOfToken cX5_kindOfToken 2 (some .int) 0 := ⟨⟨kM_X5_50, kI_X5_kindOfToken, kV_X5_kindOfToken, kN_X5, kC_X5_kindOfToken⟩, by decide +kernel, by decide +kernel, by decide +kernel⟩
theorem vc_X5_54 : xS RX5 54 yX5_numbersOf cX5_numbersOf 1 (some .int) 1 := ⟨⟨kM_X5_54, kS_X5_numbersOf, kN_X5, kC_X5_numbersOf⟩, by decide +kernel, by decide +kernel, by decide +kernel⟩
theorem vc_X5_58 : xV RX5 58 RX5 yX5_takeNumber cX5_takeNumber 8 (some .boolean) 3 := ⟨⟨kM_X5_58, kI_X5_takeNumber, kV_X5_takeNumber, kN_X5, kC_X5_takeNumber⟩, by decide +kernel, by decide +kernel, by decide +kernel⟩
theorem vc_X5_62 : xV RX5 62 RX5 yX5_tokenNumber cX5_tokenNumber 3 (some .int) 0 := ⟨⟨kM_X5_62, kI_X5_tokenNumber, kV_X5_tokenNumber, kN_X5, kC_X5_tokenNumber⟩, by decide +kernel, by decide +kernel, by decide +kernel⟩
theorem vc_X5_73 : xS RX5 73 yX5_sortOf cX5_sortOf 1 (some .int) 1 := ⟨⟨kM_X5_73, kS_X5_sortOf, kN_X5, kC_X5_sortOf⟩, by decide +kernel, by decide +kernel, by decide +kernel⟩
theorem vc_X5_76 : xS RX5 76 yX5_wordOf cX5_wordOf 1 (some .object) 1 := ⟨⟨kM_X5_76, kS_X5_wordOf, kN_X5, kC_X5_wordOf⟩, by decide +kernel, by decide +kernel, by decide +kernel⟩
theorem vc_X5_80 : xV RX5 80 RX5 yX5_tokenIs cX5_tokenIs 3 (some .boolean) 1 := ⟨⟨kM_X5_80, kI_X5_tokenIs, kV_X5_tokenIs, kN_X5, kC_X5_tokenIs⟩, by decide +kernel, by decide +kernel, by decide +kernel⟩
theorem vc_X5_84 : xV RX5 84 RJ0 yJ0_length_8abf5 cJ0_length_8abf5 1 (some .int) 0 := ⟨⟨kM_X5_84, kI_J0_length_8abf5, kV_J0_length_8abf5, kN_J0, kC_J0_length_8abf5⟩, by decide +kernel, by decide +kernel, by decide +kernel⟩
theorem vc_X5_88 : xV RX5 88 RJ0 yJ0_charAt_5068e cJ0_charAt_5068e 2 (some .char) 1 := ⟨⟨kM_X5_88, kI_J0_charAt_5068e, kV_J0_charAt_5068e, kN_J0, kC_J0_charAt_5068e⟩, by decide +kernel, by decide +kernel, by decide +kernel⟩
theorem vc_L_13 : xV RL 13 RX6 yX6_write cX6_write 2 (some .int) 1 := ⟨⟨kM_L_13, kI_X6_write, kV_X6_write, kN_X6, kC_X6_write⟩, by decide +kernel, by decide +kernel, by decide +kernel⟩
theorem vc_L_17 : xV RL 17 RX7 yX7_write cX7_write 2 (some .int) 1 := ⟨⟨kM_L_17, kI_X7_write, kV_X7_write, kN_X7, kC_X7_write⟩, by decide +kernel, by decide +kernel, by decide +kernel⟩
theorem vc_L_18 : xV RL 18 RX6 yX6_erase cX6_erase 2 (some .int) 0 := ⟨⟨kM_L_18, kI_X6_erase, kV_X6_erase, kN_X6, kC_X6_erase⟩, by decide +kernel, by decide +kernel, by decide +kernel⟩
theorem vc_L_22 : xV RL 22 RX7 yX7_erase cX7_erase 2 (some .int) 0 := ⟨⟨kM_L_22, kI_X7_erase, kV_X7_erase, kN_X7, kC_X7_erase⟩, by decide +kernel, by decide +kernel, by decide +kernel⟩
theorem vc_L_23 : xV RL 23 RX6 yX6_fault cX6_fault 1 (some .int) 0 := ⟨⟨kM_L_23, kI_X6_fault, kV_X6_fault, kN_X6, kC_X6_fault⟩, by decide +kernel, by decide +kernel, by decide +kernel⟩
theorem vc_L_26 : xV RL 26 RX7 yX7_fault cX7_fault 1 (some .int) 0 := ⟨⟨kM_L_26, kI_X7_fault, kV_X7_fault, kN_X7, kC_X7_fault⟩, by decide +kernel, by decide +kernel, by decide +kernel⟩
theorem vc_L_27 : xV RL 27 RX6 yX6_net cX6_net 2 (some .int) 0 := ⟨⟨kM_L_27, kI_X6_net, kV_X6_net, kN_X6, kC_X6_net⟩, by decide +kernel, by decide +kernel, by decide +kernel⟩
theorem vc_L_30 : xV RL 30 RX7 yX7_net cX7_net 2 (some .int) 0 := ⟨⟨kM_L_30, kI_X7_net, kV_X7_net, kN_X7, kC_X7_net⟩, by decide +kernel, by decide +kernel, by decide +kernel⟩
theorem vc_L_31 : xV RL 31 RX6 yX6_put cX6_put 4 (some .int) 2 := ⟨⟨kM_L_31, kI_X6_put, kV_X6_put, kN_X6, kC_X6_put⟩, by decide +kernel, by decide +kernel, by decide +kernel⟩
theorem vc_L_35 : xV RL 35 RX7 yX7_put cX7_put 4 (some .int) 2 := ⟨⟨kM_L_35, kI_X7_put, kV_X7_put, kN_X7, kC_X7_put⟩, by decide +kernel, by decide +kernel, by decide +kernel⟩
theorem vc_L_36 : xV RL 36 RX6 yX6_take cX6_take 5 (some .int) 2 := ⟨⟨kM_L_36, kI_X6_take, kV_X6_take, kN_X6, kC_X6_take⟩, by decide +kernel, by decide +kernel, by decide +kernel⟩
theorem vc_L_39 : xV RL 39 RX7 yX7_take cX7_take 7 (some .int) 2 := ⟨⟨kM_L_39, kI_X7_take, kV_X7_take, kN_X7, kC_X7_take⟩, by decide +kernel, by decide +kernel, by decide +kernel⟩
theorem vc_L_40 : xV RL 40 RX6 yX6_clear cX6_clear 2 (some .int) 0 := ⟨⟨kM_L_40, kI_X6_clear, kV_X6_clear, kN_X6, kC_X6_clear⟩, by decide +kernel, by decide +kernel, by decide +kernel⟩
theorem vc_L_43 : xV RL 43 RX7 yX7_clear cX7_clear 2 (some .int) 0 := ⟨⟨kM_L_43, kI_X7_clear, kV_X7_clear, kN_X7, kC_X7_clear⟩, by decide +kernel, by decide +kernel, by decide +kernel⟩
theorem vc_L_44 : xV RL 44 RX6 yX6_undo cX6_undo 1 (some .int) 0 := ⟨⟨kM_L_44, kI_X6_undo, kV_X6_undo, kN_X6, kC_X6_undo⟩, by decide +kernel, by decide +kernel, by decide +kernel⟩
theorem vc_L_47 : xV RL 47 RX7 yX7_undo cX7_undo 2 (some .int) 0 := ⟨⟨kM_L_47, kI_X7_undo, kV_X7_undo, kN_X7, kC_X7_undo⟩, by decide +kernel, by decide +kernel, by decide +kernel⟩
theorem vc_L_48 : xV RL 48 RX6 yX6_keep cX6_keep 2 (some .int) 1 := ⟨⟨kM_L_48, kI_X6_keep, kV_X6_keep, kN_X6, kC_X6_keep⟩, by decide +kernel, by decide +kernel, by decide +kernel⟩
theorem vc_L_51 : xV RL 51 RX7 yX7_keep cX7_keep 3 (some .int) 1 := ⟨⟨kM_L_51, kI_X7_keep, kV_X7_keep, kN_X7, kC_X7_keep⟩, by decide +kernel, by decide +kernel, by decide +kernel⟩
theorem vc_L_52 : xV RL 52 RX6 yX6_back cX6_back 2 (some .int) 1 := ⟨⟨kM_L_52, kI_X6_back, kV_X6_back, kN_X6, kC_X6_back⟩, by decide +kernel, by decide +kernel, by decide +kernel⟩
theorem vc_L_55 : xV RL 55 RX7 yX7_back cX7_back 3 (some .int) 1 := ⟨⟨kM_L_55, kI_X7_back, kV_X7_back, kN_X7, kC_X7_back⟩, by decide +kernel, by decide +kernel, by decide +kernel⟩
theorem vc_L_56 : xV RL 56 RX6 yX6_arc cX6_arc 3 (some .int) 2 := ⟨⟨kM_L_56, kI_X6_arc, kV_X6_arc, kN_X6, kC_X6_arc⟩, by decide +kernel, by decide +kernel, by decide +kernel⟩
theorem vc_L_59 : xV RL 59 RX7 yX7_arc cX7_arc 3 (some .int) 2 := ⟨⟨kM_L_59, kI_X7_arc, kV_X7_arc, kN_X7, kC_X7_arc⟩, by decide +kernel, by decide +kernel, by decide +kernel⟩
theorem vc_L_60 : xV RL 60 RX6 yX6_reaches cX6_reaches 3 (some .int) 2 := ⟨⟨kM_L_60, kI_X6_reaches, kV_X6_reaches, kN_X6, kC_X6_reaches⟩, by decide +kernel, by decide +kernel, by decide +kernel⟩
theorem vc_L_63 : xV RL 63 RX7 yX7_reaches cX7_reaches 3 (some .int) 2 := ⟨⟨kM_L_63, kI_X7_reaches, kV_X7_reaches, kN_X7, kC_X7_reaches⟩, by decide +kernel, by decide +kernel, by decide +kernel⟩
theorem vc_L_64 : xV RL 64 RX6 yX6_above cX6_above 3 (some .int) 2 := ⟨⟨kM_L_64, kI_X6_above, kV_X6_above, kN_X6, kC_X6_above⟩, by decide +kernel, by decide +kernel, by decide +kernel⟩
theorem vc_L_67 : xV RL 67 RX7 yX7_above cX7_above 3 (some .int) 2 := ⟨⟨kM_L_67, kI_X7_above, kV_X7_above, kN_X7, kC_X7_above⟩, by decide +kernel, by decide +kernel, by decide +kernel⟩
theorem vc_L_68 : xV RL 68 RX6 yX6_way cX6_way 5 (some .int) 3 := ⟨⟨kM_L_68, kI_X6_way, kV_X6_way, kN_X6, kC_X6_way⟩, by decide +kernel, by decide +kernel, by decide +kernel⟩
theorem vc_L_72 : xV RL 72 RX7 yX7_way cX7_way 7 (some .int) 3 := ⟨⟨kM_L_72, kI_X7_way, kV_X7_way, kN_X7, kC_X7_way⟩, by decide +kernel, by decide +kernel, by decide +kernel⟩
theorem vc_L_73 : xV RL 73 RX6 yX6_around cX6_around 3 (some .int) 2 := ⟨⟨kM_L_73, kI_X6_around, kV_X6_around, kN_X6, kC_X6_around⟩, by decide +kernel, by decide +kernel, by decide +kernel⟩
theorem vc_L_76 : xV RL 76 RX7 yX7_around cX7_around 3 (some .int) 2 := ⟨⟨kM_L_76, kI_X7_around, kV_X7_around, kN_X7, kC_X7_around⟩, by decide +kernel, by decide +kernel, by decide +kernel⟩
theorem vc_L_77 : xV RL 77 RX6 yX6_needless cX6_needless 3 (some .int) 2 := ⟨⟨kM_L_77, kI_X6_needless, kV_X6_needless, kN_X6, kC_X6_needless⟩, by decide +kernel, by decide +kernel, by decide +kernel⟩
theorem vc_L_80 : xV RL 80 RX7 yX7_needless cX7_needless 3 (some .int) 2 := ⟨⟨kM_L_80, kI_X7_needless, kV_X7_needless, kN_X7, kC_X7_needless⟩, by decide +kernel, by decide +kernel, by decide +kernel⟩
theorem vc_L_81 : xV RL 81 RX6 yX6_reduced cX6_reduced 1 (some .int) 0 := ⟨⟨kM_L_81, kI_X6_reduced, kV_X6_reduced, kN_X6, kC_X6_reduced⟩, by decide +kernel, by decide +kernel, by decide +kernel⟩
theorem vc_L_84 : xV RL 84 RX7 yX7_reduced cX7_reduced 1 (some .int) 0 := ⟨⟨kM_L_84, kI_X7_reduced, kV_X7_reduced, kN_X7, kC_X7_reduced⟩, by decide +kernel, by decide +kernel, by decide +kernel⟩
theorem vc_L_85 : xV RL 85 RX6 yX6_fold cX6_fold 6 (some .int) 2 := ⟨⟨kM_L_85, kI_X6_fold, kV_X6_fold, kN_X6, kC_X6_fold⟩, by decide +kernel, by decide +kernel, by decide +kernel⟩
theorem vc_L_88 : xV RL 88 RX7 yX7_fold cX7_fold 9 (some .int) 2 := ⟨⟨kM_L_88, kI_X7_fold, kV_X7_fold, kN_X7, kC_X7_fold⟩, by decide +kernel, by decide +kernel, by decide +kernel⟩
theorem vc_L_89 : xV RL 89 RX6 yX6_gain cX6_gain 4 (some .int) 3 := ⟨⟨kM_L_89, kI_X6_gain, kV_X6_gain, kN_X6, kC_X6_gain⟩, by decide +kernel, by decide +kernel, by decide +kernel⟩
theorem vc_L_92 : xV RL 92 RX7 yX7_gain cX7_gain 4 (some .int) 3 := ⟨⟨kM_L_92, kI_X7_gain, kV_X7_gain, kN_X7, kC_X7_gain⟩, by decide +kernel, by decide +kernel, by decide +kernel⟩
theorem vc_L_93 : xV RL 93 RX6 yX6_best cX6_best 6 (some .int) 0 := ⟨⟨kM_L_93, kI_X6_best, kV_X6_best, kN_X6, kC_X6_best⟩, by decide +kernel, by decide +kernel, by decide +kernel⟩
theorem vc_L_96 : xV RL 96 RX7 yX7_best cX7_best 6 (some .int) 0 := ⟨⟨kM_L_96, kI_X7_best, kV_X7_best, kN_X7, kC_X7_best⟩, by decide +kernel, by decide +kernel, by decide +kernel⟩
theorem vc_L_97 : xV RL 97 RX6 yX6_loss cX6_loss 3 (some .int) 2 := ⟨⟨kM_L_97, kI_X6_loss, kV_X6_loss, kN_X6, kC_X6_loss⟩, by decide +kernel, by decide +kernel, by decide +kernel⟩
theorem vc_L_100 : xV RL 100 RX7 yX7_loss cX7_loss 3 (some .int) 2 := ⟨⟨kM_L_100, kI_X7_loss, kV_X7_loss, kN_X7, kC_X7_loss⟩, by decide +kernel, by decide +kernel, by decide +kernel⟩
theorem vc_L_101 : xV RL 101 RX6 yX6_worst cX6_worst 6 (some .int) 0 := ⟨⟨kM_L_101, kI_X6_worst, kV_X6_worst, kN_X6, kC_X6_worst⟩, by decide +kernel, by decide +kernel, by decide +kernel⟩
theorem vc_L_104 : xV RL 104 RX7 yX7_worst cX7_worst 6 (some .int) 0 := ⟨⟨kM_L_104, kI_X7_worst, kV_X7_worst, kN_X7, kC_X7_worst⟩, by decide +kernel, by decide +kernel, by decide +kernel⟩
theorem vc_L_105 : xV RL 105 RX6 yX6_sever cX6_sever 3 (some .int) 2 := ⟨⟨kM_L_105, kI_X6_sever, kV_X6_sever, kN_X6, kC_X6_sever⟩, by decide +kernel, by decide +kernel, by decide +kernel⟩
theorem vc_L_108 : xV RL 108 RX7 yX7_sever cX7_sever 5 (some .int) 2 := ⟨⟨kM_L_108, kI_X7_sever, kV_X7_sever, kN_X7, kC_X7_sever⟩, by decide +kernel, by decide +kernel, by decide +kernel⟩
theorem vc_L_109 : xV RL 109 RX6 yX6_chain cX6_chain 2 (some .int) 1 := ⟨⟨kM_L_109, kI_X6_chain, kV_X6_chain, kN_X6, kC_X6_chain⟩, by decide +kernel, by decide +kernel, by decide +kernel⟩
theorem vc_L_112 : xV RL 112 RX7 yX7_chain cX7_chain 2 (some .int) 1 := ⟨⟨kM_L_112, kI_X7_chain, kV_X7_chain, kN_X7, kC_X7_chain⟩, by decide +kernel, by decide +kernel, by decide +kernel⟩
theorem vc_L_113 : xV RL 113 RX6 yX6_add cX6_add 6 (some .int) 4 := ⟨⟨kM_L_113, kI_X6_add, kV_X6_add, kN_X6, kC_X6_add⟩, by decide +kernel, by decide +kernel, by decide +kernel⟩
theorem vc_L_117 : xV RL 117 RX7 yX7_add cX7_add 8 (some .int) 4 := ⟨⟨kM_L_117, kI_X7_add, kV_X7_add, kN_X7, kC_X7_add⟩, by decide +kernel, by decide +kernel, by decide +kernel⟩
theorem vc_L_118 : xV RL 118 RX6 yX6_last cX6_last 5 (some .int) 2 := ⟨⟨kM_L_118, kI_X6_last, kV_X6_last, kN_X6, kC_X6_last⟩, by decide +kernel, by decide +kernel, by decide +kernel⟩
theorem vc_L_121 : xV RL 121 RX7 yX7_last cX7_last 4 (some .int) 2 := ⟨⟨kM_L_121, kI_X7_last, kV_X7_last, kN_X7, kC_X7_last⟩, by decide +kernel, by decide +kernel, by decide +kernel⟩
theorem vc_L_122 : xV RL 122 RX6 yX6_sum cX6_sum 3 (some .int) 2 := ⟨⟨kM_L_122, kI_X6_sum, kV_X6_sum, kN_X6, kC_X6_sum⟩, by decide +kernel, by decide +kernel, by decide +kernel⟩
theorem vc_L_125 : xV RL 125 RX7 yX7_sum cX7_sum 6 (some .int) 2 := ⟨⟨kM_L_125, kI_X7_sum, kV_X7_sum, kN_X7, kC_X7_sum⟩, by decide +kernel, by decide +kernel, by decide +kernel⟩
theorem vc_L_126 : xV RL 126 RX6 yX6_strike cX6_strike 3 (some .int) 2 := ⟨⟨kM_L_126, kI_X6_strike, kV_X6_strike, kN_X6, kC_X6_strike⟩, by decide +kernel, by decide +kernel, by decide +kernel⟩
theorem vc_L_129 : xV RL 129 RX7 yX7_strike cX7_strike 8 (some .int) 2 := ⟨⟨kM_L_129, kI_X7_strike, kV_X7_strike, kN_X7, kC_X7_strike⟩, by decide +kernel, by decide +kernel, by decide +kernel⟩
theorem vc_L_130 : xV RL 130 RX6 yX6_append cX6_append 7 (some .int) 2 := ⟨⟨kM_L_130, kI_X6_append, kV_X6_append, kN_X6, kC_X6_append⟩, by decide +kernel, by decide +kernel, by decide +kernel⟩
theorem vc_L_133 : xV RL 133 RX7 yX7_append cX7_append 5 (some .int) 2 := ⟨⟨kM_L_133, kI_X7_append, kV_X7_append, kN_X7, kC_X7_append⟩, by decide +kernel, by decide +kernel, by decide +kernel⟩
theorem vc_L_134 : xV RL 134 RX6 yX6_drop cX6_drop 3 (some .int) 1 := ⟨⟨kM_L_134, kI_X6_drop, kV_X6_drop, kN_X6, kC_X6_drop⟩, by decide +kernel, by decide +kernel, by decide +kernel⟩
theorem vc_L_137 : xV RL 137 RX7 yX7_drop cX7_drop 3 (some .int) 1 := ⟨⟨kM_L_137, kI_X7_drop, kV_X7_drop, kN_X7, kC_X7_drop⟩, by decide +kernel, by decide +kernel, by decide +kernel⟩
theorem vc_L_138 : xV RL 138 RX6 yX6_count cX6_count 2 (some .int) 1 := ⟨⟨kM_L_138, kI_X6_count, kV_X6_count, kN_X6, kC_X6_count⟩, by decide +kernel, by decide +kernel, by decide +kernel⟩
theorem vc_L_141 : xV RL 141 RX7 yX7_count cX7_count 2 (some .int) 1 := ⟨⟨kM_L_141, kI_X7_count, kV_X7_count, kN_X7, kC_X7_count⟩, by decide +kernel, by decide +kernel, by decide +kernel⟩
theorem vc_X7_59 : xV RX7 59 RX7 yX7_begin cX7_begin 3 none 1 := ⟨⟨kM_X7_59, kI_X7_begin, kV_X7_begin, kN_X7, kC_X7_begin⟩, by decide +kernel, by decide +kernel, by decide +kernel⟩
theorem vc_X7_63 : xV RX7 63 RX7 yX7_loseChains cX7_loseChains 2 none 0 := ⟨⟨kM_X7_63, kI_X7_loseChains, kV_X7_loseChains, kN_X7, kC_X7_loseChains⟩, by decide +kernel, by decide +kernel, by decide +kernel⟩
theorem vc_X7_66 : xS RX7 66 yX7_in cX7_in 6 (some .boolean) 3 := ⟨⟨kM_X7_66, kS_X7_in, kN_X7, kC_X7_in⟩, by decide +kernel, by decide +kernel, by decide +kernel⟩
theorem vc_X7_70 : xV RX7 70 RX7 yX7_isPoint cX7_isPoint 2 (some .boolean) 1 := ⟨⟨kM_X7_70, kI_X7_isPoint, kV_X7_isPoint, kN_X7, kC_X7_isPoint⟩, by decide +kernel, by decide +kernel, by decide +kernel⟩
theorem vc_X7_74 : xV RX7 74 RX7 yX7_areTwo cX7_areTwo 3 (some .boolean) 2 := ⟨⟨kM_X7_74, kI_X7_areTwo, kV_X7_areTwo, kN_X7, kC_X7_areTwo⟩, by decide +kernel, by decide +kernel, by decide +kernel⟩
theorem vc_X7_78 : xS RX7 78 yX7_has cX7_has 2 (some .boolean) 2 := ⟨⟨kM_X7_78, kS_X7_has, kN_X7, kC_X7_has⟩, by decide +kernel, by decide +kernel, by decide +kernel⟩
theorem vc_X7_81 : xS RX7 81 yX7_ones cX7_ones 3 (some .int) 1 := ⟨⟨kM_X7_81, kS_X7_ones, kN_X7, kC_X7_ones⟩, by decide +kernel, by decide +kernel, by decide +kernel⟩
theorem vc_X7_85 : xV RX7 85 RX7 yX7_isIn cX7_isIn 3 (some .boolean) 2 := ⟨⟨kM_X7_85, kI_X7_isIn, kV_X7_isIn, kN_X7, kC_X7_isIn⟩, by decide +kernel, by decide +kernel, by decide +kernel⟩
theorem vc_X7_88 : xV RX7 88 RX7 yX7_goOn cX7_goOn 6 none 2 := ⟨⟨kM_X7_88, kI_X7_goOn, kV_X7_goOn, kN_X7, kC_X7_goOn⟩, by decide +kernel, by decide +kernel, by decide +kernel⟩
theorem vc_X7_103 : xV RX7 103 RX7 yX7_letter cX7_letter 1 (some .int) 0 := ⟨⟨kM_X7_103, kI_X7_letter, kV_X7_letter, kN_X7, kC_X7_letter⟩, by decide +kernel, by decide +kernel, by decide +kernel⟩
theorem vc_X7_127 : xV RX7 127 RX7 yX7_next cX7_next 2 none 0 := ⟨⟨kM_X7_127, kI_X7_next, kV_X7_next, kN_X7, kC_X7_next⟩, by decide +kernel, by decide +kernel, by decide +kernel⟩
theorem vc_X7_130 : xV RX7 130 RX7 yX7_faults cX7_faults 1 (some .boolean) 0 := ⟨⟨kM_X7_130, kI_X7_faults, kV_X7_faults, kN_X7, kC_X7_faults⟩, by decide +kernel, by decide +kernel, by decide +kernel⟩
theorem vc_X7_134 : xV RX7 134 RX7 yX7_isWord cX7_isWord 6 (some .boolean) 4 := ⟨⟨kM_X7_134, kI_X7_isWord, kV_X7_isWord, kN_X7, kC_X7_isWord⟩, by decide +kernel, by decide +kernel, by decide +kernel⟩
theorem vc_X7_141 : xV RX7 141 RX7 yX7_takesNumber cX7_takesNumber 3 (some .boolean) 2 := ⟨⟨kM_X7_141, kI_X7_takesNumber, kV_X7_takesNumber, kN_X7, kC_X7_takesNumber⟩, by decide +kernel, by decide +kernel, by decide +kernel⟩
theorem vc_X7_144 : xV RX7 144 RX7 yX7_wordOf cX7_wordOf 1 (some .int) 0 := ⟨⟨kM_X7_144, kI_X7_wordOf, kV_X7_wordOf, kN_X7, kC_X7_wordOf⟩, by decide +kernel, by decide +kernel, by decide +kernel⟩
theorem vc_X7_150 : xV RX7 150 RX7 yX7_takesPoint cX7_takesPoint 4 (some .boolean) 2 := ⟨⟨kM_X7_150, kI_X7_takesPoint, kV_X7_takesPoint, kN_X7, kC_X7_takesPoint⟩, by decide +kernel, by decide +kernel, by decide +kernel⟩
theorem vc_X7_153 : xV RX7 153 RX7 yX7_readClause cX7_readClause 4 (some .boolean) 0 := ⟨⟨kM_X7_153, kI_X7_readClause, kV_X7_readClause, kN_X7, kC_X7_readClause⟩, by decide +kernel, by decide +kernel, by decide +kernel⟩
theorem vc_X7_156 : xV RX7 156 RX7 yX7_readAll cX7_readAll 1 (some .boolean) 0 := ⟨⟨kM_X7_156, kI_X7_readAll, kV_X7_readAll, kN_X7, kC_X7_readAll⟩, by decide +kernel, by decide +kernel, by decide +kernel⟩
theorem vc_X7_159 : xV RX7 159 RX7 yX7_arcs cX7_arcs 3 (some .int) 0 := ⟨⟨kM_X7_159, kI_X7_arcs, kV_X7_arcs, kN_X7, kC_X7_arcs⟩, by decide +kernel, by decide +kernel, by decide +kernel⟩
theorem vc_X7_162 : xV RX7 162 RX7 yX7_putIn cX7_putIn 4 none 2 := ⟨⟨kM_X7_162, kI_X7_putIn, kV_X7_putIn, kN_X7, kC_X7_putIn⟩, by decide +kernel, by decide +kernel, by decide +kernel⟩
theorem vc_X7_165 : xV RX7 165 RX7 yX7_putIfNew cX7_putIfNew 3 none 2 := ⟨⟨kM_X7_165, kI_X7_putIfNew, kV_X7_putIfNew, kN_X7, kC_X7_putIfNew⟩, by decide +kernel, by decide +kernel, by decide +kernel⟩
theorem vc_X7_168 : xV RX7 168 RX7 yX7_doClause cX7_doClause 5 none 1 := ⟨⟨kM_X7_168, kI_X7_doClause, kV_X7_doClause, kN_X7, kC_X7_doClause⟩, by decide +kernel, by decide +kernel, by decide +kernel⟩
theorem vc_X7_171 : xV RX7 171 RX7 yX7_isArc cX7_isArc 3 (some .boolean) 2 := ⟨⟨kM_X7_171, kI_X7_isArc, kV_X7_isArc, kN_X7, kC_X7_isArc⟩, by decide +kernel, by decide +kernel, by decide +kernel⟩
theorem vc_X7_174 : xV RX7 174 RX7 yX7_pairs cX7_pairs 4 (some .int) 0 := ⟨⟨kM_X7_174, kI_X7_pairs, kV_X7_pairs, kN_X7, kC_X7_pairs⟩, by decide +kernel, by decide +kernel, by decide +kernel⟩
theorem vc_X7_177 : xV RX7 177 RX7 yX7_note cX7_note 2 none 0 := ⟨⟨kM_X7_177, kI_X7_note, kV_X7_note, kN_X7, kC_X7_note⟩, by decide +kernel, by decide +kernel, by decide +kernel⟩
theorem vc_X7_180 : xV RX7 180 RX7 yX7_stoodOn cX7_stoodOn 7 (some .boolean) 3 := ⟨⟨kM_X7_180, kI_X7_stoodOn, kV_X7_stoodOn, kN_X7, kC_X7_stoodOn⟩, by decide +kernel, by decide +kernel, by decide +kernel⟩
theorem vc_X7_184 : xV RX7 184 RX7 yX7_grow cX7_grow 3 none 1 := ⟨⟨kM_X7_184, kI_X7_grow, kV_X7_grow, kN_X7, kC_X7_grow⟩, by decide +kernel, by decide +kernel, by decide +kernel⟩
theorem vc_X7_187 : xV RX7 187 RX7 yX7_aboveOf cX7_aboveOf 4 (some .int) 2 := ⟨⟨kM_X7_187, kI_X7_aboveOf, kV_X7_aboveOf, kN_X7, kC_X7_aboveOf⟩, by decide +kernel, by decide +kernel, by decide +kernel⟩
theorem vc_X7_191 : xV RX7 191 RX7 yX7_treeOf cX7_treeOf 4 (some .int) 1 := ⟨⟨kM_X7_191, kI_X7_treeOf, kV_X7_treeOf, kN_X7, kC_X7_treeOf⟩, by decide +kernel, by decide +kernel, by decide +kernel⟩
theorem vc_X7_194 : xV RX7 194 RX7 yX7_comingTo cX7_comingTo 4 (some .int) 1 := ⟨⟨kM_X7_194, kI_X7_comingTo, kV_X7_comingTo, kN_X7, kC_X7_comingTo⟩, by decide +kernel, by decide +kernel, by decide +kernel⟩
theorem vc_X7_197 : xV RX7 197 RX7 yX7_ringOf cX7_ringOf 2 (some .int) 1 := ⟨⟨kM_X7_197, kI_X7_ringOf, kV_X7_ringOf, kN_X7, kC_X7_ringOf⟩, by decide +kernel, by decide +kernel, by decide +kernel⟩
theorem vc_X7_200 : xV RX7 200 RX7 yX7_without cX7_without 8 (some .int) 3 := ⟨⟨kM_X7_200, kI_X7_without, kV_X7_without, kN_X7, kC_X7_without⟩, by decide +kernel, by decide +kernel, by decide +kernel⟩
theorem vc_X7_204 : xV RX7 204 RX7 yX7_isNeedless cX7_isNeedless 3 (some .boolean) 2 := ⟨⟨kM_X7_204, kI_X7_isNeedless, kV_X7_isNeedless, kN_X7, kC_X7_isNeedless⟩, by decide +kernel, by decide +kernel, by decide +kernel⟩
theorem vc_X7_207 : xV RX7 207 RX7 yX7_rings cX7_rings 3 (some .int) 0 := ⟨⟨kM_X7_207, kI_X7_rings, kV_X7_rings, kN_X7, kC_X7_rings⟩, by decide +kernel, by decide +kernel, by decide +kernel⟩
theorem vc_X7_210 : xV RX7 210 RX7 yX7_needlessMany cX7_needlessMany 4 (some .int) 0 := ⟨⟨kM_X7_210, kI_X7_needlessMany, kV_X7_needlessMany, kN_X7, kC_X7_needlessMany⟩, by decide +kernel, by decide +kernel, by decide +kernel⟩
theorem vc_X7_217 : xV RX7 217 RX7 yX7_gainOf cX7_gainOf 7 (some .int) 3 := ⟨⟨kM_X7_217, kI_X7_gainOf, kV_X7_gainOf, kN_X7, kC_X7_gainOf⟩, by decide +kernel, by decide +kernel, by decide +kernel⟩
theorem vc_X7_220 : xV RX7 220 RX7 yX7_lossOf cX7_lossOf 5 (some .int) 2 := ⟨⟨kM_X7_220, kI_X7_lossOf, kV_X7_lossOf, kN_X7, kC_X7_lossOf⟩, by decide +kernel, by decide +kernel, by decide +kernel⟩
theorem vc_X7_223 : xV RX7 223 RX7 yX7_findsWay cX7_findsWay 6 (some .boolean) 2 := ⟨⟨kM_X7_223, kI_X7_findsWay, kV_X7_findsWay, kN_X7, kC_X7_findsWay⟩, by decide +kernel, by decide +kernel, by decide +kernel⟩
theorem vc_X7_226 : xV RX7 226 RX7 yX7_goAlong cX7_goAlong 4 none 2 := ⟨⟨kM_X7_226, kI_X7_goAlong, kV_X7_goAlong, kN_X7, kC_X7_goAlong⟩, by decide +kernel, by decide +kernel, by decide +kernel⟩
theorem vc_X7_231 : xS RX7 231 yX7_isChain cX7_isChain 1 (some .boolean) 1 := ⟨⟨kM_X7_231, kS_X7_isChain, kN_X7, kC_X7_isChain⟩, by decide +kernel, by decide +kernel, by decide +kernel⟩
theorem vc_X7_234 : xS RX7 234 yX7_isOneOf cX7_isOneOf 2 (some .boolean) 2 := ⟨⟨kM_X7_234, kS_X7_isOneOf, kN_X7, kC_X7_isOneOf⟩, by decide +kernel, by decide +kernel, by decide +kernel⟩
theorem vc_X7_243 : xV RX7 243 RX7 yX7_allThings cX7_allThings 3 (some .int) 0 := ⟨⟨kM_X7_243, kI_X7_allThings, kV_X7_allThings, kN_X7, kC_X7_allThings⟩, by decide +kernel, by decide +kernel, by decide +kernel⟩
theorem vc_J0_335 : xV RJ0 335 RJ0 yJ0_coder_7d493 cJ0_coder_7d493 1 (some .byte) 0 := ⟨⟨kM_J0_335, kI_J0_coder_7d493, kV_J0_coder_7d493, kN_J0, kC_J0_coder_7d493⟩, by decide +kernel, by decide +kernel, by decide +kernel⟩
theorem vc_J0_492 : xV RJ0 492 RJ0 yJ0_isLatin1_aae02 cJ0_isLatin1_aae02 1 (some .boolean) 0 := ⟨⟨kM_J0_492, kI_J0_isLatin1_aae02, kV_J0_isLatin1_aae02, kN_J0, kC_J0_isLatin1_aae02⟩, by decide +kernel, by decide +kernel, by decide +kernel⟩
theorem vc_J0_495 : xS RJ0 495 yJ1_charAt_3b067 cJ1_charAt_3b067 2 (some .char) 2 := ⟨⟨kM_J0_495, kS_J1_charAt_3b067, kN_J1, kC_J1_charAt_3b067⟩, by decide +kernel, by decide +kernel, by decide +kernel⟩
theorem vc_J0_498 : xS RJ0 498 yJ2_charAt_3b067 cJ2_charAt_3b067 2 (some .char) 2 := ⟨⟨kM_J0_498, kS_J2_charAt_3b067, kN_J2, kC_J2_charAt_3b067⟩, by decide +kernel, by decide +kernel, by decide +kernel⟩
theorem vc_J0_1059 : xS RJ0 1059 yJ3_checkIndex_8e157 cJ3_checkIndex_8e157 3 (some .int) 3 := ⟨⟨kM_J0_1059, kS_J3_checkIndex_8e157, kN_J3, kC_J3_checkIndex_8e157⟩, by decide +kernel, by decide +kernel, by decide +kernel⟩
theorem vc_J1_9 : xS RJ1 9 yJ0_checkIndex_df160 cJ0_checkIndex_df160 2 none 2 := ⟨⟨kM_J1_9, kS_J0_checkIndex_df160, kN_J0, kC_J0_checkIndex_df160⟩, by decide +kernel, by decide +kernel, by decide +kernel⟩
theorem vc_J2_48 : xS RJ2 48 yJ2_length_9d52b cJ2_length_9d52b 1 (some .int) 1 := ⟨⟨kM_J2_48, kS_J2_length_9d52b, kN_J2, kC_J2_length_9d52b⟩, by decide +kernel, by decide +kernel, by decide +kernel⟩
theorem vc_J2_67 : xS RJ2 67 yJ2_checkIndex_2214a cJ2_checkIndex_2214a 2 none 2 := ⟨⟨kM_J2_67, kS_J2_checkIndex_2214a, kN_J2, kC_J2_checkIndex_2214a⟩, by decide +kernel, by decide +kernel, by decide +kernel⟩
theorem vc_J2_71 : xS RJ2 71 yJ2_getChar_3b067 cJ2_getChar_3b067 2 (some .char) 2 := ⟨⟨kM_J2_71, kS_J2_getChar_3b067, kN_J2, kC_J2_getChar_3b067⟩, by decide +kernel, by decide +kernel, by decide +kernel⟩
theorem vc_J2_414 : xS RJ2 414 yJ0_checkIndex_df160 cJ0_checkIndex_df160 2 none 2 := ⟨⟨kM_J2_414, kS_J0_checkIndex_df160, kN_J0, kC_J0_checkIndex_df160⟩, by decide +kernel, by decide +kernel, by decide +kernel⟩
end
