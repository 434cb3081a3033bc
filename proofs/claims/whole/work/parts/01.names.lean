-- ===== PART A: goes FIRST, ahead of the names: the tables' words, and 'selects' of the private methods out of them =====
/-- a private method of a class that the tables say can be made, by its rows of tables_1 -/
def lw_okq (q : MethodName × Nat) : Prop := (q.1.cls ≠ "java/lang/invoke/MethodHandle" ∧ q.1.cls ≠ "java/lang/invoke/VarHandle") ∧ Cond.instantiable q.1.cls q.2 ∈ tables_1 ∧ Cond.privateMethod q.1 ∈ tables_1 ∧ Cond.instanceMethod q.1 ∈ tables_1
theorem lw_p0 : lw_okq (⟨"StageFights$Stage", "stay", "(IIII)V"⟩, 5) := ⟨⟨by decide +kernel, by decide +kernel⟩, List.mem_of_getElem? (i := 217) (by decide +kernel), List.mem_of_getElem? (i := 547) (by decide +kernel), List.mem_of_getElem? (i := 548) (by decide +kernel)⟩
theorem lw_p1 : lw_okq (⟨"StageFights$Stage", "go", "(LStageFights$Move;I)V"⟩, 5) := ⟨⟨by decide +kernel, by decide +kernel⟩, List.mem_of_getElem? (i := 217) (by decide +kernel), List.mem_of_getElem? (i := 556) (by decide +kernel), List.mem_of_getElem? (i := 557) (by decide +kernel)⟩
theorem lw_p2 : lw_okq (⟨"StageFights$Stage", "leastGap", "(LStageFights$Move;III)I"⟩, 5) := ⟨⟨by decide +kernel, by decide +kernel⟩, List.mem_of_getElem? (i := 217) (by decide +kernel), List.mem_of_getElem? (i := 577) (by decide +kernel), List.mem_of_getElem? (i := 578) (by decide +kernel)⟩
theorem lw_p3 : lw_okq (⟨"StageFights", "refusalOfBlow", "(I)I"⟩, 13) := ⟨⟨by decide +kernel, by decide +kernel⟩, List.mem_of_getElem? (i := 22) (by decide +kernel), List.mem_of_getElem? (i := 589) (by decide +kernel), List.mem_of_getElem? (i := 590) (by decide +kernel)⟩
theorem lw_p4 : lw_okq (⟨"StageFights", "feedOne", "(I)V"⟩, 13) := ⟨⟨by decide +kernel, by decide +kernel⟩, List.mem_of_getElem? (i := 22) (by decide +kernel), List.mem_of_getElem? (i := 653) (by decide +kernel), List.mem_of_getElem? (i := 654) (by decide +kernel)⟩
theorem lw_p5 : lw_okq (⟨"StageFights$Reader", "goOn", "()V"⟩, 9) := ⟨⟨by decide +kernel, by decide +kernel⟩, List.mem_of_getElem? (i := 265) (by decide +kernel), List.mem_of_getElem? (i := 670) (by decide +kernel), List.mem_of_getElem? (i := 671) (by decide +kernel)⟩
theorem lw_p6 : lw_okq (⟨"StageFights$Reader", "foundAt", "(I)I"⟩, 9) := ⟨⟨by decide +kernel, by decide +kernel⟩, List.mem_of_getElem? (i := 265) (by decide +kernel), List.mem_of_getElem? (i := 674) (by decide +kernel), List.mem_of_getElem? (i := 675) (by decide +kernel)⟩
theorem lw_p7 : lw_okq (⟨"StageFights$Reader", "keyHere", "()I"⟩, 9) := ⟨⟨by decide +kernel, by decide +kernel⟩, List.mem_of_getElem? (i := 265) (by decide +kernel), List.mem_of_getElem? (i := 678) (by decide +kernel), List.mem_of_getElem? (i := 679) (by decide +kernel)⟩
theorem lw_p8 : lw_okq (⟨"StageFights$Reader", "isHere", "(Ljava/lang/String;)Z"⟩, 9) := ⟨⟨by decide +kernel, by decide +kernel⟩, List.mem_of_getElem? (i := 265) (by decide +kernel), List.mem_of_getElem? (i := 683) (by decide +kernel), List.mem_of_getElem? (i := 684) (by decide +kernel)⟩
theorem lw_p9 : lw_okq (⟨"StageFights$Reader", "tier", "(III)Z"⟩, 9) := ⟨⟨by decide +kernel, by decide +kernel⟩, List.mem_of_getElem? (i := 265) (by decide +kernel), List.mem_of_getElem? (i := 737) (by decide +kernel), List.mem_of_getElem? (i := 738) (by decide +kernel)⟩
theorem lw_p10 : lw_okq (⟨"StageFights$Reader", "piece", "(II)Z"⟩, 9) := ⟨⟨by decide +kernel, by decide +kernel⟩, List.mem_of_getElem? (i := 265) (by decide +kernel), List.mem_of_getElem? (i := 741) (by decide +kernel), List.mem_of_getElem? (i := 742) (by decide +kernel)⟩
theorem lw_p11 : lw_okq (⟨"StageFights$Reader", "numberHere", "()I"⟩, 9) := ⟨⟨by decide +kernel, by decide +kernel⟩, List.mem_of_getElem? (i := 265) (by decide +kernel), List.mem_of_getElem? (i := 745) (by decide +kernel), List.mem_of_getElem? (i := 746) (by decide +kernel)⟩
theorem lw_p12 : lw_okq (⟨"StageFights$Reader", "nameHere", "()I"⟩, 9) := ⟨⟨by decide +kernel, by decide +kernel⟩, List.mem_of_getElem? (i := 265) (by decide +kernel), List.mem_of_getElem? (i := 749) (by decide +kernel), List.mem_of_getElem? (i := 750) (by decide +kernel)⟩
theorem lw_p13 : lw_okq (⟨"StageFights$Reader", "note", "(I)V"⟩, 9) := ⟨⟨by decide +kernel, by decide +kernel⟩, List.mem_of_getElem? (i := 265) (by decide +kernel), List.mem_of_getElem? (i := 811) (by decide +kernel), List.mem_of_getElem? (i := 812) (by decide +kernel)⟩
theorem lw_p14 : lw_okq (⟨"StageFights$Reader", "isSign", "(C)Z"⟩, 9) := ⟨⟨by decide +kernel, by decide +kernel⟩, List.mem_of_getElem? (i := 265) (by decide +kernel), List.mem_of_getElem? (i := 815) (by decide +kernel), List.mem_of_getElem? (i := 816) (by decide +kernel)⟩
theorem lw_p15 : lw_okq (⟨"StageFights$Reader", "isJoinOf", "(I)Z"⟩, 9) := ⟨⟨by decide +kernel, by decide +kernel⟩, List.mem_of_getElem? (i := 265) (by decide +kernel), List.mem_of_getElem? (i := 819) (by decide +kernel), List.mem_of_getElem? (i := 820) (by decide +kernel)⟩
def lw_privs_1 : List (MethodName × Nat) := [(⟨"StageFights$Stage", "stay", "(IIII)V"⟩, 5), (⟨"StageFights$Stage", "go", "(LStageFights$Move;I)V"⟩, 5), (⟨"StageFights$Stage", "leastGap", "(LStageFights$Move;III)I"⟩, 5), (⟨"StageFights", "refusalOfBlow", "(I)I"⟩, 13), (⟨"StageFights", "feedOne", "(I)V"⟩, 13), (⟨"StageFights$Reader", "goOn", "()V"⟩, 9), (⟨"StageFights$Reader", "foundAt", "(I)I"⟩, 9), (⟨"StageFights$Reader", "keyHere", "()I"⟩, 9), (⟨"StageFights$Reader", "isHere", "(Ljava/lang/String;)Z"⟩, 9), (⟨"StageFights$Reader", "tier", "(III)Z"⟩, 9), (⟨"StageFights$Reader", "piece", "(II)Z"⟩, 9), (⟨"StageFights$Reader", "numberHere", "()I"⟩, 9), (⟨"StageFights$Reader", "nameHere", "()I"⟩, 9), (⟨"StageFights$Reader", "note", "(I)V"⟩, 9), (⟨"StageFights$Reader", "isSign", "(C)Z"⟩, 9), (⟨"StageFights$Reader", "isJoinOf", "(I)Z"⟩, 9)]
theorem lw_r1 : ∀ q ∈ lw_privs_1, lw_okq q := List.forall_mem_cons.mpr ⟨lw_p0, List.forall_mem_cons.mpr ⟨lw_p1, List.forall_mem_cons.mpr ⟨lw_p2, List.forall_mem_cons.mpr ⟨lw_p3, List.forall_mem_cons.mpr ⟨lw_p4, List.forall_mem_cons.mpr ⟨lw_p5, List.forall_mem_cons.mpr ⟨lw_p6, List.forall_mem_cons.mpr ⟨lw_p7, List.forall_mem_cons.mpr ⟨lw_p8, List.forall_mem_cons.mpr ⟨lw_p9, List.forall_mem_cons.mpr ⟨lw_p10, List.forall_mem_cons.mpr ⟨lw_p11, List.forall_mem_cons.mpr ⟨lw_p12, List.forall_mem_cons.mpr ⟨lw_p13, List.forall_mem_cons.mpr ⟨lw_p14, List.forall_mem_cons.mpr ⟨lw_p15, fun _ h => absurd h List.not_mem_nil⟩⟩⟩⟩⟩⟩⟩⟩⟩⟩⟩⟩⟩⟩⟩⟩
theorem lw_p16 : lw_okq (⟨"StageFights$Shifter", "isToTry", "(III)Z"⟩, 6) := ⟨⟨by decide +kernel, by decide +kernel⟩, List.mem_of_getElem? (i := 239) (by decide +kernel), List.mem_of_getElem? (i := 942) (by decide +kernel), List.mem_of_getElem? (i := 943) (by decide +kernel)⟩
theorem lw_p17 : lw_okq (⟨"StageFights$Shifter", "stands", "()Z"⟩, 6) := ⟨⟨by decide +kernel, by decide +kernel⟩, List.mem_of_getElem? (i := 239) (by decide +kernel), List.mem_of_getElem? (i := 946) (by decide +kernel), List.mem_of_getElem? (i := 947) (by decide +kernel)⟩
theorem lw_p18 : lw_okq (⟨"StageFights$Stage", "missesOf", "(I)I"⟩, 5) := ⟨⟨by decide +kernel, by decide +kernel⟩, List.mem_of_getElem? (i := 217) (by decide +kernel), List.mem_of_getElem? (i := 1000) (by decide +kernel), List.mem_of_getElem? (i := 1001) (by decide +kernel)⟩
theorem lw_p19 : lw_okq (⟨"StageFights$Scene", "tireAndWear", "(I)V"⟩, 19) := ⟨⟨by decide +kernel, by decide +kernel⟩, List.mem_of_getElem? (i := 30) (by decide +kernel), List.mem_of_getElem? (i := 1012) (by decide +kernel), List.mem_of_getElem? (i := 1013) (by decide +kernel)⟩
theorem lw_p20 : lw_okq (⟨"StageFightsModel", "personAt", "(I)I"⟩, 41) := ⟨⟨by decide +kernel, by decide +kernel⟩, List.mem_of_getElem? (i := 1148) (by decide +kernel), List.mem_of_getElem? (i := 1292) (by decide +kernel), List.mem_of_getElem? (i := 1293) (by decide +kernel)⟩
theorem lw_p21 : lw_okq (⟨"StageFightsModel", "stale", "()V"⟩, 41) := ⟨⟨by decide +kernel, by decide +kernel⟩, List.mem_of_getElem? (i := 1148) (by decide +kernel), List.mem_of_getElem? (i := 1296) (by decide +kernel), List.mem_of_getElem? (i := 1297) (by decide +kernel)⟩
theorem lw_p22 : lw_okq (⟨"StageFightsModel", "isPerson", "(I)Z"⟩, 41) := ⟨⟨by decide +kernel, by decide +kernel⟩, List.mem_of_getElem? (i := 1148) (by decide +kernel), List.mem_of_getElem? (i := 1304) (by decide +kernel), List.mem_of_getElem? (i := 1305) (by decide +kernel)⟩
theorem lw_p23 : lw_okq (⟨"StageFightsModel", "lateOf", "(I)I"⟩, 41) := ⟨⟨by decide +kernel, by decide +kernel⟩, List.mem_of_getElem? (i := 1148) (by decide +kernel), List.mem_of_getElem? (i := 1309) (by decide +kernel), List.mem_of_getElem? (i := 1310) (by decide +kernel)⟩
theorem lw_p24 : lw_okq (⟨"StageFightsModel", "counts", "(I)I"⟩, 41) := ⟨⟨by decide +kernel, by decide +kernel⟩, List.mem_of_getElem? (i := 1148) (by decide +kernel), List.mem_of_getElem? (i := 1313) (by decide +kernel), List.mem_of_getElem? (i := 1314) (by decide +kernel)⟩
theorem lw_p25 : lw_okq (⟨"StageFightsModel", "textAt", "(I)I"⟩, 41) := ⟨⟨by decide +kernel, by decide +kernel⟩, List.mem_of_getElem? (i := 1148) (by decide +kernel), List.mem_of_getElem? (i := 1317) (by decide +kernel), List.mem_of_getElem? (i := 1318) (by decide +kernel)⟩
theorem lw_p26 : lw_okq (⟨"StageFightsModel", "worked", "(I)I"⟩, 41) := ⟨⟨by decide +kernel, by decide +kernel⟩, List.mem_of_getElem? (i := 1148) (by decide +kernel), List.mem_of_getElem? (i := 1321) (by decide +kernel), List.mem_of_getElem? (i := 1322) (by decide +kernel)⟩
theorem lw_p27 : lw_okq (⟨"StageFightsModel", "becomes", "(II)I"⟩, 41) := ⟨⟨by decide +kernel, by decide +kernel⟩, List.mem_of_getElem? (i := 1148) (by decide +kernel), List.mem_of_getElem? (i := 1340) (by decide +kernel), List.mem_of_getElem? (i := 1341) (by decide +kernel)⟩
theorem lw_p28 : lw_okq (⟨"StageFightsModel", "field", "(II)I"⟩, 41) := ⟨⟨by decide +kernel, by decide +kernel⟩, List.mem_of_getElem? (i := 1148) (by decide +kernel), List.mem_of_getElem? (i := 1350) (by decide +kernel), List.mem_of_getElem? (i := 1351) (by decide +kernel)⟩
theorem lw_p29 : lw_okq (⟨"StageFightsModel", "moveAt", "(I)I"⟩, 41) := ⟨⟨by decide +kernel, by decide +kernel⟩, List.mem_of_getElem? (i := 1148) (by decide +kernel), List.mem_of_getElem? (i := 1354) (by decide +kernel), List.mem_of_getElem? (i := 1355) (by decide +kernel)⟩
theorem lw_p30 : lw_okq (⟨"StageFightsModel", "isMove", "(I)Z"⟩, 41) := ⟨⟨by decide +kernel, by decide +kernel⟩, List.mem_of_getElem? (i := 1148) (by decide +kernel), List.mem_of_getElem? (i := 1366) (by decide +kernel), List.mem_of_getElem? (i := 1367) (by decide +kernel)⟩
theorem lw_p31 : lw_okq (⟨"StageFightsModel", "isBarred", "(I)Z"⟩, 41) := ⟨⟨by decide +kernel, by decide +kernel⟩, List.mem_of_getElem? (i := 1148) (by decide +kernel), List.mem_of_getElem? (i := 1370) (by decide +kernel), List.mem_of_getElem? (i := 1371) (by decide +kernel)⟩
def lw_privs_2 : List (MethodName × Nat) := [(⟨"StageFights$Shifter", "isToTry", "(III)Z"⟩, 6), (⟨"StageFights$Shifter", "stands", "()Z"⟩, 6), (⟨"StageFights$Stage", "missesOf", "(I)I"⟩, 5), (⟨"StageFights$Scene", "tireAndWear", "(I)V"⟩, 19), (⟨"StageFightsModel", "personAt", "(I)I"⟩, 41), (⟨"StageFightsModel", "stale", "()V"⟩, 41), (⟨"StageFightsModel", "isPerson", "(I)Z"⟩, 41), (⟨"StageFightsModel", "lateOf", "(I)I"⟩, 41), (⟨"StageFightsModel", "counts", "(I)I"⟩, 41), (⟨"StageFightsModel", "textAt", "(I)I"⟩, 41), (⟨"StageFightsModel", "worked", "(I)I"⟩, 41), (⟨"StageFightsModel", "becomes", "(II)I"⟩, 41), (⟨"StageFightsModel", "field", "(II)I"⟩, 41), (⟨"StageFightsModel", "moveAt", "(I)I"⟩, 41), (⟨"StageFightsModel", "isMove", "(I)Z"⟩, 41), (⟨"StageFightsModel", "isBarred", "(I)Z"⟩, 41)]
theorem lw_r2 : ∀ q ∈ lw_privs_2, lw_okq q := List.forall_mem_cons.mpr ⟨lw_p16, List.forall_mem_cons.mpr ⟨lw_p17, List.forall_mem_cons.mpr ⟨lw_p18, List.forall_mem_cons.mpr ⟨lw_p19, List.forall_mem_cons.mpr ⟨lw_p20, List.forall_mem_cons.mpr ⟨lw_p21, List.forall_mem_cons.mpr ⟨lw_p22, List.forall_mem_cons.mpr ⟨lw_p23, List.forall_mem_cons.mpr ⟨lw_p24, List.forall_mem_cons.mpr ⟨lw_p25, List.forall_mem_cons.mpr ⟨lw_p26, List.forall_mem_cons.mpr ⟨lw_p27, List.forall_mem_cons.mpr ⟨lw_p28, List.forall_mem_cons.mpr ⟨lw_p29, List.forall_mem_cons.mpr ⟨lw_p30, List.forall_mem_cons.mpr ⟨lw_p31, fun _ h => absurd h List.not_mem_nil⟩⟩⟩⟩⟩⟩⟩⟩⟩⟩⟩⟩⟩⟩⟩⟩
theorem lw_p32 : lw_okq (⟨"StageFightsModel", "findPlaces", "()V"⟩, 41) := ⟨⟨by decide +kernel, by decide +kernel⟩, List.mem_of_getElem? (i := 1148) (by decide +kernel), List.mem_of_getElem? (i := 1399) (by decide +kernel), List.mem_of_getElem? (i := 1400) (by decide +kernel)⟩
theorem lw_p33 : lw_okq (⟨"StageFightsModel", "findOrder", "()V"⟩, 41) := ⟨⟨by decide +kernel, by decide +kernel⟩, List.mem_of_getElem? (i := 1148) (by decide +kernel), List.mem_of_getElem? (i := 1403) (by decide +kernel), List.mem_of_getElem? (i := 1404) (by decide +kernel)⟩
theorem lw_p34 : lw_okq (⟨"StageFightsModel", "placeOf", "(II)I"⟩, 41) := ⟨⟨by decide +kernel, by decide +kernel⟩, List.mem_of_getElem? (i := 1148) (by decide +kernel), List.mem_of_getElem? (i := 1410) (by decide +kernel), List.mem_of_getElem? (i := 1411) (by decide +kernel)⟩
theorem lw_p35 : lw_okq (⟨"StageFightsModel", "isBlow", "(I)Z"⟩, 41) := ⟨⟨by decide +kernel, by decide +kernel⟩, List.mem_of_getElem? (i := 1148) (by decide +kernel), List.mem_of_getElem? (i := 1418) (by decide +kernel), List.mem_of_getElem? (i := 1419) (by decide +kernel)⟩
theorem lw_p36 : lw_okq (⟨"StageFightsModel", "findLates", "()V"⟩, 41) := ⟨⟨by decide +kernel, by decide +kernel⟩, List.mem_of_getElem? (i := 1148) (by decide +kernel), List.mem_of_getElem? (i := 1422) (by decide +kernel), List.mem_of_getElem? (i := 1423) (by decide +kernel)⟩
theorem lw_p37 : lw_okq (⟨"StageFightsModel", "gapOf", "(II)I"⟩, 41) := ⟨⟨by decide +kernel, by decide +kernel⟩, List.mem_of_getElem? (i := 1148) (by decide +kernel), List.mem_of_getElem? (i := 1426) (by decide +kernel), List.mem_of_getElem? (i := 1427) (by decide +kernel)⟩
theorem lw_p38 : lw_okq (⟨"StageFightsModel", "near", "(III)I"⟩, 41) := ⟨⟨by decide +kernel, by decide +kernel⟩, List.mem_of_getElem? (i := 1148) (by decide +kernel), List.mem_of_getElem? (i := 1430) (by decide +kernel), List.mem_of_getElem? (i := 1431) (by decide +kernel)⟩
theorem lw_p39 : lw_okq (⟨"StageFightsModel", "broken", "(I)I"⟩, 41) := ⟨⟨by decide +kernel, by decide +kernel⟩, List.mem_of_getElem? (i := 1148) (by decide +kernel), List.mem_of_getElem? (i := 1444) (by decide +kernel), List.mem_of_getElem? (i := 1445) (by decide +kernel)⟩
theorem lw_p40 : lw_okq (⟨"StageFightsModel", "wanted", "(II)I"⟩, 41) := ⟨⟨by decide +kernel, by decide +kernel⟩, List.mem_of_getElem? (i := 1148) (by decide +kernel), List.mem_of_getElem? (i := 1448) (by decide +kernel), List.mem_of_getElem? (i := 1449) (by decide +kernel)⟩
theorem lw_p41 : lw_okq (⟨"StageFightsModel", "firstBreach", "()I"⟩, 41) := ⟨⟨by decide +kernel, by decide +kernel⟩, List.mem_of_getElem? (i := 1148) (by decide +kernel), List.mem_of_getElem? (i := 1456) (by decide +kernel), List.mem_of_getElem? (i := 1457) (by decide +kernel)⟩
theorem lw_p42 : lw_okq (⟨"StageFightsModel", "isDone", "(I)Z"⟩, 41) := ⟨⟨by decide +kernel, by decide +kernel⟩, List.mem_of_getElem? (i := 1148) (by decide +kernel), List.mem_of_getElem? (i := 1460) (by decide +kernel), List.mem_of_getElem? (i := 1461) (by decide +kernel)⟩
theorem lw_p43 : lw_okq (⟨"StageFightsModel", "isUnready", "(I)Z"⟩, 41) := ⟨⟨by decide +kernel, by decide +kernel⟩, List.mem_of_getElem? (i := 1148) (by decide +kernel), List.mem_of_getElem? (i := 1472) (by decide +kernel), List.mem_of_getElem? (i := 1473) (by decide +kernel)⟩
theorem lw_p44 : lw_okq (⟨"StageFightsModel", "isSeen", "(I)Z"⟩, 41) := ⟨⟨by decide +kernel, by decide +kernel⟩, List.mem_of_getElem? (i := 1148) (by decide +kernel), List.mem_of_getElem? (i := 1481) (by decide +kernel), List.mem_of_getElem? (i := 1482) (by decide +kernel)⟩
theorem lw_p45 : lw_okq (⟨"StageFightsModel", "parse", "()I"⟩, 41) := ⟨⟨by decide +kernel, by decide +kernel⟩, List.mem_of_getElem? (i := 1148) (by decide +kernel), List.mem_of_getElem? (i := 1501) (by decide +kernel), List.mem_of_getElem? (i := 1502) (by decide +kernel)⟩
theorem lw_p46 : lw_okq (⟨"StageFightsModel", "next", "()V"⟩, 41) := ⟨⟨by decide +kernel, by decide +kernel⟩, List.mem_of_getElem? (i := 1148) (by decide +kernel), List.mem_of_getElem? (i := 1505) (by decide +kernel), List.mem_of_getElem? (i := 1506) (by decide +kernel)⟩
theorem lw_p47 : lw_okq (⟨"StageFightsModel", "isLetter", "(I)Z"⟩, 41) := ⟨⟨by decide +kernel, by decide +kernel⟩, List.mem_of_getElem? (i := 1148) (by decide +kernel), List.mem_of_getElem? (i := 1509) (by decide +kernel), List.mem_of_getElem? (i := 1510) (by decide +kernel)⟩
def lw_privs_3 : List (MethodName × Nat) := [(⟨"StageFightsModel", "findPlaces", "()V"⟩, 41), (⟨"StageFightsModel", "findOrder", "()V"⟩, 41), (⟨"StageFightsModel", "placeOf", "(II)I"⟩, 41), (⟨"StageFightsModel", "isBlow", "(I)Z"⟩, 41), (⟨"StageFightsModel", "findLates", "()V"⟩, 41), (⟨"StageFightsModel", "gapOf", "(II)I"⟩, 41), (⟨"StageFightsModel", "near", "(III)I"⟩, 41), (⟨"StageFightsModel", "broken", "(I)I"⟩, 41), (⟨"StageFightsModel", "wanted", "(II)I"⟩, 41), (⟨"StageFightsModel", "firstBreach", "()I"⟩, 41), (⟨"StageFightsModel", "isDone", "(I)Z"⟩, 41), (⟨"StageFightsModel", "isUnready", "(I)Z"⟩, 41), (⟨"StageFightsModel", "isSeen", "(I)Z"⟩, 41), (⟨"StageFightsModel", "parse", "()I"⟩, 41), (⟨"StageFightsModel", "next", "()V"⟩, 41), (⟨"StageFightsModel", "isLetter", "(I)Z"⟩, 41)]
theorem lw_r3 : ∀ q ∈ lw_privs_3, lw_okq q := List.forall_mem_cons.mpr ⟨lw_p32, List.forall_mem_cons.mpr ⟨lw_p33, List.forall_mem_cons.mpr ⟨lw_p34, List.forall_mem_cons.mpr ⟨lw_p35, List.forall_mem_cons.mpr ⟨lw_p36, List.forall_mem_cons.mpr ⟨lw_p37, List.forall_mem_cons.mpr ⟨lw_p38, List.forall_mem_cons.mpr ⟨lw_p39, List.forall_mem_cons.mpr ⟨lw_p40, List.forall_mem_cons.mpr ⟨lw_p41, List.forall_mem_cons.mpr ⟨lw_p42, List.forall_mem_cons.mpr ⟨lw_p43, List.forall_mem_cons.mpr ⟨lw_p44, List.forall_mem_cons.mpr ⟨lw_p45, List.forall_mem_cons.mpr ⟨lw_p46, List.forall_mem_cons.mpr ⟨lw_p47, fun _ h => absurd h List.not_mem_nil⟩⟩⟩⟩⟩⟩⟩⟩⟩⟩⟩⟩⟩⟩⟩⟩
theorem lw_p48 : lw_okq (⟨"StageFightsModel", "isDigit", "(I)Z"⟩, 41) := ⟨⟨by decide +kernel, by decide +kernel⟩, List.mem_of_getElem? (i := 1148) (by decide +kernel), List.mem_of_getElem? (i := 1515) (by decide +kernel), List.mem_of_getElem? (i := 1516) (by decide +kernel)⟩
theorem lw_p49 : lw_okq (⟨"StageFightsModel", "key", "()I"⟩, 41) := ⟨⟨by decide +kernel, by decide +kernel⟩, List.mem_of_getElem? (i := 1148) (by decide +kernel), List.mem_of_getElem? (i := 1521) (by decide +kernel), List.mem_of_getElem? (i := 1522) (by decide +kernel)⟩
theorem lw_p50 : lw_okq (⟨"StageFightsModel", "isWordAt", "(IIII)Z"⟩, 41) := ⟨⟨by decide +kernel, by decide +kernel⟩, List.mem_of_getElem? (i := 1148) (by decide +kernel), List.mem_of_getElem? (i := 1525) (by decide +kernel), List.mem_of_getElem? (i := 1526) (by decide +kernel)⟩
theorem lw_p51 : lw_okq (⟨"StageFightsModel", "isLong", "(IIIIII)Z"⟩, 41) := ⟨⟨by decide +kernel, by decide +kernel⟩, List.mem_of_getElem? (i := 1148) (by decide +kernel), List.mem_of_getElem? (i := 1529) (by decide +kernel), List.mem_of_getElem? (i := 1530) (by decide +kernel)⟩
theorem lw_p52 : lw_okq (⟨"StageFightsModel", "either", "(I)Z"⟩, 41) := ⟨⟨by decide +kernel, by decide +kernel⟩, List.mem_of_getElem? (i := 1148) (by decide +kernel), List.mem_of_getElem? (i := 1533) (by decide +kernel), List.mem_of_getElem? (i := 1534) (by decide +kernel)⟩
theorem lw_p53 : lw_okq (⟨"StageFightsModel", "both", "(I)Z"⟩, 41) := ⟨⟨by decide +kernel, by decide +kernel⟩, List.mem_of_getElem? (i := 1148) (by decide +kernel), List.mem_of_getElem? (i := 1537) (by decide +kernel), List.mem_of_getElem? (i := 1538) (by decide +kernel)⟩
theorem lw_p54 : lw_okq (⟨"StageFightsModel", "test", "(I)Z"⟩, 41) := ⟨⟨by decide +kernel, by decide +kernel⟩, List.mem_of_getElem? (i := 1148) (by decide +kernel), List.mem_of_getElem? (i := 1541) (by decide +kernel), List.mem_of_getElem? (i := 1542) (by decide +kernel)⟩
theorem lw_p55 : lw_okq (⟨"StageFightsModel", "sum", "(I)Z"⟩, 41) := ⟨⟨by decide +kernel, by decide +kernel⟩, List.mem_of_getElem? (i := 1148) (by decide +kernel), List.mem_of_getElem? (i := 1545) (by decide +kernel), List.mem_of_getElem? (i := 1546) (by decide +kernel)⟩
theorem lw_p56 : lw_okq (⟨"StageFightsModel", "term", "(I)Z"⟩, 41) := ⟨⟨by decide +kernel, by decide +kernel⟩, List.mem_of_getElem? (i := 1148) (by decide +kernel), List.mem_of_getElem? (i := 1549) (by decide +kernel), List.mem_of_getElem? (i := 1550) (by decide +kernel)⟩
theorem lw_p57 : lw_okq (⟨"StageFightsModel", "part0", "(I)Z"⟩, 41) := ⟨⟨by decide +kernel, by decide +kernel⟩, List.mem_of_getElem? (i := 1148) (by decide +kernel), List.mem_of_getElem? (i := 1553) (by decide +kernel), List.mem_of_getElem? (i := 1554) (by decide +kernel)⟩
theorem lw_p58 : lw_okq (⟨"StageFightsModel", "step", "(II)V"⟩, 41) := ⟨⟨by decide +kernel, by decide +kernel⟩, List.mem_of_getElem? (i := 1148) (by decide +kernel), List.mem_of_getElem? (i := 1557) (by decide +kernel), List.mem_of_getElem? (i := 1558) (by decide +kernel)⟩
theorem lw_p59 : lw_okq (⟨"StageFightsModel", "isSign", "(I)Z"⟩, 41) := ⟨⟨by decide +kernel, by decide +kernel⟩, List.mem_of_getElem? (i := 1148) (by decide +kernel), List.mem_of_getElem? (i := 1564) (by decide +kernel), List.mem_of_getElem? (i := 1565) (by decide +kernel)⟩
theorem lw_p60 : lw_okq (⟨"StageFightsModel", "isText", "(I)Z"⟩, 41) := ⟨⟨by decide +kernel, by decide +kernel⟩, List.mem_of_getElem? (i := 1148) (by decide +kernel), List.mem_of_getElem? (i := 1572) (by decide +kernel), List.mem_of_getElem? (i := 1573) (by decide +kernel)⟩
theorem lw_p61 : lw_okq (⟨"StageFightsModel", "isTwo", "(II)Z"⟩, 41) := ⟨⟨by decide +kernel, by decide +kernel⟩, List.mem_of_getElem? (i := 1148) (by decide +kernel), List.mem_of_getElem? (i := 1580) (by decide +kernel), List.mem_of_getElem? (i := 1581) (by decide +kernel)⟩
theorem lw_p62 : lw_okq (⟨"StageFightsModel", "needs", "(II)I"⟩, 41) := ⟨⟨by decide +kernel, by decide +kernel⟩, List.mem_of_getElem? (i := 1148) (by decide +kernel), List.mem_of_getElem? (i := 1584) (by decide +kernel), List.mem_of_getElem? (i := 1585) (by decide +kernel)⟩
theorem lw_p63 : lw_okq (⟨"StageFightsModel", "hasBarred", "()Z"⟩, 41) := ⟨⟨by decide +kernel, by decide +kernel⟩, List.mem_of_getElem? (i := 1148) (by decide +kernel), List.mem_of_getElem? (i := 1596) (by decide +kernel), List.mem_of_getElem? (i := 1597) (by decide +kernel)⟩
def lw_privs_4 : List (MethodName × Nat) := [(⟨"StageFightsModel", "isDigit", "(I)Z"⟩, 41), (⟨"StageFightsModel", "key", "()I"⟩, 41), (⟨"StageFightsModel", "isWordAt", "(IIII)Z"⟩, 41), (⟨"StageFightsModel", "isLong", "(IIIIII)Z"⟩, 41), (⟨"StageFightsModel", "either", "(I)Z"⟩, 41), (⟨"StageFightsModel", "both", "(I)Z"⟩, 41), (⟨"StageFightsModel", "test", "(I)Z"⟩, 41), (⟨"StageFightsModel", "sum", "(I)Z"⟩, 41), (⟨"StageFightsModel", "term", "(I)Z"⟩, 41), (⟨"StageFightsModel", "part0", "(I)Z"⟩, 41), (⟨"StageFightsModel", "step", "(II)V"⟩, 41), (⟨"StageFightsModel", "isSign", "(I)Z"⟩, 41), (⟨"StageFightsModel", "isText", "(I)Z"⟩, 41), (⟨"StageFightsModel", "isTwo", "(II)Z"⟩, 41), (⟨"StageFightsModel", "needs", "(II)I"⟩, 41), (⟨"StageFightsModel", "hasBarred", "()Z"⟩, 41)]
theorem lw_r4 : ∀ q ∈ lw_privs_4, lw_okq q := List.forall_mem_cons.mpr ⟨lw_p48, List.forall_mem_cons.mpr ⟨lw_p49, List.forall_mem_cons.mpr ⟨lw_p50, List.forall_mem_cons.mpr ⟨lw_p51, List.forall_mem_cons.mpr ⟨lw_p52, List.forall_mem_cons.mpr ⟨lw_p53, List.forall_mem_cons.mpr ⟨lw_p54, List.forall_mem_cons.mpr ⟨lw_p55, List.forall_mem_cons.mpr ⟨lw_p56, List.forall_mem_cons.mpr ⟨lw_p57, List.forall_mem_cons.mpr ⟨lw_p58, List.forall_mem_cons.mpr ⟨lw_p59, List.forall_mem_cons.mpr ⟨lw_p60, List.forall_mem_cons.mpr ⟨lw_p61, List.forall_mem_cons.mpr ⟨lw_p62, List.forall_mem_cons.mpr ⟨lw_p63, fun _ h => absurd h List.not_mem_nil⟩⟩⟩⟩⟩⟩⟩⟩⟩⟩⟩⟩⟩⟩⟩⟩
theorem lw_p64 : lw_okq (⟨"StageFightsModel", "lacksHours", "()Z"⟩, 41) := ⟨⟨by decide +kernel, by decide +kernel⟩, List.mem_of_getElem? (i := 1148) (by decide +kernel), List.mem_of_getElem? (i := 1600) (by decide +kernel), List.mem_of_getElem? (i := 1601) (by decide +kernel)⟩
theorem lw_p65 : lw_okq (⟨"StageFightsModel", "choiceOf", "(I)I"⟩, 41) := ⟨⟨by decide +kernel, by decide +kernel⟩, List.mem_of_getElem? (i := 1148) (by decide +kernel), List.mem_of_getElem? (i := 1616) (by decide +kernel), List.mem_of_getElem? (i := 1617) (by decide +kernel)⟩
theorem lw_p66 : lw_okq (⟨"StageFightsModel", "shiftable", "()I"⟩, 41) := ⟨⟨by decide +kernel, by decide +kernel⟩, List.mem_of_getElem? (i := 1148) (by decide +kernel), List.mem_of_getElem? (i := 1625) (by decide +kernel), List.mem_of_getElem? (i := 1626) (by decide +kernel)⟩
theorem lw_p67 : lw_okq (⟨"StageFightsModel", "findShifts", "()V"⟩, 41) := ⟨⟨by decide +kernel, by decide +kernel⟩, List.mem_of_getElem? (i := 1148) (by decide +kernel), List.mem_of_getElem? (i := 1629) (by decide +kernel), List.mem_of_getElem? (i := 1630) (by decide +kernel)⟩
theorem lw_p68 : lw_okq (⟨"StageFightsModel", "holds", "(I)Z"⟩, 41) := ⟨⟨by decide +kernel, by decide +kernel⟩, List.mem_of_getElem? (i := 1148) (by decide +kernel), List.mem_of_getElem? (i := 1633) (by decide +kernel), List.mem_of_getElem? (i := 1634) (by decide +kernel)⟩
theorem lw_p69 : lw_okq (⟨"StageFightsModel", "isApart", "()Z"⟩, 41) := ⟨⟨by decide +kernel, by decide +kernel⟩, List.mem_of_getElem? (i := 1148) (by decide +kernel), List.mem_of_getElem? (i := 1637) (by decide +kernel), List.mem_of_getElem? (i := 1638) (by decide +kernel)⟩
theorem lw_p70 : lw_okq (⟨"StageFightsModel", "weaponAt", "(I)I"⟩, 41) := ⟨⟨by decide +kernel, by decide +kernel⟩, List.mem_of_getElem? (i := 1148) (by decide +kernel), List.mem_of_getElem? (i := 1649) (by decide +kernel), List.mem_of_getElem? (i := 1650) (by decide +kernel)⟩
theorem lw_p71 : lw_okq (⟨"StageFightsModel", "isWeapon", "(I)Z"⟩, 41) := ⟨⟨by decide +kernel, by decide +kernel⟩, List.mem_of_getElem? (i := 1148) (by decide +kernel), List.mem_of_getElem? (i := 1657) (by decide +kernel), List.mem_of_getElem? (i := 1658) (by decide +kernel)⟩
theorem lw_p72 : lw_okq (⟨"StageFightsModel", "oneShow", "()I"⟩, 41) := ⟨⟨by decide +kernel, by decide +kernel⟩, List.mem_of_getElem? (i := 1148) (by decide +kernel), List.mem_of_getElem? (i := 1678) (by decide +kernel), List.mem_of_getElem? (i := 1679) (by decide +kernel)⟩
theorem lw_p73 : lw_okq (⟨"StageFightsModel", "logs", "(II)V"⟩, 41) := ⟨⟨by decide +kernel, by decide +kernel⟩, List.mem_of_getElem? (i := 1148) (by decide +kernel), List.mem_of_getElem? (i := 1683) (by decide +kernel), List.mem_of_getElem? (i := 1684) (by decide +kernel)⟩
theorem lw_p74 : lw_okq (⟨"StageFightsModel", "tire", "()V"⟩, 41) := ⟨⟨by decide +kernel, by decide +kernel⟩, List.mem_of_getElem? (i := 1148) (by decide +kernel), List.mem_of_getElem? (i := 1687) (by decide +kernel), List.mem_of_getElem? (i := 1688) (by decide +kernel)⟩
theorem lw_p75 : lw_okq (⟨"StageFightsModel", "missesOf", "(I)I"⟩, 41) := ⟨⟨by decide +kernel, by decide +kernel⟩, List.mem_of_getElem? (i := 1148) (by decide +kernel), List.mem_of_getElem? (i := 1703) (by decide +kernel), List.mem_of_getElem? (i := 1704) (by decide +kernel)⟩
theorem lw_p76 : lw_okq (⟨"StageFightsModel", "setAside", "([I[I)V"⟩, 41) := ⟨⟨by decide +kernel, by decide +kernel⟩, List.mem_of_getElem? (i := 1148) (by decide +kernel), List.mem_of_getElem? (i := 1756) (by decide +kernel), List.mem_of_getElem? (i := 1757) (by decide +kernel)⟩
def lw_privs_5 : List (MethodName × Nat) := [(⟨"StageFightsModel", "lacksHours", "()Z"⟩, 41), (⟨"StageFightsModel", "choiceOf", "(I)I"⟩, 41), (⟨"StageFightsModel", "shiftable", "()I"⟩, 41), (⟨"StageFightsModel", "findShifts", "()V"⟩, 41), (⟨"StageFightsModel", "holds", "(I)Z"⟩, 41), (⟨"StageFightsModel", "isApart", "()Z"⟩, 41), (⟨"StageFightsModel", "weaponAt", "(I)I"⟩, 41), (⟨"StageFightsModel", "isWeapon", "(I)Z"⟩, 41), (⟨"StageFightsModel", "oneShow", "()I"⟩, 41), (⟨"StageFightsModel", "logs", "(II)V"⟩, 41), (⟨"StageFightsModel", "tire", "()V"⟩, 41), (⟨"StageFightsModel", "missesOf", "(I)I"⟩, 41), (⟨"StageFightsModel", "setAside", "([I[I)V"⟩, 41)]
theorem lw_r5 : ∀ q ∈ lw_privs_5, lw_okq q := List.forall_mem_cons.mpr ⟨lw_p64, List.forall_mem_cons.mpr ⟨lw_p65, List.forall_mem_cons.mpr ⟨lw_p66, List.forall_mem_cons.mpr ⟨lw_p67, List.forall_mem_cons.mpr ⟨lw_p68, List.forall_mem_cons.mpr ⟨lw_p69, List.forall_mem_cons.mpr ⟨lw_p70, List.forall_mem_cons.mpr ⟨lw_p71, List.forall_mem_cons.mpr ⟨lw_p72, List.forall_mem_cons.mpr ⟨lw_p73, List.forall_mem_cons.mpr ⟨lw_p74, List.forall_mem_cons.mpr ⟨lw_p75, List.forall_mem_cons.mpr ⟨lw_p76, fun _ h => absurd h List.not_mem_nil⟩⟩⟩⟩⟩⟩⟩⟩⟩⟩⟩⟩⟩
def lw_privs : List (MethodName × Nat) := lw_privs_1 ++ (lw_privs_2 ++ (lw_privs_3 ++ (lw_privs_4 ++ (lw_privs_5))))
def lw_tbl : List Cond := k2_sels lw_privs ++ tables_1
theorem lw_privs_ok : ∀ q ∈ lw_privs, lw_okq q := by
  show ∀ q ∈ lw_privs_1 ++ (lw_privs_2 ++ (lw_privs_3 ++ (lw_privs_4 ++ (lw_privs_5)))), lw_okq q
  exact List.forall_mem_append.mpr ⟨lw_r1, List.forall_mem_append.mpr ⟨lw_r2, List.forall_mem_append.mpr ⟨lw_r3, List.forall_mem_append.mpr ⟨lw_r4, lw_r5⟩⟩⟩⟩
/-! ===== BEGIN words of one list among another's, by their places ===== -/
theorem goodIn_r {big : List Cond} (ws : List Cond) (ps : List Nat) (hp : ws = ps.filterMap (fun i => big[i]?)) (h : ws.all goodWord = true) : GoodIn big ws := by
  intro w hw
  have h1 := List.all_eq_true.mp h w hw
  rw [hp] at hw
  obtain ⟨i, -, hi⟩ := List.mem_filterMap.mp hw
  have hm : w ∈ big := by first | exact List.mem_of_getElem? hi | exact List.getElem?_mem hi
  exact ⟨hm, good_of_word h1⟩
theorem goodIn_app {big a b : List Cond} (ha : GoodIn big a) (hb : GoodIn big b) : GoodIn big (a ++ b) := fun w h => (List.mem_append.mp h).elim (ha w) (hb w)
theorem goodIn_ca {big a b : List Cond} {c : Cond} (ha : GoodIn big (c :: a)) (hb : GoodIn big b) : GoodIn big (c :: (a ++ b)) := fun w h => (List.mem_cons.mp h).elim (fun e => ha w (List.mem_cons.mpr (Or.inl e))) (fun h => (List.mem_append.mp h).elim (fun h => ha w (List.mem_cons.mpr (Or.inr h))) (hb w))
theorem goodIn_sub {big ws : List Cond} (hm : ∀ w ∈ ws, w ∈ big) (h : ws.all goodWord = true) : GoodIn big ws := fun w hw => ⟨hm w hw, good_of_word (List.all_eq_true.mp h w hw)⟩
/-! ===== END ===== -/

/-! ===== BEGIN printed: names, fields, word lists, decode rows ===== -/
def RX0 : String := "StageFights$Log"
def TX0 : u_T := fun k => match k with
  | 0 => ("StageFights$Log", "cells", "[I", true)
  | 1 => ("StageFights$Log", "misses", "[I", true)
  | _ => ("StageFights$Log", "size", "I", false)
def tyX0 : Nat → FieldType := fun k => match k with
  | 0 => .array .int
  | 1 => .array .int
  | _ => .int
abbrev wsX00 : List Cond := u_ws RX0 TX0 3
theorem nmX0 : ∀ a, a < 3 → ∀ b, b < 3 → a ≠ b → (TX0 a).2.1 ≠ (TX0 b).2.1 := by decide +kernel
theorem tyX0_ok : ∀ k, k < 3 → parseFieldDescriptor (TX0 k).2.2.1 = some (tyX0 k) := by decide +kernel
abbrev cX0_init : ByteArray := prog_2_method_1_code
def yX0_init : MethodName := ⟨RX0, "<init>", "()V"⟩
abbrev cX0_add : ByteArray := prog_2_method_2_code
def yX0_add : MethodName := ⟨RX0, "add", "(III)V"⟩
abbrev cX0_takeFrom : ByteArray := prog_2_method_3_code
def yX0_takeFrom : MethodName := ⟨RX0, "takeFrom", "(LStageFights$Log;)V"⟩
abbrev cX0_mostMissed : ByteArray := prog_2_method_4_code
def yX0_mostMissed : MethodName := ⟨RX0, "mostMissed", "()I"⟩
def RX1 : String := "StageFights$Move"
def TX1 : u_T := fun k => match k with
  | 0 => ("StageFights$Move", "person", "I", false)
  | 1 => ("StageFights$Move", "kind", "I", false)
  | 2 => ("StageFights$Move", "beat", "I", false)
  | 3 => ("StageFights$Move", "length", "I", false)
  | 4 => ("StageFights$Move", "to", "I", false)
  | 5 => ("StageFights$Move", "aim", "I", false)
  | 6 => ("StageFights$Move", "span", "I", false)
  | _ => ("StageFights$Move", "cut", "Z", false)
def tyX1 : Nat → FieldType := fun k => match k with
  | 0 => .int
  | 1 => .int
  | 2 => .int
  | 3 => .int
  | 4 => .int
  | 5 => .int
  | 6 => .int
  | _ => .boolean
abbrev wsX10 : List Cond := u_ws RX1 TX1 8
theorem nmX1 : ∀ a, a < 8 → ∀ b, b < 8 → a ≠ b → (TX1 a).2.1 ≠ (TX1 b).2.1 := by decide +kernel
theorem tyX1_ok : ∀ k, k < 8 → parseFieldDescriptor (TX1 k).2.2.1 = some (tyX1 k) := by decide +kernel
abbrev cX1_init : ByteArray := prog_3_method_1_code
def yX1_init : MethodName := ⟨RX1, "<init>", "()V"⟩
abbrev cX1_become : ByteArray := prog_3_method_2_code
def yX1_become : MethodName := ⟨RX1, "become", "(IIIII)V"⟩
abbrev cX1_takeFrom : ByteArray := prog_3_method_3_code
def yX1_takeFrom : MethodName := ⟨RX1, "takeFrom", "(LStageFights$Move;)V"⟩
abbrev cX1_part : ByteArray := prog_3_method_4_code
def yX1_part : MethodName := ⟨RX1, "part", "(I)I"⟩
abbrev cX1_isBlow : ByteArray := prog_3_method_5_code
def yX1_isBlow : MethodName := ⟨RX1, "isBlow", "()Z"⟩
abbrev cX1_isBlowToDo : ByteArray := prog_3_method_6_code
def yX1_isBlowToDo : MethodName := ⟨RX1, "isBlowToDo", "()Z"⟩
abbrev cX1_goesOn : ByteArray := prog_3_method_7_code
def yX1_goesOn : MethodName := ⟨RX1, "goesOn", "()Z"⟩
abbrev cX1_becomeCut : ByteArray := prog_3_method_8_code
def yX1_becomeCut : MethodName := ⟨RX1, "becomeCut", "(Z)Z"⟩
abbrev cX1_sharesBeat : ByteArray := prog_3_method_9_code
def yX1_sharesBeat : MethodName := ⟨RX1, "sharesBeat", "(LStageFights$Move;)Z"⟩
abbrev cX1_spanTo : ByteArray := prog_3_method_10_code
def yX1_spanTo : MethodName := ⟨RX1, "spanTo", "(I)I"⟩
def RX2 : String := "StageFights$Person"
def TX2 : u_T := fun k => match k with
  | 0 => ("StageFights$Person", "start", "I", false)
  | 1 => ("StageFights$Person", "skill", "I", false)
  | _ => ("StageFights$Person", "tired", "I", false)
def tyX2 : Nat → FieldType := fun k => match k with
  | 0 => .int
  | 1 => .int
  | _ => .int
abbrev wsX20 : List Cond := u_ws RX2 TX2 3
theorem nmX2 : ∀ a, a < 3 → ∀ b, b < 3 → a ≠ b → (TX2 a).2.1 ≠ (TX2 b).2.1 := by decide +kernel
theorem tyX2_ok : ∀ k, k < 3 → parseFieldDescriptor (TX2 k).2.2.1 = some (tyX2 k) := by decide +kernel
abbrev cX2_init : ByteArray := prog_4_method_1_code
def yX2_init : MethodName := ⟨RX2, "<init>", "()V"⟩
abbrev cX2_takeFrom : ByteArray := prog_4_method_2_code
def yX2_takeFrom : MethodName := ⟨RX2, "takeFrom", "(LStageFights$Person;)V"⟩
def RX3 : String := "StageFights$Reader"
def TX3 : u_T := fun k => match k with
  | 0 => ("StageFights$Reader", "tape", "[B", true)
  | 1 => ("StageFights$Reader", "code", "[I", true)
  | 2 => ("StageFights$Reader", "length", "I", false)
  | 3 => ("StageFights$Reader", "end", "I", false)
  | 4 => ("StageFights$Reader", "found", "I", false)
  | 5 => ("StageFights$Reader", "key", "I", false)
  | 6 => ("StageFights$Reader", "steps", "I", false)
  | 7 => ("StageFights$Reader", "leaves", "I", false)
  | _ => ("StageFights$Reader", "at", "I", false)
def tyX3 : Nat → FieldType := fun k => match k with
  | 0 => .array .byte
  | 1 => .array .int
  | 2 => .int
  | 3 => .int
  | 4 => .int
  | 5 => .int
  | 6 => .int
  | 7 => .int
  | _ => .int
abbrev wsX30 : List Cond := u_ws RX3 TX3 9
theorem nmX3 : ∀ a, a < 9 → ∀ b, b < 9 → a ≠ b → (TX3 a).2.1 ≠ (TX3 b).2.1 := by decide +kernel
theorem tyX3_ok : ∀ k, k < 9 → parseFieldDescriptor (TX3 k).2.2.1 = some (tyX3 k) := by decide +kernel
abbrev cX3_init : ByteArray := prog_5_method_1_code
def yX3_init : MethodName := ⟨RX3, "<init>", "([B)V"⟩
abbrev cX3_read : ByteArray := prog_5_method_2_code
def yX3_read : MethodName := ⟨RX3, "read", "(I)LStageFights$Text;"⟩
abbrev cX3_goOn : ByteArray := prog_5_method_3_code
def yX3_goOn : MethodName := ⟨RX3, "goOn", "()V"⟩
abbrev cX3_foundAt : ByteArray := prog_5_method_4_code
def yX3_foundAt : MethodName := ⟨RX3, "foundAt", "(I)I"⟩
abbrev cX3_keyHere : ByteArray := prog_5_method_5_code
def yX3_keyHere : MethodName := ⟨RX3, "keyHere", "()I"⟩
abbrev cX3_isHere : ByteArray := prog_5_method_6_code
def yX3_isHere : MethodName := ⟨RX3, "isHere", "(Ljava/lang/String;)Z"⟩
abbrev cX3_tier : ByteArray := prog_5_method_7_code
def yX3_tier : MethodName := ⟨RX3, "tier", "(III)Z"⟩
abbrev cX3_isJoinOf : ByteArray := prog_5_method_8_code
def yX3_isJoinOf : MethodName := ⟨RX3, "isJoinOf", "(I)Z"⟩
abbrev cX3_piece : ByteArray := prog_5_method_9_code
def yX3_piece : MethodName := ⟨RX3, "piece", "(II)Z"⟩
abbrev cX3_isSign : ByteArray := prog_5_method_10_code
def yX3_isSign : MethodName := ⟨RX3, "isSign", "(C)Z"⟩
abbrev cX3_numberHere : ByteArray := prog_5_method_11_code
def yX3_numberHere : MethodName := ⟨RX3, "numberHere", "()I"⟩
abbrev cX3_nameHere : ByteArray := prog_5_method_12_code
def yX3_nameHere : MethodName := ⟨RX3, "nameHere", "()I"⟩
abbrev cX3_note : ByteArray := prog_5_method_13_code
def yX3_note : MethodName := ⟨RX3, "note", "(I)V"⟩
def RX4 : String := "StageFights$Scene"
def TX4 : u_T := fun k => match k with
  | 0 => ("StageFights$Scene", "people", "[LStageFights$Person;", true)
  | 1 => ("StageFights$Scene", "moves", "[LStageFights$Move;", true)
  | 2 => ("StageFights$Scene", "signPerson", "[I", true)
  | 3 => ("StageFights$Scene", "signBeat", "[I", true)
  | 4 => ("StageFights$Scene", "texts", "[LStageFights$Text;", true)
  | 5 => ("StageFights$Scene", "practised", "[I", true)
  | 6 => ("StageFights$Scene", "chosen", "[I", true)
  | 7 => ("StageFights$Scene", "wear", "[I", true)
  | 8 => ("StageFights$Scene", "holder", "[I", true)
  | 9 => ("StageFights$Scene", "log", "LStageFights$Log;", true)
  | 10 => ("StageFights$Scene", "peopleCount", "I", false)
  | 11 => ("StageFights$Scene", "moveCount", "I", false)
  | 12 => ("StageFights$Scene", "signCount", "I", false)
  | 13 => ("StageFights$Scene", "textCount", "I", false)
  | 14 => ("StageFights$Scene", "chosenCount", "I", false)
  | 15 => ("StageFights$Scene", "weaponCount", "I", false)
  | 16 => ("StageFights$Scene", "wet", "I", false)
  | 17 => ("StageFights$Scene", "shows", "I", false)
  | _ => ("StageFights$Scene", "z", "I", false)
def tyX4 : Nat → FieldType := fun k => match k with
  | 0 => .array (.object "StageFights$Person")
  | 1 => .array (.object "StageFights$Move")
  | 2 => .array .int
  | 3 => .array .int
  | 4 => .array (.object "StageFights$Text")
  | 5 => .array .int
  | 6 => .array .int
  | 7 => .array .int
  | 8 => .array .int
  | 9 => .object "StageFights$Log"
  | 10 => .int
  | 11 => .int
  | 12 => .int
  | 13 => .int
  | 14 => .int
  | 15 => .int
  | 16 => .int
  | 17 => .int
  | _ => .int
abbrev wsX40 : List Cond := u_ws RX4 TX4 19
theorem nmX4 : ∀ a, a < 19 → ∀ b, b < 19 → a ≠ b → (TX4 a).2.1 ≠ (TX4 b).2.1 := by decide +kernel
theorem tyX4_ok : ∀ k, k < 19 → parseFieldDescriptor (TX4 k).2.2.1 = some (tyX4 k) := by decide +kernel
abbrev cX4_init : ByteArray := prog_6_method_1_code
def yX4_init : MethodName := ⟨RX4, "<init>", "()V"⟩
abbrev cX4_takeFrom : ByteArray := prog_6_method_2_code
def yX4_takeFrom : MethodName := ⟨RX4, "takeFrom", "(LStageFights$Scene;)V"⟩
abbrev cX4_hasPerson : ByteArray := prog_6_method_3_code
def yX4_hasPerson : MethodName := ⟨RX4, "hasPerson", "(I)Z"⟩
abbrev cX4_hasMove : ByteArray := prog_6_method_4_code
def yX4_hasMove : MethodName := ⟨RX4, "hasMove", "(I)Z"⟩
abbrev cX4_hasWeapon : ByteArray := prog_6_method_5_code
def yX4_hasWeapon : MethodName := ⟨RX4, "hasWeapon", "(I)Z"⟩
abbrev cX4_areTwo : ByteArray := prog_6_method_6_code
def yX4_areTwo : MethodName := ⟨RX4, "areTwo", "(II)Z"⟩
abbrev cX4_addPerson : ByteArray := prog_6_method_7_code
def yX4_addPerson : MethodName := ⟨RX4, "addPerson", "(II)I"⟩
abbrev cX4_tiredTogether : ByteArray := prog_6_method_8_code
def yX4_tiredTogether : MethodName := ⟨RX4, "tiredTogether", "()I"⟩
abbrev cX4_cutMoves : ByteArray := prog_6_method_9_code
def yX4_cutMoves : MethodName := ⟨RX4, "cutMoves", "()I"⟩
abbrev cX4_blows : ByteArray := prog_6_method_10_code
def yX4_blows : MethodName := ⟨RX4, "blows", "()I"⟩
abbrev cX4_meetsAnother : ByteArray := prog_6_method_11_code
def yX4_meetsAnother : MethodName := ⟨RX4, "meetsAnother", "(I)Z"⟩
abbrev cX4_nextGoing : ByteArray := prog_6_method_12_code
def yX4_nextGoing : MethodName := ⟨RX4, "nextGoing", "(II)LStageFights$Move;"⟩
abbrev cX4_unreadyBlows : ByteArray := prog_6_method_13_code
def yX4_unreadyBlows : MethodName := ⟨RX4, "unreadyBlows", "()I"⟩
abbrev cX4_isUnready : ByteArray := prog_6_method_14_code
def yX4_isUnready : MethodName := ⟨RX4, "isUnready", "(LStageFights$Move;)Z"⟩
abbrev cX4_lawOf : ByteArray := prog_6_method_15_code
def yX4_lawOf : MethodName := ⟨RX4, "lawOf", "(I)LStageFights$Text;"⟩
abbrev cX4_lateOf : ByteArray := prog_6_method_16_code
def yX4_lateOf : MethodName := ⟨RX4, "lateOf", "(I)I"⟩
abbrev cX4_isBarred : ByteArray := prog_6_method_17_code
def yX4_isBarred : MethodName := ⟨RX4, "isBarred", "(LStageFights$Move;)Z"⟩
abbrev cX4_hasBarred : ByteArray := prog_6_method_18_code
def yX4_hasBarred : MethodName := ⟨RX4, "hasBarred", "()Z"⟩
abbrev cX4_hoursNeeded : ByteArray := prog_6_method_19_code
def yX4_hoursNeeded : MethodName := ⟨RX4, "hoursNeeded", "(II)I"⟩
abbrev cX4_lacksHours : ByteArray := prog_6_method_20_code
def yX4_lacksHours : MethodName := ⟨RX4, "lacksHours", "()Z"⟩
abbrev cX4_chosenPlace : ByteArray := prog_6_method_21_code
def yX4_chosenPlace : MethodName := ⟨RX4, "chosenPlace", "(I)I"⟩
abbrev cX4_isDull : ByteArray := prog_6_method_22_code
def yX4_isDull : MethodName := ⟨RX4, "isDull", "(I)Z"⟩
abbrev cX4_weaponOf : ByteArray := prog_6_method_23_code
def yX4_weaponOf : MethodName := ⟨RX4, "weaponOf", "(I)I"⟩
abbrev cX4_weaponsOut : ByteArray := prog_6_method_24_code
def yX4_weaponsOut : MethodName := ⟨RX4, "weaponsOut", "()I"⟩
abbrev cX4_endShow : ByteArray := prog_6_method_25_code
def yX4_endShow : MethodName := ⟨RX4, "endShow", "()V"⟩
abbrev cX4_tireAndWear : ByteArray := prog_6_method_26_code
def yX4_tireAndWear : MethodName := ⟨RX4, "tireAndWear", "(I)V"⟩
def RX5 : String := "StageFights$Sheet"
def TX5 : u_T := fun k => match k with
  | 0 => ("StageFights$Sheet", "cells", "[B", true)
  | 1 => ("StageFights$Sheet", "sort", "I", false)
  | _ => ("StageFights$Sheet", "size", "I", false)
def tyX5 : Nat → FieldType := fun k => match k with
  | 0 => .array .byte
  | 1 => .int
  | _ => .int
abbrev wsX50 : List Cond := u_ws RX5 TX5 3
theorem nmX5 : ∀ a, a < 3 → ∀ b, b < 3 → a ≠ b → (TX5 a).2.1 ≠ (TX5 b).2.1 := by decide +kernel
theorem tyX5_ok : ∀ k, k < 3 → parseFieldDescriptor (TX5 k).2.2.1 = some (tyX5 k) := by decide +kernel
abbrev cX5_init : ByteArray := prog_7_method_1_code
def yX5_init : MethodName := ⟨RX5, "<init>", "()V"⟩
abbrev cX5_isMissing : ByteArray := prog_7_method_2_code
def yX5_isMissing : MethodName := ⟨RX5, "isMissing", "()Z"⟩
abbrev cX5_become : ByteArray := prog_7_method_3_code
def yX5_become : MethodName := ⟨RX5, "become", "(II)V"⟩
abbrev cX5_takeFrom : ByteArray := prog_7_method_4_code
def yX5_takeFrom : MethodName := ⟨RX5, "takeFrom", "(LStageFights$Sheet;)V"⟩
abbrev cX5_hasPlace : ByteArray := prog_7_method_5_code
def yX5_hasPlace : MethodName := ⟨RX5, "hasPlace", "(I)Z"⟩
abbrev cX5_hasPlaces : ByteArray := prog_7_method_6_code
def yX5_hasPlaces : MethodName := ⟨RX5, "hasPlaces", "(II)Z"⟩
abbrev cX5_put : ByteArray := prog_7_method_7_code
def yX5_put : MethodName := ⟨RX5, "put", "(II)V"⟩
def RX6 : String := "StageFights$Shifter"
def TX6 : u_T := fun k => match k with
  | 0 => ("StageFights$Shifter", "trial", "LStageFights$Scene;", true)
  | 1 => ("StageFights$Shifter", "stage", "LStageFights$Stage;", true)
  | 2 => ("StageFights$Shifter", "beats", "[I", true)
  | 3 => ("StageFights$Shifter", "many", "I", false)
  | 4 => ("StageFights$Shifter", "broken", "I", false)
  | _ => ("StageFights$Shifter", "by", "[I", true)
def tyX6 : Nat → FieldType := fun k => match k with
  | 0 => .object "StageFights$Scene"
  | 1 => .object "StageFights$Stage"
  | 2 => .array .int
  | 3 => .int
  | 4 => .int
  | _ => .array .int
abbrev wsX60 : List Cond := u_ws RX6 TX6 6
theorem nmX6 : ∀ a, a < 6 → ∀ b, b < 6 → a ≠ b → (TX6 a).2.1 ≠ (TX6 b).2.1 := by decide +kernel
theorem tyX6_ok : ∀ k, k < 6 → parseFieldDescriptor (TX6 k).2.2.1 = some (tyX6 k) := by decide +kernel
abbrev cX6_init : ByteArray := prog_8_method_1_code
def yX6_init : MethodName := ⟨RX6, "<init>", "(LStageFights$Scene;LStageFights$Stage;)V"⟩
abbrev cX6_seek : ByteArray := prog_8_method_2_code
def yX6_seek : MethodName := ⟨RX6, "seek", "(LStageFights$Scene;)I"⟩
abbrev cX6_moveOn : ByteArray := prog_8_method_3_code
def yX6_moveOn : MethodName := ⟨RX6, "moveOn", "(LStageFights$Scene;)V"⟩
abbrev cX6_isToTry : ByteArray := prog_8_method_4_code
def yX6_isToTry : MethodName := ⟨RX6, "isToTry", "(III)Z"⟩
abbrev cX6_stands : ByteArray := prog_8_method_5_code
def yX6_stands : MethodName := ⟨RX6, "stands", "()Z"⟩
def RX7 : String := "StageFights$Slot"
def TX7 : u_T := fun k => match k with
  | 0 => ("StageFights$Slot", "row", "LStageFights$Sheet;", true)
  | 1 => ("StageFights$Slot", "thing", "I", false)
  | 2 => ("StageFights$Slot", "kind", "I", false)
  | _ => ("StageFights$Slot", "number", "I", false)
def tyX7 : Nat → FieldType := fun k => match k with
  | 0 => .object "StageFights$Sheet"
  | 1 => .int
  | 2 => .int
  | _ => .int
abbrev wsX70 : List Cond := u_ws RX7 TX7 4
theorem nmX7 : ∀ a, a < 4 → ∀ b, b < 4 → a ≠ b → (TX7 a).2.1 ≠ (TX7 b).2.1 := by decide +kernel
theorem tyX7_ok : ∀ k, k < 4 → parseFieldDescriptor (TX7 k).2.2.1 = some (tyX7 k) := by decide +kernel
abbrev cX7_init : ByteArray := prog_9_method_1_code
def yX7_init : MethodName := ⟨RX7, "<init>", "()V"⟩
abbrev cX7_findingOn : ByteArray := prog_9_method_2_code
def yX7_findingOn : MethodName := ⟨RX7, "findingOn", "(I)I"⟩
def RX8 : String := "StageFights$Stage"
def TX8 : u_T := fun k => match k with
  | 0 => ("StageFights$Stage", "xs", "[I", true)
  | 1 => ("StageFights$Stage", "ys", "[I", true)
  | 2 => ("StageFights$Stage", "lates", "[I", true)
  | 3 => ("StageFights$Stage", "drawn", "[I", true)
  | _ => ("StageFights$Stage", "scene", "LStageFights$Scene;", false)
def tyX8 : Nat → FieldType := fun k => match k with
  | 0 => .array .int
  | 1 => .array .int
  | 2 => .array .int
  | 3 => .array .int
  | _ => .object "StageFights$Scene"
abbrev wsX80 : List Cond := u_ws RX8 TX8 5
theorem nmX8 : ∀ a, a < 5 → ∀ b, b < 5 → a ≠ b → (TX8 a).2.1 ≠ (TX8 b).2.1 := by decide +kernel
theorem tyX8_ok : ∀ k, k < 5 → parseFieldDescriptor (TX8 k).2.2.1 = some (tyX8 k) := by decide +kernel
abbrev cX8_init : ByteArray := prog_10_method_1_code
def yX8_init : MethodName := ⟨RX8, "<init>", "(LStageFights$Scene;)V"⟩
abbrev cX8_look : ByteArray := prog_10_method_2_code
def yX8_look : MethodName := ⟨RX8, "look", "(LStageFights$Scene;)V"⟩
abbrev cX8_trace : ByteArray := prog_10_method_3_code
def yX8_trace : MethodName := ⟨RX8, "trace", "(I)V"⟩
abbrev cX8_stay : ByteArray := prog_10_method_4_code
def yX8_stay : MethodName := ⟨RX8, "stay", "(IIII)V"⟩
abbrev cX8_go : ByteArray := prog_10_method_5_code
def yX8_go : MethodName := ⟨RX8, "go", "(LStageFights$Move;I)V"⟩
abbrev cX8_spotAt : ByteArray := prog_10_method_6_code
def yX8_spotAt : MethodName := ⟨RX8, "spotAt", "(II)I"⟩
abbrev cX8_placeAt : ByteArray := prog_10_method_7_code
def yX8_placeAt : MethodName := ⟨RX8, "placeAt", "(II)I"⟩
abbrev cX8_leastGap : ByteArray := prog_10_method_8_code
def yX8_leastGap : MethodName := ⟨RX8, "leastGap", "(LStageFights$Move;III)I"⟩
abbrev cX8_gapTo : ByteArray := prog_10_method_9_code
def yX8_gapTo : MethodName := ⟨RX8, "gapTo", "(LStageFights$Move;I)I"⟩
abbrev cX8_tooNearTo : ByteArray := prog_10_method_10_code
def yX8_tooNearTo : MethodName := ⟨RX8, "tooNearTo", "(LStageFights$Move;)I"⟩
abbrev cX8_firstBreach : ByteArray := prog_10_method_11_code
def yX8_firstBreach : MethodName := ⟨RX8, "firstBreach", "()I"⟩
abbrev cX8_isSeen : ByteArray := prog_10_method_12_code
def yX8_isSeen : MethodName := ⟨RX8, "isSeen", "(LStageFights$Move;)Z"⟩
abbrev cX8_play : ByteArray := prog_10_method_13_code
def yX8_play : MethodName := ⟨RX8, "play", "()I"⟩
abbrev cX8_missesOf : ByteArray := prog_10_method_14_code
def yX8_missesOf : MethodName := ⟨RX8, "missesOf", "(I)I"⟩
def RX9 : String := "StageFights$Text"
def TX9 : u_T := fun k => match k with
  | 0 => ("StageFights$Text", "key", "I", true)
  | 1 => ("StageFights$Text", "leaves", "I", true)
  | 2 => ("StageFights$Text", "code", "[I", true)
  | _ => ("StageFights$Text", "stack", "[I", true)
def tyX9 : Nat → FieldType := fun k => match k with
  | 0 => .int
  | 1 => .int
  | 2 => .array .int
  | _ => .array .int
abbrev wsX90 : List Cond := u_ws RX9 TX9 4
theorem nmX9 : ∀ a, a < 4 → ∀ b, b < 4 → a ≠ b → (TX9 a).2.1 ≠ (TX9 b).2.1 := by decide +kernel
theorem tyX9_ok : ∀ k, k < 4 → parseFieldDescriptor (TX9 k).2.2.1 = some (tyX9 k) := by decide +kernel
abbrev cX9_init : ByteArray := prog_11_method_1_code
def yX9_init : MethodName := ⟨RX9, "<init>", "(II[I)V"⟩
abbrev cX9_value : ByteArray := prog_11_method_2_code
def yX9_value : MethodName := ⟨RX9, "value", "(IIII)I"⟩
abbrev cX9_named : ByteArray := prog_11_method_3_code
def yX9_named : MethodName := ⟨RX9, "named", "(IIIII)I"⟩
abbrev cX9_joined : ByteArray := prog_11_method_4_code
def yX9_joined : MethodName := ⟨RX9, "joined", "(III)I"⟩
def RX10 : String := "StageFights"
def TX10 : u_T := fun k => match k with
  | 0 => ("StageFights", "now", "LStageFights$Scene;", true)
  | 1 => ("StageFights", "image", "LStageFights$Scene;", true)
  | 2 => ("StageFights", "trial", "LStageFights$Scene;", true)
  | 3 => ("StageFights", "stage", "LStageFights$Stage;", true)
  | 4 => ("StageFights", "shifter", "LStageFights$Shifter;", true)
  | 5 => ("StageFights", "tape", "[B", true)
  | 6 => ("StageFights", "reader", "LStageFights$Reader;", true)
  | 7 => ("StageFights", "waiting", "[I", true)
  | 8 => ("StageFights", "sheets", "[LStageFights$Sheet;", true)
  | 9 => ("StageFights", "slots", "[LStageFights$Slot;", true)
  | 10 => ("StageFights", "tapeLength", "I", false)
  | 11 => ("StageFights", "waitingCount", "I", false)
  | _ => ("StageFights", "imageKept", "Z", false)
def tyX10 : Nat → FieldType := fun k => match k with
  | 0 => .object "StageFights$Scene"
  | 1 => .object "StageFights$Scene"
  | 2 => .object "StageFights$Scene"
  | 3 => .object "StageFights$Stage"
  | 4 => .object "StageFights$Shifter"
  | 5 => .array .byte
  | 6 => .object "StageFights$Reader"
  | 7 => .array .int
  | 8 => .array (.object "StageFights$Sheet")
  | 9 => .array (.object "StageFights$Slot")
  | 10 => .int
  | 11 => .int
  | _ => .boolean
abbrev wsX100 : List Cond := u_ws RX10 TX10 13
theorem nmX10 : ∀ a, a < 13 → ∀ b, b < 13 → a ≠ b → (TX10 a).2.1 ≠ (TX10 b).2.1 := by decide +kernel
theorem tyX10_ok : ∀ k, k < 13 → parseFieldDescriptor (TX10 k).2.2.1 = some (tyX10 k) := by decide +kernel
abbrev cX10_init : ByteArray := prog_1_method_1_code
def yX10_init : MethodName := ⟨RX10, "<init>", "()V"⟩
abbrev cX10_person : ByteArray := prog_1_method_2_code
def yX10_person : MethodName := ⟨RX10, "person", "(II)I"⟩
abbrev cX10_told : ByteArray := prog_1_method_3_code
def yX10_told : MethodName := ⟨RX10, "told", "(II)I"⟩
abbrev cX10_set : ByteArray := prog_1_method_4_code
def yX10_set : MethodName := ⟨RX10, "set", "(III)I"⟩
abbrev cX10_move : ByteArray := prog_1_method_5_code
def yX10_move : MethodName := ⟨RX10, "move", "(IIIII)I"⟩
abbrev cX10_of : ByteArray := prog_1_method_6_code
def yX10_of : MethodName := ⟨RX10, "of", "(II)I"⟩
abbrev cX10_as : ByteArray := prog_1_method_7_code
def yX10_as : MethodName := ⟨RX10, "as", "(II)I"⟩
abbrev cX10_cut : ByteArray := prog_1_method_8_code
def yX10_cut : MethodName := ⟨RX10, "cut", "(IZ)I"⟩
abbrev cX10_wet : ByteArray := prog_1_method_9_code
def yX10_wet : MethodName := ⟨RX10, "wet", "(I)I"⟩
abbrev cX10_where : ByteArray := prog_1_method_10_code
def yX10_where : MethodName := ⟨RX10, "where", "(II)I"⟩
abbrev cX10_gap : ByteArray := prog_1_method_11_code
def yX10_gap : MethodName := ⟨RX10, "gap", "(II)I"⟩
abbrev cX10_keeps : ByteArray := prog_1_method_12_code
def yX10_keeps : MethodName := ⟨RX10, "keeps", "(I)I"⟩
abbrev cX10_breach : ByteArray := prog_1_method_13_code
def yX10_breach : MethodName := ⟨RX10, "breach", "(I)I"⟩
abbrev cX10_sign : ByteArray := prog_1_method_14_code
def yX10_sign : MethodName := ⟨RX10, "sign", "(II)I"⟩
abbrev cX10_unready : ByteArray := prog_1_method_15_code
def yX10_unready : MethodName := ⟨RX10, "unready", "(I)I"⟩
abbrev cX10_seen : ByteArray := prog_1_method_16_code
def yX10_seen : MethodName := ⟨RX10, "seen", "(I)I"⟩
abbrev cX10_story : ByteArray := prog_1_method_17_code
def yX10_story : MethodName := ⟨RX10, "story", "()I"⟩
abbrev cX10_feed : ByteArray := prog_1_method_18_code
def yX10_feed : MethodName := ⟨RX10, "feed", "(III)I"⟩
abbrev cX10_trim : ByteArray := prog_1_method_19_code
def yX10_trim : MethodName := ⟨RX10, "trim", "(I)I"⟩
abbrev cX10_text : ByteArray := prog_1_method_20_code
def yX10_text : MethodName := ⟨RX10, "text", "()I"⟩
abbrev cX10_textTold : ByteArray := prog_1_method_21_code
def yX10_textTold : MethodName := ⟨RX10, "textTold", "(II)I"⟩
abbrev cX10_hours : ByteArray := prog_1_method_22_code
def yX10_hours : MethodName := ⟨RX10, "hours", "(III)I"⟩
abbrev cX10_practise : ByteArray := prog_1_method_23_code
def yX10_practise : MethodName := ⟨RX10, "practise", "(III)I"⟩
abbrev cX10_may : ByteArray := prog_1_method_24_code
def yX10_may : MethodName := ⟨RX10, "may", "()I"⟩
abbrev cX10_choose : ByteArray := prog_1_method_25_code
def yX10_choose : MethodName := ⟨RX10, "choose", "(I)I"⟩
abbrev cX10_clear : ByteArray := prog_1_method_26_code
def yX10_clear : MethodName := ⟨RX10, "clear", "()I"⟩
abbrev cX10_understudy : ByteArray := prog_1_method_27_code
def yX10_understudy : MethodName := ⟨RX10, "understudy", "(III)I"⟩
abbrev cX10_shifts : ByteArray := prog_1_method_28_code
def yX10_shifts : MethodName := ⟨RX10, "shifts", "(I)I"⟩
abbrev cX10_shift : ByteArray := prog_1_method_29_code
def yX10_shift : MethodName := ⟨RX10, "shift", "()I"⟩
abbrev cX10_weapon : ByteArray := prog_1_method_30_code
def yX10_weapon : MethodName := ⟨RX10, "weapon", "()I"⟩
abbrev cX10_out : ByteArray := prog_1_method_31_code
def yX10_out : MethodName := ⟨RX10, "out", "(II)I"⟩
abbrev cX10_in : ByteArray := prog_1_method_32_code
def yX10_in : MethodName := ⟨RX10, "in", "(I)I"⟩
abbrev cX10_wear : ByteArray := prog_1_method_33_code
def yX10_wear : MethodName := ⟨RX10, "wear", "(II)I"⟩
abbrev cX10_seed : ByteArray := prog_1_method_34_code
def yX10_seed : MethodName := ⟨RX10, "seed", "(I)I"⟩
abbrev cX10_show : ByteArray := prog_1_method_35_code
def yX10_show : MethodName := ⟨RX10, "show", "(I)I"⟩
abbrev cX10_restAll : ByteArray := prog_1_method_36_code
def yX10_restAll : MethodName := ⟨RX10, "restAll", "()I"⟩
abbrev cX10_log : ByteArray := prog_1_method_37_code
def yX10_log : MethodName := ⟨RX10, "log", "(II)I"⟩
abbrev cX10_led : ByteArray := prog_1_method_38_code
def yX10_led : MethodName := ⟨RX10, "led", "()I"⟩
abbrev cX10_sheet : ByteArray := prog_1_method_39_code
def yX10_sheet : MethodName := ⟨RX10, "sheet", "(III)I"⟩
abbrev cX10_mark : ByteArray := prog_1_method_40_code
def yX10_mark : MethodName := ⟨RX10, "mark", "(III)I"⟩
abbrev cX10_cuts : ByteArray := prog_1_method_41_code
def yX10_cuts : MethodName := ⟨RX10, "cuts", "(I)I"⟩
abbrev cX10_copy : ByteArray := prog_1_method_42_code
def yX10_copy : MethodName := ⟨RX10, "copy", "(IIIII)I"⟩
abbrev cX10_lay : ByteArray := prog_1_method_43_code
def yX10_lay : MethodName := ⟨RX10, "lay", "(III)I"⟩
abbrev cX10_ask : ByteArray := prog_1_method_44_code
def yX10_ask : MethodName := ⟨RX10, "ask", "(II)I"⟩
abbrev cX10_item : ByteArray := prog_1_method_45_code
def yX10_item : MethodName := ⟨RX10, "item", "(II)I"⟩
abbrev cX10_rest : ByteArray := prog_1_method_46_code
def yX10_rest : MethodName := ⟨RX10, "rest", "(II)I"⟩
abbrev cX10_tell : ByteArray := prog_1_method_47_code
def yX10_tell : MethodName := ⟨RX10, "tell", "(I)I"⟩
abbrev cX10_check : ByteArray := prog_1_method_48_code
def yX10_check : MethodName := ⟨RX10, "check", "(I)I"⟩
abbrev cX10_keep : ByteArray := prog_1_method_49_code
def yX10_keep : MethodName := ⟨RX10, "keep", "()I"⟩
abbrev cX10_back : ByteArray := prog_1_method_50_code
def yX10_back : MethodName := ⟨RX10, "back", "()I"⟩
abbrev cX10_count : ByteArray := prog_1_method_51_code
def yX10_count : MethodName := ⟨RX10, "count", "(I)I"⟩
abbrev cX10_refusalOfBlow : ByteArray := prog_1_method_52_code
def yX10_refusalOfBlow : MethodName := ⟨RX10, "refusalOfBlow", "(I)I"⟩
abbrev cX10_feedOne : ByteArray := prog_1_method_53_code
def yX10_feedOne : MethodName := ⟨RX10, "feedOne", "(I)V"⟩
abbrev cX10_isWithin : ByteArray := prog_1_method_54_code
def yX10_isWithin : MethodName := ⟨RX10, "isWithin", "(III)Z"⟩
abbrev cX10_held : ByteArray := prog_1_method_55_code
def yX10_held : MethodName := ⟨RX10, "held", "(III)I"⟩
abbrev cX10_asInt : ByteArray := prog_1_method_56_code
def yX10_asInt : MethodName := ⟨RX10, "asInt", "(Z)I"⟩
abbrev cX10_isPlace : ByteArray := prog_1_method_57_code
def yX10_isPlace : MethodName := ⟨RX10, "isPlace", "(I)Z"⟩
abbrev cX10_isTime : ByteArray := prog_1_method_58_code
def yX10_isTime : MethodName := ⟨RX10, "isTime", "(I)Z"⟩
abbrev cX10_isKind : ByteArray := prog_1_method_59_code
def yX10_isKind : MethodName := ⟨RX10, "isKind", "(I)Z"⟩
abbrev cX10_isOfKind : ByteArray := prog_1_method_60_code
def yX10_isOfKind : MethodName := ⟨RX10, "isOfKind", "(II)Z"⟩
abbrev cX10_isSheet : ByteArray := prog_1_method_61_code
def yX10_isSheet : MethodName := ⟨RX10, "isSheet", "(I)Z"⟩
abbrev cX10_isSlot : ByteArray := prog_1_method_62_code
def yX10_isSlot : MethodName := ⟨RX10, "isSlot", "(I)Z"⟩
def RX11 : String := "StageFightsModel"
def TX11 : u_T := fun k => match k with
  | 0 => ("StageFightsModel", "s", "[I", true)
  | 1 => ("StageFightsModel", "image", "[I", true)
  | 2 => ("StageFightsModel", "aside", "[I", true)
  | 3 => ("StageFightsModel", "hasImage", "Z", false)
  | 4 => ("StageFightsModel", "tSort", "[I", true)
  | 5 => ("StageFightsModel", "tSize", "[I", true)
  | 6 => ("StageFightsModel", "tNumber", "[I", true)
  | 7 => ("StageFightsModel", "held", "[I", true)
  | 8 => ("StageFightsModel", "heldNumber", "[I", true)
  | 9 => ("StageFightsModel", "heldSize", "[I", true)
  | 10 => ("StageFightsModel", "heldRow", "[I", true)
  | 11 => ("StageFightsModel", "reaches", "[I", true)
  | 12 => ("StageFightsModel", "worths", "[I", true)
  | 13 => ("StageFightsModel", "tires", "[I", true)
  | 14 => ("StageFightsModel", "wears", "[I", true)
  | 15 => ("StageFightsModel", "places", "[I", true)
  | 16 => ("StageFightsModel", "order", "[I", true)
  | 17 => ("StageFightsModel", "isPlaced", "Z", false)
  | 18 => ("StageFightsModel", "isShifted", "Z", false)
  | 19 => ("StageFightsModel", "lates", "[I", true)
  | 20 => ("StageFightsModel", "tape", "[I", true)
  | 21 => ("StageFightsModel", "taped", "I", false)
  | 22 => ("StageFightsModel", "begin", "I", false)
  | 23 => ("StageFightsModel", "behind", "I", false)
  | 24 => ("StageFightsModel", "token", "I", false)
  | 25 => ("StageFightsModel", "number", "I", false)
  | 26 => ("StageFightsModel", "letter", "I", false)
  | 27 => ("StageFightsModel", "deep", "I", false)
  | 28 => ("StageFightsModel", "turned", "I", false)
  | 29 => ("StageFightsModel", "laid", "I", false)
  | 30 => ("StageFightsModel", "laidAt", "I", false)
  | 31 => ("StageFightsModel", "said", "I", false)
  | 32 => ("StageFightsModel", "named", "[I", true)
  | 33 => ("StageFightsModel", "pile", "[I", true)
  | 34 => ("StageFightsModel", "shiftSum", "I", false)
  | 35 => ("StageFightsModel", "shiftBy", "[I", true)
  | 36 => ("StageFightsModel", "beatWas", "[I", true)
  | 37 => ("StageFightsModel", "carried", "[I", true)
  | 38 => ("StageFightsModel", "waits", "[I", true)
  | 39 => ("StageFightsModel", "waiting", "I", false)
  | _ => ("StageFightsModel", "row", "[I", true)
def tyX11 : Nat → FieldType := fun k => match k with
  | 0 => .array .int
  | 1 => .array .int
  | 2 => .array .int
  | 3 => .boolean
  | 4 => .array .int
  | 5 => .array .int
  | 6 => .array .int
  | 7 => .array .int
  | 8 => .array .int
  | 9 => .array .int
  | 10 => .array .int
  | 11 => .array .int
  | 12 => .array .int
  | 13 => .array .int
  | 14 => .array .int
  | 15 => .array .int
  | 16 => .array .int
  | 17 => .boolean
  | 18 => .boolean
  | 19 => .array .int
  | 20 => .array .int
  | 21 => .int
  | 22 => .int
  | 23 => .int
  | 24 => .int
  | 25 => .int
  | 26 => .int
  | 27 => .int
  | 28 => .int
  | 29 => .int
  | 30 => .int
  | 31 => .int
  | 32 => .array .int
  | 33 => .array .int
  | 34 => .int
  | 35 => .array .int
  | 36 => .array .int
  | 37 => .array .int
  | 38 => .array .int
  | 39 => .int
  | _ => .array .int
abbrev wsX110 : List Cond := u_ws RX11 TX11 41
theorem nmX11 : ∀ a, a < 41 → ∀ b, b < 41 → a ≠ b → (TX11 a).2.1 ≠ (TX11 b).2.1 := by decide +kernel
theorem tyX11_ok : ∀ k, k < 41 → parseFieldDescriptor (TX11 k).2.2.1 = some (tyX11 k) := by decide +kernel
abbrev cX11_init : ByteArray := prog_13_method_1_code
def yX11_init : MethodName := ⟨RX11, "<init>", "()V"⟩
abbrev cX11_isIn : ByteArray := prog_13_method_2_code
def yX11_isIn : MethodName := ⟨RX11, "isIn", "(JJJ)Z"⟩
abbrev cX11_orNone : ByteArray := prog_13_method_3_code
def yX11_orNone : MethodName := ⟨RX11, "orNone", "(I)I"⟩
abbrev cX11_least : ByteArray := prog_13_method_4_code
def yX11_least : MethodName := ⟨RX11, "least", "(II)I"⟩
abbrev cX11_heldIn : ByteArray := prog_13_method_5_code
def yX11_heldIn : MethodName := ⟨RX11, "heldIn", "(II)I"⟩
abbrev cX11_becomes : ByteArray := prog_13_method_6_code
def yX11_becomes : MethodName := ⟨RX11, "becomes", "(II)I"⟩
abbrev cX11_personAt : ByteArray := prog_13_method_7_code
def yX11_personAt : MethodName := ⟨RX11, "personAt", "(I)I"⟩
abbrev cX11_moveAt : ByteArray := prog_13_method_8_code
def yX11_moveAt : MethodName := ⟨RX11, "moveAt", "(I)I"⟩
abbrev cX11_weaponAt : ByteArray := prog_13_method_9_code
def yX11_weaponAt : MethodName := ⟨RX11, "weaponAt", "(I)I"⟩
abbrev cX11_textAt : ByteArray := prog_13_method_10_code
def yX11_textAt : MethodName := ⟨RX11, "textAt", "(I)I"⟩
abbrev cX11_isPerson : ByteArray := prog_13_method_11_code
def yX11_isPerson : MethodName := ⟨RX11, "isPerson", "(I)Z"⟩
abbrev cX11_isMove : ByteArray := prog_13_method_12_code
def yX11_isMove : MethodName := ⟨RX11, "isMove", "(I)Z"⟩
abbrev cX11_isWeapon : ByteArray := prog_13_method_13_code
def yX11_isWeapon : MethodName := ⟨RX11, "isWeapon", "(I)Z"⟩
abbrev cX11_isText : ByteArray := prog_13_method_14_code
def yX11_isText : MethodName := ⟨RX11, "isText", "(I)Z"⟩
abbrev cX11_isPlace : ByteArray := prog_13_method_15_code
def yX11_isPlace : MethodName := ⟨RX11, "isPlace", "(I)Z"⟩
abbrev cX11_field : ByteArray := prog_13_method_16_code
def yX11_field : MethodName := ⟨RX11, "field", "(II)I"⟩
abbrev cX11_isBlowKind : ByteArray := prog_13_method_17_code
def yX11_isBlowKind : MethodName := ⟨RX11, "isBlowKind", "(I)Z"⟩
abbrev cX11_isBlow : ByteArray := prog_13_method_18_code
def yX11_isBlow : MethodName := ⟨RX11, "isBlow", "(I)Z"⟩
abbrev cX11_isDone : ByteArray := prog_13_method_19_code
def yX11_isDone : MethodName := ⟨RX11, "isDone", "(I)Z"⟩
abbrev cX11_person : ByteArray := prog_13_method_20_code
def yX11_person : MethodName := ⟨RX11, "person", "(II)I"⟩
abbrev cX11_lateOf : ByteArray := prog_13_method_21_code
def yX11_lateOf : MethodName := ⟨RX11, "lateOf", "(I)I"⟩
abbrev cX11_told : ByteArray := prog_13_method_22_code
def yX11_told : MethodName := ⟨RX11, "told", "(II)I"⟩
abbrev cX11_set : ByteArray := prog_13_method_23_code
def yX11_set : MethodName := ⟨RX11, "set", "(III)I"⟩
abbrev cX11_meet : ByteArray := prog_13_method_24_code
def yX11_meet : MethodName := ⟨RX11, "meet", "(IIII)Z"⟩
abbrev cX11_move : ByteArray := prog_13_method_25_code
def yX11_move : MethodName := ⟨RX11, "move", "(IIIII)I"⟩
abbrev cX11_isBarred : ByteArray := prog_13_method_26_code
def yX11_isBarred : MethodName := ⟨RX11, "isBarred", "(I)Z"⟩
abbrev cX11_of : ByteArray := prog_13_method_27_code
def yX11_of : MethodName := ⟨RX11, "of", "(II)I"⟩
abbrev cX11_isOf : ByteArray := prog_13_method_28_code
def yX11_isOf : MethodName := ⟨RX11, "isOf", "(II)Z"⟩
abbrev cX11_as : ByteArray := prog_13_method_29_code
def yX11_as : MethodName := ⟨RX11, "as", "(II)I"⟩
abbrev cX11_cut : ByteArray := prog_13_method_30_code
def yX11_cut : MethodName := ⟨RX11, "cut", "(IZ)I"⟩
abbrev cX11_wet : ByteArray := prog_13_method_31_code
def yX11_wet : MethodName := ⟨RX11, "wet", "(I)I"⟩
abbrev cX11_findOrder : ByteArray := prog_13_method_32_code
def yX11_findOrder : MethodName := ⟨RX11, "findOrder", "()V"⟩
abbrev cX11_between : ByteArray := prog_13_method_33_code
def yX11_between : MethodName := ⟨RX11, "between", "(IIII)I"⟩
abbrev cX11_stale : ByteArray := prog_13_method_34_code
def yX11_stale : MethodName := ⟨RX11, "stale", "()V"⟩
abbrev cX11_findPlaces : ByteArray := prog_13_method_35_code
def yX11_findPlaces : MethodName := ⟨RX11, "findPlaces", "()V"⟩
abbrev cX11_placeOf : ByteArray := prog_13_method_36_code
def yX11_placeOf : MethodName := ⟨RX11, "placeOf", "(II)I"⟩
abbrev cX11_where : ByteArray := prog_13_method_37_code
def yX11_where : MethodName := ⟨RX11, "where", "(II)I"⟩
abbrev cX11_distance : ByteArray := prog_13_method_38_code
def yX11_distance : MethodName := ⟨RX11, "distance", "(II)I"⟩
abbrev cX11_near : ByteArray := prog_13_method_39_code
def yX11_near : MethodName := ⟨RX11, "near", "(III)I"⟩
abbrev cX11_findLates : ByteArray := prog_13_method_40_code
def yX11_findLates : MethodName := ⟨RX11, "findLates", "()V"⟩
abbrev cX11_gapOf : ByteArray := prog_13_method_41_code
def yX11_gapOf : MethodName := ⟨RX11, "gapOf", "(II)I"⟩
abbrev cX11_wanted : ByteArray := prog_13_method_42_code
def yX11_wanted : MethodName := ⟨RX11, "wanted", "(II)I"⟩
abbrev cX11_broken : ByteArray := prog_13_method_43_code
def yX11_broken : MethodName := ⟨RX11, "broken", "(I)I"⟩
abbrev cX11_gap : ByteArray := prog_13_method_44_code
def yX11_gap : MethodName := ⟨RX11, "gap", "(II)I"⟩
abbrev cX11_keeps : ByteArray := prog_13_method_45_code
def yX11_keeps : MethodName := ⟨RX11, "keeps", "(I)I"⟩
abbrev cX11_firstBreach : ByteArray := prog_13_method_46_code
def yX11_firstBreach : MethodName := ⟨RX11, "firstBreach", "()I"⟩
abbrev cX11_breach : ByteArray := prog_13_method_47_code
def yX11_breach : MethodName := ⟨RX11, "breach", "(I)I"⟩
abbrev cX11_sign : ByteArray := prog_13_method_48_code
def yX11_sign : MethodName := ⟨RX11, "sign", "(II)I"⟩
abbrev cX11_isUnready : ByteArray := prog_13_method_49_code
def yX11_isUnready : MethodName := ⟨RX11, "isUnready", "(I)Z"⟩
abbrev cX11_unready : ByteArray := prog_13_method_50_code
def yX11_unready : MethodName := ⟨RX11, "unready", "(I)I"⟩
abbrev cX11_isSeen : ByteArray := prog_13_method_51_code
def yX11_isSeen : MethodName := ⟨RX11, "isSeen", "(I)Z"⟩
abbrev cX11_seen : ByteArray := prog_13_method_52_code
def yX11_seen : MethodName := ⟨RX11, "seen", "(I)I"⟩
abbrev cX11_story : ByteArray := prog_13_method_53_code
def yX11_story : MethodName := ⟨RX11, "story", "()I"⟩
abbrev cX11_feed : ByteArray := prog_13_method_54_code
def yX11_feed : MethodName := ⟨RX11, "feed", "(III)I"⟩
abbrev cX11_trim : ByteArray := prog_13_method_55_code
def yX11_trim : MethodName := ⟨RX11, "trim", "(I)I"⟩
abbrev cX11_isLetter : ByteArray := prog_13_method_56_code
def yX11_isLetter : MethodName := ⟨RX11, "isLetter", "(I)Z"⟩
abbrev cX11_isDigit : ByteArray := prog_13_method_57_code
def yX11_isDigit : MethodName := ⟨RX11, "isDigit", "(I)Z"⟩
abbrev cX11_next : ByteArray := prog_13_method_58_code
def yX11_next : MethodName := ⟨RX11, "next", "()V"⟩
abbrev cX11_isSign : ByteArray := prog_13_method_59_code
def yX11_isSign : MethodName := ⟨RX11, "isSign", "(I)Z"⟩
abbrev cX11_isWordAt : ByteArray := prog_13_method_60_code
def yX11_isWordAt : MethodName := ⟨RX11, "isWordAt", "(IIII)Z"⟩
abbrev cX11_isLong : ByteArray := prog_13_method_61_code
def yX11_isLong : MethodName := ⟨RX11, "isLong", "(IIIIII)Z"⟩
abbrev cX11_key : ByteArray := prog_13_method_62_code
def yX11_key : MethodName := ⟨RX11, "key", "()I"⟩
abbrev cX11_isName : ByteArray := prog_13_method_63_code
def yX11_isName : MethodName := ⟨RX11, "isName", "(II)Z"⟩
abbrev cX11_step : ByteArray := prog_13_method_64_code
def yX11_step : MethodName := ⟨RX11, "step", "(II)V"⟩
abbrev cX11_either : ByteArray := prog_13_method_65_code
def yX11_either : MethodName := ⟨RX11, "either", "(I)Z"⟩
abbrev cX11_both : ByteArray := prog_13_method_66_code
def yX11_both : MethodName := ⟨RX11, "both", "(I)Z"⟩
abbrev cX11_test : ByteArray := prog_13_method_67_code
def yX11_test : MethodName := ⟨RX11, "test", "(I)Z"⟩
abbrev cX11_sum : ByteArray := prog_13_method_68_code
def yX11_sum : MethodName := ⟨RX11, "sum", "(I)Z"⟩
abbrev cX11_term : ByteArray := prog_13_method_69_code
def yX11_term : MethodName := ⟨RX11, "term", "(I)Z"⟩
abbrev cX11_part0 : ByteArray := prog_13_method_70_code
def yX11_part0 : MethodName := ⟨RX11, "part0", "(I)Z"⟩
abbrev cX11_parse : ByteArray := prog_13_method_71_code
def yX11_parse : MethodName := ⟨RX11, "parse", "()I"⟩
abbrev cX11_text : ByteArray := prog_13_method_72_code
def yX11_text : MethodName := ⟨RX11, "text", "()I"⟩
abbrev cX11_textTold : ByteArray := prog_13_method_73_code
def yX11_textTold : MethodName := ⟨RX11, "textTold", "(II)I"⟩
abbrev cX11_counts : ByteArray := prog_13_method_74_code
def yX11_counts : MethodName := ⟨RX11, "counts", "(I)I"⟩
abbrev cX11_joined : ByteArray := prog_13_method_75_code
def yX11_joined : MethodName := ⟨RX11, "joined", "(III)I"⟩
abbrev cX11_worked : ByteArray := prog_13_method_76_code
def yX11_worked : MethodName := ⟨RX11, "worked", "(I)I"⟩
abbrev cX11_needs : ByteArray := prog_13_method_77_code
def yX11_needs : MethodName := ⟨RX11, "needs", "(II)I"⟩
abbrev cX11_isTwo : ByteArray := prog_13_method_78_code
def yX11_isTwo : MethodName := ⟨RX11, "isTwo", "(II)Z"⟩
abbrev cX11_hours : ByteArray := prog_13_method_79_code
def yX11_hours : MethodName := ⟨RX11, "hours", "(III)I"⟩
abbrev cX11_practise : ByteArray := prog_13_method_80_code
def yX11_practise : MethodName := ⟨RX11, "practise", "(III)I"⟩
abbrev cX11_lacksHours : ByteArray := prog_13_method_81_code
def yX11_lacksHours : MethodName := ⟨RX11, "lacksHours", "()Z"⟩
abbrev cX11_hasBarred : ByteArray := prog_13_method_82_code
def yX11_hasBarred : MethodName := ⟨RX11, "hasBarred", "()Z"⟩
abbrev cX11_may : ByteArray := prog_13_method_83_code
def yX11_may : MethodName := ⟨RX11, "may", "()I"⟩
abbrev cX11_choose : ByteArray := prog_13_method_84_code
def yX11_choose : MethodName := ⟨RX11, "choose", "(I)I"⟩
abbrev cX11_clear : ByteArray := prog_13_method_85_code
def yX11_clear : MethodName := ⟨RX11, "clear", "()I"⟩
abbrev cX11_choiceOf : ByteArray := prog_13_method_86_code
def yX11_choiceOf : MethodName := ⟨RX11, "choiceOf", "(I)I"⟩
abbrev cX11_understudy : ByteArray := prog_13_method_87_code
def yX11_understudy : MethodName := ⟨RX11, "understudy", "(III)I"⟩
abbrev cX11_shiftable : ByteArray := prog_13_method_88_code
def yX11_shiftable : MethodName := ⟨RX11, "shiftable", "()I"⟩
abbrev cX11_isApart : ByteArray := prog_13_method_89_code
def yX11_isApart : MethodName := ⟨RX11, "isApart", "()Z"⟩
abbrev cX11_holds : ByteArray := prog_13_method_90_code
def yX11_holds : MethodName := ⟨RX11, "holds", "(I)Z"⟩
abbrev cX11_findShifts : ByteArray := prog_13_method_91_code
def yX11_findShifts : MethodName := ⟨RX11, "findShifts", "()V"⟩
abbrev cX11_shifts : ByteArray := prog_13_method_92_code
def yX11_shifts : MethodName := ⟨RX11, "shifts", "(I)I"⟩
abbrev cX11_shift : ByteArray := prog_13_method_93_code
def yX11_shift : MethodName := ⟨RX11, "shift", "()I"⟩
abbrev cX11_weapon : ByteArray := prog_13_method_94_code
def yX11_weapon : MethodName := ⟨RX11, "weapon", "()I"⟩
abbrev cX11_out : ByteArray := prog_13_method_95_code
def yX11_out : MethodName := ⟨RX11, "out", "(II)I"⟩
abbrev cX11_in : ByteArray := prog_13_method_96_code
def yX11_in : MethodName := ⟨RX11, "in", "(I)I"⟩
abbrev cX11_wear : ByteArray := prog_13_method_97_code
def yX11_wear : MethodName := ⟨RX11, "wear", "(II)I"⟩
abbrev cX11_seed : ByteArray := prog_13_method_98_code
def yX11_seed : MethodName := ⟨RX11, "seed", "(I)I"⟩
abbrev cX11_logs : ByteArray := prog_13_method_99_code
def yX11_logs : MethodName := ⟨RX11, "logs", "(II)V"⟩
abbrev cX11_tire : ByteArray := prog_13_method_100_code
def yX11_tire : MethodName := ⟨RX11, "tire", "()V"⟩
abbrev cX11_oneShow : ByteArray := prog_13_method_101_code
def yX11_oneShow : MethodName := ⟨RX11, "oneShow", "()I"⟩
abbrev cX11_show : ByteArray := prog_13_method_102_code
def yX11_show : MethodName := ⟨RX11, "show", "(I)I"⟩
abbrev cX11_restAll : ByteArray := prog_13_method_103_code
def yX11_restAll : MethodName := ⟨RX11, "restAll", "()I"⟩
abbrev cX11_log : ByteArray := prog_13_method_104_code
def yX11_log : MethodName := ⟨RX11, "log", "(II)I"⟩
abbrev cX11_missesOf : ByteArray := prog_13_method_105_code
def yX11_missesOf : MethodName := ⟨RX11, "missesOf", "(I)I"⟩
abbrev cX11_led : ByteArray := prog_13_method_106_code
def yX11_led : MethodName := ⟨RX11, "led", "()I"⟩
abbrev cX11_isSheet : ByteArray := prog_13_method_107_code
def yX11_isSheet : MethodName := ⟨RX11, "isSheet", "(I)Z"⟩
abbrev cX11_sheet : ByteArray := prog_13_method_108_code
def yX11_sheet : MethodName := ⟨RX11, "sheet", "(III)I"⟩
abbrev cX11_mark : ByteArray := prog_13_method_109_code
def yX11_mark : MethodName := ⟨RX11, "mark", "(III)I"⟩
abbrev cX11_cuts : ByteArray := prog_13_method_110_code
def yX11_cuts : MethodName := ⟨RX11, "cuts", "(I)I"⟩
abbrev cX11_copy : ByteArray := prog_13_method_111_code
def yX11_copy : MethodName := ⟨RX11, "copy", "(IIIII)I"⟩
abbrev cX11_isSlot : ByteArray := prog_13_method_112_code
def yX11_isSlot : MethodName := ⟨RX11, "isSlot", "(I)Z"⟩
abbrev cX11_lay : ByteArray := prog_13_method_113_code
def yX11_lay : MethodName := ⟨RX11, "lay", "(III)I"⟩
abbrev cX11_ask : ByteArray := prog_13_method_114_code
def yX11_ask : MethodName := ⟨RX11, "ask", "(II)I"⟩
abbrev cX11_item : ByteArray := prog_13_method_115_code
def yX11_item : MethodName := ⟨RX11, "item", "(II)I"⟩
abbrev cX11_rest : ByteArray := prog_13_method_116_code
def yX11_rest : MethodName := ⟨RX11, "rest", "(II)I"⟩
abbrev cX11_tell : ByteArray := prog_13_method_117_code
def yX11_tell : MethodName := ⟨RX11, "tell", "(I)I"⟩
abbrev cX11_setAside : ByteArray := prog_13_method_118_code
def yX11_setAside : MethodName := ⟨RX11, "setAside", "([I[I)V"⟩
abbrev cX11_check : ByteArray := prog_13_method_119_code
def yX11_check : MethodName := ⟨RX11, "check", "(I)I"⟩
abbrev cX11_keep : ByteArray := prog_13_method_120_code
def yX11_keep : MethodName := ⟨RX11, "keep", "()I"⟩
abbrev cX11_back : ByteArray := prog_13_method_121_code
def yX11_back : MethodName := ⟨RX11, "back", "()I"⟩
abbrev cX11_count : ByteArray := prog_13_method_122_code
def yX11_count : MethodName := ⟨RX11, "count", "(I)I"⟩
def RJx145de : String := "java/io/Serializable"
def TJx145de : u_T := fun k => match k with
  | _ => ("", "", "", false)
def tyJx145de : Nat → FieldType := fun k => match k with
  | _ => .int
abbrev wsJx145de0 : List Cond := u_ws RJx145de TJx145de 0
theorem nmJx145de : ∀ a, a < 0 → ∀ b, b < 0 → a ≠ b → (TJx145de a).2.1 ≠ (TJx145de b).2.1 := by decide +kernel
theorem tyJx145de_ok : ∀ k, k < 0 → parseFieldDescriptor (TJx145de k).2.2.1 = some (tyJx145de k) := by decide +kernel
def RJx9f9b0 : String := "java/lang/CharSequence"
def TJx9f9b0 : u_T := fun k => match k with
  | _ => ("", "", "", false)
def tyJx9f9b0 : Nat → FieldType := fun k => match k with
  | _ => .int
abbrev wsJx9f9b00 : List Cond := u_ws RJx9f9b0 TJx9f9b0 0
theorem nmJx9f9b0 : ∀ a, a < 0 → ∀ b, b < 0 → a ≠ b → (TJx9f9b0 a).2.1 ≠ (TJx9f9b0 b).2.1 := by decide +kernel
theorem tyJx9f9b0_ok : ∀ k, k < 0 → parseFieldDescriptor (TJx9f9b0 k).2.2.1 = some (tyJx9f9b0 k) := by decide +kernel
def RJ11 : String := "java/lang/Character"
def TJ11 : u_T := fun k => match k with
  | _ => ("", "", "", false)
def tyJ11 : Nat → FieldType := fun k => match k with
  | _ => .int
abbrev wsJ110 : List Cond := u_ws RJ11 TJ11 0
theorem nmJ11 : ∀ a, a < 0 → ∀ b, b < 0 → a ≠ b → (TJ11 a).2.1 ≠ (TJ11 b).2.1 := by decide +kernel
theorem tyJ11_ok : ∀ k, k < 0 → parseFieldDescriptor (TJ11 k).2.2.1 = some (tyJ11 k) := by decide +kernel
abbrev cJ11_isValidCodePoint_9a6ad : ByteArray := prog_14_method_11_code
def yJ11_isValidCodePoint_9a6ad : MethodName := ⟨RJ11, "isValidCodePoint", "(I)Z"⟩
abbrev cJ11_highSurrogate_5068e : ByteArray := prog_14_method_28_code
def yJ11_highSurrogate_5068e : MethodName := ⟨RJ11, "highSurrogate", "(I)C"⟩
abbrev cJ11_lowSurrogate_5068e : ByteArray := prog_14_method_29_code
def yJ11_lowSurrogate_5068e : MethodName := ⟨RJ11, "lowSurrogate", "(I)C"⟩
def RJx8e188 : String := "java/lang/Cloneable"
def TJx8e188 : u_T := fun k => match k with
  | _ => ("", "", "", false)
def tyJx8e188 : Nat → FieldType := fun k => match k with
  | _ => .int
abbrev wsJx8e1880 : List Cond := u_ws RJx8e188 TJx8e188 0
theorem nmJx8e188 : ∀ a, a < 0 → ∀ b, b < 0 → a ≠ b → (TJx8e188 a).2.1 ≠ (TJx8e188 b).2.1 := by decide +kernel
theorem tyJx8e188_ok : ∀ k, k < 0 → parseFieldDescriptor (TJx8e188 k).2.2.1 = some (tyJx8e188 k) := by decide +kernel
def RJxb160c : String := "java/lang/Comparable"
def TJxb160c : u_T := fun k => match k with
  | _ => ("", "", "", false)
def tyJxb160c : Nat → FieldType := fun k => match k with
  | _ => .int
abbrev wsJxb160c0 : List Cond := u_ws RJxb160c TJxb160c 0
theorem nmJxb160c : ∀ a, a < 0 → ∀ b, b < 0 → a ≠ b → (TJxb160c a).2.1 ≠ (TJxb160c b).2.1 := by decide +kernel
theorem tyJxb160c_ok : ∀ k, k < 0 → parseFieldDescriptor (TJxb160c k).2.2.1 = some (tyJxb160c k) := by decide +kernel
def RJ9 : String := "java/lang/Math"
def TJ9 : u_T := fun k => match k with
  | _ => ("", "", "", false)
def tyJ9 : Nat → FieldType := fun k => match k with
  | _ => .int
abbrev wsJ90 : List Cond := u_ws RJ9 TJ9 0
theorem nmJ9 : ∀ a, a < 0 → ∀ b, b < 0 → a ≠ b → (TJ9 a).2.1 ≠ (TJ9 b).2.1 := by decide +kernel
theorem tyJ9_ok : ∀ k, k < 0 → parseFieldDescriptor (TJ9 k).2.2.1 = some (tyJ9 k) := by decide +kernel
abbrev cJ9_abs_0f7a4 : ByteArray := prog_16_method_59_code
def yJ9_abs_0f7a4 : MethodName := ⟨RJ9, "abs", "(I)I"⟩
abbrev cJ9_max_7cf53 : ByteArray := prog_16_method_65_code
def yJ9_max_7cf53 : MethodName := ⟨RJ9, "max", "(II)I"⟩
abbrev cJ9_min_7cf53 : ByteArray := prog_16_method_69_code
def yJ9_min_7cf53 : MethodName := ⟨RJ9, "min", "(II)I"⟩
def RJ0 : String := "java/lang/String"
def TJ0 : u_T := fun k => match k with
  | _ => ("", "", "", false)
def tyJ0 : Nat → FieldType := fun k => match k with
  | _ => .int
abbrev wsJ00 : List Cond := u_ws RJ0 TJ0 0
theorem nmJ0 : ∀ a, a < 0 → ∀ b, b < 0 → a ≠ b → (TJ0 a).2.1 ≠ (TJ0 b).2.1 := by decide +kernel
theorem tyJ0_ok : ∀ k, k < 0 → parseFieldDescriptor (TJ0 k).2.2.1 = some (tyJ0 k) := by decide +kernel
abbrev cJ0_length_8abf5 : ByteArray := prog_17_method_54_code
def yJ0_length_8abf5 : MethodName := ⟨RJ0, "length", "()I"⟩
abbrev cJ0_charAt_5068e : ByteArray := prog_17_method_56_code
def yJ0_charAt_5068e : MethodName := ⟨RJ0, "charAt", "(I)C"⟩
abbrev cJ0_indexOf_0f7a4 : ByteArray := prog_17_method_79_code
def yJ0_indexOf_0f7a4 : MethodName := ⟨RJ0, "indexOf", "(I)I"⟩
abbrev cJ0_indexOf_7cf53 : ByteArray := prog_17_method_80_code
def yJ0_indexOf_7cf53 : MethodName := ⟨RJ0, "indexOf", "(II)I"⟩
abbrev cJ0_coder_7d493 : ByteArray := prog_17_method_152_code
def yJ0_coder_7d493 : MethodName := ⟨RJ0, "coder", "()B"⟩
abbrev cJ0_isLatin1_aae02 : ByteArray := prog_17_method_154_code
def yJ0_isLatin1_aae02 : MethodName := ⟨RJ0, "isLatin1", "()Z"⟩
abbrev cJ0_checkIndex_df160 : ByteArray := prog_17_method_155_code
def yJ0_checkIndex_df160 : MethodName := ⟨RJ0, "checkIndex", "(II)V"⟩
abbrev cJ0_checkBoundsBeginEnd_23922 : ByteArray := prog_17_method_158_code
def yJ0_checkBoundsBeginEnd_23922 : MethodName := ⟨RJ0, "checkBoundsBeginEnd", "(III)V"⟩
def RJ1 : String := "java/lang/StringLatin1"
def TJ1 : u_T := fun k => match k with
  | _ => ("", "", "", false)
def tyJ1 : Nat → FieldType := fun k => match k with
  | _ => .int
abbrev wsJ10 : List Cond := u_ws RJ1 TJ1 0
theorem nmJ1 : ∀ a, a < 0 → ∀ b, b < 0 → a ≠ b → (TJ1 a).2.1 ≠ (TJ1 b).2.1 := by decide +kernel
theorem tyJ1_ok : ∀ k, k < 0 → parseFieldDescriptor (TJ1 k).2.2.1 = some (tyJ1 k) := by decide +kernel
abbrev cJ1_charAt_3b067 : ByteArray := prog_18_method_2_code
def yJ1_charAt_3b067 : MethodName := ⟨RJ1, "charAt", "([BI)C"⟩
abbrev cJ1_canEncode_9a6ad : ByteArray := prog_18_method_4_code
def yJ1_canEncode_9a6ad : MethodName := ⟨RJ1, "canEncode", "(I)Z"⟩
abbrev cJ1_indexOf_4cfef : ByteArray := prog_18_method_22_code
def yJ1_indexOf_4cfef : MethodName := ⟨RJ1, "indexOf", "([BIII)I"⟩
abbrev cJ1_indexOfChar_4cfef : ByteArray := prog_18_method_23_code
def yJ1_indexOfChar_4cfef : MethodName := ⟨RJ1, "indexOfChar", "([BIII)I"⟩
def RJ2 : String := "java/lang/StringUTF16"
def TJ2 : u_T := fun k => match k with
  | _ => ("", "", "", false)
def tyJ2 : Nat → FieldType := fun k => match k with
  | _ => .int
abbrev wsJ20 : List Cond := u_ws RJ2 TJ2 0
theorem nmJ2 : ∀ a, a < 0 → ∀ b, b < 0 → a ≠ b → (TJ2 a).2.1 ≠ (TJ2 b).2.1 := by decide +kernel
theorem tyJ2_ok : ∀ k, k < 0 → parseFieldDescriptor (TJ2 k).2.2.1 = some (tyJ2 k) := by decide +kernel
abbrev cJ2_getChar_3b067 : ByteArray := prog_19_method_5_code
def yJ2_getChar_3b067 : MethodName := ⟨RJ2, "getChar", "([BI)C"⟩
abbrev cJ2_length_9d52b : ByteArray := prog_19_method_6_code
def yJ2_length_9d52b : MethodName := ⟨RJ2, "length", "([B)I"⟩
abbrev cJ2_indexOf_4cfef : ByteArray := prog_19_method_40_code
def yJ2_indexOf_4cfef : MethodName := ⟨RJ2, "indexOf", "([BIII)I"⟩
abbrev cJ2_indexOfChar_4cfef : ByteArray := prog_19_method_47_code
def yJ2_indexOfChar_4cfef : MethodName := ⟨RJ2, "indexOfChar", "([BIII)I"⟩
abbrev cJ2_indexOfCharUnsafe_4cfef : ByteArray := prog_19_method_48_code
def yJ2_indexOfCharUnsafe_4cfef : MethodName := ⟨RJ2, "indexOfCharUnsafe", "([BIII)I"⟩
abbrev cJ2_indexOfSupplementary_4cfef : ByteArray := prog_19_method_49_code
def yJ2_indexOfSupplementary_4cfef : MethodName := ⟨RJ2, "indexOfSupplementary", "([BIII)I"⟩
abbrev cJ2_charAt_3b067 : ByteArray := prog_19_method_83_code
def yJ2_charAt_3b067 : MethodName := ⟨RJ2, "charAt", "([BI)C"⟩
abbrev cJ2_checkIndex_2214a : ByteArray := prog_19_method_91_code
def yJ2_checkIndex_2214a : MethodName := ⟨RJ2, "checkIndex", "(I[B)V"⟩
abbrev cJ2_checkBoundsBeginEnd_d044e : ByteArray := prog_19_method_93_code
def yJ2_checkBoundsBeginEnd_d044e : MethodName := ⟨RJ2, "checkBoundsBeginEnd", "(II[B)V"⟩
def RJ10 : String := "java/lang/System"
def TJ10 : u_T := fun k => match k with
  | _ => ("", "", "", false)
def tyJ10 : Nat → FieldType := fun k => match k with
  | _ => .int
abbrev wsJ100 : List Cond := u_ws RJ10 TJ10 0
theorem nmJ10 : ∀ a, a < 0 → ∀ b, b < 0 → a ≠ b → (TJ10 a).2.1 ≠ (TJ10 b).2.1 := by decide +kernel
theorem tyJ10_ok : ∀ k, k < 0 → parseFieldDescriptor (TJ10 k).2.2.1 = some (tyJ10 k) := by decide +kernel
def RJxfd54e : String := "java/lang/constant/Constable"
def TJxfd54e : u_T := fun k => match k with
  | _ => ("", "", "", false)
def tyJxfd54e : Nat → FieldType := fun k => match k with
  | _ => .int
abbrev wsJxfd54e0 : List Cond := u_ws RJxfd54e TJxfd54e 0
theorem nmJxfd54e : ∀ a, a < 0 → ∀ b, b < 0 → a ≠ b → (TJxfd54e a).2.1 ≠ (TJxfd54e b).2.1 := by decide +kernel
theorem tyJxfd54e_ok : ∀ k, k < 0 → parseFieldDescriptor (TJxfd54e k).2.2.1 = some (tyJxfd54e k) := by decide +kernel
def RJx3cf43 : String := "java/lang/constant/ConstantDesc"
def TJx3cf43 : u_T := fun k => match k with
  | _ => ("", "", "", false)
def tyJx3cf43 : Nat → FieldType := fun k => match k with
  | _ => .int
abbrev wsJx3cf430 : List Cond := u_ws RJx3cf43 TJx3cf43 0
theorem nmJx3cf43 : ∀ a, a < 0 → ∀ b, b < 0 → a ≠ b → (TJx3cf43 a).2.1 ≠ (TJx3cf43 b).2.1 := by decide +kernel
theorem tyJx3cf43_ok : ∀ k, k < 0 → parseFieldDescriptor (TJx3cf43 k).2.2.1 = some (tyJx3cf43 k) := by decide +kernel
def RJ7 : String := "java/util/Arrays"
def TJ7 : u_T := fun k => match k with
  | _ => ("", "", "", false)
def tyJ7 : Nat → FieldType := fun k => match k with
  | _ => .int
abbrev wsJ70 : List Cond := u_ws RJ7 TJ7 0
theorem nmJ7 : ∀ a, a < 0 → ∀ b, b < 0 → a ≠ b → (TJ7 a).2.1 ≠ (TJ7 b).2.1 := by decide +kernel
theorem tyJ7_ok : ∀ k, k < 0 → parseFieldDescriptor (TJ7 k).2.2.1 = some (tyJ7 k) := by decide +kernel
abbrev cJ7_copyOf_59c91 : ByteArray := prog_21_method_123_code
def yJ7_copyOf_59c91 : MethodName := ⟨RJ7, "copyOf", "([II)[I"⟩
def RJ3 : String := "jdk/internal/util/Preconditions"
def TJ3 : u_T := fun k => match k with
  | _ => ("", "", "", false)
def tyJ3 : Nat → FieldType := fun k => match k with
  | _ => .int
abbrev wsJ30 : List Cond := u_ws RJ3 TJ3 0
theorem nmJ3 : ∀ a, a < 0 → ∀ b, b < 0 → a ≠ b → (TJ3 a).2.1 ≠ (TJ3 b).2.1 := by decide +kernel
theorem tyJ3_ok : ∀ k, k < 0 → parseFieldDescriptor (TJ3 k).2.2.1 = some (tyJ3 k) := by decide +kernel
abbrev cJ3_checkIndex_8e157 : ByteArray := prog_22_method_11_code
def yJ3_checkIndex_8e157 : MethodName := ⟨RJ3, "checkIndex", "(IILjava/util/function/BiFunction;)I"⟩
abbrev cJ3_checkFromToIndex_8c36e : ByteArray := prog_22_method_12_code
def yJ3_checkFromToIndex_8c36e : MethodName := ⟨RJ3, "checkFromToIndex", "(IIILjava/util/function/BiFunction;)I"⟩
def RL : String := "StageFightsLaw"
abbrev cL_law : ByteArray := code
def yL_law : MethodName := ⟨RL, "law", "([I)Z"⟩
abbrev vwCl : List vw_C := [(RX0, TX0, 3), (RX1, TX1, 8), (RX2, TX2, 3), (RX3, TX3, 9), (RX4, TX4, 19), (RX5, TX5, 3), (RX6, TX6, 6), (RX7, TX7, 4), (RX8, TX8, 5), (RX9, TX9, 4), (RX10, TX10, 13), (RX11, TX11, 41)]
