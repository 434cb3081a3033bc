section
-- ===== PART A: goes FIRST, ahead of the names: the tables' words, and 'selects' of the private methods out of them =====
/-- a private method of a class that the tables say can be made, by its rows of tables_1 -/
def lw_okq (q : MethodName × Nat) : Prop := (q.1.cls ≠ "java/lang/invoke/MethodHandle" ∧ q.1.cls ≠ "java/lang/invoke/VarHandle") ∧ Cond.instantiable q.1.cls q.2 ∈ tables_1 ∧ Cond.privateMethod q.1 ∈ tables_1 ∧ Cond.instanceMethod q.1 ∈ tables_1
theorem lw_p0 : lw_okq (⟨"StageFights$Stage", "stay", "(IIII)V"⟩, 5) := ⟨⟨by decide +kernel, by decide +kernel⟩, List.mem_of_getElem? (i := 217) (by decide +kernel), List.mem_of_getElem? (i := 547) (by decide +kernel), List.mem_of_getElem? (i := 548) (by decide +kernel)⟩
theorem lw_p1 : lw_okq (⟨"StageFights$Stage", "go", "(LStageFights$Move;I)V"⟩, 5) := ⟨⟨by decide +kernel, by decide +kernel⟩, List.mem_of_getElem? (i := 217) (by decide +kernel), List.mem_of_getElem? (i := 556) (by decide +kernel), List.mem_of_getElem? (i := 557) (by decide +kernel)⟩
theorem lw_p2 : lw_okq (⟨"StageFights$Stage", "leastGap", "(LStageFights$Move;III)I"⟩, 5) := ⟨⟨by decide +kernel, by decide +kernel⟩, List.mem_of_getElem? (i := 217) (by decide +kernel), List.mem_of_getElem? (i := 577) (by decide +kernel), List.mem_of_getElem? (i := 578) (by decide +kernel)⟩
theorem lw_p3 : lw_okq (⟨"StageFights", "refusalOfBlow", "(I)I"⟩, 13) := ⟨⟨by decide +kernel, by decide +kernel⟩, List.mem_of_getElem? (i := 22) (by decide +kernel), List.mem_of_getElem? (i := 589) (by decide +kernel), List.mem_of_getElem? (i := 590) (by decide +kernel)⟩
theorem lw_p4 : lw_okq (⟨"StageFights", "feedOne", "(I)V"⟩, 13) := ⟨⟨by decide +kernel, by decide +kernel⟩, List.mem_of_getElem? (i := 22) (by decide +kernel), List.mem_of_getElem? (i := 653) (by decide +kernel), List.mem_of_getElem? (i := 654) (by decide +kernel)⟩
theorem lw_p5 : lw_okq (⟨"StageFights$Reader", "goOn", "()V"⟩, 9) := ⟨⟨by decide +kernel, by decide +kernel⟩, List.mem_of_getElem? (i := 265) (by decide +kernel), List.mem_of_getElem? (i := 670) (by decide +kernel), List.mem_of_getElem? (i := 671) (by decide +kernel)⟩
theorem lw_p6 : lw_okq (⟨"StageFights$Reader", "foundAt", "(I)I"⟩, 9) := ⟨⟨by decide +kernel, by decide +kernel⟩, List.mem_of_getElem? (i := 265) (by decide +kernel), List.mem_of_getElem? (i := 674) (by decide +kernel), List.mem_of_getElem? (i := 675) (by decide +kernel)⟩
theorem lw_p7 : lw_okq (⟨"StageFights$Reader", "keyHere", "()I"⟩, 9) := ⟨⟨by decide +kernel, by decide +kernel⟩, List.mem_of_getElem? (i := 265) (by decide +kernel), List.mem_of_getElem? (i := 678) (by decide +kernel), List.mem_of_getElem? (i := 679) (by decide +kernel)⟩
theorem lw_p8 : lw_okq (⟨"StageFights$Reader", "isHere", "(Ljava/lang/String;)Z"⟩, 9) := ⟨⟨by decide +kernel, by decide +kernel⟩, List.mem_of_getElem? (i := 265) (by decide +kernel), List.mem_of_getElem? (i := 683) (by decide +kernel), List.mem_of_getElem? (i := 684) (by decide +kernel)⟩
theorem lw_p9 : lw_okq (⟨"StageFights$Reader", "tier", "(III)Z"⟩, 9) := ⟨⟨by decide +kernel, by decide +kernel⟩, List.mem_of_getElem? (i := 265) (by decide +kernel), List.mem_of_getElem? (i := 737) (by decide +kernel), List.mem_of_getElem? (i := 738) (by decide +kernel)⟩
theorem lw_p10 : lw_okq (⟨"StageFights$Reader", "piece", "(II)Z"⟩, 9) := ⟨⟨by decide +kernel, by decide +kernel⟩, List.mem_of_getElem? (i := 265) (by decide +kernel), List.mem_of_getElem? (i := 741) (by decide +kernel), List.mem_of_getElem? (i := 742) (by decide +kernel)⟩
theorem lw_p11 : lw_okq (⟨"StageFights$Reader", "numberHere", "()I"⟩, 9) := ⟨⟨by decide +kernel, by decide +kernel⟩, List.mem_of_getElem? (i := 265) (by decide +kernel), List.mem_of_getElem? (i := 745) (by decide +kernel), List.mem_of_getElem? (i := 746) (by decide +kernel)⟩
theorem lw_p12 : lw_okq (⟨"StageFights$Reader", "nameHere", "()I"⟩, 9) := ⟨⟨by decide +kernel, by decide +kernel⟩, List.mem_of_getElem? (i := 265) (by decide +kernel), List.mem_of_getElem? (i := 749) (by decide +kernel), List.mem_of_getElem? (i := 750) (by decide +kernel)⟩
theorem lw_p13 : lw_okq (⟨"StageFights$Reader", "note", "(I)V"⟩, 9) := ⟨⟨by decide +kernel, by decide +kernel⟩, List.mem_of_getElem? (i := 265) (by decide +kernel), List.mem_of_getElem? (i := 811) (by decide +kernel), List.mem_of_getElem? (i := 812) (by decide +kernel)⟩
theorem lw_p14 : lw_okq (⟨"StageFights$Reader", "isSign", "(C)Z"⟩, 9) := ⟨⟨by decide +kernel, by decide +kernel⟩, List.mem_of_getElem? (i := 265) (by decide +kernel), List.mem_of_getElem? (i := 815) (by decide +kernel), List.mem_of_getElem? (i := 816) (by decide +kernel)⟩
theorem lw_p15 : lw_okq (⟨"StageFights$Reader", "isJoinOf", "(I)Z"⟩, 9) := ⟨⟨by decide +kernel, by decide +kernel⟩, List.mem_of_getElem? (i := 265) (by decide +kernel), List.mem_of_getElem? (i := 819) (by decide +kernel), List.mem_of_getElem? (i := 820) (by decide +kernel)⟩
def lw_privs_1 : List (MethodName × Nat) := [(⟨"StageFights$Stage", "stay", "(IIII)V"⟩, 5), (⟨"StageFights$Stage", "go", "(LStageFights$Move;I)V"⟩, 5), (⟨"StageFights$Stage", "leastGap", "(LStageFights$Move;III)I"⟩, 5), (⟨"StageFights", "refusalOfBlow", "(I)I"⟩, 13), (⟨"StageFights", "feedOne", "(I)V"⟩, 13), (⟨"StageFights$Reader", "goOn", "()V"⟩, 9), (⟨"StageFights$Reader", "foundAt", "(I)I"⟩, 9), (⟨"StageFights$Reader", "keyHere", "()I"⟩, 9), (⟨"StageFights$Reader", "isHere", "(Ljava/lang/String;)Z"⟩, 9), (⟨"StageFights$Reader", "tier", "(III)Z"⟩, 9), (⟨"StageFights$Reader", "piece", "(II)Z"⟩, 9), (⟨"StageFights$Reader", "numberHere", "()I"⟩, 9), (⟨"StageFights$Reader", "nameHere", "()I"⟩, 9), (⟨"StageFights$Reader", "note", "(I)V"⟩, 9), (⟨"StageFights$Reader", "isSign", "(C)Z"⟩, 9), (⟨"StageFights$Reader", "isJoinOf", "(I)Z"⟩, 9)]
theorem lw_r1 : ∀ q ∈ lw_privs_1, lw_okq q := List.forall_mem_cons.mpr ⟨lw_p0, List.forall_mem_cons.mpr ⟨lw_p1, List.forall_mem_cons.mpr ⟨lw_p2, List.forall_mem_cons.mpr ⟨lw_p3, List.forall_mem_cons.mpr ⟨lw_p4, List.forall_mem_cons.mpr ⟨lw_p5, List.forall_mem_cons.mpr ⟨lw_p6, List.forall_mem_cons.mpr ⟨lw_p7, List.forall_mem_cons.mpr ⟨lw_p8, List.forall_mem_cons.mpr ⟨lw_p9, List.forall_mem_cons.mpr ⟨lw_p10, List.forall_mem_cons.mpr ⟨lw_p11, List.forall_mem_cons.mpr ⟨lw_p12, List.forall_mem_cons.mpr ⟨lw_p13, List.forall_mem_cons.mpr ⟨lw_p14, List.forall_mem_cons.mpr ⟨lw_p15, fun _ h => absurd h List.not_mem_nil⟩⟩⟩⟩⟩⟩⟩⟩⟩⟩⟩⟩⟩⟩⟩⟩
theorem lw_p16 : lw_okq (⟨"StageFights$Shifter", "isToTry", "(III)Z"⟩, 6) := ⟨⟨by decide +kernel, by decide +kernel⟩, List.mem_of_getElem? (i := 239) (by decide +kernel), List.mem_of_getElem? (i := 942) (by decide +kernel), List.mem_of_getElem? (i := 943) (by decide +kernel)⟩
theorem lw_p17 : lw_okq (⟨"StageFights$Shifter", "stands", "()Z"⟩, 6) := ⟨⟨by decide +kernel, by decide +kernel⟩, List.mem_of_getElem? (i := 239) (by decide +kernel), List.mem_of_getElem? (i := 946) (by decide +kernel), List.mem_of_getElem? (i := 947) (by decide +kernel)⟩
theorem lw_p18 : lw_okq (⟨"StageFights$Stage", "missesOf", "(I)I"⟩, 5) := ⟨⟨by decide +kernel, by decide +kernel⟩, List.mem_of_getElem? (i := 217) (by decide +kernel), List.mem_of_getElem? (i := 1000) (by decide +kernel), List.mem_of_getElem? (i := 1001) (by decide +kernel)⟩
theorem lw_p19 : lw_okq (⟨"StageFights$Scene", "tireAndWear", "(I)V"⟩, 19) := ⟨⟨by decide +kernel, by decide +kernel⟩, List.mem_of_getElem? (i := 30) (by decide +kernel), List.mem_of_getElem? (i := 1012) (by decide +kernel), List.mem_of_getElem? (i := 1013) (by decide +kernel)⟩
theorem lw_p20 : lw_okq (⟨"StageFightsModel", "personAt", "(I)I"⟩, 41) := ⟨⟨by decide +kernel, by decide +kernel⟩, List.mem_of_getElem? (i := 1148) (by decide +kernel), List.mem_of_getElem? (i := 1292) (by decide +kernel), List.mem_of_getElem? (i := 1293) (by decide +kernel)⟩
theorem lw_p21 : lw_okq (⟨"StageFightsModel", "stale", "()V"⟩, 41) := ⟨⟨by decide +kernel, by decide +kernel⟩, List.mem_of_getElem? (i := 1148) (by decide +kernel), List.mem_of_getElem? (i := 1296) (by decide +kernel), List.mem_of_getElem? (i := 1297) (by decide +kernel)⟩
theorem lw_p22 : lw_okq (⟨"StageFightsModel", "isPerson", "(I)Z"⟩, 41) := ⟨⟨by decide +kernel, by decide +kernel⟩, List.mem_of_getElem? (i := 1148) (by decide +kernel), List.mem_of_getElem? (i := 1304) (by decide +kernel), List.mem_of_getElem? (i := 1305) (by decide +kernel)⟩
theorem lw_p23 : lw_okq (⟨"StageFightsModel", "lateOf", "(I)I"⟩, 41) := ⟨⟨by decide +kernel, by decide +kernel⟩, List.mem_of_getElem? (i := 1148) (by decide +kernel), List.mem_of_getElem? (i := 1309) (by decide +kernel), List.mem_of_getElem? (i := 1310) (by decide +kernel)⟩
theorem lw_p24 : lw_okq (⟨"StageFightsModel", "counts", "(I)I"⟩, 41) := ⟨⟨by decide +kernel, by decide +kernel⟩, List.mem_of_getElem? (i := 1148) (by decide +kernel), List.mem_of_getElem? (i := 1313) (by decide +kernel), List.mem_of_getElem? (i := 1314) (by decide +kernel)⟩
theorem lw_p25 : lw_okq (⟨"StageFightsModel", "textAt", "(I)I"⟩, 41) := ⟨⟨by decide +kernel, by decide +kernel⟩, List.mem_of_getElem? (i := 1148) (by decide +kernel), List.mem_of_getElem? (i := 1317) (by decide +kernel), List.mem_of_getElem? (i := 1318) (by decide +kernel)⟩
theorem lw_p26 : lw_okq (⟨"StageFightsModel", "worked", "(I)I"⟩, 41) := ⟨⟨by decide +kernel, by decide +kernel⟩, List.mem_of_getElem? (i := 1148) (by decide +kernel), List.mem_of_getElem? (i := 1321) (by decide +kernel), List.mem_of_getElem? (i := 1322) (by decide +kernel)⟩
theorem lw_p27 : lw_okq (⟨"StageFightsModel", "becomes", "(II)I"⟩, 41) := ⟨⟨by decide +kernel, by decide +kernel⟩, List.mem_of_getElem? (i := 1148) (by decide +kernel), List.mem_of_getElem? (i := 1340) (by decide +kernel), List.mem_of_getElem? (i := 1341) (by decide +kernel)⟩
theorem lw_p28 : lw_okq (⟨"StageFightsModel", "field", "(II)I"⟩, 41) := ⟨⟨by decide +kernel, by decide +kernel⟩, List.mem_of_getElem? (i := 1148) (by decide +kernel), List.mem_of_getElem? (i := 1350) (by decide +kernel), List.mem_of_getElem? (i := 1351) (by decide +kernel)⟩
theorem lw_p29 : lw_okq (⟨"StageFightsModel", "moveAt", "(I)I"⟩, 41) := ⟨⟨by decide +kernel, by decide +kernel⟩, List.mem_of_getElem? (i := 1148) (by decide +kernel), List.mem_of_getElem? (i := 1354) (by decide +kernel), List.mem_of_getElem? (i := 1355) (by decide +kernel)⟩
theorem lw_p30 : lw_okq (⟨"StageFightsModel", "isMove", "(I)Z"⟩, 41) := ⟨⟨by decide +kernel, by decide +kernel⟩, List.mem_of_getElem? (i := 1148) (by decide +kernel), List.mem_of_getElem? (i := 1366) (by decide +kernel), List.mem_of_getElem? (i := 1367) (by decide +kernel)⟩
theorem lw_p31 : lw_okq (⟨"StageFightsModel", "isBarred", "(I)Z"⟩, 41) := ⟨⟨by decide +kernel, by decide +kernel⟩, List.mem_of_getElem? (i := 1148) (by decide +kernel), List.mem_of_getElem? (i := 1370) (by decide +kernel), List.mem_of_getElem? (i := 1371) (by decide +kernel)⟩
def lw_privs_2 : List (MethodName × Nat) := [(⟨"StageFights$Shifter", "isToTry", "(III)Z"⟩, 6), (⟨"StageFights$Shifter", "stands", "()Z"⟩, 6), (⟨"StageFights$Stage", "missesOf", "(I)I"⟩, 5), (⟨"StageFights$Scene", "tireAndWear", "(I)V"⟩, 19), (⟨"StageFightsModel", "personAt", "(I)I"⟩, 41), (⟨"StageFightsModel", "stale", "()V"⟩, 41), (⟨"StageFightsModel", "isPerson", "(I)Z"⟩, 41), (⟨"StageFightsModel", "lateOf", "(I)I"⟩, 41), (⟨"StageFightsModel", "counts", "(I)I"⟩, 41), (⟨"StageFightsModel", "textAt", "(I)I"⟩, 41), (⟨"StageFightsModel", "worked", "(I)I"⟩, 41), (⟨"StageFightsModel", "becomes", "(II)I"⟩, 41), (⟨"StageFightsModel", "field", "(II)I"⟩, 41), (⟨"StageFightsModel", "moveAt", "(I)I"⟩, 41), (⟨"StageFightsModel", "isMove", "(I)Z"⟩, 41), (⟨"StageFightsModel", "isBarred", "(I)Z"⟩, 41)]
theorem lw_r2 : ∀ q ∈ lw_privs_2, lw_okq q := List.forall_mem_cons.mpr ⟨lw_p16, List.forall_mem_cons.mpr ⟨lw_p17, List.forall_mem_cons.mpr ⟨lw_p18, List.forall_mem_cons.mpr ⟨lw_p19, List.forall_mem_cons.mpr ⟨lw_p20, List.forall_mem_cons.mpr ⟨lw_p21, List.forall_mem_cons.mpr ⟨lw_p22, List.forall_mem_cons.mpr ⟨lw_p23, List.forall_mem_cons.mpr ⟨lw_p24, List.forall_mem_cons.mpr ⟨lw_p25, List.forall_mem_cons.mpr ⟨lw_p26, List.forall_mem_cons.mpr ⟨lw_p27, List.forall_mem_cons.mpr ⟨lw_p28, List.forall_mem_cons.mpr ⟨lw_p29, List.forall_mem_cons.mpr ⟨lw_p30, List.forall_mem_cons.mpr ⟨lw_p31, fun _ h => absurd h List.not_mem_nil⟩⟩⟩⟩⟩⟩⟩⟩⟩⟩⟩⟩⟩⟩⟩⟩
theorem lw_p32 : lw_okq (⟨"StageFightsModel", "findPlaces", "()V"⟩, 41) := ⟨⟨by decide +kernel, by decide +kernel⟩, List.mem_of_getElem? (i := 1148) (by decide +kernel), List.mem_of_getElem? (i := 1399) (by decide +kernel), List.mem_of_getElem? (i := 1400) (by decide +kernel)⟩
theorem lw_p33 : lw_okq (⟨"StageFightsModel", "findOrder", "()V"⟩, 41) := ⟨⟨by decide +kernel, by decide +kernel⟩, List.mem_of_getElem? (i := 1148) (by decide +kernel), List.mem_of_getElem? (i := 1403) (by decide +kernel), List.mem_of_getElem? (i := 1404) (by decide +kernel)⟩
theorem lw_p34 : lw_okq (⟨"StageFightsModel", "placeOf", "(II)I"⟩, 41) := ⟨⟨by decide +kernel, by decide +kernel⟩, List.mem_of_getElem? (i := 1148) (by decide +kernel), List.mem_of_getElem? (i := 1410) (by decide +kernel), List.mem_of_getElem? (i := 1411) (by decide +kernel)⟩
theorem lw_p35 : lw_okq (⟨"StageFightsModel", "isBlow", "(I)Z"⟩, 41) := ⟨⟨by decide +kernel, by decide +kernel⟩, List.mem_of_getElem? (i := 1148) (by decide +kernel), List.mem_of_getElem? (i := 1418) (by decide +kernel), List.mem_of_getElem? (i := 1419) (by decide +kernel)⟩
theorem lw_p36 : lw_okq (⟨"StageFightsModel", "findLates", "()V"⟩, 41) := ⟨⟨by decide +kernel, by decide +kernel⟩, List.mem_of_getElem? (i := 1148) (by decide +kernel), List.mem_of_getElem? (i := 1422) (by decide +kernel), List.mem_of_getElem? (i := 1423) (by decide +kernel)⟩
theorem lw_p37 : lw_okq (⟨"StageFightsModel", "gapOf", "(II)I"⟩, 41) := ⟨⟨by decide +kernel, by decide +kernel⟩, List.mem_of_getElem? (i := 1148) (by decide +kernel), List.mem_of_getElem? (i := 1426) (by decide +kernel), List.mem_of_getElem? (i := 1427) (by decide +kernel)⟩
theorem lw_p38 : lw_okq (⟨"StageFightsModel", "near", "(III)I"⟩, 41) := ⟨⟨by decide +kernel, by decide +kernel⟩, List.mem_of_getElem? (i := 1148) (by decide +kernel), List.mem_of_getElem? (i := 1430) (by decide +kernel), List.mem_of_getElem? (i := 1431) (by decide +kernel)⟩
theorem lw_p39 : lw_okq (⟨"StageFightsModel", "broken", "(I)I"⟩, 41) := ⟨⟨by decide +kernel, by decide +kernel⟩, List.mem_of_getElem? (i := 1148) (by decide +kernel), List.mem_of_getElem? (i := 1444) (by decide +kernel), List.mem_of_getElem? (i := 1445) (by decide +kernel)⟩
theorem lw_p40 : lw_okq (⟨"StageFightsModel", "wanted", "(II)I"⟩, 41) := ⟨⟨by decide +kernel, by decide +kernel⟩, List.mem_of_getElem? (i := 1148) (by decide +kernel), List.mem_of_getElem? (i := 1448) (by decide +kernel), List.mem_of_getElem? (i := 1449) (by decide +kernel)⟩
theorem lw_p41 : lw_okq (⟨"StageFightsModel", "firstBreach", "()I"⟩, 41) := ⟨⟨by decide +kernel, by decide +kernel⟩, List.mem_of_getElem? (i := 1148) (by decide +kernel), List.mem_of_getElem? (i := 1456) (by decide +kernel), List.mem_of_getElem? (i := 1457) (by decide +kernel)⟩
theorem lw_p42 : lw_okq (⟨"StageFightsModel", "isDone", "(I)Z"⟩, 41) := ⟨⟨by decide +kernel, by decide +kernel⟩, List.mem_of_getElem? (i := 1148) (by decide +kernel), List.mem_of_getElem? (i := 1460) (by decide +kernel), List.mem_of_getElem? (i := 1461) (by decide +kernel)⟩
theorem lw_p43 : lw_okq (⟨"StageFightsModel", "isUnready", "(I)Z"⟩, 41) := ⟨⟨by decide +kernel, by decide +kernel⟩, List.mem_of_getElem? (i := 1148) (by decide +kernel), List.mem_of_getElem? (i := 1472) (by decide +kernel), List.mem_of_getElem? (i := 1473) (by decide +kernel)⟩
theorem lw_p44 : lw_okq (⟨"StageFightsModel", "isSeen", "(I)Z"⟩, 41) := ⟨⟨by decide +kernel, by decide +kernel⟩, List.mem_of_getElem? (i := 1148) (by decide +kernel), List.mem_of_getElem? (i := 1481) (by decide +kernel), List.mem_of_getElem? (i := 1482) (by decide +kernel)⟩
theorem lw_p45 : lw_okq (⟨"StageFightsModel", "parse", "()I"⟩, 41) := ⟨⟨by decide +kernel, by decide +kernel⟩, List.mem_of_getElem? (i := 1148) (by decide +kernel), List.mem_of_getElem? (i := 1501) (by decide +kernel), List.mem_of_getElem? (i := 1502) (by decide +kernel)⟩
theorem lw_p46 : lw_okq (⟨"StageFightsModel", "next", "()V"⟩, 41) := ⟨⟨by decide +kernel, by decide +kernel⟩, List.mem_of_getElem? (i := 1148) (by decide +kernel), List.mem_of_getElem? (i := 1505) (by decide +kernel), List.mem_of_getElem? (i := 1506) (by decide +kernel)⟩
theorem lw_p47 : lw_okq (⟨"StageFightsModel", "isLetter", "(I)Z"⟩, 41) := ⟨⟨by decide +kernel, by decide +kernel⟩, List.mem_of_getElem? (i := 1148) (by decide +kernel), List.mem_of_getElem? (i := 1509) (by decide +kernel), List.mem_of_getElem? (i := 1510) (by decide +kernel)⟩
def lw_privs_3 : List (MethodName × Nat) := [(⟨"StageFightsModel", "findPlaces", "()V"⟩, 41), (⟨"StageFightsModel", "findOrder", "()V"⟩, 41), (⟨"StageFightsModel", "placeOf", "(II)I"⟩, 41), (⟨"StageFightsModel", "isBlow", "(I)Z"⟩, 41), (⟨"StageFightsModel", "findLates", "()V"⟩, 41), (⟨"StageFightsModel", "gapOf", "(II)I"⟩, 41), (⟨"StageFightsModel", "near", "(III)I"⟩, 41), (⟨"StageFightsModel", "broken", "(I)I"⟩, 41), (⟨"StageFightsModel", "wanted", "(II)I"⟩, 41), (⟨"StageFightsModel", "firstBreach", "()I"⟩, 41), (⟨"StageFightsModel", "isDone", "(I)Z"⟩, 41), (⟨"StageFightsModel", "isUnready", "(I)Z"⟩, 41), (⟨"StageFightsModel", "isSeen", "(I)Z"⟩, 41), (⟨"StageFightsModel", "parse", "()I"⟩, 41), (⟨"StageFightsModel", "next", "()V"⟩, 41), (⟨"StageFightsModel", "isLetter", "(I)Z"⟩, 41)]
theorem lw_r3 : ∀ q ∈ lw_privs_3, lw_okq q := List.forall_mem_cons.mpr ⟨lw_p32, List.forall_mem_cons.mpr ⟨lw_p33, List.forall_mem_cons.mpr ⟨lw_p34, List.forall_mem_cons.mpr ⟨lw_p35, List.forall_mem_cons.mpr ⟨lw_p36, List.forall_mem_cons.mpr ⟨lw_p37, List.forall_mem_cons.mpr ⟨lw_p38, List.forall_mem_cons.mpr ⟨lw_p39, List.forall_mem_cons.mpr ⟨lw_p40, List.forall_mem_cons.mpr ⟨lw_p41, List.forall_mem_cons.mpr ⟨lw_p42, List.forall_mem_cons.mpr ⟨lw_p43, List.forall_mem_cons.mpr ⟨lw_p44, List.forall_mem_cons.mpr ⟨lw_p45, List.forall_mem_cons.mpr ⟨lw_p46, List.forall_mem_cons.mpr ⟨lw_p47, fun _ h => absurd h List.not_mem_nil⟩⟩⟩⟩⟩⟩⟩⟩⟩⟩⟩⟩⟩⟩⟩⟩
theorem lw_p48 : lw_okq (⟨"StageFightsModel", "isDigit", "(I)Z"⟩, 41) := ⟨⟨by decide +kernel, by decide +kernel⟩, List.mem_of_getElem? (i := 1148) (by decide +kernel), List.mem_of_getElem? (i := 1515) (by decide +kernel), List.mem_of_getElem? (i := 1516) (by decide +kernel)⟩
theorem lw_p49 : lw_okq (⟨"StageFightsModel", "key", "()I"⟩, 41) := ⟨⟨by decide +kernel, by decide +kernel⟩, List.mem_of_getElem? (i := 1148) (by decide +kernel), List.mem_of_getElem? (i := 1521) (by decide +kernel), List.mem_of_getElem? (i := 1522) (by decide +kernel)⟩
theorem lw_p50 : lw_okq (⟨"StageFightsModel", "isWordAt", "(IIII)Z"⟩, 41) := ⟨⟨by decide +kernel, by decide +kernel⟩, List.mem_of_getElem? (i := 1148) (by decide +kernel), List.mem_of_getElem? (i := 1525) (by decide +kernel), List.mem_of_getElem? (i := 1526) (by decide +kernel)⟩
theorem lw_p51 : lw_okq (⟨"StageFightsModel", "isLong", "(IIIIII)Z"⟩, 41) := ⟨⟨by decide +kernel, by decide +kernel⟩, List.mem_of_getElem? (i := 1148) (by decide +kernel), List.mem_of_getElem? (i := 1529) (by decide +kernel), List.mem_of_getElem? (i := 1530) (by decide +kernel)⟩
theorem lw_p52 : lw_okq (⟨"StageFightsModel", "either", "(I)Z"⟩, 41) := ⟨⟨by decide +kernel, by decide +kernel⟩, List.mem_of_getElem? (i := 1148) (by decide +kernel), List.mem_of_getElem? (i := 1533) (by decide +kernel), List.mem_of_getElem? (i := 1534) (by decide +kernel)⟩
theorem lw_p53 : lw_okq (⟨"StageFightsModel", "both", "(I)Z"⟩, 41) := ⟨⟨by decide +kernel, by decide +kernel⟩, List.mem_of_getElem? (i := 1148) (by decide +kernel), List.mem_of_getElem? (i := 1537) (by decide +kernel), List.mem_of_getElem? (i := 1538) (by decide +kernel)⟩
theorem lw_p54 : lw_okq (⟨"StageFightsModel", "test", "(I)Z"⟩, 41) := ⟨⟨by decide +kernel, by decide +kernel⟩, List.mem_of_getElem? (i := 1148) (by decide +kernel), List.mem_of_getElem? (i := 1541) (by decide +kernel), List.mem_of_getElem? (i := 1542) (by decide +kernel)⟩
theorem lw_p55 : lw_okq (⟨"StageFightsModel", "sum", "(I)Z"⟩, 41) := ⟨⟨by decide +kernel, by decide +kernel⟩, List.mem_of_getElem? (i := 1148) (by decide +kernel), List.mem_of_getElem? (i := 1545) (by decide +kernel), List.mem_of_getElem? (i := 1546) (by decide +kernel)⟩
theorem lw_p56 : lw_okq (⟨"StageFightsModel", "term", "(I)Z"⟩, 41) := ⟨⟨by decide +kernel, by decide +kernel⟩, List.mem_of_getElem? (i := 1148) (by decide +kernel), List.mem_of_getElem? (i := 1549) (by decide +kernel), List.mem_of_getElem? (i := 1550) (by decide +kernel)⟩
theorem lw_p57 : lw_okq (⟨"StageFightsModel", "part0", "(I)Z"⟩, 41) := ⟨⟨by decide +kernel, by decide +kernel⟩, List.mem_of_getElem? (i := 1148) (by decide +kernel), List.mem_of_getElem? (i := 1553) (by decide +kernel), List.mem_of_getElem? (i := 1554) (by decide +kernel)⟩
theorem lw_p58 : lw_okq (⟨"StageFightsModel", "step", "(II)V"⟩, 41) := ⟨⟨by decide +kernel, by decide +kernel⟩, List.mem_of_getElem? (i := 1148) (by decide +kernel), List.mem_of_getElem? (i := 1557) (by decide +kernel), List.mem_of_getElem? (i := 1558) (by decide +kernel)⟩
theorem lw_p59 : lw_okq (⟨"StageFightsModel", "isSign", "(I)Z"⟩, 41) := ⟨⟨by decide +kernel, by decide +kernel⟩, List.mem_of_getElem? (i := 1148) (by decide +kernel), List.mem_of_getElem? (i := 1564) (by decide +kernel), List.mem_of_getElem? (i := 1565) (by decide +kernel)⟩
theorem lw_p60 : lw_okq (⟨"StageFightsModel", "isText", "(I)Z"⟩, 41) := ⟨⟨by decide +kernel, by decide +kernel⟩, List.mem_of_getElem? (i := 1148) (by decide +kernel), List.mem_of_getElem? (i := 1572) (by decide +kernel), List.mem_of_getElem? (i := 1573) (by decide +kernel)⟩
theorem lw_p61 : lw_okq (⟨"StageFightsModel", "isTwo", "(II)Z"⟩, 41) := ⟨⟨by decide +kernel, by decide +kernel⟩, List.mem_of_getElem? (i := 1148) (by decide +kernel), List.mem_of_getElem? (i := 1580) (by decide +kernel), List.mem_of_getElem? (i := 1581) (by decide +kernel)⟩
theorem lw_p62 : lw_okq (⟨"StageFightsModel", "needs", "(II)I"⟩, 41) := ⟨⟨by decide +kernel, by decide +kernel⟩, List.mem_of_getElem? (i := 1148) (by decide +kernel), List.mem_of_getElem? (i := 1584) (by decide +kernel), List.mem_of_getElem? (i := 1585) (by decide +kernel)⟩
theorem lw_p63 : lw_okq (⟨"StageFightsModel", "hasBarred", "()Z"⟩, 41) := ⟨⟨by decide +kernel, by decide +kernel⟩, List.mem_of_getElem? (i := 1148) (by decide +kernel), List.mem_of_getElem? (i := 1596) (by decide +kernel), List.mem_of_getElem? (i := 1597) (by decide +kernel)⟩
def lw_privs_4 : List (MethodName × Nat) := [(⟨"StageFightsModel", "isDigit", "(I)Z"⟩, 41), (⟨"StageFightsModel", "key", "()I"⟩, 41), (⟨"StageFightsModel", "isWordAt", "(IIII)Z"⟩, 41), (⟨"StageFightsModel", "isLong", "(IIIIII)Z"⟩, 41), (⟨"StageFightsModel", "either", "(I)Z"⟩, 41), (⟨"StageFightsModel", "both", "(I)Z"⟩, 41), (⟨"StageFightsModel", "test", "(I)Z"⟩, 41), (⟨"StageFightsModel", "sum", "(I)Z"⟩, 41), (⟨"StageFightsModel", "term", "(I)Z"⟩, 41), (⟨"StageFightsModel", "part0", "(I)Z"⟩, 41), (⟨"StageFightsModel", "step", "(II)V"⟩, 41), (⟨"StageFightsModel", "isSign", "(I)Z"⟩, 41), (⟨"StageFightsModel", "isText", "(I)Z"⟩, 41), (⟨"StageFightsModel", "isTwo", "(II)Z"⟩, 41), (⟨"StageFightsModel", "needs", "(II)I"⟩, 41), (⟨"StageFightsModel", "hasBarred", "()Z"⟩, 41)]
theorem lw_r4 : ∀ q ∈ lw_privs_4, lw_okq q := List.forall_mem_cons.mpr ⟨lw_p48, List.forall_mem_cons.mpr ⟨lw_p49, List.forall_mem_cons.mpr ⟨lw_p50, List.forall_mem_cons.mpr ⟨lw_p51, List.forall_mem_cons.mpr ⟨lw_p52, List.forall_mem_cons.mpr ⟨lw_p53, List.forall_mem_cons.mpr ⟨lw_p54, List.forall_mem_cons.mpr ⟨lw_p55, List.forall_mem_cons.mpr ⟨lw_p56, List.forall_mem_cons.mpr ⟨lw_p57, List.forall_mem_cons.mpr ⟨lw_p58, List.forall_mem_cons.mpr ⟨lw_p59, List.forall_mem_cons.mpr ⟨lw_p60, List.forall_mem_cons.mpr ⟨lw_p61, List.forall_mem_cons.mpr ⟨lw_p62, List.forall_mem_cons.mpr ⟨lw_p63, fun _ h => absurd h List.not_mem_nil⟩⟩⟩⟩⟩⟩⟩⟩⟩⟩⟩⟩⟩⟩⟩⟩
theorem lw_p64 : lw_okq (⟨"StageFightsModel", "lacksHours", "()Z"⟩, 41) := ⟨⟨by decide +kernel, by decide +kernel⟩, List.mem_of_getElem? (i := 1148) (by decide +kernel), List.mem_of_getElem? (i := 1600) (by decide +kernel), List.mem_of_getElem? (i := 1601) (by decide +kernel)⟩
theorem lw_p65 : lw_okq (⟨"StageFightsModel", "choiceOf", "(I)I"⟩, 41) := ⟨⟨by decide +kernel, by decide +kernel⟩, List.mem_of_getElem? (i := 1148) (by decide +kernel), List.mem_of_getElem? (i := 1616) (by decide +kernel), List.mem_of_getElem? (i := 1617) (by decide +kernel)⟩
theorem lw_p66 : lw_okq (⟨"StageFightsModel", "shiftable", "()I"⟩, 41) := ⟨⟨by decide +kernel, by decide +kernel⟩, List.mem_of_getElem? (i := 1148) (by decide +kernel), List.mem_of_getElem? (i := 1625) (by decide +kernel), List.mem_of_getElem? (i := 1626) (by decide +kernel)⟩
theorem lw_p67 : lw_okq (⟨"StageFightsModel", "findShifts", "()V"⟩, 41) := ⟨⟨by decide +kernel, by decide +kernel⟩, List.mem_of_getElem? (i := 1148) (by decide +kernel), List.mem_of_getElem? (i := 1629) (by decide +kernel), List.mem_of_getElem? (i := 1630) (by decide +kernel)⟩
theorem lw_p68 : lw_okq (⟨"StageFightsModel", "holds", "(I)Z"⟩, 41) := ⟨⟨by decide +kernel, by decide +kernel⟩, List.mem_of_getElem? (i := 1148) (by decide +kernel), List.mem_of_getElem? (i := 1633) (by decide +kernel), List.mem_of_getElem? (i := 1634) (by decide +kernel)⟩
theorem lw_p69 : lw_okq (⟨"StageFightsModel", "isApart", "()Z"⟩, 41) := ⟨⟨by decide +kernel, by decide +kernel⟩, List.mem_of_getElem? (i := 1148) (by decide +kernel), List.mem_of_getElem? (i := 1637) (by decide +kernel), List.mem_of_getElem? (i := 1638) (by decide +kernel)⟩
theorem lw_p70 : lw_okq (⟨"StageFightsModel", "weaponAt", "(I)I"⟩, 41) := ⟨⟨by decide +kernel, by decide +kernel⟩, List.mem_of_getElem? (i := 1148) (by decide +kernel), List.mem_of_getElem? (i := 1649) (by decide +kernel), List.mem_of_getElem? (i := 1650) (by decide +kernel)⟩
theorem lw_p71 : lw_okq (⟨"StageFightsModel", "isWeapon", "(I)Z"⟩, 41) := ⟨⟨by decide +kernel, by decide +kernel⟩, List.mem_of_getElem? (i := 1148) (by decide +kernel), List.mem_of_getElem? (i := 1657) (by decide +kernel), List.mem_of_getElem? (i := 1658) (by decide +kernel)⟩
theorem lw_p72 : lw_okq (⟨"StageFightsModel", "oneShow", "()I"⟩, 41) := ⟨⟨by decide +kernel, by decide +kernel⟩, List.mem_of_getElem? (i := 1148) (by decide +kernel), List.mem_of_getElem? (i := 1678) (by decide +kernel), List.mem_of_getElem? (i := 1679) (by decide +kernel)⟩
theorem lw_p73 : lw_okq (⟨"StageFightsModel", "logs", "(II)V"⟩, 41) := ⟨⟨by decide +kernel, by decide +kernel⟩, List.mem_of_getElem? (i := 1148) (by decide +kernel), List.mem_of_getElem? (i := 1683) (by decide +kernel), List.mem_of_getElem? (i := 1684) (by decide +kernel)⟩
theorem lw_p74 : lw_okq (⟨"StageFightsModel", "tire", "()V"⟩, 41) := ⟨⟨by decide +kernel, by decide +kernel⟩, List.mem_of_getElem? (i := 1148) (by decide +kernel), List.mem_of_getElem? (i := 1687) (by decide +kernel), List.mem_of_getElem? (i := 1688) (by decide +kernel)⟩
theorem lw_p75 : lw_okq (⟨"StageFightsModel", "missesOf", "(I)I"⟩, 41) := ⟨⟨by decide +kernel, by decide +kernel⟩, List.mem_of_getElem? (i := 1148) (by decide +kernel), List.mem_of_getElem? (i := 1703) (by decide +kernel), List.mem_of_getElem? (i := 1704) (by decide +kernel)⟩
theorem lw_p76 : lw_okq (⟨"StageFightsModel", "setAside", "([I[I)V"⟩, 41) := ⟨⟨by decide +kernel, by decide +kernel⟩, List.mem_of_getElem? (i := 1148) (by decide +kernel), List.mem_of_getElem? (i := 1756) (by decide +kernel), List.mem_of_getElem? (i := 1757) (by decide +kernel)⟩
def lw_privs_5 : List (MethodName × Nat) := [(⟨"StageFightsModel", "lacksHours", "()Z"⟩, 41), (⟨"StageFightsModel", "choiceOf", "(I)I"⟩, 41), (⟨"StageFightsModel", "shiftable", "()I"⟩, 41), (⟨"StageFightsModel", "findShifts", "()V"⟩, 41), (⟨"StageFightsModel", "holds", "(I)Z"⟩, 41), (⟨"StageFightsModel", "isApart", "()Z"⟩, 41), (⟨"StageFightsModel", "weaponAt", "(I)I"⟩, 41), (⟨"StageFightsModel", "isWeapon", "(I)Z"⟩, 41), (⟨"StageFightsModel", "oneShow", "()I"⟩, 41), (⟨"StageFightsModel", "logs", "(II)V"⟩, 41), (⟨"StageFightsModel", "tire", "()V"⟩, 41), (⟨"StageFightsModel", "missesOf", "(I)I"⟩, 41), (⟨"StageFightsModel", "setAside", "([I[I)V"⟩, 41)]
theorem lw_r5 : ∀ q ∈ lw_privs_5, lw_okq q := List.forall_mem_cons.mpr ⟨lw_p64, List.forall_mem_cons.mpr ⟨lw_p65, List.forall_mem_cons.mpr ⟨lw_p66, List.forall_mem_cons.mpr ⟨lw_p67, List.forall_mem_cons.mpr ⟨lw_p68, List.forall_mem_cons.mpr ⟨lw_p69, List.forall_mem_cons.mpr ⟨lw_p70, List.forall_mem_cons.mpr ⟨lw_p71, List.forall_mem_cons.mpr ⟨lw_p72, List.forall_mem_cons.mpr ⟨lw_p73, List.forall_mem_cons.mpr ⟨lw_p74, List.forall_mem_cons.mpr ⟨lw_p75, List.forall_mem_cons.mpr ⟨lw_p76, fun _ h => absurd h List.not_mem_nil⟩⟩⟩⟩⟩⟩⟩⟩⟩⟩⟩⟩⟩
def lw_privs : List (MethodName × Nat) := lw_privs_1 ++ (lw_privs_2 ++ (lw_privs_3 ++ (lw_privs_4 ++ (lw_privs_5))))
def lw_tbl : List Cond := k2_sels lw_privs ++ tables_1
theorem lw_privs_ok : ∀ q ∈ lw_privs, lw_okq q := by
  show ∀ q ∈ lw_privs_1 ++ (lw_privs_2 ++ (lw_privs_3 ++ (lw_privs_4 ++ (lw_privs_5)))), lw_okq q
  exact List.forall_mem_append.mpr ⟨lw_r1, List.forall_mem_append.mpr ⟨lw_r2, List.forall_mem_append.mpr ⟨lw_r3, List.forall_mem_append.mpr ⟨lw_r4, lw_r5⟩⟩⟩⟩
/-! ===== BEGIN words of one list among another's, by their places ===== -/
theorem goodIn_r {big : List Cond} (ws : List Cond) (ps : List Nat) (hp : ws = ps.filterMap (fun i => big[i]?)) (h : ws.all goodWord = true) : GoodIn big ws := by
  intro w hw
  have h1 := List.all_eq_true.mp h w hw
  rw [hp] at hw
  obtain ⟨i, -, hi⟩ := List.mem_filterMap.mp hw
  have hm : w ∈ big := by first | exact List.mem_of_getElem? hi | exact List.getElem?_mem hi
  exact ⟨hm, good_of_word h1⟩
theorem goodIn_app {big a b : List Cond} (ha : GoodIn big a) (hb : GoodIn big b) : GoodIn big (a ++ b) := fun w h => (List.mem_append.mp h).elim (ha w) (hb w)
theorem goodIn_ca {big a b : List Cond} {c : Cond} (ha : GoodIn big (c :: a)) (hb : GoodIn big b) : GoodIn big (c :: (a ++ b)) := fun w h => (List.mem_cons.mp h).elim (fun e => ha w (List.mem_cons.mpr (Or.inl e))) (fun h => (List.mem_append.mp h).elim (fun h => ha w (List.mem_cons.mpr (Or.inr h))) (hb w))
theorem goodIn_sub {big ws : List Cond} (hm : ∀ w ∈ ws, w ∈ big) (h : ws.all goodWord = true) : GoodIn big ws := fun w hw => ⟨hm w hw, good_of_word (List.all_eq_true.mp h w hw)⟩
/-! ===== END ===== -/

/-! ===== BEGIN printed: names, fields, word lists, decode rows ===== -/
def RX0 : String := "StageFights$Log"
def TX0 : u_T := fun k => match k with
  | 0 => ("StageFights$Log", "cells", "[I", true)
  | 1 => ("StageFights$Log", "misses", "[I", true)
  | _ => ("StageFights$Log", "size", "I", false)
def tyX0 : Nat → FieldType := fun k => match k with
  | 0 => .array .int
  | 1 => .array .int
  | _ => .int
abbrev wsX00 : List Cond := u_ws RX0 TX0 3
theorem nmX0 : ∀ a, a < 3 → ∀ b, b < 3 → a ≠ b → (TX0 a).2.1 ≠ (TX0 b).2.1 := by decide +kernel
theorem tyX0_ok : ∀ k, k < 3 → parseFieldDescriptor (TX0 k).2.2.1 = some (tyX0 k) := by decide +kernel
abbrev cX0_init : ByteArray := prog_2_method_1_code
def yX0_init : MethodName := ⟨RX0, "<init>", "()V"⟩
abbrev cX0_add : ByteArray := prog_2_method_2_code
def yX0_add : MethodName := ⟨RX0, "add", "(III)V"⟩
abbrev cX0_takeFrom : ByteArray := prog_2_method_3_code
def yX0_takeFrom : MethodName := ⟨RX0, "takeFrom", "(LStageFights$Log;)V"⟩
abbrev cX0_mostMissed : ByteArray := prog_2_method_4_code
def yX0_mostMissed : MethodName := ⟨RX0, "mostMissed", "()I"⟩
def RX1 : String := "StageFights$Move"
def TX1 : u_T := fun k => match k with
  | 0 => ("StageFights$Move", "person", "I", false)
  | 1 => ("StageFights$Move", "kind", "I", false)
  | 2 => ("StageFights$Move", "beat", "I", false)
  | 3 => ("StageFights$Move", "length", "I", false)
  | 4 => ("StageFights$Move", "to", "I", false)
  | 5 => ("StageFights$Move", "aim", "I", false)
  | 6 => ("StageFights$Move", "span", "I", false)
  | _ => ("StageFights$Move", "cut", "Z", false)
def tyX1 : Nat → FieldType := fun k => match k with
  | 0 => .int
  | 1 => .int
  | 2 => .int
  | 3 => .int
  | 4 => .int
  | 5 => .int
  | 6 => .int
  | _ => .boolean
abbrev wsX10 : List Cond := u_ws RX1 TX1 8
theorem nmX1 : ∀ a, a < 8 → ∀ b, b < 8 → a ≠ b → (TX1 a).2.1 ≠ (TX1 b).2.1 := by decide +kernel
theorem tyX1_ok : ∀ k, k < 8 → parseFieldDescriptor (TX1 k).2.2.1 = some (tyX1 k) := by decide +kernel
abbrev cX1_init : ByteArray := prog_3_method_1_code
def yX1_init : MethodName := ⟨RX1, "<init>", "()V"⟩
abbrev cX1_become : ByteArray := prog_3_method_2_code
def yX1_become : MethodName := ⟨RX1, "become", "(IIIII)V"⟩
abbrev cX1_takeFrom : ByteArray := prog_3_method_3_code
def yX1_takeFrom : MethodName := ⟨RX1, "takeFrom", "(LStageFights$Move;)V"⟩
abbrev cX1_part : ByteArray := prog_3_method_4_code
def yX1_part : MethodName := ⟨RX1, "part", "(I)I"⟩
abbrev cX1_isBlow : ByteArray := prog_3_method_5_code
def yX1_isBlow : MethodName := ⟨RX1, "isBlow", "()Z"⟩
abbrev cX1_isBlowToDo : ByteArray := prog_3_method_6_code
def yX1_isBlowToDo : MethodName := ⟨RX1, "isBlowToDo", "()Z"⟩
abbrev cX1_goesOn : ByteArray := prog_3_method_7_code
def yX1_goesOn : MethodName := ⟨RX1, "goesOn", "()Z"⟩
abbrev cX1_becomeCut : ByteArray := prog_3_method_8_code
def yX1_becomeCut : MethodName := ⟨RX1, "becomeCut", "(Z)Z"⟩
abbrev cX1_sharesBeat : ByteArray := prog_3_method_9_code
def yX1_sharesBeat : MethodName := ⟨RX1, "sharesBeat", "(LStageFights$Move;)Z"⟩
abbrev cX1_spanTo : ByteArray := prog_3_method_10_code
def yX1_spanTo : MethodName := ⟨RX1, "spanTo", "(I)I"⟩
def RX2 : String := "StageFights$Person"
def TX2 : u_T := fun k => match k with
  | 0 => ("StageFights$Person", "start", "I", false)
  | 1 => ("StageFights$Person", "skill", "I", false)
  | _ => ("StageFights$Person", "tired", "I", false)
def tyX2 : Nat → FieldType := fun k => match k with
  | 0 => .int
  | 1 => .int
  | _ => .int
abbrev wsX20 : List Cond := u_ws RX2 TX2 3
theorem nmX2 : ∀ a, a < 3 → ∀ b, b < 3 → a ≠ b → (TX2 a).2.1 ≠ (TX2 b).2.1 := by decide +kernel
theorem tyX2_ok : ∀ k, k < 3 → parseFieldDescriptor (TX2 k).2.2.1 = some (tyX2 k) := by decide +kernel
abbrev cX2_init : ByteArray := prog_4_method_1_code
def yX2_init : MethodName := ⟨RX2, "<init>", "()V"⟩
abbrev cX2_takeFrom : ByteArray := prog_4_method_2_code
def yX2_takeFrom : MethodName := ⟨RX2, "takeFrom", "(LStageFights$Person;)V"⟩
def RX3 : String := "StageFights$Reader"
def TX3 : u_T := fun k => match k with
  | 0 => ("StageFights$Reader", "tape", "[B", true)
  | 1 => ("StageFights$Reader", "code", "[I", true)
  | 2 => ("StageFights$Reader", "length", "I", false)
  | 3 => ("StageFights$Reader", "end", "I", false)
  | 4 => ("StageFights$Reader", "found", "I", false)
  | 5 => ("StageFights$Reader", "key", "I", false)
  | 6 => ("StageFights$Reader", "steps", "I", false)
  | 7 => ("StageFights$Reader", "leaves", "I", false)
  | _ => ("StageFights$Reader", "at", "I", false)
def tyX3 : Nat → FieldType := fun k => match k with
  | 0 => .array .byte
  | 1 => .array .int
  | 2 => .int
  | 3 => .int
  | 4 => .int
  | 5 => .int
  | 6 => .int
  | 7 => .int
  | _ => .int
abbrev wsX30 : List Cond := u_ws RX3 TX3 9
theorem nmX3 : ∀ a, a < 9 → ∀ b, b < 9 → a ≠ b → (TX3 a).2.1 ≠ (TX3 b).2.1 := by decide +kernel
theorem tyX3_ok : ∀ k, k < 9 → parseFieldDescriptor (TX3 k).2.2.1 = some (tyX3 k) := by decide +kernel
abbrev cX3_init : ByteArray := prog_5_method_1_code
def yX3_init : MethodName := ⟨RX3, "<init>", "([B)V"⟩
abbrev cX3_read : ByteArray := prog_5_method_2_code
def yX3_read : MethodName := ⟨RX3, "read", "(I)LStageFights$Text;"⟩
abbrev cX3_goOn : ByteArray := prog_5_method_3_code
def yX3_goOn : MethodName := ⟨RX3, "goOn", "()V"⟩
abbrev cX3_foundAt : ByteArray := prog_5_method_4_code
def yX3_foundAt : MethodName := ⟨RX3, "foundAt", "(I)I"⟩
abbrev cX3_keyHere : ByteArray := prog_5_method_5_code
def yX3_keyHere : MethodName := ⟨RX3, "keyHere", "()I"⟩
abbrev cX3_isHere : ByteArray := prog_5_method_6_code
def yX3_isHere : MethodName := ⟨RX3, "isHere", "(Ljava/lang/String;)Z"⟩
abbrev cX3_tier : ByteArray := prog_5_method_7_code
def yX3_tier : MethodName := ⟨RX3, "tier", "(III)Z"⟩
abbrev cX3_isJoinOf : ByteArray := prog_5_method_8_code
def yX3_isJoinOf : MethodName := ⟨RX3, "isJoinOf", "(I)Z"⟩
abbrev cX3_piece : ByteArray := prog_5_method_9_code
def yX3_piece : MethodName := ⟨RX3, "piece", "(II)Z"⟩
abbrev cX3_isSign : ByteArray := prog_5_method_10_code
def yX3_isSign : MethodName := ⟨RX3, "isSign", "(C)Z"⟩
abbrev cX3_numberHere : ByteArray := prog_5_method_11_code
def yX3_numberHere : MethodName := ⟨RX3, "numberHere", "()I"⟩
abbrev cX3_nameHere : ByteArray := prog_5_method_12_code
def yX3_nameHere : MethodName := ⟨RX3, "nameHere", "()I"⟩
abbrev cX3_note : ByteArray := prog_5_method_13_code
def yX3_note : MethodName := ⟨RX3, "note", "(I)V"⟩
def RX4 : String := "StageFights$Scene"
def TX4 : u_T := fun k => match k with
  | 0 => ("StageFights$Scene", "people", "[LStageFights$Person;", true)
  | 1 => ("StageFights$Scene", "moves", "[LStageFights$Move;", true)
  | 2 => ("StageFights$Scene", "signPerson", "[I", true)
  | 3 => ("StageFights$Scene", "signBeat", "[I", true)
  | 4 => ("StageFights$Scene", "texts", "[LStageFights$Text;", true)
  | 5 => ("StageFights$Scene", "practised", "[I", true)
  | 6 => ("StageFights$Scene", "chosen", "[I", true)
  | 7 => ("StageFights$Scene", "wear", "[I", true)
  | 8 => ("StageFights$Scene", "holder", "[I", true)
  | 9 => ("StageFights$Scene", "log", "LStageFights$Log;", true)
  | 10 => ("StageFights$Scene", "peopleCount", "I", false)
  | 11 => ("StageFights$Scene", "moveCount", "I", false)
  | 12 => ("StageFights$Scene", "signCount", "I", false)
  | 13 => ("StageFights$Scene", "textCount", "I", false)
  | 14 => ("StageFights$Scene", "chosenCount", "I", false)
  | 15 => ("StageFights$Scene", "weaponCount", "I", false)
  | 16 => ("StageFights$Scene", "wet", "I", false)
  | 17 => ("StageFights$Scene", "shows", "I", false)
  | _ => ("StageFights$Scene", "z", "I", false)
def tyX4 : Nat → FieldType := fun k => match k with
  | 0 => .array (.object "StageFights$Person")
  | 1 => .array (.object "StageFights$Move")
  | 2 => .array .int
  | 3 => .array .int
  | 4 => .array (.object "StageFights$Text")
  | 5 => .array .int
  | 6 => .array .int
  | 7 => .array .int
  | 8 => .array .int
  | 9 => .object "StageFights$Log"
  | 10 => .int
  | 11 => .int
  | 12 => .int
  | 13 => .int
  | 14 => .int
  | 15 => .int
  | 16 => .int
  | 17 => .int
  | _ => .int
abbrev wsX40 : List Cond := u_ws RX4 TX4 19
theorem nmX4 : ∀ a, a < 19 → ∀ b, b < 19 → a ≠ b → (TX4 a).2.1 ≠ (TX4 b).2.1 := by decide +kernel
theorem tyX4_ok : ∀ k, k < 19 → parseFieldDescriptor (TX4 k).2.2.1 = some (tyX4 k) := by decide +kernel
abbrev cX4_init : ByteArray := prog_6_method_1_code
def yX4_init : MethodName := ⟨RX4, "<init>", "()V"⟩
abbrev cX4_takeFrom : ByteArray := prog_6_method_2_code
def yX4_takeFrom : MethodName := ⟨RX4, "takeFrom", "(LStageFights$Scene;)V"⟩
abbrev cX4_hasPerson : ByteArray := prog_6_method_3_code
def yX4_hasPerson : MethodName := ⟨RX4, "hasPerson", "(I)Z"⟩
abbrev cX4_hasMove : ByteArray := prog_6_method_4_code
def yX4_hasMove : MethodName := ⟨RX4, "hasMove", "(I)Z"⟩
abbrev cX4_hasWeapon : ByteArray := prog_6_method_5_code
def yX4_hasWeapon : MethodName := ⟨RX4, "hasWeapon", "(I)Z"⟩
abbrev cX4_areTwo : ByteArray := prog_6_method_6_code
def yX4_areTwo : MethodName := ⟨RX4, "areTwo", "(II)Z"⟩
abbrev cX4_addPerson : ByteArray := prog_6_method_7_code
def yX4_addPerson : MethodName := ⟨RX4, "addPerson", "(II)I"⟩
abbrev cX4_tiredTogether : ByteArray := prog_6_method_8_code
def yX4_tiredTogether : MethodName := ⟨RX4, "tiredTogether", "()I"⟩
abbrev cX4_cutMoves : ByteArray := prog_6_method_9_code
def yX4_cutMoves : MethodName := ⟨RX4, "cutMoves", "()I"⟩
abbrev cX4_blows : ByteArray := prog_6_method_10_code
def yX4_blows : MethodName := ⟨RX4, "blows", "()I"⟩
abbrev cX4_meetsAnother : ByteArray := prog_6_method_11_code
def yX4_meetsAnother : MethodName := ⟨RX4, "meetsAnother", "(I)Z"⟩
abbrev cX4_nextGoing : ByteArray := prog_6_method_12_code
def yX4_nextGoing : MethodName := ⟨RX4, "nextGoing", "(II)LStageFights$Move;"⟩
abbrev cX4_unreadyBlows : ByteArray := prog_6_method_13_code
def yX4_unreadyBlows : MethodName := ⟨RX4, "unreadyBlows", "()I"⟩
abbrev cX4_isUnready : ByteArray := prog_6_method_14_code
def yX4_isUnready : MethodName := ⟨RX4, "isUnready", "(LStageFights$Move;)Z"⟩
abbrev cX4_lawOf : ByteArray := prog_6_method_15_code
def yX4_lawOf : MethodName := ⟨RX4, "lawOf", "(I)LStageFights$Text;"⟩
abbrev cX4_lateOf : ByteArray := prog_6_method_16_code
def yX4_lateOf : MethodName := ⟨RX4, "lateOf", "(I)I"⟩
abbrev cX4_isBarred : ByteArray := prog_6_method_17_code
def yX4_isBarred : MethodName := ⟨RX4, "isBarred", "(LStageFights$Move;)Z"⟩
abbrev cX4_hasBarred : ByteArray := prog_6_method_18_code
def yX4_hasBarred : MethodName := ⟨RX4, "hasBarred", "()Z"⟩
abbrev cX4_hoursNeeded : ByteArray := prog_6_method_19_code
def yX4_hoursNeeded : MethodName := ⟨RX4, "hoursNeeded", "(II)I"⟩
abbrev cX4_lacksHours : ByteArray := prog_6_method_20_code
def yX4_lacksHours : MethodName := ⟨RX4, "lacksHours", "()Z"⟩
abbrev cX4_chosenPlace : ByteArray := prog_6_method_21_code
def yX4_chosenPlace : MethodName := ⟨RX4, "chosenPlace", "(I)I"⟩
abbrev cX4_isDull : ByteArray := prog_6_method_22_code
def yX4_isDull : MethodName := ⟨RX4, "isDull", "(I)Z"⟩
abbrev cX4_weaponOf : ByteArray := prog_6_method_23_code
def yX4_weaponOf : MethodName := ⟨RX4, "weaponOf", "(I)I"⟩
abbrev cX4_weaponsOut : ByteArray := prog_6_method_24_code
def yX4_weaponsOut : MethodName := ⟨RX4, "weaponsOut", "()I"⟩
abbrev cX4_endShow : ByteArray := prog_6_method_25_code
def yX4_endShow : MethodName := ⟨RX4, "endShow", "()V"⟩
abbrev cX4_tireAndWear : ByteArray := prog_6_method_26_code
def yX4_tireAndWear : MethodName := ⟨RX4, "tireAndWear", "(I)V"⟩
def RX5 : String := "StageFights$Sheet"
def TX5 : u_T := fun k => match k with
  | 0 => ("StageFights$Sheet", "cells", "[B", true)
  | 1 => ("StageFights$Sheet", "sort", "I", false)
  | _ => ("StageFights$Sheet", "size", "I", false)
def tyX5 : Nat → FieldType := fun k => match k with
  | 0 => .array .byte
  | 1 => .int
  | _ => .int
abbrev wsX50 : List Cond := u_ws RX5 TX5 3
theorem nmX5 : ∀ a, a < 3 → ∀ b, b < 3 → a ≠ b → (TX5 a).2.1 ≠ (TX5 b).2.1 := by decide +kernel
theorem tyX5_ok : ∀ k, k < 3 → parseFieldDescriptor (TX5 k).2.2.1 = some (tyX5 k) := by decide +kernel
abbrev cX5_init : ByteArray := prog_7_method_1_code
def yX5_init : MethodName := ⟨RX5, "<init>", "()V"⟩
abbrev cX5_isMissing : ByteArray := prog_7_method_2_code
def yX5_isMissing : MethodName := ⟨RX5, "isMissing", "()Z"⟩
abbrev cX5_become : ByteArray := prog_7_method_3_code
def yX5_become : MethodName := ⟨RX5, "become", "(II)V"⟩
abbrev cX5_takeFrom : ByteArray := prog_7_method_4_code
def yX5_takeFrom : MethodName := ⟨RX5, "takeFrom", "(LStageFights$Sheet;)V"⟩
abbrev cX5_hasPlace : ByteArray := prog_7_method_5_code
def yX5_hasPlace : MethodName := ⟨RX5, "hasPlace", "(I)Z"⟩
abbrev cX5_hasPlaces : ByteArray := prog_7_method_6_code
def yX5_hasPlaces : MethodName := ⟨RX5, "hasPlaces", "(II)Z"⟩
abbrev cX5_put : ByteArray := prog_7_method_7_code
def yX5_put : MethodName := ⟨RX5, "put", "(II)V"⟩
def RX6 : String := "StageFights$Shifter"
def TX6 : u_T := fun k => match k with
  | 0 => ("StageFights$Shifter", "trial", "LStageFights$Scene;", true)
  | 1 => ("StageFights$Shifter", "stage", "LStageFights$Stage;", true)
  | 2 => ("StageFights$Shifter", "beats", "[I", true)
  | 3 => ("StageFights$Shifter", "many", "I", false)
  | 4 => ("StageFights$Shifter", "broken", "I", false)
  | _ => ("StageFights$Shifter", "by", "[I", true)
def tyX6 : Nat → FieldType := fun k => match k with
  | 0 => .object "StageFights$Scene"
  | 1 => .object "StageFights$Stage"
  | 2 => .array .int
  | 3 => .int
  | 4 => .int
  | _ => .array .int
abbrev wsX60 : List Cond := u_ws RX6 TX6 6
theorem nmX6 : ∀ a, a < 6 → ∀ b, b < 6 → a ≠ b → (TX6 a).2.1 ≠ (TX6 b).2.1 := by decide +kernel
theorem tyX6_ok : ∀ k, k < 6 → parseFieldDescriptor (TX6 k).2.2.1 = some (tyX6 k) := by decide +kernel
abbrev cX6_init : ByteArray := prog_8_method_1_code
def yX6_init : MethodName := ⟨RX6, "<init>", "(LStageFights$Scene;LStageFights$Stage;)V"⟩
abbrev cX6_seek : ByteArray := prog_8_method_2_code
def yX6_seek : MethodName := ⟨RX6, "seek", "(LStageFights$Scene;)I"⟩
abbrev cX6_moveOn : ByteArray := prog_8_method_3_code
def yX6_moveOn : MethodName := ⟨RX6, "moveOn", "(LStageFights$Scene;)V"⟩
abbrev cX6_isToTry : ByteArray := prog_8_method_4_code
def yX6_isToTry : MethodName := ⟨RX6, "isToTry", "(III)Z"⟩
abbrev cX6_stands : ByteArray := prog_8_method_5_code
def yX6_stands : MethodName := ⟨RX6, "stands", "()Z"⟩
def RX7 : String := "StageFights$Slot"
def TX7 : u_T := fun k => match k with
  | 0 => ("StageFights$Slot", "row", "LStageFights$Sheet;", true)
  | 1 => ("StageFights$Slot", "thing", "I", false)
  | 2 => ("StageFights$Slot", "kind", "I", false)
  | _ => ("StageFights$Slot", "number", "I", false)
def tyX7 : Nat → FieldType := fun k => match k with
  | 0 => .object "StageFights$Sheet"
  | 1 => .int
  | 2 => .int
  | _ => .int
abbrev wsX70 : List Cond := u_ws RX7 TX7 4
theorem nmX7 : ∀ a, a < 4 → ∀ b, b < 4 → a ≠ b → (TX7 a).2.1 ≠ (TX7 b).2.1 := by decide +kernel
theorem tyX7_ok : ∀ k, k < 4 → parseFieldDescriptor (TX7 k).2.2.1 = some (tyX7 k) := by decide +kernel
abbrev cX7_init : ByteArray := prog_9_method_1_code
def yX7_init : MethodName := ⟨RX7, "<init>", "()V"⟩
abbrev cX7_findingOn : ByteArray := prog_9_method_2_code
def yX7_findingOn : MethodName := ⟨RX7, "findingOn", "(I)I"⟩
def RX8 : String := "StageFights$Stage"
def TX8 : u_T := fun k => match k with
  | 0 => ("StageFights$Stage", "xs", "[I", true)
  | 1 => ("StageFights$Stage", "ys", "[I", true)
  | 2 => ("StageFights$Stage", "lates", "[I", true)
  | 3 => ("StageFights$Stage", "drawn", "[I", true)
  | _ => ("StageFights$Stage", "scene", "LStageFights$Scene;", false)
def tyX8 : Nat → FieldType := fun k => match k with
  | 0 => .array .int
  | 1 => .array .int
  | 2 => .array .int
  | 3 => .array .int
  | _ => .object "StageFights$Scene"
abbrev wsX80 : List Cond := u_ws RX8 TX8 5
theorem nmX8 : ∀ a, a < 5 → ∀ b, b < 5 → a ≠ b → (TX8 a).2.1 ≠ (TX8 b).2.1 := by decide +kernel
theorem tyX8_ok : ∀ k, k < 5 → parseFieldDescriptor (TX8 k).2.2.1 = some (tyX8 k) := by decide +kernel
abbrev cX8_init : ByteArray := prog_10_method_1_code
def yX8_init : MethodName := ⟨RX8, "<init>", "(LStageFights$Scene;)V"⟩
abbrev cX8_look : ByteArray := prog_10_method_2_code
def yX8_look : MethodName := ⟨RX8, "look", "(LStageFights$Scene;)V"⟩
abbrev cX8_trace : ByteArray := prog_10_method_3_code
def yX8_trace : MethodName := ⟨RX8, "trace", "(I)V"⟩
abbrev cX8_stay : ByteArray := prog_10_method_4_code
def yX8_stay : MethodName := ⟨RX8, "stay", "(IIII)V"⟩
abbrev cX8_go : ByteArray := prog_10_method_5_code
def yX8_go : MethodName := ⟨RX8, "go", "(LStageFights$Move;I)V"⟩
abbrev cX8_spotAt : ByteArray := prog_10_method_6_code
def yX8_spotAt : MethodName := ⟨RX8, "spotAt", "(II)I"⟩
abbrev cX8_placeAt : ByteArray := prog_10_method_7_code
def yX8_placeAt : MethodName := ⟨RX8, "placeAt", "(II)I"⟩
abbrev cX8_leastGap : ByteArray := prog_10_method_8_code
def yX8_leastGap : MethodName := ⟨RX8, "leastGap", "(LStageFights$Move;III)I"⟩
abbrev cX8_gapTo : ByteArray := prog_10_method_9_code
def yX8_gapTo : MethodName := ⟨RX8, "gapTo", "(LStageFights$Move;I)I"⟩
abbrev cX8_tooNearTo : ByteArray := prog_10_method_10_code
def yX8_tooNearTo : MethodName := ⟨RX8, "tooNearTo", "(LStageFights$Move;)I"⟩
abbrev cX8_firstBreach : ByteArray := prog_10_method_11_code
def yX8_firstBreach : MethodName := ⟨RX8, "firstBreach", "()I"⟩
abbrev cX8_isSeen : ByteArray := prog_10_method_12_code
def yX8_isSeen : MethodName := ⟨RX8, "isSeen", "(LStageFights$Move;)Z"⟩
abbrev cX8_play : ByteArray := prog_10_method_13_code
def yX8_play : MethodName := ⟨RX8, "play", "()I"⟩
abbrev cX8_missesOf : ByteArray := prog_10_method_14_code
def yX8_missesOf : MethodName := ⟨RX8, "missesOf", "(I)I"⟩
def RX9 : String := "StageFights$Text"
def TX9 : u_T := fun k => match k with
  | 0 => ("StageFights$Text", "key", "I", true)
  | 1 => ("StageFights$Text", "leaves", "I", true)
  | 2 => ("StageFights$Text", "code", "[I", true)
  | _ => ("StageFights$Text", "stack", "[I", true)
def tyX9 : Nat → FieldType := fun k => match k with
  | 0 => .int
  | 1 => .int
  | 2 => .array .int
  | _ => .array .int
abbrev wsX90 : List Cond := u_ws RX9 TX9 4
theorem nmX9 : ∀ a, a < 4 → ∀ b, b < 4 → a ≠ b → (TX9 a).2.1 ≠ (TX9 b).2.1 := by decide +kernel
theorem tyX9_ok : ∀ k, k < 4 → parseFieldDescriptor (TX9 k).2.2.1 = some (tyX9 k) := by decide +kernel
abbrev cX9_init : ByteArray := prog_11_method_1_code
def yX9_init : MethodName := ⟨RX9, "<init>", "(II[I)V"⟩
abbrev cX9_value : ByteArray := prog_11_method_2_code
def yX9_value : MethodName := ⟨RX9, "value", "(IIII)I"⟩
abbrev cX9_named : ByteArray := prog_11_method_3_code
def yX9_named : MethodName := ⟨RX9, "named", "(IIIII)I"⟩
abbrev cX9_joined : ByteArray := prog_11_method_4_code
def yX9_joined : MethodName := ⟨RX9, "joined", "(III)I"⟩
def RX10 : String := "StageFights"
def TX10 : u_T := fun k => match k with
  | 0 => ("StageFights", "now", "LStageFights$Scene;", true)
  | 1 => ("StageFights", "image", "LStageFights$Scene;", true)
  | 2 => ("StageFights", "trial", "LStageFights$Scene;", true)
  | 3 => ("StageFights", "stage", "LStageFights$Stage;", true)
  | 4 => ("StageFights", "shifter", "LStageFights$Shifter;", true)
  | 5 => ("StageFights", "tape", "[B", true)
  | 6 => ("StageFights", "reader", "LStageFights$Reader;", true)
  | 7 => ("StageFights", "waiting", "[I", true)
  | 8 => ("StageFights", "sheets", "[LStageFights$Sheet;", true)
  | 9 => ("StageFights", "slots", "[LStageFights$Slot;", true)
  | 10 => ("StageFights", "tapeLength", "I", false)
  | 11 => ("StageFights", "waitingCount", "I", false)
  | _ => ("StageFights", "imageKept", "Z", false)
def tyX10 : Nat → FieldType := fun k => match k with
  | 0 => .object "StageFights$Scene"
  | 1 => .object "StageFights$Scene"
  | 2 => .object "StageFights$Scene"
  | 3 => .object "StageFights$Stage"
  | 4 => .object "StageFights$Shifter"
  | 5 => .array .byte
  | 6 => .object "StageFights$Reader"
  | 7 => .array .int
  | 8 => .array (.object "StageFights$Sheet")
  | 9 => .array (.object "StageFights$Slot")
  | 10 => .int
  | 11 => .int
  | _ => .boolean
abbrev wsX100 : List Cond := u_ws RX10 TX10 13
theorem nmX10 : ∀ a, a < 13 → ∀ b, b < 13 → a ≠ b → (TX10 a).2.1 ≠ (TX10 b).2.1 := by decide +kernel
theorem tyX10_ok : ∀ k, k < 13 → parseFieldDescriptor (TX10 k).2.2.1 = some (tyX10 k) := by decide +kernel
abbrev cX10_init : ByteArray := prog_1_method_1_code
def yX10_init : MethodName := ⟨RX10, "<init>", "()V"⟩
abbrev cX10_person : ByteArray := prog_1_method_2_code
def yX10_person : MethodName := ⟨RX10, "person", "(II)I"⟩
abbrev cX10_told : ByteArray := prog_1_method_3_code
def yX10_told : MethodName := ⟨RX10, "told", "(II)I"⟩
abbrev cX10_set : ByteArray := prog_1_method_4_code
def yX10_set : MethodName := ⟨RX10, "set", "(III)I"⟩
abbrev cX10_move : ByteArray := prog_1_method_5_code
def yX10_move : MethodName := ⟨RX10, "move", "(IIIII)I"⟩
abbrev cX10_of : ByteArray := prog_1_method_6_code
def yX10_of : MethodName := ⟨RX10, "of", "(II)I"⟩
abbrev cX10_as : ByteArray := prog_1_method_7_code
def yX10_as : MethodName := ⟨RX10, "as", "(II)I"⟩
abbrev cX10_cut : ByteArray := prog_1_method_8_code
def yX10_cut : MethodName := ⟨RX10, "cut", "(IZ)I"⟩
abbrev cX10_wet : ByteArray := prog_1_method_9_code
def yX10_wet : MethodName := ⟨RX10, "wet", "(I)I"⟩
abbrev cX10_where : ByteArray := prog_1_method_10_code
def yX10_where : MethodName := ⟨RX10, "where", "(II)I"⟩
abbrev cX10_gap : ByteArray := prog_1_method_11_code
def yX10_gap : MethodName := ⟨RX10, "gap", "(II)I"⟩
abbrev cX10_keeps : ByteArray := prog_1_method_12_code
def yX10_keeps : MethodName := ⟨RX10, "keeps", "(I)I"⟩
abbrev cX10_breach : ByteArray := prog_1_method_13_code
def yX10_breach : MethodName := ⟨RX10, "breach", "(I)I"⟩
abbrev cX10_sign : ByteArray := prog_1_method_14_code
def yX10_sign : MethodName := ⟨RX10, "sign", "(II)I"⟩
abbrev cX10_unready : ByteArray := prog_1_method_15_code
def yX10_unready : MethodName := ⟨RX10, "unready", "(I)I"⟩
abbrev cX10_seen : ByteArray := prog_1_method_16_code
def yX10_seen : MethodName := ⟨RX10, "seen", "(I)I"⟩
abbrev cX10_story : ByteArray := prog_1_method_17_code
def yX10_story : MethodName := ⟨RX10, "story", "()I"⟩
abbrev cX10_feed : ByteArray := prog_1_method_18_code
def yX10_feed : MethodName := ⟨RX10, "feed", "(III)I"⟩
abbrev cX10_trim : ByteArray := prog_1_method_19_code
def yX10_trim : MethodName := ⟨RX10, "trim", "(I)I"⟩
abbrev cX10_text : ByteArray := prog_1_method_20_code
def yX10_text : MethodName := ⟨RX10, "text", "()I"⟩
abbrev cX10_textTold : ByteArray := prog_1_method_21_code
def yX10_textTold : MethodName := ⟨RX10, "textTold", "(II)I"⟩
abbrev cX10_hours : ByteArray := prog_1_method_22_code
def yX10_hours : MethodName := ⟨RX10, "hours", "(III)I"⟩
abbrev cX10_practise : ByteArray := prog_1_method_23_code
def yX10_practise : MethodName := ⟨RX10, "practise", "(III)I"⟩
abbrev cX10_may : ByteArray := prog_1_method_24_code
def yX10_may : MethodName := ⟨RX10, "may", "()I"⟩
abbrev cX10_choose : ByteArray := prog_1_method_25_code
def yX10_choose : MethodName := ⟨RX10, "choose", "(I)I"⟩
abbrev cX10_clear : ByteArray := prog_1_method_26_code
def yX10_clear : MethodName := ⟨RX10, "clear", "()I"⟩
abbrev cX10_understudy : ByteArray := prog_1_method_27_code
def yX10_understudy : MethodName := ⟨RX10, "understudy", "(III)I"⟩
abbrev cX10_shifts : ByteArray := prog_1_method_28_code
def yX10_shifts : MethodName := ⟨RX10, "shifts", "(I)I"⟩
abbrev cX10_shift : ByteArray := prog_1_method_29_code
def yX10_shift : MethodName := ⟨RX10, "shift", "()I"⟩
abbrev cX10_weapon : ByteArray := prog_1_method_30_code
def yX10_weapon : MethodName := ⟨RX10, "weapon", "()I"⟩
abbrev cX10_out : ByteArray := prog_1_method_31_code
def yX10_out : MethodName := ⟨RX10, "out", "(II)I"⟩
abbrev cX10_in : ByteArray := prog_1_method_32_code
def yX10_in : MethodName := ⟨RX10, "in", "(I)I"⟩
abbrev cX10_wear : ByteArray := prog_1_method_33_code
def yX10_wear : MethodName := ⟨RX10, "wear", "(II)I"⟩
abbrev cX10_seed : ByteArray := prog_1_method_34_code
def yX10_seed : MethodName := ⟨RX10, "seed", "(I)I"⟩
abbrev cX10_show : ByteArray := prog_1_method_35_code
def yX10_show : MethodName := ⟨RX10, "show", "(I)I"⟩
abbrev cX10_restAll : ByteArray := prog_1_method_36_code
def yX10_restAll : MethodName := ⟨RX10, "restAll", "()I"⟩
abbrev cX10_log : ByteArray := prog_1_method_37_code
def yX10_log : MethodName := ⟨RX10, "log", "(II)I"⟩
abbrev cX10_led : ByteArray := prog_1_method_38_code
def yX10_led : MethodName := ⟨RX10, "led", "()I"⟩
abbrev cX10_sheet : ByteArray := prog_1_method_39_code
def yX10_sheet : MethodName := ⟨RX10, "sheet", "(III)I"⟩
abbrev cX10_mark : ByteArray := prog_1_method_40_code
def yX10_mark : MethodName := ⟨RX10, "mark", "(III)I"⟩
abbrev cX10_cuts : ByteArray := prog_1_method_41_code
def yX10_cuts : MethodName := ⟨RX10, "cuts", "(I)I"⟩
abbrev cX10_copy : ByteArray := prog_1_method_42_code
def yX10_copy : MethodName := ⟨RX10, "copy", "(IIIII)I"⟩
abbrev cX10_lay : ByteArray := prog_1_method_43_code
def yX10_lay : MethodName := ⟨RX10, "lay", "(III)I"⟩
abbrev cX10_ask : ByteArray := prog_1_method_44_code
def yX10_ask : MethodName := ⟨RX10, "ask", "(II)I"⟩
abbrev cX10_item : ByteArray := prog_1_method_45_code
def yX10_item : MethodName := ⟨RX10, "item", "(II)I"⟩
abbrev cX10_rest : ByteArray := prog_1_method_46_code
def yX10_rest : MethodName := ⟨RX10, "rest", "(II)I"⟩
abbrev cX10_tell : ByteArray := prog_1_method_47_code
def yX10_tell : MethodName := ⟨RX10, "tell", "(I)I"⟩
abbrev cX10_check : ByteArray := prog_1_method_48_code
def yX10_check : MethodName := ⟨RX10, "check", "(I)I"⟩
abbrev cX10_keep : ByteArray := prog_1_method_49_code
def yX10_keep : MethodName := ⟨RX10, "keep", "()I"⟩
abbrev cX10_back : ByteArray := prog_1_method_50_code
def yX10_back : MethodName := ⟨RX10, "back", "()I"⟩
abbrev cX10_count : ByteArray := prog_1_method_51_code
def yX10_count : MethodName := ⟨RX10, "count", "(I)I"⟩
abbrev cX10_refusalOfBlow : ByteArray := prog_1_method_52_code
def yX10_refusalOfBlow : MethodName := ⟨RX10, "refusalOfBlow", "(I)I"⟩
abbrev cX10_feedOne : ByteArray := prog_1_method_53_code
def yX10_feedOne : MethodName := ⟨RX10, "feedOne", "(I)V"⟩
abbrev cX10_isWithin : ByteArray := prog_1_method_54_code
def yX10_isWithin : MethodName := ⟨RX10, "isWithin", "(III)Z"⟩
abbrev cX10_held : ByteArray := prog_1_method_55_code
def yX10_held : MethodName := ⟨RX10, "held", "(III)I"⟩
abbrev cX10_asInt : ByteArray := prog_1_method_56_code
def yX10_asInt : MethodName := ⟨RX10, "asInt", "(Z)I"⟩
abbrev cX10_isPlace : ByteArray := prog_1_method_57_code
def yX10_isPlace : MethodName := ⟨RX10, "isPlace", "(I)Z"⟩
abbrev cX10_isTime : ByteArray := prog_1_method_58_code
def yX10_isTime : MethodName := ⟨RX10, "isTime", "(I)Z"⟩
abbrev cX10_isKind : ByteArray := prog_1_method_59_code
def yX10_isKind : MethodName := ⟨RX10, "isKind", "(I)Z"⟩
abbrev cX10_isOfKind : ByteArray := prog_1_method_60_code
def yX10_isOfKind : MethodName := ⟨RX10, "isOfKind", "(II)Z"⟩
abbrev cX10_isSheet : ByteArray := prog_1_method_61_code
def yX10_isSheet : MethodName := ⟨RX10, "isSheet", "(I)Z"⟩
abbrev cX10_isSlot : ByteArray := prog_1_method_62_code
def yX10_isSlot : MethodName := ⟨RX10, "isSlot", "(I)Z"⟩
def RX11 : String := "StageFightsModel"
def TX11 : u_T := fun k => match k with
  | 0 => ("StageFightsModel", "s", "[I", true)
  | 1 => ("StageFightsModel", "image", "[I", true)
  | 2 => ("StageFightsModel", "aside", "[I", true)
  | 3 => ("StageFightsModel", "hasImage", "Z", false)
  | 4 => ("StageFightsModel", "tSort", "[I", true)
  | 5 => ("StageFightsModel", "tSize", "[I", true)
  | 6 => ("StageFightsModel", "tNumber", "[I", true)
  | 7 => ("StageFightsModel", "held", "[I", true)
  | 8 => ("StageFightsModel", "heldNumber", "[I", true)
  | 9 => ("StageFightsModel", "heldSize", "[I", true)
  | 10 => ("StageFightsModel", "heldRow", "[I", true)
  | 11 => ("StageFightsModel", "reaches", "[I", true)
  | 12 => ("StageFightsModel", "worths", "[I", true)
  | 13 => ("StageFightsModel", "tires", "[I", true)
  | 14 => ("StageFightsModel", "wears", "[I", true)
  | 15 => ("StageFightsModel", "places", "[I", true)
  | 16 => ("StageFightsModel", "order", "[I", true)
  | 17 => ("StageFightsModel", "isPlaced", "Z", false)
  | 18 => ("StageFightsModel", "isShifted", "Z", false)
  | 19 => ("StageFightsModel", "lates", "[I", true)
  | 20 => ("StageFightsModel", "tape", "[I", true)
  | 21 => ("StageFightsModel", "taped", "I", false)
  | 22 => ("StageFightsModel", "begin", "I", false)
  | 23 => ("StageFightsModel", "behind", "I", false)
  | 24 => ("StageFightsModel", "token", "I", false)
  | 25 => ("StageFightsModel", "number", "I", false)
  | 26 => ("StageFightsModel", "letter", "I", false)
  | 27 => ("StageFightsModel", "deep", "I", false)
  | 28 => ("StageFightsModel", "turned", "I", false)
  | 29 => ("StageFightsModel", "laid", "I", false)
  | 30 => ("StageFightsModel", "laidAt", "I", false)
  | 31 => ("StageFightsModel", "said", "I", false)
  | 32 => ("StageFightsModel", "named", "[I", true)
  | 33 => ("StageFightsModel", "pile", "[I", true)
  | 34 => ("StageFightsModel", "shiftSum", "I", false)
  | 35 => ("StageFightsModel", "shiftBy", "[I", true)
  | 36 => ("StageFightsModel", "beatWas", "[I", true)
  | 37 => ("StageFightsModel", "carried", "[I", true)
  | 38 => ("StageFightsModel", "waits", "[I", true)
  | 39 => ("StageFightsModel", "waiting", "I", false)
  | _ => ("StageFightsModel", "row", "[I", true)
def tyX11 : Nat → FieldType := fun k => match k with
  | 0 => .array .int
  | 1 => .array .int
  | 2 => .array .int
  | 3 => .boolean
  | 4 => .array .int
  | 5 => .array .int
  | 6 => .array .int
  | 7 => .array .int
  | 8 => .array .int
  | 9 => .array .int
  | 10 => .array .int
  | 11 => .array .int
  | 12 => .array .int
  | 13 => .array .int
  | 14 => .array .int
  | 15 => .array .int
  | 16 => .array .int
  | 17 => .boolean
  | 18 => .boolean
  | 19 => .array .int
  | 20 => .array .int
  | 21 => .int
  | 22 => .int
  | 23 => .int
  | 24 => .int
  | 25 => .int
  | 26 => .int
  | 27 => .int
  | 28 => .int
  | 29 => .int
  | 30 => .int
  | 31 => .int
  | 32 => .array .int
  | 33 => .array .int
  | 34 => .int
  | 35 => .array .int
  | 36 => .array .int
  | 37 => .array .int
  | 38 => .array .int
  | 39 => .int
  | _ => .array .int
abbrev wsX110 : List Cond := u_ws RX11 TX11 41
theorem nmX11 : ∀ a, a < 41 → ∀ b, b < 41 → a ≠ b → (TX11 a).2.1 ≠ (TX11 b).2.1 := by decide +kernel
theorem tyX11_ok : ∀ k, k < 41 → parseFieldDescriptor (TX11 k).2.2.1 = some (tyX11 k) := by decide +kernel
abbrev cX11_init : ByteArray := prog_13_method_1_code
def yX11_init : MethodName := ⟨RX11, "<init>", "()V"⟩
abbrev cX11_isIn : ByteArray := prog_13_method_2_code
def yX11_isIn : MethodName := ⟨RX11, "isIn", "(JJJ)Z"⟩
abbrev cX11_orNone : ByteArray := prog_13_method_3_code
def yX11_orNone : MethodName := ⟨RX11, "orNone", "(I)I"⟩
abbrev cX11_least : ByteArray := prog_13_method_4_code
def yX11_least : MethodName := ⟨RX11, "least", "(II)I"⟩
abbrev cX11_heldIn : ByteArray := prog_13_method_5_code
def yX11_heldIn : MethodName := ⟨RX11, "heldIn", "(II)I"⟩
abbrev cX11_becomes : ByteArray := prog_13_method_6_code
def yX11_becomes : MethodName := ⟨RX11, "becomes", "(II)I"⟩
abbrev cX11_personAt : ByteArray := prog_13_method_7_code
def yX11_personAt : MethodName := ⟨RX11, "personAt", "(I)I"⟩
abbrev cX11_moveAt : ByteArray := prog_13_method_8_code
def yX11_moveAt : MethodName := ⟨RX11, "moveAt", "(I)I"⟩
abbrev cX11_weaponAt : ByteArray := prog_13_method_9_code
def yX11_weaponAt : MethodName := ⟨RX11, "weaponAt", "(I)I"⟩
abbrev cX11_textAt : ByteArray := prog_13_method_10_code
def yX11_textAt : MethodName := ⟨RX11, "textAt", "(I)I"⟩
abbrev cX11_isPerson : ByteArray := prog_13_method_11_code
def yX11_isPerson : MethodName := ⟨RX11, "isPerson", "(I)Z"⟩
abbrev cX11_isMove : ByteArray := prog_13_method_12_code
def yX11_isMove : MethodName := ⟨RX11, "isMove", "(I)Z"⟩
abbrev cX11_isWeapon : ByteArray := prog_13_method_13_code
def yX11_isWeapon : MethodName := ⟨RX11, "isWeapon", "(I)Z"⟩
abbrev cX11_isText : ByteArray := prog_13_method_14_code
def yX11_isText : MethodName := ⟨RX11, "isText", "(I)Z"⟩
abbrev cX11_isPlace : ByteArray := prog_13_method_15_code
def yX11_isPlace : MethodName := ⟨RX11, "isPlace", "(I)Z"⟩
abbrev cX11_field : ByteArray := prog_13_method_16_code
def yX11_field : MethodName := ⟨RX11, "field", "(II)I"⟩
abbrev cX11_isBlowKind : ByteArray := prog_13_method_17_code
def yX11_isBlowKind : MethodName := ⟨RX11, "isBlowKind", "(I)Z"⟩
abbrev cX11_isBlow : ByteArray := prog_13_method_18_code
def yX11_isBlow : MethodName := ⟨RX11, "isBlow", "(I)Z"⟩
abbrev cX11_isDone : ByteArray := prog_13_method_19_code
def yX11_isDone : MethodName := ⟨RX11, "isDone", "(I)Z"⟩
abbrev cX11_person : ByteArray := prog_13_method_20_code
def yX11_person : MethodName := ⟨RX11, "person", "(II)I"⟩
abbrev cX11_lateOf : ByteArray := prog_13_method_21_code
def yX11_lateOf : MethodName := ⟨RX11, "lateOf", "(I)I"⟩
abbrev cX11_told : ByteArray := prog_13_method_22_code
def yX11_told : MethodName := ⟨RX11, "told", "(II)I"⟩
abbrev cX11_set : ByteArray := prog_13_method_23_code
def yX11_set : MethodName := ⟨RX11, "set", "(III)I"⟩
abbrev cX11_meet : ByteArray := prog_13_method_24_code
def yX11_meet : MethodName := ⟨RX11, "meet", "(IIII)Z"⟩
abbrev cX11_move : ByteArray := prog_13_method_25_code
def yX11_move : MethodName := ⟨RX11, "move", "(IIIII)I"⟩
abbrev cX11_isBarred : ByteArray := prog_13_method_26_code
def yX11_isBarred : MethodName := ⟨RX11, "isBarred", "(I)Z"⟩
abbrev cX11_of : ByteArray := prog_13_method_27_code
def yX11_of : MethodName := ⟨RX11, "of", "(II)I"⟩
abbrev cX11_isOf : ByteArray := prog_13_method_28_code
def yX11_isOf : MethodName := ⟨RX11, "isOf", "(II)Z"⟩
abbrev cX11_as : ByteArray := prog_13_method_29_code
def yX11_as : MethodName := ⟨RX11, "as", "(II)I"⟩
abbrev cX11_cut : ByteArray := prog_13_method_30_code
def yX11_cut : MethodName := ⟨RX11, "cut", "(IZ)I"⟩
abbrev cX11_wet : ByteArray := prog_13_method_31_code
def yX11_wet : MethodName := ⟨RX11, "wet", "(I)I"⟩
abbrev cX11_findOrder : ByteArray := prog_13_method_32_code
def yX11_findOrder : MethodName := ⟨RX11, "findOrder", "()V"⟩
abbrev cX11_between : ByteArray := prog_13_method_33_code
def yX11_between : MethodName := ⟨RX11, "between", "(IIII)I"⟩
abbrev cX11_stale : ByteArray := prog_13_method_34_code
def yX11_stale : MethodName := ⟨RX11, "stale", "()V"⟩
abbrev cX11_findPlaces : ByteArray := prog_13_method_35_code
def yX11_findPlaces : MethodName := ⟨RX11, "findPlaces", "()V"⟩
abbrev cX11_placeOf : ByteArray := prog_13_method_36_code
def yX11_placeOf : MethodName := ⟨RX11, "placeOf", "(II)I"⟩
abbrev cX11_where : ByteArray := prog_13_method_37_code
def yX11_where : MethodName := ⟨RX11, "where", "(II)I"⟩
abbrev cX11_distance : ByteArray := prog_13_method_38_code
def yX11_distance : MethodName := ⟨RX11, "distance", "(II)I"⟩
abbrev cX11_near : ByteArray := prog_13_method_39_code
def yX11_near : MethodName := ⟨RX11, "near", "(III)I"⟩
abbrev cX11_findLates : ByteArray := prog_13_method_40_code
def yX11_findLates : MethodName := ⟨RX11, "findLates", "()V"⟩
abbrev cX11_gapOf : ByteArray := prog_13_method_41_code
def yX11_gapOf : MethodName := ⟨RX11, "gapOf", "(II)I"⟩
abbrev cX11_wanted : ByteArray := prog_13_method_42_code
def yX11_wanted : MethodName := ⟨RX11, "wanted", "(II)I"⟩
abbrev cX11_broken : ByteArray := prog_13_method_43_code
def yX11_broken : MethodName := ⟨RX11, "broken", "(I)I"⟩
abbrev cX11_gap : ByteArray := prog_13_method_44_code
def yX11_gap : MethodName := ⟨RX11, "gap", "(II)I"⟩
abbrev cX11_keeps : ByteArray := prog_13_method_45_code
def yX11_keeps : MethodName := ⟨RX11, "keeps", "(I)I"⟩
abbrev cX11_firstBreach : ByteArray := prog_13_method_46_code
def yX11_firstBreach : MethodName := ⟨RX11, "firstBreach", "()I"⟩
abbrev cX11_breach : ByteArray := prog_13_method_47_code
def yX11_breach : MethodName := ⟨RX11, "breach", "(I)I"⟩
abbrev cX11_sign : ByteArray := prog_13_method_48_code
def yX11_sign : MethodName := ⟨RX11, "sign", "(II)I"⟩
abbrev cX11_isUnready : ByteArray := prog_13_method_49_code
def yX11_isUnready : MethodName := ⟨RX11, "isUnready", "(I)Z"⟩
abbrev cX11_unready : ByteArray := prog_13_method_50_code
def yX11_unready : MethodName := ⟨RX11, "unready", "(I)I"⟩
abbrev cX11_isSeen : ByteArray := prog_13_method_51_code
def yX11_isSeen : MethodName := ⟨RX11, "isSeen", "(I)Z"⟩
abbrev cX11_seen : ByteArray := prog_13_method_52_code
def yX11_seen : MethodName := ⟨RX11, "seen", "(I)I"⟩
abbrev cX11_story : ByteArray := prog_13_method_53_code
def yX11_story : MethodName := ⟨RX11, "story", "()I"⟩
abbrev cX11_feed : ByteArray := prog_13_method_54_code
def yX11_feed : MethodName := ⟨RX11, "feed", "(III)I"⟩
abbrev cX11_trim : ByteArray := prog_13_method_55_code
def yX11_trim : MethodName := ⟨RX11, "trim", "(I)I"⟩
abbrev cX11_isLetter : ByteArray := prog_13_method_56_code
def yX11_isLetter : MethodName := ⟨RX11, "isLetter", "(I)Z"⟩
abbrev cX11_isDigit : ByteArray := prog_13_method_57_code
def yX11_isDigit : MethodName := ⟨RX11, "isDigit", "(I)Z"⟩
abbrev cX11_next : ByteArray := prog_13_method_58_code
def yX11_next : MethodName := ⟨RX11, "next", "()V"⟩
abbrev cX11_isSign : ByteArray := prog_13_method_59_code
def yX11_isSign : MethodName := ⟨RX11, "isSign", "(I)Z"⟩
abbrev cX11_isWordAt : ByteArray := prog_13_method_60_code
def yX11_isWordAt : MethodName := ⟨RX11, "isWordAt", "(IIII)Z"⟩
abbrev cX11_isLong : ByteArray := prog_13_method_61_code
def yX11_isLong : MethodName := ⟨RX11, "isLong", "(IIIIII)Z"⟩
abbrev cX11_key : ByteArray := prog_13_method_62_code
def yX11_key : MethodName := ⟨RX11, "key", "()I"⟩
abbrev cX11_isName : ByteArray := prog_13_method_63_code
def yX11_isName : MethodName := ⟨RX11, "isName", "(II)Z"⟩
abbrev cX11_step : ByteArray := prog_13_method_64_code
def yX11_step : MethodName := ⟨RX11, "step", "(II)V"⟩
abbrev cX11_either : ByteArray := prog_13_method_65_code
def yX11_either : MethodName := ⟨RX11, "either", "(I)Z"⟩
abbrev cX11_both : ByteArray := prog_13_method_66_code
def yX11_both : MethodName := ⟨RX11, "both", "(I)Z"⟩
abbrev cX11_test : ByteArray := prog_13_method_67_code
def yX11_test : MethodName := ⟨RX11, "test", "(I)Z"⟩
abbrev cX11_sum : ByteArray := prog_13_method_68_code
def yX11_sum : MethodName := ⟨RX11, "sum", "(I)Z"⟩
abbrev cX11_term : ByteArray := prog_13_method_69_code
def yX11_term : MethodName := ⟨RX11, "term", "(I)Z"⟩
abbrev cX11_part0 : ByteArray := prog_13_method_70_code
def yX11_part0 : MethodName := ⟨RX11, "part0", "(I)Z"⟩
abbrev cX11_parse : ByteArray := prog_13_method_71_code
def yX11_parse : MethodName := ⟨RX11, "parse", "()I"⟩
abbrev cX11_text : ByteArray := prog_13_method_72_code
def yX11_text : MethodName := ⟨RX11, "text", "()I"⟩
abbrev cX11_textTold : ByteArray := prog_13_method_73_code
def yX11_textTold : MethodName := ⟨RX11, "textTold", "(II)I"⟩
abbrev cX11_counts : ByteArray := prog_13_method_74_code
def yX11_counts : MethodName := ⟨RX11, "counts", "(I)I"⟩
abbrev cX11_joined : ByteArray := prog_13_method_75_code
def yX11_joined : MethodName := ⟨RX11, "joined", "(III)I"⟩
abbrev cX11_worked : ByteArray := prog_13_method_76_code
def yX11_worked : MethodName := ⟨RX11, "worked", "(I)I"⟩
abbrev cX11_needs : ByteArray := prog_13_method_77_code
def yX11_needs : MethodName := ⟨RX11, "needs", "(II)I"⟩
abbrev cX11_isTwo : ByteArray := prog_13_method_78_code
def yX11_isTwo : MethodName := ⟨RX11, "isTwo", "(II)Z"⟩
abbrev cX11_hours : ByteArray := prog_13_method_79_code
def yX11_hours : MethodName := ⟨RX11, "hours", "(III)I"⟩
abbrev cX11_practise : ByteArray := prog_13_method_80_code
def yX11_practise : MethodName := ⟨RX11, "practise", "(III)I"⟩
abbrev cX11_lacksHours : ByteArray := prog_13_method_81_code
def yX11_lacksHours : MethodName := ⟨RX11, "lacksHours", "()Z"⟩
abbrev cX11_hasBarred : ByteArray := prog_13_method_82_code
def yX11_hasBarred : MethodName := ⟨RX11, "hasBarred", "()Z"⟩
abbrev cX11_may : ByteArray := prog_13_method_83_code
def yX11_may : MethodName := ⟨RX11, "may", "()I"⟩
abbrev cX11_choose : ByteArray := prog_13_method_84_code
def yX11_choose : MethodName := ⟨RX11, "choose", "(I)I"⟩
abbrev cX11_clear : ByteArray := prog_13_method_85_code
def yX11_clear : MethodName := ⟨RX11, "clear", "()I"⟩
abbrev cX11_choiceOf : ByteArray := prog_13_method_86_code
def yX11_choiceOf : MethodName := ⟨RX11, "choiceOf", "(I)I"⟩
abbrev cX11_understudy : ByteArray := prog_13_method_87_code
def yX11_understudy : MethodName := ⟨RX11, "understudy", "(III)I"⟩
abbrev cX11_shiftable : ByteArray := prog_13_method_88_code
def yX11_shiftable : MethodName := ⟨RX11, "shiftable", "()I"⟩
abbrev cX11_isApart : ByteArray := prog_13_method_89_code
def yX11_isApart : MethodName := ⟨RX11, "isApart", "()Z"⟩
abbrev cX11_holds : ByteArray := prog_13_method_90_code
def yX11_holds : MethodName := ⟨RX11, "holds", "(I)Z"⟩
abbrev cX11_findShifts : ByteArray := prog_13_method_91_code
def yX11_findShifts : MethodName := ⟨RX11, "findShifts", "()V"⟩
abbrev cX11_shifts : ByteArray := prog_13_method_92_code
def yX11_shifts : MethodName := ⟨RX11, "shifts", "(I)I"⟩
abbrev cX11_shift : ByteArray := prog_13_method_93_code
def yX11_shift : MethodName := ⟨RX11, "shift", "()I"⟩
abbrev cX11_weapon : ByteArray := prog_13_method_94_code
def yX11_weapon : MethodName := ⟨RX11, "weapon", "()I"⟩
abbrev cX11_out : ByteArray := prog_13_method_95_code
def yX11_out : MethodName := ⟨RX11, "out", "(II)I"⟩
abbrev cX11_in : ByteArray := prog_13_method_96_code
def yX11_in : MethodName := ⟨RX11, "in", "(I)I"⟩
abbrev cX11_wear : ByteArray := prog_13_method_97_code
def yX11_wear : MethodName := ⟨RX11, "wear", "(II)I"⟩
abbrev cX11_seed : ByteArray := prog_13_method_98_code
def yX11_seed : MethodName := ⟨RX11, "seed", "(I)I"⟩
abbrev cX11_logs : ByteArray := prog_13_method_99_code
def yX11_logs : MethodName := ⟨RX11, "logs", "(II)V"⟩
abbrev cX11_tire : ByteArray := prog_13_method_100_code
def yX11_tire : MethodName := ⟨RX11, "tire", "()V"⟩
abbrev cX11_oneShow : ByteArray := prog_13_method_101_code
def yX11_oneShow : MethodName := ⟨RX11, "oneShow", "()I"⟩
abbrev cX11_show : ByteArray := prog_13_method_102_code
def yX11_show : MethodName := ⟨RX11, "show", "(I)I"⟩
abbrev cX11_restAll : ByteArray := prog_13_method_103_code
def yX11_restAll : MethodName := ⟨RX11, "restAll", "()I"⟩
abbrev cX11_log : ByteArray := prog_13_method_104_code
def yX11_log : MethodName := ⟨RX11, "log", "(II)I"⟩
abbrev cX11_missesOf : ByteArray := prog_13_method_105_code
def yX11_missesOf : MethodName := ⟨RX11, "missesOf", "(I)I"⟩
abbrev cX11_led : ByteArray := prog_13_method_106_code
def yX11_led : MethodName := ⟨RX11, "led", "()I"⟩
abbrev cX11_isSheet : ByteArray := prog_13_method_107_code
def yX11_isSheet : MethodName := ⟨RX11, "isSheet", "(I)Z"⟩
abbrev cX11_sheet : ByteArray := prog_13_method_108_code
def yX11_sheet : MethodName := ⟨RX11, "sheet", "(III)I"⟩
abbrev cX11_mark : ByteArray := prog_13_method_109_code
def yX11_mark : MethodName := ⟨RX11, "mark", "(III)I"⟩
abbrev cX11_cuts : ByteArray := prog_13_method_110_code
def yX11_cuts : MethodName := ⟨RX11, "cuts", "(I)I"⟩
abbrev cX11_copy : ByteArray := prog_13_method_111_code
def yX11_copy : MethodName := ⟨RX11, "copy", "(IIIII)I"⟩
abbrev cX11_isSlot : ByteArray := prog_13_method_112_code
def yX11_isSlot : MethodName := ⟨RX11, "isSlot", "(I)Z"⟩
abbrev cX11_lay : ByteArray := prog_13_method_113_code
def yX11_lay : MethodName := ⟨RX11, "lay", "(III)I"⟩
abbrev cX11_ask : ByteArray := prog_13_method_114_code
def yX11_ask : MethodName := ⟨RX11, "ask", "(II)I"⟩
abbrev cX11_item : ByteArray := prog_13_method_115_code
def yX11_item : MethodName := ⟨RX11, "item", "(II)I"⟩
abbrev cX11_rest : ByteArray := prog_13_method_116_code
def yX11_rest : MethodName := ⟨RX11, "rest", "(II)I"⟩
abbrev cX11_tell : ByteArray := prog_13_method_117_code
def yX11_tell : MethodName := ⟨RX11, "tell", "(I)I"⟩
abbrev cX11_setAside : ByteArray := prog_13_method_118_code
def yX11_setAside : MethodName := ⟨RX11, "setAside", "([I[I)V"⟩
abbrev cX11_check : ByteArray := prog_13_method_119_code
def yX11_check : MethodName := ⟨RX11, "check", "(I)I"⟩
abbrev cX11_keep : ByteArray := prog_13_method_120_code
def yX11_keep : MethodName := ⟨RX11, "keep", "()I"⟩
abbrev cX11_back : ByteArray := prog_13_method_121_code
def yX11_back : MethodName := ⟨RX11, "back", "()I"⟩
abbrev cX11_count : ByteArray := prog_13_method_122_code
def yX11_count : MethodName := ⟨RX11, "count", "(I)I"⟩
def RJx145de : String := "java/io/Serializable"
def TJx145de : u_T := fun k => match k with
  | _ => ("", "", "", false)
def tyJx145de : Nat → FieldType := fun k => match k with
  | _ => .int
abbrev wsJx145de0 : List Cond := u_ws RJx145de TJx145de 0
theorem nmJx145de : ∀ a, a < 0 → ∀ b, b < 0 → a ≠ b → (TJx145de a).2.1 ≠ (TJx145de b).2.1 := by decide +kernel
theorem tyJx145de_ok : ∀ k, k < 0 → parseFieldDescriptor (TJx145de k).2.2.1 = some (tyJx145de k) := by decide +kernel
def RJx9f9b0 : String := "java/lang/CharSequence"
def TJx9f9b0 : u_T := fun k => match k with
  | _ => ("", "", "", false)
def tyJx9f9b0 : Nat → FieldType := fun k => match k with
  | _ => .int
abbrev wsJx9f9b00 : List Cond := u_ws RJx9f9b0 TJx9f9b0 0
theorem nmJx9f9b0 : ∀ a, a < 0 → ∀ b, b < 0 → a ≠ b → (TJx9f9b0 a).2.1 ≠ (TJx9f9b0 b).2.1 := by decide +kernel
theorem tyJx9f9b0_ok : ∀ k, k < 0 → parseFieldDescriptor (TJx9f9b0 k).2.2.1 = some (tyJx9f9b0 k) := by decide +kernel
def RJ11 : String := "java/lang/Character"
def TJ11 : u_T := fun k => match k with
  | _ => ("", "", "", false)
def tyJ11 : Nat → FieldType := fun k => match k with
  | _ => .int
abbrev wsJ110 : List Cond := u_ws RJ11 TJ11 0
theorem nmJ11 : ∀ a, a < 0 → ∀ b, b < 0 → a ≠ b → (TJ11 a).2.1 ≠ (TJ11 b).2.1 := by decide +kernel
theorem tyJ11_ok : ∀ k, k < 0 → parseFieldDescriptor (TJ11 k).2.2.1 = some (tyJ11 k) := by decide +kernel
abbrev cJ11_isValidCodePoint_9a6ad : ByteArray := prog_14_method_11_code
def yJ11_isValidCodePoint_9a6ad : MethodName := ⟨RJ11, "isValidCodePoint", "(I)Z"⟩
abbrev cJ11_highSurrogate_5068e : ByteArray := prog_14_method_28_code
def yJ11_highSurrogate_5068e : MethodName := ⟨RJ11, "highSurrogate", "(I)C"⟩
abbrev cJ11_lowSurrogate_5068e : ByteArray := prog_14_method_29_code
def yJ11_lowSurrogate_5068e : MethodName := ⟨RJ11, "lowSurrogate", "(I)C"⟩
def RJx8e188 : String := "java/lang/Cloneable"
def TJx8e188 : u_T := fun k => match k with
  | _ => ("", "", "", false)
def tyJx8e188 : Nat → FieldType := fun k => match k with
  | _ => .int
abbrev wsJx8e1880 : List Cond := u_ws RJx8e188 TJx8e188 0
theorem nmJx8e188 : ∀ a, a < 0 → ∀ b, b < 0 → a ≠ b → (TJx8e188 a).2.1 ≠ (TJx8e188 b).2.1 := by decide +kernel
theorem tyJx8e188_ok : ∀ k, k < 0 → parseFieldDescriptor (TJx8e188 k).2.2.1 = some (tyJx8e188 k) := by decide +kernel
def RJxb160c : String := "java/lang/Comparable"
def TJxb160c : u_T := fun k => match k with
  | _ => ("", "", "", false)
def tyJxb160c : Nat → FieldType := fun k => match k with
  | _ => .int
abbrev wsJxb160c0 : List Cond := u_ws RJxb160c TJxb160c 0
theorem nmJxb160c : ∀ a, a < 0 → ∀ b, b < 0 → a ≠ b → (TJxb160c a).2.1 ≠ (TJxb160c b).2.1 := by decide +kernel
theorem tyJxb160c_ok : ∀ k, k < 0 → parseFieldDescriptor (TJxb160c k).2.2.1 = some (tyJxb160c k) := by decide +kernel
def RJ9 : String := "java/lang/Math"
def TJ9 : u_T := fun k => match k with
  | _ => ("", "", "", false)
def tyJ9 : Nat → FieldType := fun k => match k with
  | _ => .int
abbrev wsJ90 : List Cond := u_ws RJ9 TJ9 0
theorem nmJ9 : ∀ a, a < 0 → ∀ b, b < 0 → a ≠ b → (TJ9 a).2.1 ≠ (TJ9 b).2.1 := by decide +kernel
theorem tyJ9_ok : ∀ k, k < 0 → parseFieldDescriptor (TJ9 k).2.2.1 = some (tyJ9 k) := by decide +kernel
abbrev cJ9_abs_0f7a4 : ByteArray := prog_16_method_59_code
def yJ9_abs_0f7a4 : MethodName := ⟨RJ9, "abs", "(I)I"⟩
abbrev cJ9_max_7cf53 : ByteArray := prog_16_method_65_code
def yJ9_max_7cf53 : MethodName := ⟨RJ9, "max", "(II)I"⟩
abbrev cJ9_min_7cf53 : ByteArray := prog_16_method_69_code
def yJ9_min_7cf53 : MethodName := ⟨RJ9, "min", "(II)I"⟩
def RJ0 : String := "java/lang/String"
def TJ0 : u_T := fun k => match k with
  | _ => ("", "", "", false)
def tyJ0 : Nat → FieldType := fun k => match k with
  | _ => .int
abbrev wsJ00 : List Cond := u_ws RJ0 TJ0 0
theorem nmJ0 : ∀ a, a < 0 → ∀ b, b < 0 → a ≠ b → (TJ0 a).2.1 ≠ (TJ0 b).2.1 := by decide +kernel
theorem tyJ0_ok : ∀ k, k < 0 → parseFieldDescriptor (TJ0 k).2.2.1 = some (tyJ0 k) := by decide +kernel
abbrev cJ0_length_8abf5 : ByteArray := prog_17_method_54_code
def yJ0_length_8abf5 : MethodName := ⟨RJ0, "length", "()I"⟩
abbrev cJ0_charAt_5068e : ByteArray := prog_17_method_56_code
def yJ0_charAt_5068e : MethodName := ⟨RJ0, "charAt", "(I)C"⟩
abbrev cJ0_indexOf_0f7a4 : ByteArray := prog_17_method_79_code
def yJ0_indexOf_0f7a4 : MethodName := ⟨RJ0, "indexOf", "(I)I"⟩
abbrev cJ0_indexOf_7cf53 : ByteArray := prog_17_method_80_code
def yJ0_indexOf_7cf53 : MethodName := ⟨RJ0, "indexOf", "(II)I"⟩
abbrev cJ0_coder_7d493 : ByteArray := prog_17_method_152_code
def yJ0_coder_7d493 : MethodName := ⟨RJ0, "coder", "()B"⟩
abbrev cJ0_isLatin1_aae02 : ByteArray := prog_17_method_154_code
def yJ0_isLatin1_aae02 : MethodName := ⟨RJ0, "isLatin1", "()Z"⟩
abbrev cJ0_checkIndex_df160 : ByteArray := prog_17_method_155_code
def yJ0_checkIndex_df160 : MethodName := ⟨RJ0, "checkIndex", "(II)V"⟩
abbrev cJ0_checkBoundsBeginEnd_23922 : ByteArray := prog_17_method_158_code
def yJ0_checkBoundsBeginEnd_23922 : MethodName := ⟨RJ0, "checkBoundsBeginEnd", "(III)V"⟩
def RJ1 : String := "java/lang/StringLatin1"
def TJ1 : u_T := fun k => match k with
  | _ => ("", "", "", false)
def tyJ1 : Nat → FieldType := fun k => match k with
  | _ => .int
abbrev wsJ10 : List Cond := u_ws RJ1 TJ1 0
theorem nmJ1 : ∀ a, a < 0 → ∀ b, b < 0 → a ≠ b → (TJ1 a).2.1 ≠ (TJ1 b).2.1 := by decide +kernel
theorem tyJ1_ok : ∀ k, k < 0 → parseFieldDescriptor (TJ1 k).2.2.1 = some (tyJ1 k) := by decide +kernel
abbrev cJ1_charAt_3b067 : ByteArray := prog_18_method_2_code
def yJ1_charAt_3b067 : MethodName := ⟨RJ1, "charAt", "([BI)C"⟩
abbrev cJ1_canEncode_9a6ad : ByteArray := prog_18_method_4_code
def yJ1_canEncode_9a6ad : MethodName := ⟨RJ1, "canEncode", "(I)Z"⟩
abbrev cJ1_indexOf_4cfef : ByteArray := prog_18_method_22_code
def yJ1_indexOf_4cfef : MethodName := ⟨RJ1, "indexOf", "([BIII)I"⟩
abbrev cJ1_indexOfChar_4cfef : ByteArray := prog_18_method_23_code
def yJ1_indexOfChar_4cfef : MethodName := ⟨RJ1, "indexOfChar", "([BIII)I"⟩
def RJ2 : String := "java/lang/StringUTF16"
def TJ2 : u_T := fun k => match k with
  | _ => ("", "", "", false)
def tyJ2 : Nat → FieldType := fun k => match k with
  | _ => .int
abbrev wsJ20 : List Cond := u_ws RJ2 TJ2 0
theorem nmJ2 : ∀ a, a < 0 → ∀ b, b < 0 → a ≠ b → (TJ2 a).2.1 ≠ (TJ2 b).2.1 := by decide +kernel
theorem tyJ2_ok : ∀ k, k < 0 → parseFieldDescriptor (TJ2 k).2.2.1 = some (tyJ2 k) := by decide +kernel
abbrev cJ2_getChar_3b067 : ByteArray := prog_19_method_5_code
def yJ2_getChar_3b067 : MethodName := ⟨RJ2, "getChar", "([BI)C"⟩
abbrev cJ2_length_9d52b : ByteArray := prog_19_method_6_code
def yJ2_length_9d52b : MethodName := ⟨RJ2, "length", "([B)I"⟩
abbrev cJ2_indexOf_4cfef : ByteArray := prog_19_method_40_code
def yJ2_indexOf_4cfef : MethodName := ⟨RJ2, "indexOf", "([BIII)I"⟩
abbrev cJ2_indexOfChar_4cfef : ByteArray := prog_19_method_47_code
def yJ2_indexOfChar_4cfef : MethodName := ⟨RJ2, "indexOfChar", "([BIII)I"⟩
abbrev cJ2_indexOfCharUnsafe_4cfef : ByteArray := prog_19_method_48_code
def yJ2_indexOfCharUnsafe_4cfef : MethodName := ⟨RJ2, "indexOfCharUnsafe", "([BIII)I"⟩
abbrev cJ2_indexOfSupplementary_4cfef : ByteArray := prog_19_method_49_code
def yJ2_indexOfSupplementary_4cfef : MethodName := ⟨RJ2, "indexOfSupplementary", "([BIII)I"⟩
abbrev cJ2_charAt_3b067 : ByteArray := prog_19_method_83_code
def yJ2_charAt_3b067 : MethodName := ⟨RJ2, "charAt", "([BI)C"⟩
abbrev cJ2_checkIndex_2214a : ByteArray := prog_19_method_91_code
def yJ2_checkIndex_2214a : MethodName := ⟨RJ2, "checkIndex", "(I[B)V"⟩
abbrev cJ2_checkBoundsBeginEnd_d044e : ByteArray := prog_19_method_93_code
def yJ2_checkBoundsBeginEnd_d044e : MethodName := ⟨RJ2, "checkBoundsBeginEnd", "(II[B)V"⟩
def RJ10 : String := "java/lang/System"
def TJ10 : u_T := fun k => match k with
  | _ => ("", "", "", false)
def tyJ10 : Nat → FieldType := fun k => match k with
  | _ => .int
abbrev wsJ100 : List Cond := u_ws RJ10 TJ10 0
theorem nmJ10 : ∀ a, a < 0 → ∀ b, b < 0 → a ≠ b → (TJ10 a).2.1 ≠ (TJ10 b).2.1 := by decide +kernel
theorem tyJ10_ok : ∀ k, k < 0 → parseFieldDescriptor (TJ10 k).2.2.1 = some (tyJ10 k) := by decide +kernel
def RJxfd54e : String := "java/lang/constant/Constable"
def TJxfd54e : u_T := fun k => match k with
  | _ => ("", "", "", false)
def tyJxfd54e : Nat → FieldType := fun k => match k with
  | _ => .int
abbrev wsJxfd54e0 : List Cond := u_ws RJxfd54e TJxfd54e 0
theorem nmJxfd54e : ∀ a, a < 0 → ∀ b, b < 0 → a ≠ b → (TJxfd54e a).2.1 ≠ (TJxfd54e b).2.1 := by decide +kernel
theorem tyJxfd54e_ok : ∀ k, k < 0 → parseFieldDescriptor (TJxfd54e k).2.2.1 = some (tyJxfd54e k) := by decide +kernel
def RJx3cf43 : String := "java/lang/constant/ConstantDesc"
def TJx3cf43 : u_T := fun k => match k with
  | _ => ("", "", "", false)
def tyJx3cf43 : Nat → FieldType := fun k => match k with
  | _ => .int
abbrev wsJx3cf430 : List Cond := u_ws RJx3cf43 TJx3cf43 0
theorem nmJx3cf43 : ∀ a, a < 0 → ∀ b, b < 0 → a ≠ b → (TJx3cf43 a).2.1 ≠ (TJx3cf43 b).2.1 := by decide +kernel
theorem tyJx3cf43_ok : ∀ k, k < 0 → parseFieldDescriptor (TJx3cf43 k).2.2.1 = some (tyJx3cf43 k) := by decide +kernel
def RJ7 : String := "java/util/Arrays"
def TJ7 : u_T := fun k => match k with
  | _ => ("", "", "", false)
def tyJ7 : Nat → FieldType := fun k => match k with
  | _ => .int
abbrev wsJ70 : List Cond := u_ws RJ7 TJ7 0
theorem nmJ7 : ∀ a, a < 0 → ∀ b, b < 0 → a ≠ b → (TJ7 a).2.1 ≠ (TJ7 b).2.1 := by decide +kernel
theorem tyJ7_ok : ∀ k, k < 0 → parseFieldDescriptor (TJ7 k).2.2.1 = some (tyJ7 k) := by decide +kernel
abbrev cJ7_copyOf_59c91 : ByteArray := prog_21_method_123_code
def yJ7_copyOf_59c91 : MethodName := ⟨RJ7, "copyOf", "([II)[I"⟩
def RJ3 : String := "jdk/internal/util/Preconditions"
def TJ3 : u_T := fun k => match k with
  | _ => ("", "", "", false)
def tyJ3 : Nat → FieldType := fun k => match k with
  | _ => .int
abbrev wsJ30 : List Cond := u_ws RJ3 TJ3 0
theorem nmJ3 : ∀ a, a < 0 → ∀ b, b < 0 → a ≠ b → (TJ3 a).2.1 ≠ (TJ3 b).2.1 := by decide +kernel
theorem tyJ3_ok : ∀ k, k < 0 → parseFieldDescriptor (TJ3 k).2.2.1 = some (tyJ3 k) := by decide +kernel
abbrev cJ3_checkIndex_8e157 : ByteArray := prog_22_method_11_code
def yJ3_checkIndex_8e157 : MethodName := ⟨RJ3, "checkIndex", "(IILjava/util/function/BiFunction;)I"⟩
abbrev cJ3_checkFromToIndex_8c36e : ByteArray := prog_22_method_12_code
def yJ3_checkFromToIndex_8c36e : MethodName := ⟨RJ3, "checkFromToIndex", "(IIILjava/util/function/BiFunction;)I"⟩
def RL : String := "StageFightsLaw"
abbrev cL_law : ByteArray := code
def yL_law : MethodName := ⟨RL, "law", "([I)Z"⟩
abbrev vwCl : List vw_C := [(RX0, TX0, 3), (RX1, TX1, 8), (RX2, TX2, 3), (RX3, TX3, 9), (RX4, TX4, 19), (RX5, TX5, 3), (RX6, TX6, 6), (RX7, TX7, 4), (RX8, TX8, 5), (RX9, TX9, 4), (RX10, TX10, 13), (RX11, TX11, 41)]
end
section
/-! OWN SMALL MACHINE, PART 1: heaps as functions. A reference is a number, one above the cell's address; 0 is null. -/
abbrev mu_H : Type := (Nat → Nat) × (Nat → Nat) × (Nat → Nat → Int32) × (Nat → Nat → Nat) × Nat × Nat
def mu_T (g : mu_H) : Nat → Nat := g.1
def mu_N (g : mu_H) : Nat → Nat := g.2.1
def mu_I (g : mu_H) : Nat → Nat → Int32 := g.2.2.1
def mu_R (g : mu_H) : Nat → Nat → Nat := g.2.2.2.1
def mu_X (g : mu_H) : Nat := g.2.2.2.2.1
def mu_S (g : mu_H) : Nat := g.2.2.2.2.2
/-- an int is written at place k of the cell a -/
def mu_sI (g : mu_H) (a k : Nat) (v : Int32) : mu_H := (mu_T g, mu_N g, fun x y => if x = a ∧ y = k then v else mu_I g x y, mu_R g, mu_X g, mu_S g)
/-- a reference is written -/
def mu_sR (g : mu_H) (a k : Nat) (v : Nat) : mu_H := (mu_T g, mu_N g, mu_I g, fun x y => if x = a ∧ y = k then v else mu_R g x y, mu_X g, mu_S g)
/-- a new cell of tag t with n places, w slots -/
def mu_sN (g : mu_H) (t n w : Nat) : mu_H := (fun x => if x = mu_X g then t else mu_T g x, fun x => if x = mu_X g then n else mu_N g x, fun x y => if x = mu_X g then 0 else mu_I g x y, fun x y => if x = mu_X g then 0 else mu_R g x y, mu_X g + 1, mu_S g + w)
/-- n ints are copied from a (from sp on) to b (from dp on) -/
def mu_sC (g : mu_H) (a sp b dp n : Nat) : mu_H := (mu_T g, mu_N g, fun x y => if x = b ∧ (dp ≤ y ∧ y < dp + n) then mu_I g a (sp + (y - dp)) else mu_I g x y, mu_R g, mu_X g, mu_S g)
def mu_V : Value → Value
  | .ref 0 => .null
  | .ref (a + 1) => .ref a
  | v => v
theorem mu_V_cat (v : Value) : (mu_V v).category = v.category := by
  cases v with
  | ref a => cases a <;> rfl
  | _ => rfl
/-- the world's constants: the heap's size at the start, class numbers, slots, array classes, statics, strings -/
abbrev mu_O : Type := Nat × (Nat → ClassId) × (Nat → Nat → Nat) × (Nat → ClassId) × (Nat → Nat) × (Nat → Nat)
def mu_A (w : mu_O) : Nat → Prop := fun q => w.1 ≤ q
def mu_Ty (c : Nat) : Nat → FieldType := match c with
  | 0 => tyX0
  | 1 => tyX1
  | 2 => tyX2
  | 3 => tyX3
  | 4 => tyX4
  | 5 => tyX5
  | 6 => tyX6
  | 7 => tyX7
  | 8 => tyX8
  | 9 => tyX9
  | 10 => tyX10
  | _ => tyX11
def mu_isR : FieldType → Bool
  | .object _ => true
  | .array _ => true
  | _ => false
def mu_Fv (g : mu_H) (c a k : Nat) : Value := match mu_isR (mu_Ty c k) with
  | true => .ref (mu_R g a k)
  | false => .int (mu_I g a k)
def mu_AE : Nat → FieldType
  | 0 => .int
  | 1 => .byte
  | 2 => .object RX2
  | 3 => .object RX1
  | 4 => .object RX9
  | 5 => .object RX5
  | _ => .object RX7
/-- the class of an array's elements, by the array's kind -/
def mu_Ac : Nat → Nat
  | 2 => 2
  | 3 => 1
  | 4 => 9
  | 5 => 5
  | _ => 7
def mu_Av (g : mu_H) (q a j : Nat) : Value := match q with
  | 0 => .int (mu_I g a j)
  | 1 => .int (mu_I g a j)
  | _ => .ref (mu_R g a j)
def mu_tys (w : mu_O) : List (ClassId × FieldType) := [(w.2.2.2.1 0, mu_AE 0), (w.2.2.2.1 1, mu_AE 1), (w.2.2.2.1 2, mu_AE 2), (w.2.2.2.1 3, mu_AE 3), (w.2.2.2.1 4, mu_AE 4), (w.2.2.2.1 5, mu_AE 5), (w.2.2.2.1 6, mu_AE 6)]
theorem mu_tys_at (w : mu_O) {q : Nat} (h : q < 7) : (mu_tys w)[q]? = some (w.2.2.2.1 q, mu_AE q) := by
  rcases (show q = 0 ∨ q = 1 ∨ q = 2 ∨ q = 3 ∨ q = 4 ∨ q = 5 ∨ q = 6 by omega) with rfl | rfl | rfl | rfl | rfl | rfl | rfl <;> rfl
def mu_str (g : mu_H) (w : mu_O) (U : State) (H : Heap) (a : Nat) : Prop :=
  va_O "java/lang/String" a (mu_A w) U H ∧ va_OF "java/lang/String" "value" "[B" (mu_V (.ref (mu_R g (a + 1) 0))) a (mu_A w) U H ∧ va_OF "java/lang/String" "coder" "B" (.int (mu_I g (a + 1) 1)) a (mu_A w) U H
/-- what the cell at address a holds, by its tag: 1 .. 12 objects of the class table, 13 a String of before, 20 .. 26 arrays -/
def mu_cell (w : mu_O) (g : mu_H) (U : State) (H : Heap) (a : Nat) : Prop :=
  (∀ c : Nat, c < 12 → mu_T g (a + 1) = c + 1 → w.1 ≤ a ∧ ∃ r, vwCl[c]? = some r ∧ t_OB a (w.2.1 c) r.2.2 (w.2.2.1 c) H (fun k => mu_V (mu_Fv g c (a + 1) k))) ∧
  (∀ q : Nat, q < 7 → mu_T g (a + 1) = 20 + q → (w.1 ≤ a → H[a]? = some (arrV (w.2.2.2.1 q) (mu_N g (a + 1)) (fun j => mu_V (mu_Av g q (a + 1) j))) ∧ (q = 1 → ∀ j : Nat, j < mu_N g (a + 1) → fits .byte (.int (mu_I g (a + 1) j)) = true)) ∧ (¬ w.1 ≤ a → va_T (mu_AE q) a (mu_N g (a + 1)) (fun j => mu_V (mu_Av g q (a + 1) j)) (mu_A w) U H)) ∧
  (mu_T g (a + 1) = 13 → mu_str g w U H a)
def mu_rep (w : mu_O) (g : mu_H) (U : State) (H : Heap) : Prop := H.size + 1 = mu_X g ∧ w.1 ≤ H.size ∧ mu_T g 0 = 0 ∧ ∀ a : Nat, mu_cell w g U H a
/-- the statics that are read -/
def mu_sts : List (String × String × String) := [("StageFights", "ABOVE", "[I"), ("StageFights", "REACH", "[I"), ("StageFights", "WORTH", "[I"), ("StageFights", "TIRES", "[I"), ("StageFights", "WEARS", "[I"), ("StageFights", "GOES", "[I"), ("java/lang/String", "COMPACT_STRINGS", "Z"), ("jdk/internal/util/Preconditions", "SIOOBE_FORMATTER", "Ljava/util/function/BiFunction;")]
/-- what they hold: arrays, a boolean, a reference or null -/
def mu_sv (w : mu_O) (j : Nat) : Value := match j with
  | 6 => .int 1
  | j => .ref (w.2.2.2.2.1 j)
def mu_stat (w : mu_O) (U : State) (H : Heap) : Prop := ∀ (j : Nat) (q : String × String × String), mu_sts[j]? = some q → va_Z q.1 q.2.1 q.2.2 (mu_V (mu_sv w j)) (mu_A w) U H
theorem mu_cell_moved {w : mu_O} {g : mu_H} {u U : State} {H : Heap} {a : Nat} (hvm : u.vm.Alike U.vm) (h : mu_cell w g u H a) : mu_cell w g U H a := by
  obtain ⟨h1, h2, h3⟩ := h
  exact ⟨h1, fun q hq ht => ⟨(h2 q hq ht).1, fun ha => ((h2 q hq ht).2 ha).moved hvm⟩, fun ht => ⟨(h3 ht).1.moved hvm, (h3 ht).2.1.moved hvm, (h3 ht).2.2.moved hvm⟩⟩
theorem mu_rep_moved {w : mu_O} {g : mu_H} {u U : State} {H : Heap} (hvm : u.vm.Alike U.vm) (h : mu_rep w g u H) : mu_rep w g U H := ⟨h.1, h.2.1, h.2.2.1, fun a => mu_cell_moved hvm (h.2.2.2 a)⟩
theorem mu_stat_moved {w : mu_O} {u U : State} {H : Heap} (hvm : u.vm.Alike U.vm) (h : mu_stat w u H) : mu_stat w U H := fun j q hj => (h j q hj).moved hvm
theorem mu_stat_kept {w : mu_O} {U : State} {H H1 : Heap} (h : mu_stat w U H) (hq : ∀ a : Nat, a < H.size → ¬ mu_A w a → H1[a]? = H[a]?) : mu_stat w U H1 := fun j q hj => (h j q hj).kept hq
/-- a cell whose tag, length and contents are as before, in a heap that holds the same there -/
theorem mu_cell_kept {w : mu_O} {g g1 : mu_H} {U : State} {H H1 : Heap} {a : Nat} (h : mu_cell w g U H a) (hq : H1[a]? = H[a]?) (eT : mu_T g1 (a + 1) = mu_T g (a + 1)) (eN : mu_N g1 (a + 1) = mu_N g (a + 1)) (eI : ∀ k, mu_I g1 (a + 1) k = mu_I g (a + 1) k) (eR : ∀ k, mu_R g1 (a + 1) k = mu_R g (a + 1) k) : mu_cell w g1 U H1 a := by
  have eF : ∀ c k, mu_Fv g1 c (a + 1) k = mu_Fv g c (a + 1) k := fun c k => by unfold mu_Fv; rw [eI, eR]
  have eA : ∀ q j, mu_Av g1 q (a + 1) j = mu_Av g q (a + 1) j := fun q j => by unfold mu_Av; rw [eI, eR]
  obtain ⟨h1, h2, h3⟩ := h
  refine ⟨fun c hc ht => ?_, fun q hq2 ht => ?_, fun ht => ?_⟩
  · rw [eT] at ht
    obtain ⟨i1, r, i2, cell, i3, i4, i5, i6⟩ := h1 c hc ht
    exact ⟨i1, r, i2, cell, hq.trans i3, i4, i5, fun k hk => by dsimp only; rw [eF]; exact i6 k hk⟩
  · rw [eT] at ht
    have e : (fun j => mu_V (mu_Av g1 q (a + 1) j)) = (fun j => mu_V (mu_Av g q (a + 1) j)) := funext fun j => by rw [eA]
    rw [e, eN]
    obtain ⟨i1, i2⟩ := h2 q hq2 ht
    refine ⟨fun ha => ⟨hq.trans (i1 ha).1, fun e1 j hj => by rw [eI]; exact (i1 ha).2 e1 j hj⟩, fun ha => ?_⟩
    obtain ⟨cell, j1, j2⟩ := i2 ha
    exact ⟨cell, hq.trans j1, j2⟩
  · rw [eT] at ht
    obtain ⟨⟨cell, j1, j2⟩, ⟨cf, k, i, f, cell2, k1, k2, k3, k4⟩, ⟨cf', k', i', f', cell3, l1, l2, l3, l4⟩⟩ := h3 ht
    refine ⟨⟨cell, hq.trans j1, j2⟩, ⟨cf, k, i, f, cell2, k1, k2, hq.trans k3, ?_⟩, ⟨cf', k', i', f', cell3, l1, l2, hq.trans l3, ?_⟩⟩
    · rw [eR]; exact k4
    · rw [eI]; exact l4
/-- an array's cell, own or of before: what a read needs -/
theorem mu_arr {w : mu_O} {g : mu_H} {U : State} {H : Heap} {D : va_G} {a q : Nat} (hK : va_K D vwCl (mu_tys w) U) (h : mu_cell w g U H a) (hq : q < 7) (ht : mu_T g (a + 1) = 20 + q) :
    ∃ cell : Cell, H[a]? = some cell ∧ U.isArrayOf cell (mu_AE q) ∧ cell.vm ≠ .unknown ∧ mu_N g (a + 1) ≤ cell.slots.size ∧ cell.slots.size.toInt32 = Int32.ofNat (mu_N g (a + 1)) ∧ ∀ j : Nat, j < mu_N g (a + 1) → cell.slots[j]? = some (mu_V (mu_Av g q (a + 1) j)) := by
  obtain ⟨h1, h2⟩ := h.2.1 q hq ht
  by_cases ha : w.1 ≤ a
  · exact ⟨_, (h1 ha).1, (hK.2 q _ (mu_tys_at w hq)).1 _ _, fun h => (nomatch h), Nat.le_of_eq (arrV_size _ _ _).symm, by rw [arrV_size], fun j hj => arrV_read _ _ hj⟩
  · obtain ⟨cell, i1, i2, i3, i4, i5, i6, -⟩ := h2 ha
    exact ⟨cell, i1, i2, i3, i4, i5, i6⟩
end
section
/-! OWN SMALL MACHINE, PART 2: methods, what a walk is, what a contract is -/
/-- a method: its class' number, its name, its bytes, how many locals, what it returns, how many parameters, its instructions (pc, instruction, length) -/
abbrev mu_M : Type := Nat × MethodName × ByteArray × Nat × Option FieldType × Nat × List (Nat × Instr × Nat)
def mu_mK (m : mu_M) : Nat := m.1
def mu_mY (m : mu_M) : MethodName := m.2.1
def mu_mB (m : mu_M) : ByteArray := m.2.2.1
def mu_mL (m : mu_M) : Nat := m.2.2.2.1
def mu_mR (m : mu_M) : Option FieldType := m.2.2.2.2.1
def mu_mA (m : mu_M) : Nat := m.2.2.2.2.2.1
def mu_mC (m : mu_M) : List (Nat × Instr × Nat) := m.2.2.2.2.2.2
/-- links to private members of nest mates: fields (class, entry, class, name, descriptor, host), methods -/
def mu_nF : List (String × Nat × String × String × String × String) := [("StageFights$Move", 49, "StageFights", "GOES", "[I", "StageFights"), ("StageFights$Stage", 92, "StageFights", "REACH", "[I", "StageFights"), ("StageFights$Scene", 187, "StageFights", "TIRES", "[I", "StageFights"), ("StageFights$Scene", 190, "StageFights", "WEARS", "[I", "StageFights")]
def mu_nM : List (String × Nat × MethodName × String) := [("StageFights$Scene", 50, ⟨"StageFights$Log", "<init>", "()V"⟩, "StageFights"), ("StageFights$Scene", 83, ⟨"StageFights$Person", "<init>", "()V"⟩, "StageFights"), ("StageFights$Scene", 84, ⟨"StageFights$Move", "<init>", "()V"⟩, "StageFights"), ("StageFights", 80, ⟨"StageFights$Sheet", "<init>", "()V"⟩, "StageFights"), ("StageFights", 81, ⟨"StageFights$Slot", "<init>", "()V"⟩, "StageFights"), ("StageFights$Slot", 11, ⟨"StageFights$Sheet", "<init>", "()V"⟩, "StageFights"), ("StageFights$Scene", 101, ⟨"StageFights", "isWithin", "(III)Z"⟩, "StageFights"), ("StageFights$Text", 38, ⟨"StageFights", "asInt", "(Z)I"⟩, "StageFights"), ("StageFights$Scene", 163, ⟨"StageFights", "held", "(III)I"⟩, "StageFights"), ("StageFights$Move", 37, ⟨"StageFights", "asInt", "(Z)I"⟩, "StageFights"), ("StageFights$Move", 41, ⟨"StageFights", "isOfKind", "(II)Z"⟩, "StageFights"), ("StageFights$Scene", 122, ⟨"StageFights", "asInt", "(Z)I"⟩, "StageFights"), ("StageFights$Sheet", 28, ⟨"StageFights", "isWithin", "(III)Z"⟩, "StageFights"), ("StageFights$Sheet", 32, ⟨"StageFights", "asInt", "(Z)I"⟩, "StageFights")]
/-- the String constants: class, entry, text -/
def mu_ss : List (String × Nat × String) := [("StageFights$Reader", 73, "late"), ("StageFights$Reader", 79, "bar"), ("StageFights$Reader", 81, "hours"), ("StageFights$Reader", 113, "stw"), ("StageFights$Reader", 115, "ksba"), ("StageFights$Reader", 117, "ns")]
/-- what is known of the class tables -/
def mu_K (w : mu_O) (U : State) : Prop := va_K (w.2.1, w.2.2.1) vwCl (mu_tys w) U ∧ (∀ q ∈ mu_nF, va_Nw (.fieldLinkNest q.1 q.2.1 q.2.2.1 q.2.2.2.1 q.2.2.2.2.1 q.2.2.2.2.2) U) ∧ (∀ q ∈ mu_nM, va_Nw (.methodLinkNest q.1 q.2.1 q.2.2.1 q.2.2.2) U) ∧ (∀ q : Nat, 1 < q → q < 7 → ∃ C, mu_AE q = .object C ∧ va_AO C U) ∧ (∀ (j : Nat) (q : String × Nat × String), mu_ss[j]? = some q → ∃ a : Nat, w.2.2.2.2.2 j = a + 1 ∧ vk_R q.1 q.2.1 q.2.2 a U)
theorem mu_K_warm {w : mu_O} {s U : State} (hW : s.WarmedH U.vm) (h : mu_K w s) : mu_K w U := by
  obtain ⟨h1, h2, h3, h4, h5⟩ := h
  refine ⟨va_K.moved hW.alike h1, fun q hq => (h2 q hq).warmF hW, fun q hq => (h3 q hq).warmM hW, fun q h0 hq => ?_, fun j q hj => ?_⟩
  · obtain ⟨C, e, hC⟩ := h4 q h0 hq
    exact ⟨C, e, hC.moved hW.alike⟩
  · obtain ⟨a, e, ha⟩ := h5 j q hj
    exact ⟨a, e, ha.warm hW⟩
def mu_ws (m : mu_M) : List Jvm.Cond := .code (mu_mY m) (mu_mB m) (mu_mL m) (mu_mR m) :: lw_tbl.filter goodWord
def mu_lv : Nat → List (Option Value) → List (Nat × Value)
  | _, [] => []
  | i, none :: t => mu_lv (i + 1) t
  | i, some v :: t => (i, mu_V v) :: mu_lv (i + 1) t
def mu_get : List (Option Value) → Nat → Option Value
  | [], _ => none
  | v :: _, 0 => v
  | _ :: t, i + 1 => mu_get t i
def mu_set : List (Option Value) → Nat → Value → List (Option Value)
  | [], _, _ => []
  | _ :: t, 0, v => some v :: t
  | x :: t, i + 1, v => x :: mu_set t i v
theorem mu_lv_get {ls : List (Option Value)} : ∀ {i k : Nat} {v : Value}, mu_get ls i = some v → (k + i, mu_V v) ∈ mu_lv k ls := by
  induction ls with
  | nil => intro i k v h; cases h
  | cons x t ih =>
    intro i k v h
    cases i with
    | zero =>
      have hx : x = some v := h
      subst hx
      exact List.mem_cons_self
    | succ i =>
      have h2 : mu_get t i = some v := h
      have := ih (k := k + 1) h2
      have e : k + 1 + i = k + (i + 1) := by omega
      rw [e] at this
      cases x with
      | none => exact this
      | some y => exact List.mem_cons_of_mem _ this
theorem mu_lv_mem {ls : List (Option Value)} : ∀ {k : Nat} {q : Nat × Value}, q ∈ mu_lv k ls → ∃ (i : Nat) (v : Value), q = (k + i, mu_V v) ∧ mu_get ls i = some v := by
  induction ls with
  | nil => intro k q h; cases h
  | cons x t ih =>
    intro k q h
    cases x with
    | none =>
      obtain ⟨i, v, e, hv⟩ := ih (k := k + 1) h
      exact ⟨i + 1, v, by rw [e, show k + 1 + i = k + (i + 1) by omega], hv⟩
    | some y =>
      rcases List.mem_cons.mp h with e | h
      · exact ⟨0, y, e, rfl⟩
      · obtain ⟨i, v, e, hv⟩ := ih (k := k + 1) h
        exact ⟨i + 1, v, by rw [e, show k + 1 + i = k + (i + 1) by omega], hv⟩
theorem mu_get_set {ls : List (Option Value)} : ∀ {i j : Nat} {v x : Value}, mu_get (mu_set ls i v) j = some x → (j = i ∧ x = v) ∨ (j ≠ i ∧ mu_get ls j = some x) := by
  induction ls with
  | nil => intro i j v x h; cases h
  | cons y t ih =>
    intro i j v x h
    cases i with
    | zero =>
      cases j with
      | zero => left; exact ⟨rfl, (Option.some.inj h).symm⟩
      | succ j => right; exact ⟨by omega, h⟩
    | succ i =>
      cases j with
      | zero => right; exact ⟨by omega, h⟩
      | succ j =>
        have h2 : mu_get (mu_set t i v) j = some x := h
        rcases ih h2 with ⟨e, f⟩ | ⟨e, f⟩
        · left; exact ⟨by omega, f⟩
        · right; exact ⟨by omega, f⟩
theorem mu_has_get {lsA : Array Slot} {n i : Nat} {ls : List (Option Value)} {v : Value} (h : lv_has lsA n (mu_lv 0 ls)) (hv : mu_get ls i = some v) : lsA[i]? = some (.val (mu_V v)) := by
  have := h.2.2 _ (mu_lv_get (k := 0) hv)
  rw [Nat.zero_add] at this
  exact this
/-- no long lies just below i -/
def mu_noL (ls : List (Option Value)) (i : Nat) : Bool := match i with
  | 0 => true
  | i + 1 => match mu_get ls i with
    | some (.long _) => false
    | some (.double _) => false
    | _ => true
theorem mu_noL_cat {ls : List (Option Value)} {i : Nat} {v : Value} (h : mu_noL ls (i + 1) = true) (hv : mu_get ls i = some v) : v.category = 1 := by
  unfold mu_noL at h
  simp only [hv] at h
  cases v <;> first | rfl | cases h
theorem mu_has_set {lsA : Array Slot} {n i : Nat} {ls : List (Option Value)} {v : Value} (h : lv_has lsA n ((i, mu_V v) :: (mu_lv 0 ls).filter (fun q => !(q.1 == i) && !(q.1 + 1 == i && q.2.category == 2)))) (hn : mu_noL ls i = true) : lv_has lsA n (mu_lv 0 (mu_set ls i v)) := by
  refine ⟨h.1, h.2.1, fun q hq => h.2.2 q ?_⟩
  obtain ⟨j, x, e, hx⟩ := mu_lv_mem hq
  rw [Nat.zero_add] at e
  subst e
  rcases mu_get_set hx with ⟨rfl, rfl⟩ | ⟨hne, hx2⟩
  · exact List.mem_cons_self
  · refine List.mem_cons_of_mem _ (List.mem_filter.mpr ⟨?_, ?_⟩)
    · have := mu_lv_get (k := 0) hx2
      rw [Nat.zero_add] at this
      exact this
    · have h1 : (j == i) = false := by simp [hne]
      by_cases h2 : j + 1 = i
      · subst h2
        have := mu_noL_cat hn hx2
        simp [hne, mu_V_cat, this]
      · simp [hne, h2]
/-- fewer locals are known -/
def mu_mask : List Bool → List (Option Value) → List (Option Value)
  | true :: bs, x :: t => x :: mu_mask bs t
  | false :: bs, _ :: t => none :: mu_mask bs t
  | _, [] => []
  | [], _ :: t => none :: mu_mask [] t
theorem mu_mask_get : ∀ {bs : List Bool} {ls : List (Option Value)} {i : Nat} {v : Value}, mu_get (mu_mask bs ls) i = some v → mu_get ls i = some v := by
  intro bs ls
  induction ls generalizing bs with
  | nil => intro i v h; cases bs with
    | nil => exact h
    | cons b bs => cases b <;> exact h
  | cons x t ih =>
    intro i v h
    cases bs with
    | nil => cases i with
      | zero => cases h
      | succ i => exact ih (bs := []) h
    | cons b bs => cases b with
      | false => cases i with
        | zero => cases h
        | succ i => exact ih (bs := bs) h
      | true => cases i with
        | zero => exact h
        | succ i => exact ih (bs := bs) h
theorem mu_has_mask {lsA : Array Slot} {n : Nat} {bs : List Bool} {ls : List (Option Value)} (h : lv_has lsA n (mu_lv 0 ls)) : lv_has lsA n (mu_lv 0 (mu_mask bs ls)) := by
  refine ⟨h.1, h.2.1, fun q hq => h.2.2 q ?_⟩
  obtain ⟨j, x, e, hx⟩ := mu_lv_mem hq
  have := mu_lv_get (k := 0) (mu_mask_get hx)
  rw [e]
  exact this
/-- what holds all through a method's walk -/
def mu_ctx (w : mu_O) (mi : mu_M) (d : Nat) (L : Nat × Nat) (p : Program) (R : Room) (s : State) (m : MethodId) (args : Array Value) (meth : Method) (c : Code) (S0 : Nat) : Prop :=
  p.tables.exec = Jvm.exec ∧ c.code = mu_mB mi ∧ c.maxLocals = mu_mL mi ∧ s.vm.findClass (mu_mY mi).cls = some m.cls ∧ (∀ x ∈ lw_tbl, goodWord x = true → x.before args s = true) ∧ mu_K w s ∧ meth.name = (mu_mY mi).name ∧ d ≤ R.frames ∧ 40 * d ≤ R.locals ∧ L.1 = s.heap.size + 1 + R.cells ∧ L.2 = S0 + R.slots
/-- what holds of the heap now -/
def mu_dyn (w : mu_O) (g : mu_H) (R : Room) (s : State) (S0 : Nat) (H : Heap) (locs : List Loc) (cells slots : Nat) : Prop :=
  mu_rep w g s H ∧ mu_stat w s H ∧ H.size = s.heap.size + cells ∧ mu_S g = S0 + slots ∧ (∀ q ∈ locs, w.1 ≤ q.base) ∧ cells ≤ R.cells ∧ slots ≤ R.slots
def mu_ret (mi : mu_M) (pc : Nat) : Option Value → Prop
  | none => mu_mR mi = none ∧ decode (mu_mB mi) pc = .ok (.return_, 1)
  | some (.int v) => ∃ ty, mu_mR mi = some ty ∧ narrow ty (.int v) = .int v ∧ decode (mu_mB mi) pc = .ok (.ireturn, 1)
  | some (.ref _) => ∃ rt, mu_mR mi = some rt ∧ ((∃ n, rt = .object n) ∨ ∃ t, rt = .array t) ∧ decode (mu_mB mi) pc = .ok (.areturn, 1)
  | _ => False
/-- the walk from pc on comes to a return that Q allows, as far as room L goes -/
def mu_go (w : mu_O) (mi : mu_M) (d : Nat) (L : Nat × Nat) (Q : Option Value → mu_H → Prop) (pc : Nat) (ls : List (Option Value)) (st : List Value) (g : mu_H) : Prop :=
  ∀ (p : Program) (l : Launch) (e : Env) (R : Room) (s : State) (m : MethodId) (args : Array Value) (below : List Frame) (meth : Method) (c : Code) (H : Heap) (locs : List Loc) (cells slots S0 : Nat) (Qw : State → Prop) (lsA : Array Slot),
    mu_ctx w mi d L p R s m args meth c S0 → mu_dyn w g R s S0 H locs cells slots → lv_has lsA (mu_mL mi) (mu_lv 0 ls) →
    (∀ (r : Option Value) (g' : mu_H) (H' : Heap) (locs' : List Loc) (cells' slots' pc' : Nat) (ls' : Array Slot), Q r g' → mu_dyn w g' R s S0 H' locs' cells' slots' → mu_ret mi pc' r → W p l e R s m args below meth c H' locs' cells' slots' Qw (F0 m pc' ls' (r.toList.map mu_V))) →
    W p l e R s m args below meth c H locs cells slots Qw (F0 m pc lsA (st.map mu_V))
/-- a method's contract: from these arguments and this heap it answers r and leaves the heap g' -/
def mu_met (w : mu_O) (mi : mu_M) (d : Nat) (As : List Value) (g : mu_H) (r : Option Value) (g' : mu_H) : Prop :=
  mu_X g ≤ mu_X g' ∧ mu_S g ≤ mu_S g' ∧ ∀ l : Launch, Met l (mu_mY mi) (mu_ws mi) { frames := d, cells := mu_X g' - mu_X g, slots := mu_S g' - mu_S g, locals := 40 * d }
    (va_Pc (As.map mu_V) (fun U => mu_K w U ∧ mu_rep w g U U.heap ∧ mu_stat w U U.heap)) (fun _ _ oc t => oc = .returned (r.map mu_V) ∧ mu_rep w g' t t.heap ∧ mu_stat w t t.heap) (mu_X g' - mu_X g) (mu_S g' - mu_S g) (fun q => w.1 ≤ q)
def mu_args : Nat → List Value → List (Option Value)
  | n, [] => List.replicate n none
  | n, v :: vs => if v.category = 2 then some v :: none :: mu_args (n - 2) vs else some v :: mu_args (n - 1) vs
end
section
/-! OWN SMALL MACHINE, PART 3: the methods as data, and the pools, by program out of the claim's own listing -/
def mc_X0_init : List (Nat × Instr × Nat) := [(0, .aload_n 0, 1), (1, .invokespecial 3, 3), (4, .aload_n 0, 1), (5, .bipush 90, 2), (7, .newarray .int, 2), (9, .putfield 9, 3), (12, .aload_n 0, 1), (13, .bipush 20, 2), (15, .newarray .int, 2), (17, .putfield 15, 3), (20, .aload_n 0, 1), (21, .iconst 0, 1), (22, .putfield 18, 3), (25, .return_, 1)]
def mm_X0_init : mu_M := (0, yX0_init, cX0_init, 1, none, 0, mc_X0_init)
def mc_X0_add : List (Nat × Instr × Nat) := [(0, .aload_n 0, 1), (1, .getfield 18, 3), (4, .bipush 30, 2), (6, .if_icmp .ge 53, 3), (9, .aload_n 0, 1), (10, .getfield 9, 3), (13, .iconst 3, 1), (14, .aload_n 0, 1), (15, .getfield 18, 3), (18, .imul, 1), (19, .iload_n 1, 1), (20, .iastore, 1), (21, .aload_n 0, 1), (22, .getfield 9, 3), (25, .iconst 3, 1), (26, .aload_n 0, 1), (27, .getfield 18, 3), (30, .imul, 1), (31, .iconst 1, 1), (32, .iadd, 1), (33, .iload_n 2, 1), (34, .iastore, 1), (35, .aload_n 0, 1), (36, .getfield 9, 3), (39, .iconst 3, 1), (40, .aload_n 0, 1), (41, .getfield 18, 3), (44, .imul, 1), (45, .iconst 2, 1), (46, .iadd, 1), (47, .iload_n 3, 1), (48, .iastore, 1), (49, .aload_n 0, 1), (50, .dup, 1), (51, .getfield 18, 3), (54, .iconst 1, 1), (55, .iadd, 1), (56, .putfield 18, 3), (59, .return_, 1)]
def mm_X0_add : mu_M := (0, yX0_add, cX0_add, 4, none, 3, mc_X0_add)
def mc_X0_takeFrom : List (Nat × Instr × Nat) := [(0, .aload_n 0, 1), (1, .aload_n 1, 1), (2, .getfield 18, 3), (5, .putfield 18, 3), (8, .aload_n 1, 1), (9, .getfield 9, 3), (12, .iconst 0, 1), (13, .aload_n 0, 1), (14, .getfield 9, 3), (17, .iconst 0, 1), (18, .aload_n 0, 1), (19, .getfield 9, 3), (22, .arraylength, 1), (23, .invokestatic 22, 3), (26, .return_, 1)]
def mm_X0_takeFrom : mu_M := (0, yX0_takeFrom, cX0_takeFrom, 2, none, 1, mc_X0_takeFrom)
def mc_X0_mostMissed : List (Nat × Instr × Nat) := [(0, .iconst 0, 1), (1, .istore_n 1, 1), (2, .iload_n 1, 1), (3, .bipush 20, 2), (5, .if_icmp .ge 16, 3), (8, .aload_n 0, 1), (9, .getfield 15, 3), (12, .iload_n 1, 1), (13, .iconst 0, 1), (14, .iastore, 1), (15, .iinc 1 1, 3), (18, .goto (-16), 3), (21, .iconst 0, 1), (22, .istore_n 1, 1), (23, .iload_n 1, 1), (24, .aload_n 0, 1), (25, .getfield 18, 3), (28, .if_icmp .ge 28, 3), (31, .aload_n 0, 1), (32, .getfield 15, 3), (35, .aload_n 0, 1), (36, .getfield 9, 3), (39, .iconst 3, 1), (40, .iload_n 1, 1), (41, .imul, 1), (42, .iconst 1, 1), (43, .iadd, 1), (44, .iaload, 1), (45, .dup2, 1), (46, .iaload, 1), (47, .iconst 1, 1), (48, .iadd, 1), (49, .iastore, 1), (50, .iinc 1 1, 3), (53, .goto (-30), 3), (56, .ldc 28, 2), (58, .istore_n 1, 1), (59, .iconst 0, 1), (60, .istore_n 2, 1), (61, .iload_n 2, 1), (62, .bipush 20, 2), (64, .if_icmp .ge 36, 3), (67, .aload_n 0, 1), (68, .getfield 15, 3), (71, .iload_n 2, 1), (72, .iaload, 1), (73, .iload_n 1, 1), (74, .ldc 28, 2), (76, .if_icmp .ne 7, 3), (79, .iconst 0, 1), (80, .goto 9, 3), (83, .aload_n 0, 1), (84, .getfield 15, 3), (87, .iload_n 1, 1), (88, .iaload, 1), (89, .if_icmp .le 5, 3), (92, .iload_n 2, 1), (93, .istore_n 1, 1), (94, .iinc 2 1, 3), (97, .goto (-36), 3), (100, .iload_n 1, 1), (101, .ireturn, 1)]
def mm_X0_mostMissed : mu_M := (0, yX0_mostMissed, cX0_mostMissed, 3, (some .int), 0, mc_X0_mostMissed)
def mc_X1_init : List (Nat × Instr × Nat) := [(0, .aload_n 0, 1), (1, .invokespecial 3, 3), (4, .return_, 1)]
def mm_X1_init : mu_M := (1, yX1_init, cX1_init, 1, none, 0, mc_X1_init)
def mc_X1_become : List (Nat × Instr × Nat) := [(0, .aload_n 0, 1), (1, .iload_n 1, 1), (2, .putfield 9, 3), (5, .aload_n 0, 1), (6, .iload_n 2, 1), (7, .putfield 15, 3), (10, .aload_n 0, 1), (11, .iload_n 3, 1), (12, .bipush 10, 2), (14, .idiv, 1), (15, .putfield 18, 3), (18, .aload_n 0, 1), (19, .iload_n 3, 1), (20, .bipush 10, 2), (22, .irem, 1), (23, .putfield 21, 3), (26, .aload_n 0, 1), (27, .iload 4, 2), (29, .putfield 24, 3), (32, .aload_n 0, 1), (33, .iload 5, 2), (35, .bipush 10, 2), (37, .idiv, 1), (38, .putfield 27, 3), (41, .aload_n 0, 1), (42, .iload 5, 2), (44, .bipush 10, 2), (46, .irem, 1), (47, .putfield 30, 3), (50, .aload_n 0, 1), (51, .iconst 0, 1), (52, .putfield 33, 3), (55, .return_, 1)]
def mm_X1_become : mu_M := (1, yX1_become, cX1_become, 6, none, 5, mc_X1_become)
def mc_X1_takeFrom : List (Nat × Instr × Nat) := [(0, .aload_n 0, 1), (1, .aload_n 1, 1), (2, .getfield 9, 3), (5, .putfield 9, 3), (8, .aload_n 0, 1), (9, .aload_n 1, 1), (10, .getfield 15, 3), (13, .putfield 15, 3), (16, .aload_n 0, 1), (17, .aload_n 1, 1), (18, .getfield 18, 3), (21, .putfield 18, 3), (24, .aload_n 0, 1), (25, .aload_n 1, 1), (26, .getfield 21, 3), (29, .putfield 21, 3), (32, .aload_n 0, 1), (33, .aload_n 1, 1), (34, .getfield 24, 3), (37, .putfield 24, 3), (40, .aload_n 0, 1), (41, .aload_n 1, 1), (42, .getfield 27, 3), (45, .putfield 27, 3), (48, .aload_n 0, 1), (49, .aload_n 1, 1), (50, .getfield 30, 3), (53, .putfield 30, 3), (56, .aload_n 0, 1), (57, .aload_n 1, 1), (58, .getfield 33, 3), (61, .putfield 33, 3), (64, .return_, 1)]
def mm_X1_takeFrom : mu_M := (1, yX1_takeFrom, cX1_takeFrom, 2, none, 1, mc_X1_takeFrom)
def mc_X1_part : List (Nat × Instr × Nat) := [(0, .iload_n 1, 1), (1, .tableswitch 78 0 6 #[43, 48, 53, 58, 63, 68, 73], 43), (44, .aload_n 0, 1), (45, .getfield 9, 3), (48, .ireturn, 1), (49, .aload_n 0, 1), (50, .getfield 15, 3), (53, .ireturn, 1), (54, .aload_n 0, 1), (55, .getfield 18, 3), (58, .ireturn, 1), (59, .aload_n 0, 1), (60, .getfield 21, 3), (63, .ireturn, 1), (64, .aload_n 0, 1), (65, .getfield 24, 3), (68, .ireturn, 1), (69, .aload_n 0, 1), (70, .getfield 27, 3), (73, .ireturn, 1), (74, .aload_n 0, 1), (75, .getfield 30, 3), (78, .ireturn, 1), (79, .aload_n 0, 1), (80, .getfield 33, 3), (83, .invokestatic 37, 3), (86, .ireturn, 1)]
def mm_X1_part : mu_M := (1, yX1_part, cX1_part, 2, (some .int), 1, mc_X1_part)
def mc_X1_isBlow : List (Nat × Instr × Nat) := [(0, .aload_n 0, 1), (1, .getfield 15, 3), (4, .iconst 2, 1), (5, .invokestatic 41, 3), (8, .ireturn, 1)]
def mm_X1_isBlow : mu_M := (1, yX1_isBlow, cX1_isBlow, 1, (some .boolean), 0, mc_X1_isBlow)
def mc_X1_isBlowToDo : List (Nat × Instr × Nat) := [(0, .aload_n 0, 1), (1, .getfield 33, 3), (4, .ifCond .ne 14, 3), (7, .aload_n 0, 1), (8, .invokevirtual 45, 3), (11, .ifCond .eq 7, 3), (14, .iconst 1, 1), (15, .goto 4, 3), (18, .iconst 0, 1), (19, .ireturn, 1)]
def mm_X1_isBlowToDo : mu_M := (1, yX1_isBlowToDo, cX1_isBlowToDo, 1, (some .boolean), 0, mc_X1_isBlowToDo)
def mc_X1_goesOn : List (Nat × Instr × Nat) := [(0, .aload_n 0, 1), (1, .getfield 33, 3), (4, .ifCond .ne 19, 3), (7, .getstatic 49, 3), (10, .aload_n 0, 1), (11, .getfield 15, 3), (14, .iaload, 1), (15, .iconst 1, 1), (16, .if_icmp .ne 7, 3), (19, .iconst 1, 1), (20, .goto 4, 3), (23, .iconst 0, 1), (24, .ireturn, 1)]
def mm_X1_goesOn : mu_M := (1, yX1_goesOn, cX1_goesOn, 1, (some .boolean), 0, mc_X1_goesOn)
def mc_X1_becomeCut : List (Nat × Instr × Nat) := [(0, .aload_n 0, 1), (1, .getfield 33, 3), (4, .iload_n 1, 1), (5, .if_icmp .eq 7, 3), (8, .iconst 1, 1), (9, .goto 4, 3), (12, .iconst 0, 1), (13, .istore_n 2, 1), (14, .aload_n 0, 1), (15, .iload_n 1, 1), (16, .putfield 33, 3), (19, .iload_n 2, 1), (20, .ireturn, 1)]
def mm_X1_becomeCut : mu_M := (1, yX1_becomeCut, cX1_becomeCut, 3, (some .boolean), 1, mc_X1_becomeCut)
def mc_X1_sharesBeat : List (Nat × Instr × Nat) := [(0, .aload_n 0, 1), (1, .getfield 9, 3), (4, .aload_n 1, 1), (5, .getfield 9, 3), (8, .if_icmp .ne 39, 3), (11, .aload_n 0, 1), (12, .getfield 18, 3), (15, .aload_n 1, 1), (16, .getfield 18, 3), (19, .aload_n 1, 1), (20, .getfield 21, 3), (23, .iadd, 1), (24, .if_icmp .ge 23, 3), (27, .aload_n 1, 1), (28, .getfield 18, 3), (31, .aload_n 0, 1), (32, .getfield 18, 3), (35, .aload_n 0, 1), (36, .getfield 21, 3), (39, .iadd, 1), (40, .if_icmp .ge 7, 3), (43, .iconst 1, 1), (44, .goto 4, 3), (47, .iconst 0, 1), (48, .ireturn, 1)]
def mm_X1_sharesBeat : mu_M := (1, yX1_sharesBeat, cX1_sharesBeat, 2, (some .boolean), 1, mc_X1_sharesBeat)
def mc_X1_spanTo : List (Nat × Instr × Nat) := [(0, .iload_n 1, 1), (1, .aload_n 0, 1), (2, .getfield 27, 3), (5, .if_icmp .ne 12, 3), (8, .aload_n 0, 1), (9, .getfield 30, 3), (12, .iconst 2, 1), (13, .idiv, 1), (14, .goto 7, 3), (17, .aload_n 0, 1), (18, .getfield 30, 3), (21, .ireturn, 1)]
def mm_X1_spanTo : mu_M := (1, yX1_spanTo, cX1_spanTo, 2, (some .int), 1, mc_X1_spanTo)
def mc_X2_init : List (Nat × Instr × Nat) := [(0, .aload_n 0, 1), (1, .invokespecial 1, 3), (4, .return_, 1)]
def mm_X2_init : mu_M := (2, yX2_init, cX2_init, 1, none, 0, mc_X2_init)
def mc_X2_takeFrom : List (Nat × Instr × Nat) := [(0, .aload_n 0, 1), (1, .aload_n 1, 1), (2, .getfield 7, 3), (5, .putfield 7, 3), (8, .aload_n 0, 1), (9, .aload_n 1, 1), (10, .getfield 13, 3), (13, .putfield 13, 3), (16, .aload_n 0, 1), (17, .aload_n 1, 1), (18, .getfield 16, 3), (21, .putfield 16, 3), (24, .return_, 1)]
def mm_X2_takeFrom : mu_M := (2, yX2_takeFrom, cX2_takeFrom, 2, none, 1, mc_X2_takeFrom)
def mc_X3_init : List (Nat × Instr × Nat) := [(0, .aload_n 0, 1), (1, .invokespecial 3, 3), (4, .aload_n 0, 1), (5, .bipush 96, 2), (7, .newarray .int, 2), (9, .putfield 9, 3), (12, .aload_n 0, 1), (13, .aload_n 1, 1), (14, .putfield 15, 3), (17, .return_, 1)]
def mm_X3_init : mu_M := (3, yX3_init, cX3_init, 2, none, 1, mc_X3_init)
def mc_X3_read : List (Nat × Instr × Nat) := [(0, .aload_n 0, 1), (1, .iload_n 1, 1), (2, .aload_n 0, 1), (3, .getfield 15, 3), (6, .arraylength, 1), (7, .invokestatic 19, 3), (10, .putfield 25, 3), (13, .aload_n 0, 1), (14, .iconst 0, 1), (15, .putfield 29, 3), (18, .aload_n 0, 1), (19, .iconst 0, 1), (20, .putfield 32, 3), (23, .aload_n 0, 1), (24, .iconst 0, 1), (25, .putfield 35, 3), (28, .aload_n 0, 1), (29, .iconst 0, 1), (30, .putfield 38, 3), (33, .aload_n 0, 1), (34, .invokevirtual 41, 3), (37, .aload_n 0, 1), (38, .aload_n 0, 1), (39, .invokevirtual 44, 3), (42, .putfield 48, 3), (45, .aload_n 0, 1), (46, .getfield 48, 3), (49, .ifCond .ge 5, 3), (52, .aconst_null, 1), (53, .areturn, 1), (54, .aload_n 0, 1), (55, .invokevirtual 41, 3), (58, .aload_n 0, 1), (59, .iconst 0, 1), (60, .iconst 0, 1), (61, .iconst 0, 1), (62, .invokevirtual 51, 3), (65, .ifCond .eq 10, 3), (68, .aload_n 0, 1), (69, .getfield 32, 3), (72, .ifCond .eq 5, 3), (75, .aconst_null, 1), (76, .areturn, 1), (77, .new 55, 3), (80, .dup, 1), (81, .aload_n 0, 1), (82, .getfield 48, 3), (85, .aload_n 0, 1), (86, .getfield 38, 3), (89, .aload_n 0, 1), (90, .getfield 9, 3), (93, .aload_n 0, 1), (94, .getfield 35, 3), (97, .invokestatic 57, 3), (100, .invokespecial 63, 3), (103, .areturn, 1)]
def mm_X3_read : mu_M := (3, yX3_read, cX3_read, 2, (some (.object "StageFights$Text")), 1, mc_X3_read)
def mc_X3_goOn : List (Nat × Instr × Nat) := [(0, .aload_n 0, 1), (1, .getfield 32, 3), (4, .iconst 1, 1), (5, .if_icmp .eq 11, 3), (8, .aload_n 0, 1), (9, .getfield 32, 3), (12, .iconst 2, 1), (13, .if_icmp .ne 7, 3), (16, .iconst 1, 1), (17, .goto 4, 3), (20, .iconst 0, 1), (21, .istore_n 1, 1), (22, .aload_n 0, 1), (23, .getfield 29, 3), (26, .istore_n 2, 1), (27, .aload_n 0, 1), (28, .aload_n 0, 1), (29, .getfield 29, 3), (32, .putfield 66, 3), (35, .aload_n 0, 1), (36, .getfield 66, 3), (39, .aload_n 0, 1), (40, .getfield 25, 3), (43, .if_icmp .ge 30, 3), (46, .aload_n 0, 1), (47, .getfield 15, 3), (50, .aload_n 0, 1), (51, .getfield 66, 3), (54, .baload, 1), (55, .bipush 32, 2), (57, .if_icmp .ne 16, 3), (60, .aload_n 0, 1), (61, .dup, 1), (62, .getfield 66, 3), (65, .iconst 1, 1), (66, .iadd, 1), (67, .putfield 66, 3), (70, .goto (-35), 3), (73, .aload_n 0, 1), (74, .aload_n 0, 1), (75, .getfield 66, 3), (78, .putfield 29, 3), (81, .aload_n 0, 1), (82, .aload_n 0, 1), (83, .aload_n 0, 1), (84, .getfield 66, 3), (87, .invokevirtual 69, 3), (90, .putfield 32, 3), (93, .aload_n 0, 1), (94, .getfield 32, 3), (97, .iconst 3, 1), (98, .if_icmp .ne 16, 3), (101, .aload_n 0, 1), (102, .dup, 1), (103, .getfield 29, 3), (106, .iconst 1, 1), (107, .iadd, 1), (108, .putfield 29, 3), (111, .goto 66, 3), (114, .aload_n 0, 1), (115, .getfield 32, 3), (118, .ifCond .eq 59, 3), (121, .aload_n 0, 1), (122, .getfield 29, 3), (125, .aload_n 0, 1), (126, .getfield 25, 3), (129, .if_icmp .ge 31, 3), (132, .aload_n 0, 1), (133, .aload_n 0, 1), (134, .getfield 29, 3), (137, .invokevirtual 69, 3), (140, .aload_n 0, 1), (141, .getfield 32, 3), (144, .if_icmp .ne 16, 3), (147, .aload_n 0, 1), (148, .dup, 1), (149, .getfield 29, 3), (152, .iconst 1, 1), (153, .iadd, 1), (154, .putfield 29, 3), (157, .goto (-36), 3), (160, .iload_n 1, 1), (161, .ifCond .eq 16, 3), (164, .aload_n 0, 1), (165, .getfield 66, 3), (168, .iload_n 2, 1), (169, .if_icmp .ne 8, 3), (172, .aload_n 0, 1), (173, .iconst 4, 1), (174, .putfield 32, 3), (177, .return_, 1)]
def mm_X3_goOn : mu_M := (3, yX3_goOn, cX3_goOn, 3, none, 0, mc_X3_goOn)
def mc_X3_foundAt : List (Nat × Instr × Nat) := [(0, .iload_n 1, 1), (1, .aload_n 0, 1), (2, .getfield 25, 3), (5, .if_icmp .lt 5, 3), (8, .iconst 0, 1), (9, .ireturn, 1), (10, .aload_n 0, 1), (11, .getfield 15, 3), (14, .iload_n 1, 1), (15, .baload, 1), (16, .istore_n 2, 1), (17, .iload_n 2, 1), (18, .bipush 97, 2), (20, .if_icmp .lt 11, 3), (23, .iload_n 2, 1), (24, .bipush 122, 2), (26, .if_icmp .gt 5, 3), (29, .iconst 1, 1), (30, .ireturn, 1), (31, .iload_n 2, 1), (32, .bipush 48, 2), (34, .if_icmp .lt 13, 3), (37, .iload_n 2, 1), (38, .bipush 57, 2), (40, .if_icmp .gt 7, 3), (43, .iconst 2, 1), (44, .goto 4, 3), (47, .iconst 3, 1), (48, .ireturn, 1)]
def mm_X3_foundAt : mu_M := (3, yX3_foundAt, cX3_foundAt, 3, (some .int), 1, mc_X3_foundAt)
def mc_X3_keyHere : List (Nat × Instr × Nat) := [(0, .aload_n 0, 1), (1, .getfield 32, 3), (4, .iconst 1, 1), (5, .if_icmp .eq 5, 3), (8, .iconst (-1), 1), (9, .ireturn, 1), (10, .aload_n 0, 1), (11, .ldc 73, 2), (13, .invokevirtual 75, 3), (16, .ifCond .eq 5, 3), (19, .iconst 0, 1), (20, .ireturn, 1), (21, .aload_n 0, 1), (22, .ldc 79, 2), (24, .invokevirtual 75, 3), (27, .ifCond .eq 5, 3), (30, .iconst 1, 1), (31, .ireturn, 1), (32, .aload_n 0, 1), (33, .ldc 81, 2), (35, .invokevirtual 75, 3), (38, .ifCond .eq 7, 3), (41, .iconst 2, 1), (42, .goto 4, 3), (45, .iconst (-1), 1), (46, .ireturn, 1)]
def mm_X3_keyHere : mu_M := (3, yX3_keyHere, cX3_keyHere, 1, (some .int), 0, mc_X3_keyHere)
def mc_X3_isHere : List (Nat × Instr × Nat) := [(0, .aload_n 0, 1), (1, .getfield 29, 3), (4, .aload_n 0, 1), (5, .getfield 66, 3), (8, .isub, 1), (9, .aload_n 1, 1), (10, .invokevirtual 83, 3), (13, .if_icmp .eq 5, 3), (16, .iconst 0, 1), (17, .ireturn, 1), (18, .iconst 0, 1), (19, .istore_n 2, 1), (20, .iload_n 2, 1), (21, .aload_n 1, 1), (22, .invokevirtual 83, 3), (25, .if_icmp .ge 30, 3), (28, .aload_n 0, 1), (29, .getfield 15, 3), (32, .aload_n 0, 1), (33, .getfield 66, 3), (36, .iload_n 2, 1), (37, .iadd, 1), (38, .baload, 1), (39, .aload_n 1, 1), (40, .iload_n 2, 1), (41, .invokevirtual 87, 3), (44, .if_icmp .eq 5, 3), (47, .iconst 0, 1), (48, .ireturn, 1), (49, .iinc 2 1, 3), (52, .goto (-32), 3), (55, .iconst 1, 1), (56, .ireturn, 1)]
def mm_X3_isHere : mu_M := (3, yX3_isHere, cX3_isHere, 3, (some .boolean), 1, mc_X3_isHere)
def mc_X3_tier : List (Nat × Instr × Nat) := [(0, .iload_n 1, 1), (1, .iconst 5, 1), (2, .if_icmp .lt 10, 3), (5, .aload_n 0, 1), (6, .iload_n 2, 1), (7, .iload_n 3, 1), (8, .invokevirtual 91, 3), (11, .ireturn, 1), (12, .aload_n 0, 1), (13, .iload_n 1, 1), (14, .iconst 1, 1), (15, .iadd, 1), (16, .iload_n 2, 1), (17, .iload_n 3, 1), (18, .invokevirtual 51, 3), (21, .ifCond .ne 5, 3), (24, .iconst 0, 1), (25, .ireturn, 1), (26, .iload_n 1, 1), (27, .iconst 2, 1), (28, .if_icmp .ne 7, 3), (31, .iconst 1, 1), (32, .goto 5, 3), (35, .bipush 96, 2), (37, .istore 4, 2), (39, .iconst 0, 1), (40, .istore 5, 2), (42, .iload 5, 2), (44, .iload 4, 2), (46, .if_icmp .ge 56, 3), (49, .aload_n 0, 1), (50, .iload_n 1, 1), (51, .invokevirtual 95, 3), (54, .ifCond .eq 48, 3), (57, .aload_n 0, 1), (58, .getfield 15, 3), (61, .aload_n 0, 1), (62, .getfield 66, 3), (65, .baload, 1), (66, .istore 6, 2), (68, .aload_n 0, 1), (69, .invokevirtual 41, 3), (72, .aload_n 0, 1), (73, .iload_n 1, 1), (74, .iconst 1, 1), (75, .iadd, 1), (76, .iload_n 2, 1), (77, .iload_n 3, 1), (78, .invokevirtual 51, 3), (81, .ifCond .ne 5, 3), (84, .iconst 0, 1), (85, .ireturn, 1), (86, .aload_n 0, 1), (87, .sipush 20000, 3), (90, .iload 6, 2), (92, .iadd, 1), (93, .invokevirtual 99, 3), (96, .iinc 5 1, 3), (99, .goto (-57), 3), (102, .iconst 1, 1), (103, .ireturn, 1)]
def mm_X3_tier : mu_M := (3, yX3_tier, cX3_tier, 7, (some .boolean), 3, mc_X3_tier)
def mc_X3_isJoinOf : List (Nat × Instr × Nat) := [(0, .aload_n 0, 1), (1, .getfield 32, 3), (4, .iconst 3, 1), (5, .if_icmp .eq 5, 3), (8, .iconst 0, 1), (9, .ireturn, 1), (10, .aload_n 0, 1), (11, .getfield 15, 3), (14, .aload_n 0, 1), (15, .getfield 66, 3), (18, .baload, 1), (19, .istore_n 2, 1), (20, .iload_n 1, 1), (21, .tableswitch 97 0 3 #[31, 43, 55, 79], 31), (52, .iload_n 2, 1), (53, .bipush 124, 2), (55, .if_icmp .ne 7, 3), (58, .iconst 1, 1), (59, .goto 4, 3), (62, .iconst 0, 1), (63, .ireturn, 1), (64, .iload_n 2, 1), (65, .bipush 38, 2), (67, .if_icmp .ne 7, 3), (70, .iconst 1, 1), (71, .goto 4, 3), (74, .iconst 0, 1), (75, .ireturn, 1), (76, .iload_n 2, 1), (77, .bipush 60, 2), (79, .if_icmp .eq 15, 3), (82, .iload_n 2, 1), (83, .bipush 61, 2), (85, .if_icmp .eq 9, 3), (88, .iload_n 2, 1), (89, .bipush 62, 2), (91, .if_icmp .ne 7, 3), (94, .iconst 1, 1), (95, .goto 4, 3), (98, .iconst 0, 1), (99, .ireturn, 1), (100, .iload_n 2, 1), (101, .bipush 43, 2), (103, .if_icmp .eq 9, 3), (106, .iload_n 2, 1), (107, .bipush 45, 2), (109, .if_icmp .ne 7, 3), (112, .iconst 1, 1), (113, .goto 4, 3), (116, .iconst 0, 1), (117, .ireturn, 1), (118, .iload_n 2, 1), (119, .bipush 42, 2), (121, .if_icmp .eq 9, 3), (124, .iload_n 2, 1), (125, .bipush 47, 2), (127, .if_icmp .ne 7, 3), (130, .iconst 1, 1), (131, .goto 4, 3), (134, .iconst 0, 1), (135, .ireturn, 1)]
def mm_X3_isJoinOf : mu_M := (3, yX3_isJoinOf, cX3_isJoinOf, 3, (some .boolean), 1, mc_X3_isJoinOf)
def mc_X3_piece : List (Nat × Instr × Nat) := [(0, .aload_n 0, 1), (1, .getfield 32, 3), (4, .iconst 2, 1), (5, .if_icmp .eq 11, 3), (8, .aload_n 0, 1), (9, .getfield 32, 3), (12, .iconst 1, 1), (13, .if_icmp .ne 50, 3), (16, .aload_n 0, 1), (17, .getfield 32, 3), (20, .iconst 2, 1), (21, .if_icmp .ne 10, 3), (24, .aload_n 0, 1), (25, .invokevirtual 103, 3), (28, .goto 7, 3), (31, .aload_n 0, 1), (32, .invokevirtual 106, 3), (35, .istore_n 3, 1), (36, .iload_n 3, 1), (37, .ifCond .ge 5, 3), (40, .iconst 0, 1), (41, .ireturn, 1), (42, .aload_n 0, 1), (43, .dup, 1), (44, .getfield 38, 3), (47, .iconst 1, 1), (48, .iadd, 1), (49, .putfield 38, 3), (52, .aload_n 0, 1), (53, .iload_n 3, 1), (54, .invokevirtual 99, 3), (57, .aload_n 0, 1), (58, .invokevirtual 41, 3), (61, .iconst 1, 1), (62, .ireturn, 1), (63, .aload_n 0, 1), (64, .bipush 33, 2), (66, .invokevirtual 109, 3), (69, .ifCond .eq 35, 3), (72, .iload_n 2, 1), (73, .bipush 8, 2), (75, .if_icmp .ge 29, 3), (78, .aload_n 0, 1), (79, .invokevirtual 41, 3), (82, .aload_n 0, 1), (83, .iload_n 1, 1), (84, .iload_n 2, 1), (85, .iconst 1, 1), (86, .iadd, 1), (87, .invokevirtual 91, 3), (90, .ifCond .ne 5, 3), (93, .iconst 0, 1), (94, .ireturn, 1), (95, .aload_n 0, 1), (96, .sipush 20033, 3), (99, .invokevirtual 99, 3), (102, .iconst 1, 1), (103, .ireturn, 1), (104, .aload_n 0, 1), (105, .bipush 40, 2), (107, .invokevirtual 109, 3), (110, .ifCond .eq 42, 3), (113, .iload_n 1, 1), (114, .bipush 8, 2), (116, .if_icmp .ge 36, 3), (119, .aload_n 0, 1), (120, .invokevirtual 41, 3), (123, .aload_n 0, 1), (124, .iconst 0, 1), (125, .iload_n 1, 1), (126, .iconst 1, 1), (127, .iadd, 1), (128, .iload_n 2, 1), (129, .invokevirtual 51, 3), (132, .ifCond .eq 12, 3), (135, .aload_n 0, 1), (136, .bipush 41, 2), (138, .invokevirtual 109, 3), (141, .ifCond .ne 5, 3), (144, .iconst 0, 1), (145, .ireturn, 1), (146, .aload_n 0, 1), (147, .invokevirtual 41, 3), (150, .iconst 1, 1), (151, .ireturn, 1), (152, .iconst 0, 1), (153, .ireturn, 1)]
def mm_X3_piece : mu_M := (3, yX3_piece, cX3_piece, 4, (some .boolean), 2, mc_X3_piece)
def mc_X3_isSign : List (Nat × Instr × Nat) := [(0, .aload_n 0, 1), (1, .getfield 32, 3), (4, .iconst 3, 1), (5, .if_icmp .ne 20, 3), (8, .aload_n 0, 1), (9, .getfield 15, 3), (12, .aload_n 0, 1), (13, .getfield 66, 3), (16, .baload, 1), (17, .iload_n 1, 1), (18, .if_icmp .ne 7, 3), (21, .iconst 1, 1), (22, .goto 4, 3), (25, .iconst 0, 1), (26, .ireturn, 1)]
def mm_X3_isSign : mu_M := (3, yX3_isSign, cX3_isSign, 2, (some .boolean), 1, mc_X3_isSign)
def mc_X3_numberHere : List (Nat × Instr × Nat) := [(0, .aload_n 0, 1), (1, .getfield 29, 3), (4, .aload_n 0, 1), (5, .getfield 66, 3), (8, .isub, 1), (9, .iconst 4, 1), (10, .if_icmp .le 5, 3), (13, .iconst (-1), 1), (14, .ireturn, 1), (15, .iconst 0, 1), (16, .istore_n 1, 1), (17, .aload_n 0, 1), (18, .getfield 66, 3), (21, .istore_n 2, 1), (22, .iload_n 2, 1), (23, .aload_n 0, 1), (24, .getfield 29, 3), (27, .if_icmp .ge 24, 3), (30, .bipush 10, 2), (32, .iload_n 1, 1), (33, .imul, 1), (34, .aload_n 0, 1), (35, .getfield 15, 3), (38, .iload_n 2, 1), (39, .baload, 1), (40, .bipush 48, 2), (42, .isub, 1), (43, .iadd, 1), (44, .istore_n 1, 1), (45, .iinc 2 1, 3), (48, .goto (-26), 3), (51, .iload_n 1, 1), (52, .ireturn, 1)]
def mm_X3_numberHere : mu_M := (3, yX3_numberHere, cX3_numberHere, 3, (some .int), 0, mc_X3_numberHere)
def mc_X3_nameHere : List (Nat × Instr × Nat) := [(0, .aload_n 0, 1), (1, .getfield 48, 3), (4, .ifCond .ne 8, 3), (7, .ldc 113, 2), (9, .goto 18, 3), (12, .aload_n 0, 1), (13, .getfield 48, 3), (16, .iconst 1, 1), (17, .if_icmp .ne 8, 3), (20, .ldc 115, 2), (22, .goto 5, 3), (25, .ldc 117, 2), (27, .astore_n 1, 1), (28, .aload_n 0, 1), (29, .getfield 29, 3), (32, .aload_n 0, 1), (33, .getfield 66, 3), (36, .isub, 1), (37, .iconst 1, 1), (38, .if_icmp .ne 20, 3), (41, .aload_n 1, 1), (42, .aload_n 0, 1), (43, .getfield 15, 3), (46, .aload_n 0, 1), (47, .getfield 66, 3), (50, .baload, 1), (51, .i2c, 1), (52, .invokevirtual 119, 3), (55, .goto 4, 3), (58, .iconst (-1), 1), (59, .istore_n 2, 1), (60, .iload_n 2, 1), (61, .ifCond .ge 7, 3), (64, .iconst (-1), 1), (65, .goto 8, 3), (68, .sipush 10000, 3), (71, .iload_n 2, 1), (72, .iadd, 1), (73, .ireturn, 1)]
def mm_X3_nameHere : mu_M := (3, yX3_nameHere, cX3_nameHere, 3, (some .int), 0, mc_X3_nameHere)
def mc_X3_note : List (Nat × Instr × Nat) := [(0, .aload_n 0, 1), (1, .getfield 35, 3), (4, .aload_n 0, 1), (5, .getfield 9, 3), (8, .arraylength, 1), (9, .if_icmp .ge 23, 3), (12, .aload_n 0, 1), (13, .getfield 9, 3), (16, .aload_n 0, 1), (17, .getfield 35, 3), (20, .iload_n 1, 1), (21, .iastore, 1), (22, .aload_n 0, 1), (23, .dup, 1), (24, .getfield 35, 3), (27, .iconst 1, 1), (28, .iadd, 1), (29, .putfield 35, 3), (32, .return_, 1)]
def mm_X3_note : mu_M := (3, yX3_note, cX3_note, 2, none, 1, mc_X3_note)
def mc_X4_init : List (Nat × Instr × Nat) := [(0, .aload_n 0, 1), (1, .invokespecial 3, 3), (4, .aload_n 0, 1), (5, .bipush 8, 2), (7, .anewarray 9, 3), (10, .putfield 11, 3), (13, .aload_n 0, 1), (14, .bipush 20, 2), (16, .anewarray 17, 3), (19, .putfield 19, 3), (22, .aload_n 0, 1), (23, .bipush 20, 2), (25, .newarray .int, 2), (27, .putfield 23, 3), (30, .aload_n 0, 1), (31, .bipush 20, 2), (33, .newarray .int, 2), (35, .putfield 27, 3), (38, .aload_n 0, 1), (39, .bipush 14, 2), (41, .anewarray 30, 3), (44, .putfield 32, 3), (47, .aload_n 0, 1), (48, .bipush 64, 2), (50, .newarray .int, 2), (52, .putfield 36, 3), (55, .aload_n 0, 1), (56, .bipush 6, 2), (58, .newarray .int, 2), (60, .putfield 39, 3), (63, .aload_n 0, 1), (64, .bipush 6, 2), (66, .newarray .int, 2), (68, .putfield 42, 3), (71, .aload_n 0, 1), (72, .bipush 6, 2), (74, .newarray .int, 2), (76, .putfield 45, 3), (79, .aload_n 0, 1), (80, .new 48, 3), (83, .dup, 1), (84, .invokespecial 50, 3), (87, .putfield 51, 3), (90, .aload_n 0, 1), (91, .iconst 0, 1), (92, .putfield 55, 3), (95, .aload_n 0, 1), (96, .iconst 0, 1), (97, .putfield 59, 3), (100, .aload_n 0, 1), (101, .iconst 0, 1), (102, .putfield 62, 3), (105, .aload_n 0, 1), (106, .iconst 0, 1), (107, .putfield 65, 3), (110, .aload_n 0, 1), (111, .iconst 0, 1), (112, .putfield 68, 3), (115, .aload_n 0, 1), (116, .iconst 0, 1), (117, .putfield 71, 3), (120, .aload_n 0, 1), (121, .iconst 0, 1), (122, .putfield 74, 3), (125, .aload_n 0, 1), (126, .iconst 0, 1), (127, .putfield 77, 3), (130, .aload_n 0, 1), (131, .iconst 1, 1), (132, .putfield 80, 3), (135, .iconst 0, 1), (136, .istore_n 1, 1), (137, .iload_n 1, 1), (138, .bipush 8, 2), (140, .if_icmp .ge 22, 3), (143, .aload_n 0, 1), (144, .getfield 11, 3), (147, .iload_n 1, 1), (148, .new 9, 3), (151, .dup, 1), (152, .invokespecial 83, 3), (155, .aastore, 1), (156, .iinc 1 1, 3), (159, .goto (-22), 3), (162, .iconst 0, 1), (163, .istore_n 1, 1), (164, .iload_n 1, 1), (165, .bipush 20, 2), (167, .if_icmp .ge 22, 3), (170, .aload_n 0, 1), (171, .getfield 19, 3), (174, .iload_n 1, 1), (175, .new 17, 3), (178, .dup, 1), (179, .invokespecial 84, 3), (182, .aastore, 1), (183, .iinc 1 1, 3), (186, .goto (-22), 3), (189, .return_, 1)]
def mm_X4_init : mu_M := (4, yX4_init, cX4_init, 2, none, 0, mc_X4_init)
def mc_X4_takeFrom : List (Nat × Instr × Nat) := [(0, .iconst 0, 1), (1, .istore_n 2, 1), (2, .iload_n 2, 1), (3, .aload_n 1, 1), (4, .getfield 55, 3), (7, .if_icmp .ge 24, 3), (10, .aload_n 0, 1), (11, .getfield 11, 3), (14, .iload_n 2, 1), (15, .aaload, 1), (16, .aload_n 1, 1), (17, .getfield 11, 3), (20, .iload_n 2, 1), (21, .aaload, 1), (22, .invokevirtual 85, 3), (25, .iinc 2 1, 3), (28, .goto (-26), 3), (31, .iconst 0, 1), (32, .istore_n 2, 1), (33, .iload_n 2, 1), (34, .aload_n 1, 1), (35, .getfield 59, 3), (38, .if_icmp .ge 24, 3), (41, .aload_n 0, 1), (42, .getfield 19, 3), (45, .iload_n 2, 1), (46, .aaload, 1), (47, .aload_n 1, 1), (48, .getfield 19, 3), (51, .iload_n 2, 1), (52, .aaload, 1), (53, .invokevirtual 89, 3), (56, .iinc 2 1, 3), (59, .goto (-26), 3), (62, .iconst 0, 1), (63, .istore_n 2, 1), (64, .iload_n 2, 1), (65, .bipush 14, 2), (67, .if_icmp .ge 21, 3), (70, .aload_n 0, 1), (71, .getfield 32, 3), (74, .iload_n 2, 1), (75, .aload_n 1, 1), (76, .getfield 32, 3), (79, .iload_n 2, 1), (80, .aaload, 1), (81, .aastore, 1), (82, .iinc 2 1, 3), (85, .goto (-21), 3), (88, .aload_n 1, 1), (89, .getfield 23, 3), (92, .iconst 0, 1), (93, .aload_n 0, 1), (94, .getfield 23, 3), (97, .iconst 0, 1), (98, .bipush 20, 2), (100, .invokestatic 92, 3), (103, .aload_n 1, 1), (104, .getfield 27, 3), (107, .iconst 0, 1), (108, .aload_n 0, 1), (109, .getfield 27, 3), (112, .iconst 0, 1), (113, .bipush 20, 2), (115, .invokestatic 92, 3), (118, .aload_n 1, 1), (119, .getfield 36, 3), (122, .iconst 0, 1), (123, .aload_n 0, 1), (124, .getfield 36, 3), (127, .iconst 0, 1), (128, .bipush 64, 2), (130, .invokestatic 92, 3), (133, .aload_n 1, 1), (134, .getfield 39, 3), (137, .iconst 0, 1), (138, .aload_n 0, 1), (139, .getfield 39, 3), (142, .iconst 0, 1), (143, .bipush 6, 2), (145, .invokestatic 92, 3), (148, .aload_n 1, 1), (149, .getfield 42, 3), (152, .iconst 0, 1), (153, .aload_n 0, 1), (154, .getfield 42, 3), (157, .iconst 0, 1), (158, .bipush 6, 2), (160, .invokestatic 92, 3), (163, .aload_n 1, 1), (164, .getfield 45, 3), (167, .iconst 0, 1), (168, .aload_n 0, 1), (169, .getfield 45, 3), (172, .iconst 0, 1), (173, .bipush 6, 2), (175, .invokestatic 92, 3), (178, .aload_n 0, 1), (179, .getfield 51, 3), (182, .aload_n 1, 1), (183, .getfield 51, 3), (186, .invokevirtual 98, 3), (189, .aload_n 0, 1), (190, .aload_n 1, 1), (191, .getfield 55, 3), (194, .putfield 55, 3), (197, .aload_n 0, 1), (198, .aload_n 1, 1), (199, .getfield 59, 3), (202, .putfield 59, 3), (205, .aload_n 0, 1), (206, .aload_n 1, 1), (207, .getfield 62, 3), (210, .putfield 62, 3), (213, .aload_n 0, 1), (214, .aload_n 1, 1), (215, .getfield 65, 3), (218, .putfield 65, 3), (221, .aload_n 0, 1), (222, .aload_n 1, 1), (223, .getfield 68, 3), (226, .putfield 68, 3), (229, .aload_n 0, 1), (230, .aload_n 1, 1), (231, .getfield 71, 3), (234, .putfield 71, 3), (237, .aload_n 0, 1), (238, .aload_n 1, 1), (239, .getfield 74, 3), (242, .putfield 74, 3), (245, .aload_n 0, 1), (246, .aload_n 1, 1), (247, .getfield 77, 3), (250, .putfield 77, 3), (253, .aload_n 0, 1), (254, .aload_n 1, 1), (255, .getfield 80, 3), (258, .putfield 80, 3), (261, .return_, 1)]
def mm_X4_takeFrom : mu_M := (4, yX4_takeFrom, cX4_takeFrom, 3, none, 1, mc_X4_takeFrom)
def mc_X4_hasPerson : List (Nat × Instr × Nat) := [(0, .iload_n 1, 1), (1, .iconst 0, 1), (2, .aload_n 0, 1), (3, .getfield 55, 3), (6, .iconst 1, 1), (7, .isub, 1), (8, .invokestatic 101, 3), (11, .ireturn, 1)]
def mm_X4_hasPerson : mu_M := (4, yX4_hasPerson, cX4_hasPerson, 2, (some .boolean), 1, mc_X4_hasPerson)
def mc_X4_hasMove : List (Nat × Instr × Nat) := [(0, .iload_n 1, 1), (1, .iconst 0, 1), (2, .aload_n 0, 1), (3, .getfield 59, 3), (6, .iconst 1, 1), (7, .isub, 1), (8, .invokestatic 101, 3), (11, .ireturn, 1)]
def mm_X4_hasMove : mu_M := (4, yX4_hasMove, cX4_hasMove, 2, (some .boolean), 1, mc_X4_hasMove)
def mc_X4_hasWeapon : List (Nat × Instr × Nat) := [(0, .iload_n 1, 1), (1, .iconst 0, 1), (2, .aload_n 0, 1), (3, .getfield 71, 3), (6, .iconst 1, 1), (7, .isub, 1), (8, .invokestatic 101, 3), (11, .ireturn, 1)]
def mm_X4_hasWeapon : mu_M := (4, yX4_hasWeapon, cX4_hasWeapon, 2, (some .boolean), 1, mc_X4_hasWeapon)
def mc_X4_areTwo : List (Nat × Instr × Nat) := [(0, .aload_n 0, 1), (1, .iload_n 1, 1), (2, .invokevirtual 105, 3), (5, .ifCond .eq 20, 3), (8, .aload_n 0, 1), (9, .iload_n 2, 1), (10, .invokevirtual 105, 3), (13, .ifCond .eq 12, 3), (16, .iload_n 1, 1), (17, .iload_n 2, 1), (18, .if_icmp .eq 7, 3), (21, .iconst 1, 1), (22, .goto 4, 3), (25, .iconst 0, 1), (26, .ireturn, 1)]
def mm_X4_areTwo : mu_M := (4, yX4_areTwo, cX4_areTwo, 3, (some .boolean), 2, mc_X4_areTwo)
def mc_X4_addPerson : List (Nat × Instr × Nat) := [(0, .aload_n 0, 1), (1, .getfield 11, 3), (4, .aload_n 0, 1), (5, .getfield 55, 3), (8, .aaload, 1), (9, .astore_n 3, 1), (10, .aload_n 3, 1), (11, .iload_n 1, 1), (12, .putfield 109, 3), (15, .aload_n 3, 1), (16, .iload_n 2, 1), (17, .putfield 112, 3), (20, .aload_n 3, 1), (21, .iconst 0, 1), (22, .putfield 115, 3), (25, .aload_n 0, 1), (26, .dup, 1), (27, .getfield 55, 3), (30, .iconst 1, 1), (31, .iadd, 1), (32, .putfield 55, 3), (35, .aload_n 0, 1), (36, .getfield 55, 3), (39, .iconst 1, 1), (40, .isub, 1), (41, .ireturn, 1)]
def mm_X4_addPerson : mu_M := (4, yX4_addPerson, cX4_addPerson, 4, (some .int), 2, mc_X4_addPerson)
def mc_X4_tiredTogether : List (Nat × Instr × Nat) := [(0, .iconst 0, 1), (1, .istore_n 1, 1), (2, .iconst 0, 1), (3, .istore_n 2, 1), (4, .iload_n 2, 1), (5, .aload_n 0, 1), (6, .getfield 55, 3), (9, .if_icmp .ge 21, 3), (12, .iload_n 1, 1), (13, .aload_n 0, 1), (14, .getfield 11, 3), (17, .iload_n 2, 1), (18, .aaload, 1), (19, .getfield 115, 3), (22, .iadd, 1), (23, .istore_n 1, 1), (24, .iinc 2 1, 3), (27, .goto (-23), 3), (30, .iload_n 1, 1), (31, .ireturn, 1)]
def mm_X4_tiredTogether : mu_M := (4, yX4_tiredTogether, cX4_tiredTogether, 3, (some .int), 0, mc_X4_tiredTogether)
def mc_X4_cutMoves : List (Nat × Instr × Nat) := [(0, .iconst 0, 1), (1, .istore_n 1, 1), (2, .iconst 0, 1), (3, .istore_n 2, 1), (4, .iload_n 2, 1), (5, .aload_n 0, 1), (6, .getfield 59, 3), (9, .if_icmp .ge 24, 3), (12, .iload_n 1, 1), (13, .aload_n 0, 1), (14, .getfield 19, 3), (17, .iload_n 2, 1), (18, .aaload, 1), (19, .getfield 118, 3), (22, .invokestatic 122, 3), (25, .iadd, 1), (26, .istore_n 1, 1), (27, .iinc 2 1, 3), (30, .goto (-26), 3), (33, .iload_n 1, 1), (34, .ireturn, 1)]
def mm_X4_cutMoves : mu_M := (4, yX4_cutMoves, cX4_cutMoves, 3, (some .int), 0, mc_X4_cutMoves)
def mc_X4_blows : List (Nat × Instr × Nat) := [(0, .iconst 0, 1), (1, .istore_n 1, 1), (2, .iconst 0, 1), (3, .istore_n 2, 1), (4, .iload_n 2, 1), (5, .aload_n 0, 1), (6, .getfield 59, 3), (9, .if_icmp .ge 24, 3), (12, .iload_n 1, 1), (13, .aload_n 0, 1), (14, .getfield 19, 3), (17, .iload_n 2, 1), (18, .aaload, 1), (19, .invokevirtual 126, 3), (22, .invokestatic 122, 3), (25, .iadd, 1), (26, .istore_n 1, 1), (27, .iinc 2 1, 3), (30, .goto (-26), 3), (33, .iload_n 1, 1), (34, .ireturn, 1)]
def mm_X4_blows : mu_M := (4, yX4_blows, cX4_blows, 3, (some .int), 0, mc_X4_blows)
def mc_X4_meetsAnother : List (Nat × Instr × Nat) := [(0, .iconst 0, 1), (1, .istore_n 2, 1), (2, .iload_n 2, 1), (3, .aload_n 0, 1), (4, .getfield 59, 3), (7, .if_icmp .ge 34, 3), (10, .iload_n 2, 1), (11, .iload_n 1, 1), (12, .if_icmp .eq 23, 3), (15, .aload_n 0, 1), (16, .getfield 19, 3), (19, .iload_n 2, 1), (20, .aaload, 1), (21, .aload_n 0, 1), (22, .getfield 19, 3), (25, .iload_n 1, 1), (26, .aaload, 1), (27, .invokevirtual 130, 3), (30, .ifCond .eq 5, 3), (33, .iconst 1, 1), (34, .ireturn, 1), (35, .iinc 2 1, 3), (38, .goto (-36), 3), (41, .iconst 0, 1), (42, .ireturn, 1)]
def mm_X4_meetsAnother : mu_M := (4, yX4_meetsAnother, cX4_meetsAnother, 3, (some .boolean), 1, mc_X4_meetsAnother)
def mc_X4_nextGoing : List (Nat × Instr × Nat) := [(0, .aconst_null, 1), (1, .astore_n 3, 1), (2, .iconst 0, 1), (3, .istore 4, 2), (5, .iload 4, 2), (7, .aload_n 0, 1), (8, .getfield 59, 3), (11, .if_icmp .ge 63, 3), (14, .aload_n 0, 1), (15, .getfield 19, 3), (18, .iload 4, 2), (20, .aaload, 1), (21, .astore 5, 2), (23, .aload 5, 2), (25, .getfield 134, 3), (28, .iload_n 1, 1), (29, .if_icmp .ne 39, 3), (32, .aload 5, 2), (34, .invokevirtual 137, 3), (37, .ifCond .eq 31, 3), (40, .aload 5, 2), (42, .getfield 140, 3), (45, .iload_n 2, 1), (46, .if_icmp .lt 22, 3), (49, .aload_n 3, 1), (50, .ifnull 15, 3), (53, .aload 5, 2), (55, .getfield 140, 3), (58, .aload_n 3, 1), (59, .getfield 140, 3), (62, .if_icmp .ge 6, 3), (65, .aload 5, 2), (67, .astore_n 3, 1), (68, .iinc 4 1, 3), (71, .goto (-66), 3), (74, .aload_n 3, 1), (75, .areturn, 1)]
def mm_X4_nextGoing : mu_M := (4, yX4_nextGoing, cX4_nextGoing, 6, (some (.object "StageFights$Move")), 2, mc_X4_nextGoing)
def mc_X4_unreadyBlows : List (Nat × Instr × Nat) := [(0, .iconst 0, 1), (1, .istore_n 1, 1), (2, .iconst 0, 1), (3, .istore_n 2, 1), (4, .iload_n 2, 1), (5, .aload_n 0, 1), (6, .getfield 59, 3), (9, .if_icmp .ge 42, 3), (12, .aload_n 0, 1), (13, .getfield 19, 3), (16, .iload_n 2, 1), (17, .aaload, 1), (18, .astore_n 3, 1), (19, .iload_n 1, 1), (20, .aload_n 3, 1), (21, .invokevirtual 143, 3), (24, .ifCond .eq 15, 3), (27, .aload_n 0, 1), (28, .aload_n 3, 1), (29, .invokevirtual 146, 3), (32, .ifCond .eq 7, 3), (35, .iconst 1, 1), (36, .goto 4, 3), (39, .iconst 0, 1), (40, .invokestatic 122, 3), (43, .iadd, 1), (44, .istore_n 1, 1), (45, .iinc 2 1, 3), (48, .goto (-44), 3), (51, .iload_n 1, 1), (52, .ireturn, 1)]
def mm_X4_unreadyBlows : mu_M := (4, yX4_unreadyBlows, cX4_unreadyBlows, 4, (some .int), 0, mc_X4_unreadyBlows)
def mc_X4_isUnready : List (Nat × Instr × Nat) := [(0, .iconst 0, 1), (1, .istore_n 2, 1), (2, .iload_n 2, 1), (3, .aload_n 0, 1), (4, .getfield 62, 3), (7, .if_icmp .ge 43, 3), (10, .aload_n 0, 1), (11, .getfield 23, 3), (14, .iload_n 2, 1), (15, .iaload, 1), (16, .aload_n 1, 1), (17, .getfield 149, 3), (20, .if_icmp .ne 24, 3), (23, .aload_n 1, 1), (24, .getfield 140, 3), (27, .aload_n 0, 1), (28, .getfield 27, 3), (31, .iload_n 2, 1), (32, .iaload, 1), (33, .isub, 1), (34, .iconst 1, 1), (35, .iconst 3, 1), (36, .invokestatic 101, 3), (39, .ifCond .eq 5, 3), (42, .iconst 0, 1), (43, .ireturn, 1), (44, .iinc 2 1, 3), (47, .goto (-45), 3), (50, .iconst 1, 1), (51, .ireturn, 1)]
def mm_X4_isUnready : mu_M := (4, yX4_isUnready, cX4_isUnready, 3, (some .boolean), 1, mc_X4_isUnready)
def mc_X4_lawOf : List (Nat × Instr × Nat) := [(0, .aload_n 0, 1), (1, .getfield 65, 3), (4, .iconst 1, 1), (5, .isub, 1), (6, .istore_n 2, 1), (7, .iload_n 2, 1), (8, .ifCond .lt 30, 3), (11, .aload_n 0, 1), (12, .getfield 32, 3), (15, .iload_n 2, 1), (16, .aaload, 1), (17, .astore_n 3, 1), (18, .aload_n 3, 1), (19, .ifnull 13, 3), (22, .aload_n 3, 1), (23, .getfield 152, 3), (26, .iload_n 1, 1), (27, .if_icmp .ne 5, 3), (30, .aload_n 3, 1), (31, .areturn, 1), (32, .iinc 2 (-1), 3), (35, .goto (-28), 3), (38, .aconst_null, 1), (39, .areturn, 1)]
def mm_X4_lawOf : mu_M := (4, yX4_lawOf, cX4_lawOf, 4, (some (.object "StageFights$Text")), 1, mc_X4_lawOf)
def mc_X4_lateOf : List (Nat × Instr × Nat) := [(0, .aload_n 0, 1), (1, .getfield 11, 3), (4, .iload_n 1, 1), (5, .aaload, 1), (6, .astore_n 2, 1), (7, .aload_n 0, 1), (8, .iconst 0, 1), (9, .invokevirtual 155, 3), (12, .astore_n 3, 1), (13, .aload_n 3, 1), (14, .ifnonnull 28, 3), (17, .bipush 9, 2), (19, .aload_n 2, 1), (20, .getfield 112, 3), (23, .isub, 1), (24, .iconst 3, 1), (25, .idiv, 1), (26, .aload_n 2, 1), (27, .getfield 115, 3), (30, .bipush 25, 2), (32, .idiv, 1), (33, .iadd, 1), (34, .aload_n 0, 1), (35, .getfield 74, 3), (38, .iadd, 1), (39, .goto 20, 3), (42, .aload_n 3, 1), (43, .aload_n 2, 1), (44, .getfield 112, 3), (47, .aload_n 2, 1), (48, .getfield 115, 3), (51, .aload_n 0, 1), (52, .getfield 74, 3), (55, .iconst 0, 1), (56, .invokevirtual 159, 3), (59, .istore 4, 2), (61, .iload 4, 2), (63, .iconst 0, 1), (64, .iconst 3, 1), (65, .invokestatic 163, 3), (68, .ireturn, 1)]
def mm_X4_lateOf : mu_M := (4, yX4_lateOf, cX4_lateOf, 5, (some .int), 1, mc_X4_lateOf)
def mc_X4_isBarred : List (Nat × Instr × Nat) := [(0, .aload_n 0, 1), (1, .iconst 1, 1), (2, .invokevirtual 155, 3), (5, .astore_n 2, 1), (6, .aload_n 2, 1), (7, .ifnull 46, 3), (10, .aload_n 2, 1), (11, .aload_n 1, 1), (12, .getfield 167, 3), (15, .aload_n 0, 1), (16, .getfield 11, 3), (19, .aload_n 1, 1), (20, .getfield 134, 3), (23, .aaload, 1), (24, .getfield 112, 3), (27, .aload_n 1, 1), (28, .getfield 140, 3), (31, .aload_n 0, 1), (32, .getfield 11, 3), (35, .aload_n 1, 1), (36, .getfield 149, 3), (39, .aaload, 1), (40, .getfield 112, 3), (43, .invokevirtual 159, 3), (46, .ifCond .eq 7, 3), (49, .iconst 1, 1), (50, .goto 4, 3), (53, .iconst 0, 1), (54, .ireturn, 1)]
def mm_X4_isBarred : mu_M := (4, yX4_isBarred, cX4_isBarred, 3, (some .boolean), 1, mc_X4_isBarred)
def mc_X4_hasBarred : List (Nat × Instr × Nat) := [(0, .iconst 0, 1), (1, .istore_n 1, 1), (2, .iload_n 1, 1), (3, .aload_n 0, 1), (4, .getfield 59, 3), (7, .if_icmp .ge 36, 3), (10, .aload_n 0, 1), (11, .getfield 19, 3), (14, .iload_n 1, 1), (15, .aaload, 1), (16, .getfield 118, 3), (19, .ifCond .ne 18, 3), (22, .aload_n 0, 1), (23, .aload_n 0, 1), (24, .getfield 19, 3), (27, .iload_n 1, 1), (28, .aaload, 1), (29, .invokevirtual 170, 3), (32, .ifCond .eq 5, 3), (35, .iconst 1, 1), (36, .ireturn, 1), (37, .iinc 1 1, 3), (40, .goto (-38), 3), (43, .iconst 0, 1), (44, .ireturn, 1)]
def mm_X4_hasBarred : mu_M := (4, yX4_hasBarred, cX4_hasBarred, 2, (some .boolean), 0, mc_X4_hasBarred)
def mc_X4_hoursNeeded : List (Nat × Instr × Nat) := [(0, .iconst 0, 1), (1, .istore_n 3, 1), (2, .iconst 0, 1), (3, .istore 4, 2), (5, .iload 4, 2), (7, .aload_n 0, 1), (8, .getfield 59, 3), (11, .if_icmp .ge 85, 3), (14, .aload_n 0, 1), (15, .getfield 19, 3), (18, .iload 4, 2), (20, .aaload, 1), (21, .astore 5, 2), (23, .aload 5, 2), (25, .getfield 134, 3), (28, .iload_n 1, 1), (29, .if_icmp .ne 12, 3), (32, .aload 5, 2), (34, .getfield 149, 3), (37, .iload_n 2, 1), (38, .if_icmp .eq 21, 3), (41, .aload 5, 2), (43, .getfield 134, 3), (46, .iload_n 2, 1), (47, .if_icmp .ne 16, 3), (50, .aload 5, 2), (52, .getfield 149, 3), (55, .iload_n 1, 1), (56, .if_icmp .ne 7, 3), (59, .iconst 1, 1), (60, .goto 4, 3), (63, .iconst 0, 1), (64, .istore 6, 2), (66, .iload_n 3, 1), (67, .iload 6, 2), (69, .ifCond .eq 15, 3), (72, .aload 5, 2), (74, .invokevirtual 143, 3), (77, .ifCond .eq 7, 3), (80, .iconst 1, 1), (81, .goto 4, 3), (84, .iconst 0, 1), (85, .invokestatic 122, 3), (88, .iadd, 1), (89, .istore_n 3, 1), (90, .iinc 4 1, 3), (93, .goto (-88), 3), (96, .aload_n 0, 1), (97, .getfield 11, 3), (100, .iload_n 1, 1), (101, .aaload, 1), (102, .getfield 112, 3), (105, .aload_n 0, 1), (106, .getfield 11, 3), (109, .iload_n 2, 1), (110, .aaload, 1), (111, .getfield 112, 3), (114, .invokestatic 173, 3), (117, .istore 4, 2), (119, .aload_n 0, 1), (120, .iconst 2, 1), (121, .invokevirtual 155, 3), (124, .astore 5, 2), (126, .aload 5, 2), (128, .ifnonnull 13, 3), (131, .iload_n 3, 1), (132, .bipush 10, 2), (134, .iload 4, 2), (136, .isub, 1), (137, .imul, 1), (138, .goto 19, 3), (141, .aload 5, 2), (143, .iload_n 3, 1), (144, .iload 4, 2), (146, .iconst 0, 1), (147, .iconst 0, 1), (148, .invokevirtual 159, 3), (151, .iconst 0, 1), (152, .bipush 99, 2), (154, .invokestatic 163, 3), (157, .ireturn, 1)]
def mm_X4_hoursNeeded : mu_M := (4, yX4_hoursNeeded, cX4_hoursNeeded, 7, (some .int), 2, mc_X4_hoursNeeded)
def mc_X4_lacksHours : List (Nat × Instr × Nat) := [(0, .iconst 0, 1), (1, .istore_n 1, 1), (2, .iload_n 1, 1), (3, .aload_n 0, 1), (4, .getfield 55, 3), (7, .if_icmp .ge 49, 3), (10, .iload_n 1, 1), (11, .iconst 1, 1), (12, .iadd, 1), (13, .istore_n 2, 1), (14, .iload_n 2, 1), (15, .aload_n 0, 1), (16, .getfield 55, 3), (19, .if_icmp .ge 31, 3), (22, .aload_n 0, 1), (23, .getfield 36, 3), (26, .iload_n 1, 1), (27, .bipush 8, 2), (29, .imul, 1), (30, .iload_n 2, 1), (31, .iadd, 1), (32, .iaload, 1), (33, .aload_n 0, 1), (34, .iload_n 1, 1), (35, .iload_n 2, 1), (36, .invokevirtual 179, 3), (39, .if_icmp .ge 5, 3), (42, .iconst 1, 1), (43, .ireturn, 1), (44, .iinc 2 1, 3), (47, .goto (-33), 3), (50, .iinc 1 1, 3), (53, .goto (-51), 3), (56, .iconst 0, 1), (57, .ireturn, 1)]
def mm_X4_lacksHours : mu_M := (4, yX4_lacksHours, cX4_lacksHours, 3, (some .boolean), 0, mc_X4_lacksHours)
def mc_X4_chosenPlace : List (Nat × Instr × Nat) := [(0, .iconst 0, 1), (1, .istore_n 2, 1), (2, .iload_n 2, 1), (3, .aload_n 0, 1), (4, .getfield 68, 3), (7, .if_icmp .ge 21, 3), (10, .aload_n 0, 1), (11, .getfield 39, 3), (14, .iload_n 2, 1), (15, .iaload, 1), (16, .iload_n 1, 1), (17, .if_icmp .ne 5, 3), (20, .iload_n 2, 1), (21, .ireturn, 1), (22, .iinc 2 1, 3), (25, .goto (-23), 3), (28, .ldc 182, 2), (30, .ireturn, 1)]
def mm_X4_chosenPlace : mu_M := (4, yX4_chosenPlace, cX4_chosenPlace, 3, (some .int), 1, mc_X4_chosenPlace)
def mc_X4_isDull : List (Nat × Instr × Nat) := [(0, .aload_n 0, 1), (1, .getfield 42, 3), (4, .iload_n 1, 1), (5, .iaload, 1), (6, .bipush 20, 2), (8, .if_icmp .le 7, 3), (11, .iconst 1, 1), (12, .goto 4, 3), (15, .iconst 0, 1), (16, .ireturn, 1)]
def mm_X4_isDull : mu_M := (4, yX4_isDull, cX4_isDull, 2, (some .boolean), 1, mc_X4_isDull)
def mc_X4_weaponOf : List (Nat × Instr × Nat) := [(0, .iconst 0, 1), (1, .istore_n 2, 1), (2, .iload_n 2, 1), (3, .aload_n 0, 1), (4, .getfield 71, 3), (7, .if_icmp .ge 21, 3), (10, .aload_n 0, 1), (11, .getfield 45, 3), (14, .iload_n 2, 1), (15, .iaload, 1), (16, .iload_n 1, 1), (17, .if_icmp .ne 5, 3), (20, .iload_n 2, 1), (21, .ireturn, 1), (22, .iinc 2 1, 3), (25, .goto (-23), 3), (28, .ldc 182, 2), (30, .ireturn, 1)]
def mm_X4_weaponOf : mu_M := (4, yX4_weaponOf, cX4_weaponOf, 3, (some .int), 1, mc_X4_weaponOf)
def mc_X4_weaponsOut : List (Nat × Instr × Nat) := [(0, .iconst 0, 1), (1, .istore_n 1, 1), (2, .iconst 0, 1), (3, .istore_n 2, 1), (4, .iload_n 2, 1), (5, .aload_n 0, 1), (6, .getfield 71, 3), (9, .if_icmp .ge 31, 3), (12, .iload_n 1, 1), (13, .aload_n 0, 1), (14, .getfield 45, 3), (17, .iload_n 2, 1), (18, .iaload, 1), (19, .ldc 182, 2), (21, .if_icmp .eq 7, 3), (24, .iconst 1, 1), (25, .goto 4, 3), (28, .iconst 0, 1), (29, .invokestatic 122, 3), (32, .iadd, 1), (33, .istore_n 1, 1), (34, .iinc 2 1, 3), (37, .goto (-33), 3), (40, .iload_n 1, 1), (41, .ireturn, 1)]
def mm_X4_weaponsOut : mu_M := (4, yX4_weaponsOut, cX4_weaponsOut, 3, (some .int), 0, mc_X4_weaponsOut)
def mc_X4_endShow : List (Nat × Instr × Nat) := [(0, .iconst 0, 1), (1, .istore_n 1, 1), (2, .iload_n 1, 1), (3, .aload_n 0, 1), (4, .getfield 55, 3), (7, .if_icmp .ge 14, 3), (10, .aload_n 0, 1), (11, .iload_n 1, 1), (12, .invokevirtual 183, 3), (15, .iinc 1 1, 3), (18, .goto (-16), 3), (21, .aload_n 0, 1), (22, .dup, 1), (23, .getfield 77, 3), (26, .iconst 1, 1), (27, .iadd, 1), (28, .putfield 77, 3), (31, .return_, 1)]
def mm_X4_endShow : mu_M := (4, yX4_endShow, cX4_endShow, 2, none, 0, mc_X4_endShow)
def mc_X4_tireAndWear : List (Nat × Instr × Nat) := [(0, .iconst 0, 1), (1, .istore_n 2, 1), (2, .iconst 0, 1), (3, .istore_n 3, 1), (4, .iconst 0, 1), (5, .istore 4, 2), (7, .iload 4, 2), (9, .aload_n 0, 1), (10, .getfield 59, 3), (13, .if_icmp .ge 59, 3), (16, .aload_n 0, 1), (17, .getfield 19, 3), (20, .iload 4, 2), (22, .aaload, 1), (23, .astore 5, 2), (25, .aload 5, 2), (27, .getfield 134, 3), (30, .iload_n 1, 1), (31, .if_icmp .ne 35, 3), (34, .aload 5, 2), (36, .getfield 118, 3), (39, .ifCond .ne 27, 3), (42, .iload_n 2, 1), (43, .getstatic 187, 3), (46, .aload 5, 2), (48, .getfield 167, 3), (51, .iaload, 1), (52, .iadd, 1), (53, .istore_n 2, 1), (54, .iload_n 3, 1), (55, .getstatic 190, 3), (58, .aload 5, 2), (60, .getfield 167, 3), (63, .iaload, 1), (64, .iadd, 1), (65, .istore_n 3, 1), (66, .iinc 4 1, 3), (69, .goto (-62), 3), (72, .aload_n 0, 1), (73, .getfield 11, 3), (76, .iload_n 1, 1), (77, .aaload, 1), (78, .bipush 99, 2), (80, .aload_n 0, 1), (81, .getfield 11, 3), (84, .iload_n 1, 1), (85, .aaload, 1), (86, .getfield 115, 3), (89, .iload_n 2, 1), (90, .iadd, 1), (91, .invokestatic 173, 3), (94, .putfield 115, 3), (97, .aload_n 0, 1), (98, .iload_n 1, 1), (99, .invokevirtual 193, 3), (102, .istore 4, 2), (104, .iload 4, 2), (106, .ldc 182, 2), (108, .if_icmp .eq 24, 3), (111, .aload_n 0, 1), (112, .getfield 42, 3), (115, .iload 4, 2), (117, .bipush 99, 2), (119, .aload_n 0, 1), (120, .getfield 42, 3), (123, .iload 4, 2), (125, .iaload, 1), (126, .iload_n 3, 1), (127, .iadd, 1), (128, .invokestatic 173, 3), (131, .iastore, 1), (132, .return_, 1)]
def mm_X4_tireAndWear : mu_M := (4, yX4_tireAndWear, cX4_tireAndWear, 6, none, 1, mc_X4_tireAndWear)
def mc_X5_init : List (Nat × Instr × Nat) := [(0, .aload_n 0, 1), (1, .invokespecial 3, 3), (4, .aload_n 0, 1), (5, .bipush 24, 2), (7, .newarray .byte, 2), (9, .putfield 9, 3), (12, .aload_n 0, 1), (13, .iconst (-1), 1), (14, .putfield 15, 3), (17, .aload_n 0, 1), (18, .iconst 0, 1), (19, .putfield 19, 3), (22, .return_, 1)]
def mm_X5_init : mu_M := (5, yX5_init, cX5_init, 1, none, 0, mc_X5_init)
def mc_X5_isMissing : List (Nat × Instr × Nat) := [(0, .aload_n 0, 1), (1, .getfield 15, 3), (4, .iconst (-1), 1), (5, .if_icmp .ne 7, 3), (8, .iconst 1, 1), (9, .goto 4, 3), (12, .iconst 0, 1), (13, .ireturn, 1)]
def mm_X5_isMissing : mu_M := (5, yX5_isMissing, cX5_isMissing, 1, (some .boolean), 0, mc_X5_isMissing)
def mc_X5_become : List (Nat × Instr × Nat) := [(0, .aload_n 0, 1), (1, .iload_n 1, 1), (2, .putfield 15, 3), (5, .aload_n 0, 1), (6, .iload_n 2, 1), (7, .putfield 19, 3), (10, .iconst 0, 1), (11, .istore_n 3, 1), (12, .iload_n 3, 1), (13, .bipush 24, 2), (15, .if_icmp .ge 16, 3), (18, .aload_n 0, 1), (19, .getfield 9, 3), (22, .iload_n 3, 1), (23, .iconst 0, 1), (24, .bastore, 1), (25, .iinc 3 1, 3), (28, .goto (-16), 3), (31, .return_, 1)]
def mm_X5_become : mu_M := (5, yX5_become, cX5_become, 4, none, 2, mc_X5_become)
def mc_X5_takeFrom : List (Nat × Instr × Nat) := [(0, .aload_n 0, 1), (1, .aload_n 1, 1), (2, .getfield 15, 3), (5, .putfield 15, 3), (8, .aload_n 0, 1), (9, .aload_n 1, 1), (10, .getfield 19, 3), (13, .putfield 19, 3), (16, .aload_n 1, 1), (17, .getfield 9, 3), (20, .iconst 0, 1), (21, .aload_n 0, 1), (22, .getfield 9, 3), (25, .iconst 0, 1), (26, .bipush 24, 2), (28, .invokestatic 22, 3), (31, .return_, 1)]
def mm_X5_takeFrom : mu_M := (5, yX5_takeFrom, cX5_takeFrom, 2, none, 1, mc_X5_takeFrom)
def mc_X5_hasPlace : List (Nat × Instr × Nat) := [(0, .iload_n 1, 1), (1, .iconst 0, 1), (2, .aload_n 0, 1), (3, .getfield 19, 3), (6, .iconst 1, 1), (7, .isub, 1), (8, .invokestatic 28, 3), (11, .ireturn, 1)]
def mm_X5_hasPlace : mu_M := (5, yX5_hasPlace, cX5_hasPlace, 2, (some .boolean), 1, mc_X5_hasPlace)
def mc_X5_hasPlaces : List (Nat × Instr × Nat) := [(0, .iload_n 1, 1), (1, .iconst 0, 1), (2, .aload_n 0, 1), (3, .getfield 19, 3), (6, .invokestatic 28, 3), (9, .ifCond .eq 21, 3), (12, .iload_n 2, 1), (13, .iconst 0, 1), (14, .aload_n 0, 1), (15, .getfield 19, 3), (18, .iload_n 1, 1), (19, .isub, 1), (20, .invokestatic 28, 3), (23, .ifCond .eq 7, 3), (26, .iconst 1, 1), (27, .goto 4, 3), (30, .iconst 0, 1), (31, .ireturn, 1)]
def mm_X5_hasPlaces : mu_M := (5, yX5_hasPlaces, cX5_hasPlaces, 3, (some .boolean), 2, mc_X5_hasPlaces)
def mc_X5_put : List (Nat × Instr × Nat) := [(0, .aload_n 0, 1), (1, .getfield 9, 3), (4, .iload_n 1, 1), (5, .aload_n 0, 1), (6, .getfield 15, 3), (9, .ifCond .ne 8, 3), (12, .iload_n 2, 1), (13, .i2b, 1), (14, .goto 16, 3), (17, .iload_n 2, 1), (18, .ifCond .eq 7, 3), (21, .iconst 1, 1), (22, .goto 4, 3), (25, .iconst 0, 1), (26, .invokestatic 32, 3), (29, .i2b, 1), (30, .bastore, 1), (31, .return_, 1)]
def mm_X5_put : mu_M := (5, yX5_put, cX5_put, 3, none, 2, mc_X5_put)
def mc_X6_init : List (Nat × Instr × Nat) := [(0, .aload_n 0, 1), (1, .invokespecial 3, 3), (4, .aload_n 0, 1), (5, .iconst 3, 1), (6, .newarray .int, 2), (8, .putfield 9, 3), (11, .aload_n 0, 1), (12, .iconst 3, 1), (13, .newarray .int, 2), (15, .putfield 15, 3), (18, .aload_n 0, 1), (19, .aload_n 1, 1), (20, .putfield 18, 3), (23, .aload_n 0, 1), (24, .aload_n 2, 1), (25, .putfield 22, 3), (28, .return_, 1)]
def mm_X6_init : mu_M := (6, yX6_init, cX6_init, 3, none, 2, mc_X6_init)
def mc_X6_seek : List (Nat × Instr × Nat) := [(0, .aload_n 0, 1), (1, .getfield 18, 3), (4, .aload_n 1, 1), (5, .invokevirtual 26, 3), (8, .aload_n 0, 1), (9, .getfield 22, 3), (12, .aload_n 0, 1), (13, .getfield 18, 3), (16, .invokevirtual 32, 3), (19, .aload_n 0, 1), (20, .iconst 3, 1), (21, .aload_n 0, 1), (22, .getfield 18, 3), (25, .getfield 37, 3), (28, .invokestatic 41, 3), (31, .putfield 47, 3), (34, .aload_n 0, 1), (35, .ldc 50, 2), (37, .putfield 51, 3), (40, .iconst 0, 1), (41, .istore_n 2, 1), (42, .iload_n 2, 1), (43, .aload_n 0, 1), (44, .getfield 47, 3), (47, .if_icmp .ge 35, 3), (50, .aload_n 0, 1), (51, .getfield 9, 3), (54, .iload_n 2, 1), (55, .aload_n 0, 1), (56, .getfield 18, 3), (59, .getfield 54, 3), (62, .aload_n 0, 1), (63, .getfield 18, 3), (66, .getfield 58, 3), (69, .iload_n 2, 1), (70, .iaload, 1), (71, .aaload, 1), (72, .getfield 61, 3), (75, .iastore, 1), (76, .iinc 2 1, 3), (79, .goto (-37), 3), (82, .iconst 0, 1), (83, .istore_n 2, 1), (84, .iload_n 2, 1), (85, .aload_n 0, 1), (86, .getfield 47, 3), (89, .iconst 5, 1), (90, .imul, 1), (91, .if_icmp .gt 72, 3), (94, .iconst 0, 1), (95, .istore_n 3, 1), (96, .iload_n 3, 1), (97, .iconst 5, 1), (98, .iload_n 2, 1), (99, .invokestatic 41, 3), (102, .if_icmp .gt 55, 3), (105, .iconst 0, 1), (106, .istore 4, 2), (108, .iload 4, 2), (110, .iconst 5, 1), (111, .iload_n 2, 1), (112, .iload_n 3, 1), (113, .isub, 1), (114, .invokestatic 41, 3), (117, .if_icmp .gt 34, 3), (120, .aload_n 0, 1), (121, .iload_n 3, 1), (122, .iload 4, 2), (124, .iload_n 2, 1), (125, .iload_n 3, 1), (126, .isub, 1), (127, .iload 4, 2), (129, .isub, 1), (130, .invokevirtual 66, 3), (133, .ifCond .eq 12, 3), (136, .aload_n 0, 1), (137, .invokevirtual 70, 3), (140, .ifCond .eq 5, 3), (143, .iload_n 2, 1), (144, .ireturn, 1), (145, .iinc 4 1, 3), (148, .goto (-40), 3), (151, .iinc 3 1, 3), (154, .goto (-58), 3), (157, .iinc 2 1, 3), (160, .goto (-76), 3), (163, .ldc 50, 2), (165, .ireturn, 1)]
def mm_X6_seek : mu_M := (6, yX6_seek, cX6_seek, 5, (some .int), 1, mc_X6_seek)
def mc_X6_moveOn : List (Nat × Instr × Nat) := [(0, .iconst 0, 1), (1, .istore_n 2, 1), (2, .iload_n 2, 1), (3, .aload_n 0, 1), (4, .getfield 47, 3), (7, .if_icmp .ge 34, 3), (10, .aload_n 1, 1), (11, .getfield 54, 3), (14, .aload_n 1, 1), (15, .getfield 58, 3), (18, .iload_n 2, 1), (19, .iaload, 1), (20, .aaload, 1), (21, .dup, 1), (22, .getfield 61, 3), (25, .aload_n 0, 1), (26, .getfield 15, 3), (29, .iload_n 2, 1), (30, .iaload, 1), (31, .iadd, 1), (32, .putfield 61, 3), (35, .iinc 2 1, 3), (38, .goto (-36), 3), (41, .return_, 1)]
def mm_X6_moveOn : mu_M := (6, yX6_moveOn, cX6_moveOn, 3, none, 1, mc_X6_moveOn)
def mc_X6_isToTry : List (Nat × Instr × Nat) := [(0, .aload_n 0, 1), (1, .getfield 15, 3), (4, .iconst 0, 1), (5, .iload_n 1, 1), (6, .iastore, 1), (7, .aload_n 0, 1), (8, .getfield 15, 3), (11, .iconst 1, 1), (12, .iload_n 2, 1), (13, .iastore, 1), (14, .aload_n 0, 1), (15, .getfield 15, 3), (18, .iconst 2, 1), (19, .iload_n 3, 1), (20, .iastore, 1), (21, .aload_n 0, 1), (22, .getfield 47, 3), (25, .istore 4, 2), (27, .iload 4, 2), (29, .iconst 3, 1), (30, .if_icmp .ge 21, 3), (33, .aload_n 0, 1), (34, .getfield 15, 3), (37, .iload 4, 2), (39, .iaload, 1), (40, .ifCond .le 5, 3), (43, .iconst 0, 1), (44, .ireturn, 1), (45, .iinc 4 1, 3), (48, .goto (-21), 3), (51, .iload_n 3, 1), (52, .iconst 5, 1), (53, .if_icmp .gt 7, 3), (56, .iconst 1, 1), (57, .goto 4, 3), (60, .iconst 0, 1), (61, .ireturn, 1)]
def mm_X6_isToTry : mu_M := (6, yX6_isToTry, cX6_isToTry, 5, (some .boolean), 3, mc_X6_isToTry)
def mc_X6_stands : List (Nat × Instr × Nat) := [(0, .iconst 0, 1), (1, .istore_n 1, 1), (2, .iload_n 1, 1), (3, .aload_n 0, 1), (4, .getfield 47, 3), (7, .if_icmp .ge 55, 3), (10, .aload_n 0, 1), (11, .getfield 18, 3), (14, .getfield 54, 3), (17, .aload_n 0, 1), (18, .getfield 18, 3), (21, .getfield 58, 3), (24, .iload_n 1, 1), (25, .iaload, 1), (26, .aaload, 1), (27, .astore_n 2, 1), (28, .aload_n 2, 1), (29, .aload_n 0, 1), (30, .getfield 9, 3), (33, .iload_n 1, 1), (34, .iaload, 1), (35, .aload_n 0, 1), (36, .getfield 15, 3), (39, .iload_n 1, 1), (40, .iaload, 1), (41, .iadd, 1), (42, .putfield 61, 3), (45, .aload_n 2, 1), (46, .getfield 61, 3), (49, .bipush 90, 2), (51, .if_icmp .le 5, 3), (54, .iconst 0, 1), (55, .ireturn, 1), (56, .iinc 1 1, 3), (59, .goto (-57), 3), (62, .iconst 0, 1), (63, .istore_n 1, 1), (64, .iload_n 1, 1), (65, .aload_n 0, 1), (66, .getfield 47, 3), (69, .if_icmp .ge 30, 3), (72, .aload_n 0, 1), (73, .getfield 18, 3), (76, .aload_n 0, 1), (77, .getfield 18, 3), (80, .getfield 58, 3), (83, .iload_n 1, 1), (84, .iaload, 1), (85, .invokevirtual 74, 3), (88, .ifCond .eq 5, 3), (91, .iconst 0, 1), (92, .ireturn, 1), (93, .iinc 1 1, 3), (96, .goto (-32), 3), (99, .iconst 0, 1), (100, .istore_n 1, 1), (101, .iload_n 1, 1), (102, .aload_n 0, 1), (103, .getfield 47, 3), (106, .if_icmp .ge 45, 3), (109, .aload_n 0, 1), (110, .getfield 18, 3), (113, .getfield 54, 3), (116, .aload_n 0, 1), (117, .getfield 18, 3), (120, .getfield 58, 3), (123, .iload_n 1, 1), (124, .iaload, 1), (125, .aaload, 1), (126, .astore_n 2, 1), (127, .aload_n 2, 1), (128, .invokevirtual 78, 3), (131, .ifCond .eq 14, 3), (134, .aload_n 0, 1), (135, .getfield 22, 3), (138, .aload_n 2, 1), (139, .getfield 81, 3), (142, .invokevirtual 84, 3), (145, .iinc 1 1, 3), (148, .goto (-47), 3), (151, .aload_n 0, 1), (152, .getfield 51, 3), (155, .ldc 50, 2), (157, .if_icmp .eq 29, 3), (160, .aload_n 0, 1), (161, .getfield 22, 3), (164, .aload_n 0, 1), (165, .getfield 18, 3), (168, .getfield 54, 3), (171, .aload_n 0, 1), (172, .getfield 51, 3), (175, .aaload, 1), (176, .invokevirtual 88, 3), (179, .ldc 50, 2), (181, .if_icmp .eq 5, 3), (184, .iconst 0, 1), (185, .ireturn, 1), (186, .aload_n 0, 1), (187, .aload_n 0, 1), (188, .getfield 22, 3), (191, .invokevirtual 92, 3), (194, .putfield 51, 3), (197, .aload_n 0, 1), (198, .getfield 51, 3), (201, .ldc 50, 2), (203, .if_icmp .ne 7, 3), (206, .iconst 1, 1), (207, .goto 4, 3), (210, .iconst 0, 1), (211, .ireturn, 1)]
def mm_X6_stands : mu_M := (6, yX6_stands, cX6_stands, 3, (some .boolean), 0, mc_X6_stands)
def mc_X7_init : List (Nat × Instr × Nat) := [(0, .aload_n 0, 1), (1, .invokespecial 3, 3), (4, .aload_n 0, 1), (5, .new 9, 3), (8, .dup, 1), (9, .invokespecial 11, 3), (12, .putfield 12, 3), (15, .aload_n 0, 1), (16, .iconst 0, 1), (17, .putfield 18, 3), (20, .aload_n 0, 1), (21, .iconst 0, 1), (22, .putfield 22, 3), (25, .aload_n 0, 1), (26, .iconst 0, 1), (27, .putfield 25, 3), (30, .return_, 1)]
def mm_X7_init : mu_M := (7, yX7_init, cX7_init, 1, none, 0, mc_X7_init)
def mc_X7_findingOn : List (Nat × Instr × Nat) := [(0, .aload_n 0, 1), (1, .getfield 18, 3), (4, .ifCond .ne 6, 3), (7, .ldc 28, 2), (9, .ireturn, 1), (10, .aload_n 0, 1), (11, .getfield 18, 3), (14, .iload_n 1, 1), (15, .if_icmp .ne 7, 3), (18, .iconst 0, 1), (19, .goto 5, 3), (22, .ldc 29, 2), (24, .ireturn, 1)]
def mm_X7_findingOn : mu_M := (7, yX7_findingOn, cX7_findingOn, 2, (some .int), 1, mc_X7_findingOn)
def mc_X8_init : List (Nat × Instr × Nat) := [(0, .aload_n 0, 1), (1, .invokespecial 3, 3), (4, .aload_n 0, 1), (5, .sipush 808, 3), (8, .newarray .int, 2), (10, .putfield 9, 3), (13, .aload_n 0, 1), (14, .sipush 808, 3), (17, .newarray .int, 2), (19, .putfield 15, 3), (22, .aload_n 0, 1), (23, .bipush 8, 2), (25, .newarray .int, 2), (27, .putfield 18, 3), (30, .aload_n 0, 1), (31, .bipush 8, 2), (33, .newarray .int, 2), (35, .putfield 21, 3), (38, .aload_n 0, 1), (39, .aload_n 1, 1), (40, .putfield 24, 3), (43, .return_, 1)]
def mm_X8_init : mu_M := (8, yX8_init, cX8_init, 2, none, 1, mc_X8_init)
def mc_X8_look : List (Nat × Instr × Nat) := [(0, .aload_n 0, 1), (1, .aload_n 1, 1), (2, .putfield 24, 3), (5, .iconst 0, 1), (6, .istore_n 2, 1), (7, .iload_n 2, 1), (8, .aload_n 0, 1), (9, .getfield 24, 3), (12, .getfield 28, 3), (15, .if_icmp .ge 28, 3), (18, .aload_n 0, 1), (19, .getfield 18, 3), (22, .iload_n 2, 1), (23, .aload_n 0, 1), (24, .getfield 24, 3), (27, .iload_n 2, 1), (28, .invokevirtual 34, 3), (31, .iastore, 1), (32, .aload_n 0, 1), (33, .iload_n 2, 1), (34, .invokevirtual 38, 3), (37, .iinc 2 1, 3), (40, .goto (-33), 3), (43, .return_, 1)]
def mm_X8_look : mu_M := (8, yX8_look, cX8_look, 3, none, 1, mc_X8_look)
def mc_X8_trace : List (Nat × Instr × Nat) := [(0, .aload_n 0, 1), (1, .getfield 24, 3), (4, .getfield 42, 3), (7, .iload_n 1, 1), (8, .aaload, 1), (9, .getfield 46, 3), (12, .istore_n 2, 1), (13, .iconst (-1), 1), (14, .istore_n 3, 1), (15, .iconst 0, 1), (16, .istore 4, 2), (18, .iload 4, 2), (20, .bipush 20, 2), (22, .if_icmp .gt 72, 3), (25, .aload_n 0, 1), (26, .getfield 24, 3), (29, .iload_n 1, 1), (30, .iload_n 3, 1), (31, .invokevirtual 51, 3), (34, .astore 5, 2), (36, .aload 5, 2), (38, .ifnonnull 13, 3), (41, .aload_n 0, 1), (42, .iload_n 1, 1), (43, .iload_n 3, 1), (44, .bipush 100, 2), (46, .iload_n 2, 1), (47, .invokevirtual 55, 3), (50, .return_, 1), (51, .aload_n 0, 1), (52, .iload_n 1, 1), (53, .iload_n 3, 1), (54, .aload 5, 2), (56, .getfield 59, 3), (59, .iload_n 2, 1), (60, .invokevirtual 55, 3), (63, .aload_n 0, 1), (64, .aload 5, 2), (66, .iload_n 2, 1), (67, .invokevirtual 64, 3), (70, .aload 5, 2), (72, .getfield 68, 3), (75, .istore_n 2, 1), (76, .aload 5, 2), (78, .getfield 59, 3), (81, .aload 5, 2), (83, .getfield 71, 3), (86, .iadd, 1), (87, .istore_n 3, 1), (88, .iinc 4 1, 3), (91, .goto (-73), 3), (94, .return_, 1)]
def mm_X8_trace : mu_M := (8, yX8_trace, cX8_trace, 6, none, 1, mc_X8_trace)
def mc_X8_stay : List (Nat × Instr × Nat) := [(0, .iload 4, 2), (2, .bipush 10, 2), (4, .idiv, 1), (5, .istore 5, 2), (7, .iload 4, 2), (9, .bipush 10, 2), (11, .irem, 1), (12, .istore 6, 2), (14, .iload_n 1, 1), (15, .iload_n 3, 1), (16, .invokestatic 74, 3), (19, .iload_n 1, 1), (20, .bipush 100, 2), (22, .invokestatic 74, 3), (25, .invokestatic 78, 3), (28, .istore 7, 2), (30, .iload_n 1, 1), (31, .iload_n 2, 1), (32, .invokestatic 74, 3), (35, .istore 8, 2), (37, .iload 8, 2), (39, .iload 7, 2), (41, .if_icmp .ge 27, 3), (44, .aload_n 0, 1), (45, .getfield 9, 3), (48, .iload 8, 2), (50, .iload 5, 2), (52, .iastore, 1), (53, .aload_n 0, 1), (54, .getfield 15, 3), (57, .iload 8, 2), (59, .iload 6, 2), (61, .iastore, 1), (62, .iinc 8 1, 3), (65, .goto (-28), 3), (68, .return_, 1)]
def mm_X8_stay : mu_M := (8, yX8_stay, cX8_stay, 9, none, 4, mc_X8_stay)
def mc_X8_go : List (Nat × Instr × Nat) := [(0, .iload_n 2, 1), (1, .bipush 10, 2), (3, .idiv, 1), (4, .istore_n 3, 1), (5, .iload_n 2, 1), (6, .bipush 10, 2), (8, .irem, 1), (9, .istore 4, 2), (11, .iconst 1, 1), (12, .aload_n 1, 1), (13, .getfield 71, 3), (16, .invokestatic 83, 3), (19, .istore 5, 2), (21, .iconst 1, 1), (22, .istore 6, 2), (24, .iload 6, 2), (26, .iload 5, 2), (28, .if_icmp .gt 77, 3), (31, .aload_n 1, 1), (32, .getfield 86, 3), (35, .aload_n 1, 1), (36, .getfield 59, 3), (39, .iload 6, 2), (41, .iadd, 1), (42, .iconst 1, 1), (43, .isub, 1), (44, .invokestatic 74, 3), (47, .istore 7, 2), (49, .aload_n 0, 1), (50, .getfield 9, 3), (53, .iload 7, 2), (55, .iload_n 3, 1), (56, .aload_n 1, 1), (57, .getfield 68, 3), (60, .bipush 10, 2), (62, .idiv, 1), (63, .iload_n 3, 1), (64, .isub, 1), (65, .iload 6, 2), (67, .imul, 1), (68, .iload 5, 2), (70, .idiv, 1), (71, .iadd, 1), (72, .iastore, 1), (73, .aload_n 0, 1), (74, .getfield 15, 3), (77, .iload 7, 2), (79, .iload 4, 2), (81, .aload_n 1, 1), (82, .getfield 68, 3), (85, .bipush 10, 2), (87, .irem, 1), (88, .iload 4, 2), (90, .isub, 1), (91, .iload 6, 2), (93, .imul, 1), (94, .iload 5, 2), (96, .idiv, 1), (97, .iadd, 1), (98, .iastore, 1), (99, .iinc 6 1, 3), (102, .goto (-78), 3), (105, .return_, 1)]
def mm_X8_go : mu_M := (8, yX8_go, cX8_go, 8, none, 2, mc_X8_go)
def mc_X8_spotAt : List (Nat × Instr × Nat) := [(0, .iload_n 0, 1), (1, .bipush 101, 2), (3, .imul, 1), (4, .iconst 1, 1), (5, .iadd, 1), (6, .iconst (-1), 1), (7, .iload_n 1, 1), (8, .invokestatic 83, 3), (11, .iadd, 1), (12, .ireturn, 1)]
def mm_X8_spotAt : mu_M := (8, yX8_spotAt, cX8_spotAt, 2, (some .int), 2, mc_X8_spotAt)
def mc_X8_placeAt : List (Nat × Instr × Nat) := [(0, .iload_n 1, 1), (1, .iload_n 2, 1), (2, .invokestatic 74, 3), (5, .istore_n 3, 1), (6, .bipush 10, 2), (8, .aload_n 0, 1), (9, .getfield 9, 3), (12, .iload_n 3, 1), (13, .iaload, 1), (14, .imul, 1), (15, .aload_n 0, 1), (16, .getfield 15, 3), (19, .iload_n 3, 1), (20, .iaload, 1), (21, .iadd, 1), (22, .ireturn, 1)]
def mm_X8_placeAt : mu_M := (8, yX8_placeAt, cX8_placeAt, 4, (some .int), 2, mc_X8_placeAt)
def mc_X8_leastGap : List (Nat × Instr × Nat) := [(0, .aload_n 1, 1), (1, .getfield 86, 3), (4, .bipush 101, 2), (6, .imul, 1), (7, .iconst 1, 1), (8, .iadd, 1), (9, .aload_n 1, 1), (10, .getfield 59, 3), (13, .iadd, 1), (14, .istore 5, 2), (16, .iload_n 2, 1), (17, .bipush 101, 2), (19, .imul, 1), (20, .iconst 1, 1), (21, .iadd, 1), (22, .istore 6, 2), (24, .iload 6, 2), (26, .iconst (-1), 1), (27, .iload 4, 2), (29, .invokestatic 83, 3), (32, .iadd, 1), (33, .istore 7, 2), (35, .bipush 99, 2), (37, .istore 8, 2), (39, .iload 6, 2), (41, .iconst (-1), 1), (42, .iload_n 3, 1), (43, .invokestatic 83, 3), (46, .iadd, 1), (47, .istore 9, 2), (49, .iload 9, 2), (51, .iload 7, 2), (53, .if_icmp .gt 59, 3), (56, .aload_n 0, 1), (57, .getfield 9, 3), (60, .iload 9, 2), (62, .iaload, 1), (63, .aload_n 0, 1), (64, .getfield 9, 3), (67, .iload 5, 2), (69, .iaload, 1), (70, .isub, 1), (71, .invokestatic 89, 3), (74, .aload_n 0, 1), (75, .getfield 15, 3), (78, .iload 9, 2), (80, .iaload, 1), (81, .aload_n 0, 1), (82, .getfield 15, 3), (85, .iload 5, 2), (87, .iaload, 1), (88, .isub, 1), (89, .invokestatic 89, 3), (92, .invokestatic 83, 3), (95, .istore 10, 2), (97, .iload 8, 2), (99, .iload 10, 2), (101, .invokestatic 78, 3), (104, .istore 8, 2), (106, .iinc 9 1, 3), (109, .goto (-60), 3), (112, .iload 8, 2), (114, .getstatic 92, 3), (117, .aload_n 1, 1), (118, .getfield 95, 3), (121, .iaload, 1), (122, .isub, 1), (123, .ireturn, 1)]
def mm_X8_leastGap : mu_M := (8, yX8_leastGap, cX8_leastGap, 11, (some .int), 4, mc_X8_leastGap)
def mc_X8_gapTo : List (Nat × Instr × Nat) := [(0, .aload_n 0, 1), (1, .aload_n 1, 1), (2, .iload_n 2, 1), (3, .aload_n 1, 1), (4, .getfield 59, 3), (7, .aload_n 0, 1), (8, .getfield 18, 3), (11, .iload_n 2, 1), (12, .iaload, 1), (13, .isub, 1), (14, .aload_n 1, 1), (15, .getfield 59, 3), (18, .aload_n 1, 1), (19, .getfield 71, 3), (22, .iadd, 1), (23, .iconst 1, 1), (24, .isub, 1), (25, .aload_n 0, 1), (26, .getfield 18, 3), (29, .aload_n 1, 1), (30, .getfield 86, 3), (33, .iaload, 1), (34, .iadd, 1), (35, .invokevirtual 98, 3), (38, .ireturn, 1)]
def mm_X8_gapTo : mu_M := (8, yX8_gapTo, cX8_gapTo, 3, (some .int), 2, mc_X8_gapTo)
def mc_X8_tooNearTo : List (Nat × Instr × Nat) := [(0, .iconst 0, 1), (1, .istore_n 2, 1), (2, .iload_n 2, 1), (3, .aload_n 0, 1), (4, .getfield 24, 3), (7, .getfield 28, 3), (10, .if_icmp .ge 33, 3), (13, .iload_n 2, 1), (14, .aload_n 1, 1), (15, .getfield 86, 3), (18, .if_icmp .eq 19, 3), (21, .aload_n 0, 1), (22, .aload_n 1, 1), (23, .iload_n 2, 1), (24, .invokevirtual 102, 3), (27, .aload_n 1, 1), (28, .iload_n 2, 1), (29, .invokevirtual 106, 3), (32, .if_icmp .ge 5, 3), (35, .iload_n 2, 1), (36, .ireturn, 1), (37, .iinc 2 1, 3), (40, .goto (-38), 3), (43, .ldc 109, 2), (45, .ireturn, 1)]
def mm_X8_tooNearTo : mu_M := (8, yX8_tooNearTo, cX8_tooNearTo, 3, (some .int), 1, mc_X8_tooNearTo)
def mc_X8_firstBreach : List (Nat × Instr × Nat) := [(0, .iconst 0, 1), (1, .istore_n 1, 1), (2, .iload_n 1, 1), (3, .aload_n 0, 1), (4, .getfield 24, 3), (7, .getfield 110, 3), (10, .if_icmp .ge 38, 3), (13, .aload_n 0, 1), (14, .getfield 24, 3), (17, .getfield 113, 3), (20, .iload_n 1, 1), (21, .aaload, 1), (22, .astore_n 2, 1), (23, .aload_n 2, 1), (24, .invokevirtual 117, 3), (27, .ifCond .eq 15, 3), (30, .aload_n 0, 1), (31, .aload_n 2, 1), (32, .invokevirtual 121, 3), (35, .ldc 109, 2), (37, .if_icmp .eq 5, 3), (40, .iload_n 1, 1), (41, .ireturn, 1), (42, .iinc 1 1, 3), (45, .goto (-43), 3), (48, .ldc 109, 2), (50, .ireturn, 1)]
def mm_X8_firstBreach : mu_M := (8, yX8_firstBreach, cX8_firstBreach, 3, (some .int), 0, mc_X8_firstBreach)
def mc_X8_isSeen : List (Nat × Instr × Nat) := [(0, .aload_n 1, 1), (1, .getfield 86, 3), (4, .aload_n 1, 1), (5, .getfield 59, 3), (8, .invokestatic 74, 3), (11, .istore_n 2, 1), (12, .iconst 0, 1), (13, .istore_n 3, 1), (14, .iload_n 3, 1), (15, .aload_n 0, 1), (16, .getfield 24, 3), (19, .getfield 28, 3), (22, .if_icmp .ge 61, 3), (25, .iload_n 3, 1), (26, .aload_n 1, 1), (27, .getfield 59, 3), (30, .invokestatic 74, 3), (33, .istore 4, 2), (35, .iload_n 3, 1), (36, .aload_n 1, 1), (37, .getfield 125, 3), (40, .if_icmp .eq 37, 3), (43, .aload_n 0, 1), (44, .getfield 9, 3), (47, .iload 4, 2), (49, .iaload, 1), (50, .aload_n 0, 1), (51, .getfield 9, 3), (54, .iload_n 2, 1), (55, .iaload, 1), (56, .if_icmp .ne 21, 3), (59, .aload_n 0, 1), (60, .getfield 15, 3), (63, .iload 4, 2), (65, .iaload, 1), (66, .aload_n 0, 1), (67, .getfield 15, 3), (70, .iload_n 2, 1), (71, .iaload, 1), (72, .if_icmp .le 5, 3), (75, .iconst 0, 1), (76, .ireturn, 1), (77, .iinc 3 1, 3), (80, .goto (-66), 3), (83, .iconst 1, 1), (84, .ireturn, 1)]
def mm_X8_isSeen : mu_M := (8, yX8_isSeen, cX8_isSeen, 5, (some .boolean), 1, mc_X8_isSeen)
def mc_X8_play : List (Nat × Instr × Nat) := [(0, .iconst 0, 1), (1, .istore_n 1, 1), (2, .iload_n 1, 1), (3, .aload_n 0, 1), (4, .getfield 24, 3), (7, .getfield 28, 3), (10, .if_icmp .ge 57, 3), (13, .aload_n 0, 1), (14, .getfield 24, 3), (17, .aload_n 0, 1), (18, .getfield 24, 3), (21, .getfield 128, 3), (24, .ldc 131, 2), (26, .imul, 1), (27, .sipush 12345, 3), (30, .iadd, 1), (31, .putfield 128, 3), (34, .aload_n 0, 1), (35, .getfield 21, 3), (38, .iload_n 1, 1), (39, .aload_n 0, 1), (40, .getfield 24, 3), (43, .getfield 128, 3), (46, .bipush 8, 2), (48, .iushr, 1), (49, .aload_n 0, 1), (50, .getfield 24, 3), (53, .iload_n 1, 1), (54, .invokevirtual 34, 3), (57, .iconst 1, 1), (58, .iadd, 1), (59, .irem, 1), (60, .iastore, 1), (61, .iinc 1 1, 3), (64, .goto (-62), 3), (67, .iconst 0, 1), (68, .istore_n 1, 1), (69, .iconst 0, 1), (70, .istore_n 2, 1), (71, .iload_n 2, 1), (72, .aload_n 0, 1), (73, .getfield 24, 3), (76, .getfield 110, 3), (79, .if_icmp .ge 32, 3), (82, .aload_n 0, 1), (83, .getfield 24, 3), (86, .getfield 113, 3), (89, .iload_n 2, 1), (90, .aaload, 1), (91, .invokevirtual 117, 3), (94, .ifCond .eq 11, 3), (97, .iload_n 1, 1), (98, .aload_n 0, 1), (99, .iload_n 2, 1), (100, .invokevirtual 132, 3), (103, .iadd, 1), (104, .istore_n 1, 1), (105, .iinc 2 1, 3), (108, .goto (-37), 3), (111, .aload_n 0, 1), (112, .getfield 24, 3), (115, .invokevirtual 135, 3), (118, .iload_n 1, 1), (119, .ireturn, 1)]
def mm_X8_play : mu_M := (8, yX8_play, cX8_play, 3, (some .int), 0, mc_X8_play)
def mc_X8_missesOf : List (Nat × Instr × Nat) := [(0, .aload_n 0, 1), (1, .getfield 24, 3), (4, .getfield 113, 3), (7, .iload_n 1, 1), (8, .aaload, 1), (9, .astore_n 2, 1), (10, .iconst 0, 1), (11, .istore_n 3, 1), (12, .iconst 0, 1), (13, .istore 4, 2), (15, .iload 4, 2), (17, .aload_n 0, 1), (18, .getfield 24, 3), (21, .getfield 28, 3), (24, .if_icmp .ge 92, 3), (27, .aload_n 2, 1), (28, .getfield 59, 3), (31, .aload_n 0, 1), (32, .getfield 21, 3), (35, .aload_n 2, 1), (36, .getfield 86, 3), (39, .iaload, 1), (40, .iadd, 1), (41, .aload_n 0, 1), (42, .getfield 21, 3), (45, .iload 4, 2), (47, .iaload, 1), (48, .isub, 1), (49, .istore 5, 2), (51, .iload 4, 2), (53, .aload_n 2, 1), (54, .getfield 86, 3), (57, .if_icmp .eq 53, 3), (60, .aload_n 0, 1), (61, .aload_n 2, 1), (62, .iload 4, 2), (64, .iload 5, 2), (66, .iload 5, 2), (68, .aload_n 2, 1), (69, .getfield 71, 3), (72, .iadd, 1), (73, .iconst 1, 1), (74, .isub, 1), (75, .invokevirtual 98, 3), (78, .aload_n 2, 1), (79, .iload 4, 2), (81, .invokevirtual 106, 3), (84, .if_icmp .ge 26, 3), (87, .aload_n 0, 1), (88, .getfield 24, 3), (91, .getfield 138, 3), (94, .aload_n 0, 1), (95, .getfield 24, 3), (98, .getfield 142, 3), (101, .iload_n 1, 1), (102, .iload 4, 2), (104, .invokevirtual 145, 3), (107, .iinc 3 1, 3), (110, .iinc 4 1, 3), (113, .goto (-98), 3), (116, .iload_n 3, 1), (117, .ireturn, 1)]
def mm_X8_missesOf : mu_M := (8, yX8_missesOf, cX8_missesOf, 6, (some .int), 1, mc_X8_missesOf)
def mc_X9_init : List (Nat × Instr × Nat) := [(0, .aload_n 0, 1), (1, .invokespecial 3, 3), (4, .aload_n 0, 1), (5, .iload_n 1, 1), (6, .putfield 9, 3), (9, .aload_n 0, 1), (10, .iload_n 2, 1), (11, .putfield 15, 3), (14, .aload_n 0, 1), (15, .aload_n 3, 1), (16, .putfield 18, 3), (19, .aload_n 0, 1), (20, .iconst 1, 1), (21, .iload_n 2, 1), (22, .invokestatic 22, 3), (25, .newarray .int, 2), (27, .putfield 28, 3), (30, .return_, 1)]
def mm_X9_init : mu_M := (9, yX9_init, cX9_init, 4, none, 3, mc_X9_init)
def mc_X9_value : List (Nat × Instr × Nat) := [(0, .iconst (-1), 1), (1, .istore 5, 2), (3, .iconst 0, 1), (4, .istore 6, 2), (6, .iload 6, 2), (8, .aload_n 0, 1), (9, .getfield 18, 3), (12, .arraylength, 1), (13, .if_icmp .ge 163, 3), (16, .aload_n 0, 1), (17, .getfield 18, 3), (20, .iload 6, 2), (22, .iaload, 1), (23, .istore 7, 2), (25, .iload 7, 2), (27, .sipush 20000, 3), (30, .if_icmp .ge 56, 3), (33, .iload 5, 2), (35, .iconst 1, 1), (36, .iadd, 1), (37, .aload_n 0, 1), (38, .getfield 28, 3), (41, .arraylength, 1), (42, .iconst 1, 1), (43, .isub, 1), (44, .invokestatic 31, 3), (47, .istore 5, 2), (49, .aload_n 0, 1), (50, .getfield 28, 3), (53, .iload 5, 2), (55, .iload 7, 2), (57, .sipush 10000, 3), (60, .if_icmp .ge 8, 3), (63, .iload 7, 2), (65, .goto 17, 3), (68, .iload 7, 2), (70, .sipush 10000, 3), (73, .isub, 1), (74, .iload_n 1, 1), (75, .iload_n 2, 1), (76, .iload_n 3, 1), (77, .iload 4, 2), (79, .invokestatic 34, 3), (82, .iastore, 1), (83, .goto 87, 3), (86, .iload 7, 2), (88, .sipush 20033, 3), (91, .if_icmp .ne 39, 3), (94, .iload 5, 2), (96, .iconst 0, 1), (97, .invokestatic 22, 3), (100, .istore 5, 2), (102, .aload_n 0, 1), (103, .getfield 28, 3), (106, .iload 5, 2), (108, .aload_n 0, 1), (109, .getfield 28, 3), (112, .iload 5, 2), (114, .iaload, 1), (115, .ifCond .ne 7, 3), (118, .iconst 1, 1), (119, .goto 4, 3), (122, .iconst 0, 1), (123, .invokestatic 38, 3), (126, .iastore, 1), (127, .goto 43, 3), (130, .iload 5, 2), (132, .ifCond .le 38, 3), (135, .iinc 5 (-1), 3), (138, .aload_n 0, 1), (139, .getfield 28, 3), (142, .iload 5, 2), (144, .iload 7, 2), (146, .sipush 20000, 3), (149, .isub, 1), (150, .aload_n 0, 1), (151, .getfield 28, 3), (154, .iload 5, 2), (156, .iaload, 1), (157, .aload_n 0, 1), (158, .getfield 28, 3), (161, .iload 5, 2), (163, .iconst 1, 1), (164, .iadd, 1), (165, .iaload, 1), (166, .invokestatic 42, 3), (169, .iastore, 1), (170, .iinc 6 1, 3), (173, .goto (-167), 3), (176, .aload_n 0, 1), (177, .getfield 28, 3), (180, .iconst 0, 1), (181, .iaload, 1), (182, .ireturn, 1)]
def mm_X9_value : mu_M := (9, yX9_value, cX9_value, 8, (some .int), 4, mc_X9_value)
def mc_X9_named : List (Nat × Instr × Nat) := [(0, .iload_n 0, 1), (1, .ifCond .ne 5, 3), (4, .iload_n 1, 1), (5, .ireturn, 1), (6, .iload_n 0, 1), (7, .iconst 1, 1), (8, .if_icmp .ne 5, 3), (11, .iload_n 2, 1), (12, .ireturn, 1), (13, .iload_n 0, 1), (14, .iconst 2, 1), (15, .if_icmp .ne 7, 3), (18, .iload_n 3, 1), (19, .goto 5, 3), (22, .iload 4, 2), (24, .ireturn, 1)]
def mm_X9_named : mu_M := (9, yX9_named, cX9_named, 5, (some .int), 5, mc_X9_named)
def mc_X9_joined : List (Nat × Instr × Nat) := [(0, .iload_n 0, 1), (1, .lookupswitch 163 #[(38, 92), (42, 159), (43, 151), (45, 155), (60, 109), (61, 123), (62, 137), (124, 75)], 75), (76, .iload_n 1, 1), (77, .ifCond .ne 7, 3), (80, .iload_n 2, 1), (81, .ifCond .eq 7, 3), (84, .iconst 1, 1), (85, .goto 4, 3), (88, .iconst 0, 1), (89, .invokestatic 38, 3), (92, .ireturn, 1), (93, .iload_n 1, 1), (94, .ifCond .eq 11, 3), (97, .iload_n 2, 1), (98, .ifCond .eq 7, 3), (101, .iconst 1, 1), (102, .goto 4, 3), (105, .iconst 0, 1), (106, .invokestatic 38, 3), (109, .ireturn, 1), (110, .iload_n 1, 1), (111, .iload_n 2, 1), (112, .if_icmp .ge 7, 3), (115, .iconst 1, 1), (116, .goto 4, 3), (119, .iconst 0, 1), (120, .invokestatic 38, 3), (123, .ireturn, 1), (124, .iload_n 1, 1), (125, .iload_n 2, 1), (126, .if_icmp .ne 7, 3), (129, .iconst 1, 1), (130, .goto 4, 3), (133, .iconst 0, 1), (134, .invokestatic 38, 3), (137, .ireturn, 1), (138, .iload_n 1, 1), (139, .iload_n 2, 1), (140, .if_icmp .le 7, 3), (143, .iconst 1, 1), (144, .goto 4, 3), (147, .iconst 0, 1), (148, .invokestatic 38, 3), (151, .ireturn, 1), (152, .iload_n 1, 1), (153, .iload_n 2, 1), (154, .iadd, 1), (155, .ireturn, 1), (156, .iload_n 1, 1), (157, .iload_n 2, 1), (158, .isub, 1), (159, .ireturn, 1), (160, .iload_n 1, 1), (161, .iload_n 2, 1), (162, .imul, 1), (163, .ireturn, 1), (164, .iload_n 2, 1), (165, .ifCond .ne 7, 3), (168, .iconst 0, 1), (169, .goto 6, 3), (172, .iload_n 1, 1), (173, .iload_n 2, 1), (174, .idiv, 1), (175, .ireturn, 1)]
def mm_X9_joined : mu_M := (9, yX9_joined, cX9_joined, 3, (some .int), 3, mc_X9_joined)
def mc_X10_init : List (Nat × Instr × Nat) := [(0, .aload_n 0, 1), (1, .invokespecial 1, 3), (4, .aload_n 0, 1), (5, .new 7, 3), (8, .dup, 1), (9, .invokespecial 9, 3), (12, .putfield 10, 3), (15, .aload_n 0, 1), (16, .new 7, 3), (19, .dup, 1), (20, .invokespecial 9, 3), (23, .putfield 16, 3), (26, .aload_n 0, 1), (27, .new 7, 3), (30, .dup, 1), (31, .invokespecial 9, 3), (34, .putfield 19, 3), (37, .aload_n 0, 1), (38, .new 22, 3), (41, .dup, 1), (42, .aload_n 0, 1), (43, .getfield 10, 3), (46, .invokespecial 24, 3), (49, .putfield 27, 3), (52, .aload_n 0, 1), (53, .new 31, 3), (56, .dup, 1), (57, .aload_n 0, 1), (58, .getfield 19, 3), (61, .aload_n 0, 1), (62, .getfield 27, 3), (65, .invokespecial 33, 3), (68, .putfield 36, 3), (71, .aload_n 0, 1), (72, .bipush 96, 2), (74, .newarray .byte, 2), (76, .putfield 40, 3), (79, .aload_n 0, 1), (80, .new 44, 3), (83, .dup, 1), (84, .aload_n 0, 1), (85, .getfield 40, 3), (88, .invokespecial 46, 3), (91, .putfield 49, 3), (94, .aload_n 0, 1), (95, .bipush 60, 2), (97, .newarray .int, 2), (99, .putfield 53, 3), (102, .aload_n 0, 1), (103, .iconst 4, 1), (104, .anewarray 57, 3), (107, .putfield 59, 3), (110, .aload_n 0, 1), (111, .iconst 5, 1), (112, .anewarray 63, 3), (115, .putfield 65, 3), (118, .aload_n 0, 1), (119, .iconst 0, 1), (120, .putfield 69, 3), (123, .aload_n 0, 1), (124, .iconst 0, 1), (125, .putfield 73, 3), (128, .aload_n 0, 1), (129, .iconst 0, 1), (130, .putfield 76, 3), (133, .iconst 0, 1), (134, .istore_n 1, 1), (135, .iload_n 1, 1), (136, .iconst 4, 1), (137, .if_icmp .ge 22, 3), (140, .aload_n 0, 1), (141, .getfield 59, 3), (144, .iload_n 1, 1), (145, .new 57, 3), (148, .dup, 1), (149, .invokespecial 80, 3), (152, .aastore, 1), (153, .iinc 1 1, 3), (156, .goto (-21), 3), (159, .iconst 0, 1), (160, .istore_n 1, 1), (161, .iload_n 1, 1), (162, .iconst 5, 1), (163, .if_icmp .ge 22, 3), (166, .aload_n 0, 1), (167, .getfield 65, 3), (170, .iload_n 1, 1), (171, .new 63, 3), (174, .dup, 1), (175, .invokespecial 81, 3), (178, .aastore, 1), (179, .iinc 1 1, 3), (182, .goto (-21), 3), (185, .return_, 1)]
def mm_X10_init : mu_M := (10, yX10_init, cX10_init, 2, none, 0, mc_X10_init)
def mc_X10_person : List (Nat × Instr × Nat) := [(0, .iload_n 1, 1), (1, .invokestatic 82, 3), (4, .ifCond .eq 13, 3), (7, .iload_n 2, 1), (8, .iconst 0, 1), (9, .bipush 9, 2), (11, .invokestatic 86, 3), (14, .ifCond .ne 6, 3), (17, .ldc 90, 2), (19, .ireturn, 1), (20, .aload_n 0, 1), (21, .getfield 10, 3), (24, .getfield 91, 3), (27, .bipush 8, 2), (29, .if_icmp .lt 6, 3), (32, .ldc 94, 2), (34, .ireturn, 1), (35, .aload_n 0, 1), (36, .getfield 10, 3), (39, .iload_n 1, 1), (40, .iload_n 2, 1), (41, .invokevirtual 95, 3), (44, .ireturn, 1)]
def mm_X10_person : mu_M := (10, yX10_person, cX10_person, 3, (some .int), 2, mc_X10_person)
def mc_X10_told : List (Nat × Instr × Nat) := [(0, .aload_n 0, 1), (1, .getfield 10, 3), (4, .iload_n 1, 1), (5, .invokevirtual 99, 3), (8, .ifCond .eq 12, 3), (11, .iload_n 2, 1), (12, .iconst 0, 1), (13, .iconst 4, 1), (14, .invokestatic 86, 3), (17, .ifCond .ne 6, 3), (20, .ldc 90, 2), (22, .ireturn, 1), (23, .aload_n 0, 1), (24, .getfield 10, 3), (27, .getfield 102, 3), (30, .iload_n 1, 1), (31, .aaload, 1), (32, .astore_n 3, 1), (33, .iload_n 2, 1), (34, .tableswitch 54 0 3 #[30, 35, 40, 45], 30), (64, .aload_n 3, 1), (65, .getfield 106, 3), (68, .ireturn, 1), (69, .aload_n 3, 1), (70, .getfield 111, 3), (73, .ireturn, 1), (74, .aload_n 3, 1), (75, .getfield 114, 3), (78, .ireturn, 1), (79, .aload_n 0, 1), (80, .getfield 10, 3), (83, .iload_n 1, 1), (84, .invokevirtual 117, 3), (87, .ireturn, 1), (88, .aload_n 0, 1), (89, .getfield 10, 3), (92, .iload_n 1, 1), (93, .invokevirtual 121, 3), (96, .ireturn, 1)]
def mm_X10_told : mu_M := (10, yX10_told, cX10_told, 4, (some .int), 2, mc_X10_told)
def mc_X10_set : List (Nat × Instr × Nat) := [(0, .aload_n 0, 1), (1, .getfield 10, 3), (4, .iload_n 1, 1), (5, .invokevirtual 99, 3), (8, .ifCond .eq 12, 3), (11, .iload_n 2, 1), (12, .iconst 1, 1), (13, .iconst 2, 1), (14, .invokestatic 86, 3), (17, .ifCond .ne 6, 3), (20, .ldc 90, 2), (22, .ireturn, 1), (23, .iload_n 3, 1), (24, .iconst 0, 1), (25, .iload_n 2, 1), (26, .iconst 1, 1), (27, .if_icmp .ne 8, 3), (30, .bipush 9, 2), (32, .goto 5, 3), (35, .bipush 99, 2), (37, .invokestatic 86, 3), (40, .ifCond .ne 6, 3), (43, .ldc 90, 2), (45, .ireturn, 1), (46, .aload_n 0, 1), (47, .getfield 10, 3), (50, .getfield 102, 3), (53, .iload_n 1, 1), (54, .aaload, 1), (55, .astore 4, 2), (57, .iload_n 2, 1), (58, .iconst 1, 1), (59, .if_icmp .ne 11, 3), (62, .aload 4, 2), (64, .getfield 111, 3), (67, .goto 8, 3), (70, .aload 4, 2), (72, .getfield 114, 3), (75, .istore 5, 2), (77, .iload_n 2, 1), (78, .iconst 1, 1), (79, .if_icmp .ne 12, 3), (82, .aload 4, 2), (84, .iload_n 3, 1), (85, .putfield 111, 3), (88, .goto 9, 3), (91, .aload 4, 2), (93, .iload_n 3, 1), (94, .putfield 114, 3), (97, .iload 5, 2), (99, .ireturn, 1)]
def mm_X10_set : mu_M := (10, yX10_set, cX10_set, 6, (some .int), 3, mc_X10_set)
def mc_X10_move : List (Nat × Instr × Nat) := [(0, .aload_n 0, 1), (1, .getfield 10, 3), (4, .iload_n 1, 1), (5, .invokevirtual 99, 3), (8, .ifCond .eq 25, 3), (11, .iload_n 2, 1), (12, .invokestatic 124, 3), (15, .ifCond .eq 18, 3), (18, .iload_n 3, 1), (19, .invokestatic 127, 3), (22, .ifCond .eq 11, 3), (25, .iload 4, 2), (27, .invokestatic 82, 3), (30, .ifCond .ne 6, 3), (33, .ldc 90, 2), (35, .ireturn, 1), (36, .iload 5, 2), (38, .ifCond .lt 27, 3), (41, .aload_n 0, 1), (42, .getfield 10, 3), (45, .iload 5, 2), (47, .bipush 10, 2), (49, .idiv, 1), (50, .invokevirtual 99, 3), (53, .ifCond .eq 12, 3), (56, .iload 5, 2), (58, .bipush 10, 2), (60, .idiv, 1), (61, .iload_n 1, 1), (62, .if_icmp .ne 6, 3), (65, .ldc 90, 2), (67, .ireturn, 1), (68, .aload_n 0, 1), (69, .getfield 10, 3), (72, .getfield 130, 3), (75, .bipush 20, 2), (77, .if_icmp .lt 6, 3), (80, .ldc 94, 2), (82, .ireturn, 1), (83, .aload_n 0, 1), (84, .getfield 10, 3), (87, .getfield 133, 3), (90, .aload_n 0, 1), (91, .getfield 10, 3), (94, .getfield 130, 3), (97, .aaload, 1), (98, .astore 6, 2), (100, .aload 6, 2), (102, .iload_n 1, 1), (103, .iload_n 2, 1), (104, .iload_n 3, 1), (105, .iload 4, 2), (107, .iload 5, 2), (109, .invokevirtual 137, 3), (112, .aload_n 0, 1), (113, .getfield 10, 3), (116, .aload_n 0, 1), (117, .getfield 10, 3), (120, .getfield 130, 3), (123, .invokevirtual 143, 3), (126, .ifCond .eq 6, 3), (129, .ldc 146, 2), (131, .ireturn, 1), (132, .aload_n 0, 1), (133, .getfield 10, 3), (136, .dup, 1), (137, .getfield 130, 3), (140, .iconst 1, 1), (141, .iadd, 1), (142, .putfield 130, 3), (145, .aload_n 0, 1), (146, .getfield 10, 3), (149, .getfield 130, 3), (152, .iconst 1, 1), (153, .isub, 1), (154, .ireturn, 1)]
def mm_X10_move : mu_M := (10, yX10_move, cX10_move, 7, (some .int), 5, mc_X10_move)
def mc_X10_of : List (Nat × Instr × Nat) := [(0, .aload_n 0, 1), (1, .getfield 10, 3), (4, .iload_n 1, 1), (5, .invokevirtual 147, 3), (8, .ifCond .eq 13, 3), (11, .iload_n 2, 1), (12, .iconst 0, 1), (13, .bipush 12, 2), (15, .invokestatic 86, 3), (18, .ifCond .ne 6, 3), (21, .ldc 90, 2), (23, .ireturn, 1), (24, .aload_n 0, 1), (25, .getfield 10, 3), (28, .getfield 133, 3), (31, .iload_n 1, 1), (32, .aaload, 1), (33, .astore_n 3, 1), (34, .iload_n 2, 1), (35, .tableswitch 81 8 12 #[33, 42, 51, 60, 69], 33), (68, .getstatic 150, 3), (71, .aload_n 3, 1), (72, .getfield 153, 3), (75, .iaload, 1), (76, .ireturn, 1), (77, .getstatic 156, 3), (80, .aload_n 3, 1), (81, .getfield 153, 3), (84, .iaload, 1), (85, .ireturn, 1), (86, .getstatic 159, 3), (89, .aload_n 3, 1), (90, .getfield 153, 3), (93, .iaload, 1), (94, .ireturn, 1), (95, .getstatic 162, 3), (98, .aload_n 3, 1), (99, .getfield 153, 3), (102, .iaload, 1), (103, .ireturn, 1), (104, .aload_n 0, 1), (105, .getfield 10, 3), (108, .aload_n 3, 1), (109, .invokevirtual 165, 3), (112, .invokestatic 169, 3), (115, .ireturn, 1), (116, .aload_n 3, 1), (117, .iload_n 2, 1), (118, .invokevirtual 173, 3), (121, .ireturn, 1)]
def mm_X10_of : mu_M := (10, yX10_of, cX10_of, 4, (some .int), 2, mc_X10_of)
def mc_X10_as : List (Nat × Instr × Nat) := [(0, .aload_n 0, 1), (1, .getfield 10, 3), (4, .iload_n 1, 1), (5, .invokevirtual 147, 3), (8, .ifCond .eq 10, 3), (11, .iload_n 2, 1), (12, .invokestatic 124, 3), (15, .ifCond .ne 6, 3), (18, .ldc 90, 2), (20, .ireturn, 1), (21, .aload_n 0, 1), (22, .getfield 10, 3), (25, .getfield 133, 3), (28, .iload_n 1, 1), (29, .aaload, 1), (30, .astore_n 3, 1), (31, .aload_n 3, 1), (32, .getfield 153, 3), (35, .iload_n 2, 1), (36, .invokestatic 176, 3), (39, .ifCond .eq 10, 3), (42, .aload_n 3, 1), (43, .getfield 180, 3), (46, .goto 5, 3), (49, .ldc 183, 2), (51, .ireturn, 1)]
def mm_X10_as : mu_M := (10, yX10_as, cX10_as, 4, (some .int), 2, mc_X10_as)
def mc_X10_cut : List (Nat × Instr × Nat) := [(0, .aload_n 0, 1), (1, .getfield 10, 3), (4, .iload_n 1, 1), (5, .invokevirtual 147, 3), (8, .ifCond .ne 6, 3), (11, .ldc 90, 2), (13, .ireturn, 1), (14, .aload_n 0, 1), (15, .getfield 10, 3), (18, .getfield 133, 3), (21, .iload_n 1, 1), (22, .aaload, 1), (23, .iload_n 2, 1), (24, .invokevirtual 184, 3), (27, .invokestatic 169, 3), (30, .ireturn, 1)]
def mm_X10_cut : mu_M := (10, yX10_cut, cX10_cut, 3, (some .int), 2, mc_X10_cut)
def mc_X10_wet : List (Nat × Instr × Nat) := [(0, .iload_n 1, 1), (1, .iconst 0, 1), (2, .iconst 1, 1), (3, .invokestatic 86, 3), (6, .ifCond .ne 6, 3), (9, .ldc 90, 2), (11, .ireturn, 1), (12, .aload_n 0, 1), (13, .getfield 10, 3), (16, .getfield 188, 3), (19, .istore_n 2, 1), (20, .aload_n 0, 1), (21, .getfield 10, 3), (24, .iload_n 1, 1), (25, .putfield 188, 3), (28, .iload_n 2, 1), (29, .ireturn, 1)]
def mm_X10_wet : mu_M := (10, yX10_wet, cX10_wet, 3, (some .int), 1, mc_X10_wet)
def mc_X10_where : List (Nat × Instr × Nat) := [(0, .aload_n 0, 1), (1, .getfield 10, 3), (4, .iload_n 1, 1), (5, .invokevirtual 99, 3), (8, .ifCond .eq 14, 3), (11, .iload_n 2, 1), (12, .bipush (-9), 2), (14, .bipush 99, 2), (16, .invokestatic 86, 3), (19, .ifCond .ne 6, 3), (22, .ldc 90, 2), (24, .ireturn, 1), (25, .aload_n 0, 1), (26, .getfield 27, 3), (29, .aload_n 0, 1), (30, .getfield 10, 3), (33, .invokevirtual 191, 3), (36, .aload_n 0, 1), (37, .getfield 27, 3), (40, .iload_n 1, 1), (41, .iload_n 2, 1), (42, .invokevirtual 194, 3), (45, .ireturn, 1)]
def mm_X10_where : mu_M := (10, yX10_where, cX10_where, 3, (some .int), 2, mc_X10_where)
def mc_X10_gap : List (Nat × Instr × Nat) := [(0, .aload_n 0, 1), (1, .getfield 10, 3), (4, .iload_n 1, 1), (5, .invokevirtual 147, 3), (8, .ifCond .eq 14, 3), (11, .aload_n 0, 1), (12, .getfield 10, 3), (15, .iload_n 2, 1), (16, .invokevirtual 99, 3), (19, .ifCond .ne 6, 3), (22, .ldc 90, 2), (24, .ireturn, 1), (25, .aload_n 0, 1), (26, .getfield 10, 3), (29, .getfield 133, 3), (32, .iload_n 1, 1), (33, .aaload, 1), (34, .astore_n 3, 1), (35, .aload_n 3, 1), (36, .invokevirtual 197, 3), (39, .ifCond .ne 6, 3), (42, .ldc 183, 2), (44, .ireturn, 1), (45, .aload_n 3, 1), (46, .getfield 201, 3), (49, .iload_n 2, 1), (50, .if_icmp .ne 6, 3), (53, .ldc 146, 2), (55, .ireturn, 1), (56, .aload_n 0, 1), (57, .getfield 27, 3), (60, .aload_n 0, 1), (61, .getfield 10, 3), (64, .invokevirtual 191, 3), (67, .aload_n 0, 1), (68, .getfield 27, 3), (71, .aload_n 3, 1), (72, .iload_n 2, 1), (73, .invokevirtual 204, 3), (76, .ireturn, 1)]
def mm_X10_gap : mu_M := (10, yX10_gap, cX10_gap, 4, (some .int), 2, mc_X10_gap)
def mc_X10_keeps : List (Nat × Instr × Nat) := [(0, .aload_n 0, 1), (1, .iload_n 1, 1), (2, .invokevirtual 208, 3), (5, .istore_n 2, 1), (6, .iload_n 2, 1), (7, .ifCond .eq 5, 3), (10, .iload_n 2, 1), (11, .ireturn, 1), (12, .aload_n 0, 1), (13, .getfield 27, 3), (16, .aload_n 0, 1), (17, .getfield 10, 3), (20, .invokevirtual 191, 3), (23, .aload_n 0, 1), (24, .getfield 27, 3), (27, .aload_n 0, 1), (28, .getfield 10, 3), (31, .getfield 133, 3), (34, .iload_n 1, 1), (35, .aaload, 1), (36, .invokevirtual 211, 3), (39, .ldc 215, 2), (41, .if_icmp .ne 7, 3), (44, .iconst 1, 1), (45, .goto 4, 3), (48, .iconst 0, 1), (49, .invokestatic 169, 3), (52, .ireturn, 1)]
def mm_X10_keeps : mu_M := (10, yX10_keeps, cX10_keeps, 3, (some .int), 1, mc_X10_keeps)
def mc_X10_breach : List (Nat × Instr × Nat) := [(0, .iload_n 1, 1), (1, .iconst 0, 1), (2, .iconst 1, 1), (3, .invokestatic 86, 3), (6, .ifCond .ne 6, 3), (9, .ldc 90, 2), (11, .ireturn, 1), (12, .aload_n 0, 1), (13, .getfield 27, 3), (16, .aload_n 0, 1), (17, .getfield 10, 3), (20, .invokevirtual 191, 3), (23, .aload_n 0, 1), (24, .getfield 27, 3), (27, .invokevirtual 216, 3), (30, .istore_n 2, 1), (31, .iload_n 2, 1), (32, .ldc 215, 2), (34, .if_icmp .eq 7, 3), (37, .iload_n 1, 1), (38, .ifCond .ne 5, 3), (41, .iload_n 2, 1), (42, .ireturn, 1), (43, .aload_n 0, 1), (44, .getfield 27, 3), (47, .aload_n 0, 1), (48, .getfield 10, 3), (51, .getfield 133, 3), (54, .iload_n 2, 1), (55, .aaload, 1), (56, .invokevirtual 211, 3), (59, .ireturn, 1)]
def mm_X10_breach : mu_M := (10, yX10_breach, cX10_breach, 3, (some .int), 1, mc_X10_breach)
def mc_X10_sign : List (Nat × Instr × Nat) := [(0, .aload_n 0, 1), (1, .getfield 10, 3), (4, .iload_n 1, 1), (5, .invokevirtual 99, 3), (8, .ifCond .eq 13, 3), (11, .iload_n 2, 1), (12, .iconst 0, 1), (13, .bipush 99, 2), (15, .invokestatic 86, 3), (18, .ifCond .ne 6, 3), (21, .ldc 90, 2), (23, .ireturn, 1), (24, .aload_n 0, 1), (25, .getfield 10, 3), (28, .getfield 220, 3), (31, .bipush 20, 2), (33, .if_icmp .lt 6, 3), (36, .ldc 94, 2), (38, .ireturn, 1), (39, .aload_n 0, 1), (40, .getfield 10, 3), (43, .getfield 223, 3), (46, .aload_n 0, 1), (47, .getfield 10, 3), (50, .getfield 220, 3), (53, .iload_n 1, 1), (54, .iastore, 1), (55, .aload_n 0, 1), (56, .getfield 10, 3), (59, .getfield 226, 3), (62, .aload_n 0, 1), (63, .getfield 10, 3), (66, .getfield 220, 3), (69, .iload_n 2, 1), (70, .iastore, 1), (71, .aload_n 0, 1), (72, .getfield 10, 3), (75, .dup, 1), (76, .getfield 220, 3), (79, .iconst 1, 1), (80, .iadd, 1), (81, .putfield 220, 3), (84, .aload_n 0, 1), (85, .getfield 10, 3), (88, .getfield 220, 3), (91, .ireturn, 1)]
def mm_X10_sign : mu_M := (10, yX10_sign, cX10_sign, 3, (some .int), 2, mc_X10_sign)
def mc_X10_unready : List (Nat × Instr × Nat) := [(0, .iload_n 1, 1), (1, .iconst (-1), 1), (2, .if_icmp .ne 11, 3), (5, .aload_n 0, 1), (6, .getfield 10, 3), (9, .invokevirtual 229, 3), (12, .ireturn, 1), (13, .aload_n 0, 1), (14, .iload_n 1, 1), (15, .invokevirtual 208, 3), (18, .istore_n 2, 1), (19, .iload_n 2, 1), (20, .ifCond .eq 7, 3), (23, .iload_n 2, 1), (24, .goto 22, 3), (27, .aload_n 0, 1), (28, .getfield 10, 3), (31, .aload_n 0, 1), (32, .getfield 10, 3), (35, .getfield 133, 3), (38, .iload_n 1, 1), (39, .aaload, 1), (40, .invokevirtual 232, 3), (43, .invokestatic 169, 3), (46, .ireturn, 1)]
def mm_X10_unready : mu_M := (10, yX10_unready, cX10_unready, 3, (some .int), 1, mc_X10_unready)
def mc_X10_seen : List (Nat × Instr × Nat) := [(0, .aload_n 0, 1), (1, .iload_n 1, 1), (2, .invokevirtual 208, 3), (5, .istore_n 2, 1), (6, .iload_n 2, 1), (7, .ifCond .eq 5, 3), (10, .iload_n 2, 1), (11, .ireturn, 1), (12, .aload_n 0, 1), (13, .getfield 27, 3), (16, .aload_n 0, 1), (17, .getfield 10, 3), (20, .invokevirtual 191, 3), (23, .aload_n 0, 1), (24, .getfield 27, 3), (27, .aload_n 0, 1), (28, .getfield 10, 3), (31, .getfield 133, 3), (34, .iload_n 1, 1), (35, .aaload, 1), (36, .invokevirtual 235, 3), (39, .invokestatic 169, 3), (42, .ireturn, 1)]
def mm_X10_seen : mu_M := (10, yX10_seen, cX10_seen, 3, (some .int), 1, mc_X10_seen)
def mc_X10_story : List (Nat × Instr × Nat) := [(0, .aload_n 0, 1), (1, .getfield 27, 3), (4, .aload_n 0, 1), (5, .getfield 10, 3), (8, .invokevirtual 191, 3), (11, .iconst 0, 1), (12, .istore_n 1, 1), (13, .iconst 0, 1), (14, .istore_n 2, 1), (15, .iload_n 2, 1), (16, .aload_n 0, 1), (17, .getfield 10, 3), (20, .getfield 130, 3), (23, .if_icmp .ge 55, 3), (26, .aload_n 0, 1), (27, .getfield 10, 3), (30, .getfield 133, 3), (33, .iload_n 2, 1), (34, .aaload, 1), (35, .astore_n 3, 1), (36, .aload_n 3, 1), (37, .getfield 238, 3), (40, .ifCond .ne 32, 3), (43, .aload_n 3, 1), (44, .invokevirtual 197, 3), (47, .ifCond .eq 14, 3), (50, .aload_n 0, 1), (51, .getfield 27, 3), (54, .aload_n 3, 1), (55, .invokevirtual 235, 3), (58, .ifCond .eq 14, 3), (61, .iload_n 1, 1), (62, .getstatic 156, 3), (65, .aload_n 3, 1), (66, .getfield 153, 3), (69, .iaload, 1), (70, .iadd, 1), (71, .istore_n 1, 1), (72, .iinc 2 1, 3), (75, .goto (-60), 3), (78, .iload_n 1, 1), (79, .ireturn, 1)]
def mm_X10_story : mu_M := (10, yX10_story, cX10_story, 4, (some .int), 0, mc_X10_story)
def mc_X10_feed : List (Nat × Instr × Nat) := [(0, .aload_n 0, 1), (1, .getfield 69, 3), (4, .bipush 12, 2), (6, .iadd, 1), (7, .bipush 96, 2), (9, .if_icmp .le 6, 3), (12, .ldc 94, 2), (14, .ireturn, 1), (15, .aload_n 0, 1), (16, .iload_n 1, 1), (17, .invokevirtual 241, 3), (20, .aload_n 0, 1), (21, .iload_n 2, 1), (22, .invokevirtual 241, 3), (25, .aload_n 0, 1), (26, .iload_n 3, 1), (27, .invokevirtual 241, 3), (30, .aload_n 0, 1), (31, .getfield 69, 3), (34, .ireturn, 1)]
def mm_X10_feed : mu_M := (10, yX10_feed, cX10_feed, 4, (some .int), 3, mc_X10_feed)
def mc_X10_trim : List (Nat × Instr × Nat) := [(0, .iload_n 1, 1), (1, .iconst 0, 1), (2, .aload_n 0, 1), (3, .getfield 69, 3), (6, .invokestatic 86, 3), (9, .ifCond .ne 6, 3), (12, .ldc 90, 2), (14, .ireturn, 1), (15, .aload_n 0, 1), (16, .iload_n 1, 1), (17, .putfield 69, 3), (20, .iload_n 1, 1), (21, .ireturn, 1)]
def mm_X10_trim : mu_M := (10, yX10_trim, cX10_trim, 2, (some .int), 1, mc_X10_trim)
def mc_X10_text : List (Nat × Instr × Nat) := [(0, .aload_n 0, 1), (1, .getfield 49, 3), (4, .aload_n 0, 1), (5, .getfield 69, 3), (8, .invokevirtual 245, 3), (11, .astore_n 1, 1), (12, .aload_n 0, 1), (13, .iconst 0, 1), (14, .putfield 69, 3), (17, .aload_n 1, 1), (18, .ifnonnull 14, 3), (21, .bipush (-100), 2), (23, .aload_n 0, 1), (24, .getfield 49, 3), (27, .getfield 249, 3), (30, .isub, 1), (31, .ireturn, 1), (32, .aload_n 0, 1), (33, .getfield 10, 3), (36, .getfield 252, 3), (39, .bipush 14, 2), (41, .if_icmp .lt 6, 3), (44, .ldc 94, 2), (46, .ireturn, 1), (47, .aload_n 0, 1), (48, .getfield 10, 3), (51, .getfield 255, 3), (54, .aload_n 0, 1), (55, .getfield 10, 3), (58, .getfield 252, 3), (61, .aload_n 1, 1), (62, .aastore, 1), (63, .aload_n 0, 1), (64, .getfield 10, 3), (67, .dup, 1), (68, .getfield 252, 3), (71, .iconst 1, 1), (72, .iadd, 1), (73, .putfield 252, 3), (76, .aload_n 0, 1), (77, .getfield 10, 3), (80, .getfield 252, 3), (83, .iconst 1, 1), (84, .isub, 1), (85, .ireturn, 1)]
def mm_X10_text : mu_M := (10, yX10_text, cX10_text, 2, (some .int), 0, mc_X10_text)
def mc_X10_textTold : List (Nat × Instr × Nat) := [(0, .iload_n 1, 1), (1, .iconst 0, 1), (2, .aload_n 0, 1), (3, .getfield 10, 3), (6, .getfield 252, 3), (9, .iconst 1, 1), (10, .isub, 1), (11, .invokestatic 86, 3), (14, .ifCond .eq 12, 3), (17, .iload_n 2, 1), (18, .iconst 0, 1), (19, .iconst 1, 1), (20, .invokestatic 86, 3), (23, .ifCond .ne 6, 3), (26, .ldc 90, 2), (28, .ireturn, 1), (29, .aload_n 0, 1), (30, .getfield 10, 3), (33, .getfield 255, 3), (36, .iload_n 1, 1), (37, .aaload, 1), (38, .astore_n 3, 1), (39, .aload_n 3, 1), (40, .ifnonnull 6, 3), (43, .ldc 90, 2), (45, .ireturn, 1), (46, .iload_n 2, 1), (47, .ifCond .ne 10, 3), (50, .aload_n 3, 1), (51, .getfield 259, 3), (54, .goto 7, 3), (57, .aload_n 3, 1), (58, .getfield 264, 3), (61, .ireturn, 1)]
def mm_X10_textTold : mu_M := (10, yX10_textTold, cX10_textTold, 4, (some .int), 2, mc_X10_textTold)
def mc_X10_hours : List (Nat × Instr × Nat) := [(0, .aload_n 0, 1), (1, .getfield 10, 3), (4, .iload_n 1, 1), (5, .iload_n 2, 1), (6, .invokevirtual 267, 3), (9, .ifCond .eq 12, 3), (12, .iload_n 3, 1), (13, .iconst 0, 1), (14, .iconst 1, 1), (15, .invokestatic 86, 3), (18, .ifCond .ne 6, 3), (21, .ldc 90, 2), (23, .ireturn, 1), (24, .iload_n 3, 1), (25, .ifCond .ne 15, 3), (28, .aload_n 0, 1), (29, .getfield 10, 3), (32, .iload_n 1, 1), (33, .iload_n 2, 1), (34, .invokevirtual 270, 3), (37, .goto 17, 3), (40, .aload_n 0, 1), (41, .getfield 10, 3), (44, .getfield 273, 3), (47, .iload_n 1, 1), (48, .bipush 8, 2), (50, .imul, 1), (51, .iload_n 2, 1), (52, .iadd, 1), (53, .iaload, 1), (54, .ireturn, 1)]
def mm_X10_hours : mu_M := (10, yX10_hours, cX10_hours, 4, (some .int), 3, mc_X10_hours)
def mc_X10_practise : List (Nat × Instr × Nat) := [(0, .aload_n 0, 1), (1, .getfield 10, 3), (4, .iload_n 1, 1), (5, .iload_n 2, 1), (6, .invokevirtual 267, 3), (9, .ifCond .eq 13, 3), (12, .iload_n 3, 1), (13, .iconst 1, 1), (14, .bipush 99, 2), (16, .invokestatic 86, 3), (19, .ifCond .ne 6, 3), (22, .ldc 90, 2), (24, .ireturn, 1), (25, .bipush 99, 2), (27, .aload_n 0, 1), (28, .getfield 10, 3), (31, .getfield 273, 3), (34, .iload_n 1, 1), (35, .bipush 8, 2), (37, .imul, 1), (38, .iload_n 2, 1), (39, .iadd, 1), (40, .iaload, 1), (41, .iload_n 3, 1), (42, .iadd, 1), (43, .invokestatic 276, 3), (46, .istore 4, 2), (48, .aload_n 0, 1), (49, .getfield 10, 3), (52, .getfield 273, 3), (55, .iload_n 1, 1), (56, .bipush 8, 2), (58, .imul, 1), (59, .iload_n 2, 1), (60, .iadd, 1), (61, .iload 4, 2), (63, .iastore, 1), (64, .aload_n 0, 1), (65, .getfield 10, 3), (68, .getfield 273, 3), (71, .iload_n 2, 1), (72, .bipush 8, 2), (74, .imul, 1), (75, .iload_n 1, 1), (76, .iadd, 1), (77, .iload 4, 2), (79, .iastore, 1), (80, .iload 4, 2), (82, .ireturn, 1)]
def mm_X10_practise : mu_M := (10, yX10_practise, cX10_practise, 5, (some .int), 3, mc_X10_practise)
def mc_X10_may : List (Nat × Instr × Nat) := [(0, .aload_n 0, 1), (1, .getfield 27, 3), (4, .aload_n 0, 1), (5, .getfield 10, 3), (8, .invokevirtual 191, 3), (11, .aload_n 0, 1), (12, .getfield 27, 3), (15, .invokevirtual 216, 3), (18, .ldc 215, 2), (20, .if_icmp .eq 5, 3), (23, .iconst 1, 1), (24, .ireturn, 1), (25, .aload_n 0, 1), (26, .getfield 10, 3), (29, .invokevirtual 281, 3), (32, .ifCond .eq 5, 3), (35, .iconst 2, 1), (36, .ireturn, 1), (37, .aload_n 0, 1), (38, .getfield 10, 3), (41, .invokevirtual 284, 3), (44, .ifCond .eq 7, 3), (47, .iconst 3, 1), (48, .goto 4, 3), (51, .iconst 0, 1), (52, .ireturn, 1)]
def mm_X10_may : mu_M := (10, yX10_may, cX10_may, 1, (some .int), 0, mc_X10_may)
def mc_X10_choose : List (Nat × Instr × Nat) := [(0, .aload_n 0, 1), (1, .getfield 10, 3), (4, .iload_n 1, 1), (5, .invokevirtual 147, 3), (8, .ifCond .ne 6, 3), (11, .ldc 90, 2), (13, .ireturn, 1), (14, .aload_n 0, 1), (15, .getfield 10, 3), (18, .iload_n 1, 1), (19, .invokevirtual 287, 3), (22, .ldc 215, 2), (24, .if_icmp .eq 6, 3), (27, .ldc 146, 2), (29, .ireturn, 1), (30, .aload_n 0, 1), (31, .getfield 10, 3), (34, .getfield 290, 3), (37, .bipush 6, 2), (39, .if_icmp .lt 6, 3), (42, .ldc 94, 2), (44, .ireturn, 1), (45, .aload_n 0, 1), (46, .getfield 10, 3), (49, .getfield 293, 3), (52, .aload_n 0, 1), (53, .getfield 10, 3), (56, .getfield 290, 3), (59, .iload_n 1, 1), (60, .iastore, 1), (61, .aload_n 0, 1), (62, .getfield 10, 3), (65, .dup, 1), (66, .getfield 290, 3), (69, .iconst 1, 1), (70, .iadd, 1), (71, .putfield 290, 3), (74, .aload_n 0, 1), (75, .getfield 10, 3), (78, .getfield 290, 3), (81, .ireturn, 1)]
def mm_X10_choose : mu_M := (10, yX10_choose, cX10_choose, 2, (some .int), 1, mc_X10_choose)
def mc_X10_clear : List (Nat × Instr × Nat) := [(0, .aload_n 0, 1), (1, .getfield 10, 3), (4, .getfield 290, 3), (7, .istore_n 1, 1), (8, .aload_n 0, 1), (9, .getfield 10, 3), (12, .iconst 0, 1), (13, .putfield 290, 3), (16, .iload_n 1, 1), (17, .ireturn, 1)]
def mm_X10_clear : mu_M := (10, yX10_clear, cX10_clear, 2, (some .int), 0, mc_X10_clear)
def mc_X10_understudy : List (Nat × Instr × Nat) := [(0, .aload_n 0, 1), (1, .getfield 10, 3), (4, .iload_n 1, 1), (5, .invokevirtual 99, 3), (8, .ifCond .eq 22, 3), (11, .iload_n 2, 1), (12, .iconst 0, 1), (13, .bipush 9, 2), (15, .invokestatic 86, 3), (18, .ifCond .eq 12, 3), (21, .iload_n 3, 1), (22, .iconst 0, 1), (23, .iconst 1, 1), (24, .invokestatic 86, 3), (27, .ifCond .ne 6, 3), (30, .ldc 90, 2), (32, .ireturn, 1), (33, .aload_n 0, 1), (34, .getfield 19, 3), (37, .aload_n 0, 1), (38, .getfield 10, 3), (41, .invokevirtual 296, 3), (44, .aload_n 0, 1), (45, .getfield 19, 3), (48, .getfield 102, 3), (51, .iload_n 1, 1), (52, .aaload, 1), (53, .iload_n 2, 1), (54, .putfield 111, 3), (57, .aload_n 0, 1), (58, .getfield 27, 3), (61, .aload_n 0, 1), (62, .getfield 19, 3), (65, .invokevirtual 191, 3), (68, .iconst 0, 1), (69, .istore 4, 2), (71, .iconst 0, 1), (72, .istore 5, 2), (74, .iconst 0, 1), (75, .istore 6, 2), (77, .iload 6, 2), (79, .aload_n 0, 1), (80, .getfield 19, 3), (83, .getfield 130, 3), (86, .if_icmp .ge 87, 3), (89, .aload_n 0, 1), (90, .getfield 19, 3), (93, .getfield 133, 3), (96, .iload 6, 2), (98, .aaload, 1), (99, .astore 7, 2), (101, .aload 7, 2), (103, .invokevirtual 299, 3), (106, .ifCond .eq 61, 3), (109, .aload_n 0, 1), (110, .getfield 27, 3), (113, .aload 7, 2), (115, .invokevirtual 211, 3), (118, .ldc 215, 2), (120, .if_icmp .eq 47, 3), (123, .aload_n 0, 1), (124, .getfield 19, 3), (127, .iload 6, 2), (129, .invokevirtual 287, 3), (132, .istore 8, 2), (134, .iload 8, 2), (136, .ldc 215, 2), (138, .if_icmp .ne 6, 3), (141, .ldc 215, 2), (143, .ireturn, 1), (144, .iload 4, 2), (146, .iconst 1, 1), (147, .iload 8, 2), (149, .ishl, 1), (150, .ior, 1), (151, .istore 4, 2), (153, .iload 5, 2), (155, .getstatic 156, 3), (158, .aload 7, 2), (160, .getfield 153, 3), (163, .iaload, 1), (164, .iadd, 1), (165, .istore 5, 2), (167, .iinc 6 1, 3), (170, .goto (-93), 3), (173, .iload_n 3, 1), (174, .ifCond .ne 8, 3), (177, .iload 4, 2), (179, .goto 5, 3), (182, .iload 5, 2), (184, .ireturn, 1)]
def mm_X10_understudy : mu_M := (10, yX10_understudy, cX10_understudy, 9, (some .int), 3, mc_X10_understudy)
def mc_X10_shifts : List (Nat × Instr × Nat) := [(0, .iload_n 1, 1), (1, .iconst (-1), 1), (2, .iconst 3, 1), (3, .aload_n 0, 1), (4, .getfield 10, 3), (7, .getfield 290, 3), (10, .invokestatic 276, 3), (13, .iconst 1, 1), (14, .isub, 1), (15, .invokestatic 86, 3), (18, .ifCond .ne 6, 3), (21, .ldc 90, 2), (23, .ireturn, 1), (24, .aload_n 0, 1), (25, .getfield 36, 3), (28, .aload_n 0, 1), (29, .getfield 10, 3), (32, .invokevirtual 302, 3), (35, .istore_n 2, 1), (36, .iload_n 1, 1), (37, .iconst (-1), 1), (38, .if_icmp .eq 9, 3), (41, .iload_n 2, 1), (42, .ldc 215, 2), (44, .if_icmp .ne 7, 3), (47, .iload_n 2, 1), (48, .goto 12, 3), (51, .aload_n 0, 1), (52, .getfield 36, 3), (55, .getfield 306, 3), (58, .iload_n 1, 1), (59, .iaload, 1), (60, .ireturn, 1)]
def mm_X10_shifts : mu_M := (10, yX10_shifts, cX10_shifts, 3, (some .int), 1, mc_X10_shifts)
def mc_X10_shift : List (Nat × Instr × Nat) := [(0, .aload_n 0, 1), (1, .getfield 36, 3), (4, .aload_n 0, 1), (5, .getfield 10, 3), (8, .invokevirtual 302, 3), (11, .istore_n 1, 1), (12, .iload_n 1, 1), (13, .ldc 215, 2), (15, .if_icmp .eq 14, 3), (18, .aload_n 0, 1), (19, .getfield 36, 3), (22, .aload_n 0, 1), (23, .getfield 10, 3), (26, .invokevirtual 309, 3), (29, .iload_n 1, 1), (30, .ireturn, 1)]
def mm_X10_shift : mu_M := (10, yX10_shift, cX10_shift, 2, (some .int), 0, mc_X10_shift)
def mc_X10_weapon : List (Nat × Instr × Nat) := [(0, .aload_n 0, 1), (1, .getfield 10, 3), (4, .getfield 312, 3), (7, .bipush 6, 2), (9, .if_icmp .lt 6, 3), (12, .ldc 94, 2), (14, .ireturn, 1), (15, .aload_n 0, 1), (16, .getfield 10, 3), (19, .getfield 315, 3), (22, .aload_n 0, 1), (23, .getfield 10, 3), (26, .getfield 312, 3), (29, .iconst 0, 1), (30, .iastore, 1), (31, .aload_n 0, 1), (32, .getfield 10, 3), (35, .getfield 318, 3), (38, .aload_n 0, 1), (39, .getfield 10, 3), (42, .getfield 312, 3), (45, .ldc 215, 2), (47, .iastore, 1), (48, .aload_n 0, 1), (49, .getfield 10, 3), (52, .dup, 1), (53, .getfield 312, 3), (56, .iconst 1, 1), (57, .iadd, 1), (58, .putfield 312, 3), (61, .aload_n 0, 1), (62, .getfield 10, 3), (65, .getfield 312, 3), (68, .iconst 1, 1), (69, .isub, 1), (70, .ireturn, 1)]
def mm_X10_weapon : mu_M := (10, yX10_weapon, cX10_weapon, 1, (some .int), 0, mc_X10_weapon)
def mc_X10_out : List (Nat × Instr × Nat) := [(0, .aload_n 0, 1), (1, .getfield 10, 3), (4, .iload_n 1, 1), (5, .invokevirtual 321, 3), (8, .ifCond .eq 14, 3), (11, .aload_n 0, 1), (12, .getfield 10, 3), (15, .iload_n 2, 1), (16, .invokevirtual 99, 3), (19, .ifCond .ne 6, 3), (22, .ldc 90, 2), (24, .ireturn, 1), (25, .aload_n 0, 1), (26, .getfield 10, 3), (29, .getfield 318, 3), (32, .iload_n 1, 1), (33, .iaload, 1), (34, .ldc 215, 2), (36, .if_icmp .ne 27, 3), (39, .aload_n 0, 1), (40, .getfield 10, 3), (43, .iload_n 1, 1), (44, .invokevirtual 324, 3), (47, .ifCond .ne 16, 3), (50, .aload_n 0, 1), (51, .getfield 10, 3), (54, .iload_n 2, 1), (55, .invokevirtual 117, 3), (58, .ldc 215, 2), (60, .if_icmp .eq 6, 3), (63, .ldc 146, 2), (65, .ireturn, 1), (66, .aload_n 0, 1), (67, .getfield 10, 3), (70, .getfield 318, 3), (73, .iload_n 1, 1), (74, .iload_n 2, 1), (75, .iastore, 1), (76, .iconst 1, 1), (77, .ireturn, 1)]
def mm_X10_out : mu_M := (10, yX10_out, cX10_out, 3, (some .int), 2, mc_X10_out)
def mc_X10_in : List (Nat × Instr × Nat) := [(0, .aload_n 0, 1), (1, .getfield 10, 3), (4, .iload_n 1, 1), (5, .invokevirtual 321, 3), (8, .ifCond .ne 6, 3), (11, .ldc 90, 2), (13, .ireturn, 1), (14, .aload_n 0, 1), (15, .getfield 10, 3), (18, .getfield 318, 3), (21, .iload_n 1, 1), (22, .iaload, 1), (23, .istore_n 2, 1), (24, .iload_n 2, 1), (25, .ldc 215, 2), (27, .if_icmp .ne 6, 3), (30, .ldc 146, 2), (32, .ireturn, 1), (33, .aload_n 0, 1), (34, .getfield 10, 3), (37, .getfield 318, 3), (40, .iload_n 1, 1), (41, .ldc 215, 2), (43, .iastore, 1), (44, .iload_n 2, 1), (45, .ireturn, 1)]
def mm_X10_in : mu_M := (10, yX10_in, cX10_in, 3, (some .int), 1, mc_X10_in)
def mc_X10_wear : List (Nat × Instr × Nat) := [(0, .aload_n 0, 1), (1, .getfield 10, 3), (4, .iload_n 1, 1), (5, .invokevirtual 321, 3), (8, .ifCond .eq 12, 3), (11, .iload_n 2, 1), (12, .iconst 0, 1), (13, .iconst 2, 1), (14, .invokestatic 86, 3), (17, .ifCond .ne 6, 3), (20, .ldc 90, 2), (22, .ireturn, 1), (23, .iload_n 2, 1), (24, .iconst 2, 1), (25, .if_icmp .ne 15, 3), (28, .aload_n 0, 1), (29, .getfield 10, 3), (32, .iload_n 1, 1), (33, .invokevirtual 324, 3), (36, .invokestatic 169, 3), (39, .ireturn, 1), (40, .iload_n 2, 1), (41, .ifCond .ne 15, 3), (44, .aload_n 0, 1), (45, .getfield 10, 3), (48, .getfield 315, 3), (51, .iload_n 1, 1), (52, .iaload, 1), (53, .goto 12, 3), (56, .aload_n 0, 1), (57, .getfield 10, 3), (60, .getfield 318, 3), (63, .iload_n 1, 1), (64, .iaload, 1), (65, .ireturn, 1)]
def mm_X10_wear : mu_M := (10, yX10_wear, cX10_wear, 3, (some .int), 2, mc_X10_wear)
def mc_X10_seed : List (Nat × Instr × Nat) := [(0, .aload_n 0, 1), (1, .getfield 10, 3), (4, .getfield 327, 3), (7, .istore_n 2, 1), (8, .aload_n 0, 1), (9, .getfield 10, 3), (12, .iload_n 1, 1), (13, .putfield 327, 3), (16, .iload_n 2, 1), (17, .ireturn, 1)]
def mm_X10_seed : mu_M := (10, yX10_seed, cX10_seed, 3, (some .int), 1, mc_X10_seed)
def mc_X10_show : List (Nat × Instr × Nat) := [(0, .iload_n 1, 1), (1, .iconst 1, 1), (2, .bipush 20, 2), (4, .invokestatic 86, 3), (7, .ifCond .ne 6, 3), (10, .ldc 90, 2), (12, .ireturn, 1), (13, .aload_n 0, 1), (14, .getfield 10, 3), (17, .getfield 330, 3), (20, .iload_n 1, 1), (21, .iadd, 1), (22, .sipush 999, 3), (25, .if_icmp .le 6, 3), (28, .ldc 94, 2), (30, .ireturn, 1), (31, .aload_n 0, 1), (32, .getfield 27, 3), (35, .aload_n 0, 1), (36, .getfield 10, 3), (39, .invokevirtual 191, 3), (42, .iconst 0, 1), (43, .istore_n 2, 1), (44, .iconst 0, 1), (45, .istore_n 3, 1), (46, .iload_n 3, 1), (47, .iload_n 1, 1), (48, .if_icmp .ge 19, 3), (51, .iload_n 2, 1), (52, .aload_n 0, 1), (53, .getfield 27, 3), (56, .invokevirtual 333, 3), (59, .iadd, 1), (60, .istore_n 2, 1), (61, .iinc 3 1, 3), (64, .goto (-18), 3), (67, .iload_n 2, 1), (68, .ireturn, 1)]
def mm_X10_show : mu_M := (10, yX10_show, cX10_show, 4, (some .int), 1, mc_X10_show)
def mc_X10_restAll : List (Nat × Instr × Nat) := [(0, .iconst 0, 1), (1, .istore_n 1, 1), (2, .iconst 0, 1), (3, .istore_n 2, 1), (4, .iload_n 2, 1), (5, .aload_n 0, 1), (6, .getfield 10, 3), (9, .getfield 91, 3), (12, .if_icmp .ge 52, 3), (15, .aload_n 0, 1), (16, .getfield 10, 3), (19, .getfield 102, 3), (22, .iload_n 2, 1), (23, .aaload, 1), (24, .astore_n 3, 1), (25, .aload_n 3, 1), (26, .iconst 0, 1), (27, .aload_n 3, 1), (28, .getfield 114, 3), (31, .bipush 10, 2), (33, .isub, 1), (34, .invokestatic 336, 3), (37, .putfield 114, 3), (40, .iload_n 1, 1), (41, .aload_n 3, 1), (42, .getfield 114, 3), (45, .ifCond .le 7, 3), (48, .iconst 1, 1), (49, .goto 4, 3), (52, .iconst 0, 1), (53, .invokestatic 169, 3), (56, .iadd, 1), (57, .istore_n 1, 1), (58, .iinc 2 1, 3), (61, .goto (-57), 3), (64, .iload_n 1, 1), (65, .ireturn, 1)]
def mm_X10_restAll : mu_M := (10, yX10_restAll, cX10_restAll, 4, (some .int), 0, mc_X10_restAll)
def mc_X10_log : List (Nat × Instr × Nat) := [(0, .iload_n 2, 1), (1, .iconst 0, 1), (2, .iconst 2, 1), (3, .invokestatic 86, 3), (6, .ifCond .eq 7, 3), (9, .iload_n 1, 1), (10, .ifCond .ge 6, 3), (13, .ldc 90, 2), (15, .ireturn, 1), (16, .iload_n 1, 1), (17, .aload_n 0, 1), (18, .getfield 10, 3), (21, .getfield 339, 3), (24, .getfield 343, 3), (27, .if_icmp .ge 22, 3), (30, .aload_n 0, 1), (31, .getfield 10, 3), (34, .getfield 339, 3), (37, .getfield 348, 3), (40, .iconst 3, 1), (41, .iload_n 1, 1), (42, .imul, 1), (43, .iload_n 2, 1), (44, .iadd, 1), (45, .iaload, 1), (46, .goto 5, 3), (49, .ldc 215, 2), (51, .ireturn, 1)]
def mm_X10_log : mu_M := (10, yX10_log, cX10_log, 3, (some .int), 2, mc_X10_log)
def mc_X10_led : List (Nat × Instr × Nat) := [(0, .aload_n 0, 1), (1, .getfield 10, 3), (4, .getfield 339, 3), (7, .invokevirtual 351, 3), (10, .ireturn, 1)]
def mm_X10_led : mu_M := (10, yX10_led, cX10_led, 1, (some .int), 0, mc_X10_led)
def mc_X10_sheet : List (Nat × Instr × Nat) := [(0, .iload_n 1, 1), (1, .invokestatic 354, 3), (4, .ifCond .eq 12, 3), (7, .iload_n 2, 1), (8, .iconst (-1), 1), (9, .iconst 1, 1), (10, .invokestatic 86, 3), (13, .ifCond .ne 6, 3), (16, .ldc 90, 2), (18, .ireturn, 1), (19, .iload_n 2, 1), (20, .iconst (-1), 1), (21, .if_icmp .ne 16, 3), (24, .aload_n 0, 1), (25, .getfield 59, 3), (28, .iload_n 1, 1), (29, .aaload, 1), (30, .iconst (-1), 1), (31, .iconst 0, 1), (32, .invokevirtual 357, 3), (35, .iconst 0, 1), (36, .ireturn, 1), (37, .iload_n 3, 1), (38, .bipush 24, 2), (40, .if_icmp .le 6, 3), (43, .ldc 90, 2), (45, .ireturn, 1), (46, .iload_n 3, 1), (47, .ifCond .ge 7, 3), (50, .ldc_w 360, 3), (53, .ireturn, 1), (54, .aload_n 0, 1), (55, .getfield 59, 3), (58, .iload_n 1, 1), (59, .aaload, 1), (60, .iload_n 2, 1), (61, .iload_n 3, 1), (62, .invokevirtual 357, 3), (65, .iload_n 3, 1), (66, .ireturn, 1)]
def mm_X10_sheet : mu_M := (10, yX10_sheet, cX10_sheet, 4, (some .int), 3, mc_X10_sheet)
def mc_X10_mark : List (Nat × Instr × Nat) := [(0, .iload_n 1, 1), (1, .invokestatic 354, 3), (4, .ifCond .ne 6, 3), (7, .ldc 90, 2), (9, .ireturn, 1), (10, .aload_n 0, 1), (11, .getfield 59, 3), (14, .iload_n 1, 1), (15, .aaload, 1), (16, .astore 4, 2), (18, .aload 4, 2), (20, .invokevirtual 361, 3), (23, .ifCond .eq 7, 3), (26, .ldc_w 364, 3), (29, .ireturn, 1), (30, .aload 4, 2), (32, .iload_n 2, 1), (33, .invokevirtual 365, 3), (36, .ifCond .ne 7, 3), (39, .ldc_w 368, 3), (42, .ireturn, 1), (43, .aload 4, 2), (45, .getfield 369, 3), (48, .iload_n 2, 1), (49, .baload, 1), (50, .istore 5, 2), (52, .aload 4, 2), (54, .iload_n 2, 1), (55, .iload_n 3, 1), (56, .invokevirtual 371, 3), (59, .iload 5, 2), (61, .ireturn, 1)]
def mm_X10_mark : mu_M := (10, yX10_mark, cX10_mark, 6, (some .int), 3, mc_X10_mark)
def mc_X10_cuts : List (Nat × Instr × Nat) := [(0, .iload_n 1, 1), (1, .invokestatic 354, 3), (4, .ifCond .ne 6, 3), (7, .ldc 90, 2), (9, .ireturn, 1), (10, .aload_n 0, 1), (11, .getfield 59, 3), (14, .iload_n 1, 1), (15, .aaload, 1), (16, .astore_n 2, 1), (17, .aload_n 2, 1), (18, .invokevirtual 361, 3), (21, .ifCond .eq 7, 3), (24, .ldc_w 364, 3), (27, .ireturn, 1), (28, .iconst 0, 1), (29, .istore_n 3, 1), (30, .iconst 0, 1), (31, .istore 4, 2), (33, .iload 4, 2), (35, .aload_n 2, 1), (36, .getfield 374, 3), (39, .if_icmp .ge 55, 3), (42, .iload 4, 2), (44, .aload_n 0, 1), (45, .getfield 10, 3), (48, .getfield 130, 3), (51, .if_icmp .ge 43, 3), (54, .iload_n 3, 1), (55, .aload_n 0, 1), (56, .getfield 10, 3), (59, .getfield 133, 3), (62, .iload 4, 2), (64, .aaload, 1), (65, .aload_n 2, 1), (66, .getfield 369, 3), (69, .iload 4, 2), (71, .baload, 1), (72, .ifCond .eq 7, 3), (75, .iconst 1, 1), (76, .goto 4, 3), (79, .iconst 0, 1), (80, .invokevirtual 184, 3), (83, .invokestatic 169, 3), (86, .iadd, 1), (87, .istore_n 3, 1), (88, .iinc 4 1, 3), (91, .goto (-58), 3), (94, .iload_n 3, 1), (95, .ireturn, 1)]
def mm_X10_cuts : mu_M := (10, yX10_cuts, cX10_cuts, 5, (some .int), 1, mc_X10_cuts)
def mc_X10_copy : List (Nat × Instr × Nat) := [(0, .iload_n 1, 1), (1, .invokestatic 354, 3), (4, .ifCond .eq 10, 3), (7, .iload_n 3, 1), (8, .invokestatic 354, 3), (11, .ifCond .ne 6, 3), (14, .ldc 90, 2), (16, .ireturn, 1), (17, .aload_n 0, 1), (18, .getfield 59, 3), (21, .iload_n 1, 1), (22, .aaload, 1), (23, .astore 6, 2), (25, .aload_n 0, 1), (26, .getfield 59, 3), (29, .iload_n 3, 1), (30, .aaload, 1), (31, .astore 7, 2), (33, .aload 6, 2), (35, .invokevirtual 361, 3), (38, .ifCond .ne 11, 3), (41, .aload 7, 2), (43, .invokevirtual 361, 3), (46, .ifCond .eq 7, 3), (49, .ldc_w 364, 3), (52, .ireturn, 1), (53, .aload 6, 2), (55, .getfield 375, 3), (58, .aload 7, 2), (60, .getfield 375, 3), (63, .if_icmp .eq 6, 3), (66, .ldc 183, 2), (68, .ireturn, 1), (69, .aload 6, 2), (71, .iload_n 2, 1), (72, .iload 5, 2), (74, .invokevirtual 378, 3), (77, .ifCond .eq 15, 3), (80, .aload 7, 2), (82, .iload 4, 2), (84, .iload 5, 2), (86, .invokevirtual 378, 3), (89, .ifCond .ne 7, 3), (92, .ldc_w 368, 3), (95, .ireturn, 1), (96, .aload 6, 2), (98, .getfield 369, 3), (101, .iload_n 2, 1), (102, .aload 7, 2), (104, .getfield 369, 3), (107, .iload 4, 2), (109, .iload 5, 2), (111, .invokestatic 381, 3), (114, .iload 5, 2), (116, .ireturn, 1)]
def mm_X10_copy : mu_M := (10, yX10_copy, cX10_copy, 8, (some .int), 5, mc_X10_copy)
def mc_X10_lay : List (Nat × Instr × Nat) := [(0, .iload_n 1, 1), (1, .invokestatic 387, 3), (4, .ifCond .eq 12, 3), (7, .iload_n 2, 1), (8, .iconst 0, 1), (9, .iconst 3, 1), (10, .invokestatic 86, 3), (13, .ifCond .ne 6, 3), (16, .ldc 90, 2), (18, .ireturn, 1), (19, .iload_n 2, 1), (20, .iconst 1, 1), (21, .if_icmp .ne 14, 3), (24, .aload_n 0, 1), (25, .getfield 10, 3), (28, .iload_n 3, 1), (29, .invokevirtual 147, 3), (32, .ifCond .eq 15, 3), (35, .iload_n 2, 1), (36, .iconst 2, 1), (37, .if_icmp .ne 13, 3), (40, .iload_n 3, 1), (41, .invokestatic 354, 3), (44, .ifCond .ne 6, 3), (47, .ldc 90, 2), (49, .ireturn, 1), (50, .iload_n 2, 1), (51, .iconst 2, 1), (52, .if_icmp .ne 19, 3), (55, .aload_n 0, 1), (56, .getfield 59, 3), (59, .iload_n 3, 1), (60, .aaload, 1), (61, .invokevirtual 361, 3), (64, .ifCond .eq 7, 3), (67, .ldc_w 364, 3), (70, .ireturn, 1), (71, .aload_n 0, 1), (72, .getfield 65, 3), (75, .iload_n 1, 1), (76, .aaload, 1), (77, .astore 4, 2), (79, .aload 4, 2), (81, .getfield 390, 3), (84, .istore 5, 2), (86, .aload 4, 2), (88, .iload_n 2, 1), (89, .putfield 390, 3), (92, .iload_n 2, 1), (93, .iconst 1, 1), (94, .if_icmp .ne 23, 3), (97, .aload 4, 2), (99, .aload_n 0, 1), (100, .getfield 10, 3), (103, .getfield 133, 3), (106, .iload_n 3, 1), (107, .aaload, 1), (108, .getfield 153, 3), (111, .putfield 393, 3), (114, .goto 36, 3), (117, .iload_n 2, 1), (118, .iconst 2, 1), (119, .if_icmp .ne 20, 3), (122, .aload 4, 2), (124, .getfield 394, 3), (127, .aload_n 0, 1), (128, .getfield 59, 3), (131, .iload_n 3, 1), (132, .aaload, 1), (133, .invokevirtual 398, 3), (136, .goto 14, 3), (139, .iload_n 2, 1), (140, .iconst 3, 1), (141, .if_icmp .ne 9, 3), (144, .aload 4, 2), (146, .iload_n 3, 1), (147, .putfield 401, 3), (150, .iload 5, 2), (152, .ireturn, 1)]
def mm_X10_lay : mu_M := (10, yX10_lay, cX10_lay, 6, (some .int), 3, mc_X10_lay)
def mc_X10_ask : List (Nat × Instr × Nat) := [(0, .iload_n 1, 1), (1, .invokestatic 387, 3), (4, .ifCond .eq 10, 3), (7, .iload_n 2, 1), (8, .invokestatic 124, 3), (11, .ifCond .ne 6, 3), (14, .ldc 90, 2), (16, .ireturn, 1), (17, .aload_n 0, 1), (18, .getfield 65, 3), (21, .iload_n 1, 1), (22, .aaload, 1), (23, .astore_n 3, 1), (24, .aload_n 3, 1), (25, .iconst 1, 1), (26, .invokevirtual 404, 3), (29, .istore 4, 2), (31, .iload 4, 2), (33, .ifCond .eq 6, 3), (36, .iload 4, 2), (38, .ireturn, 1), (39, .aload_n 3, 1), (40, .getfield 393, 3), (43, .iload_n 2, 1), (44, .invokestatic 176, 3), (47, .ifCond .eq 14, 3), (50, .getstatic 156, 3), (53, .aload_n 3, 1), (54, .getfield 393, 3), (57, .iaload, 1), (58, .goto 5, 3), (61, .ldc 183, 2), (63, .ireturn, 1)]
def mm_X10_ask : mu_M := (10, yX10_ask, cX10_ask, 5, (some .int), 2, mc_X10_ask)
def mc_X10_item : List (Nat × Instr × Nat) := [(0, .iload_n 1, 1), (1, .invokestatic 387, 3), (4, .ifCond .ne 6, 3), (7, .ldc 90, 2), (9, .ireturn, 1), (10, .aload_n 0, 1), (11, .getfield 65, 3), (14, .iload_n 1, 1), (15, .aaload, 1), (16, .astore_n 3, 1), (17, .aload_n 3, 1), (18, .iconst 2, 1), (19, .invokevirtual 404, 3), (22, .istore 4, 2), (24, .iload 4, 2), (26, .ifCond .eq 6, 3), (29, .iload 4, 2), (31, .ireturn, 1), (32, .aload_n 3, 1), (33, .getfield 394, 3), (36, .iload_n 2, 1), (37, .invokevirtual 365, 3), (40, .ifCond .eq 15, 3), (43, .aload_n 3, 1), (44, .getfield 394, 3), (47, .getfield 369, 3), (50, .iload_n 2, 1), (51, .baload, 1), (52, .goto 6, 3), (55, .ldc_w 368, 3), (58, .ireturn, 1)]
def mm_X10_item : mu_M := (10, yX10_item, cX10_item, 5, (some .int), 2, mc_X10_item)
def mc_X10_rest : List (Nat × Instr × Nat) := [(0, .iload_n 1, 1), (1, .invokestatic 387, 3), (4, .ifCond .ne 6, 3), (7, .ldc 90, 2), (9, .ireturn, 1), (10, .aload_n 0, 1), (11, .getfield 65, 3), (14, .iload_n 1, 1), (15, .aaload, 1), (16, .astore_n 3, 1), (17, .aload_n 3, 1), (18, .iconst 3, 1), (19, .invokevirtual 404, 3), (22, .istore 4, 2), (24, .iload 4, 2), (26, .ifCond .eq 6, 3), (29, .iload 4, 2), (31, .ireturn, 1), (32, .iload_n 2, 1), (33, .ifCond .ne 8, 3), (36, .ldc 146, 2), (38, .goto 9, 3), (41, .aload_n 3, 1), (42, .getfield 401, 3), (45, .iload_n 2, 1), (46, .irem, 1), (47, .ireturn, 1)]
def mm_X10_rest : mu_M := (10, yX10_rest, cX10_rest, 5, (some .int), 2, mc_X10_rest)
def mc_X10_tell : List (Nat × Instr × Nat) := [(0, .aload_n 0, 1), (1, .getfield 73, 3), (4, .bipush 60, 2), (6, .if_icmp .lt 6, 3), (9, .ldc 94, 2), (11, .ireturn, 1), (12, .aload_n 0, 1), (13, .getfield 53, 3), (16, .aload_n 0, 1), (17, .getfield 73, 3), (20, .iload_n 1, 1), (21, .iastore, 1), (22, .aload_n 0, 1), (23, .dup, 1), (24, .getfield 73, 3), (27, .iconst 1, 1), (28, .iadd, 1), (29, .putfield 73, 3), (32, .aload_n 0, 1), (33, .getfield 73, 3), (36, .ireturn, 1)]
def mm_X10_tell : mu_M := (10, yX10_tell, cX10_tell, 2, (some .int), 1, mc_X10_tell)
def mc_X10_check : List (Nat × Instr × Nat) := [(0, .aload_n 0, 1), (1, .getfield 73, 3), (4, .istore_n 2, 1), (5, .aload_n 0, 1), (6, .iconst 0, 1), (7, .putfield 73, 3), (10, .iload_n 1, 1), (11, .iconst 1, 1), (12, .bipush 20, 2), (14, .invokestatic 86, 3), (17, .ifCond .ne 6, 3), (20, .ldc 90, 2), (22, .ireturn, 1), (23, .aload_n 0, 1), (24, .getfield 76, 3), (27, .ifCond .ne 6, 3), (30, .ldc 146, 2), (32, .ireturn, 1), (33, .aload_n 0, 1), (34, .getfield 19, 3), (37, .aload_n 0, 1), (38, .getfield 16, 3), (41, .invokevirtual 296, 3), (44, .aload_n 0, 1), (45, .getfield 27, 3), (48, .aload_n 0, 1), (49, .getfield 19, 3), (52, .invokevirtual 191, 3), (55, .iconst 0, 1), (56, .istore_n 3, 1), (57, .iload_n 3, 1), (58, .iload_n 1, 1), (59, .if_icmp .ge 79, 3), (62, .aload_n 0, 1), (63, .getfield 27, 3), (66, .invokevirtual 333, 3), (69, .istore 4, 2), (71, .iconst 2, 1), (72, .iload_n 3, 1), (73, .imul, 1), (74, .iload_n 2, 1), (75, .if_icmp .ge 16, 3), (78, .aload_n 0, 1), (79, .getfield 53, 3), (82, .iconst 2, 1), (83, .iload_n 3, 1), (84, .imul, 1), (85, .iaload, 1), (86, .iload 4, 2), (88, .if_icmp .eq 9, 3), (91, .iconst 1, 1), (92, .iconst 2, 1), (93, .iload_n 3, 1), (94, .imul, 1), (95, .iadd, 1), (96, .ireturn, 1), (97, .iconst 2, 1), (98, .iload_n 3, 1), (99, .imul, 1), (100, .iconst 1, 1), (101, .iadd, 1), (102, .iload_n 2, 1), (103, .if_icmp .ge 23, 3), (106, .aload_n 0, 1), (107, .getfield 53, 3), (110, .iconst 2, 1), (111, .iload_n 3, 1), (112, .imul, 1), (113, .iconst 1, 1), (114, .iadd, 1), (115, .iaload, 1), (116, .aload_n 0, 1), (117, .getfield 19, 3), (120, .invokevirtual 407, 3), (123, .if_icmp .eq 9, 3), (126, .iconst 2, 1), (127, .iconst 2, 1), (128, .iload_n 3, 1), (129, .imul, 1), (130, .iadd, 1), (131, .ireturn, 1), (132, .iinc 3 1, 3), (135, .goto (-78), 3), (138, .iload_n 2, 1), (139, .iconst 2, 1), (140, .iload_n 1, 1), (141, .imul, 1), (142, .if_icmp .le 11, 3), (145, .iconst 1, 1), (146, .iconst 2, 1), (147, .iload_n 1, 1), (148, .imul, 1), (149, .iadd, 1), (150, .goto 4, 3), (153, .iconst 0, 1), (154, .ireturn, 1)]
def mm_X10_check : mu_M := (10, yX10_check, cX10_check, 5, (some .int), 1, mc_X10_check)
def mc_X10_keep : List (Nat × Instr × Nat) := [(0, .aload_n 0, 1), (1, .getfield 16, 3), (4, .aload_n 0, 1), (5, .getfield 10, 3), (8, .invokevirtual 296, 3), (11, .aload_n 0, 1), (12, .iconst 1, 1), (13, .putfield 76, 3), (16, .aload_n 0, 1), (17, .getfield 16, 3), (20, .getfield 330, 3), (23, .ireturn, 1)]
def mm_X10_keep : mu_M := (10, yX10_keep, cX10_keep, 1, (some .int), 0, mc_X10_keep)
def mc_X10_back : List (Nat × Instr × Nat) := [(0, .aload_n 0, 1), (1, .getfield 76, 3), (4, .ifCond .ne 6, 3), (7, .ldc 146, 2), (9, .ireturn, 1), (10, .aload_n 0, 1), (11, .getfield 10, 3), (14, .aload_n 0, 1), (15, .getfield 16, 3), (18, .invokevirtual 296, 3), (21, .aload_n 0, 1), (22, .getfield 10, 3), (25, .getfield 330, 3), (28, .ireturn, 1)]
def mm_X10_back : mu_M := (10, yX10_back, cX10_back, 1, (some .int), 0, mc_X10_back)
def mc_X10_count : List (Nat × Instr × Nat) := [(0, .iload_n 1, 1), (1, .tableswitch 180 0 13 #[71, 79, 87, 95, 103, 111, 119, 127, 135, 143, 151, 162, 167, 172], 71), (72, .aload_n 0, 1), (73, .getfield 10, 3), (76, .getfield 91, 3), (79, .ireturn, 1), (80, .aload_n 0, 1), (81, .getfield 10, 3), (84, .getfield 130, 3), (87, .ireturn, 1), (88, .aload_n 0, 1), (89, .getfield 10, 3), (92, .invokevirtual 410, 3), (95, .ireturn, 1), (96, .aload_n 0, 1), (97, .getfield 10, 3), (100, .invokevirtual 413, 3), (103, .ireturn, 1), (104, .aload_n 0, 1), (105, .getfield 10, 3), (108, .getfield 220, 3), (111, .ireturn, 1), (112, .aload_n 0, 1), (113, .getfield 10, 3), (116, .getfield 252, 3), (119, .ireturn, 1), (120, .aload_n 0, 1), (121, .getfield 10, 3), (124, .getfield 290, 3), (127, .ireturn, 1), (128, .aload_n 0, 1), (129, .getfield 10, 3), (132, .getfield 312, 3), (135, .ireturn, 1), (136, .aload_n 0, 1), (137, .getfield 10, 3), (140, .invokevirtual 416, 3), (143, .ireturn, 1), (144, .aload_n 0, 1), (145, .getfield 10, 3), (148, .getfield 330, 3), (151, .ireturn, 1), (152, .aload_n 0, 1), (153, .getfield 10, 3), (156, .getfield 339, 3), (159, .getfield 343, 3), (162, .ireturn, 1), (163, .aload_n 0, 1), (164, .getfield 73, 3), (167, .ireturn, 1), (168, .aload_n 0, 1), (169, .getfield 69, 3), (172, .ireturn, 1), (173, .aload_n 0, 1), (174, .getfield 10, 3), (177, .getfield 327, 3), (180, .ireturn, 1), (181, .ldc 90, 2), (183, .ireturn, 1)]
def mm_X10_count : mu_M := (10, yX10_count, cX10_count, 2, (some .int), 1, mc_X10_count)
def mc_X10_refusalOfBlow : List (Nat × Instr × Nat) := [(0, .aload_n 0, 1), (1, .getfield 10, 3), (4, .iload_n 1, 1), (5, .invokevirtual 147, 3), (8, .ifCond .ne 6, 3), (11, .ldc 90, 2), (13, .ireturn, 1), (14, .aload_n 0, 1), (15, .getfield 10, 3), (18, .getfield 133, 3), (21, .iload_n 1, 1), (22, .aaload, 1), (23, .invokevirtual 197, 3), (26, .ifCond .eq 7, 3), (29, .iconst 0, 1), (30, .goto 5, 3), (33, .ldc 183, 2), (35, .ireturn, 1)]
def mm_X10_refusalOfBlow : mu_M := (10, yX10_refusalOfBlow, cX10_refusalOfBlow, 2, (some .int), 1, mc_X10_refusalOfBlow)
def mc_X10_feedOne : List (Nat × Instr × Nat) := [(0, .bipush 24, 2), (2, .istore_n 2, 1), (3, .iload_n 2, 1), (4, .ifCond .lt 32, 3), (7, .aload_n 0, 1), (8, .getfield 40, 3), (11, .aload_n 0, 1), (12, .getfield 69, 3), (15, .iload_n 1, 1), (16, .iload_n 2, 1), (17, .ishr, 1), (18, .i2b, 1), (19, .bastore, 1), (20, .aload_n 0, 1), (21, .dup, 1), (22, .getfield 69, 3), (25, .iconst 1, 1), (26, .iadd, 1), (27, .putfield 69, 3), (30, .iinc 2 (-8), 3), (33, .goto (-30), 3), (36, .return_, 1)]
def mm_X10_feedOne : mu_M := (10, yX10_feedOne, cX10_feedOne, 3, none, 1, mc_X10_feedOne)
def mc_X10_isWithin : List (Nat × Instr × Nat) := [(0, .iload_n 0, 1), (1, .iload_n 1, 1), (2, .if_icmp .lt 12, 3), (5, .iload_n 0, 1), (6, .iload_n 2, 1), (7, .if_icmp .gt 7, 3), (10, .iconst 1, 1), (11, .goto 4, 3), (14, .iconst 0, 1), (15, .ireturn, 1)]
def mm_X10_isWithin : mu_M := (10, yX10_isWithin, cX10_isWithin, 3, (some .boolean), 3, mc_X10_isWithin)
def mc_X10_held : List (Nat × Instr × Nat) := [(0, .iload_n 1, 1), (1, .iload_n 2, 1), (2, .iload_n 0, 1), (3, .invokestatic 276, 3), (6, .invokestatic 336, 3), (9, .ireturn, 1)]
def mm_X10_held : mu_M := (10, yX10_held, cX10_held, 3, (some .int), 3, mc_X10_held)
def mc_X10_asInt : List (Nat × Instr × Nat) := [(0, .iload_n 0, 1), (1, .ifCond .eq 7, 3), (4, .iconst 1, 1), (5, .goto 4, 3), (8, .iconst 0, 1), (9, .ireturn, 1)]
def mm_X10_asInt : mu_M := (10, yX10_asInt, cX10_asInt, 1, (some .int), 1, mc_X10_asInt)
def mc_X10_isPlace : List (Nat × Instr × Nat) := [(0, .iload_n 0, 1), (1, .ifCond .lt 25, 3), (4, .iload_n 0, 1), (5, .bipush 10, 2), (7, .idiv, 1), (8, .bipush 11, 2), (10, .if_icmp .gt 16, 3), (13, .iload_n 0, 1), (14, .bipush 10, 2), (16, .irem, 1), (17, .bipush 7, 2), (19, .if_icmp .gt 7, 3), (22, .iconst 1, 1), (23, .goto 4, 3), (26, .iconst 0, 1), (27, .ireturn, 1)]
def mm_X10_isPlace : mu_M := (10, yX10_isPlace, cX10_isPlace, 1, (some .boolean), 1, mc_X10_isPlace)
def mc_X10_isTime : List (Nat × Instr × Nat) := [(0, .iload_n 0, 1), (1, .ifCond .lt 28, 3), (4, .iload_n 0, 1), (5, .bipush 10, 2), (7, .idiv, 1), (8, .bipush 90, 2), (10, .if_icmp .gt 19, 3), (13, .iload_n 0, 1), (14, .bipush 10, 2), (16, .irem, 1), (17, .iconst 1, 1), (18, .iconst 4, 1), (19, .invokestatic 86, 3), (22, .ifCond .eq 7, 3), (25, .iconst 1, 1), (26, .goto 4, 3), (29, .iconst 0, 1), (30, .ireturn, 1)]
def mm_X10_isTime : mu_M := (10, yX10_isTime, cX10_isTime, 1, (some .boolean), 1, mc_X10_isTime)
def mc_X10_isKind : List (Nat × Instr × Nat) := [(0, .iload_n 0, 1), (1, .iconst 0, 1), (2, .iconst 5, 1), (3, .invokestatic 86, 3), (6, .ireturn, 1)]
def mm_X10_isKind : mu_M := (10, yX10_isKind, cX10_isKind, 1, (some .boolean), 1, mc_X10_isKind)
def mc_X10_isOfKind : List (Nat × Instr × Nat) := [(0, .iload_n 0, 1), (1, .iload_n 1, 1), (2, .if_icmp .eq 16, 3), (5, .iload_n 1, 1), (6, .ifCond .eq 12, 3), (9, .getstatic 419, 3), (12, .iload_n 0, 1), (13, .iaload, 1), (14, .iload_n 1, 1), (15, .if_icmp .ne 7, 3), (18, .iconst 1, 1), (19, .goto 4, 3), (22, .iconst 0, 1), (23, .ireturn, 1)]
def mm_X10_isOfKind : mu_M := (10, yX10_isOfKind, cX10_isOfKind, 2, (some .boolean), 2, mc_X10_isOfKind)
def mc_X10_isSheet : List (Nat × Instr × Nat) := [(0, .iload_n 0, 1), (1, .iconst 0, 1), (2, .iconst 3, 1), (3, .invokestatic 86, 3), (6, .ireturn, 1)]
def mm_X10_isSheet : mu_M := (10, yX10_isSheet, cX10_isSheet, 1, (some .boolean), 1, mc_X10_isSheet)
def mc_X10_isSlot : List (Nat × Instr × Nat) := [(0, .iload_n 0, 1), (1, .iconst 0, 1), (2, .iconst 4, 1), (3, .invokestatic 86, 3), (6, .ireturn, 1)]
def mm_X10_isSlot : mu_M := (10, yX10_isSlot, cX10_isSlot, 1, (some .boolean), 1, mc_X10_isSlot)
def mc_X11_init : List (Nat × Instr × Nat) := [(0, .aload_n 0, 1), (1, .invokespecial 1, 3), (4, .aload_n 0, 1), (5, .sipush 3470, 3), (8, .newarray .int, 2), (10, .putfield 7, 3), (13, .aload_n 0, 1), (14, .sipush 3470, 3), (17, .newarray .int, 2), (19, .putfield 13, 3), (22, .aload_n 0, 1), (23, .sipush 3470, 3), (26, .newarray .int, 2), (28, .putfield 16, 3), (31, .aload_n 0, 1), (32, .iconst 4, 1), (33, .newarray .int, 2), (35, .putfield 19, 3), (38, .aload_n 0, 1), (39, .iconst 4, 1), (40, .newarray .int, 2), (42, .putfield 22, 3), (45, .aload_n 0, 1), (46, .bipush 96, 2), (48, .newarray .int, 2), (50, .putfield 25, 3), (53, .aload_n 0, 1), (54, .iconst 5, 1), (55, .newarray .int, 2), (57, .putfield 28, 3), (60, .aload_n 0, 1), (61, .iconst 5, 1), (62, .newarray .int, 2), (64, .putfield 31, 3), (67, .aload_n 0, 1), (68, .iconst 5, 1), (69, .newarray .int, 2), (71, .putfield 34, 3), (74, .aload_n 0, 1), (75, .bipush 120, 2), (77, .newarray .int, 2), (79, .putfield 37, 3), (82, .aload_n 0, 1), (83, .bipush 6, 2), (85, .newarray .int, 2), (87, .dup, 1), (88, .iconst 0, 1), (89, .iconst 0, 1), (90, .iastore, 1), (91, .dup, 1), (92, .iconst 1, 1), (93, .iconst 0, 1), (94, .iastore, 1), (95, .dup, 1), (96, .iconst 2, 1), (97, .iconst 2, 1), (98, .iastore, 1), (99, .dup, 1), (100, .iconst 3, 1), (101, .iconst 3, 1), (102, .iastore, 1), (103, .dup, 1), (104, .iconst 4, 1), (105, .iconst 1, 1), (106, .iastore, 1), (107, .dup, 1), (108, .iconst 5, 1), (109, .iconst 0, 1), (110, .iastore, 1), (111, .putfield 40, 3), (114, .aload_n 0, 1), (115, .bipush 6, 2), (117, .newarray .int, 2), (119, .dup, 1), (120, .iconst 0, 1), (121, .iconst 0, 1), (122, .iastore, 1), (123, .dup, 1), (124, .iconst 1, 1), (125, .iconst 1, 1), (126, .iastore, 1), (127, .dup, 1), (128, .iconst 2, 1), (129, .iconst 5, 1), (130, .iastore, 1), (131, .dup, 1), (132, .iconst 3, 1), (133, .bipush 7, 2), (135, .iastore, 1), (136, .dup, 1), (137, .iconst 4, 1), (138, .iconst 2, 1), (139, .iastore, 1), (140, .dup, 1), (141, .iconst 5, 1), (142, .iconst 4, 1), (143, .iastore, 1), (144, .putfield 43, 3), (147, .aload_n 0, 1), (148, .bipush 6, 2), (150, .newarray .int, 2), (152, .dup, 1), (153, .iconst 0, 1), (154, .iconst 1, 1), (155, .iastore, 1), (156, .dup, 1), (157, .iconst 1, 1), (158, .iconst 1, 1), (159, .iastore, 1), (160, .dup, 1), (161, .iconst 2, 1), (162, .iconst 2, 1), (163, .iastore, 1), (164, .dup, 1), (165, .iconst 3, 1), (166, .iconst 3, 1), (167, .iastore, 1), (168, .dup, 1), (169, .iconst 4, 1), (170, .iconst 2, 1), (171, .iastore, 1), (172, .dup, 1), (173, .iconst 5, 1), (174, .iconst 3, 1), (175, .iastore, 1), (176, .putfield 46, 3), (179, .aload_n 0, 1), (180, .bipush 6, 2), (182, .newarray .int, 2), (184, .dup, 1), (185, .iconst 0, 1), (186, .iconst 0, 1), (187, .iastore, 1), (188, .dup, 1), (189, .iconst 1, 1), (190, .iconst 0, 1), (191, .iastore, 1), (192, .dup, 1), (193, .iconst 2, 1), (194, .iconst 1, 1), (195, .iastore, 1), (196, .dup, 1), (197, .iconst 3, 1), (198, .iconst 2, 1), (199, .iastore, 1), (200, .dup, 1), (201, .iconst 4, 1), (202, .iconst 0, 1), (203, .iastore, 1), (204, .dup, 1), (205, .iconst 5, 1), (206, .iconst 0, 1), (207, .iastore, 1), (208, .putfield 49, 3), (211, .aload_n 0, 1), (212, .sipush 968, 3), (215, .newarray .int, 2), (217, .putfield 52, 3), (220, .aload_n 0, 1), (221, .bipush 20, 2), (223, .newarray .int, 2), (225, .putfield 55, 3), (228, .aload_n 0, 1), (229, .bipush 8, 2), (231, .newarray .int, 2), (233, .putfield 58, 3), (236, .aload_n 0, 1), (237, .bipush 96, 2), (239, .newarray .int, 2), (241, .putfield 61, 3), (244, .aload_n 0, 1), (245, .sipush 128, 3), (248, .newarray .int, 2), (250, .putfield 64, 3), (253, .aload_n 0, 1), (254, .bipush 100, 2), (256, .newarray .int, 2), (258, .putfield 67, 3), (261, .aload_n 0, 1), (262, .iconst 3, 1), (263, .newarray .int, 2), (265, .putfield 70, 3), (268, .aload_n 0, 1), (269, .iconst 3, 1), (270, .newarray .int, 2), (272, .putfield 73, 3), (275, .aload_n 0, 1), (276, .bipush 24, 2), (278, .newarray .int, 2), (280, .putfield 76, 3), (283, .aload_n 0, 1), (284, .bipush 60, 2), (286, .newarray .int, 2), (288, .putfield 79, 3), (291, .aload_n 0, 1), (292, .bipush 60, 2), (294, .newarray .int, 2), (296, .putfield 82, 3), (299, .aload_n 0, 1), (300, .getfield 7, 3), (303, .bipush 8, 2), (305, .iconst 1, 1), (306, .iastore, 1), (307, .iconst 0, 1), (308, .istore_n 1, 1), (309, .iload_n 1, 1), (310, .iconst 4, 1), (311, .if_icmp .ge 16, 3), (314, .aload_n 0, 1), (315, .getfield 19, 3), (318, .iload_n 1, 1), (319, .iconst (-1), 1), (320, .iastore, 1), (321, .iinc 1 1, 3), (324, .goto (-15), 3), (327, .return_, 1)]
def mm_X11_init : mu_M := (11, yX11_init, cX11_init, 2, none, 0, mc_X11_init)
def mc_X11_isIn : List (Nat × Instr × Nat) := [(0, .lload_n 0, 1), (1, .lload_n 2, 1), (2, .lcmp, 1), (3, .ifCond .lt 14, 3), (6, .lload_n 0, 1), (7, .lload 4, 2), (9, .lcmp, 1), (10, .ifCond .gt 7, 3), (13, .iconst 1, 1), (14, .goto 4, 3), (17, .iconst 0, 1), (18, .ireturn, 1)]
def mm_X11_isIn : mu_M := (11, yX11_isIn, cX11_isIn, 6, (some .boolean), 3, mc_X11_isIn)
def mc_X11_orNone : List (Nat × Instr × Nat) := [(0, .iload_n 0, 1), (1, .ifCond .ge 8, 3), (4, .ldc 85, 2), (6, .goto 4, 3), (9, .iload_n 0, 1), (10, .ireturn, 1)]
def mm_X11_orNone : mu_M := (11, yX11_orNone, cX11_orNone, 1, (some .int), 1, mc_X11_orNone)
def mc_X11_least : List (Nat × Instr × Nat) := [(0, .iload_n 0, 1), (1, .iload_n 1, 1), (2, .if_icmp .ge 7, 3), (5, .iload_n 0, 1), (6, .goto 4, 3), (9, .iload_n 1, 1), (10, .ireturn, 1)]
def mm_X11_least : mu_M := (11, yX11_least, cX11_least, 2, (some .int), 2, mc_X11_least)
def mc_X11_heldIn : List (Nat × Instr × Nat) := [(0, .iload_n 0, 1), (1, .ifCond .ge 7, 3), (4, .iconst 0, 1), (5, .goto 13, 3), (8, .iload_n 0, 1), (9, .iload_n 1, 1), (10, .if_icmp .le 7, 3), (13, .iload_n 1, 1), (14, .goto 4, 3), (17, .iload_n 0, 1), (18, .ireturn, 1)]
def mm_X11_heldIn : mu_M := (11, yX11_heldIn, cX11_heldIn, 2, (some .int), 2, mc_X11_heldIn)
def mc_X11_becomes : List (Nat × Instr × Nat) := [(0, .aload_n 0, 1), (1, .invokevirtual 86, 3), (4, .aload_n 0, 1), (5, .getfield 7, 3), (8, .iload_n 1, 1), (9, .iaload, 1), (10, .istore_n 3, 1), (11, .aload_n 0, 1), (12, .getfield 7, 3), (15, .iload_n 1, 1), (16, .iload_n 2, 1), (17, .iastore, 1), (18, .iload_n 3, 1), (19, .ireturn, 1)]
def mm_X11_becomes : mu_M := (11, yX11_becomes, cX11_becomes, 4, (some .int), 2, mc_X11_becomes)
def mc_X11_personAt : List (Nat × Instr × Nat) := [(0, .bipush 20, 2), (2, .iconst 4, 1), (3, .iload_n 1, 1), (4, .imul, 1), (5, .iadd, 1), (6, .ireturn, 1)]
def mm_X11_personAt : mu_M := (11, yX11_personAt, cX11_personAt, 2, (some .int), 1, mc_X11_personAt)
def mc_X11_moveAt : List (Nat × Instr × Nat) := [(0, .bipush 60, 2), (2, .bipush 8, 2), (4, .iload_n 1, 1), (5, .imul, 1), (6, .iadd, 1), (7, .ireturn, 1)]
def mm_X11_moveAt : mu_M := (11, yX11_moveAt, cX11_moveAt, 2, (some .int), 1, mc_X11_moveAt)
def mc_X11_weaponAt : List (Nat × Instr × Nat) := [(0, .sipush 270, 3), (3, .iconst 2, 1), (4, .iload_n 1, 1), (5, .imul, 1), (6, .iadd, 1), (7, .ireturn, 1)]
def mm_X11_weaponAt : mu_M := (11, yX11_weaponAt, cX11_weaponAt, 2, (some .int), 1, mc_X11_weaponAt)
def mc_X11_textAt : List (Nat × Instr × Nat) := [(0, .sipush 460, 3), (3, .sipush 200, 3), (6, .iload_n 1, 1), (7, .imul, 1), (8, .iadd, 1), (9, .ireturn, 1)]
def mm_X11_textAt : mu_M := (11, yX11_textAt, cX11_textAt, 2, (some .int), 1, mc_X11_textAt)
def mc_X11_isPerson : List (Nat × Instr × Nat) := [(0, .iload_n 1, 1), (1, .i2l, 1), (2, .lconst 0, 1), (3, .aload_n 0, 1), (4, .getfield 7, 3), (7, .iconst 0, 1), (8, .iaload, 1), (9, .iconst 1, 1), (10, .isub, 1), (11, .i2l, 1), (12, .invokestatic 89, 3), (15, .ireturn, 1)]
def mm_X11_isPerson : mu_M := (11, yX11_isPerson, cX11_isPerson, 2, (some .boolean), 1, mc_X11_isPerson)
def mc_X11_isMove : List (Nat × Instr × Nat) := [(0, .iload_n 1, 1), (1, .i2l, 1), (2, .lconst 0, 1), (3, .aload_n 0, 1), (4, .getfield 7, 3), (7, .iconst 1, 1), (8, .iaload, 1), (9, .iconst 1, 1), (10, .isub, 1), (11, .i2l, 1), (12, .invokestatic 89, 3), (15, .ireturn, 1)]
def mm_X11_isMove : mu_M := (11, yX11_isMove, cX11_isMove, 2, (some .boolean), 1, mc_X11_isMove)
def mc_X11_isWeapon : List (Nat × Instr × Nat) := [(0, .iload_n 1, 1), (1, .i2l, 1), (2, .lconst 0, 1), (3, .aload_n 0, 1), (4, .getfield 7, 3), (7, .iconst 5, 1), (8, .iaload, 1), (9, .iconst 1, 1), (10, .isub, 1), (11, .i2l, 1), (12, .invokestatic 89, 3), (15, .ireturn, 1)]
def mm_X11_isWeapon : mu_M := (11, yX11_isWeapon, cX11_isWeapon, 2, (some .boolean), 1, mc_X11_isWeapon)
def mc_X11_isText : List (Nat × Instr × Nat) := [(0, .iload_n 1, 1), (1, .i2l, 1), (2, .lconst 0, 1), (3, .aload_n 0, 1), (4, .getfield 7, 3), (7, .iconst 3, 1), (8, .iaload, 1), (9, .iconst 1, 1), (10, .isub, 1), (11, .i2l, 1), (12, .invokestatic 89, 3), (15, .ireturn, 1)]
def mm_X11_isText : mu_M := (11, yX11_isText, cX11_isText, 2, (some .boolean), 1, mc_X11_isText)
def mc_X11_isPlace : List (Nat × Instr × Nat) := [(0, .iload_n 0, 1), (1, .i2l, 1), (2, .lconst 0, 1), (3, .ldc2_w 93, 3), (6, .invokestatic 89, 3), (9, .ifCond .eq 16, 3), (12, .iload_n 0, 1), (13, .bipush 10, 2), (15, .irem, 1), (16, .bipush 8, 2), (18, .if_icmp .ge 7, 3), (21, .iconst 1, 1), (22, .goto 4, 3), (25, .iconst 0, 1), (26, .ireturn, 1)]
def mm_X11_isPlace : mu_M := (11, yX11_isPlace, cX11_isPlace, 1, (some .boolean), 1, mc_X11_isPlace)
def mc_X11_field : List (Nat × Instr × Nat) := [(0, .aload_n 0, 1), (1, .getfield 7, 3), (4, .aload_n 0, 1), (5, .iload_n 1, 1), (6, .invokevirtual 95, 3), (9, .iload_n 2, 1), (10, .iadd, 1), (11, .iaload, 1), (12, .ireturn, 1)]
def mm_X11_field : mu_M := (11, yX11_field, cX11_field, 3, (some .int), 2, mc_X11_field)
def mc_X11_isBlowKind : List (Nat × Instr × Nat) := [(0, .iload_n 0, 1), (1, .i2l, 1), (2, .ldc2_w 99, 3), (5, .ldc2_w 101, 3), (8, .invokestatic 89, 3), (11, .ireturn, 1)]
def mm_X11_isBlowKind : mu_M := (11, yX11_isBlowKind, cX11_isBlowKind, 1, (some .boolean), 1, mc_X11_isBlowKind)
def mc_X11_isBlow : List (Nat × Instr × Nat) := [(0, .aload_n 0, 1), (1, .iload_n 1, 1), (2, .iconst 1, 1), (3, .invokevirtual 103, 3), (6, .invokestatic 107, 3), (9, .ireturn, 1)]
def mm_X11_isBlow : mu_M := (11, yX11_isBlow, cX11_isBlow, 2, (some .boolean), 1, mc_X11_isBlow)
def mc_X11_isDone : List (Nat × Instr × Nat) := [(0, .aload_n 0, 1), (1, .iload_n 1, 1), (2, .invokevirtual 111, 3), (5, .ifCond .eq 17, 3), (8, .aload_n 0, 1), (9, .iload_n 1, 1), (10, .bipush 7, 2), (12, .invokevirtual 103, 3), (15, .ifCond .ne 7, 3), (18, .iconst 1, 1), (19, .goto 4, 3), (22, .iconst 0, 1), (23, .ireturn, 1)]
def mm_X11_isDone : mu_M := (11, yX11_isDone, cX11_isDone, 2, (some .boolean), 1, mc_X11_isDone)
def mc_X11_person : List (Nat × Instr × Nat) := [(0, .iload_n 1, 1), (1, .invokestatic 114, 3), (4, .ifCond .eq 15, 3), (7, .iload_n 2, 1), (8, .i2l, 1), (9, .lconst 0, 1), (10, .ldc2_w 117, 3), (13, .invokestatic 89, 3), (16, .ifCond .ne 6, 3), (19, .ldc 119, 2), (21, .ireturn, 1), (22, .aload_n 0, 1), (23, .getfield 7, 3), (26, .iconst 0, 1), (27, .iaload, 1), (28, .bipush 8, 2), (30, .if_icmp .ne 6, 3), (33, .ldc 120, 2), (35, .ireturn, 1), (36, .aload_n 0, 1), (37, .aload_n 0, 1), (38, .getfield 7, 3), (41, .iconst 0, 1), (42, .iaload, 1), (43, .invokevirtual 121, 3), (46, .istore_n 3, 1), (47, .aload_n 0, 1), (48, .getfield 7, 3), (51, .iload_n 3, 1), (52, .iload_n 1, 1), (53, .iastore, 1), (54, .aload_n 0, 1), (55, .getfield 7, 3), (58, .iload_n 3, 1), (59, .iconst 1, 1), (60, .iadd, 1), (61, .iload_n 2, 1), (62, .iastore, 1), (63, .aload_n 0, 1), (64, .getfield 7, 3), (67, .iload_n 3, 1), (68, .iconst 2, 1), (69, .iadd, 1), (70, .iconst 0, 1), (71, .iastore, 1), (72, .aload_n 0, 1), (73, .getfield 7, 3), (76, .iload_n 3, 1), (77, .iconst 3, 1), (78, .iadd, 1), (79, .iconst (-1), 1), (80, .iastore, 1), (81, .aload_n 0, 1), (82, .getfield 7, 3), (85, .iconst 0, 1), (86, .dup2, 1), (87, .iaload, 1), (88, .iconst 1, 1), (89, .iadd, 1), (90, .iastore, 1), (91, .aload_n 0, 1), (92, .invokevirtual 86, 3), (95, .aload_n 0, 1), (96, .getfield 7, 3), (99, .iconst 0, 1), (100, .iaload, 1), (101, .iconst 1, 1), (102, .isub, 1), (103, .ireturn, 1)]
def mm_X11_person : mu_M := (11, yX11_person, cX11_person, 4, (some .int), 2, mc_X11_person)
def mc_X11_lateOf : List (Nat × Instr × Nat) := [(0, .aload_n 0, 1), (1, .iload_n 1, 1), (2, .invokevirtual 121, 3), (5, .istore_n 2, 1), (6, .aload_n 0, 1), (7, .iconst 0, 1), (8, .invokevirtual 124, 3), (11, .istore_n 3, 1), (12, .aload_n 0, 1), (13, .getfield 64, 3), (16, .bipush 115, 2), (18, .aload_n 0, 1), (19, .getfield 7, 3), (22, .iload_n 2, 1), (23, .iconst 1, 1), (24, .iadd, 1), (25, .iaload, 1), (26, .iastore, 1), (27, .aload_n 0, 1), (28, .getfield 64, 3), (31, .bipush 116, 2), (33, .aload_n 0, 1), (34, .getfield 7, 3), (37, .iload_n 2, 1), (38, .iconst 2, 1), (39, .iadd, 1), (40, .iaload, 1), (41, .iastore, 1), (42, .aload_n 0, 1), (43, .getfield 64, 3), (46, .bipush 119, 2), (48, .aload_n 0, 1), (49, .getfield 7, 3), (52, .bipush 9, 2), (54, .iaload, 1), (55, .iastore, 1), (56, .iload_n 3, 1), (57, .ifCond .ge 39, 3), (60, .bipush 9, 2), (62, .aload_n 0, 1), (63, .getfield 7, 3), (66, .iload_n 2, 1), (67, .iconst 1, 1), (68, .iadd, 1), (69, .iaload, 1), (70, .isub, 1), (71, .iconst 3, 1), (72, .idiv, 1), (73, .aload_n 0, 1), (74, .getfield 7, 3), (77, .iload_n 2, 1), (78, .iconst 2, 1), (79, .iadd, 1), (80, .iaload, 1), (81, .bipush 25, 2), (83, .idiv, 1), (84, .iadd, 1), (85, .aload_n 0, 1), (86, .getfield 7, 3), (89, .bipush 9, 2), (91, .iaload, 1), (92, .iadd, 1), (93, .goto 8, 3), (96, .aload_n 0, 1), (97, .iload_n 3, 1), (98, .invokevirtual 127, 3), (101, .iconst 3, 1), (102, .invokestatic 130, 3), (105, .ireturn, 1)]
def mm_X11_lateOf : mu_M := (11, yX11_lateOf, cX11_lateOf, 4, (some .int), 1, mc_X11_lateOf)
def mc_X11_told : List (Nat × Instr × Nat) := [(0, .aload_n 0, 1), (1, .iload_n 1, 1), (2, .invokevirtual 133, 3), (5, .ifCond .eq 15, 3), (8, .iload_n 2, 1), (9, .i2l, 1), (10, .lconst 0, 1), (11, .ldc2_w 101, 3), (14, .invokestatic 89, 3), (17, .ifCond .ne 6, 3), (20, .ldc 119, 2), (22, .ireturn, 1), (23, .iload_n 2, 1), (24, .iconst 4, 1), (25, .if_icmp .ne 11, 3), (28, .aload_n 0, 1), (29, .iload_n 1, 1), (30, .invokevirtual 136, 3), (33, .goto 38, 3), (36, .iload_n 2, 1), (37, .iconst 3, 1), (38, .if_icmp .ne 21, 3), (41, .aload_n 0, 1), (42, .getfield 7, 3), (45, .aload_n 0, 1), (46, .iload_n 1, 1), (47, .invokevirtual 121, 3), (50, .iload_n 2, 1), (51, .iadd, 1), (52, .iaload, 1), (53, .invokestatic 139, 3), (56, .goto 15, 3), (59, .aload_n 0, 1), (60, .getfield 7, 3), (63, .aload_n 0, 1), (64, .iload_n 1, 1), (65, .invokevirtual 121, 3), (68, .iload_n 2, 1), (69, .iadd, 1), (70, .iaload, 1), (71, .ireturn, 1)]
def mm_X11_told : mu_M := (11, yX11_told, cX11_told, 3, (some .int), 2, mc_X11_told)
def mc_X11_set : List (Nat × Instr × Nat) := [(0, .iload_n 2, 1), (1, .iconst 1, 1), (2, .if_icmp .ne 15, 3), (5, .iload_n 3, 1), (6, .i2l, 1), (7, .lconst 0, 1), (8, .ldc2_w 117, 3), (11, .invokestatic 89, 3), (14, .goto 25, 3), (17, .iload_n 2, 1), (18, .iconst 2, 1), (19, .if_icmp .ne 19, 3), (22, .iload_n 3, 1), (23, .i2l, 1), (24, .lconst 0, 1), (25, .ldc2_w 142, 3), (28, .invokestatic 89, 3), (31, .ifCond .eq 7, 3), (34, .iconst 1, 1), (35, .goto 4, 3), (38, .iconst 0, 1), (39, .istore 4, 2), (41, .aload_n 0, 1), (42, .iload_n 1, 1), (43, .invokevirtual 133, 3), (46, .ifCond .eq 23, 3), (49, .iload 4, 2), (51, .ifCond .eq 18, 3), (54, .aload_n 0, 1), (55, .aload_n 0, 1), (56, .iload_n 1, 1), (57, .invokevirtual 121, 3), (60, .iload_n 2, 1), (61, .iadd, 1), (62, .iload_n 3, 1), (63, .invokevirtual 144, 3), (66, .goto 5, 3), (69, .ldc 119, 2), (71, .ireturn, 1)]
def mm_X11_set : mu_M := (11, yX11_set, cX11_set, 5, (some .int), 3, mc_X11_set)
def mc_X11_meet : List (Nat × Instr × Nat) := [(0, .iload_n 0, 1), (1, .iload_n 2, 1), (2, .iload_n 3, 1), (3, .iadd, 1), (4, .if_icmp .ge 14, 3), (7, .iload_n 2, 1), (8, .iload_n 0, 1), (9, .iload_n 1, 1), (10, .iadd, 1), (11, .if_icmp .ge 7, 3), (14, .iconst 1, 1), (15, .goto 4, 3), (18, .iconst 0, 1), (19, .ireturn, 1)]
def mm_X11_meet : mu_M := (11, yX11_meet, cX11_meet, 4, (some .boolean), 4, mc_X11_meet)
def mc_X11_move : List (Nat × Instr × Nat) := [(0, .iload_n 3, 1), (1, .i2l, 1), (2, .lconst 0, 1), (3, .ldc2_w 147, 3), (6, .invokestatic 89, 3), (9, .ifCond .eq 31, 3), (12, .iload_n 3, 1), (13, .bipush 10, 2), (15, .irem, 1), (16, .i2l, 1), (17, .lconst 1, 1), (18, .ldc2_w 101, 3), (21, .invokestatic 89, 3), (24, .ifCond .eq 16, 3), (27, .iload_n 3, 1), (28, .bipush 10, 2), (30, .idiv, 1), (31, .bipush 90, 2), (33, .if_icmp .gt 7, 3), (36, .iconst 1, 1), (37, .goto 4, 3), (40, .iconst 0, 1), (41, .istore 6, 2), (43, .aload_n 0, 1), (44, .iload_n 1, 1), (45, .invokevirtual 133, 3), (48, .ifCond .eq 54, 3), (51, .iload_n 2, 1), (52, .i2l, 1), (53, .lconst 0, 1), (54, .ldc2_w 149, 3), (57, .invokestatic 89, 3), (60, .ifCond .eq 42, 3), (63, .iload 6, 2), (65, .ifCond .eq 37, 3), (68, .iload 4, 2), (70, .invokestatic 114, 3), (73, .ifCond .eq 29, 3), (76, .iload 5, 2), (78, .ifCond .lt 24, 3), (81, .aload_n 0, 1), (82, .iload 5, 2), (84, .bipush 10, 2), (86, .idiv, 1), (87, .invokevirtual 133, 3), (90, .ifCond .eq 12, 3), (93, .iload 5, 2), (95, .bipush 10, 2), (97, .idiv, 1), (98, .iload_n 1, 1), (99, .if_icmp .ne 6, 3), (102, .ldc 119, 2), (104, .ireturn, 1), (105, .aload_n 0, 1), (106, .getfield 7, 3), (109, .iconst 1, 1), (110, .iaload, 1), (111, .bipush 20, 2), (113, .if_icmp .ne 6, 3), (116, .ldc 120, 2), (118, .ireturn, 1), (119, .iconst 0, 1), (120, .istore 7, 2), (122, .iload 7, 2), (124, .aload_n 0, 1), (125, .getfield 7, 3), (128, .iconst 1, 1), (129, .iaload, 1), (130, .if_icmp .ge 51, 3), (133, .aload_n 0, 1), (134, .iload 7, 2), (136, .iconst 0, 1), (137, .invokevirtual 103, 3), (140, .iload_n 1, 1), (141, .if_icmp .ne 34, 3), (144, .aload_n 0, 1), (145, .iload 7, 2), (147, .iconst 2, 1), (148, .invokevirtual 103, 3), (151, .aload_n 0, 1), (152, .iload 7, 2), (154, .iconst 3, 1), (155, .invokevirtual 103, 3), (158, .iload_n 3, 1), (159, .bipush 10, 2), (161, .idiv, 1), (162, .iload_n 3, 1), (163, .bipush 10, 2), (165, .irem, 1), (166, .invokestatic 151, 3), (169, .ifCond .eq 6, 3), (172, .ldc 155, 2), (174, .ireturn, 1), (175, .iinc 7 1, 3), (178, .goto (-56), 3), (181, .aload_n 0, 1), (182, .aload_n 0, 1), (183, .getfield 7, 3), (186, .iconst 1, 1), (187, .iaload, 1), (188, .invokevirtual 95, 3), (191, .istore 7, 2), (193, .aload_n 0, 1), (194, .getfield 7, 3), (197, .iload 7, 2), (199, .iload_n 1, 1), (200, .iastore, 1), (201, .aload_n 0, 1), (202, .getfield 7, 3), (205, .iload 7, 2), (207, .iconst 1, 1), (208, .iadd, 1), (209, .iload_n 2, 1), (210, .iastore, 1), (211, .aload_n 0, 1), (212, .getfield 7, 3), (215, .iload 7, 2), (217, .iconst 2, 1), (218, .iadd, 1), (219, .iload_n 3, 1), (220, .bipush 10, 2), (222, .idiv, 1), (223, .iastore, 1), (224, .aload_n 0, 1), (225, .getfield 7, 3), (228, .iload 7, 2), (230, .iconst 3, 1), (231, .iadd, 1), (232, .iload_n 3, 1), (233, .bipush 10, 2), (235, .irem, 1), (236, .iastore, 1), (237, .aload_n 0, 1), (238, .getfield 7, 3), (241, .iload 7, 2), (243, .iconst 4, 1), (244, .iadd, 1), (245, .iload 4, 2), (247, .iastore, 1), (248, .aload_n 0, 1), (249, .getfield 7, 3), (252, .iload 7, 2), (254, .iconst 5, 1), (255, .iadd, 1), (256, .iload 5, 2), (258, .bipush 10, 2), (260, .idiv, 1), (261, .iastore, 1), (262, .aload_n 0, 1), (263, .getfield 7, 3), (266, .iload 7, 2), (268, .bipush 6, 2), (270, .iadd, 1), (271, .iload 5, 2), (273, .bipush 10, 2), (275, .irem, 1), (276, .iastore, 1), (277, .aload_n 0, 1), (278, .getfield 7, 3), (281, .iload 7, 2), (283, .bipush 7, 2), (285, .iadd, 1), (286, .iconst 0, 1), (287, .iastore, 1), (288, .aload_n 0, 1), (289, .getfield 7, 3), (292, .iconst 1, 1), (293, .dup2, 1), (294, .iaload, 1), (295, .iconst 1, 1), (296, .iadd, 1), (297, .iastore, 1), (298, .aload_n 0, 1), (299, .invokevirtual 86, 3), (302, .aload_n 0, 1), (303, .getfield 7, 3), (306, .iconst 1, 1), (307, .iaload, 1), (308, .iconst 1, 1), (309, .isub, 1), (310, .ireturn, 1)]
def mm_X11_move : mu_M := (11, yX11_move, cX11_move, 8, (some .int), 5, mc_X11_move)
def mc_X11_isBarred : List (Nat × Instr × Nat) := [(0, .aload_n 0, 1), (1, .iconst 1, 1), (2, .invokevirtual 124, 3), (5, .istore_n 2, 1), (6, .aload_n 0, 1), (7, .getfield 64, 3), (10, .bipush 107, 2), (12, .aload_n 0, 1), (13, .iload_n 1, 1), (14, .iconst 1, 1), (15, .invokevirtual 103, 3), (18, .iastore, 1), (19, .aload_n 0, 1), (20, .getfield 64, 3), (23, .bipush 115, 2), (25, .aload_n 0, 1), (26, .getfield 7, 3), (29, .aload_n 0, 1), (30, .aload_n 0, 1), (31, .iload_n 1, 1), (32, .iconst 0, 1), (33, .invokevirtual 103, 3), (36, .invokevirtual 121, 3), (39, .iconst 1, 1), (40, .iadd, 1), (41, .iaload, 1), (42, .iastore, 1), (43, .aload_n 0, 1), (44, .getfield 64, 3), (47, .bipush 98, 2), (49, .aload_n 0, 1), (50, .iload_n 1, 1), (51, .iconst 2, 1), (52, .invokevirtual 103, 3), (55, .iastore, 1), (56, .aload_n 0, 1), (57, .getfield 64, 3), (60, .bipush 97, 2), (62, .aload_n 0, 1), (63, .getfield 7, 3), (66, .aload_n 0, 1), (67, .aload_n 0, 1), (68, .iload_n 1, 1), (69, .iconst 5, 1), (70, .invokevirtual 103, 3), (73, .invokevirtual 121, 3), (76, .iconst 1, 1), (77, .iadd, 1), (78, .iaload, 1), (79, .iastore, 1), (80, .iload_n 2, 1), (81, .ifCond .lt 15, 3), (84, .aload_n 0, 1), (85, .iload_n 2, 1), (86, .invokevirtual 127, 3), (89, .ifCond .eq 7, 3), (92, .iconst 1, 1), (93, .goto 4, 3), (96, .iconst 0, 1), (97, .ireturn, 1)]
def mm_X11_isBarred : mu_M := (11, yX11_isBarred, cX11_isBarred, 3, (some .boolean), 1, mc_X11_isBarred)
def mc_X11_of : List (Nat × Instr × Nat) := [(0, .aload_n 0, 1), (1, .iload_n 1, 1), (2, .invokevirtual 156, 3), (5, .ifCond .ne 6, 3), (8, .ldc 119, 2), (10, .ireturn, 1), (11, .aload_n 0, 1), (12, .iload_n 1, 1), (13, .iconst 1, 1), (14, .invokevirtual 103, 3), (17, .istore_n 3, 1), (18, .iload_n 2, 1), (19, .tableswitch 114 0 12 #[65, 65, 65, 65, 65, 65, 65, 65, 72, 79, 86, 93, 100], 65), (84, .aload_n 0, 1), (85, .iload_n 1, 1), (86, .iload_n 2, 1), (87, .invokevirtual 103, 3), (90, .ireturn, 1), (91, .aload_n 0, 1), (92, .getfield 40, 3), (95, .iload_n 3, 1), (96, .iaload, 1), (97, .ireturn, 1), (98, .aload_n 0, 1), (99, .getfield 43, 3), (102, .iload_n 3, 1), (103, .iaload, 1), (104, .ireturn, 1), (105, .aload_n 0, 1), (106, .getfield 46, 3), (109, .iload_n 3, 1), (110, .iaload, 1), (111, .ireturn, 1), (112, .aload_n 0, 1), (113, .getfield 49, 3), (116, .iload_n 3, 1), (117, .iaload, 1), (118, .ireturn, 1), (119, .aload_n 0, 1), (120, .iload_n 1, 1), (121, .invokevirtual 159, 3), (124, .ifCond .eq 7, 3), (127, .iconst 1, 1), (128, .goto 4, 3), (131, .iconst 0, 1), (132, .ireturn, 1), (133, .ldc 119, 2), (135, .ireturn, 1)]
def mm_X11_of : mu_M := (11, yX11_of, cX11_of, 4, (some .int), 2, mc_X11_of)
def mc_X11_isOf : List (Nat × Instr × Nat) := [(0, .iload_n 1, 1), (1, .ifCond .eq 20, 3), (4, .iload_n 0, 1), (5, .iload_n 1, 1), (6, .if_icmp .eq 15, 3), (9, .iload_n 1, 1), (10, .iconst 2, 1), (11, .if_icmp .ne 14, 3), (14, .iload_n 0, 1), (15, .invokestatic 107, 3), (18, .ifCond .eq 7, 3), (21, .iconst 1, 1), (22, .goto 4, 3), (25, .iconst 0, 1), (26, .ireturn, 1)]
def mm_X11_isOf : mu_M := (11, yX11_isOf, cX11_isOf, 2, (some .boolean), 2, mc_X11_isOf)
def mc_X11_as : List (Nat × Instr × Nat) := [(0, .aload_n 0, 1), (1, .iload_n 1, 1), (2, .invokevirtual 156, 3), (5, .ifCond .eq 15, 3), (8, .iload_n 2, 1), (9, .i2l, 1), (10, .lconst 0, 1), (11, .ldc2_w 149, 3), (14, .invokestatic 89, 3), (17, .ifCond .ne 6, 3), (20, .ldc 119, 2), (22, .ireturn, 1), (23, .aload_n 0, 1), (24, .iload_n 1, 1), (25, .iconst 1, 1), (26, .invokevirtual 103, 3), (29, .iload_n 2, 1), (30, .invokestatic 162, 3), (33, .ifCond .eq 13, 3), (36, .aload_n 0, 1), (37, .iload_n 1, 1), (38, .bipush 6, 2), (40, .invokevirtual 103, 3), (43, .goto 5, 3), (46, .ldc 166, 2), (48, .ireturn, 1)]
def mm_X11_as : mu_M := (11, yX11_as, cX11_as, 3, (some .int), 2, mc_X11_as)
def mc_X11_cut : List (Nat × Instr × Nat) := [(0, .aload_n 0, 1), (1, .iload_n 1, 1), (2, .invokevirtual 156, 3), (5, .ifCond .ne 6, 3), (8, .ldc 119, 2), (10, .ireturn, 1), (11, .iload_n 2, 1), (12, .ifCond .eq 7, 3), (15, .iconst 1, 1), (16, .goto 4, 3), (19, .iconst 0, 1), (20, .istore_n 3, 1), (21, .aload_n 0, 1), (22, .aload_n 0, 1), (23, .iload_n 1, 1), (24, .invokevirtual 95, 3), (27, .bipush 7, 2), (29, .iadd, 1), (30, .iload_n 3, 1), (31, .invokevirtual 144, 3), (34, .iload_n 3, 1), (35, .if_icmp .ne 7, 3), (38, .iconst 0, 1), (39, .goto 4, 3), (42, .iconst 1, 1), (43, .ireturn, 1)]
def mm_X11_cut : mu_M := (11, yX11_cut, cX11_cut, 4, (some .int), 2, mc_X11_cut)
def mc_X11_wet : List (Nat × Instr × Nat) := [(0, .iload_n 1, 1), (1, .i2l, 1), (2, .lconst 0, 1), (3, .lconst 1, 1), (4, .invokestatic 89, 3), (7, .ifCond .eq 13, 3), (10, .aload_n 0, 1), (11, .bipush 9, 2), (13, .iload_n 1, 1), (14, .invokevirtual 144, 3), (17, .goto 5, 3), (20, .ldc 119, 2), (22, .ireturn, 1)]
def mm_X11_wet : mu_M := (11, yX11_wet, cX11_wet, 2, (some .int), 1, mc_X11_wet)
def mc_X11_findOrder : List (Nat × Instr × Nat) := [(0, .iconst 0, 1), (1, .istore_n 1, 1), (2, .iload_n 1, 1), (3, .aload_n 0, 1), (4, .getfield 7, 3), (7, .iconst 1, 1), (8, .iaload, 1), (9, .if_icmp .ge 64, 3), (12, .iload_n 1, 1), (13, .istore_n 2, 1), (14, .iload_n 2, 1), (15, .ifCond .le 45, 3), (18, .aload_n 0, 1), (19, .aload_n 0, 1), (20, .getfield 55, 3), (23, .iload_n 2, 1), (24, .iconst 1, 1), (25, .isub, 1), (26, .iaload, 1), (27, .iconst 2, 1), (28, .invokevirtual 103, 3), (31, .aload_n 0, 1), (32, .iload_n 1, 1), (33, .iconst 2, 1), (34, .invokevirtual 103, 3), (37, .if_icmp .le 23, 3), (40, .aload_n 0, 1), (41, .getfield 55, 3), (44, .iload_n 2, 1), (45, .aload_n 0, 1), (46, .getfield 55, 3), (49, .iload_n 2, 1), (50, .iconst 1, 1), (51, .isub, 1), (52, .iaload, 1), (53, .iastore, 1), (54, .iinc 2 (-1), 3), (57, .goto (-43), 3), (60, .aload_n 0, 1), (61, .getfield 55, 3), (64, .iload_n 2, 1), (65, .iload_n 1, 1), (66, .iastore, 1), (67, .iinc 1 1, 3), (70, .goto (-68), 3), (73, .return_, 1)]
def mm_X11_findOrder : mu_M := (11, yX11_findOrder, cX11_findOrder, 3, none, 0, mc_X11_findOrder)
def mc_X11_between : List (Nat × Instr × Nat) := [(0, .iload_n 0, 1), (1, .bipush 10, 2), (3, .idiv, 1), (4, .iload_n 1, 1), (5, .bipush 10, 2), (7, .idiv, 1), (8, .iload_n 0, 1), (9, .bipush 10, 2), (11, .idiv, 1), (12, .isub, 1), (13, .iload_n 2, 1), (14, .imul, 1), (15, .iload_n 3, 1), (16, .idiv, 1), (17, .iadd, 1), (18, .istore 4, 2), (20, .iload_n 0, 1), (21, .bipush 10, 2), (23, .irem, 1), (24, .iload_n 1, 1), (25, .bipush 10, 2), (27, .irem, 1), (28, .iload_n 0, 1), (29, .bipush 10, 2), (31, .irem, 1), (32, .isub, 1), (33, .iload_n 2, 1), (34, .imul, 1), (35, .iload_n 3, 1), (36, .idiv, 1), (37, .iadd, 1), (38, .istore 5, 2), (40, .bipush 10, 2), (42, .iload 4, 2), (44, .imul, 1), (45, .iload 5, 2), (47, .iadd, 1), (48, .ireturn, 1)]
def mm_X11_between : mu_M := (11, yX11_between, cX11_between, 6, (some .int), 4, mc_X11_between)
def mc_X11_stale : List (Nat × Instr × Nat) := [(0, .aload_n 0, 1), (1, .iconst 0, 1), (2, .putfield 167, 3), (5, .aload_n 0, 1), (6, .iconst 0, 1), (7, .putfield 171, 3), (10, .return_, 1)]
def mm_X11_stale : mu_M := (11, yX11_stale, cX11_stale, 1, none, 0, mc_X11_stale)
def mc_X11_findPlaces : List (Nat × Instr × Nat) := [(0, .aload_n 0, 1), (1, .getfield 167, 3), (4, .ifCond .eq 4, 3), (7, .return_, 1), (8, .aload_n 0, 1), (9, .iconst 1, 1), (10, .putfield 167, 3), (13, .aload_n 0, 1), (14, .invokevirtual 174, 3), (17, .iconst 0, 1), (18, .istore_n 1, 1), (19, .iload_n 1, 1), (20, .aload_n 0, 1), (21, .getfield 7, 3), (24, .iconst 0, 1), (25, .iaload, 1), (26, .if_icmp .ge 239, 3), (29, .aload_n 0, 1), (30, .getfield 7, 3), (33, .aload_n 0, 1), (34, .iload_n 1, 1), (35, .invokevirtual 121, 3), (38, .iaload, 1), (39, .istore_n 2, 1), (40, .iconst 0, 1), (41, .istore_n 3, 1), (42, .iconst 0, 1), (43, .istore 4, 2), (45, .iload 4, 2), (47, .aload_n 0, 1), (48, .getfield 7, 3), (51, .iconst 1, 1), (52, .iaload, 1), (53, .if_icmp .ge 182, 3), (56, .aload_n 0, 1), (57, .getfield 55, 3), (60, .iload 4, 2), (62, .iaload, 1), (63, .istore 5, 2), (65, .aload_n 0, 1), (66, .iload 5, 2), (68, .iconst 1, 1), (69, .invokevirtual 103, 3), (72, .istore 6, 2), (74, .aload_n 0, 1), (75, .iload 5, 2), (77, .iconst 0, 1), (78, .invokevirtual 103, 3), (81, .iload_n 1, 1), (82, .if_icmp .ne 30, 3), (85, .iload 6, 2), (87, .iconst 1, 1), (88, .if_icmp .eq 9, 3), (91, .iload 6, 2), (93, .iconst 5, 1), (94, .if_icmp .ne 18, 3), (97, .aload_n 0, 1), (98, .iload 5, 2), (100, .bipush 7, 2), (102, .invokevirtual 103, 3), (105, .ifCond .ne 7, 3), (108, .iconst 1, 1), (109, .goto 4, 3), (112, .iconst 0, 1), (113, .istore 7, 2), (115, .iload 7, 2), (117, .ifCond .eq 35, 3), (120, .iload_n 3, 1), (121, .aload_n 0, 1), (122, .iload 5, 2), (124, .iconst 2, 1), (125, .invokevirtual 103, 3), (128, .bipush 10, 2), (130, .iadd, 1), (131, .if_icmp .ge 21, 3), (134, .aload_n 0, 1), (135, .getfield 52, 3), (138, .bipush 121, 2), (140, .iload_n 1, 1), (141, .imul, 1), (142, .iload_n 3, 1), (143, .iadd, 1), (144, .iload_n 2, 1), (145, .iastore, 1), (146, .iinc 3 1, 3), (149, .goto (-34), 3), (152, .iconst 1, 1), (153, .istore 8, 2), (155, .iload 7, 2), (157, .ifCond .eq 55, 3), (160, .iload 8, 2), (162, .aload_n 0, 1), (163, .iload 5, 2), (165, .iconst 3, 1), (166, .invokevirtual 103, 3), (169, .if_icmp .gt 43, 3), (172, .aload_n 0, 1), (173, .getfield 52, 3), (176, .bipush 121, 2), (178, .iload_n 1, 1), (179, .imul, 1), (180, .iload_n 3, 1), (181, .iadd, 1), (182, .iload_n 2, 1), (183, .aload_n 0, 1), (184, .iload 5, 2), (186, .iconst 4, 1), (187, .invokevirtual 103, 3), (190, .iload 8, 2), (192, .aload_n 0, 1), (193, .iload 5, 2), (195, .iconst 3, 1), (196, .invokevirtual 103, 3), (199, .invokestatic 177, 3), (202, .iastore, 1), (203, .iinc 3 1, 3), (206, .iinc 8 1, 3), (209, .goto (-54), 3), (212, .iload 7, 2), (214, .ifCond .eq 13, 3), (217, .aload_n 0, 1), (218, .iload 5, 2), (220, .iconst 4, 1), (221, .invokevirtual 103, 3), (224, .goto 4, 3), (227, .iload_n 2, 1), (228, .istore_n 2, 1), (229, .iinc 4 1, 3), (232, .goto (-187), 3), (235, .iload_n 3, 1), (236, .bipush 121, 2), (238, .if_icmp .ge 21, 3), (241, .aload_n 0, 1), (242, .getfield 52, 3), (245, .bipush 121, 2), (247, .iload_n 1, 1), (248, .imul, 1), (249, .iload_n 3, 1), (250, .iadd, 1), (251, .iload_n 2, 1), (252, .iastore, 1), (253, .iinc 3 1, 3), (256, .goto (-21), 3), (259, .iinc 1 1, 3), (262, .goto (-243), 3), (265, .return_, 1)]
def mm_X11_findPlaces : mu_M := (11, yX11_findPlaces, cX11_findPlaces, 9, none, 0, mc_X11_findPlaces)
def mc_X11_placeOf : List (Nat × Instr × Nat) := [(0, .aload_n 0, 1), (1, .getfield 52, 3), (4, .bipush 121, 2), (6, .iload_n 1, 1), (7, .imul, 1), (8, .iload_n 2, 1), (9, .iadd, 1), (10, .bipush 10, 2), (12, .iadd, 1), (13, .iaload, 1), (14, .ireturn, 1)]
def mm_X11_placeOf : mu_M := (11, yX11_placeOf, cX11_placeOf, 3, (some .int), 2, mc_X11_placeOf)
def mc_X11_where : List (Nat × Instr × Nat) := [(0, .aload_n 0, 1), (1, .iload_n 1, 1), (2, .invokevirtual 133, 3), (5, .ifCond .eq 17, 3), (8, .iload_n 2, 1), (9, .i2l, 1), (10, .ldc2_w 181, 3), (13, .ldc2_w 142, 3), (16, .invokestatic 89, 3), (19, .ifCond .ne 6, 3), (22, .ldc 119, 2), (24, .ireturn, 1), (25, .aload_n 0, 1), (26, .invokevirtual 183, 3), (29, .aload_n 0, 1), (30, .iload_n 1, 1), (31, .iload_n 2, 1), (32, .invokevirtual 186, 3), (35, .ireturn, 1)]
def mm_X11_where : mu_M := (11, yX11_where, cX11_where, 3, (some .int), 2, mc_X11_where)
def mc_X11_distance : List (Nat × Instr × Nat) := [(0, .iload_n 0, 1), (1, .bipush 10, 2), (3, .idiv, 1), (4, .iload_n 1, 1), (5, .bipush 10, 2), (7, .idiv, 1), (8, .isub, 1), (9, .istore_n 2, 1), (10, .iload_n 0, 1), (11, .bipush 10, 2), (13, .irem, 1), (14, .iload_n 1, 1), (15, .bipush 10, 2), (17, .irem, 1), (18, .isub, 1), (19, .istore_n 3, 1), (20, .iload_n 2, 1), (21, .ifCond .ge 8, 3), (24, .iload_n 2, 1), (25, .ineg, 1), (26, .goto 4, 3), (29, .iload_n 2, 1), (30, .istore_n 2, 1), (31, .iload_n 3, 1), (32, .ifCond .ge 8, 3), (35, .iload_n 3, 1), (36, .ineg, 1), (37, .goto 4, 3), (40, .iload_n 3, 1), (41, .istore_n 3, 1), (42, .iload_n 2, 1), (43, .iload_n 3, 1), (44, .if_icmp .le 7, 3), (47, .iload_n 2, 1), (48, .goto 4, 3), (51, .iload_n 3, 1), (52, .ireturn, 1)]
def mm_X11_distance : mu_M := (11, yX11_distance, cX11_distance, 4, (some .int), 2, mc_X11_distance)
def mc_X11_near : List (Nat × Instr × Nat) := [(0, .sipush 1000, 3), (3, .istore 4, 2), (5, .aload_n 0, 1), (6, .iload_n 1, 1), (7, .iconst 2, 1), (8, .invokevirtual 103, 3), (11, .istore 5, 2), (13, .iload 5, 2), (15, .aload_n 0, 1), (16, .iload_n 1, 1), (17, .iconst 2, 1), (18, .invokevirtual 103, 3), (21, .aload_n 0, 1), (22, .iload_n 1, 1), (23, .iconst 3, 1), (24, .invokevirtual 103, 3), (27, .iadd, 1), (28, .if_icmp .ge 40, 3), (31, .iload 4, 2), (33, .aload_n 0, 1), (34, .aload_n 0, 1), (35, .iload_n 1, 1), (36, .iconst 0, 1), (37, .invokevirtual 103, 3), (40, .iload 5, 2), (42, .invokevirtual 186, 3), (45, .aload_n 0, 1), (46, .iload_n 2, 1), (47, .iload 5, 2), (49, .iload_n 3, 1), (50, .iadd, 1), (51, .invokevirtual 186, 3), (54, .invokestatic 189, 3), (57, .invokestatic 192, 3), (60, .istore 4, 2), (62, .iinc 5 1, 3), (65, .goto (-52), 3), (68, .iload 4, 2), (70, .aload_n 0, 1), (71, .getfield 40, 3), (74, .aload_n 0, 1), (75, .iload_n 1, 1), (76, .iconst 1, 1), (77, .invokevirtual 103, 3), (80, .iaload, 1), (81, .isub, 1), (82, .ireturn, 1)]
def mm_X11_near : mu_M := (11, yX11_near, cX11_near, 6, (some .int), 3, mc_X11_near)
def mc_X11_findLates : List (Nat × Instr × Nat) := [(0, .iconst 0, 1), (1, .istore_n 1, 1), (2, .iload_n 1, 1), (3, .aload_n 0, 1), (4, .getfield 7, 3), (7, .iconst 0, 1), (8, .iaload, 1), (9, .if_icmp .ge 20, 3), (12, .aload_n 0, 1), (13, .getfield 58, 3), (16, .iload_n 1, 1), (17, .aload_n 0, 1), (18, .iload_n 1, 1), (19, .invokevirtual 136, 3), (22, .iastore, 1), (23, .iinc 1 1, 3), (26, .goto (-24), 3), (29, .return_, 1)]
def mm_X11_findLates : mu_M := (11, yX11_findLates, cX11_findLates, 2, none, 0, mc_X11_findLates)
def mc_X11_gapOf : List (Nat × Instr × Nat) := [(0, .sipush 1000, 3), (3, .istore_n 3, 1), (4, .aload_n 0, 1), (5, .getfield 58, 3), (8, .iload_n 2, 1), (9, .iaload, 1), (10, .ineg, 1), (11, .istore 4, 2), (13, .iload 4, 2), (15, .aload_n 0, 1), (16, .getfield 58, 3), (19, .aload_n 0, 1), (20, .iload_n 1, 1), (21, .iconst 0, 1), (22, .invokevirtual 103, 3), (25, .iaload, 1), (26, .if_icmp .gt 22, 3), (29, .iload_n 3, 1), (30, .aload_n 0, 1), (31, .iload_n 1, 1), (32, .iload_n 2, 1), (33, .iload 4, 2), (35, .invokevirtual 195, 3), (38, .invokestatic 192, 3), (41, .istore_n 3, 1), (42, .iinc 4 1, 3), (45, .goto (-32), 3), (48, .iload_n 3, 1), (49, .ireturn, 1)]
def mm_X11_gapOf : mu_M := (11, yX11_gapOf, cX11_gapOf, 5, (some .int), 2, mc_X11_gapOf)
def mc_X11_wanted : List (Nat × Instr × Nat) := [(0, .iload_n 2, 1), (1, .aload_n 0, 1), (2, .iload_n 1, 1), (3, .iconst 5, 1), (4, .invokevirtual 103, 3), (7, .if_icmp .ne 15, 3), (10, .aload_n 0, 1), (11, .iload_n 1, 1), (12, .bipush 6, 2), (14, .invokevirtual 103, 3), (17, .iconst 2, 1), (18, .idiv, 1), (19, .goto 10, 3), (22, .aload_n 0, 1), (23, .iload_n 1, 1), (24, .bipush 6, 2), (26, .invokevirtual 103, 3), (29, .ireturn, 1)]
def mm_X11_wanted : mu_M := (11, yX11_wanted, cX11_wanted, 3, (some .int), 2, mc_X11_wanted)
def mc_X11_broken : List (Nat × Instr × Nat) := [(0, .iconst 0, 1), (1, .istore_n 2, 1), (2, .iload_n 2, 1), (3, .aload_n 0, 1), (4, .getfield 7, 3), (7, .iconst 0, 1), (8, .iaload, 1), (9, .if_icmp .ge 36, 3), (12, .iload_n 2, 1), (13, .aload_n 0, 1), (14, .iload_n 1, 1), (15, .iconst 0, 1), (16, .invokevirtual 103, 3), (19, .if_icmp .eq 20, 3), (22, .aload_n 0, 1), (23, .iload_n 1, 1), (24, .iload_n 2, 1), (25, .invokevirtual 199, 3), (28, .aload_n 0, 1), (29, .iload_n 1, 1), (30, .iload_n 2, 1), (31, .invokevirtual 202, 3), (34, .if_icmp .ge 5, 3), (37, .iload_n 2, 1), (38, .ireturn, 1), (39, .iinc 2 1, 3), (42, .goto (-40), 3), (45, .iconst (-1), 1), (46, .ireturn, 1)]
def mm_X11_broken : mu_M := (11, yX11_broken, cX11_broken, 3, (some .int), 1, mc_X11_broken)
def mc_X11_gap : List (Nat × Instr × Nat) := [(0, .aload_n 0, 1), (1, .iload_n 1, 1), (2, .invokevirtual 156, 3), (5, .ifCond .eq 11, 3), (8, .aload_n 0, 1), (9, .iload_n 2, 1), (10, .invokevirtual 133, 3), (13, .ifCond .ne 6, 3), (16, .ldc 119, 2), (18, .ireturn, 1), (19, .aload_n 0, 1), (20, .iload_n 1, 1), (21, .invokevirtual 111, 3), (24, .ifCond .ne 6, 3), (27, .ldc 166, 2), (29, .ireturn, 1), (30, .iload_n 2, 1), (31, .aload_n 0, 1), (32, .iload_n 1, 1), (33, .iconst 0, 1), (34, .invokevirtual 103, 3), (37, .if_icmp .ne 6, 3), (40, .ldc 155, 2), (42, .ireturn, 1), (43, .aload_n 0, 1), (44, .invokevirtual 183, 3), (47, .aload_n 0, 1), (48, .invokevirtual 205, 3), (51, .aload_n 0, 1), (52, .iload_n 1, 1), (53, .iload_n 2, 1), (54, .invokevirtual 199, 3), (57, .ireturn, 1)]
def mm_X11_gap : mu_M := (11, yX11_gap, cX11_gap, 3, (some .int), 2, mc_X11_gap)
def mc_X11_keeps : List (Nat × Instr × Nat) := [(0, .aload_n 0, 1), (1, .iload_n 1, 1), (2, .invokevirtual 156, 3), (5, .ifCond .ne 6, 3), (8, .ldc 119, 2), (10, .ireturn, 1), (11, .aload_n 0, 1), (12, .iload_n 1, 1), (13, .invokevirtual 111, 3), (16, .ifCond .ne 6, 3), (19, .ldc 166, 2), (21, .ireturn, 1), (22, .aload_n 0, 1), (23, .invokevirtual 183, 3), (26, .aload_n 0, 1), (27, .invokevirtual 205, 3), (30, .aload_n 0, 1), (31, .iload_n 1, 1), (32, .invokevirtual 208, 3), (35, .ifCond .ge 7, 3), (38, .iconst 1, 1), (39, .goto 4, 3), (42, .iconst 0, 1), (43, .ireturn, 1)]
def mm_X11_keeps : mu_M := (11, yX11_keeps, cX11_keeps, 2, (some .int), 1, mc_X11_keeps)
def mc_X11_firstBreach : List (Nat × Instr × Nat) := [(0, .aload_n 0, 1), (1, .invokevirtual 183, 3), (4, .aload_n 0, 1), (5, .invokevirtual 205, 3), (8, .iconst 0, 1), (9, .istore_n 1, 1), (10, .iload_n 1, 1), (11, .aload_n 0, 1), (12, .getfield 7, 3), (15, .iconst 1, 1), (16, .iaload, 1), (17, .if_icmp .ge 27, 3), (20, .aload_n 0, 1), (21, .iload_n 1, 1), (22, .invokevirtual 211, 3), (25, .ifCond .eq 13, 3), (28, .aload_n 0, 1), (29, .iload_n 1, 1), (30, .invokevirtual 208, 3), (33, .ifCond .lt 5, 3), (36, .iload_n 1, 1), (37, .ireturn, 1), (38, .iinc 1 1, 3), (41, .goto (-31), 3), (44, .iconst (-1), 1), (45, .ireturn, 1)]
def mm_X11_firstBreach : mu_M := (11, yX11_firstBreach, cX11_firstBreach, 2, (some .int), 0, mc_X11_firstBreach)
def mc_X11_breach : List (Nat × Instr × Nat) := [(0, .iload_n 1, 1), (1, .i2l, 1), (2, .lconst 0, 1), (3, .lconst 1, 1), (4, .invokestatic 89, 3), (7, .ifCond .ne 6, 3), (10, .ldc 119, 2), (12, .ireturn, 1), (13, .aload_n 0, 1), (14, .invokevirtual 214, 3), (17, .istore_n 2, 1), (18, .iload_n 2, 1), (19, .ifCond .ge 8, 3), (22, .ldc 85, 2), (24, .goto 16, 3), (27, .iload_n 1, 1), (28, .ifCond .ne 7, 3), (31, .iload_n 2, 1), (32, .goto 8, 3), (35, .aload_n 0, 1), (36, .iload_n 2, 1), (37, .invokevirtual 208, 3), (40, .ireturn, 1)]
def mm_X11_breach : mu_M := (11, yX11_breach, cX11_breach, 3, (some .int), 1, mc_X11_breach)
def mc_X11_sign : List (Nat × Instr × Nat) := [(0, .aload_n 0, 1), (1, .iload_n 1, 1), (2, .invokevirtual 133, 3), (5, .ifCond .eq 15, 3), (8, .iload_n 2, 1), (9, .i2l, 1), (10, .lconst 0, 1), (11, .ldc2_w 142, 3), (14, .invokestatic 89, 3), (17, .ifCond .ne 6, 3), (20, .ldc 119, 2), (22, .ireturn, 1), (23, .aload_n 0, 1), (24, .getfield 7, 3), (27, .iconst 2, 1), (28, .iaload, 1), (29, .bipush 20, 2), (31, .if_icmp .ne 6, 3), (34, .ldc 120, 2), (36, .ireturn, 1), (37, .aload_n 0, 1), (38, .getfield 7, 3), (41, .sipush 220, 3), (44, .iconst 2, 1), (45, .aload_n 0, 1), (46, .getfield 7, 3), (49, .iconst 2, 1), (50, .iaload, 1), (51, .imul, 1), (52, .iadd, 1), (53, .iload_n 1, 1), (54, .iastore, 1), (55, .aload_n 0, 1), (56, .getfield 7, 3), (59, .sipush 220, 3), (62, .iconst 2, 1), (63, .aload_n 0, 1), (64, .getfield 7, 3), (67, .iconst 2, 1), (68, .iaload, 1), (69, .imul, 1), (70, .iadd, 1), (71, .iconst 1, 1), (72, .iadd, 1), (73, .iload_n 2, 1), (74, .iastore, 1), (75, .aload_n 0, 1), (76, .getfield 7, 3), (79, .iconst 2, 1), (80, .dup2, 1), (81, .iaload, 1), (82, .iconst 1, 1), (83, .iadd, 1), (84, .iastore, 1), (85, .aload_n 0, 1), (86, .getfield 7, 3), (89, .iconst 2, 1), (90, .iaload, 1), (91, .ireturn, 1)]
def mm_X11_sign : mu_M := (11, yX11_sign, cX11_sign, 3, (some .int), 2, mc_X11_sign)
def mc_X11_isUnready : List (Nat × Instr × Nat) := [(0, .iconst 1, 1), (1, .istore_n 2, 1), (2, .iconst 0, 1), (3, .istore_n 3, 1), (4, .iload_n 3, 1), (5, .aload_n 0, 1), (6, .getfield 7, 3), (9, .iconst 2, 1), (10, .iaload, 1), (11, .if_icmp .ge 76, 3), (14, .aload_n 0, 1), (15, .iload_n 1, 1), (16, .iconst 2, 1), (17, .invokevirtual 103, 3), (20, .aload_n 0, 1), (21, .getfield 7, 3), (24, .sipush 220, 3), (27, .iconst 2, 1), (28, .iload_n 3, 1), (29, .imul, 1), (30, .iadd, 1), (31, .iconst 1, 1), (32, .iadd, 1), (33, .iaload, 1), (34, .isub, 1), (35, .istore 4, 2), (37, .iload_n 2, 1), (38, .ifCond .eq 41, 3), (41, .aload_n 0, 1), (42, .getfield 7, 3), (45, .sipush 220, 3), (48, .iconst 2, 1), (49, .iload_n 3, 1), (50, .imul, 1), (51, .iadd, 1), (52, .iaload, 1), (53, .aload_n 0, 1), (54, .iload_n 1, 1), (55, .iconst 5, 1), (56, .invokevirtual 103, 3), (59, .if_icmp .ne 16, 3), (62, .iload 4, 2), (64, .i2l, 1), (65, .lconst 1, 1), (66, .ldc2_w 218, 3), (69, .invokestatic 89, 3), (72, .ifCond .ne 7, 3), (75, .iconst 1, 1), (76, .goto 4, 3), (79, .iconst 0, 1), (80, .istore_n 2, 1), (81, .iinc 3 1, 3), (84, .goto (-80), 3), (87, .iload_n 2, 1), (88, .ireturn, 1)]
def mm_X11_isUnready : mu_M := (11, yX11_isUnready, cX11_isUnready, 5, (some .boolean), 1, mc_X11_isUnready)
def mc_X11_unready : List (Nat × Instr × Nat) := [(0, .iload_n 1, 1), (1, .iconst (-1), 1), (2, .if_icmp .eq 43, 3), (5, .aload_n 0, 1), (6, .iload_n 1, 1), (7, .invokevirtual 156, 3), (10, .ifCond .ne 8, 3), (13, .ldc 119, 2), (15, .goto 29, 3), (18, .aload_n 0, 1), (19, .iload_n 1, 1), (20, .invokevirtual 111, 3), (23, .ifCond .ne 8, 3), (26, .ldc 166, 2), (28, .goto 16, 3), (31, .aload_n 0, 1), (32, .iload_n 1, 1), (33, .invokevirtual 220, 3), (36, .ifCond .eq 7, 3), (39, .iconst 1, 1), (40, .goto 4, 3), (43, .iconst 0, 1), (44, .ireturn, 1), (45, .iconst 0, 1), (46, .istore_n 2, 1), (47, .iconst 0, 1), (48, .istore_n 3, 1), (49, .iload_n 3, 1), (50, .aload_n 0, 1), (51, .getfield 7, 3), (54, .iconst 1, 1), (55, .iaload, 1), (56, .if_icmp .ge 33, 3), (59, .iload_n 2, 1), (60, .aload_n 0, 1), (61, .iload_n 3, 1), (62, .invokevirtual 211, 3), (65, .ifCond .eq 15, 3), (68, .aload_n 0, 1), (69, .iload_n 3, 1), (70, .invokevirtual 220, 3), (73, .ifCond .eq 7, 3), (76, .iconst 1, 1), (77, .goto 4, 3), (80, .iconst 0, 1), (81, .iadd, 1), (82, .istore_n 2, 1), (83, .iinc 3 1, 3), (86, .goto (-37), 3), (89, .iload_n 2, 1), (90, .ireturn, 1)]
def mm_X11_unready : mu_M := (11, yX11_unready, cX11_unready, 4, (some .int), 1, mc_X11_unready)
def mc_X11_isSeen : List (Nat × Instr × Nat) := [(0, .aload_n 0, 1), (1, .aload_n 0, 1), (2, .iload_n 1, 1), (3, .iconst 0, 1), (4, .invokevirtual 103, 3), (7, .aload_n 0, 1), (8, .iload_n 1, 1), (9, .iconst 2, 1), (10, .invokevirtual 103, 3), (13, .invokevirtual 186, 3), (16, .istore_n 2, 1), (17, .iconst 1, 1), (18, .istore_n 3, 1), (19, .iconst 0, 1), (20, .istore 4, 2), (22, .iload 4, 2), (24, .aload_n 0, 1), (25, .getfield 7, 3), (28, .iconst 0, 1), (29, .iaload, 1), (30, .if_icmp .ge 91, 3), (33, .aload_n 0, 1), (34, .iload 4, 2), (36, .aload_n 0, 1), (37, .iload_n 1, 1), (38, .iconst 2, 1), (39, .invokevirtual 103, 3), (42, .invokevirtual 186, 3), (45, .istore 5, 2), (47, .iload 4, 2), (49, .aload_n 0, 1), (50, .iload_n 1, 1), (51, .iconst 0, 1), (52, .invokevirtual 103, 3), (55, .if_icmp .eq 42, 3), (58, .iload 4, 2), (60, .aload_n 0, 1), (61, .iload_n 1, 1), (62, .iconst 5, 1), (63, .invokevirtual 103, 3), (66, .if_icmp .eq 31, 3), (69, .iload 5, 2), (71, .bipush 10, 2), (73, .idiv, 1), (74, .iload_n 2, 1), (75, .bipush 10, 2), (77, .idiv, 1), (78, .if_icmp .ne 19, 3), (81, .iload 5, 2), (83, .bipush 10, 2), (85, .irem, 1), (86, .iload_n 2, 1), (87, .bipush 10, 2), (89, .irem, 1), (90, .if_icmp .le 7, 3), (93, .iconst 1, 1), (94, .goto 4, 3), (97, .iconst 0, 1), (98, .istore 6, 2), (100, .iload_n 3, 1), (101, .ifCond .eq 12, 3), (104, .iload 6, 2), (106, .ifCond .ne 7, 3), (109, .iconst 1, 1), (110, .goto 4, 3), (113, .iconst 0, 1), (114, .istore_n 3, 1), (115, .iinc 4 1, 3), (118, .goto (-96), 3), (121, .iload_n 3, 1), (122, .ireturn, 1)]
def mm_X11_isSeen : mu_M := (11, yX11_isSeen, cX11_isSeen, 7, (some .boolean), 1, mc_X11_isSeen)
def mc_X11_seen : List (Nat × Instr × Nat) := [(0, .aload_n 0, 1), (1, .iload_n 1, 1), (2, .invokevirtual 156, 3), (5, .ifCond .ne 6, 3), (8, .ldc 119, 2), (10, .ireturn, 1), (11, .aload_n 0, 1), (12, .iload_n 1, 1), (13, .invokevirtual 111, 3), (16, .ifCond .ne 6, 3), (19, .ldc 166, 2), (21, .ireturn, 1), (22, .aload_n 0, 1), (23, .invokevirtual 183, 3), (26, .aload_n 0, 1), (27, .iload_n 1, 1), (28, .invokevirtual 223, 3), (31, .ifCond .eq 7, 3), (34, .iconst 1, 1), (35, .goto 4, 3), (38, .iconst 0, 1), (39, .ireturn, 1)]
def mm_X11_seen : mu_M := (11, yX11_seen, cX11_seen, 2, (some .int), 1, mc_X11_seen)
def mc_X11_story : List (Nat × Instr × Nat) := [(0, .aload_n 0, 1), (1, .invokevirtual 183, 3), (4, .iconst 0, 1), (5, .istore_n 1, 1), (6, .iconst 0, 1), (7, .istore_n 2, 1), (8, .iload_n 2, 1), (9, .aload_n 0, 1), (10, .getfield 7, 3), (13, .iconst 1, 1), (14, .iaload, 1), (15, .if_icmp .ge 63, 3), (18, .aload_n 0, 1), (19, .iload_n 2, 1), (20, .bipush 7, 2), (22, .invokevirtual 103, 3), (25, .ifCond .ne 23, 3), (28, .aload_n 0, 1), (29, .iload_n 2, 1), (30, .invokevirtual 111, 3), (33, .ifCond .eq 11, 3), (36, .aload_n 0, 1), (37, .iload_n 2, 1), (38, .invokevirtual 223, 3), (41, .ifCond .eq 7, 3), (44, .iconst 1, 1), (45, .goto 4, 3), (48, .iconst 0, 1), (49, .istore_n 3, 1), (50, .iload_n 1, 1), (51, .iload_n 3, 1), (52, .ifCond .eq 17, 3), (55, .aload_n 0, 1), (56, .getfield 43, 3), (59, .aload_n 0, 1), (60, .iload_n 2, 1), (61, .iconst 1, 1), (62, .invokevirtual 103, 3), (65, .iaload, 1), (66, .goto 4, 3), (69, .iconst 0, 1), (70, .iadd, 1), (71, .istore_n 1, 1), (72, .iinc 2 1, 3), (75, .goto (-67), 3), (78, .iload_n 1, 1), (79, .ireturn, 1)]
def mm_X11_story : mu_M := (11, yX11_story, cX11_story, 4, (some .int), 0, mc_X11_story)
def mc_X11_feed : List (Nat × Instr × Nat) := [(0, .aload_n 0, 1), (1, .getfield 226, 3), (4, .bipush 12, 2), (6, .iadd, 1), (7, .bipush 96, 2), (9, .if_icmp .le 6, 3), (12, .ldc 120, 2), (14, .ireturn, 1), (15, .iconst 0, 1), (16, .istore 4, 2), (18, .iload 4, 2), (20, .bipush 12, 2), (22, .if_icmp .ge 69, 3), (25, .iload 4, 2), (27, .iconst 4, 1), (28, .if_icmp .ge 7, 3), (31, .iload_n 1, 1), (32, .goto 15, 3), (35, .iload 4, 2), (37, .bipush 8, 2), (39, .if_icmp .ge 7, 3), (42, .iload_n 2, 1), (43, .goto 4, 3), (46, .iload_n 3, 1), (47, .istore 5, 2), (49, .aload_n 0, 1), (50, .getfield 61, 3), (53, .aload_n 0, 1), (54, .getfield 226, 3), (57, .iload 5, 2), (59, .bipush 24, 2), (61, .bipush 8, 2), (63, .iload 4, 2), (65, .iconst 4, 1), (66, .irem, 1), (67, .imul, 1), (68, .isub, 1), (69, .ishr, 1), (70, .sipush 255, 3), (73, .iand, 1), (74, .iastore, 1), (75, .aload_n 0, 1), (76, .dup, 1), (77, .getfield 226, 3), (80, .iconst 1, 1), (81, .iadd, 1), (82, .putfield 226, 3), (85, .iinc 4 1, 3), (88, .goto (-70), 3), (91, .aload_n 0, 1), (92, .getfield 226, 3), (95, .ireturn, 1)]
def mm_X11_feed : mu_M := (11, yX11_feed, cX11_feed, 6, (some .int), 3, mc_X11_feed)
def mc_X11_trim : List (Nat × Instr × Nat) := [(0, .iload_n 1, 1), (1, .i2l, 1), (2, .lconst 0, 1), (3, .aload_n 0, 1), (4, .getfield 226, 3), (7, .i2l, 1), (8, .invokestatic 89, 3), (11, .ifCond .ne 6, 3), (14, .ldc 119, 2), (16, .ireturn, 1), (17, .aload_n 0, 1), (18, .iload_n 1, 1), (19, .putfield 226, 3), (22, .iload_n 1, 1), (23, .ireturn, 1)]
def mm_X11_trim : mu_M := (11, yX11_trim, cX11_trim, 2, (some .int), 1, mc_X11_trim)
def mc_X11_isLetter : List (Nat × Instr × Nat) := [(0, .iload_n 1, 1), (1, .aload_n 0, 1), (2, .getfield 226, 3), (5, .if_icmp .ge 26, 3), (8, .aload_n 0, 1), (9, .getfield 61, 3), (12, .iload_n 1, 1), (13, .iaload, 1), (14, .i2l, 1), (15, .ldc2_w 230, 3), (18, .ldc2_w 232, 3), (21, .invokestatic 89, 3), (24, .ifCond .eq 7, 3), (27, .iconst 1, 1), (28, .goto 4, 3), (31, .iconst 0, 1), (32, .ireturn, 1)]
def mm_X11_isLetter : mu_M := (11, yX11_isLetter, cX11_isLetter, 2, (some .boolean), 1, mc_X11_isLetter)
def mc_X11_isDigit : List (Nat × Instr × Nat) := [(0, .iload_n 1, 1), (1, .aload_n 0, 1), (2, .getfield 226, 3), (5, .if_icmp .ge 26, 3), (8, .aload_n 0, 1), (9, .getfield 61, 3), (12, .iload_n 1, 1), (13, .iaload, 1), (14, .i2l, 1), (15, .ldc2_w 234, 3), (18, .ldc2_w 236, 3), (21, .invokestatic 89, 3), (24, .ifCond .eq 7, 3), (27, .iconst 1, 1), (28, .goto 4, 3), (31, .iconst 0, 1), (32, .ireturn, 1)]
def mm_X11_isDigit : mu_M := (11, yX11_isDigit, cX11_isDigit, 2, (some .boolean), 1, mc_X11_isDigit)
def mc_X11_next : List (Nat × Instr × Nat) := [(0, .aload_n 0, 1), (1, .getfield 238, 3), (4, .ifCond .le 23, 3), (7, .aload_n 0, 1), (8, .getfield 241, 3), (11, .iconst 1, 1), (12, .if_icmp .eq 11, 3), (15, .aload_n 0, 1), (16, .getfield 241, 3), (19, .iconst 2, 1), (20, .if_icmp .ne 7, 3), (23, .iconst 1, 1), (24, .goto 4, 3), (27, .iconst 0, 1), (28, .istore_n 1, 1), (29, .aload_n 0, 1), (30, .getfield 238, 3), (33, .istore_n 2, 1), (34, .aload_n 0, 1), (35, .getfield 238, 3), (38, .aload_n 0, 1), (39, .getfield 226, 3), (42, .if_icmp .ge 30, 3), (45, .aload_n 0, 1), (46, .getfield 61, 3), (49, .aload_n 0, 1), (50, .getfield 238, 3), (53, .iaload, 1), (54, .bipush 32, 2), (56, .if_icmp .ne 16, 3), (59, .aload_n 0, 1), (60, .dup, 1), (61, .getfield 238, 3), (64, .iconst 1, 1), (65, .iadd, 1), (66, .putfield 238, 3), (69, .goto (-35), 3), (72, .iload_n 1, 1), (73, .ifCond .eq 15, 3), (76, .iload_n 2, 1), (77, .aload_n 0, 1), (78, .getfield 238, 3), (81, .if_icmp .ne 7, 3), (84, .iconst 1, 1), (85, .goto 4, 3), (88, .iconst 0, 1), (89, .istore_n 1, 1), (90, .aload_n 0, 1), (91, .aload_n 0, 1), (92, .getfield 238, 3), (95, .putfield 244, 3), (98, .aload_n 0, 1), (99, .getfield 244, 3), (102, .aload_n 0, 1), (103, .getfield 226, 3), (106, .if_icmp .ne 11, 3), (109, .aload_n 0, 1), (110, .iconst 0, 1), (111, .putfield 241, 3), (114, .goto 225, 3), (117, .aload_n 0, 1), (118, .aload_n 0, 1), (119, .getfield 244, 3), (122, .invokevirtual 247, 3), (125, .ifCond .eq 73, 3), (128, .aload_n 0, 1), (129, .aload_n 0, 1), (130, .getfield 238, 3), (133, .invokevirtual 247, 3), (136, .ifCond .eq 16, 3), (139, .aload_n 0, 1), (140, .dup, 1), (141, .getfield 238, 3), (144, .iconst 1, 1), (145, .iadd, 1), (146, .putfield 238, 3), (149, .goto (-21), 3), (152, .aload_n 0, 1), (153, .iload_n 1, 1), (154, .ifCond .eq 7, 3), (157, .iconst 4, 1), (158, .goto 4, 3), (161, .iconst 1, 1), (162, .putfield 241, 3), (165, .aload_n 0, 1), (166, .aload_n 0, 1), (167, .getfield 238, 3), (170, .aload_n 0, 1), (171, .getfield 244, 3), (174, .isub, 1), (175, .iconst 1, 1), (176, .if_icmp .ne 15, 3), (179, .aload_n 0, 1), (180, .getfield 61, 3), (183, .aload_n 0, 1), (184, .getfield 244, 3), (187, .iaload, 1), (188, .goto 4, 3), (191, .iconst 0, 1), (192, .putfield 250, 3), (195, .goto 144, 3), (198, .aload_n 0, 1), (199, .aload_n 0, 1), (200, .getfield 244, 3), (203, .invokevirtual 253, 3), (206, .ifCond .eq 105, 3), (209, .aload_n 0, 1), (210, .iconst 0, 1), (211, .putfield 256, 3), (214, .aload_n 0, 1), (215, .aload_n 0, 1), (216, .getfield 238, 3), (219, .invokevirtual 253, 3), (222, .ifCond .eq 60, 3), (225, .aload_n 0, 1), (226, .aload_n 0, 1), (227, .getfield 238, 3), (230, .aload_n 0, 1), (231, .getfield 244, 3), (234, .isub, 1), (235, .iconst 4, 1), (236, .if_icmp .ge 26, 3), (239, .bipush 10, 2), (241, .aload_n 0, 1), (242, .getfield 256, 3), (245, .imul, 1), (246, .aload_n 0, 1), (247, .getfield 61, 3), (250, .aload_n 0, 1), (251, .getfield 238, 3), (254, .iaload, 1), (255, .iadd, 1), (256, .bipush 48, 2), (258, .isub, 1), (259, .goto 7, 3), (262, .aload_n 0, 1), (263, .getfield 256, 3), (266, .putfield 256, 3), (269, .aload_n 0, 1), (270, .dup, 1), (271, .getfield 238, 3), (274, .iconst 1, 1), (275, .iadd, 1), (276, .putfield 238, 3), (279, .goto (-65), 3), (282, .aload_n 0, 1), (283, .iload_n 1, 1), (284, .ifCond .ne 16, 3), (287, .aload_n 0, 1), (288, .getfield 238, 3), (291, .aload_n 0, 1), (292, .getfield 244, 3), (295, .isub, 1), (296, .iconst 4, 1), (297, .if_icmp .le 7, 3), (300, .iconst 4, 1), (301, .goto 4, 3), (304, .iconst 2, 1), (305, .putfield 241, 3), (308, .goto 31, 3), (311, .aload_n 0, 1), (312, .iconst 3, 1), (313, .putfield 241, 3), (316, .aload_n 0, 1), (317, .aload_n 0, 1), (318, .getfield 61, 3), (321, .aload_n 0, 1), (322, .getfield 244, 3), (325, .iaload, 1), (326, .putfield 250, 3), (329, .aload_n 0, 1), (330, .dup, 1), (331, .getfield 238, 3), (334, .iconst 1, 1), (335, .iadd, 1), (336, .putfield 238, 3), (339, .return_, 1)]
def mm_X11_next : mu_M := (11, yX11_next, cX11_next, 3, none, 0, mc_X11_next)
def mc_X11_isSign : List (Nat × Instr × Nat) := [(0, .aload_n 0, 1), (1, .getfield 241, 3), (4, .iconst 3, 1), (5, .if_icmp .ne 15, 3), (8, .aload_n 0, 1), (9, .getfield 250, 3), (12, .iload_n 1, 1), (13, .if_icmp .ne 7, 3), (16, .iconst 1, 1), (17, .goto 4, 3), (20, .iconst 0, 1), (21, .ireturn, 1)]
def mm_X11_isSign : mu_M := (11, yX11_isSign, cX11_isSign, 2, (some .boolean), 1, mc_X11_isSign)
def mc_X11_isWordAt : List (Nat × Instr × Nat) := [(0, .iload 4, 2), (2, .ifCond .ne 7, 3), (5, .iconst 3, 1), (6, .goto 4, 3), (9, .iconst 4, 1), (10, .istore 5, 2), (12, .aload_n 0, 1), (13, .getfield 241, 3), (16, .iconst 1, 1), (17, .if_icmp .ne 85, 3), (20, .aload_n 0, 1), (21, .getfield 238, 3), (24, .aload_n 0, 1), (25, .getfield 244, 3), (28, .isub, 1), (29, .iload 5, 2), (31, .if_icmp .ne 71, 3), (34, .aload_n 0, 1), (35, .getfield 61, 3), (38, .aload_n 0, 1), (39, .getfield 244, 3), (42, .iaload, 1), (43, .iload_n 1, 1), (44, .if_icmp .ne 58, 3), (47, .aload_n 0, 1), (48, .getfield 61, 3), (51, .aload_n 0, 1), (52, .getfield 244, 3), (55, .iconst 1, 1), (56, .iadd, 1), (57, .iaload, 1), (58, .iload_n 2, 1), (59, .if_icmp .ne 43, 3), (62, .aload_n 0, 1), (63, .getfield 61, 3), (66, .aload_n 0, 1), (67, .getfield 244, 3), (70, .iconst 2, 1), (71, .iadd, 1), (72, .iaload, 1), (73, .iload_n 3, 1), (74, .if_icmp .ne 28, 3), (77, .iload 4, 2), (79, .ifCond .eq 19, 3), (82, .aload_n 0, 1), (83, .getfield 61, 3), (86, .aload_n 0, 1), (87, .getfield 244, 3), (90, .iconst 3, 1), (91, .iadd, 1), (92, .iaload, 1), (93, .iload 4, 2), (95, .if_icmp .ne 7, 3), (98, .iconst 1, 1), (99, .goto 4, 3), (102, .iconst 0, 1), (103, .ireturn, 1)]
def mm_X11_isWordAt : mu_M := (11, yX11_isWordAt, cX11_isWordAt, 6, (some .boolean), 4, mc_X11_isWordAt)
def mc_X11_isLong : List (Nat × Instr × Nat) := [(0, .iload 6, 2), (2, .ifCond .ne 7, 3), (5, .iconst 5, 1), (6, .goto 5, 3), (9, .bipush 6, 2), (11, .istore 7, 2), (13, .aload_n 0, 1), (14, .getfield 241, 3), (17, .iconst 1, 1), (18, .if_icmp .ne 117, 3), (21, .aload_n 0, 1), (22, .getfield 238, 3), (25, .aload_n 0, 1), (26, .getfield 244, 3), (29, .isub, 1), (30, .iload 7, 2), (32, .if_icmp .ne 103, 3), (35, .aload_n 0, 1), (36, .getfield 61, 3), (39, .aload_n 0, 1), (40, .getfield 244, 3), (43, .iaload, 1), (44, .iload_n 1, 1), (45, .if_icmp .ne 90, 3), (48, .aload_n 0, 1), (49, .getfield 61, 3), (52, .aload_n 0, 1), (53, .getfield 244, 3), (56, .iconst 1, 1), (57, .iadd, 1), (58, .iaload, 1), (59, .iload_n 2, 1), (60, .if_icmp .ne 75, 3), (63, .aload_n 0, 1), (64, .getfield 61, 3), (67, .aload_n 0, 1), (68, .getfield 244, 3), (71, .iconst 2, 1), (72, .iadd, 1), (73, .iaload, 1), (74, .iload_n 3, 1), (75, .if_icmp .ne 60, 3), (78, .aload_n 0, 1), (79, .getfield 61, 3), (82, .aload_n 0, 1), (83, .getfield 244, 3), (86, .iconst 3, 1), (87, .iadd, 1), (88, .iaload, 1), (89, .iload 4, 2), (91, .if_icmp .ne 44, 3), (94, .aload_n 0, 1), (95, .getfield 61, 3), (98, .aload_n 0, 1), (99, .getfield 244, 3), (102, .iconst 4, 1), (103, .iadd, 1), (104, .iaload, 1), (105, .iload 5, 2), (107, .if_icmp .ne 28, 3), (110, .iload 6, 2), (112, .ifCond .eq 19, 3), (115, .aload_n 0, 1), (116, .getfield 61, 3), (119, .aload_n 0, 1), (120, .getfield 244, 3), (123, .iconst 5, 1), (124, .iadd, 1), (125, .iaload, 1), (126, .iload 6, 2), (128, .if_icmp .ne 7, 3), (131, .iconst 1, 1), (132, .goto 4, 3), (135, .iconst 0, 1), (136, .ireturn, 1)]
def mm_X11_isLong : mu_M := (11, yX11_isLong, cX11_isLong, 8, (some .boolean), 6, mc_X11_isLong)
def mc_X11_key : List (Nat × Instr × Nat) := [(0, .aload_n 0, 1), (1, .bipush 108, 2), (3, .bipush 97, 2), (5, .bipush 116, 2), (7, .bipush 101, 2), (9, .invokevirtual 259, 3), (12, .ifCond .eq 7, 3), (15, .iconst 0, 1), (16, .goto 44, 3), (19, .aload_n 0, 1), (20, .bipush 98, 2), (22, .bipush 97, 2), (24, .bipush 114, 2), (26, .iconst 0, 1), (27, .invokevirtual 259, 3), (30, .ifCond .eq 7, 3), (33, .iconst 1, 1), (34, .goto 26, 3), (37, .aload_n 0, 1), (38, .bipush 104, 2), (40, .bipush 111, 2), (42, .bipush 117, 2), (44, .bipush 114, 2), (46, .bipush 115, 2), (48, .iconst 0, 1), (49, .invokevirtual 262, 3), (52, .ifCond .eq 7, 3), (55, .iconst 2, 1), (56, .goto 4, 3), (59, .iconst (-1), 1), (60, .ireturn, 1)]
def mm_X11_key : mu_M := (11, yX11_key, cX11_key, 1, (some .int), 0, mc_X11_key)
def mc_X11_isName : List (Nat × Instr × Nat) := [(0, .iload_n 0, 1), (1, .lookupswitch 81 #[(0, 27), (1, 51)], 27), (28, .iload_n 1, 1), (29, .bipush 115, 2), (31, .if_icmp .eq 15, 3), (34, .iload_n 1, 1), (35, .bipush 116, 2), (37, .if_icmp .eq 9, 3), (40, .iload_n 1, 1), (41, .bipush 119, 2), (43, .if_icmp .ne 7, 3), (46, .iconst 1, 1), (47, .goto 4, 3), (50, .iconst 0, 1), (51, .ireturn, 1), (52, .iload_n 1, 1), (53, .bipush 107, 2), (55, .if_icmp .eq 21, 3), (58, .iload_n 1, 1), (59, .bipush 115, 2), (61, .if_icmp .eq 15, 3), (64, .iload_n 1, 1), (65, .bipush 98, 2), (67, .if_icmp .eq 9, 3), (70, .iload_n 1, 1), (71, .bipush 97, 2), (73, .if_icmp .ne 7, 3), (76, .iconst 1, 1), (77, .goto 4, 3), (80, .iconst 0, 1), (81, .ireturn, 1), (82, .iload_n 1, 1), (83, .bipush 110, 2), (85, .if_icmp .eq 9, 3), (88, .iload_n 1, 1), (89, .bipush 115, 2), (91, .if_icmp .ne 7, 3), (94, .iconst 1, 1), (95, .goto 4, 3), (98, .iconst 0, 1), (99, .ireturn, 1)]
def mm_X11_isName : mu_M := (11, yX11_isName, cX11_isName, 2, (some .boolean), 2, mc_X11_isName)
def mc_X11_step : List (Nat × Instr × Nat) := [(0, .aload_n 0, 1), (1, .getfield 7, 3), (4, .aload_n 0, 1), (5, .getfield 266, 3), (8, .iconst 2, 1), (9, .aload_n 0, 1), (10, .getfield 269, 3), (13, .imul, 1), (14, .iadd, 1), (15, .iload_n 1, 1), (16, .iastore, 1), (17, .aload_n 0, 1), (18, .getfield 7, 3), (21, .aload_n 0, 1), (22, .getfield 266, 3), (25, .iconst 2, 1), (26, .aload_n 0, 1), (27, .getfield 269, 3), (30, .imul, 1), (31, .iadd, 1), (32, .iconst 1, 1), (33, .iadd, 1), (34, .iload_n 2, 1), (35, .iastore, 1), (36, .aload_n 0, 1), (37, .dup, 1), (38, .getfield 269, 3), (41, .iconst 1, 1), (42, .iadd, 1), (43, .putfield 269, 3), (46, .return_, 1)]
def mm_X11_step : mu_M := (11, yX11_step, cX11_step, 3, none, 2, mc_X11_step)
def mc_X11_either : List (Nat × Instr × Nat) := [(0, .aload_n 0, 1), (1, .iload_n 1, 1), (2, .invokevirtual 272, 3), (5, .ifCond .ne 5, 3), (8, .iconst 0, 1), (9, .ireturn, 1), (10, .aload_n 0, 1), (11, .bipush 124, 2), (13, .invokevirtual 275, 3), (16, .ifCond .eq 27, 3), (19, .aload_n 0, 1), (20, .invokevirtual 278, 3), (23, .aload_n 0, 1), (24, .iload_n 1, 1), (25, .invokevirtual 272, 3), (28, .ifCond .ne 5, 3), (31, .iconst 0, 1), (32, .ireturn, 1), (33, .aload_n 0, 1), (34, .iconst 2, 1), (35, .bipush 124, 2), (37, .invokevirtual 281, 3), (40, .goto (-30), 3), (43, .iconst 1, 1), (44, .ireturn, 1)]
def mm_X11_either : mu_M := (11, yX11_either, cX11_either, 2, (some .boolean), 1, mc_X11_either)
def mc_X11_both : List (Nat × Instr × Nat) := [(0, .aload_n 0, 1), (1, .iload_n 1, 1), (2, .invokevirtual 285, 3), (5, .ifCond .ne 5, 3), (8, .iconst 0, 1), (9, .ireturn, 1), (10, .aload_n 0, 1), (11, .bipush 38, 2), (13, .invokevirtual 275, 3), (16, .ifCond .eq 27, 3), (19, .aload_n 0, 1), (20, .invokevirtual 278, 3), (23, .aload_n 0, 1), (24, .iload_n 1, 1), (25, .invokevirtual 285, 3), (28, .ifCond .ne 5, 3), (31, .iconst 0, 1), (32, .ireturn, 1), (33, .aload_n 0, 1), (34, .iconst 2, 1), (35, .bipush 38, 2), (37, .invokevirtual 281, 3), (40, .goto (-30), 3), (43, .iconst 1, 1), (44, .ireturn, 1)]
def mm_X11_both : mu_M := (11, yX11_both, cX11_both, 2, (some .boolean), 1, mc_X11_both)
def mc_X11_test : List (Nat × Instr × Nat) := [(0, .aload_n 0, 1), (1, .iload_n 1, 1), (2, .invokevirtual 288, 3), (5, .ifCond .ne 5, 3), (8, .iconst 0, 1), (9, .ireturn, 1), (10, .aload_n 0, 1), (11, .bipush 60, 2), (13, .invokevirtual 275, 3), (16, .ifCond .ne 21, 3), (19, .aload_n 0, 1), (20, .bipush 61, 2), (22, .invokevirtual 275, 3), (25, .ifCond .ne 12, 3), (28, .aload_n 0, 1), (29, .bipush 62, 2), (31, .invokevirtual 275, 3), (34, .ifCond .eq 28, 3), (37, .aload_n 0, 1), (38, .getfield 250, 3), (41, .istore_n 2, 1), (42, .aload_n 0, 1), (43, .invokevirtual 278, 3), (46, .aload_n 0, 1), (47, .iload_n 1, 1), (48, .invokevirtual 288, 3), (51, .ifCond .ne 5, 3), (54, .iconst 0, 1), (55, .ireturn, 1), (56, .aload_n 0, 1), (57, .iconst 2, 1), (58, .iload_n 2, 1), (59, .invokevirtual 281, 3), (62, .iconst 1, 1), (63, .ireturn, 1)]
def mm_X11_test : mu_M := (11, yX11_test, cX11_test, 3, (some .boolean), 1, mc_X11_test)
def mc_X11_sum : List (Nat × Instr × Nat) := [(0, .aload_n 0, 1), (1, .iload_n 1, 1), (2, .invokevirtual 291, 3), (5, .ifCond .ne 5, 3), (8, .iconst 0, 1), (9, .ireturn, 1), (10, .aload_n 0, 1), (11, .bipush 43, 2), (13, .invokevirtual 275, 3), (16, .ifCond .ne 12, 3), (19, .aload_n 0, 1), (20, .bipush 45, 2), (22, .invokevirtual 275, 3), (25, .ifCond .eq 31, 3), (28, .aload_n 0, 1), (29, .getfield 250, 3), (32, .istore_n 2, 1), (33, .aload_n 0, 1), (34, .invokevirtual 278, 3), (37, .aload_n 0, 1), (38, .iload_n 1, 1), (39, .invokevirtual 291, 3), (42, .ifCond .ne 5, 3), (45, .iconst 0, 1), (46, .ireturn, 1), (47, .aload_n 0, 1), (48, .iconst 2, 1), (49, .iload_n 2, 1), (50, .invokevirtual 281, 3), (53, .goto (-43), 3), (56, .iconst 1, 1), (57, .ireturn, 1)]
def mm_X11_sum : mu_M := (11, yX11_sum, cX11_sum, 3, (some .boolean), 1, mc_X11_sum)
def mc_X11_term : List (Nat × Instr × Nat) := [(0, .aload_n 0, 1), (1, .iload_n 1, 1), (2, .invokevirtual 294, 3), (5, .ifCond .ne 5, 3), (8, .iconst 0, 1), (9, .ireturn, 1), (10, .aload_n 0, 1), (11, .bipush 42, 2), (13, .invokevirtual 275, 3), (16, .ifCond .ne 12, 3), (19, .aload_n 0, 1), (20, .bipush 47, 2), (22, .invokevirtual 275, 3), (25, .ifCond .eq 31, 3), (28, .aload_n 0, 1), (29, .getfield 250, 3), (32, .istore_n 2, 1), (33, .aload_n 0, 1), (34, .invokevirtual 278, 3), (37, .aload_n 0, 1), (38, .iload_n 1, 1), (39, .invokevirtual 294, 3), (42, .ifCond .ne 5, 3), (45, .iconst 0, 1), (46, .ireturn, 1), (47, .aload_n 0, 1), (48, .iconst 2, 1), (49, .iload_n 2, 1), (50, .invokevirtual 281, 3), (53, .goto (-43), 3), (56, .iconst 1, 1), (57, .ireturn, 1)]
def mm_X11_term : mu_M := (11, yX11_term, cX11_term, 3, (some .boolean), 1, mc_X11_term)
def mc_X11_part0 : List (Nat × Instr × Nat) := [(0, .aload_n 0, 1), (1, .getfield 241, 3), (4, .iconst 2, 1), (5, .if_icmp .ne 28, 3), (8, .aload_n 0, 1), (9, .iconst 0, 1), (10, .aload_n 0, 1), (11, .getfield 256, 3), (14, .invokevirtual 281, 3), (17, .aload_n 0, 1), (18, .dup, 1), (19, .getfield 297, 3), (22, .iconst 1, 1), (23, .iadd, 1), (24, .putfield 297, 3), (27, .aload_n 0, 1), (28, .invokevirtual 278, 3), (31, .iconst 1, 1), (32, .ireturn, 1), (33, .aload_n 0, 1), (34, .getfield 241, 3), (37, .iconst 1, 1), (38, .if_icmp .ne 46, 3), (41, .aload_n 0, 1), (42, .getfield 250, 3), (45, .ifCond .eq 39, 3), (48, .iload_n 1, 1), (49, .aload_n 0, 1), (50, .getfield 250, 3), (53, .invokestatic 300, 3), (56, .ifCond .eq 28, 3), (59, .aload_n 0, 1), (60, .iconst 1, 1), (61, .aload_n 0, 1), (62, .getfield 250, 3), (65, .invokevirtual 281, 3), (68, .aload_n 0, 1), (69, .dup, 1), (70, .getfield 297, 3), (73, .iconst 1, 1), (74, .iadd, 1), (75, .putfield 297, 3), (78, .aload_n 0, 1), (79, .invokevirtual 278, 3), (82, .iconst 1, 1), (83, .ireturn, 1), (84, .aload_n 0, 1), (85, .bipush 33, 2), (87, .invokevirtual 275, 3), (90, .ifCond .eq 55, 3), (93, .aload_n 0, 1), (94, .getfield 303, 3), (97, .bipush 8, 2), (99, .if_icmp .ge 46, 3), (102, .aload_n 0, 1), (103, .dup, 1), (104, .getfield 303, 3), (107, .iconst 1, 1), (108, .iadd, 1), (109, .putfield 303, 3), (112, .aload_n 0, 1), (113, .invokevirtual 278, 3), (116, .aload_n 0, 1), (117, .iload_n 1, 1), (118, .invokevirtual 294, 3), (121, .ifCond .ne 5, 3), (124, .iconst 0, 1), (125, .ireturn, 1), (126, .aload_n 0, 1), (127, .dup, 1), (128, .getfield 303, 3), (131, .iconst 1, 1), (132, .isub, 1), (133, .putfield 303, 3), (136, .aload_n 0, 1), (137, .iconst 2, 1), (138, .bipush 33, 2), (140, .invokevirtual 281, 3), (143, .iconst 1, 1), (144, .ireturn, 1), (145, .aload_n 0, 1), (146, .bipush 40, 2), (148, .invokevirtual 275, 3), (151, .ifCond .eq 12, 3), (154, .aload_n 0, 1), (155, .getfield 306, 3), (158, .bipush 8, 2), (160, .if_icmp .ne 5, 3), (163, .iconst 0, 1), (164, .ireturn, 1), (165, .aload_n 0, 1), (166, .dup, 1), (167, .getfield 306, 3), (170, .iconst 1, 1), (171, .iadd, 1), (172, .putfield 306, 3), (175, .aload_n 0, 1), (176, .invokevirtual 278, 3), (179, .aload_n 0, 1), (180, .iload_n 1, 1), (181, .invokevirtual 309, 3), (184, .ifCond .eq 12, 3), (187, .aload_n 0, 1), (188, .bipush 41, 2), (190, .invokevirtual 275, 3), (193, .ifCond .ne 5, 3), (196, .iconst 0, 1), (197, .ireturn, 1), (198, .aload_n 0, 1), (199, .dup, 1), (200, .getfield 306, 3), (203, .iconst 1, 1), (204, .isub, 1), (205, .putfield 306, 3), (208, .aload_n 0, 1), (209, .invokevirtual 278, 3), (212, .iconst 1, 1), (213, .ireturn, 1)]
def mm_X11_part0 : mu_M := (11, yX11_part0, cX11_part0, 2, (some .boolean), 1, mc_X11_part0)
def mc_X11_parse : List (Nat × Instr × Nat) := [(0, .aload_n 0, 1), (1, .iconst 0, 1), (2, .putfield 238, 3), (5, .aload_n 0, 1), (6, .iconst 3, 1), (7, .putfield 241, 3), (10, .aload_n 0, 1), (11, .iconst 0, 1), (12, .putfield 306, 3), (15, .aload_n 0, 1), (16, .iconst 0, 1), (17, .putfield 303, 3), (20, .aload_n 0, 1), (21, .iconst 0, 1), (22, .putfield 269, 3), (25, .aload_n 0, 1), (26, .iconst 0, 1), (27, .putfield 297, 3), (30, .aload_n 0, 1), (31, .aload_n 0, 1), (32, .getfield 7, 3), (35, .iconst 3, 1), (36, .iaload, 1), (37, .bipush 14, 2), (39, .if_icmp .ge 18, 3), (42, .aload_n 0, 1), (43, .aload_n 0, 1), (44, .getfield 7, 3), (47, .iconst 3, 1), (48, .iaload, 1), (49, .invokevirtual 312, 3), (52, .iconst 4, 1), (53, .iadd, 1), (54, .goto 6, 3), (57, .sipush 3270, 3), (60, .putfield 266, 3), (63, .aload_n 0, 1), (64, .invokevirtual 278, 3), (67, .aload_n 0, 1), (68, .invokevirtual 315, 3), (71, .istore_n 1, 1), (72, .iload_n 1, 1), (73, .ifCond .lt 7, 3), (76, .iconst 1, 1), (77, .goto 4, 3), (80, .iconst 0, 1), (81, .istore_n 2, 1), (82, .iload_n 2, 1), (83, .ifCond .eq 28, 3), (86, .aload_n 0, 1), (87, .invokevirtual 278, 3), (90, .aload_n 0, 1), (91, .iload_n 1, 1), (92, .invokevirtual 309, 3), (95, .ifCond .eq 14, 3), (98, .aload_n 0, 1), (99, .getfield 241, 3), (102, .ifCond .ne 7, 3), (105, .iconst 1, 1), (106, .goto 4, 3), (109, .iconst 0, 1), (110, .istore_n 2, 1), (111, .aload_n 0, 1), (112, .iconst 0, 1), (113, .putfield 226, 3), (116, .iload_n 2, 1), (117, .ifCond .eq 7, 3), (120, .iload_n 1, 1), (121, .goto 4, 3), (124, .iconst (-1), 1), (125, .ireturn, 1)]
def mm_X11_parse : mu_M := (11, yX11_parse, cX11_parse, 3, (some .int), 0, mc_X11_parse)
def mc_X11_text : List (Nat × Instr × Nat) := [(0, .aload_n 0, 1), (1, .invokevirtual 318, 3), (4, .istore_n 1, 1), (5, .iload_n 1, 1), (6, .ifCond .ge 11, 3), (9, .bipush (-100), 2), (11, .aload_n 0, 1), (12, .getfield 244, 3), (15, .isub, 1), (16, .ireturn, 1), (17, .aload_n 0, 1), (18, .getfield 7, 3), (21, .iconst 3, 1), (22, .iaload, 1), (23, .bipush 14, 2), (25, .if_icmp .ne 6, 3), (28, .ldc 120, 2), (30, .ireturn, 1), (31, .aload_n 0, 1), (32, .aload_n 0, 1), (33, .getfield 7, 3), (36, .iconst 3, 1), (37, .iaload, 1), (38, .invokevirtual 312, 3), (41, .istore_n 2, 1), (42, .aload_n 0, 1), (43, .getfield 7, 3), (46, .iload_n 2, 1), (47, .iconst 0, 1), (48, .iadd, 1), (49, .iload_n 1, 1), (50, .iastore, 1), (51, .aload_n 0, 1), (52, .getfield 7, 3), (55, .iload_n 2, 1), (56, .iconst 1, 1), (57, .iadd, 1), (58, .aload_n 0, 1), (59, .getfield 297, 3), (62, .iastore, 1), (63, .aload_n 0, 1), (64, .getfield 7, 3), (67, .iload_n 2, 1), (68, .iconst 2, 1), (69, .iadd, 1), (70, .aload_n 0, 1), (71, .getfield 269, 3), (74, .iastore, 1), (75, .aload_n 0, 1), (76, .getfield 7, 3), (79, .iconst 3, 1), (80, .dup2, 1), (81, .iaload, 1), (82, .iconst 1, 1), (83, .iadd, 1), (84, .iastore, 1), (85, .aload_n 0, 1), (86, .invokevirtual 86, 3), (89, .aload_n 0, 1), (90, .getfield 7, 3), (93, .iconst 3, 1), (94, .iaload, 1), (95, .iconst 1, 1), (96, .isub, 1), (97, .ireturn, 1)]
def mm_X11_text : mu_M := (11, yX11_text, cX11_text, 3, (some .int), 0, mc_X11_text)
def mc_X11_textTold : List (Nat × Instr × Nat) := [(0, .aload_n 0, 1), (1, .iload_n 1, 1), (2, .invokevirtual 321, 3), (5, .ifCond .eq 28, 3), (8, .iload_n 2, 1), (9, .i2l, 1), (10, .lconst 0, 1), (11, .lconst 1, 1), (12, .invokestatic 89, 3), (15, .ifCond .eq 18, 3), (18, .aload_n 0, 1), (19, .getfield 7, 3), (22, .aload_n 0, 1), (23, .iload_n 1, 1), (24, .invokevirtual 312, 3), (27, .iload_n 2, 1), (28, .iadd, 1), (29, .iaload, 1), (30, .goto 5, 3), (33, .ldc 119, 2), (35, .ireturn, 1)]
def mm_X11_textTold : mu_M := (11, yX11_textTold, cX11_textTold, 3, (some .int), 2, mc_X11_textTold)
def mc_X11_counts : List (Nat × Instr × Nat) := [(0, .iconst (-1), 1), (1, .istore_n 2, 1), (2, .iconst 0, 1), (3, .istore_n 3, 1), (4, .iload_n 3, 1), (5, .aload_n 0, 1), (6, .getfield 7, 3), (9, .iconst 3, 1), (10, .iaload, 1), (11, .if_icmp .ge 31, 3), (14, .aload_n 0, 1), (15, .getfield 7, 3), (18, .aload_n 0, 1), (19, .iload_n 3, 1), (20, .invokevirtual 312, 3), (23, .iconst 0, 1), (24, .iadd, 1), (25, .iaload, 1), (26, .iload_n 1, 1), (27, .if_icmp .ne 7, 3), (30, .iload_n 3, 1), (31, .goto 4, 3), (34, .iload_n 2, 1), (35, .istore_n 2, 1), (36, .iinc 3 1, 3), (39, .goto (-35), 3), (42, .iload_n 2, 1), (43, .ireturn, 1)]
def mm_X11_counts : mu_M := (11, yX11_counts, cX11_counts, 4, (some .int), 1, mc_X11_counts)
def mc_X11_joined : List (Nat × Instr × Nat) := [(0, .iload_n 0, 1), (1, .tableswitch 196 38 62 #[182, 196, 196, 196, 123, 115, 196, 119, 196, 127, 196, 196, 196, 196, 196, 196, 196, 196, 196, 196, 196, 196, 149, 171, 160], 115), (116, .iload_n 1, 1), (117, .iload_n 2, 1), (118, .iadd, 1), (119, .ireturn, 1), (120, .iload_n 1, 1), (121, .iload_n 2, 1), (122, .isub, 1), (123, .ireturn, 1), (124, .iload_n 1, 1), (125, .iload_n 2, 1), (126, .imul, 1), (127, .ireturn, 1), (128, .iload_n 2, 1), (129, .ifCond .ne 7, 3), (132, .iconst 0, 1), (133, .goto 16, 3), (136, .iload_n 2, 1), (137, .iconst (-1), 1), (138, .if_icmp .ne 8, 3), (141, .iload_n 1, 1), (142, .ineg, 1), (143, .goto 6, 3), (146, .iload_n 1, 1), (147, .iload_n 2, 1), (148, .idiv, 1), (149, .ireturn, 1), (150, .iload_n 1, 1), (151, .iload_n 2, 1), (152, .if_icmp .ge 7, 3), (155, .iconst 1, 1), (156, .goto 4, 3), (159, .iconst 0, 1), (160, .ireturn, 1), (161, .iload_n 1, 1), (162, .iload_n 2, 1), (163, .if_icmp .le 7, 3), (166, .iconst 1, 1), (167, .goto 4, 3), (170, .iconst 0, 1), (171, .ireturn, 1), (172, .iload_n 1, 1), (173, .iload_n 2, 1), (174, .if_icmp .ne 7, 3), (177, .iconst 1, 1), (178, .goto 4, 3), (181, .iconst 0, 1), (182, .ireturn, 1), (183, .iload_n 1, 1), (184, .ifCond .eq 11, 3), (187, .iload_n 2, 1), (188, .ifCond .eq 7, 3), (191, .iconst 1, 1), (192, .goto 4, 3), (195, .iconst 0, 1), (196, .ireturn, 1), (197, .iload_n 1, 1), (198, .ifCond .ne 7, 3), (201, .iload_n 2, 1), (202, .ifCond .eq 7, 3), (205, .iconst 1, 1), (206, .goto 4, 3), (209, .iconst 0, 1), (210, .ireturn, 1)]
def mm_X11_joined : mu_M := (11, yX11_joined, cX11_joined, 3, (some .int), 3, mc_X11_joined)
def mc_X11_worked : List (Nat × Instr × Nat) := [(0, .iconst 0, 1), (1, .istore_n 2, 1), (2, .iconst 0, 1), (3, .istore_n 3, 1), (4, .iload_n 3, 1), (5, .aload_n 0, 1), (6, .getfield 7, 3), (9, .aload_n 0, 1), (10, .iload_n 1, 1), (11, .invokevirtual 312, 3), (14, .iconst 2, 1), (15, .iadd, 1), (16, .iaload, 1), (17, .if_icmp .ge 146, 3), (20, .aload_n 0, 1), (21, .getfield 7, 3), (24, .aload_n 0, 1), (25, .iload_n 1, 1), (26, .invokevirtual 312, 3), (29, .iconst 4, 1), (30, .iadd, 1), (31, .iconst 2, 1), (32, .iload_n 3, 1), (33, .imul, 1), (34, .iadd, 1), (35, .iaload, 1), (36, .istore 4, 2), (38, .aload_n 0, 1), (39, .getfield 7, 3), (42, .aload_n 0, 1), (43, .iload_n 1, 1), (44, .invokevirtual 312, 3), (47, .iconst 4, 1), (48, .iadd, 1), (49, .iconst 2, 1), (50, .iload_n 3, 1), (51, .imul, 1), (52, .iadd, 1), (53, .iconst 1, 1), (54, .iadd, 1), (55, .iaload, 1), (56, .istore 5, 2), (58, .iload 4, 2), (60, .iconst 2, 1), (61, .if_icmp .eq 32, 3), (64, .aload_n 0, 1), (65, .getfield 67, 3), (68, .iload_n 2, 1), (69, .iload 4, 2), (71, .ifCond .ne 8, 3), (74, .iload 5, 2), (76, .goto 10, 3), (79, .aload_n 0, 1), (80, .getfield 64, 3), (83, .iload 5, 2), (85, .iaload, 1), (86, .iastore, 1), (87, .iinc 2 1, 3), (90, .goto 67, 3), (93, .iload 5, 2), (95, .bipush 33, 2), (97, .if_icmp .ne 30, 3), (100, .aload_n 0, 1), (101, .getfield 67, 3), (104, .iload_n 2, 1), (105, .iconst 1, 1), (106, .isub, 1), (107, .aload_n 0, 1), (108, .getfield 67, 3), (111, .iload_n 2, 1), (112, .iconst 1, 1), (113, .isub, 1), (114, .iaload, 1), (115, .ifCond .ne 7, 3), (118, .iconst 1, 1), (119, .goto 4, 3), (122, .iconst 0, 1), (123, .iastore, 1), (124, .goto 33, 3), (127, .iinc 2 (-1), 3), (130, .aload_n 0, 1), (131, .getfield 67, 3), (134, .iload_n 2, 1), (135, .iconst 1, 1), (136, .isub, 1), (137, .iload 5, 2), (139, .aload_n 0, 1), (140, .getfield 67, 3), (143, .iload_n 2, 1), (144, .iconst 1, 1), (145, .isub, 1), (146, .iaload, 1), (147, .aload_n 0, 1), (148, .getfield 67, 3), (151, .iload_n 2, 1), (152, .iaload, 1), (153, .invokestatic 324, 3), (156, .iastore, 1), (157, .iinc 3 1, 3), (160, .goto (-156), 3), (163, .aload_n 0, 1), (164, .getfield 67, 3), (167, .iconst 0, 1), (168, .iaload, 1), (169, .ireturn, 1)]
def mm_X11_worked : mu_M := (11, yX11_worked, cX11_worked, 6, (some .int), 1, mc_X11_worked)
def mc_X11_needs : List (Nat × Instr × Nat) := [(0, .iconst 0, 1), (1, .istore_n 3, 1), (2, .iconst 0, 1), (3, .istore 4, 2), (5, .iload 4, 2), (7, .aload_n 0, 1), (8, .getfield 7, 3), (11, .iconst 1, 1), (12, .iaload, 1), (13, .if_icmp .ge 82, 3), (16, .aload_n 0, 1), (17, .iload 4, 2), (19, .iconst 0, 1), (20, .invokevirtual 103, 3), (23, .iload_n 1, 1), (24, .if_icmp .ne 14, 3), (27, .aload_n 0, 1), (28, .iload 4, 2), (30, .iconst 5, 1), (31, .invokevirtual 103, 3), (34, .iload_n 2, 1), (35, .if_icmp .eq 25, 3), (38, .aload_n 0, 1), (39, .iload 4, 2), (41, .iconst 0, 1), (42, .invokevirtual 103, 3), (45, .iload_n 2, 1), (46, .if_icmp .ne 18, 3), (49, .aload_n 0, 1), (50, .iload 4, 2), (52, .iconst 5, 1), (53, .invokevirtual 103, 3), (56, .iload_n 1, 1), (57, .if_icmp .ne 7, 3), (60, .iconst 1, 1), (61, .goto 4, 3), (64, .iconst 0, 1), (65, .istore 5, 2), (67, .iload_n 3, 1), (68, .aload_n 0, 1), (69, .iload 4, 2), (71, .invokevirtual 211, 3), (74, .ifCond .eq 12, 3), (77, .iload 5, 2), (79, .ifCond .eq 7, 3), (82, .iconst 1, 1), (83, .goto 4, 3), (86, .iconst 0, 1), (87, .iadd, 1), (88, .istore_n 3, 1), (89, .iinc 4 1, 3), (92, .goto (-87), 3), (95, .aload_n 0, 1), (96, .getfield 7, 3), (99, .aload_n 0, 1), (100, .iload_n 1, 1), (101, .invokevirtual 121, 3), (104, .iconst 1, 1), (105, .iadd, 1), (106, .iaload, 1), (107, .aload_n 0, 1), (108, .getfield 7, 3), (111, .aload_n 0, 1), (112, .iload_n 2, 1), (113, .invokevirtual 121, 3), (116, .iconst 1, 1), (117, .iadd, 1), (118, .iaload, 1), (119, .invokestatic 192, 3), (122, .istore 4, 2), (124, .aload_n 0, 1), (125, .iconst 2, 1), (126, .invokevirtual 124, 3), (129, .istore 5, 2), (131, .aload_n 0, 1), (132, .getfield 64, 3), (135, .bipush 110, 2), (137, .iload_n 3, 1), (138, .iastore, 1), (139, .aload_n 0, 1), (140, .getfield 64, 3), (143, .bipush 115, 2), (145, .iload 4, 2), (147, .iastore, 1), (148, .iload 5, 2), (150, .ifCond .ge 13, 3), (153, .iload_n 3, 1), (154, .bipush 10, 2), (156, .iload 4, 2), (158, .isub, 1), (159, .imul, 1), (160, .goto 14, 3), (163, .aload_n 0, 1), (164, .iload 5, 2), (166, .invokevirtual 127, 3), (169, .bipush 99, 2), (171, .invokestatic 130, 3), (174, .ireturn, 1)]
def mm_X11_needs : mu_M := (11, yX11_needs, cX11_needs, 6, (some .int), 2, mc_X11_needs)
def mc_X11_isTwo : List (Nat × Instr × Nat) := [(0, .aload_n 0, 1), (1, .iload_n 1, 1), (2, .invokevirtual 133, 3), (5, .ifCond .eq 20, 3), (8, .aload_n 0, 1), (9, .iload_n 2, 1), (10, .invokevirtual 133, 3), (13, .ifCond .eq 12, 3), (16, .iload_n 1, 1), (17, .iload_n 2, 1), (18, .if_icmp .eq 7, 3), (21, .iconst 1, 1), (22, .goto 4, 3), (25, .iconst 0, 1), (26, .ireturn, 1)]
def mm_X11_isTwo : mu_M := (11, yX11_isTwo, cX11_isTwo, 3, (some .boolean), 2, mc_X11_isTwo)
def mc_X11_hours : List (Nat × Instr × Nat) := [(0, .aload_n 0, 1), (1, .iload_n 1, 1), (2, .iload_n 2, 1), (3, .invokevirtual 327, 3), (6, .ifCond .eq 13, 3), (9, .iload_n 3, 1), (10, .i2l, 1), (11, .lconst 0, 1), (12, .lconst 1, 1), (13, .invokestatic 89, 3), (16, .ifCond .ne 6, 3), (19, .ldc 119, 2), (21, .ireturn, 1), (22, .iload_n 3, 1), (23, .ifCond .ne 12, 3), (26, .aload_n 0, 1), (27, .iload_n 1, 1), (28, .iload_n 2, 1), (29, .invokevirtual 330, 3), (32, .goto 18, 3), (35, .aload_n 0, 1), (36, .getfield 7, 3), (39, .sipush 290, 3), (42, .bipush 8, 2), (44, .iload_n 1, 1), (45, .imul, 1), (46, .iadd, 1), (47, .iload_n 2, 1), (48, .iadd, 1), (49, .iaload, 1), (50, .ireturn, 1)]
def mm_X11_hours : mu_M := (11, yX11_hours, cX11_hours, 4, (some .int), 3, mc_X11_hours)
def mc_X11_practise : List (Nat × Instr × Nat) := [(0, .aload_n 0, 1), (1, .iload_n 1, 1), (2, .iload_n 2, 1), (3, .invokevirtual 327, 3), (6, .ifCond .eq 15, 3), (9, .iload_n 3, 1), (10, .i2l, 1), (11, .lconst 1, 1), (12, .ldc2_w 142, 3), (15, .invokestatic 89, 3), (18, .ifCond .ne 6, 3), (21, .ldc 119, 2), (23, .ireturn, 1), (24, .bipush 99, 2), (26, .aload_n 0, 1), (27, .getfield 7, 3), (30, .sipush 290, 3), (33, .bipush 8, 2), (35, .iload_n 1, 1), (36, .imul, 1), (37, .iadd, 1), (38, .iload_n 2, 1), (39, .iadd, 1), (40, .iaload, 1), (41, .iload_n 3, 1), (42, .iadd, 1), (43, .invokestatic 192, 3), (46, .istore 4, 2), (48, .aload_n 0, 1), (49, .getfield 7, 3), (52, .sipush 290, 3), (55, .bipush 8, 2), (57, .iload_n 1, 1), (58, .imul, 1), (59, .iadd, 1), (60, .iload_n 2, 1), (61, .iadd, 1), (62, .iload 4, 2), (64, .iastore, 1), (65, .aload_n 0, 1), (66, .getfield 7, 3), (69, .sipush 290, 3), (72, .bipush 8, 2), (74, .iload_n 2, 1), (75, .imul, 1), (76, .iadd, 1), (77, .iload_n 1, 1), (78, .iadd, 1), (79, .iload 4, 2), (81, .iastore, 1), (82, .iload 4, 2), (84, .ireturn, 1)]
def mm_X11_practise : mu_M := (11, yX11_practise, cX11_practise, 5, (some .int), 3, mc_X11_practise)
def mc_X11_lacksHours : List (Nat × Instr × Nat) := [(0, .iconst 0, 1), (1, .istore_n 1, 1), (2, .iconst 0, 1), (3, .istore_n 2, 1), (4, .iload_n 2, 1), (5, .aload_n 0, 1), (6, .getfield 7, 3), (9, .iconst 0, 1), (10, .iaload, 1), (11, .if_icmp .ge 56, 3), (14, .iconst 0, 1), (15, .istore_n 3, 1), (16, .iload_n 3, 1), (17, .iload_n 2, 1), (18, .if_icmp .ge 43, 3), (21, .iload_n 1, 1), (22, .ifCond .ne 27, 3), (25, .aload_n 0, 1), (26, .getfield 7, 3), (29, .sipush 290, 3), (32, .bipush 8, 2), (34, .iload_n 2, 1), (35, .imul, 1), (36, .iadd, 1), (37, .iload_n 3, 1), (38, .iadd, 1), (39, .iaload, 1), (40, .aload_n 0, 1), (41, .iload_n 2, 1), (42, .iload_n 3, 1), (43, .invokevirtual 330, 3), (46, .if_icmp .ge 7, 3), (49, .iconst 1, 1), (50, .goto 4, 3), (53, .iconst 0, 1), (54, .istore_n 1, 1), (55, .iinc 3 1, 3), (58, .goto (-42), 3), (61, .iinc 2 1, 3), (64, .goto (-60), 3), (67, .iload_n 1, 1), (68, .ireturn, 1)]
def mm_X11_lacksHours : mu_M := (11, yX11_lacksHours, cX11_lacksHours, 4, (some .boolean), 0, mc_X11_lacksHours)
def mc_X11_hasBarred : List (Nat × Instr × Nat) := [(0, .iconst 0, 1), (1, .istore_n 1, 1), (2, .iconst 0, 1), (3, .istore_n 2, 1), (4, .iload_n 2, 1), (5, .aload_n 0, 1), (6, .getfield 7, 3), (9, .iconst 1, 1), (10, .iaload, 1), (11, .if_icmp .ge 37, 3), (14, .iload_n 1, 1), (15, .ifCond .ne 21, 3), (18, .aload_n 0, 1), (19, .iload_n 2, 1), (20, .bipush 7, 2), (22, .invokevirtual 103, 3), (25, .ifCond .ne 15, 3), (28, .aload_n 0, 1), (29, .iload_n 2, 1), (30, .invokevirtual 159, 3), (33, .ifCond .eq 7, 3), (36, .iconst 1, 1), (37, .goto 4, 3), (40, .iconst 0, 1), (41, .istore_n 1, 1), (42, .iinc 2 1, 3), (45, .goto (-41), 3), (48, .iload_n 1, 1), (49, .ireturn, 1)]
def mm_X11_hasBarred : mu_M := (11, yX11_hasBarred, cX11_hasBarred, 3, (some .boolean), 0, mc_X11_hasBarred)
def mc_X11_may : List (Nat × Instr × Nat) := [(0, .aload_n 0, 1), (1, .invokevirtual 214, 3), (4, .ifCond .lt 7, 3), (7, .iconst 1, 1), (8, .goto 26, 3), (11, .aload_n 0, 1), (12, .invokevirtual 333, 3), (15, .ifCond .eq 7, 3), (18, .iconst 2, 1), (19, .goto 15, 3), (22, .aload_n 0, 1), (23, .invokevirtual 337, 3), (26, .ifCond .eq 7, 3), (29, .iconst 3, 1), (30, .goto 4, 3), (33, .iconst 0, 1), (34, .ireturn, 1)]
def mm_X11_may : mu_M := (11, yX11_may, cX11_may, 1, (some .int), 0, mc_X11_may)
def mc_X11_choose : List (Nat × Instr × Nat) := [(0, .aload_n 0, 1), (1, .iload_n 1, 1), (2, .invokevirtual 156, 3), (5, .ifCond .ne 6, 3), (8, .ldc 119, 2), (10, .ireturn, 1), (11, .iconst 0, 1), (12, .istore_n 2, 1), (13, .iload_n 2, 1), (14, .aload_n 0, 1), (15, .getfield 7, 3), (18, .iconst 4, 1), (19, .iaload, 1), (20, .if_icmp .ge 26, 3), (23, .aload_n 0, 1), (24, .getfield 7, 3), (27, .sipush 260, 3), (30, .iload_n 2, 1), (31, .iadd, 1), (32, .iaload, 1), (33, .iload_n 1, 1), (34, .if_icmp .ne 6, 3), (37, .ldc 155, 2), (39, .ireturn, 1), (40, .iinc 2 1, 3), (43, .goto (-30), 3), (46, .aload_n 0, 1), (47, .getfield 7, 3), (50, .iconst 4, 1), (51, .iaload, 1), (52, .bipush 6, 2), (54, .if_icmp .ne 6, 3), (57, .ldc 120, 2), (59, .ireturn, 1), (60, .aload_n 0, 1), (61, .invokevirtual 86, 3), (64, .aload_n 0, 1), (65, .getfield 7, 3), (68, .sipush 260, 3), (71, .aload_n 0, 1), (72, .getfield 7, 3), (75, .iconst 4, 1), (76, .iaload, 1), (77, .iadd, 1), (78, .iload_n 1, 1), (79, .iastore, 1), (80, .aload_n 0, 1), (81, .getfield 7, 3), (84, .iconst 4, 1), (85, .dup2, 1), (86, .iaload, 1), (87, .iconst 1, 1), (88, .iadd, 1), (89, .iastore, 1), (90, .aload_n 0, 1), (91, .getfield 7, 3), (94, .iconst 4, 1), (95, .iaload, 1), (96, .ireturn, 1)]
def mm_X11_choose : mu_M := (11, yX11_choose, cX11_choose, 3, (some .int), 1, mc_X11_choose)
def mc_X11_clear : List (Nat × Instr × Nat) := [(0, .aload_n 0, 1), (1, .iconst 4, 1), (2, .iconst 0, 1), (3, .invokevirtual 144, 3), (6, .ireturn, 1)]
def mm_X11_clear : mu_M := (11, yX11_clear, cX11_clear, 1, (some .int), 0, mc_X11_clear)
def mc_X11_choiceOf : List (Nat × Instr × Nat) := [(0, .iconst (-1), 1), (1, .istore_n 2, 1), (2, .iconst 0, 1), (3, .istore_n 3, 1), (4, .iload_n 3, 1), (5, .aload_n 0, 1), (6, .getfield 7, 3), (9, .iconst 4, 1), (10, .iaload, 1), (11, .if_icmp .ge 29, 3), (14, .aload_n 0, 1), (15, .getfield 7, 3), (18, .sipush 260, 3), (21, .iload_n 3, 1), (22, .iadd, 1), (23, .iaload, 1), (24, .iload_n 1, 1), (25, .if_icmp .ne 7, 3), (28, .iload_n 3, 1), (29, .goto 4, 3), (32, .iload_n 2, 1), (33, .istore_n 2, 1), (34, .iinc 3 1, 3), (37, .goto (-33), 3), (40, .iload_n 2, 1), (41, .ireturn, 1)]
def mm_X11_choiceOf : mu_M := (11, yX11_choiceOf, cX11_choiceOf, 4, (some .int), 1, mc_X11_choiceOf)
def mc_X11_understudy : List (Nat × Instr × Nat) := [(0, .aload_n 0, 1), (1, .iload_n 1, 1), (2, .invokevirtual 133, 3), (5, .ifCond .eq 25, 3), (8, .iload_n 2, 1), (9, .i2l, 1), (10, .lconst 0, 1), (11, .ldc2_w 117, 3), (14, .invokestatic 89, 3), (17, .ifCond .eq 13, 3), (20, .iload_n 3, 1), (21, .i2l, 1), (22, .lconst 0, 1), (23, .lconst 1, 1), (24, .invokestatic 89, 3), (27, .ifCond .ne 6, 3), (30, .ldc 119, 2), (32, .ireturn, 1), (33, .aload_n 0, 1), (34, .getfield 7, 3), (37, .aload_n 0, 1), (38, .iload_n 1, 1), (39, .invokevirtual 121, 3), (42, .iconst 1, 1), (43, .iadd, 1), (44, .iaload, 1), (45, .istore 4, 2), (47, .aload_n 0, 1), (48, .getfield 7, 3), (51, .aload_n 0, 1), (52, .iload_n 1, 1), (53, .invokevirtual 121, 3), (56, .iconst 1, 1), (57, .iadd, 1), (58, .iload_n 2, 1), (59, .iastore, 1), (60, .aload_n 0, 1), (61, .invokevirtual 183, 3), (64, .aload_n 0, 1), (65, .invokevirtual 205, 3), (68, .aload_n 0, 1), (69, .getfield 7, 3), (72, .aload_n 0, 1), (73, .iload_n 1, 1), (74, .invokevirtual 121, 3), (77, .iconst 1, 1), (78, .iadd, 1), (79, .iload 4, 2), (81, .iastore, 1), (82, .iconst 0, 1), (83, .istore 5, 2), (85, .iconst 0, 1), (86, .istore 6, 2), (88, .iconst 1, 1), (89, .istore 7, 2), (91, .iconst 0, 1), (92, .istore 8, 2), (94, .iload 8, 2), (96, .aload_n 0, 1), (97, .getfield 7, 3), (100, .iconst 1, 1), (101, .iaload, 1), (102, .if_icmp .ge 87, 3), (105, .iload 7, 2), (107, .ifCond .eq 82, 3), (110, .aload_n 0, 1), (111, .iload 8, 2), (113, .invokevirtual 211, 3), (116, .ifCond .eq 67, 3), (119, .aload_n 0, 1), (120, .iload 8, 2), (122, .invokevirtual 208, 3), (125, .ifCond .lt 58, 3), (128, .aload_n 0, 1), (129, .iload 8, 2), (131, .invokevirtual 340, 3), (134, .istore 9, 2), (136, .iload 9, 2), (138, .ifCond .lt 7, 3), (141, .iconst 1, 1), (142, .goto 4, 3), (145, .iconst 0, 1), (146, .istore 7, 2), (148, .iload 5, 2), (150, .iload 7, 2), (152, .ifCond .eq 10, 3), (155, .iconst 1, 1), (156, .iload 9, 2), (158, .ishl, 1), (159, .goto 4, 3), (162, .iconst 0, 1), (163, .ior, 1), (164, .istore 5, 2), (166, .iload 6, 2), (168, .aload_n 0, 1), (169, .getfield 43, 3), (172, .aload_n 0, 1), (173, .iload 8, 2), (175, .iconst 1, 1), (176, .invokevirtual 103, 3), (179, .iaload, 1), (180, .iadd, 1), (181, .istore 6, 2), (183, .iinc 8 1, 3), (186, .goto (-92), 3), (189, .iload 7, 2), (191, .ifCond .ne 8, 3), (194, .ldc 85, 2), (196, .goto 14, 3), (199, .iload_n 3, 1), (200, .ifCond .ne 8, 3), (203, .iload 5, 2), (205, .goto 5, 3), (208, .iload 6, 2), (210, .ireturn, 1)]
def mm_X11_understudy : mu_M := (11, yX11_understudy, cX11_understudy, 10, (some .int), 3, mc_X11_understudy)
def mc_X11_shiftable : List (Nat × Instr × Nat) := [(0, .iconst 3, 1), (1, .aload_n 0, 1), (2, .getfield 7, 3), (5, .iconst 4, 1), (6, .iaload, 1), (7, .invokestatic 192, 3), (10, .ireturn, 1)]
def mm_X11_shiftable : mu_M := (11, yX11_shiftable, cX11_shiftable, 1, (some .int), 0, mc_X11_shiftable)
def mc_X11_isApart : List (Nat × Instr × Nat) := [(0, .iconst 1, 1), (1, .istore_n 1, 1), (2, .iconst 0, 1), (3, .istore_n 2, 1), (4, .iload_n 2, 1), (5, .aload_n 0, 1), (6, .getfield 7, 3), (9, .iconst 1, 1), (10, .iaload, 1), (11, .if_icmp .ge 89, 3), (14, .iconst 0, 1), (15, .istore_n 3, 1), (16, .iload_n 3, 1), (17, .iload_n 2, 1), (18, .if_icmp .ge 76, 3), (21, .aload_n 0, 1), (22, .iload_n 2, 1), (23, .iconst 0, 1), (24, .invokevirtual 103, 3), (27, .aload_n 0, 1), (28, .iload_n 3, 1), (29, .iconst 0, 1), (30, .invokevirtual 103, 3), (33, .if_icmp .ne 7, 3), (36, .iconst 1, 1), (37, .goto 4, 3), (40, .iconst 0, 1), (41, .istore 4, 2), (43, .iload_n 1, 1), (44, .ifCond .eq 42, 3), (47, .iload 4, 2), (49, .ifCond .eq 33, 3), (52, .aload_n 0, 1), (53, .iload_n 2, 1), (54, .iconst 2, 1), (55, .invokevirtual 103, 3), (58, .aload_n 0, 1), (59, .iload_n 2, 1), (60, .iconst 3, 1), (61, .invokevirtual 103, 3), (64, .aload_n 0, 1), (65, .iload_n 3, 1), (66, .iconst 2, 1), (67, .invokevirtual 103, 3), (70, .aload_n 0, 1), (71, .iload_n 3, 1), (72, .iconst 3, 1), (73, .invokevirtual 103, 3), (76, .invokestatic 151, 3), (79, .ifCond .ne 7, 3), (82, .iconst 1, 1), (83, .goto 4, 3), (86, .iconst 0, 1), (87, .istore_n 1, 1), (88, .iinc 3 1, 3), (91, .goto (-75), 3), (94, .iinc 2 1, 3), (97, .goto (-93), 3), (100, .iload_n 1, 1), (101, .ireturn, 1)]
def mm_X11_isApart : mu_M := (11, yX11_isApart, cX11_isApart, 5, (some .boolean), 0, mc_X11_isApart)
def mc_X11_holds : List (Nat × Instr × Nat) := [(0, .aload_n 0, 1), (1, .invokevirtual 343, 3), (4, .istore_n 2, 1), (5, .iload_n 1, 1), (6, .istore_n 3, 1), (7, .iconst 1, 1), (8, .istore 4, 2), (10, .iload_n 2, 1), (11, .iconst 1, 1), (12, .isub, 1), (13, .istore 5, 2), (15, .iload 5, 2), (17, .ifCond .lt 77, 3), (20, .aload_n 0, 1), (21, .getfield 7, 3), (24, .aload_n 0, 1), (25, .aload_n 0, 1), (26, .getfield 7, 3), (29, .sipush 260, 3), (32, .iload 5, 2), (34, .iadd, 1), (35, .iaload, 1), (36, .invokevirtual 95, 3), (39, .iconst 2, 1), (40, .iadd, 1), (41, .aload_n 0, 1), (42, .getfield 73, 3), (45, .iload 5, 2), (47, .iaload, 1), (48, .iload_n 3, 1), (49, .bipush 6, 2), (51, .irem, 1), (52, .iadd, 1), (53, .iastore, 1), (54, .iload 4, 2), (56, .ifCond .eq 24, 3), (59, .aload_n 0, 1), (60, .getfield 73, 3), (63, .iload 5, 2), (65, .iaload, 1), (66, .iload_n 3, 1), (67, .bipush 6, 2), (69, .irem, 1), (70, .iadd, 1), (71, .bipush 90, 2), (73, .if_icmp .gt 7, 3), (76, .iconst 1, 1), (77, .goto 4, 3), (80, .iconst 0, 1), (81, .istore 4, 2), (83, .iload_n 3, 1), (84, .bipush 6, 2), (86, .idiv, 1), (87, .istore_n 3, 1), (88, .iinc 5 (-1), 3), (91, .goto (-76), 3), (94, .aload_n 0, 1), (95, .iconst 0, 1), (96, .putfield 167, 3), (99, .iload 4, 2), (101, .ifCond .eq 21, 3), (104, .aload_n 0, 1), (105, .invokevirtual 346, 3), (108, .ifCond .eq 14, 3), (111, .aload_n 0, 1), (112, .invokevirtual 214, 3), (115, .ifCond .ge 7, 3), (118, .iconst 1, 1), (119, .goto 4, 3), (122, .iconst 0, 1), (123, .ireturn, 1)]
def mm_X11_holds : mu_M := (11, yX11_holds, cX11_holds, 6, (some .boolean), 1, mc_X11_holds)
def mc_X11_findShifts : List (Nat × Instr × Nat) := [(0, .aload_n 0, 1), (1, .getfield 171, 3), (4, .ifCond .eq 4, 3), (7, .return_, 1), (8, .aload_n 0, 1), (9, .invokevirtual 343, 3), (12, .istore_n 1, 1), (13, .iload_n 1, 1), (14, .ifCond .ne 7, 3), (17, .iconst 1, 1), (18, .goto 26, 3), (21, .iload_n 1, 1), (22, .iconst 1, 1), (23, .if_icmp .ne 8, 3), (26, .bipush 6, 2), (28, .goto 16, 3), (31, .iload_n 1, 1), (32, .iconst 2, 1), (33, .if_icmp .ne 8, 3), (36, .bipush 36, 2), (38, .goto 6, 3), (41, .sipush 216, 3), (44, .istore_n 2, 1), (45, .iconst 0, 1), (46, .istore_n 3, 1), (47, .iload_n 3, 1), (48, .iload_n 1, 1), (49, .if_icmp .ge 30, 3), (52, .aload_n 0, 1), (53, .getfield 73, 3), (56, .iload_n 3, 1), (57, .aload_n 0, 1), (58, .aload_n 0, 1), (59, .getfield 7, 3), (62, .sipush 260, 3), (65, .iload_n 3, 1), (66, .iadd, 1), (67, .iaload, 1), (68, .iconst 2, 1), (69, .invokevirtual 103, 3), (72, .iastore, 1), (73, .iinc 3 1, 3), (76, .goto (-29), 3), (79, .aload_n 0, 1), (80, .iconst (-1), 1), (81, .putfield 349, 3), (84, .iconst 0, 1), (85, .istore_n 3, 1), (86, .iload_n 3, 1), (87, .iconst 5, 1), (88, .iload_n 1, 1), (89, .imul, 1), (90, .if_icmp .gt 115, 3), (93, .aload_n 0, 1), (94, .getfield 349, 3), (97, .ifCond .ge 108, 3), (100, .iconst 0, 1), (101, .istore 4, 2), (103, .iload 4, 2), (105, .iload_n 2, 1), (106, .if_icmp .ge 93, 3), (109, .aload_n 0, 1), (110, .getfield 349, 3), (113, .ifCond .ge 86, 3), (116, .iload 4, 2), (118, .bipush 36, 2), (120, .idiv, 1), (121, .iload 4, 2), (123, .bipush 6, 2), (125, .idiv, 1), (126, .bipush 6, 2), (128, .irem, 1), (129, .iadd, 1), (130, .iload 4, 2), (132, .bipush 6, 2), (134, .irem, 1), (135, .iadd, 1), (136, .iload_n 3, 1), (137, .if_icmp .ne 56, 3), (140, .aload_n 0, 1), (141, .iload 4, 2), (143, .invokevirtual 352, 3), (146, .ifCond .eq 47, 3), (149, .aload_n 0, 1), (150, .iload_n 3, 1), (151, .putfield 349, 3), (154, .iload 4, 2), (156, .istore 5, 2), (158, .iload_n 1, 1), (159, .iconst 1, 1), (160, .isub, 1), (161, .istore 6, 2), (163, .iload 6, 2), (165, .ifCond .lt 28, 3), (168, .aload_n 0, 1), (169, .getfield 70, 3), (172, .iload 6, 2), (174, .iload 5, 2), (176, .bipush 6, 2), (178, .irem, 1), (179, .iastore, 1), (180, .iload 5, 2), (182, .bipush 6, 2), (184, .idiv, 1), (185, .istore 5, 2), (187, .iinc 6 (-1), 3), (190, .goto (-27), 3), (193, .iinc 4 1, 3), (196, .goto (-93), 3), (199, .iinc 3 1, 3), (202, .goto (-116), 3), (205, .iconst 0, 1), (206, .istore_n 3, 1), (207, .iload_n 3, 1), (208, .iload_n 1, 1), (209, .if_icmp .ge 36, 3), (212, .aload_n 0, 1), (213, .getfield 7, 3), (216, .aload_n 0, 1), (217, .aload_n 0, 1), (218, .getfield 7, 3), (221, .sipush 260, 3), (224, .iload_n 3, 1), (225, .iadd, 1), (226, .iaload, 1), (227, .invokevirtual 95, 3), (230, .iconst 2, 1), (231, .iadd, 1), (232, .aload_n 0, 1), (233, .getfield 73, 3), (236, .iload_n 3, 1), (237, .iaload, 1), (238, .iastore, 1), (239, .iinc 3 1, 3), (242, .goto (-35), 3), (245, .aload_n 0, 1), (246, .iconst 0, 1), (247, .putfield 167, 3), (250, .aload_n 0, 1), (251, .iconst 1, 1), (252, .putfield 171, 3), (255, .return_, 1)]
def mm_X11_findShifts : mu_M := (11, yX11_findShifts, cX11_findShifts, 7, none, 0, mc_X11_findShifts)
def mc_X11_shifts : List (Nat × Instr × Nat) := [(0, .iload_n 1, 1), (1, .i2l, 1), (2, .ldc2_w 355, 3), (5, .aload_n 0, 1), (6, .invokevirtual 343, 3), (9, .iconst 1, 1), (10, .isub, 1), (11, .i2l, 1), (12, .invokestatic 89, 3), (15, .ifCond .ne 6, 3), (18, .ldc 119, 2), (20, .ireturn, 1), (21, .aload_n 0, 1), (22, .invokevirtual 357, 3), (25, .aload_n 0, 1), (26, .getfield 349, 3), (29, .ifCond .ge 8, 3), (32, .ldc 85, 2), (34, .goto 20, 3), (37, .iload_n 1, 1), (38, .ifCond .ge 10, 3), (41, .aload_n 0, 1), (42, .getfield 349, 3), (45, .goto 9, 3), (48, .aload_n 0, 1), (49, .getfield 70, 3), (52, .iload_n 1, 1), (53, .iaload, 1), (54, .ireturn, 1)]
def mm_X11_shifts : mu_M := (11, yX11_shifts, cX11_shifts, 2, (some .int), 1, mc_X11_shifts)
def mc_X11_shift : List (Nat × Instr × Nat) := [(0, .aload_n 0, 1), (1, .invokevirtual 357, 3), (4, .iconst 0, 1), (5, .istore_n 1, 1), (6, .iload_n 1, 1), (7, .aload_n 0, 1), (8, .invokevirtual 343, 3), (11, .if_icmp .ge 46, 3), (14, .aload_n 0, 1), (15, .getfield 349, 3), (18, .ifCond .lt 39, 3), (21, .aload_n 0, 1), (22, .getfield 7, 3), (25, .aload_n 0, 1), (26, .aload_n 0, 1), (27, .getfield 7, 3), (30, .sipush 260, 3), (33, .iload_n 1, 1), (34, .iadd, 1), (35, .iaload, 1), (36, .invokevirtual 95, 3), (39, .iconst 2, 1), (40, .iadd, 1), (41, .dup2, 1), (42, .iaload, 1), (43, .aload_n 0, 1), (44, .getfield 70, 3), (47, .iload_n 1, 1), (48, .iaload, 1), (49, .iadd, 1), (50, .iastore, 1), (51, .iinc 1 1, 3), (54, .goto (-48), 3), (57, .aload_n 0, 1), (58, .getfield 349, 3), (61, .invokestatic 139, 3), (64, .istore_n 1, 1), (65, .aload_n 0, 1), (66, .invokevirtual 86, 3), (69, .iload_n 1, 1), (70, .ireturn, 1)]
def mm_X11_shift : mu_M := (11, yX11_shift, cX11_shift, 2, (some .int), 0, mc_X11_shift)
def mc_X11_weapon : List (Nat × Instr × Nat) := [(0, .aload_n 0, 1), (1, .getfield 7, 3), (4, .iconst 5, 1), (5, .iaload, 1), (6, .bipush 6, 2), (8, .if_icmp .ne 6, 3), (11, .ldc 120, 2), (13, .ireturn, 1), (14, .aload_n 0, 1), (15, .getfield 7, 3), (18, .aload_n 0, 1), (19, .aload_n 0, 1), (20, .getfield 7, 3), (23, .iconst 5, 1), (24, .iaload, 1), (25, .invokevirtual 360, 3), (28, .iconst 0, 1), (29, .iastore, 1), (30, .aload_n 0, 1), (31, .getfield 7, 3), (34, .aload_n 0, 1), (35, .aload_n 0, 1), (36, .getfield 7, 3), (39, .iconst 5, 1), (40, .iaload, 1), (41, .invokevirtual 360, 3), (44, .iconst 1, 1), (45, .iadd, 1), (46, .iconst (-1), 1), (47, .iastore, 1), (48, .aload_n 0, 1), (49, .getfield 7, 3), (52, .iconst 5, 1), (53, .dup2, 1), (54, .iaload, 1), (55, .iconst 1, 1), (56, .iadd, 1), (57, .iastore, 1), (58, .aload_n 0, 1), (59, .getfield 7, 3), (62, .iconst 5, 1), (63, .iaload, 1), (64, .iconst 1, 1), (65, .isub, 1), (66, .ireturn, 1)]
def mm_X11_weapon : mu_M := (11, yX11_weapon, cX11_weapon, 1, (some .int), 0, mc_X11_weapon)
def mc_X11_out : List (Nat × Instr × Nat) := [(0, .aload_n 0, 1), (1, .iload_n 1, 1), (2, .invokevirtual 363, 3), (5, .ifCond .eq 11, 3), (8, .aload_n 0, 1), (9, .iload_n 2, 1), (10, .invokevirtual 133, 3), (13, .ifCond .ne 6, 3), (16, .ldc 119, 2), (18, .ireturn, 1), (19, .aload_n 0, 1), (20, .iload_n 1, 1), (21, .invokevirtual 360, 3), (24, .istore_n 3, 1), (25, .aload_n 0, 1), (26, .getfield 7, 3), (29, .iload_n 3, 1), (30, .iconst 1, 1), (31, .iadd, 1), (32, .iaload, 1), (33, .ifCond .ge 29, 3), (36, .aload_n 0, 1), (37, .getfield 7, 3), (40, .iload_n 3, 1), (41, .iaload, 1), (42, .bipush 20, 2), (44, .if_icmp .gt 18, 3), (47, .aload_n 0, 1), (48, .getfield 7, 3), (51, .aload_n 0, 1), (52, .iload_n 2, 1), (53, .invokevirtual 121, 3), (56, .iconst 3, 1), (57, .iadd, 1), (58, .iaload, 1), (59, .ifCond .lt 6, 3), (62, .ldc 155, 2), (64, .ireturn, 1), (65, .aload_n 0, 1), (66, .getfield 7, 3), (69, .iload_n 3, 1), (70, .iconst 1, 1), (71, .iadd, 1), (72, .iload_n 2, 1), (73, .iastore, 1), (74, .aload_n 0, 1), (75, .getfield 7, 3), (78, .aload_n 0, 1), (79, .iload_n 2, 1), (80, .invokevirtual 121, 3), (83, .iconst 3, 1), (84, .iadd, 1), (85, .iload_n 1, 1), (86, .iastore, 1), (87, .iconst 1, 1), (88, .ireturn, 1)]
def mm_X11_out : mu_M := (11, yX11_out, cX11_out, 4, (some .int), 2, mc_X11_out)
def mc_X11_in : List (Nat × Instr × Nat) := [(0, .aload_n 0, 1), (1, .iload_n 1, 1), (2, .invokevirtual 363, 3), (5, .ifCond .ne 6, 3), (8, .ldc 119, 2), (10, .ireturn, 1), (11, .aload_n 0, 1), (12, .getfield 7, 3), (15, .aload_n 0, 1), (16, .iload_n 1, 1), (17, .invokevirtual 360, 3), (20, .iconst 1, 1), (21, .iadd, 1), (22, .iaload, 1), (23, .istore_n 2, 1), (24, .iload_n 2, 1), (25, .ifCond .ge 6, 3), (28, .ldc 155, 2), (30, .ireturn, 1), (31, .aload_n 0, 1), (32, .getfield 7, 3), (35, .aload_n 0, 1), (36, .iload_n 1, 1), (37, .invokevirtual 360, 3), (40, .iconst 1, 1), (41, .iadd, 1), (42, .iconst (-1), 1), (43, .iastore, 1), (44, .aload_n 0, 1), (45, .getfield 7, 3), (48, .aload_n 0, 1), (49, .iload_n 2, 1), (50, .invokevirtual 121, 3), (53, .iconst 3, 1), (54, .iadd, 1), (55, .iconst (-1), 1), (56, .iastore, 1), (57, .iload_n 2, 1), (58, .ireturn, 1)]
def mm_X11_in : mu_M := (11, yX11_in, cX11_in, 3, (some .int), 1, mc_X11_in)
def mc_X11_wear : List (Nat × Instr × Nat) := [(0, .aload_n 0, 1), (1, .iload_n 1, 1), (2, .invokevirtual 363, 3), (5, .ifCond .eq 15, 3), (8, .iload_n 2, 1), (9, .i2l, 1), (10, .lconst 0, 1), (11, .ldc2_w 99, 3), (14, .invokestatic 89, 3), (17, .ifCond .ne 6, 3), (20, .ldc 119, 2), (22, .ireturn, 1), (23, .aload_n 0, 1), (24, .iload_n 1, 1), (25, .invokevirtual 360, 3), (28, .istore_n 3, 1), (29, .iload_n 2, 1), (30, .ifCond .ne 12, 3), (33, .aload_n 0, 1), (34, .getfield 7, 3), (37, .iload_n 3, 1), (38, .iaload, 1), (39, .goto 38, 3), (42, .iload_n 2, 1), (43, .iconst 1, 1), (44, .if_icmp .ne 17, 3), (47, .aload_n 0, 1), (48, .getfield 7, 3), (51, .iload_n 3, 1), (52, .iconst 1, 1), (53, .iadd, 1), (54, .iaload, 1), (55, .invokestatic 139, 3), (58, .goto 19, 3), (61, .aload_n 0, 1), (62, .getfield 7, 3), (65, .iload_n 3, 1), (66, .iaload, 1), (67, .bipush 20, 2), (69, .if_icmp .le 7, 3), (72, .iconst 1, 1), (73, .goto 4, 3), (76, .iconst 0, 1), (77, .ireturn, 1)]
def mm_X11_wear : mu_M := (11, yX11_wear, cX11_wear, 4, (some .int), 2, mc_X11_wear)
def mc_X11_seed : List (Nat × Instr × Nat) := [(0, .aload_n 0, 1), (1, .bipush 8, 2), (3, .iload_n 1, 1), (4, .invokevirtual 144, 3), (7, .ireturn, 1)]
def mm_X11_seed : mu_M := (11, yX11_seed, cX11_seed, 2, (some .int), 1, mc_X11_seed)
def mc_X11_logs : List (Nat × Instr × Nat) := [(0, .aload_n 0, 1), (1, .getfield 7, 3), (4, .bipush 7, 2), (6, .iaload, 1), (7, .bipush 30, 2), (9, .if_icmp .ge 81, 3), (12, .aload_n 0, 1), (13, .getfield 7, 3), (16, .sipush 360, 3), (19, .iconst 3, 1), (20, .aload_n 0, 1), (21, .getfield 7, 3), (24, .bipush 7, 2), (26, .iaload, 1), (27, .imul, 1), (28, .iadd, 1), (29, .aload_n 0, 1), (30, .getfield 7, 3), (33, .bipush 6, 2), (35, .iaload, 1), (36, .iastore, 1), (37, .aload_n 0, 1), (38, .getfield 7, 3), (41, .sipush 360, 3), (44, .iconst 3, 1), (45, .aload_n 0, 1), (46, .getfield 7, 3), (49, .bipush 7, 2), (51, .iaload, 1), (52, .imul, 1), (53, .iadd, 1), (54, .iconst 1, 1), (55, .iadd, 1), (56, .iload_n 1, 1), (57, .iastore, 1), (58, .aload_n 0, 1), (59, .getfield 7, 3), (62, .sipush 360, 3), (65, .iconst 3, 1), (66, .aload_n 0, 1), (67, .getfield 7, 3), (70, .bipush 7, 2), (72, .iaload, 1), (73, .imul, 1), (74, .iadd, 1), (75, .iconst 2, 1), (76, .iadd, 1), (77, .iload_n 2, 1), (78, .iastore, 1), (79, .aload_n 0, 1), (80, .getfield 7, 3), (83, .bipush 7, 2), (85, .dup2, 1), (86, .iaload, 1), (87, .iconst 1, 1), (88, .iadd, 1), (89, .iastore, 1), (90, .return_, 1)]
def mm_X11_logs : mu_M := (11, yX11_logs, cX11_logs, 3, none, 2, mc_X11_logs)
def mc_X11_tire : List (Nat × Instr × Nat) := [(0, .iconst 0, 1), (1, .istore_n 1, 1), (2, .iload_n 1, 1), (3, .aload_n 0, 1), (4, .getfield 7, 3), (7, .iconst 1, 1), (8, .iaload, 1), (9, .if_icmp .ge 116, 3), (12, .aload_n 0, 1), (13, .iload_n 1, 1), (14, .bipush 7, 2), (16, .invokevirtual 103, 3), (19, .ifCond .ne 100, 3), (22, .aload_n 0, 1), (23, .aload_n 0, 1), (24, .iload_n 1, 1), (25, .iconst 0, 1), (26, .invokevirtual 103, 3), (29, .invokevirtual 121, 3), (32, .istore_n 2, 1), (33, .aload_n 0, 1), (34, .iload_n 1, 1), (35, .iconst 1, 1), (36, .invokevirtual 103, 3), (39, .istore_n 3, 1), (40, .aload_n 0, 1), (41, .getfield 7, 3), (44, .iload_n 2, 1), (45, .iconst 2, 1), (46, .iadd, 1), (47, .bipush 99, 2), (49, .aload_n 0, 1), (50, .getfield 7, 3), (53, .iload_n 2, 1), (54, .iconst 2, 1), (55, .iadd, 1), (56, .iaload, 1), (57, .aload_n 0, 1), (58, .getfield 46, 3), (61, .iload_n 3, 1), (62, .iaload, 1), (63, .iadd, 1), (64, .invokestatic 192, 3), (67, .iastore, 1), (68, .aload_n 0, 1), (69, .getfield 7, 3), (72, .iload_n 2, 1), (73, .iconst 3, 1), (74, .iadd, 1), (75, .iaload, 1), (76, .ifCond .lt 43, 3), (79, .aload_n 0, 1), (80, .aload_n 0, 1), (81, .getfield 7, 3), (84, .iload_n 2, 1), (85, .iconst 3, 1), (86, .iadd, 1), (87, .iaload, 1), (88, .invokevirtual 360, 3), (91, .istore 4, 2), (93, .aload_n 0, 1), (94, .getfield 7, 3), (97, .iload 4, 2), (99, .bipush 99, 2), (101, .aload_n 0, 1), (102, .getfield 7, 3), (105, .iload 4, 2), (107, .iaload, 1), (108, .aload_n 0, 1), (109, .getfield 49, 3), (112, .iload_n 3, 1), (113, .iaload, 1), (114, .iadd, 1), (115, .invokestatic 192, 3), (118, .iastore, 1), (119, .iinc 1 1, 3), (122, .goto (-120), 3), (125, .return_, 1)]
def mm_X11_tire : mu_M := (11, yX11_tire, cX11_tire, 5, none, 0, mc_X11_tire)
def mc_X11_oneShow : List (Nat × Instr × Nat) := [(0, .iconst 0, 1), (1, .istore_n 1, 1), (2, .iload_n 1, 1), (3, .aload_n 0, 1), (4, .getfield 7, 3), (7, .iconst 0, 1), (8, .iaload, 1), (9, .if_icmp .ge 55, 3), (12, .aload_n 0, 1), (13, .getfield 7, 3), (16, .bipush 8, 2), (18, .aload_n 0, 1), (19, .getfield 7, 3), (22, .bipush 8, 2), (24, .iaload, 1), (25, .ldc_w 366, 3), (28, .imul, 1), (29, .sipush 12345, 3), (32, .iadd, 1), (33, .iastore, 1), (34, .aload_n 0, 1), (35, .getfield 58, 3), (38, .iload_n 1, 1), (39, .aload_n 0, 1), (40, .getfield 7, 3), (43, .bipush 8, 2), (45, .iaload, 1), (46, .bipush 8, 2), (48, .iushr, 1), (49, .aload_n 0, 1), (50, .iload_n 1, 1), (51, .invokevirtual 136, 3), (54, .iconst 1, 1), (55, .iadd, 1), (56, .irem, 1), (57, .iastore, 1), (58, .iinc 1 1, 3), (61, .goto (-59), 3), (64, .aload_n 0, 1), (65, .invokevirtual 183, 3), (68, .iconst 0, 1), (69, .istore_n 1, 1), (70, .iconst 0, 1), (71, .istore_n 2, 1), (72, .iload_n 2, 1), (73, .aload_n 0, 1), (74, .getfield 7, 3), (77, .iconst 1, 1), (78, .iaload, 1), (79, .if_icmp .ge 87, 3), (82, .iconst 0, 1), (83, .istore_n 3, 1), (84, .iload_n 3, 1), (85, .aload_n 0, 1), (86, .getfield 7, 3), (89, .iconst 0, 1), (90, .iaload, 1), (91, .if_icmp .ge 69, 3), (94, .aload_n 0, 1), (95, .iload_n 2, 1), (96, .invokevirtual 211, 3), (99, .ifCond .eq 61, 3), (102, .iload_n 3, 1), (103, .aload_n 0, 1), (104, .iload_n 2, 1), (105, .iconst 0, 1), (106, .invokevirtual 103, 3), (109, .if_icmp .eq 45, 3), (112, .aload_n 0, 1), (113, .iload_n 2, 1), (114, .iload_n 3, 1), (115, .aload_n 0, 1), (116, .getfield 58, 3), (119, .aload_n 0, 1), (120, .iload_n 2, 1), (121, .iconst 0, 1), (122, .invokevirtual 103, 3), (125, .iaload, 1), (126, .aload_n 0, 1), (127, .getfield 58, 3), (130, .iload_n 3, 1), (131, .iaload, 1), (132, .isub, 1), (133, .invokevirtual 195, 3), (136, .aload_n 0, 1), (137, .iload_n 2, 1), (138, .iload_n 3, 1), (139, .invokevirtual 202, 3), (142, .if_icmp .ge 12, 3), (145, .aload_n 0, 1), (146, .iload_n 2, 1), (147, .iload_n 3, 1), (148, .invokevirtual 367, 3), (151, .iinc 1 1, 3), (154, .iinc 3 1, 3), (157, .goto (-73), 3), (160, .iinc 2 1, 3), (163, .goto (-91), 3), (166, .aload_n 0, 1), (167, .invokevirtual 370, 3), (170, .aload_n 0, 1), (171, .invokevirtual 86, 3), (174, .aload_n 0, 1), (175, .getfield 7, 3), (178, .bipush 6, 2), (180, .dup2, 1), (181, .iaload, 1), (182, .iconst 1, 1), (183, .iadd, 1), (184, .iastore, 1), (185, .iload_n 1, 1), (186, .ireturn, 1)]
def mm_X11_oneShow : mu_M := (11, yX11_oneShow, cX11_oneShow, 4, (some .int), 0, mc_X11_oneShow)
def mc_X11_show : List (Nat × Instr × Nat) := [(0, .iload_n 1, 1), (1, .i2l, 1), (2, .lconst 1, 1), (3, .ldc2_w 373, 3), (6, .invokestatic 89, 3), (9, .ifCond .ne 6, 3), (12, .ldc 119, 2), (14, .ireturn, 1), (15, .aload_n 0, 1), (16, .getfield 7, 3), (19, .bipush 6, 2), (21, .iaload, 1), (22, .iload_n 1, 1), (23, .iadd, 1), (24, .sipush 999, 3), (27, .if_icmp .le 6, 3), (30, .ldc 120, 2), (32, .ireturn, 1), (33, .iconst 0, 1), (34, .istore_n 2, 1), (35, .iconst 0, 1), (36, .istore_n 3, 1), (37, .iload_n 3, 1), (38, .iload_n 1, 1), (39, .if_icmp .ge 16, 3), (42, .iload_n 2, 1), (43, .aload_n 0, 1), (44, .invokevirtual 375, 3), (47, .iadd, 1), (48, .istore_n 2, 1), (49, .iinc 3 1, 3), (52, .goto (-15), 3), (55, .iload_n 2, 1), (56, .ireturn, 1)]
def mm_X11_show : mu_M := (11, yX11_show, cX11_show, 4, (some .int), 1, mc_X11_show)
def mc_X11_restAll : List (Nat × Instr × Nat) := [(0, .iconst 0, 1), (1, .istore_n 1, 1), (2, .iconst 0, 1), (3, .istore_n 2, 1), (4, .iload_n 2, 1), (5, .aload_n 0, 1), (6, .getfield 7, 3), (9, .iconst 0, 1), (10, .iaload, 1), (11, .if_icmp .ge 54, 3), (14, .aload_n 0, 1), (15, .iload_n 2, 1), (16, .invokevirtual 121, 3), (19, .iconst 2, 1), (20, .iadd, 1), (21, .istore_n 3, 1), (22, .aload_n 0, 1), (23, .getfield 7, 3), (26, .iload_n 3, 1), (27, .aload_n 0, 1), (28, .getfield 7, 3), (31, .iload_n 3, 1), (32, .iaload, 1), (33, .bipush 10, 2), (35, .isub, 1), (36, .bipush 99, 2), (38, .invokestatic 130, 3), (41, .iastore, 1), (42, .iload_n 1, 1), (43, .aload_n 0, 1), (44, .getfield 7, 3), (47, .iload_n 3, 1), (48, .iaload, 1), (49, .ifCond .le 7, 3), (52, .iconst 1, 1), (53, .goto 4, 3), (56, .iconst 0, 1), (57, .iadd, 1), (58, .istore_n 1, 1), (59, .iinc 2 1, 3), (62, .goto (-58), 3), (65, .aload_n 0, 1), (66, .invokevirtual 86, 3), (69, .iload_n 1, 1), (70, .ireturn, 1)]
def mm_X11_restAll : mu_M := (11, yX11_restAll, cX11_restAll, 4, (some .int), 0, mc_X11_restAll)
def mc_X11_log : List (Nat × Instr × Nat) := [(0, .iload_n 1, 1), (1, .ifCond .lt 15, 3), (4, .iload_n 2, 1), (5, .i2l, 1), (6, .lconst 0, 1), (7, .ldc2_w 99, 3), (10, .invokestatic 89, 3), (13, .ifCond .ne 6, 3), (16, .ldc 119, 2), (18, .ireturn, 1), (19, .iload_n 1, 1), (20, .aload_n 0, 1), (21, .getfield 7, 3), (24, .bipush 7, 2), (26, .iaload, 1), (27, .if_icmp .ge 20, 3), (30, .aload_n 0, 1), (31, .getfield 7, 3), (34, .sipush 360, 3), (37, .iconst 3, 1), (38, .iload_n 1, 1), (39, .imul, 1), (40, .iadd, 1), (41, .iload_n 2, 1), (42, .iadd, 1), (43, .iaload, 1), (44, .goto 5, 3), (47, .ldc 85, 2), (49, .ireturn, 1)]
def mm_X11_log : mu_M := (11, yX11_log, cX11_log, 3, (some .int), 2, mc_X11_log)
def mc_X11_missesOf : List (Nat × Instr × Nat) := [(0, .iconst 0, 1), (1, .istore_n 2, 1), (2, .iconst 0, 1), (3, .istore_n 3, 1), (4, .iload_n 3, 1), (5, .aload_n 0, 1), (6, .getfield 7, 3), (9, .bipush 7, 2), (11, .iaload, 1), (12, .if_icmp .ge 35, 3), (15, .iload_n 2, 1), (16, .aload_n 0, 1), (17, .getfield 7, 3), (20, .sipush 360, 3), (23, .iconst 3, 1), (24, .iload_n 3, 1), (25, .imul, 1), (26, .iadd, 1), (27, .iconst 1, 1), (28, .iadd, 1), (29, .iaload, 1), (30, .iload_n 1, 1), (31, .if_icmp .ne 7, 3), (34, .iconst 1, 1), (35, .goto 4, 3), (38, .iconst 0, 1), (39, .iadd, 1), (40, .istore_n 2, 1), (41, .iinc 3 1, 3), (44, .goto (-40), 3), (47, .iload_n 2, 1), (48, .ireturn, 1)]
def mm_X11_missesOf : mu_M := (11, yX11_missesOf, cX11_missesOf, 4, (some .int), 1, mc_X11_missesOf)
def mc_X11_led : List (Nat × Instr × Nat) := [(0, .iconst (-1), 1), (1, .istore_n 1, 1), (2, .iconst 0, 1), (3, .istore_n 2, 1), (4, .iload_n 2, 1), (5, .aload_n 0, 1), (6, .getfield 7, 3), (9, .iconst 1, 1), (10, .iaload, 1), (11, .if_icmp .ge 38, 3), (14, .aload_n 0, 1), (15, .iload_n 2, 1), (16, .invokevirtual 378, 3), (19, .istore_n 3, 1), (20, .iload_n 3, 1), (21, .ifCond .le 20, 3), (24, .iload_n 1, 1), (25, .ifCond .lt 12, 3), (28, .iload_n 3, 1), (29, .aload_n 0, 1), (30, .iload_n 1, 1), (31, .invokevirtual 378, 3), (34, .if_icmp .le 7, 3), (37, .iload_n 2, 1), (38, .goto 4, 3), (41, .iload_n 1, 1), (42, .istore_n 1, 1), (43, .iinc 2 1, 3), (46, .goto (-42), 3), (49, .iload_n 1, 1), (50, .invokestatic 139, 3), (53, .ireturn, 1)]
def mm_X11_led : mu_M := (11, yX11_led, cX11_led, 4, (some .int), 0, mc_X11_led)
def mc_X11_isSheet : List (Nat × Instr × Nat) := [(0, .iload_n 0, 1), (1, .i2l, 1), (2, .lconst 0, 1), (3, .ldc2_w 218, 3), (6, .invokestatic 89, 3), (9, .ireturn, 1)]
def mm_X11_isSheet : mu_M := (11, yX11_isSheet, cX11_isSheet, 1, (some .boolean), 1, mc_X11_isSheet)
def mc_X11_sheet : List (Nat × Instr × Nat) := [(0, .iload_n 1, 1), (1, .invokestatic 381, 3), (4, .ifCond .eq 25, 3), (7, .iload_n 2, 1), (8, .i2l, 1), (9, .ldc2_w 355, 3), (12, .lconst 1, 1), (13, .invokestatic 89, 3), (16, .ifCond .eq 13, 3), (19, .iload_n 2, 1), (20, .ifCond .lt 12, 3), (23, .iload_n 3, 1), (24, .bipush 24, 2), (26, .if_icmp .le 6, 3), (29, .ldc 119, 2), (31, .ireturn, 1), (32, .iload_n 2, 1), (33, .ifCond .lt 11, 3), (36, .iload_n 3, 1), (37, .ifCond .ge 7, 3), (40, .ldc_w 384, 3), (43, .ireturn, 1), (44, .aload_n 0, 1), (45, .getfield 19, 3), (48, .iload_n 1, 1), (49, .iload_n 2, 1), (50, .iastore, 1), (51, .aload_n 0, 1), (52, .getfield 22, 3), (55, .iload_n 1, 1), (56, .iload_n 2, 1), (57, .ifCond .ge 7, 3), (60, .iconst 0, 1), (61, .goto 4, 3), (64, .iload_n 3, 1), (65, .iastore, 1), (66, .iconst 0, 1), (67, .istore 4, 2), (69, .iload 4, 2), (71, .bipush 24, 2), (73, .if_icmp .ge 22, 3), (76, .aload_n 0, 1), (77, .getfield 25, 3), (80, .bipush 24, 2), (82, .iload_n 1, 1), (83, .imul, 1), (84, .iload 4, 2), (86, .iadd, 1), (87, .iconst 0, 1), (88, .iastore, 1), (89, .iinc 4 1, 3), (92, .goto (-23), 3), (95, .aload_n 0, 1), (96, .getfield 22, 3), (99, .iload_n 1, 1), (100, .iaload, 1), (101, .ireturn, 1)]
def mm_X11_sheet : mu_M := (11, yX11_sheet, cX11_sheet, 5, (some .int), 3, mc_X11_sheet)
def mc_X11_mark : List (Nat × Instr × Nat) := [(0, .iload_n 1, 1), (1, .invokestatic 381, 3), (4, .ifCond .ne 6, 3), (7, .ldc 119, 2), (9, .ireturn, 1), (10, .aload_n 0, 1), (11, .getfield 19, 3), (14, .iload_n 1, 1), (15, .iaload, 1), (16, .ifCond .ge 7, 3), (19, .ldc_w 385, 3), (22, .ireturn, 1), (23, .iload_n 2, 1), (24, .i2l, 1), (25, .lconst 0, 1), (26, .aload_n 0, 1), (27, .getfield 22, 3), (30, .iload_n 1, 1), (31, .iaload, 1), (32, .iconst 1, 1), (33, .isub, 1), (34, .i2l, 1), (35, .invokestatic 89, 3), (38, .ifCond .ne 7, 3), (41, .ldc_w 386, 3), (44, .ireturn, 1), (45, .aload_n 0, 1), (46, .getfield 25, 3), (49, .bipush 24, 2), (51, .iload_n 1, 1), (52, .imul, 1), (53, .iload_n 2, 1), (54, .iadd, 1), (55, .iaload, 1), (56, .istore 4, 2), (58, .aload_n 0, 1), (59, .getfield 25, 3), (62, .bipush 24, 2), (64, .iload_n 1, 1), (65, .imul, 1), (66, .iload_n 2, 1), (67, .iadd, 1), (68, .aload_n 0, 1), (69, .getfield 19, 3), (72, .iload_n 1, 1), (73, .iaload, 1), (74, .ifCond .ne 13, 3), (77, .iload_n 3, 1), (78, .bipush 24, 2), (80, .ishl, 1), (81, .bipush 24, 2), (83, .ishr, 1), (84, .goto 12, 3), (87, .iload_n 3, 1), (88, .ifCond .eq 7, 3), (91, .iconst 1, 1), (92, .goto 4, 3), (95, .iconst 0, 1), (96, .iastore, 1), (97, .iload 4, 2), (99, .ireturn, 1)]
def mm_X11_mark : mu_M := (11, yX11_mark, cX11_mark, 5, (some .int), 3, mc_X11_mark)
def mc_X11_cuts : List (Nat × Instr × Nat) := [(0, .iload_n 1, 1), (1, .invokestatic 381, 3), (4, .ifCond .ne 6, 3), (7, .ldc 119, 2), (9, .ireturn, 1), (10, .aload_n 0, 1), (11, .getfield 19, 3), (14, .iload_n 1, 1), (15, .iaload, 1), (16, .ifCond .ge 7, 3), (19, .ldc_w 385, 3), (22, .ireturn, 1), (23, .iconst 0, 1), (24, .istore_n 2, 1), (25, .iconst 0, 1), (26, .istore_n 3, 1), (27, .iload_n 3, 1), (28, .aload_n 0, 1), (29, .getfield 7, 3), (32, .iconst 1, 1), (33, .iaload, 1), (34, .aload_n 0, 1), (35, .getfield 22, 3), (38, .iload_n 1, 1), (39, .iaload, 1), (40, .invokestatic 192, 3), (43, .if_icmp .ge 57, 3), (46, .aload_n 0, 1), (47, .getfield 25, 3), (50, .bipush 24, 2), (52, .iload_n 1, 1), (53, .imul, 1), (54, .iload_n 3, 1), (55, .iadd, 1), (56, .iaload, 1), (57, .ifCond .eq 7, 3), (60, .iconst 1, 1), (61, .goto 4, 3), (64, .iconst 0, 1), (65, .istore 4, 2), (67, .iload_n 2, 1), (68, .aload_n 0, 1), (69, .aload_n 0, 1), (70, .iload_n 3, 1), (71, .invokevirtual 95, 3), (74, .bipush 7, 2), (76, .iadd, 1), (77, .iload 4, 2), (79, .invokevirtual 144, 3), (82, .iload 4, 2), (84, .if_icmp .ne 7, 3), (87, .iconst 0, 1), (88, .goto 4, 3), (91, .iconst 1, 1), (92, .iadd, 1), (93, .istore_n 2, 1), (94, .iinc 3 1, 3), (97, .goto (-70), 3), (100, .iload_n 2, 1), (101, .ireturn, 1)]
def mm_X11_cuts : mu_M := (11, yX11_cuts, cX11_cuts, 5, (some .int), 1, mc_X11_cuts)
def mc_X11_copy : List (Nat × Instr × Nat) := [(0, .iload_n 1, 1), (1, .invokestatic 381, 3), (4, .ifCond .eq 10, 3), (7, .iload_n 3, 1), (8, .invokestatic 381, 3), (11, .ifCond .ne 6, 3), (14, .ldc 119, 2), (16, .ireturn, 1), (17, .aload_n 0, 1), (18, .getfield 19, 3), (21, .iload_n 1, 1), (22, .iaload, 1), (23, .ifCond .lt 12, 3), (26, .aload_n 0, 1), (27, .getfield 19, 3), (30, .iload_n 3, 1), (31, .iaload, 1), (32, .ifCond .ge 7, 3), (35, .ldc_w 385, 3), (38, .ireturn, 1), (39, .aload_n 0, 1), (40, .getfield 19, 3), (43, .iload_n 1, 1), (44, .iaload, 1), (45, .aload_n 0, 1), (46, .getfield 19, 3), (49, .iload_n 3, 1), (50, .iaload, 1), (51, .if_icmp .eq 6, 3), (54, .ldc 166, 2), (56, .ireturn, 1), (57, .iload_n 2, 1), (58, .ifCond .lt 48, 3), (61, .iload 4, 2), (63, .ifCond .lt 43, 3), (66, .iload 5, 2), (68, .ifCond .lt 38, 3), (71, .iload_n 2, 1), (72, .i2l, 1), (73, .iload 5, 2), (75, .i2l, 1), (76, .ladd, 1), (77, .aload_n 0, 1), (78, .getfield 22, 3), (81, .iload_n 1, 1), (82, .iaload, 1), (83, .i2l, 1), (84, .lcmp, 1), (85, .ifCond .gt 21, 3), (88, .iload 4, 2), (90, .i2l, 1), (91, .iload 5, 2), (93, .i2l, 1), (94, .ladd, 1), (95, .aload_n 0, 1), (96, .getfield 22, 3), (99, .iload_n 3, 1), (100, .iaload, 1), (101, .i2l, 1), (102, .lcmp, 1), (103, .ifCond .le 7, 3), (106, .ldc_w 386, 3), (109, .ireturn, 1), (110, .iconst 0, 1), (111, .istore 6, 2), (113, .iload 6, 2), (115, .iload 5, 2), (117, .if_icmp .ge 30, 3), (120, .aload_n 0, 1), (121, .getfield 76, 3), (124, .iload 6, 2), (126, .aload_n 0, 1), (127, .getfield 25, 3), (130, .bipush 24, 2), (132, .iload_n 1, 1), (133, .imul, 1), (134, .iload_n 2, 1), (135, .iadd, 1), (136, .iload 6, 2), (138, .iadd, 1), (139, .iaload, 1), (140, .iastore, 1), (141, .iinc 6 1, 3), (144, .goto (-31), 3), (147, .iconst 0, 1), (148, .istore 6, 2), (150, .iload 6, 2), (152, .iload 5, 2), (154, .if_icmp .ge 31, 3), (157, .aload_n 0, 1), (158, .getfield 25, 3), (161, .bipush 24, 2), (163, .iload_n 3, 1), (164, .imul, 1), (165, .iload 4, 2), (167, .iadd, 1), (168, .iload 6, 2), (170, .iadd, 1), (171, .aload_n 0, 1), (172, .getfield 76, 3), (175, .iload 6, 2), (177, .iaload, 1), (178, .iastore, 1), (179, .iinc 6 1, 3), (182, .goto (-32), 3), (185, .iload 5, 2), (187, .ireturn, 1)]
def mm_X11_copy : mu_M := (11, yX11_copy, cX11_copy, 7, (some .int), 5, mc_X11_copy)
def mc_X11_isSlot : List (Nat × Instr × Nat) := [(0, .iload_n 0, 1), (1, .i2l, 1), (2, .lconst 0, 1), (3, .ldc2_w 101, 3), (6, .invokestatic 89, 3), (9, .ireturn, 1)]
def mm_X11_isSlot : mu_M := (11, yX11_isSlot, cX11_isSlot, 1, (some .boolean), 1, mc_X11_isSlot)
def mc_X11_lay : List (Nat × Instr × Nat) := [(0, .iload_n 2, 1), (1, .ifCond .eq 33, 3), (4, .iload_n 2, 1), (5, .iconst 3, 1), (6, .if_icmp .eq 28, 3), (9, .iload_n 2, 1), (10, .iconst 1, 1), (11, .if_icmp .ne 11, 3), (14, .aload_n 0, 1), (15, .iload_n 3, 1), (16, .invokevirtual 156, 3), (19, .ifCond .ne 15, 3), (22, .iload_n 2, 1), (23, .iconst 2, 1), (24, .if_icmp .ne 14, 3), (27, .iload_n 3, 1), (28, .invokestatic 381, 3), (31, .ifCond .eq 7, 3), (34, .iconst 1, 1), (35, .goto 4, 3), (38, .iconst 0, 1), (39, .istore 4, 2), (41, .iload_n 1, 1), (42, .invokestatic 387, 3), (45, .ifCond .eq 8, 3), (48, .iload 4, 2), (50, .ifCond .ne 6, 3), (53, .ldc 119, 2), (55, .ireturn, 1), (56, .iload_n 2, 1), (57, .iconst 2, 1), (58, .if_icmp .ne 16, 3), (61, .aload_n 0, 1), (62, .getfield 19, 3), (65, .iload_n 3, 1), (66, .iaload, 1), (67, .ifCond .ge 7, 3), (70, .ldc_w 385, 3), (73, .ireturn, 1), (74, .aload_n 0, 1), (75, .getfield 28, 3), (78, .iload_n 1, 1), (79, .iaload, 1), (80, .istore 5, 2), (82, .aload_n 0, 1), (83, .getfield 28, 3), (86, .iload_n 1, 1), (87, .iload_n 2, 1), (88, .iastore, 1), (89, .aload_n 0, 1), (90, .getfield 31, 3), (93, .iload_n 1, 1), (94, .iload_n 2, 1), (95, .iconst 1, 1), (96, .if_icmp .ne 12, 3), (99, .aload_n 0, 1), (100, .iload_n 3, 1), (101, .iconst 1, 1), (102, .invokevirtual 103, 3), (105, .goto 4, 3), (108, .iload_n 3, 1), (109, .iastore, 1), (110, .iload_n 2, 1), (111, .iconst 2, 1), (112, .if_icmp .ne 55, 3), (115, .aload_n 0, 1), (116, .getfield 34, 3), (119, .iload_n 1, 1), (120, .aload_n 0, 1), (121, .getfield 22, 3), (124, .iload_n 3, 1), (125, .iaload, 1), (126, .iastore, 1), (127, .iconst 0, 1), (128, .istore 6, 2), (130, .iload 6, 2), (132, .bipush 24, 2), (134, .if_icmp .ge 33, 3), (137, .aload_n 0, 1), (138, .getfield 37, 3), (141, .bipush 24, 2), (143, .iload_n 1, 1), (144, .imul, 1), (145, .iload 6, 2), (147, .iadd, 1), (148, .aload_n 0, 1), (149, .getfield 25, 3), (152, .bipush 24, 2), (154, .iload_n 3, 1), (155, .imul, 1), (156, .iload 6, 2), (158, .iadd, 1), (159, .iaload, 1), (160, .iastore, 1), (161, .iinc 6 1, 3), (164, .goto (-34), 3), (167, .iload 5, 2), (169, .ireturn, 1)]
def mm_X11_lay : mu_M := (11, yX11_lay, cX11_lay, 7, (some .int), 3, mc_X11_lay)
def mc_X11_ask : List (Nat × Instr × Nat) := [(0, .iload_n 1, 1), (1, .invokestatic 387, 3), (4, .ifCond .eq 15, 3), (7, .iload_n 2, 1), (8, .i2l, 1), (9, .lconst 0, 1), (10, .ldc2_w 149, 3), (13, .invokestatic 89, 3), (16, .ifCond .ne 6, 3), (19, .ldc 119, 2), (21, .ireturn, 1), (22, .aload_n 0, 1), (23, .getfield 28, 3), (26, .iload_n 1, 1), (27, .iaload, 1), (28, .ifCond .ne 7, 3), (31, .ldc_w 385, 3), (34, .ireturn, 1), (35, .aload_n 0, 1), (36, .getfield 28, 3), (39, .iload_n 1, 1), (40, .iaload, 1), (41, .iconst 1, 1), (42, .if_icmp .ne 30, 3), (45, .aload_n 0, 1), (46, .getfield 31, 3), (49, .iload_n 1, 1), (50, .iaload, 1), (51, .iload_n 2, 1), (52, .invokestatic 162, 3), (55, .ifCond .eq 17, 3), (58, .aload_n 0, 1), (59, .getfield 43, 3), (62, .aload_n 0, 1), (63, .getfield 31, 3), (66, .iload_n 1, 1), (67, .iaload, 1), (68, .iaload, 1), (69, .goto 5, 3), (72, .ldc 166, 2), (74, .ireturn, 1)]
def mm_X11_ask : mu_M := (11, yX11_ask, cX11_ask, 3, (some .int), 2, mc_X11_ask)
def mc_X11_item : List (Nat × Instr × Nat) := [(0, .iload_n 1, 1), (1, .invokestatic 387, 3), (4, .ifCond .ne 6, 3), (7, .ldc 119, 2), (9, .ireturn, 1), (10, .aload_n 0, 1), (11, .getfield 28, 3), (14, .iload_n 1, 1), (15, .iaload, 1), (16, .iconst 2, 1), (17, .if_icmp .eq 21, 3), (20, .aload_n 0, 1), (21, .getfield 28, 3), (24, .iload_n 1, 1), (25, .iaload, 1), (26, .ifCond .ne 9, 3), (29, .ldc_w 385, 3), (32, .goto 5, 3), (35, .ldc 166, 2), (37, .ireturn, 1), (38, .iload_n 2, 1), (39, .i2l, 1), (40, .lconst 0, 1), (41, .aload_n 0, 1), (42, .getfield 34, 3), (45, .iload_n 1, 1), (46, .iaload, 1), (47, .iconst 1, 1), (48, .isub, 1), (49, .i2l, 1), (50, .invokestatic 89, 3), (53, .ifCond .eq 17, 3), (56, .aload_n 0, 1), (57, .getfield 37, 3), (60, .bipush 24, 2), (62, .iload_n 1, 1), (63, .imul, 1), (64, .iload_n 2, 1), (65, .iadd, 1), (66, .iaload, 1), (67, .goto 6, 3), (70, .ldc_w 386, 3), (73, .ireturn, 1)]
def mm_X11_item : mu_M := (11, yX11_item, cX11_item, 3, (some .int), 2, mc_X11_item)
def mc_X11_rest : List (Nat × Instr × Nat) := [(0, .iload_n 1, 1), (1, .invokestatic 387, 3), (4, .ifCond .ne 6, 3), (7, .ldc 119, 2), (9, .ireturn, 1), (10, .aload_n 0, 1), (11, .getfield 28, 3), (14, .iload_n 1, 1), (15, .iaload, 1), (16, .iconst 3, 1), (17, .if_icmp .eq 21, 3), (20, .aload_n 0, 1), (21, .getfield 28, 3), (24, .iload_n 1, 1), (25, .iaload, 1), (26, .ifCond .ne 9, 3), (29, .ldc_w 385, 3), (32, .goto 5, 3), (35, .ldc 166, 2), (37, .ireturn, 1), (38, .iload_n 2, 1), (39, .ifCond .ne 8, 3), (42, .ldc 155, 2), (44, .goto 11, 3), (47, .aload_n 0, 1), (48, .getfield 31, 3), (51, .iload_n 1, 1), (52, .iaload, 1), (53, .iload_n 2, 1), (54, .irem, 1), (55, .ireturn, 1)]
def mm_X11_rest : mu_M := (11, yX11_rest, cX11_rest, 3, (some .int), 2, mc_X11_rest)
def mc_X11_tell : List (Nat × Instr × Nat) := [(0, .aload_n 0, 1), (1, .getfield 390, 3), (4, .bipush 60, 2), (6, .if_icmp .ne 6, 3), (9, .ldc 120, 2), (11, .ireturn, 1), (12, .aload_n 0, 1), (13, .getfield 79, 3), (16, .aload_n 0, 1), (17, .getfield 390, 3), (20, .iload_n 1, 1), (21, .iastore, 1), (22, .aload_n 0, 1), (23, .dup, 1), (24, .getfield 390, 3), (27, .iconst 1, 1), (28, .iadd, 1), (29, .putfield 390, 3), (32, .aload_n 0, 1), (33, .getfield 390, 3), (36, .ireturn, 1)]
def mm_X11_tell : mu_M := (11, yX11_tell, cX11_tell, 2, (some .int), 1, mc_X11_tell)
def mc_X11_setAside : List (Nat × Instr × Nat) := [(0, .iconst 0, 1), (1, .istore_n 3, 1), (2, .iload_n 3, 1), (3, .sipush 3470, 3), (6, .if_icmp .ge 15, 3), (9, .aload_n 2, 1), (10, .iload_n 3, 1), (11, .aload_n 1, 1), (12, .iload_n 3, 1), (13, .iaload, 1), (14, .iastore, 1), (15, .iinc 3 1, 3), (18, .goto (-16), 3), (21, .return_, 1)]
def mm_X11_setAside : mu_M := (11, yX11_setAside, cX11_setAside, 4, none, 2, mc_X11_setAside)
def mc_X11_check : List (Nat × Instr × Nat) := [(0, .aload_n 0, 1), (1, .getfield 390, 3), (4, .istore_n 2, 1), (5, .aload_n 0, 1), (6, .iconst 0, 1), (7, .putfield 390, 3), (10, .iload_n 1, 1), (11, .i2l, 1), (12, .lconst 1, 1), (13, .ldc2_w 373, 3), (16, .invokestatic 89, 3), (19, .ifCond .ne 6, 3), (22, .ldc 119, 2), (24, .ireturn, 1), (25, .aload_n 0, 1), (26, .getfield 393, 3), (29, .ifCond .ne 6, 3), (32, .ldc 155, 2), (34, .ireturn, 1), (35, .aload_n 0, 1), (36, .aload_n 0, 1), (37, .getfield 7, 3), (40, .aload_n 0, 1), (41, .getfield 16, 3), (44, .invokevirtual 396, 3), (47, .aload_n 0, 1), (48, .aload_n 0, 1), (49, .getfield 13, 3), (52, .aload_n 0, 1), (53, .getfield 7, 3), (56, .invokevirtual 396, 3), (59, .aload_n 0, 1), (60, .invokevirtual 86, 3), (63, .iconst 0, 1), (64, .istore_n 3, 1), (65, .iload_n 3, 1), (66, .iload_n 1, 1), (67, .if_icmp .ge 78, 3), (70, .aload_n 0, 1), (71, .getfield 82, 3), (74, .iconst 2, 1), (75, .iload_n 3, 1), (76, .imul, 1), (77, .aload_n 0, 1), (78, .invokevirtual 375, 3), (81, .iastore, 1), (82, .aload_n 0, 1), (83, .getfield 82, 3), (86, .iconst 2, 1), (87, .iload_n 3, 1), (88, .imul, 1), (89, .iconst 1, 1), (90, .iadd, 1), (91, .iconst 0, 1), (92, .iastore, 1), (93, .iconst 0, 1), (94, .istore 4, 2), (96, .iload 4, 2), (98, .aload_n 0, 1), (99, .getfield 7, 3), (102, .iconst 0, 1), (103, .iaload, 1), (104, .if_icmp .ge 35, 3), (107, .aload_n 0, 1), (108, .getfield 82, 3), (111, .iconst 2, 1), (112, .iload_n 3, 1), (113, .imul, 1), (114, .iconst 1, 1), (115, .iadd, 1), (116, .dup2, 1), (117, .iaload, 1), (118, .aload_n 0, 1), (119, .getfield 7, 3), (122, .aload_n 0, 1), (123, .iload 4, 2), (125, .invokevirtual 121, 3), (128, .iconst 2, 1), (129, .iadd, 1), (130, .iaload, 1), (131, .iadd, 1), (132, .iastore, 1), (133, .iinc 4 1, 3), (136, .goto (-40), 3), (139, .iinc 3 1, 3), (142, .goto (-77), 3), (145, .aload_n 0, 1), (146, .aload_n 0, 1), (147, .getfield 16, 3), (150, .aload_n 0, 1), (151, .getfield 7, 3), (154, .invokevirtual 396, 3), (157, .aload_n 0, 1), (158, .invokevirtual 86, 3), (161, .iconst 0, 1), (162, .istore_n 3, 1), (163, .iload_n 3, 1), (164, .iload_n 2, 1), (165, .if_icmp .ge 31, 3), (168, .iload_n 3, 1), (169, .iconst 2, 1), (170, .iload_n 1, 1), (171, .imul, 1), (172, .if_icmp .ge 24, 3), (175, .aload_n 0, 1), (176, .getfield 79, 3), (179, .iload_n 3, 1), (180, .iaload, 1), (181, .aload_n 0, 1), (182, .getfield 82, 3), (185, .iload_n 3, 1), (186, .iaload, 1), (187, .if_icmp .ne 9, 3), (190, .iinc 3 1, 3), (193, .goto (-30), 3), (196, .iload_n 3, 1), (197, .iload_n 2, 1), (198, .if_icmp .ne 14, 3), (201, .iload_n 3, 1), (202, .iconst 2, 1), (203, .iload_n 1, 1), (204, .imul, 1), (205, .if_icmp .ne 7, 3), (208, .iconst 0, 1), (209, .goto 6, 3), (212, .iconst 1, 1), (213, .iload_n 3, 1), (214, .iadd, 1), (215, .ireturn, 1)]
def mm_X11_check : mu_M := (11, yX11_check, cX11_check, 5, (some .int), 1, mc_X11_check)
def mc_X11_keep : List (Nat × Instr × Nat) := [(0, .aload_n 0, 1), (1, .iconst 1, 1), (2, .putfield 393, 3), (5, .aload_n 0, 1), (6, .aload_n 0, 1), (7, .getfield 7, 3), (10, .aload_n 0, 1), (11, .getfield 13, 3), (14, .invokevirtual 396, 3), (17, .aload_n 0, 1), (18, .getfield 7, 3), (21, .bipush 6, 2), (23, .iaload, 1), (24, .ireturn, 1)]
def mm_X11_keep : mu_M := (11, yX11_keep, cX11_keep, 1, (some .int), 0, mc_X11_keep)
def mc_X11_back : List (Nat × Instr × Nat) := [(0, .aload_n 0, 1), (1, .getfield 393, 3), (4, .ifCond .ne 6, 3), (7, .ldc 155, 2), (9, .ireturn, 1), (10, .aload_n 0, 1), (11, .aload_n 0, 1), (12, .getfield 13, 3), (15, .aload_n 0, 1), (16, .getfield 7, 3), (19, .invokevirtual 396, 3), (22, .aload_n 0, 1), (23, .invokevirtual 86, 3), (26, .aload_n 0, 1), (27, .getfield 7, 3), (30, .bipush 6, 2), (32, .iaload, 1), (33, .ireturn, 1)]
def mm_X11_back : mu_M := (11, yX11_back, cX11_back, 1, (some .int), 0, mc_X11_back)
def mc_X11_count : List (Nat × Instr × Nat) := [(0, .iconst 0, 1), (1, .istore_n 2, 1), (2, .iload_n 1, 1), (3, .tableswitch 243 0 13 #[69, 76, 83, 83, 138, 145, 152, 159, 166, 209, 217, 225, 230, 235], 69), (72, .aload_n 0, 1), (73, .getfield 7, 3), (76, .iconst 0, 1), (77, .iaload, 1), (78, .ireturn, 1), (79, .aload_n 0, 1), (80, .getfield 7, 3), (83, .iconst 1, 1), (84, .iaload, 1), (85, .ireturn, 1), (86, .iconst 0, 1), (87, .istore_n 3, 1), (88, .iload_n 3, 1), (89, .aload_n 0, 1), (90, .getfield 7, 3), (93, .iconst 1, 1), (94, .iaload, 1), (95, .if_icmp .ge 44, 3), (98, .iload_n 2, 1), (99, .iload_n 1, 1), (100, .iconst 2, 1), (101, .if_icmp .ne 17, 3), (104, .aload_n 0, 1), (105, .iload_n 3, 1), (106, .bipush 7, 2), (108, .invokevirtual 103, 3), (111, .iconst 1, 1), (112, .if_icmp .ne 18, 3), (115, .goto 11, 3), (118, .aload_n 0, 1), (119, .iload_n 3, 1), (120, .invokevirtual 111, 3), (123, .ifCond .eq 7, 3), (126, .iconst 1, 1), (127, .goto 4, 3), (130, .iconst 0, 1), (131, .iadd, 1), (132, .istore_n 2, 1), (133, .iinc 3 1, 3), (136, .goto (-48), 3), (139, .iload_n 2, 1), (140, .ireturn, 1), (141, .aload_n 0, 1), (142, .getfield 7, 3), (145, .iconst 2, 1), (146, .iaload, 1), (147, .ireturn, 1), (148, .aload_n 0, 1), (149, .getfield 7, 3), (152, .iconst 3, 1), (153, .iaload, 1), (154, .ireturn, 1), (155, .aload_n 0, 1), (156, .getfield 7, 3), (159, .iconst 4, 1), (160, .iaload, 1), (161, .ireturn, 1), (162, .aload_n 0, 1), (163, .getfield 7, 3), (166, .iconst 5, 1), (167, .iaload, 1), (168, .ireturn, 1), (169, .iconst 0, 1), (170, .istore_n 3, 1), (171, .iload_n 3, 1), (172, .aload_n 0, 1), (173, .getfield 7, 3), (176, .iconst 5, 1), (177, .iaload, 1), (178, .if_icmp .ge 32, 3), (181, .iload_n 2, 1), (182, .aload_n 0, 1), (183, .getfield 7, 3), (186, .aload_n 0, 1), (187, .iload_n 3, 1), (188, .invokevirtual 360, 3), (191, .iconst 1, 1), (192, .iadd, 1), (193, .iaload, 1), (194, .ifCond .lt 7, 3), (197, .iconst 1, 1), (198, .goto 4, 3), (201, .iconst 0, 1), (202, .iadd, 1), (203, .istore_n 2, 1), (204, .iinc 3 1, 3), (207, .goto (-36), 3), (210, .iload_n 2, 1), (211, .ireturn, 1), (212, .aload_n 0, 1), (213, .getfield 7, 3), (216, .bipush 6, 2), (218, .iaload, 1), (219, .ireturn, 1), (220, .aload_n 0, 1), (221, .getfield 7, 3), (224, .bipush 7, 2), (226, .iaload, 1), (227, .ireturn, 1), (228, .aload_n 0, 1), (229, .getfield 390, 3), (232, .ireturn, 1), (233, .aload_n 0, 1), (234, .getfield 226, 3), (237, .ireturn, 1), (238, .aload_n 0, 1), (239, .getfield 7, 3), (242, .bipush 8, 2), (244, .iaload, 1), (245, .ireturn, 1), (246, .ldc 119, 2), (248, .ireturn, 1)]
def mm_X11_count : mu_M := (11, yX11_count, cX11_count, 4, (some .int), 1, mc_X11_count)
def mc_J0_length_8abf5 : List (Nat × Instr × Nat) := [(0, .aload_n 0, 1), (1, .getfield 9, 3), (4, .arraylength, 1), (5, .aload_n 0, 1), (6, .invokevirtual 335, 3), (9, .ishr, 1), (10, .ireturn, 1)]
def mm_J0_length_8abf5 : mu_M := (12, yJ0_length_8abf5, cJ0_length_8abf5, 1, (some .int), 0, mc_J0_length_8abf5)
def mc_J0_charAt_5068e : List (Nat × Instr × Nat) := [(0, .aload_n 0, 1), (1, .invokevirtual 492, 3), (4, .ifCond .eq 12, 3), (7, .aload_n 0, 1), (8, .getfield 9, 3), (11, .iload_n 1, 1), (12, .invokestatic 495, 3), (15, .ireturn, 1), (16, .aload_n 0, 1), (17, .getfield 9, 3), (20, .iload_n 1, 1), (21, .invokestatic 498, 3), (24, .ireturn, 1)]
def mm_J0_charAt_5068e : mu_M := (12, yJ0_charAt_5068e, cJ0_charAt_5068e, 2, (some .char), 1, mc_J0_charAt_5068e)
def mc_J0_indexOf_0f7a4 : List (Nat × Instr × Nat) := [(0, .aload_n 0, 1), (1, .iload_n 1, 1), (2, .iconst 0, 1), (3, .invokevirtual 633, 3), (6, .ireturn, 1)]
def mm_J0_indexOf_0f7a4 : mu_M := (12, yJ0_indexOf_0f7a4, cJ0_indexOf_0f7a4, 2, (some .int), 1, mc_J0_indexOf_0f7a4)
def mc_J0_indexOf_7cf53 : List (Nat × Instr × Nat) := [(0, .aload_n 0, 1), (1, .invokevirtual 492, 3), (4, .ifCond .eq 19, 3), (7, .aload_n 0, 1), (8, .getfield 9, 3), (11, .iload_n 1, 1), (12, .iload_n 2, 1), (13, .aload_n 0, 1), (14, .invokevirtual 505, 3), (17, .invokestatic 637, 3), (20, .goto 16, 3), (23, .aload_n 0, 1), (24, .getfield 9, 3), (27, .iload_n 1, 1), (28, .iload_n 2, 1), (29, .aload_n 0, 1), (30, .invokevirtual 505, 3), (33, .invokestatic 640, 3), (36, .ireturn, 1)]
def mm_J0_indexOf_7cf53 : mu_M := (12, yJ0_indexOf_7cf53, cJ0_indexOf_7cf53, 3, (some .int), 2, mc_J0_indexOf_7cf53)
def mc_J0_coder_7d493 : List (Nat × Instr × Nat) := [(0, .getstatic 38, 3), (3, .ifCond .eq 10, 3), (6, .aload_n 0, 1), (7, .getfield 15, 3), (10, .goto 4, 3), (13, .iconst 1, 1), (14, .ireturn, 1)]
def mm_J0_coder_7d493 : mu_M := (12, yJ0_coder_7d493, cJ0_coder_7d493, 1, (some .byte), 0, mc_J0_coder_7d493)
def mc_J0_isLatin1_aae02 : List (Nat × Instr × Nat) := [(0, .getstatic 38, 3), (3, .ifCond .eq 14, 3), (6, .aload_n 0, 1), (7, .getfield 15, 3), (10, .ifCond .ne 7, 3), (13, .iconst 1, 1), (14, .goto 4, 3), (17, .iconst 0, 1), (18, .ireturn, 1)]
def mm_J0_isLatin1_aae02 : mu_M := (12, yJ0_isLatin1_aae02, cJ0_isLatin1_aae02, 1, (some .boolean), 0, mc_J0_isLatin1_aae02)
def mc_J0_checkIndex_df160 : List (Nat × Instr × Nat) := [(0, .iload_n 0, 1), (1, .iload_n 1, 1), (2, .getstatic 1053, 3), (5, .invokestatic 1059, 3), (8, .pop, 1), (9, .return_, 1)]
def mm_J0_checkIndex_df160 : mu_M := (12, yJ0_checkIndex_df160, cJ0_checkIndex_df160, 2, none, 2, mc_J0_checkIndex_df160)
def mc_J1_charAt_3b067 : List (Nat × Instr × Nat) := [(0, .iload_n 1, 1), (1, .aload_n 0, 1), (2, .arraylength, 1), (3, .invokestatic 9, 3), (6, .aload_n 0, 1), (7, .iload_n 1, 1), (8, .baload, 1), (9, .sipush 255, 3), (12, .iand, 1), (13, .i2c, 1), (14, .ireturn, 1)]
def mm_J1_charAt_3b067 : mu_M := (14, yJ1_charAt_3b067, cJ1_charAt_3b067, 2, (some .char), 2, mc_J1_charAt_3b067)
def mc_J1_canEncode_9a6ad : List (Nat × Instr × Nat) := [(0, .iload_n 0, 1), (1, .ifCond .lt 14, 3), (4, .iload_n 0, 1), (5, .sipush 255, 3), (8, .if_icmp .gt 7, 3), (11, .iconst 1, 1), (12, .goto 4, 3), (15, .iconst 0, 1), (16, .ireturn, 1)]
def mm_J1_canEncode_9a6ad : mu_M := (14, yJ1_canEncode_9a6ad, cJ1_canEncode_9a6ad, 1, (some .boolean), 1, mc_J1_canEncode_9a6ad)
def mc_J1_indexOf_4cfef : List (Nat × Instr × Nat) := [(0, .iload_n 1, 1), (1, .invokestatic 88, 3), (4, .ifCond .ne 5, 3), (7, .iconst (-1), 1), (8, .ireturn, 1), (9, .iload_n 2, 1), (10, .iconst 0, 1), (11, .invokestatic 92, 3), (14, .istore_n 2, 1), (15, .iload_n 3, 1), (16, .aload_n 0, 1), (17, .arraylength, 1), (18, .invokestatic 38, 3), (21, .istore_n 3, 1), (22, .iload_n 2, 1), (23, .iload_n 3, 1), (24, .if_icmp .lt 5, 3), (27, .iconst (-1), 1), (28, .ireturn, 1), (29, .aload_n 0, 1), (30, .iload_n 1, 1), (31, .iload_n 2, 1), (32, .iload_n 3, 1), (33, .invokestatic 95, 3), (36, .ireturn, 1)]
def mm_J1_indexOf_4cfef : mu_M := (14, yJ1_indexOf_4cfef, cJ1_indexOf_4cfef, 4, (some .int), 4, mc_J1_indexOf_4cfef)
def mc_J1_indexOfChar_4cfef : List (Nat × Instr × Nat) := [(0, .iload_n 1, 1), (1, .i2b, 1), (2, .istore 4, 2), (4, .iload_n 2, 1), (5, .istore 5, 2), (7, .iload 5, 2), (9, .iload_n 3, 1), (10, .if_icmp .ge 21, 3), (13, .aload_n 0, 1), (14, .iload 5, 2), (16, .baload, 1), (17, .iload 4, 2), (19, .if_icmp .ne 6, 3), (22, .iload 5, 2), (24, .ireturn, 1), (25, .iinc 5 1, 3), (28, .goto (-21), 3), (31, .iconst (-1), 1), (32, .ireturn, 1)]
def mm_J1_indexOfChar_4cfef : mu_M := (14, yJ1_indexOfChar_4cfef, cJ1_indexOfChar_4cfef, 6, (some .int), 4, mc_J1_indexOfChar_4cfef)
def mc_J7_copyOf_59c91 : List (Nat × Instr × Nat) := [(0, .iload_n 1, 1), (1, .aload_n 0, 1), (2, .arraylength, 1), (3, .if_icmp .ne 11, 3), (6, .aload_n 0, 1), (7, .invokevirtual 316, 3), (10, .checkcast 317, 3), (13, .areturn, 1), (14, .iload_n 1, 1), (15, .newarray .int, 2), (17, .astore_n 2, 1), (18, .aload_n 0, 1), (19, .iconst 0, 1), (20, .aload_n 2, 1), (21, .iconst 0, 1), (22, .aload_n 0, 1), (23, .arraylength, 1), (24, .iload_n 1, 1), (25, .invokestatic 304, 3), (28, .invokestatic 150, 3), (31, .aload_n 2, 1), (32, .areturn, 1)]
def mm_J7_copyOf_59c91 : mu_M := (16, yJ7_copyOf_59c91, cJ7_copyOf_59c91, 3, (some (.array .int)), 2, mc_J7_copyOf_59c91)
def mc_J3_checkIndex_8e157 : List (Nat × Instr × Nat) := [(0, .iload_n 0, 1), (1, .ifCond .lt 8, 3), (4, .iload_n 0, 1), (5, .iload_n 1, 1), (6, .if_icmp .lt 10, 3), (9, .aload_n 2, 1), (10, .iload_n 0, 1), (11, .iload_n 1, 1), (12, .invokestatic 95, 3), (15, .athrow, 1), (16, .iload_n 0, 1), (17, .ireturn, 1)]
def mm_J3_checkIndex_8e157 : mu_M := (15, yJ3_checkIndex_8e157, cJ3_checkIndex_8e157, 3, (some .int), 3, mc_J3_checkIndex_8e157)
def mc_L_law : List (Nat × Instr × Nat) := [(0, .new 7, 3), (3, .dup, 1), (4, .invokespecial 9, 3), (7, .astore_n 1, 1), (8, .new 10, 3), (11, .dup, 1), (12, .invokespecial 12, 3), (15, .astore_n 2, 1), (16, .iconst 0, 1), (17, .istore_n 3, 1), (18, .iload_n 3, 1), (19, .aload_n 0, 1), (20, .arraylength, 1), (21, .bipush 6, 2), (23, .isub, 1), (24, .if_icmp .gt 1686, 3), (27, .aload_n 0, 1), (28, .iload_n 3, 1), (29, .iaload, 1), (30, .bipush 63, 2), (32, .iand, 1), (33, .tableswitch 1671 0 49 #[215, 248, 281, 324, 387, 420, 453, 502, 525, 558, 591, 614, 637, 670, 693, 716, 729, 772, 795, 808, 841, 884, 927, 940, 963, 976, 1019, 1042, 1055, 1068, 1101, 1124, 1157, 1180, 1203, 1216, 1249, 1262, 1305, 1348, 1371, 1434, 1477, 1510, 1543, 1576, 1599, 1622, 1635, 1648], 215), (248, .aload_n 1, 1), (249, .aload_n 0, 1), (250, .iload_n 3, 1), (251, .iconst 1, 1), (252, .iadd, 1), (253, .iaload, 1), (254, .aload_n 0, 1), (255, .iload_n 3, 1), (256, .iconst 2, 1), (257, .iadd, 1), (258, .iaload, 1), (259, .invokevirtual 13, 3), (262, .aload_n 2, 1), (263, .aload_n 0, 1), (264, .iload_n 3, 1), (265, .iconst 1, 1), (266, .iadd, 1), (267, .iaload, 1), (268, .aload_n 0, 1), (269, .iload_n 3, 1), (270, .iconst 2, 1), (271, .iadd, 1), (272, .iaload, 1), (273, .invokevirtual 17, 3), (276, .if_icmp .eq 1428, 3), (279, .iconst 0, 1), (280, .ireturn, 1), (281, .aload_n 1, 1), (282, .aload_n 0, 1), (283, .iload_n 3, 1), (284, .iconst 1, 1), (285, .iadd, 1), (286, .iaload, 1), (287, .aload_n 0, 1), (288, .iload_n 3, 1), (289, .iconst 2, 1), (290, .iadd, 1), (291, .iaload, 1), (292, .invokevirtual 18, 3), (295, .aload_n 2, 1), (296, .aload_n 0, 1), (297, .iload_n 3, 1), (298, .iconst 1, 1), (299, .iadd, 1), (300, .iaload, 1), (301, .aload_n 0, 1), (302, .iload_n 3, 1), (303, .iconst 2, 1), (304, .iadd, 1), (305, .iaload, 1), (306, .invokevirtual 21, 3), (309, .if_icmp .eq 1395, 3), (312, .iconst 0, 1), (313, .ireturn, 1), (314, .aload_n 1, 1), (315, .aload_n 0, 1), (316, .iload_n 3, 1), (317, .iconst 1, 1), (318, .iadd, 1), (319, .iaload, 1), (320, .aload_n 0, 1), (321, .iload_n 3, 1), (322, .iconst 2, 1), (323, .iadd, 1), (324, .iaload, 1), (325, .aload_n 0, 1), (326, .iload_n 3, 1), (327, .iconst 3, 1), (328, .iadd, 1), (329, .iaload, 1), (330, .invokevirtual 22, 3), (333, .aload_n 2, 1), (334, .aload_n 0, 1), (335, .iload_n 3, 1), (336, .iconst 1, 1), (337, .iadd, 1), (338, .iaload, 1), (339, .aload_n 0, 1), (340, .iload_n 3, 1), (341, .iconst 2, 1), (342, .iadd, 1), (343, .iaload, 1), (344, .aload_n 0, 1), (345, .iload_n 3, 1), (346, .iconst 3, 1), (347, .iadd, 1), (348, .iaload, 1), (349, .invokevirtual 26, 3), (352, .if_icmp .eq 1352, 3), (355, .iconst 0, 1), (356, .ireturn, 1), (357, .aload_n 1, 1), (358, .aload_n 0, 1), (359, .iload_n 3, 1), (360, .iconst 1, 1), (361, .iadd, 1), (362, .iaload, 1), (363, .aload_n 0, 1), (364, .iload_n 3, 1), (365, .iconst 2, 1), (366, .iadd, 1), (367, .iaload, 1), (368, .aload_n 0, 1), (369, .iload_n 3, 1), (370, .iconst 3, 1), (371, .iadd, 1), (372, .iaload, 1), (373, .aload_n 0, 1), (374, .iload_n 3, 1), (375, .iconst 4, 1), (376, .iadd, 1), (377, .iaload, 1), (378, .aload_n 0, 1), (379, .iload_n 3, 1), (380, .iconst 5, 1), (381, .iadd, 1), (382, .iaload, 1), (383, .invokevirtual 27, 3), (386, .aload_n 2, 1), (387, .aload_n 0, 1), (388, .iload_n 3, 1), (389, .iconst 1, 1), (390, .iadd, 1), (391, .iaload, 1), (392, .aload_n 0, 1), (393, .iload_n 3, 1), (394, .iconst 2, 1), (395, .iadd, 1), (396, .iaload, 1), (397, .aload_n 0, 1), (398, .iload_n 3, 1), (399, .iconst 3, 1), (400, .iadd, 1), (401, .iaload, 1), (402, .aload_n 0, 1), (403, .iload_n 3, 1), (404, .iconst 4, 1), (405, .iadd, 1), (406, .iaload, 1), (407, .aload_n 0, 1), (408, .iload_n 3, 1), (409, .iconst 5, 1), (410, .iadd, 1), (411, .iaload, 1), (412, .invokevirtual 31, 3), (415, .if_icmp .eq 1289, 3), (418, .iconst 0, 1), (419, .ireturn, 1), (420, .aload_n 1, 1), (421, .aload_n 0, 1), (422, .iload_n 3, 1), (423, .iconst 1, 1), (424, .iadd, 1), (425, .iaload, 1), (426, .aload_n 0, 1), (427, .iload_n 3, 1), (428, .iconst 2, 1), (429, .iadd, 1), (430, .iaload, 1), (431, .invokevirtual 32, 3), (434, .aload_n 2, 1), (435, .aload_n 0, 1), (436, .iload_n 3, 1), (437, .iconst 1, 1), (438, .iadd, 1), (439, .iaload, 1), (440, .aload_n 0, 1), (441, .iload_n 3, 1), (442, .iconst 2, 1), (443, .iadd, 1), (444, .iaload, 1), (445, .invokevirtual 35, 3), (448, .if_icmp .eq 1256, 3), (451, .iconst 0, 1), (452, .ireturn, 1), (453, .aload_n 1, 1), (454, .aload_n 0, 1), (455, .iload_n 3, 1), (456, .iconst 1, 1), (457, .iadd, 1), (458, .iaload, 1), (459, .aload_n 0, 1), (460, .iload_n 3, 1), (461, .iconst 2, 1), (462, .iadd, 1), (463, .iaload, 1), (464, .invokevirtual 36, 3), (467, .aload_n 2, 1), (468, .aload_n 0, 1), (469, .iload_n 3, 1), (470, .iconst 1, 1), (471, .iadd, 1), (472, .iaload, 1), (473, .aload_n 0, 1), (474, .iload_n 3, 1), (475, .iconst 2, 1), (476, .iadd, 1), (477, .iaload, 1), (478, .invokevirtual 39, 3), (481, .if_icmp .eq 1223, 3), (484, .iconst 0, 1), (485, .ireturn, 1), (486, .aload_n 1, 1), (487, .aload_n 0, 1), (488, .iload_n 3, 1), (489, .iconst 1, 1), (490, .iadd, 1), (491, .iaload, 1), (492, .aload_n 0, 1), (493, .iload_n 3, 1), (494, .iconst 2, 1), (495, .iadd, 1), (496, .iaload, 1), (497, .ifCond .eq 7, 3), (500, .iconst 1, 1), (501, .goto 4, 3), (504, .iconst 0, 1), (505, .invokevirtual 40, 3), (508, .aload_n 2, 1), (509, .aload_n 0, 1), (510, .iload_n 3, 1), (511, .iconst 1, 1), (512, .iadd, 1), (513, .iaload, 1), (514, .aload_n 0, 1), (515, .iload_n 3, 1), (516, .iconst 2, 1), (517, .iadd, 1), (518, .iaload, 1), (519, .ifCond .eq 7, 3), (522, .iconst 1, 1), (523, .goto 4, 3), (526, .iconst 0, 1), (527, .invokevirtual 44, 3), (530, .if_icmp .eq 1174, 3), (533, .iconst 0, 1), (534, .ireturn, 1), (535, .aload_n 1, 1), (536, .aload_n 0, 1), (537, .iload_n 3, 1), (538, .iconst 1, 1), (539, .iadd, 1), (540, .iaload, 1), (541, .invokevirtual 45, 3), (544, .aload_n 2, 1), (545, .aload_n 0, 1), (546, .iload_n 3, 1), (547, .iconst 1, 1), (548, .iadd, 1), (549, .iaload, 1), (550, .invokevirtual 49, 3), (553, .if_icmp .eq 1151, 3), (556, .iconst 0, 1), (557, .ireturn, 1), (558, .aload_n 1, 1), (559, .aload_n 0, 1), (560, .iload_n 3, 1), (561, .iconst 1, 1), (562, .iadd, 1), (563, .iaload, 1), (564, .aload_n 0, 1), (565, .iload_n 3, 1), (566, .iconst 2, 1), (567, .iadd, 1), (568, .iaload, 1), (569, .invokevirtual 50, 3), (572, .aload_n 2, 1), (573, .aload_n 0, 1), (574, .iload_n 3, 1), (575, .iconst 1, 1), (576, .iadd, 1), (577, .iaload, 1), (578, .aload_n 0, 1), (579, .iload_n 3, 1), (580, .iconst 2, 1), (581, .iadd, 1), (582, .iaload, 1), (583, .invokevirtual 53, 3), (586, .if_icmp .eq 1118, 3), (589, .iconst 0, 1), (590, .ireturn, 1), (591, .aload_n 1, 1), (592, .aload_n 0, 1), (593, .iload_n 3, 1), (594, .iconst 1, 1), (595, .iadd, 1), (596, .iaload, 1), (597, .aload_n 0, 1), (598, .iload_n 3, 1), (599, .iconst 2, 1), (600, .iadd, 1), (601, .iaload, 1), (602, .invokevirtual 54, 3), (605, .aload_n 2, 1), (606, .aload_n 0, 1), (607, .iload_n 3, 1), (608, .iconst 1, 1), (609, .iadd, 1), (610, .iaload, 1), (611, .aload_n 0, 1), (612, .iload_n 3, 1), (613, .iconst 2, 1), (614, .iadd, 1), (615, .iaload, 1), (616, .invokevirtual 57, 3), (619, .if_icmp .eq 1085, 3), (622, .iconst 0, 1), (623, .ireturn, 1), (624, .aload_n 1, 1), (625, .aload_n 0, 1), (626, .iload_n 3, 1), (627, .iconst 1, 1), (628, .iadd, 1), (629, .iaload, 1), (630, .invokevirtual 58, 3), (633, .aload_n 2, 1), (634, .aload_n 0, 1), (635, .iload_n 3, 1), (636, .iconst 1, 1), (637, .iadd, 1), (638, .iaload, 1), (639, .invokevirtual 61, 3), (642, .if_icmp .eq 1062, 3), (645, .iconst 0, 1), (646, .ireturn, 1), (647, .aload_n 1, 1), (648, .aload_n 0, 1), (649, .iload_n 3, 1), (650, .iconst 1, 1), (651, .iadd, 1), (652, .iaload, 1), (653, .invokevirtual 62, 3), (656, .aload_n 2, 1), (657, .aload_n 0, 1), (658, .iload_n 3, 1), (659, .iconst 1, 1), (660, .iadd, 1), (661, .iaload, 1), (662, .invokevirtual 65, 3), (665, .if_icmp .eq 1039, 3), (668, .iconst 0, 1), (669, .ireturn, 1), (670, .aload_n 1, 1), (671, .aload_n 0, 1), (672, .iload_n 3, 1), (673, .iconst 1, 1), (674, .iadd, 1), (675, .iaload, 1), (676, .aload_n 0, 1), (677, .iload_n 3, 1), (678, .iconst 2, 1), (679, .iadd, 1), (680, .iaload, 1), (681, .invokevirtual 66, 3), (684, .aload_n 2, 1), (685, .aload_n 0, 1), (686, .iload_n 3, 1), (687, .iconst 1, 1), (688, .iadd, 1), (689, .iaload, 1), (690, .aload_n 0, 1), (691, .iload_n 3, 1), (692, .iconst 2, 1), (693, .iadd, 1), (694, .iaload, 1), (695, .invokevirtual 69, 3), (698, .if_icmp .eq 1006, 3), (701, .iconst 0, 1), (702, .ireturn, 1), (703, .aload_n 1, 1), (704, .aload_n 0, 1), (705, .iload_n 3, 1), (706, .iconst 1, 1), (707, .iadd, 1), (708, .iaload, 1), (709, .invokevirtual 70, 3), (712, .aload_n 2, 1), (713, .aload_n 0, 1), (714, .iload_n 3, 1), (715, .iconst 1, 1), (716, .iadd, 1), (717, .iaload, 1), (718, .invokevirtual 73, 3), (721, .if_icmp .eq 983, 3), (724, .iconst 0, 1), (725, .ireturn, 1), (726, .aload_n 1, 1), (727, .aload_n 0, 1), (728, .iload_n 3, 1), (729, .iconst 1, 1), (730, .iadd, 1), (731, .iaload, 1), (732, .invokevirtual 74, 3), (735, .aload_n 2, 1), (736, .aload_n 0, 1), (737, .iload_n 3, 1), (738, .iconst 1, 1), (739, .iadd, 1), (740, .iaload, 1), (741, .invokevirtual 77, 3), (744, .if_icmp .eq 960, 3), (747, .iconst 0, 1), (748, .ireturn, 1), (749, .aload_n 1, 1), (750, .invokevirtual 78, 3), (753, .aload_n 2, 1), (754, .invokevirtual 82, 3), (757, .if_icmp .eq 947, 3), (760, .iconst 0, 1), (761, .ireturn, 1), (762, .aload_n 1, 1), (763, .aload_n 0, 1), (764, .iload_n 3, 1), (765, .iconst 1, 1), (766, .iadd, 1), (767, .iaload, 1), (768, .aload_n 0, 1), (769, .iload_n 3, 1), (770, .iconst 2, 1), (771, .iadd, 1), (772, .iaload, 1), (773, .aload_n 0, 1), (774, .iload_n 3, 1), (775, .iconst 3, 1), (776, .iadd, 1), (777, .iaload, 1), (778, .invokevirtual 83, 3), (781, .aload_n 2, 1), (782, .aload_n 0, 1), (783, .iload_n 3, 1), (784, .iconst 1, 1), (785, .iadd, 1), (786, .iaload, 1), (787, .aload_n 0, 1), (788, .iload_n 3, 1), (789, .iconst 2, 1), (790, .iadd, 1), (791, .iaload, 1), (792, .aload_n 0, 1), (793, .iload_n 3, 1), (794, .iconst 3, 1), (795, .iadd, 1), (796, .iaload, 1), (797, .invokevirtual 86, 3), (800, .if_icmp .eq 904, 3), (803, .iconst 0, 1), (804, .ireturn, 1), (805, .aload_n 1, 1), (806, .aload_n 0, 1), (807, .iload_n 3, 1), (808, .iconst 1, 1), (809, .iadd, 1), (810, .iaload, 1), (811, .invokevirtual 87, 3), (814, .aload_n 2, 1), (815, .aload_n 0, 1), (816, .iload_n 3, 1), (817, .iconst 1, 1), (818, .iadd, 1), (819, .iaload, 1), (820, .invokevirtual 90, 3), (823, .if_icmp .eq 881, 3), (826, .iconst 0, 1), (827, .ireturn, 1), (828, .aload_n 1, 1), (829, .invokevirtual 91, 3), (832, .aload_n 2, 1), (833, .invokevirtual 94, 3), (836, .if_icmp .eq 868, 3), (839, .iconst 0, 1), (840, .ireturn, 1), (841, .aload_n 1, 1), (842, .aload_n 0, 1), (843, .iload_n 3, 1), (844, .iconst 1, 1), (845, .iadd, 1), (846, .iaload, 1), (847, .aload_n 0, 1), (848, .iload_n 3, 1), (849, .iconst 2, 1), (850, .iadd, 1), (851, .iaload, 1), (852, .invokevirtual 95, 3), (855, .aload_n 2, 1), (856, .aload_n 0, 1), (857, .iload_n 3, 1), (858, .iconst 1, 1), (859, .iadd, 1), (860, .iaload, 1), (861, .aload_n 0, 1), (862, .iload_n 3, 1), (863, .iconst 2, 1), (864, .iadd, 1), (865, .iaload, 1), (866, .invokevirtual 98, 3), (869, .if_icmp .eq 835, 3), (872, .iconst 0, 1), (873, .ireturn, 1), (874, .aload_n 1, 1), (875, .aload_n 0, 1), (876, .iload_n 3, 1), (877, .iconst 1, 1), (878, .iadd, 1), (879, .iaload, 1), (880, .aload_n 0, 1), (881, .iload_n 3, 1), (882, .iconst 2, 1), (883, .iadd, 1), (884, .iaload, 1), (885, .aload_n 0, 1), (886, .iload_n 3, 1), (887, .iconst 3, 1), (888, .iadd, 1), (889, .iaload, 1), (890, .invokevirtual 99, 3), (893, .aload_n 2, 1), (894, .aload_n 0, 1), (895, .iload_n 3, 1), (896, .iconst 1, 1), (897, .iadd, 1), (898, .iaload, 1), (899, .aload_n 0, 1), (900, .iload_n 3, 1), (901, .iconst 2, 1), (902, .iadd, 1), (903, .iaload, 1), (904, .aload_n 0, 1), (905, .iload_n 3, 1), (906, .iconst 3, 1), (907, .iadd, 1), (908, .iaload, 1), (909, .invokevirtual 102, 3), (912, .if_icmp .eq 792, 3), (915, .iconst 0, 1), (916, .ireturn, 1), (917, .aload_n 1, 1), (918, .aload_n 0, 1), (919, .iload_n 3, 1), (920, .iconst 1, 1), (921, .iadd, 1), (922, .iaload, 1), (923, .aload_n 0, 1), (924, .iload_n 3, 1), (925, .iconst 2, 1), (926, .iadd, 1), (927, .iaload, 1), (928, .aload_n 0, 1), (929, .iload_n 3, 1), (930, .iconst 3, 1), (931, .iadd, 1), (932, .iaload, 1), (933, .invokevirtual 103, 3), (936, .aload_n 2, 1), (937, .aload_n 0, 1), (938, .iload_n 3, 1), (939, .iconst 1, 1), (940, .iadd, 1), (941, .iaload, 1), (942, .aload_n 0, 1), (943, .iload_n 3, 1), (944, .iconst 2, 1), (945, .iadd, 1), (946, .iaload, 1), (947, .aload_n 0, 1), (948, .iload_n 3, 1), (949, .iconst 3, 1), (950, .iadd, 1), (951, .iaload, 1), (952, .invokevirtual 106, 3), (955, .if_icmp .eq 749, 3), (958, .iconst 0, 1), (959, .ireturn, 1), (960, .aload_n 1, 1), (961, .invokevirtual 107, 3), (964, .aload_n 2, 1), (965, .invokevirtual 110, 3), (968, .if_icmp .eq 736, 3), (971, .iconst 0, 1), (972, .ireturn, 1), (973, .aload_n 1, 1), (974, .aload_n 0, 1), (975, .iload_n 3, 1), (976, .iconst 1, 1), (977, .iadd, 1), (978, .iaload, 1), (979, .invokevirtual 111, 3), (982, .aload_n 2, 1), (983, .aload_n 0, 1), (984, .iload_n 3, 1), (985, .iconst 1, 1), (986, .iadd, 1), (987, .iaload, 1), (988, .invokevirtual 114, 3), (991, .if_icmp .eq 713, 3), (994, .iconst 0, 1), (995, .ireturn, 1), (996, .aload_n 1, 1), (997, .invokevirtual 115, 3), (1000, .aload_n 2, 1), (1001, .invokevirtual 118, 3), (1004, .if_icmp .eq 700, 3), (1007, .iconst 0, 1), (1008, .ireturn, 1), (1009, .aload_n 1, 1), (1010, .aload_n 0, 1), (1011, .iload_n 3, 1), (1012, .iconst 1, 1), (1013, .iadd, 1), (1014, .iaload, 1), (1015, .aload_n 0, 1), (1016, .iload_n 3, 1), (1017, .iconst 2, 1), (1018, .iadd, 1), (1019, .iaload, 1), (1020, .aload_n 0, 1), (1021, .iload_n 3, 1), (1022, .iconst 3, 1), (1023, .iadd, 1), (1024, .iaload, 1), (1025, .invokevirtual 119, 3), (1028, .aload_n 2, 1), (1029, .aload_n 0, 1), (1030, .iload_n 3, 1), (1031, .iconst 1, 1), (1032, .iadd, 1), (1033, .iaload, 1), (1034, .aload_n 0, 1), (1035, .iload_n 3, 1), (1036, .iconst 2, 1), (1037, .iadd, 1), (1038, .iaload, 1), (1039, .aload_n 0, 1), (1040, .iload_n 3, 1), (1041, .iconst 3, 1), (1042, .iadd, 1), (1043, .iaload, 1), (1044, .invokevirtual 122, 3), (1047, .if_icmp .eq 657, 3), (1050, .iconst 0, 1), (1051, .ireturn, 1), (1052, .aload_n 1, 1), (1053, .aload_n 0, 1), (1054, .iload_n 3, 1), (1055, .iconst 1, 1), (1056, .iadd, 1), (1057, .iaload, 1), (1058, .invokevirtual 123, 3), (1061, .aload_n 2, 1), (1062, .aload_n 0, 1), (1063, .iload_n 3, 1), (1064, .iconst 1, 1), (1065, .iadd, 1), (1066, .iaload, 1), (1067, .invokevirtual 126, 3), (1070, .if_icmp .eq 634, 3), (1073, .iconst 0, 1), (1074, .ireturn, 1), (1075, .aload_n 1, 1), (1076, .invokevirtual 127, 3), (1079, .aload_n 2, 1), (1080, .invokevirtual 130, 3), (1083, .if_icmp .eq 621, 3), (1086, .iconst 0, 1), (1087, .ireturn, 1), (1088, .aload_n 1, 1), (1089, .invokevirtual 131, 3), (1092, .aload_n 2, 1), (1093, .invokevirtual 134, 3), (1096, .if_icmp .eq 608, 3), (1099, .iconst 0, 1), (1100, .ireturn, 1), (1101, .aload_n 1, 1), (1102, .aload_n 0, 1), (1103, .iload_n 3, 1), (1104, .iconst 1, 1), (1105, .iadd, 1), (1106, .iaload, 1), (1107, .aload_n 0, 1), (1108, .iload_n 3, 1), (1109, .iconst 2, 1), (1110, .iadd, 1), (1111, .iaload, 1), (1112, .invokevirtual 135, 3), (1115, .aload_n 2, 1), (1116, .aload_n 0, 1), (1117, .iload_n 3, 1), (1118, .iconst 1, 1), (1119, .iadd, 1), (1120, .iaload, 1), (1121, .aload_n 0, 1), (1122, .iload_n 3, 1), (1123, .iconst 2, 1), (1124, .iadd, 1), (1125, .iaload, 1), (1126, .invokevirtual 138, 3), (1129, .if_icmp .eq 575, 3), (1132, .iconst 0, 1), (1133, .ireturn, 1), (1134, .aload_n 1, 1), (1135, .aload_n 0, 1), (1136, .iload_n 3, 1), (1137, .iconst 1, 1), (1138, .iadd, 1), (1139, .iaload, 1), (1140, .invokevirtual 139, 3), (1143, .aload_n 2, 1), (1144, .aload_n 0, 1), (1145, .iload_n 3, 1), (1146, .iconst 1, 1), (1147, .iadd, 1), (1148, .iaload, 1), (1149, .invokevirtual 142, 3), (1152, .if_icmp .eq 552, 3), (1155, .iconst 0, 1), (1156, .ireturn, 1), (1157, .aload_n 1, 1), (1158, .aload_n 0, 1), (1159, .iload_n 3, 1), (1160, .iconst 1, 1), (1161, .iadd, 1), (1162, .iaload, 1), (1163, .aload_n 0, 1), (1164, .iload_n 3, 1), (1165, .iconst 2, 1), (1166, .iadd, 1), (1167, .iaload, 1), (1168, .invokevirtual 143, 3), (1171, .aload_n 2, 1), (1172, .aload_n 0, 1), (1173, .iload_n 3, 1), (1174, .iconst 1, 1), (1175, .iadd, 1), (1176, .iaload, 1), (1177, .aload_n 0, 1), (1178, .iload_n 3, 1), (1179, .iconst 2, 1), (1180, .iadd, 1), (1181, .iaload, 1), (1182, .invokevirtual 146, 3), (1185, .if_icmp .eq 519, 3), (1188, .iconst 0, 1), (1189, .ireturn, 1), (1190, .aload_n 1, 1), (1191, .aload_n 0, 1), (1192, .iload_n 3, 1), (1193, .iconst 1, 1), (1194, .iadd, 1), (1195, .iaload, 1), (1196, .invokevirtual 147, 3), (1199, .aload_n 2, 1), (1200, .aload_n 0, 1), (1201, .iload_n 3, 1), (1202, .iconst 1, 1), (1203, .iadd, 1), (1204, .iaload, 1), (1205, .invokevirtual 150, 3), (1208, .if_icmp .eq 496, 3), (1211, .iconst 0, 1), (1212, .ireturn, 1), (1213, .aload_n 1, 1), (1214, .aload_n 0, 1), (1215, .iload_n 3, 1), (1216, .iconst 1, 1), (1217, .iadd, 1), (1218, .iaload, 1), (1219, .invokevirtual 151, 3), (1222, .aload_n 2, 1), (1223, .aload_n 0, 1), (1224, .iload_n 3, 1), (1225, .iconst 1, 1), (1226, .iadd, 1), (1227, .iaload, 1), (1228, .invokevirtual 154, 3), (1231, .if_icmp .eq 473, 3), (1234, .iconst 0, 1), (1235, .ireturn, 1), (1236, .aload_n 1, 1), (1237, .invokevirtual 155, 3), (1240, .aload_n 2, 1), (1241, .invokevirtual 158, 3), (1244, .if_icmp .eq 460, 3), (1247, .iconst 0, 1), (1248, .ireturn, 1), (1249, .aload_n 1, 1), (1250, .aload_n 0, 1), (1251, .iload_n 3, 1), (1252, .iconst 1, 1), (1253, .iadd, 1), (1254, .iaload, 1), (1255, .aload_n 0, 1), (1256, .iload_n 3, 1), (1257, .iconst 2, 1), (1258, .iadd, 1), (1259, .iaload, 1), (1260, .invokevirtual 159, 3), (1263, .aload_n 2, 1), (1264, .aload_n 0, 1), (1265, .iload_n 3, 1), (1266, .iconst 1, 1), (1267, .iadd, 1), (1268, .iaload, 1), (1269, .aload_n 0, 1), (1270, .iload_n 3, 1), (1271, .iconst 2, 1), (1272, .iadd, 1), (1273, .iaload, 1), (1274, .invokevirtual 162, 3), (1277, .if_icmp .eq 427, 3), (1280, .iconst 0, 1), (1281, .ireturn, 1), (1282, .aload_n 1, 1), (1283, .invokevirtual 163, 3), (1286, .aload_n 2, 1), (1287, .invokevirtual 166, 3), (1290, .if_icmp .eq 414, 3), (1293, .iconst 0, 1), (1294, .ireturn, 1), (1295, .aload_n 1, 1), (1296, .aload_n 0, 1), (1297, .iload_n 3, 1), (1298, .iconst 1, 1), (1299, .iadd, 1), (1300, .iaload, 1), (1301, .aload_n 0, 1), (1302, .iload_n 3, 1), (1303, .iconst 2, 1), (1304, .iadd, 1), (1305, .iaload, 1), (1306, .aload_n 0, 1), (1307, .iload_n 3, 1), (1308, .iconst 3, 1), (1309, .iadd, 1), (1310, .iaload, 1), (1311, .invokevirtual 167, 3), (1314, .aload_n 2, 1), (1315, .aload_n 0, 1), (1316, .iload_n 3, 1), (1317, .iconst 1, 1), (1318, .iadd, 1), (1319, .iaload, 1), (1320, .aload_n 0, 1), (1321, .iload_n 3, 1), (1322, .iconst 2, 1), (1323, .iadd, 1), (1324, .iaload, 1), (1325, .aload_n 0, 1), (1326, .iload_n 3, 1), (1327, .iconst 3, 1), (1328, .iadd, 1), (1329, .iaload, 1), (1330, .invokevirtual 170, 3), (1333, .if_icmp .eq 371, 3), (1336, .iconst 0, 1), (1337, .ireturn, 1), (1338, .aload_n 1, 1), (1339, .aload_n 0, 1), (1340, .iload_n 3, 1), (1341, .iconst 1, 1), (1342, .iadd, 1), (1343, .iaload, 1), (1344, .aload_n 0, 1), (1345, .iload_n 3, 1), (1346, .iconst 2, 1), (1347, .iadd, 1), (1348, .iaload, 1), (1349, .aload_n 0, 1), (1350, .iload_n 3, 1), (1351, .iconst 3, 1), (1352, .iadd, 1), (1353, .iaload, 1), (1354, .invokevirtual 171, 3), (1357, .aload_n 2, 1), (1358, .aload_n 0, 1), (1359, .iload_n 3, 1), (1360, .iconst 1, 1), (1361, .iadd, 1), (1362, .iaload, 1), (1363, .aload_n 0, 1), (1364, .iload_n 3, 1), (1365, .iconst 2, 1), (1366, .iadd, 1), (1367, .iaload, 1), (1368, .aload_n 0, 1), (1369, .iload_n 3, 1), (1370, .iconst 3, 1), (1371, .iadd, 1), (1372, .iaload, 1), (1373, .invokevirtual 174, 3), (1376, .if_icmp .eq 328, 3), (1379, .iconst 0, 1), (1380, .ireturn, 1), (1381, .aload_n 1, 1), (1382, .aload_n 0, 1), (1383, .iload_n 3, 1), (1384, .iconst 1, 1), (1385, .iadd, 1), (1386, .iaload, 1), (1387, .invokevirtual 175, 3), (1390, .aload_n 2, 1), (1391, .aload_n 0, 1), (1392, .iload_n 3, 1), (1393, .iconst 1, 1), (1394, .iadd, 1), (1395, .iaload, 1), (1396, .invokevirtual 178, 3), (1399, .if_icmp .eq 305, 3), (1402, .iconst 0, 1), (1403, .ireturn, 1), (1404, .aload_n 1, 1), (1405, .aload_n 0, 1), (1406, .iload_n 3, 1), (1407, .iconst 1, 1), (1408, .iadd, 1), (1409, .iaload, 1), (1410, .aload_n 0, 1), (1411, .iload_n 3, 1), (1412, .iconst 2, 1), (1413, .iadd, 1), (1414, .iaload, 1), (1415, .aload_n 0, 1), (1416, .iload_n 3, 1), (1417, .iconst 3, 1), (1418, .iadd, 1), (1419, .iaload, 1), (1420, .aload_n 0, 1), (1421, .iload_n 3, 1), (1422, .iconst 4, 1), (1423, .iadd, 1), (1424, .iaload, 1), (1425, .aload_n 0, 1), (1426, .iload_n 3, 1), (1427, .iconst 5, 1), (1428, .iadd, 1), (1429, .iaload, 1), (1430, .invokevirtual 179, 3), (1433, .aload_n 2, 1), (1434, .aload_n 0, 1), (1435, .iload_n 3, 1), (1436, .iconst 1, 1), (1437, .iadd, 1), (1438, .iaload, 1), (1439, .aload_n 0, 1), (1440, .iload_n 3, 1), (1441, .iconst 2, 1), (1442, .iadd, 1), (1443, .iaload, 1), (1444, .aload_n 0, 1), (1445, .iload_n 3, 1), (1446, .iconst 3, 1), (1447, .iadd, 1), (1448, .iaload, 1), (1449, .aload_n 0, 1), (1450, .iload_n 3, 1), (1451, .iconst 4, 1), (1452, .iadd, 1), (1453, .iaload, 1), (1454, .aload_n 0, 1), (1455, .iload_n 3, 1), (1456, .iconst 5, 1), (1457, .iadd, 1), (1458, .iaload, 1), (1459, .invokevirtual 182, 3), (1462, .if_icmp .eq 242, 3), (1465, .iconst 0, 1), (1466, .ireturn, 1), (1467, .aload_n 1, 1), (1468, .aload_n 0, 1), (1469, .iload_n 3, 1), (1470, .iconst 1, 1), (1471, .iadd, 1), (1472, .iaload, 1), (1473, .aload_n 0, 1), (1474, .iload_n 3, 1), (1475, .iconst 2, 1), (1476, .iadd, 1), (1477, .iaload, 1), (1478, .aload_n 0, 1), (1479, .iload_n 3, 1), (1480, .iconst 3, 1), (1481, .iadd, 1), (1482, .iaload, 1), (1483, .invokevirtual 183, 3), (1486, .aload_n 2, 1), (1487, .aload_n 0, 1), (1488, .iload_n 3, 1), (1489, .iconst 1, 1), (1490, .iadd, 1), (1491, .iaload, 1), (1492, .aload_n 0, 1), (1493, .iload_n 3, 1), (1494, .iconst 2, 1), (1495, .iadd, 1), (1496, .iaload, 1), (1497, .aload_n 0, 1), (1498, .iload_n 3, 1), (1499, .iconst 3, 1), (1500, .iadd, 1), (1501, .iaload, 1), (1502, .invokevirtual 186, 3), (1505, .if_icmp .eq 199, 3), (1508, .iconst 0, 1), (1509, .ireturn, 1), (1510, .aload_n 1, 1), (1511, .aload_n 0, 1), (1512, .iload_n 3, 1), (1513, .iconst 1, 1), (1514, .iadd, 1), (1515, .iaload, 1), (1516, .aload_n 0, 1), (1517, .iload_n 3, 1), (1518, .iconst 2, 1), (1519, .iadd, 1), (1520, .iaload, 1), (1521, .invokevirtual 187, 3), (1524, .aload_n 2, 1), (1525, .aload_n 0, 1), (1526, .iload_n 3, 1), (1527, .iconst 1, 1), (1528, .iadd, 1), (1529, .iaload, 1), (1530, .aload_n 0, 1), (1531, .iload_n 3, 1), (1532, .iconst 2, 1), (1533, .iadd, 1), (1534, .iaload, 1), (1535, .invokevirtual 190, 3), (1538, .if_icmp .eq 166, 3), (1541, .iconst 0, 1), (1542, .ireturn, 1), (1543, .aload_n 1, 1), (1544, .aload_n 0, 1), (1545, .iload_n 3, 1), (1546, .iconst 1, 1), (1547, .iadd, 1), (1548, .iaload, 1), (1549, .aload_n 0, 1), (1550, .iload_n 3, 1), (1551, .iconst 2, 1), (1552, .iadd, 1), (1553, .iaload, 1), (1554, .invokevirtual 191, 3), (1557, .aload_n 2, 1), (1558, .aload_n 0, 1), (1559, .iload_n 3, 1), (1560, .iconst 1, 1), (1561, .iadd, 1), (1562, .iaload, 1), (1563, .aload_n 0, 1), (1564, .iload_n 3, 1), (1565, .iconst 2, 1), (1566, .iadd, 1), (1567, .iaload, 1), (1568, .invokevirtual 194, 3), (1571, .if_icmp .eq 133, 3), (1574, .iconst 0, 1), (1575, .ireturn, 1), (1576, .aload_n 1, 1), (1577, .aload_n 0, 1), (1578, .iload_n 3, 1), (1579, .iconst 1, 1), (1580, .iadd, 1), (1581, .iaload, 1), (1582, .aload_n 0, 1), (1583, .iload_n 3, 1), (1584, .iconst 2, 1), (1585, .iadd, 1), (1586, .iaload, 1), (1587, .invokevirtual 195, 3), (1590, .aload_n 2, 1), (1591, .aload_n 0, 1), (1592, .iload_n 3, 1), (1593, .iconst 1, 1), (1594, .iadd, 1), (1595, .iaload, 1), (1596, .aload_n 0, 1), (1597, .iload_n 3, 1), (1598, .iconst 2, 1), (1599, .iadd, 1), (1600, .iaload, 1), (1601, .invokevirtual 198, 3), (1604, .if_icmp .eq 100, 3), (1607, .iconst 0, 1), (1608, .ireturn, 1), (1609, .aload_n 1, 1), (1610, .aload_n 0, 1), (1611, .iload_n 3, 1), (1612, .iconst 1, 1), (1613, .iadd, 1), (1614, .iaload, 1), (1615, .invokevirtual 199, 3), (1618, .aload_n 2, 1), (1619, .aload_n 0, 1), (1620, .iload_n 3, 1), (1621, .iconst 1, 1), (1622, .iadd, 1), (1623, .iaload, 1), (1624, .invokevirtual 202, 3), (1627, .if_icmp .eq 77, 3), (1630, .iconst 0, 1), (1631, .ireturn, 1), (1632, .aload_n 1, 1), (1633, .aload_n 0, 1), (1634, .iload_n 3, 1), (1635, .iconst 1, 1), (1636, .iadd, 1), (1637, .iaload, 1), (1638, .invokevirtual 203, 3), (1641, .aload_n 2, 1), (1642, .aload_n 0, 1), (1643, .iload_n 3, 1), (1644, .iconst 1, 1), (1645, .iadd, 1), (1646, .iaload, 1), (1647, .invokevirtual 206, 3), (1650, .if_icmp .eq 54, 3), (1653, .iconst 0, 1), (1654, .ireturn, 1), (1655, .aload_n 1, 1), (1656, .invokevirtual 207, 3), (1659, .aload_n 2, 1), (1660, .invokevirtual 210, 3), (1663, .if_icmp .eq 41, 3), (1666, .iconst 0, 1), (1667, .ireturn, 1), (1668, .aload_n 1, 1), (1669, .invokevirtual 211, 3), (1672, .aload_n 2, 1), (1673, .invokevirtual 214, 3), (1676, .if_icmp .eq 28, 3), (1679, .iconst 0, 1), (1680, .ireturn, 1), (1681, .aload_n 1, 1), (1682, .aload_n 0, 1), (1683, .iload_n 3, 1), (1684, .iconst 1, 1), (1685, .iadd, 1), (1686, .iaload, 1), (1687, .invokevirtual 215, 3), (1690, .aload_n 2, 1), (1691, .aload_n 0, 1), (1692, .iload_n 3, 1), (1693, .iconst 1, 1), (1694, .iadd, 1), (1695, .iaload, 1), (1696, .invokevirtual 218, 3), (1699, .if_icmp .eq 5, 3), (1702, .iconst 0, 1), (1703, .ireturn, 1), (1704, .iinc 3 6, 3), (1707, .goto (-1689), 3), (1710, .iconst 1, 1), (1711, .ireturn, 1)]
def mm_L_law : mu_M := (17, yL_law, cL_law, 4, (some .boolean), 1, mc_L_law)
def mu_look {α : Type} : List (Nat × α) → Nat → Option α
  | [], _ => none
  | (k, v) :: t, i => match Nat.beq k i with
    | true => some v
    | false => mu_look t i
/-- a class by its number -/
def mu_own : Nat → String
  | 0 => "StageFights$Log"
  | 1 => "StageFights$Move"
  | 2 => "StageFights$Person"
  | 3 => "StageFights$Reader"
  | 4 => "StageFights$Scene"
  | 5 => "StageFights$Sheet"
  | 6 => "StageFights$Shifter"
  | 7 => "StageFights$Slot"
  | 8 => "StageFights$Stage"
  | 9 => "StageFights$Text"
  | 10 => "StageFights"
  | 11 => "StageFightsModel"
  | 12 => "java/lang/String"
  | 14 => "java/lang/StringLatin1"
  | 15 => "jdk/internal/util/Preconditions"
  | 16 => "java/util/Arrays"
  | 17 => "StageFightsLaw"
  | _ => ""
/-- fields: entry, class, field, the place of the word -/
def mu_pF : Nat → List (Nat × Nat × Nat × Nat)
  | 0 => [(9, 0, 0, 124), (15, 0, 1, 126), (18, 0, 2, 127)]
  | 1 => [(9, 1, 0, 164), (15, 1, 1, 169), (18, 1, 2, 173), (21, 1, 3, 177), (24, 1, 4, 179), (27, 1, 5, 181), (30, 1, 6, 184), (33, 1, 7, 186)]
  | 2 => [(7, 2, 0, 142), (13, 2, 1, 146), (16, 2, 2, 149)]
  | 3 => [(9, 3, 1, 348), (15, 3, 0, 347), (25, 3, 2, 349), (29, 3, 3, 350), (32, 3, 4, 351), (35, 3, 6, 353), (38, 3, 7, 354), (48, 3, 5, 352), (66, 3, 8, 355)]
  | 4 => [(11, 4, 0, 206), (19, 4, 1, 209), (23, 4, 2, 213), (27, 4, 3, 215), (32, 4, 4, 217), (36, 4, 5, 219), (39, 4, 6, 221), (42, 4, 7, 224), (45, 4, 8, 226), (51, 4, 9, 228), (55, 4, 10, 231), (59, 4, 11, 234), (62, 4, 12, 237), (65, 4, 13, 239), (68, 4, 14, 241), (71, 4, 15, 244), (74, 4, 16, 246), (77, 4, 17, 248), (80, 4, 18, 251), (109, 2, 0, 145), (112, 2, 1, 148), (115, 2, 2, 151), (118, 1, 7, 187), (134, 1, 0, 168), (140, 1, 2, 176), (149, 1, 5, 183), (152, 9, 0, 920), (167, 1, 1, 172)]
  | 5 => [(9, 5, 0, 386), (15, 5, 1, 388), (19, 5, 2, 390)]
  | 6 => [(9, 6, 2, 323), (15, 6, 5, 326), (18, 6, 0, 321), (22, 6, 1, 322), (37, 4, 14, 242), (47, 6, 3, 324), (51, 6, 4, 325), (54, 4, 1, 210), (58, 4, 6, 222), (61, 1, 2, 174), (81, 1, 0, 166)]
  | 7 => [(12, 7, 0, 406), (18, 7, 1, 408), (22, 7, 2, 410), (25, 7, 3, 412)]
  | 8 => [(9, 8, 0, 299), (15, 8, 1, 300), (18, 8, 2, 301), (21, 8, 3, 302), (24, 8, 4, 303), (28, 4, 10, 232), (42, 4, 0, 207), (46, 2, 0, 143), (59, 1, 2, 175), (68, 1, 4, 180), (71, 1, 3, 178), (86, 1, 0, 165), (95, 1, 1, 171), (110, 4, 11, 236), (113, 4, 1, 212), (125, 1, 5, 182), (128, 4, 18, 252), (138, 4, 9, 229), (142, 4, 17, 249)]
  | 9 => [(9, 9, 0, 919), (15, 9, 1, 922), (18, 9, 2, 924), (28, 9, 3, 925)]
  | 10 => [(10, 10, 0, 423), (16, 10, 1, 424), (19, 10, 2, 425), (27, 10, 3, 426), (36, 10, 4, 427), (40, 10, 5, 428), (49, 10, 6, 429), (53, 10, 7, 430), (59, 10, 8, 431), (65, 10, 9, 432), (69, 10, 10, 433), (73, 10, 11, 434), (76, 10, 12, 435), (91, 4, 10, 233), (102, 4, 0, 208), (106, 2, 0, 144), (111, 2, 1, 147), (114, 2, 2, 150), (130, 4, 11, 235), (133, 4, 1, 211), (153, 1, 1, 170), (180, 1, 6, 185), (188, 4, 16, 247), (201, 1, 0, 167), (220, 4, 12, 238), (223, 4, 2, 214), (226, 4, 3, 216), (238, 1, 7, 188), (249, 3, 8, 356), (252, 4, 13, 240), (255, 4, 4, 218), (259, 9, 0, 921), (264, 9, 1, 923), (273, 4, 5, 220), (290, 4, 14, 243), (293, 4, 6, 223), (306, 6, 5, 327), (312, 4, 15, 245), (315, 4, 7, 225), (318, 4, 8, 227), (327, 4, 18, 253), (330, 4, 17, 250), (339, 4, 9, 230), (343, 0, 2, 128), (348, 0, 0, 125), (369, 5, 0, 387), (374, 5, 2, 391), (375, 5, 1, 389), (390, 7, 1, 409), (393, 7, 2, 411), (394, 7, 0, 407), (401, 7, 3, 413)]
  | 11 => [(7, 11, 0, 1230), (13, 11, 1, 1231), (16, 11, 2, 1232), (19, 11, 4, 1234), (22, 11, 5, 1235), (25, 11, 6, 1236), (28, 11, 7, 1237), (31, 11, 8, 1238), (34, 11, 9, 1239), (37, 11, 10, 1240), (40, 11, 11, 1241), (43, 11, 12, 1242), (46, 11, 13, 1243), (49, 11, 14, 1244), (52, 11, 15, 1245), (55, 11, 16, 1246), (58, 11, 19, 1249), (61, 11, 20, 1250), (64, 11, 32, 1262), (67, 11, 33, 1263), (70, 11, 35, 1265), (73, 11, 36, 1266), (76, 11, 37, 1267), (79, 11, 38, 1268), (82, 11, 40, 1270), (167, 11, 17, 1247), (171, 11, 18, 1248), (226, 11, 21, 1251), (238, 11, 23, 1253), (241, 11, 24, 1254), (244, 11, 22, 1252), (250, 11, 26, 1256), (256, 11, 25, 1255), (266, 11, 30, 1260), (269, 11, 29, 1259), (297, 11, 31, 1261), (303, 11, 28, 1258), (306, 11, 27, 1257), (349, 11, 34, 1264), (390, 11, 39, 1269), (393, 11, 3, 1233)]
  | 12 => [(9, 12, 0, 1848), (15, 12, 1, 1849)]
  | _ => []
/-- statics: entry, which, whether a nest mate's, the place of the word -/
def mu_pS : Nat → List (Nat × Nat × Nat × Nat)
  | 1 => [(49, 5, 1, 0)]
  | 4 => [(187, 3, 1, 2), (190, 4, 1, 3)]
  | 8 => [(92, 1, 1, 1)]
  | 10 => [(150, 1, 0, 560), (156, 2, 0, 562), (159, 3, 0, 564), (162, 4, 0, 566), (419, 0, 0, 585)]
  | 12 => [(38, 6, 0, 771), (1053, 7, 0, 787)]
  | _ => []
/-- methods: entry, method, kind of call (0 static, 1 virtual, 2 a constructor), whether a nest mate's, the places of the words: link, code, initialized, static or instance, selects -/
def mu_pM : Nat → List (Nat × mu_M × Nat × Bool × List Nat)
  | 1 => [(37, mm_X10_asInt, 0, true, [9, 516, 78, 515, 0]), (41, mm_X10_isOfKind, 0, true, [10, 584, 78, 583, 0]), (45, mm_X1_isBlow, 1, false, [692, 647, 82, 645, 646])]
  | 3 => [(41, mm_X3_goOn, 1, false, [746, 749, 85, 748, 5]), (44, mm_X3_keyHere, 1, false, [754, 757, 85, 756, 7]), (51, mm_X3_tier, 1, false, [813, 816, 85, 815, 9]), (57, mm_J7_copyOf_59c91, 0, false, [901, 903, 96, 902, 0]), (63, mm_X9_init, 2, false, [915, 917, 90, 916, 0]), (69, mm_X3_foundAt, 1, false, [750, 753, 85, 752, 6]), (75, mm_X3_isHere, 1, false, [759, 762, 85, 761, 8]), (83, mm_J0_length_8abf5, 1, false, [763, 766, 91, 764, 765]), (87, mm_J0_charAt_5068e, 1, false, [773, 776, 91, 774, 775]), (91, mm_X3_piece, 1, false, [817, 820, 85, 819, 10]), (95, mm_X3_isJoinOf, 1, false, [895, 898, 85, 897, 15]), (99, mm_X3_note, 1, false, [887, 890, 85, 889, 13]), (103, mm_X3_numberHere, 1, false, [821, 824, 85, 823, 11]), (106, mm_X3_nameHere, 1, false, [825, 828, 85, 827, 12]), (109, mm_X3_isSign, 1, false, [891, 894, 85, 893, 14]), (119, mm_J0_indexOf_0f7a4, 1, false, [832, 835, 91, 833, 834])]
  | 4 => [(50, mm_X0_init, 2, true, [0, 122, 80, 121, 0]), (83, mm_X2_init, 2, true, [1, 140, 81, 139, 0]), (84, mm_X1_init, 2, true, [2, 162, 82, 161, 0]), (85, mm_X2_takeFrom, 1, false, [991, 994, 81, 992, 993]), (89, mm_X1_takeFrom, 1, false, [995, 998, 82, 996, 997]), (98, mm_X0_takeFrom, 1, false, [1000, 1003, 80, 1001, 1002]), (101, mm_X10_isWithin, 0, true, [6, 472, 78, 471, 0]), (105, mm_X4_hasPerson, 1, false, [947, 486, 79, 484, 485]), (122, mm_X10_asInt, 0, true, [11, 516, 78, 515, 0]), (126, mm_X1_isBlow, 1, false, [1219, 647, 82, 645, 646]), (130, mm_X1_sharesBeat, 1, false, [547, 550, 82, 548, 549]), (137, mm_X1_goesOn, 1, false, [617, 620, 82, 618, 619]), (143, mm_X1_isBlowToDo, 1, false, [706, 691, 82, 689, 690]), (146, mm_X4_isUnready, 1, false, [707, 710, 79, 708, 709]), (155, mm_X4_lawOf, 1, false, [497, 500, 79, 498, 499]), (159, mm_X9_value, 1, false, [501, 504, 90, 502, 503]), (163, mm_X10_held, 0, true, [8, 522, 78, 521, 0]), (170, mm_X4_isBarred, 1, false, [965, 571, 79, 569, 570]), (179, mm_X4_hoursNeeded, 1, false, [970, 951, 79, 949, 950]), (183, mm_X4_tireAndWear, 1, false, [1088, 1091, 79, 1090, 19]), (193, mm_X4_weaponOf, 1, false, [1094, 491, 79, 489, 490])]
  | 5 => [(28, mm_X10_isWithin, 0, true, [12, 472, 78, 471, 0]), (32, mm_X10_asInt, 0, true, [13, 516, 78, 515, 0])]
  | 6 => [(26, mm_X4_takeFrom, 1, false, [1014, 990, 79, 988, 989]), (32, mm_X8_look, 1, false, [1015, 607, 83, 605, 606]), (66, mm_X6_isToTry, 1, false, [1018, 1021, 84, 1020, 16]), (70, mm_X6_stands, 1, false, [1022, 1025, 84, 1024, 17]), (74, mm_X4_meetsAnother, 1, false, [1026, 546, 79, 544, 545]), (78, mm_X1_goesOn, 1, false, [1027, 620, 82, 618, 619]), (84, mm_X8_trace, 1, false, [1028, 612, 83, 610, 611]), (88, mm_X8_tooNearTo, 1, false, [1029, 672, 83, 670, 671]), (92, mm_X8_firstBreach, 1, false, [1030, 687, 83, 685, 686])]
  | 7 => [(11, mm_X5_init, 2, true, [5, 384, 86, 383, 0])]
  | 8 => [(34, mm_X4_lateOf, 1, false, [608, 496, 79, 494, 495]), (38, mm_X8_trace, 1, false, [609, 612, 83, 610, 611]), (51, mm_X4_nextGoing, 1, false, [613, 616, 79, 614, 615]), (55, mm_X8_stay, 1, false, [623, 626, 83, 625, 0]), (64, mm_X8_go, 1, false, [632, 635, 83, 634, 1]), (74, mm_X8_spotAt, 0, false, [627, 629, 83, 628, 0]), (98, mm_X8_leastGap, 1, false, [653, 656, 83, 655, 2]), (102, mm_X8_gapTo, 1, false, [673, 652, 83, 650, 651]), (106, mm_X1_spanTo, 1, false, [674, 677, 82, 675, 676]), (117, mm_X1_isBlowToDo, 1, false, [688, 691, 82, 689, 690]), (121, mm_X8_tooNearTo, 1, false, [693, 672, 83, 670, 671]), (132, mm_X8_missesOf, 1, false, [1076, 1079, 83, 1078, 18]), (135, mm_X4_endShow, 1, false, [1084, 1087, 79, 1085, 1086]), (145, mm_X0_add, 1, false, [1080, 1083, 80, 1081, 1082])]
  | 9 => [(34, mm_X9_named, 0, false, [508, 510, 90, 509, 0]), (38, mm_X10_asInt, 0, true, [7, 516, 78, 515, 0]), (42, mm_X9_joined, 0, false, [517, 519, 90, 518, 0])]
  | 10 => [(9, mm_X4_init, 2, false, [108, 110, 79, 109, 0]), (24, mm_X8_init, 2, false, [295, 297, 83, 296, 0]), (33, mm_X6_init, 2, false, [317, 319, 84, 318, 0]), (46, mm_X3_init, 2, false, [343, 345, 85, 344, 0]), (80, mm_X5_init, 2, true, [3, 384, 86, 383, 0]), (81, mm_X7_init, 2, true, [4, 402, 87, 401, 0]), (82, mm_X10_isPlace, 0, false, [467, 469, 78, 468, 0]), (86, mm_X10_isWithin, 0, false, [470, 472, 78, 471, 0]), (95, mm_X4_addPerson, 1, false, [475, 478, 79, 476, 477]), (99, mm_X4_hasPerson, 1, false, [483, 486, 79, 484, 485]), (117, mm_X4_weaponOf, 1, false, [488, 491, 79, 489, 490]), (121, mm_X4_lateOf, 1, false, [493, 496, 79, 494, 495]), (124, mm_X10_isKind, 0, false, [533, 535, 78, 534, 0]), (127, mm_X10_isTime, 0, false, [536, 538, 78, 537, 0]), (137, mm_X1_become, 1, false, [539, 542, 82, 540, 541]), (143, mm_X4_meetsAnother, 1, false, [543, 546, 79, 544, 545]), (147, mm_X4_hasMove, 1, false, [556, 559, 79, 557, 558]), (165, mm_X4_isBarred, 1, false, [568, 571, 79, 569, 570]), (169, mm_X10_asInt, 0, false, [572, 516, 78, 515, 0]), (173, mm_X1_part, 1, false, [573, 576, 82, 574, 575]), (176, mm_X10_isOfKind, 0, false, [582, 584, 78, 583, 0]), (184, mm_X1_becomeCut, 1, false, [592, 595, 82, 593, 594]), (191, mm_X8_look, 1, false, [604, 607, 83, 605, 606]), (194, mm_X8_placeAt, 1, false, [636, 639, 83, 637, 638]), (197, mm_X1_isBlow, 1, false, [644, 647, 82, 645, 646]), (204, mm_X8_gapTo, 1, false, [649, 652, 83, 650, 651]), (208, mm_X10_refusalOfBlow, 1, false, [665, 668, 78, 667, 3]), (211, mm_X8_tooNearTo, 1, false, [669, 672, 83, 670, 671]), (216, mm_X8_firstBreach, 1, false, [684, 687, 83, 685, 686]), (229, mm_X4_unreadyBlows, 1, false, [702, 705, 79, 703, 704]), (232, mm_X4_isUnready, 1, false, [712, 710, 79, 708, 709]), (235, mm_X8_isSeen, 1, false, [717, 720, 83, 718, 719]), (241, mm_X10_feedOne, 1, false, [729, 732, 78, 731, 4]), (245, mm_X3_read, 1, false, [741, 744, 85, 742, 743]), (267, mm_X4_areTwo, 1, false, [943, 946, 79, 944, 945]), (270, mm_X4_hoursNeeded, 1, false, [948, 951, 79, 949, 950]), (281, mm_X4_hasBarred, 1, false, [961, 964, 79, 962, 963]), (284, mm_X4_lacksHours, 1, false, [966, 969, 79, 967, 968]), (287, mm_X4_chosenPlace, 1, false, [975, 978, 79, 976, 977]), (296, mm_X4_takeFrom, 1, false, [987, 990, 79, 988, 989]), (299, mm_X1_isBlowToDo, 1, false, [1005, 691, 82, 689, 690]), (302, mm_X6_seek, 1, false, [1010, 1013, 84, 1011, 1012]), (309, mm_X6_moveOn, 1, false, [1035, 1038, 84, 1036, 1037]), (321, mm_X4_hasWeapon, 1, false, [1047, 1050, 79, 1048, 1049]), (324, mm_X4_isDull, 1, false, [1051, 1054, 79, 1052, 1053]), (333, mm_X8_play, 1, false, [1071, 1074, 83, 1072, 1073]), (351, mm_X0_mostMissed, 1, false, [1107, 1110, 80, 1108, 1109]), (354, mm_X10_isSheet, 0, false, [1116, 1118, 78, 1117, 0]), (357, mm_X5_become, 1, false, [1119, 1122, 86, 1120, 1121]), (361, mm_X5_isMissing, 1, false, [1128, 1131, 86, 1129, 1130]), (365, mm_X5_hasPlace, 1, false, [1133, 1136, 86, 1134, 1135]), (371, mm_X5_put, 1, false, [1139, 1142, 86, 1140, 1141]), (378, mm_X5_hasPlaces, 1, false, [1152, 1155, 86, 1153, 1154]), (387, mm_X10_isSlot, 0, false, [1161, 1163, 78, 1162, 0]), (398, mm_X5_takeFrom, 1, false, [1164, 1167, 86, 1165, 1166]), (404, mm_X7_findingOn, 1, false, [1173, 1176, 87, 1174, 1175]), (407, mm_X4_tiredTogether, 1, false, [1195, 1198, 79, 1196, 1197]), (410, mm_X4_cutMoves, 1, false, [1211, 1214, 79, 1212, 1213]), (413, mm_X4_blows, 1, false, [1215, 1218, 79, 1216, 1217]), (416, mm_X4_weaponsOut, 1, false, [1220, 1223, 79, 1221, 1222])]
  | 11 => [(86, mm_X11_stale, 1, false, [1372, 1375, 88, 1374, 21]), (89, mm_X11_isIn, 0, false, [1362, 1364, 88, 1363, 0]), (95, mm_X11_moveAt, 1, false, [1430, 1433, 88, 1432, 29]), (103, mm_X11_field, 1, false, [1426, 1429, 88, 1428, 28]), (107, mm_X11_isBlowKind, 0, false, [1457, 1459, 88, 1458, 0]), (111, mm_X11_isBlow, 1, false, [1494, 1497, 88, 1496, 35]), (114, mm_X11_isPlace, 0, false, [1358, 1360, 88, 1359, 0]), (121, mm_X11_personAt, 1, false, [1368, 1371, 88, 1370, 20]), (124, mm_X11_counts, 1, false, [1389, 1392, 88, 1391, 24]), (127, mm_X11_worked, 1, false, [1397, 1400, 88, 1399, 26]), (130, mm_X11_heldIn, 0, false, [1404, 1406, 88, 1405, 0]), (133, mm_X11_isPerson, 1, false, [1380, 1383, 88, 1382, 22]), (136, mm_X11_lateOf, 1, false, [1385, 1388, 88, 1387, 23]), (139, mm_X11_orNone, 0, false, [1407, 1409, 88, 1408, 0]), (144, mm_X11_becomes, 1, false, [1416, 1419, 88, 1418, 27]), (151, mm_X11_meet, 0, false, [1434, 1436, 88, 1435, 0]), (156, mm_X11_isMove, 1, false, [1442, 1445, 88, 1444, 30]), (159, mm_X11_isBarred, 1, false, [1446, 1449, 88, 1448, 31]), (162, mm_X11_isOf, 0, false, [1454, 1456, 88, 1455, 0]), (174, mm_X11_findOrder, 1, false, [1479, 1482, 88, 1481, 33]), (177, mm_X11_between, 0, false, [1483, 1485, 88, 1484, 0]), (183, mm_X11_findPlaces, 1, false, [1475, 1478, 88, 1477, 32]), (186, mm_X11_placeOf, 1, false, [1486, 1489, 88, 1488, 34]), (189, mm_X11_distance, 0, false, [1510, 1512, 88, 1511, 0]), (192, mm_X11_least, 0, false, [1513, 1515, 88, 1514, 0]), (195, mm_X11_near, 1, false, [1506, 1509, 88, 1508, 38]), (199, mm_X11_gapOf, 1, false, [1502, 1505, 88, 1504, 37]), (202, mm_X11_wanted, 1, false, [1524, 1527, 88, 1526, 40]), (205, mm_X11_findLates, 1, false, [1498, 1501, 88, 1500, 36]), (208, mm_X11_broken, 1, false, [1520, 1523, 88, 1522, 39]), (211, mm_X11_isDone, 1, false, [1536, 1539, 88, 1538, 42]), (214, mm_X11_firstBreach, 1, false, [1532, 1535, 88, 1534, 41]), (220, mm_X11_isUnready, 1, false, [1548, 1551, 88, 1550, 43]), (223, mm_X11_isSeen, 1, false, [1557, 1560, 88, 1559, 44]), (247, mm_X11_isLetter, 1, false, [1585, 1588, 88, 1587, 47]), (253, mm_X11_isDigit, 1, false, [1591, 1594, 88, 1593, 48]), (259, mm_X11_isWordAt, 1, false, [1601, 1604, 88, 1603, 50]), (262, mm_X11_isLong, 1, false, [1605, 1608, 88, 1607, 51]), (272, mm_X11_both, 1, false, [1613, 1616, 88, 1615, 53]), (275, mm_X11_isSign, 1, false, [1640, 1643, 88, 1642, 59]), (278, mm_X11_next, 1, false, [1581, 1584, 88, 1583, 46]), (281, mm_X11_step, 1, false, [1633, 1636, 88, 1635, 58]), (285, mm_X11_test, 1, false, [1617, 1620, 88, 1619, 54]), (288, mm_X11_sum, 1, false, [1621, 1624, 88, 1623, 55]), (291, mm_X11_term, 1, false, [1625, 1628, 88, 1627, 56]), (294, mm_X11_part0, 1, false, [1629, 1632, 88, 1631, 57]), (300, mm_X11_isName, 0, false, [1637, 1639, 88, 1638, 0]), (309, mm_X11_either, 1, false, [1609, 1612, 88, 1611, 52]), (312, mm_X11_textAt, 1, false, [1393, 1396, 88, 1395, 25]), (315, mm_X11_key, 1, false, [1597, 1600, 88, 1599, 49]), (318, mm_X11_parse, 1, false, [1577, 1580, 88, 1579, 45]), (321, mm_X11_isText, 1, false, [1648, 1651, 88, 1650, 60]), (324, mm_X11_joined, 0, false, [1401, 1403, 88, 1402, 0]), (327, mm_X11_isTwo, 1, false, [1656, 1659, 88, 1658, 61]), (330, mm_X11_needs, 1, false, [1660, 1663, 88, 1662, 62]), (333, mm_X11_hasBarred, 1, false, [1672, 1675, 88, 1674, 63]), (337, mm_X11_lacksHours, 1, false, [1676, 1679, 88, 1678, 64]), (340, mm_X11_choiceOf, 1, false, [1692, 1695, 88, 1694, 65]), (343, mm_X11_shiftable, 1, false, [1701, 1704, 88, 1703, 66]), (346, mm_X11_isApart, 1, false, [1713, 1716, 88, 1715, 69]), (352, mm_X11_holds, 1, false, [1709, 1712, 88, 1711, 68]), (357, mm_X11_findShifts, 1, false, [1705, 1708, 88, 1707, 67]), (360, mm_X11_weaponAt, 1, false, [1725, 1728, 88, 1727, 70]), (363, mm_X11_isWeapon, 1, false, [1733, 1736, 88, 1735, 71]), (367, mm_X11_logs, 1, false, [1759, 1762, 88, 1761, 73]), (370, mm_X11_tire, 1, false, [1763, 1766, 88, 1765, 74]), (375, mm_X11_oneShow, 1, false, [1754, 1757, 88, 1756, 72]), (378, mm_X11_missesOf, 1, false, [1779, 1782, 88, 1781, 75]), (381, mm_X11_isSheet, 0, false, [1787, 1789, 88, 1788, 0]), (387, mm_X11_isSlot, 0, false, [1809, 1811, 88, 1810, 0]), (396, mm_X11_setAside, 1, false, [1832, 1835, 88, 1834, 76])]
  | 12 => [(335, mm_J0_coder_7d493, 1, false, [767, 770, 91, 768, 769]), (492, mm_J0_isLatin1_aae02, 1, false, [777, 780, 91, 778, 779]), (495, mm_J1_charAt_3b067, 0, false, [781, 783, 92, 782, 0]), (505, mm_J0_length_8abf5, 1, false, [840, 766, 91, 764, 765]), (633, mm_J0_indexOf_7cf53, 1, false, [836, 839, 91, 837, 838]), (637, mm_J1_indexOf_4cfef, 0, false, [841, 843, 92, 842, 0]), (1059, mm_J3_checkIndex_8e157, 0, false, [789, 791, 93, 790, 0])]
  | 14 => [(9, mm_J0_checkIndex_df160, 0, false, [784, 786, 91, 785, 0]), (88, mm_J1_canEncode_9a6ad, 0, false, [844, 846, 92, 845, 0]), (95, mm_J1_indexOfChar_4cfef, 0, false, [849, 851, 92, 850, 0])]
  | 17 => [(9, mm_X10_init, 2, false, [100, 102, 78, 101, 0]), (12, mm_X11_init, 2, false, [1226, 1228, 88, 1227, 0]), (13, mm_X10_person, 1, false, [463, 466, 78, 464, 465]), (17, mm_X11_person, 1, false, [1354, 1357, 88, 1355, 1356]), (18, mm_X10_told, 1, false, [479, 482, 78, 480, 481]), (21, mm_X11_told, 1, false, [1376, 1379, 88, 1377, 1378]), (22, mm_X10_set, 1, false, [525, 528, 78, 526, 527]), (26, mm_X11_set, 1, false, [1411, 1414, 88, 1412, 1413]), (27, mm_X10_move, 1, false, [529, 532, 78, 530, 531]), (31, mm_X11_move, 1, false, [1420, 1423, 88, 1421, 1422]), (32, mm_X10_of, 1, false, [552, 555, 78, 553, 554]), (35, mm_X11_of, 1, false, [1438, 1441, 88, 1439, 1440]), (36, mm_X10_as, 1, false, [578, 581, 78, 579, 580]), (39, mm_X11_as, 1, false, [1450, 1453, 88, 1451, 1452]), (40, mm_X10_cut, 1, false, [588, 591, 78, 589, 590]), (44, mm_X11_cut, 1, false, [1462, 1465, 88, 1463, 1464]), (45, mm_X10_wet, 1, false, [596, 599, 78, 597, 598]), (49, mm_X11_wet, 1, false, [1466, 1469, 88, 1467, 1468]), (50, mm_X10_where, 1, false, [600, 603, 78, 601, 602]), (53, mm_X11_where, 1, false, [1470, 1473, 88, 1471, 1472]), (54, mm_X10_gap, 1, false, [640, 643, 78, 641, 642]), (57, mm_X11_gap, 1, false, [1490, 1493, 88, 1491, 1492]), (58, mm_X10_keeps, 1, false, [661, 664, 78, 662, 663]), (61, mm_X11_keeps, 1, false, [1516, 1519, 88, 1517, 1518]), (62, mm_X10_breach, 1, false, [680, 683, 78, 681, 682]), (65, mm_X11_breach, 1, false, [1528, 1531, 88, 1529, 1530]), (66, mm_X10_sign, 1, false, [694, 697, 78, 695, 696]), (69, mm_X11_sign, 1, false, [1540, 1543, 88, 1541, 1542]), (70, mm_X10_unready, 1, false, [698, 701, 78, 699, 700]), (73, mm_X11_unready, 1, false, [1544, 1547, 88, 1545, 1546]), (74, mm_X10_seen, 1, false, [713, 716, 78, 714, 715]), (77, mm_X11_seen, 1, false, [1553, 1556, 88, 1554, 1555]), (78, mm_X10_story, 1, false, [721, 724, 78, 722, 723]), (82, mm_X11_story, 1, false, [1561, 1564, 88, 1562, 1563]), (83, mm_X10_feed, 1, false, [725, 728, 78, 726, 727]), (86, mm_X11_feed, 1, false, [1565, 1568, 88, 1566, 1567]), (87, mm_X10_trim, 1, false, [733, 736, 78, 734, 735]), (90, mm_X11_trim, 1, false, [1569, 1572, 88, 1570, 1571]), (91, mm_X10_text, 1, false, [737, 740, 78, 738, 739]), (94, mm_X11_text, 1, false, [1573, 1576, 88, 1574, 1575]), (95, mm_X10_textTold, 1, false, [935, 938, 78, 936, 937]), (98, mm_X11_textTold, 1, false, [1644, 1647, 88, 1645, 1646]), (99, mm_X10_hours, 1, false, [939, 942, 78, 940, 941]), (102, mm_X11_hours, 1, false, [1652, 1655, 88, 1653, 1654]), (103, mm_X10_practise, 1, false, [953, 956, 78, 954, 955]), (106, mm_X11_practise, 1, false, [1664, 1667, 88, 1665, 1666]), (107, mm_X10_may, 1, false, [957, 960, 78, 958, 959]), (110, mm_X11_may, 1, false, [1668, 1671, 88, 1669, 1670]), (111, mm_X10_choose, 1, false, [971, 974, 78, 972, 973]), (114, mm_X11_choose, 1, false, [1680, 1683, 88, 1681, 1682]), (115, mm_X10_clear, 1, false, [979, 982, 78, 980, 981]), (118, mm_X11_clear, 1, false, [1684, 1687, 88, 1685, 1686]), (119, mm_X10_understudy, 1, false, [983, 986, 78, 984, 985]), (122, mm_X11_understudy, 1, false, [1688, 1691, 88, 1689, 1690]), (123, mm_X10_shifts, 1, false, [1006, 1009, 78, 1007, 1008]), (126, mm_X11_shifts, 1, false, [1696, 1699, 88, 1697, 1698]), (127, mm_X10_shift, 1, false, [1031, 1034, 78, 1032, 1033]), (130, mm_X11_shift, 1, false, [1717, 1720, 88, 1718, 1719]), (131, mm_X10_weapon, 1, false, [1039, 1042, 78, 1040, 1041]), (134, mm_X11_weapon, 1, false, [1721, 1724, 88, 1722, 1723]), (135, mm_X10_out, 1, false, [1043, 1046, 78, 1044, 1045]), (138, mm_X11_out, 1, false, [1729, 1732, 88, 1730, 1731]), (139, mm_X10_in, 1, false, [1055, 1058, 78, 1056, 1057]), (142, mm_X11_in, 1, false, [1737, 1740, 88, 1738, 1739]), (143, mm_X10_wear, 1, false, [1059, 1062, 78, 1060, 1061]), (146, mm_X11_wear, 1, false, [1741, 1744, 88, 1742, 1743]), (147, mm_X10_seed, 1, false, [1063, 1066, 78, 1064, 1065]), (150, mm_X11_seed, 1, false, [1745, 1748, 88, 1746, 1747]), (151, mm_X10_show, 1, false, [1067, 1070, 78, 1068, 1069]), (154, mm_X11_show, 1, false, [1749, 1752, 88, 1750, 1751]), (155, mm_X10_restAll, 1, false, [1095, 1098, 78, 1096, 1097]), (158, mm_X11_restAll, 1, false, [1767, 1770, 88, 1768, 1769]), (159, mm_X10_log, 1, false, [1099, 1102, 78, 1100, 1101]), (162, mm_X11_log, 1, false, [1771, 1774, 88, 1772, 1773]), (163, mm_X10_led, 1, false, [1103, 1106, 78, 1104, 1105]), (166, mm_X11_led, 1, false, [1775, 1778, 88, 1776, 1777]), (167, mm_X10_sheet, 1, false, [1112, 1115, 78, 1113, 1114]), (170, mm_X11_sheet, 1, false, [1783, 1786, 88, 1784, 1785]), (171, mm_X10_mark, 1, false, [1124, 1127, 78, 1125, 1126]), (174, mm_X11_mark, 1, false, [1791, 1794, 88, 1792, 1793]), (175, mm_X10_cuts, 1, false, [1144, 1147, 78, 1145, 1146]), (178, mm_X11_cuts, 1, false, [1797, 1800, 88, 1798, 1799]), (179, mm_X10_copy, 1, false, [1148, 1151, 78, 1149, 1150]), (182, mm_X11_copy, 1, false, [1801, 1804, 88, 1802, 1803]), (183, mm_X10_lay, 1, false, [1157, 1160, 78, 1158, 1159]), (186, mm_X11_lay, 1, false, [1805, 1808, 88, 1806, 1807]), (187, mm_X10_ask, 1, false, [1169, 1172, 78, 1170, 1171]), (190, mm_X11_ask, 1, false, [1812, 1815, 88, 1813, 1814]), (191, mm_X10_item, 1, false, [1179, 1182, 78, 1180, 1181]), (194, mm_X11_item, 1, false, [1816, 1819, 88, 1817, 1818]), (195, mm_X10_rest, 1, false, [1183, 1186, 78, 1184, 1185]), (198, mm_X11_rest, 1, false, [1820, 1823, 88, 1821, 1822]), (199, mm_X10_tell, 1, false, [1187, 1190, 78, 1188, 1189]), (202, mm_X11_tell, 1, false, [1824, 1827, 88, 1825, 1826]), (203, mm_X10_check, 1, false, [1191, 1194, 78, 1192, 1193]), (206, mm_X11_check, 1, false, [1828, 1831, 88, 1829, 1830]), (207, mm_X10_keep, 1, false, [1199, 1202, 78, 1200, 1201]), (210, mm_X11_keep, 1, false, [1836, 1839, 88, 1837, 1838]), (211, mm_X10_back, 1, false, [1203, 1206, 78, 1204, 1205]), (214, mm_X11_back, 1, false, [1840, 1843, 88, 1841, 1842]), (215, mm_X10_count, 1, false, [1207, 1210, 78, 1208, 1209]), (218, mm_X11_count, 1, false, [1844, 1847, 88, 1845, 1846])]
  | _ => []
/-- methods of the library: entry, which, the place of the word -/
def mu_pQ : Nat → List (Nat × Nat × Nat)
  | 0 => [(3, 0, 123), (22, 4, 1004)]
  | 1 => [(3, 0, 163)]
  | 2 => [(1, 0, 141)]
  | 3 => [(3, 0, 346), (19, 2, 745)]
  | 4 => [(3, 0, 111), (92, 4, 999), (173, 2, 952)]
  | 5 => [(3, 0, 385), (22, 4, 1168)]
  | 6 => [(3, 0, 320), (41, 2, 1016)]
  | 7 => [(3, 0, 403)]
  | 8 => [(3, 0, 298), (78, 2, 631), (83, 1, 630), (89, 3, 657)]
  | 9 => [(3, 0, 918), (22, 1, 511), (31, 2, 505)]
  | 10 => [(1, 0, 103), (276, 2, 523), (336, 1, 524), (381, 4, 1156)]
  | 11 => [(1, 0, 1229)]
  | 14 => [(38, 2, 848), (92, 1, 847)]
  | 16 => [(150, 4, 912), (304, 2, 911)]
  | _ => []
/-- constants: entry, an int and the place of the word, or a text -/
def mu_pC : Nat → List (Nat × ((Int32 × Nat) ⊕ Nat))
  | 0 => [(28, Sum.inl (-1000000005, 1111))]
  | 3 => [(73, Sum.inr 0), (79, Sum.inr 1), (81, Sum.inr 2), (113, Sum.inr 3), (115, Sum.inr 4), (117, Sum.inr 5)]
  | 4 => [(182, Sum.inl (-1000000005, 492))]
  | 6 => [(50, Sum.inl (-1000000005, 1017))]
  | 7 => [(28, Sum.inl (-1000000011, 1177)), (29, Sum.inl (-1000000012, 1178))]
  | 8 => [(109, Sum.inl (-1000000005, 678)), (131, Sum.inl (1103515245, 1075))]
  | 10 => [(90, Sum.inl (-1000000001, 473)), (94, Sum.inl (-1000000003, 474)), (146, Sum.inl (-1000000002, 551)), (183, Sum.inl (-1000000012, 587)), (215, Sum.inl (-1000000005, 679)), (360, Sum.inl (-1000000014, 1123)), (364, Sum.inl (-1000000011, 1132)), (368, Sum.inl (-1000000013, 1138))]
  | 11 => [(85, Sum.inl (-1000000005, 1410)), (119, Sum.inl (-1000000001, 1366)), (120, Sum.inl (-1000000003, 1367)), (155, Sum.inl (-1000000002, 1437)), (166, Sum.inl (-1000000012, 1461)), (366, Sum.inl (1103515245, 1758)), (384, Sum.inl (-1000000014, 1790)), (385, Sum.inl (-1000000011, 1795)), (386, Sum.inl (-1000000013, 1796))]
  | _ => []
/-- long constants: entry, the number, the place of the word -/
def mu_pL : Nat → List (Nat × Int64 × Nat)
  | 11 => [(93, 117, 1361), (99, 2, 1460), (101, 4, 1384), (117, 9, 1365), (142, 99, 1415), (147, 909, 1424), (149, 5, 1425), (181, -9, 1474), (218, 3, 1552), (230, 97, 1589), (232, 122, 1590), (234, 48, 1595), (236, 57, 1596), (355, -1, 1700), (373, 20, 1753)]
  | _ => []
/-- classes of new objects: entry, class, the place of the word -/
def mu_pN : Nat → List (Nat × Nat × Nat)
  | 3 => [(55, 9, 899)]
  | 4 => [(9, 2, 112), (17, 1, 114), (48, 0, 118)]
  | 7 => [(9, 5, 404)]
  | 10 => [(7, 4, 106), (22, 8, 293), (31, 6, 315), (44, 3, 341), (57, 5, 377), (63, 7, 379)]
  | 17 => [(7, 10, 98), (10, 11, 1224)]
  | _ => []
/-- classes of new arrays: entry, array kind, the place of the word -/
def mu_pA : Nat → List (Nat × Nat × Nat)
  | 4 => [(9, 2, 112), (17, 3, 114), (30, 4, 116)]
  | 10 => [(57, 5, 377), (63, 6, 379)]
  | _ => []
/-- of each class: the places of the words instantiable, initialized -/
def mu_cw : List (Nat × Nat) := [(119, 80), (159, 82), (137, 81), (342, 85), (107, 79), (381, 86), (316, 84), (399, 87), (294, 83), (900, 90), (99, 78), (1225, 88)]
/-- of each class: the places of its fields' words -/
def mu_uw : List (List Nat) := [[129, 131, 133], [189, 191, 193, 195, 197, 199, 201, 203], [152, 154, 156], [357, 359, 361, 363, 365, 367, 369, 371, 373], [254, 256, 258, 260, 262, 264, 266, 268, 270, 272, 274, 276, 278, 280, 282, 284, 286, 288, 290], [392, 394, 396], [328, 330, 332, 334, 336, 338], [414, 416, 418, 420], [304, 306, 308, 310, 312], [926, 928, 930, 932], [436, 438, 440, 442, 444, 446, 448, 450, 452, 454, 456, 458, 460], [1271, 1273, 1275, 1277, 1279, 1281, 1283, 1285, 1287, 1289, 1291, 1293, 1295, 1297, 1299, 1301, 1303, 1305, 1307, 1309, 1311, 1313, 1315, 1317, 1319, 1321, 1323, 1325, 1327, 1329, 1331, 1333, 1335, 1337, 1339, 1341, 1343, 1345, 1347, 1349, 1351]]
end
section
/-! OWN SMALL MACHINE, PART 4: one instruction -/
def mu_at : List (Nat × Instr × Nat) → Nat → Option (Instr × Nat)
  | [], _ => none
  | (k, i, n) :: t, pc => match Nat.beq k pc with
    | true => some (i, n)
    | false => mu_at t pc
def mu_j (pc : Nat) (off : Int) : Nat := ((pc : Int) + off).toNat
def mu_p1 (st : List Value) (f : Int32 → List Value → Prop) : Prop := match st with
  | .int x :: r => f x r
  | _ => False
def mu_p2 (st : List Value) (f : Int32 → Int32 → List Value → Prop) : Prop := match st with
  | .int y :: .int x :: r => f x y r
  | _ => False
def mu_q1 (st : List Value) (f : Int64 → List Value → Prop) : Prop := match st with
  | .long x :: r => f x r
  | _ => False
def mu_q2 (st : List Value) (f : Int64 → Int64 → List Value → Prop) : Prop := match st with
  | .long y :: .long x :: r => f x y r
  | _ => False
def mu_pr (st : List Value) (f : Nat → List Value → Prop) : Prop := match st with
  | .ref a :: r => f a r
  | _ => False
def mu_pir (st : List Value) (f : Nat → Int32 → List Value → Prop) : Prop := match st with
  | .int j :: .ref a :: r => f a j r
  | _ => False
def mu_prr (st : List Value) (f : Nat → Nat → List Value → Prop) : Prop := match st with
  | .ref b :: .ref a :: r => f a b r
  | _ => False
def mu_piir (st : List Value) (f : Nat → Int32 → Int32 → List Value → Prop) : Prop := match st with
  | .int x :: .int j :: .ref a :: r => f a j x r
  | _ => False
def mu_prir (st : List Value) (f : Nat → Int32 → Nat → List Value → Prop) : Prop := match st with
  | .ref v :: .int j :: .ref a :: r => f a j v r
  | _ => False
def mu_pcp (st : List Value) (f : Nat → Int32 → Nat → Int32 → Int32 → List Value → Prop) : Prop := match st with
  | .int n :: .int dp :: .ref b :: .int sp :: .ref a :: r => f a sp b dp n r
  | _ => False
theorem mu_p1_e {st : List Value} {f : Int32 → List Value → Prop} (h : mu_p1 st f) : ∃ x r, st = .int x :: r ∧ f x r := by
  unfold mu_p1 at h; split at h
  · exact ⟨_, _, rfl, h⟩
  · exact h.elim
theorem mu_p2_e {st : List Value} {f : Int32 → Int32 → List Value → Prop} (h : mu_p2 st f) : ∃ x y r, st = .int y :: .int x :: r ∧ f x y r := by
  unfold mu_p2 at h; split at h
  · exact ⟨_, _, _, rfl, h⟩
  · exact h.elim
theorem mu_q1_e {st : List Value} {f : Int64 → List Value → Prop} (h : mu_q1 st f) : ∃ x r, st = .long x :: r ∧ f x r := by
  unfold mu_q1 at h; split at h
  · exact ⟨_, _, rfl, h⟩
  · exact h.elim
theorem mu_q2_e {st : List Value} {f : Int64 → Int64 → List Value → Prop} (h : mu_q2 st f) : ∃ x y r, st = .long y :: .long x :: r ∧ f x y r := by
  unfold mu_q2 at h; split at h
  · exact ⟨_, _, _, rfl, h⟩
  · exact h.elim
theorem mu_pr_e {st : List Value} {f : Nat → List Value → Prop} (h : mu_pr st f) : ∃ a r, st = .ref a :: r ∧ f a r := by
  unfold mu_pr at h; split at h
  · exact ⟨_, _, rfl, h⟩
  · exact h.elim
theorem mu_pir_e {st : List Value} {f : Nat → Int32 → List Value → Prop} (h : mu_pir st f) : ∃ a j r, st = .int j :: .ref a :: r ∧ f a j r := by
  unfold mu_pir at h; split at h
  · exact ⟨_, _, _, rfl, h⟩
  · exact h.elim
theorem mu_prr_e {st : List Value} {f : Nat → Nat → List Value → Prop} (h : mu_prr st f) : ∃ a b r, st = .ref b :: .ref a :: r ∧ f a b r := by
  unfold mu_prr at h; split at h
  · exact ⟨_, _, _, rfl, h⟩
  · exact h.elim
theorem mu_piir_e {st : List Value} {f : Nat → Int32 → Int32 → List Value → Prop} (h : mu_piir st f) : ∃ a j x r, st = .int x :: .int j :: .ref a :: r ∧ f a j x r := by
  unfold mu_piir at h; split at h
  · exact ⟨_, _, _, _, rfl, h⟩
  · exact h.elim
theorem mu_prir_e {st : List Value} {f : Nat → Int32 → Nat → List Value → Prop} (h : mu_prir st f) : ∃ a j v r, st = .ref v :: .int j :: .ref a :: r ∧ f a j v r := by
  unfold mu_prir at h; split at h
  · exact ⟨_, _, _, _, rfl, h⟩
  · exact h.elim
theorem mu_pcp_e {st : List Value} {f : Nat → Int32 → Nat → Int32 → Int32 → List Value → Prop} (h : mu_pcp st f) : ∃ a sp b dp n r, st = .int n :: .int dp :: .ref b :: .int sp :: .ref a :: r ∧ f a sp b dp n r := by
  unfold mu_pcp at h; split at h
  · exact ⟨_, _, _, _, _, _, rfl, h⟩
  · exact h.elim
/-- an index lies within n places -/
def mu_in (j : Int32) (n : Nat) : Prop := 0 ≤ j.toInt ∧ j.toInt < (n : Int)
def mu_max (x y : Int32) : Int32 := if x < y then y else x
def mu_min (x y : Int32) : Int32 := if y < x then y else x
def mu_abs (x : Int32) : Int32 := if 0 ≤ x then x else 0 - x
def mu_ushr (x y : Int32) : Int32 := (x.toUInt32 >>> (y.toUInt32 &&& Int32.toUInt32 31)).toInt32
def mu_ifc (c : ClassFile.Cond) (x : Int32) : Prop := match c with
  | .eq => x = 0
  | .ne => ¬ x = 0
  | .lt => x < 0
  | .ge => 0 ≤ x
  | .gt => 0 < x
  | .le => x ≤ 0
def mu_icmp (c : ClassFile.Cond) (x y : Int32) : Prop := match c with
  | .eq => x = y
  | .ne => ¬ x = y
  | .lt => x < y
  | .ge => y ≤ x
  | .gt => y < x
  | .le => x ≤ y
/-- is field f of class c a reference -/
def mu_fR (c f : Nat) : Bool := match Nat.beq c 12 with
  | true => Nat.beq f 0
  | false => mu_isR (mu_Ty c f)
/-- what an int field takes -/
def mu_fit (t : FieldType) (x : Int32) (P : Prop) : Prop := match t with
  | .int => P
  | .boolean => (x = 0 ∨ x = 1) ∧ P
  | _ => False
def mu_nf : Nat → Nat
  | 0 => 3
  | 1 => 8
  | 2 => 3
  | 3 => 9
  | 4 => 19
  | 5 => 3
  | 6 => 6
  | 7 => 4
  | 8 => 5
  | 9 => 4
  | 10 => 13
  | _ => 41
def mu_split : Nat → List Value → List Value → Option (List Value × List Value)
  | 0, acc, st => some (acc, st)
  | n + 1, acc, v :: st => mu_split n (v :: acc) st
  | _ + 1, _, [] => none
theorem mu_split_e : ∀ {n : Nat} {acc st As rest : List Value}, mu_split n acc st = some (As, rest) → ∃ Bs : List Value, Bs.length = n ∧ As = Bs ++ acc ∧ st = Bs.reverse ++ rest
  | 0, acc, st, As, rest, h => by
    cases h
    exact ⟨[], rfl, rfl, rfl⟩
  | n + 1, acc, [], As, rest, h => by cases h
  | n + 1, acc, v :: st, As, rest, h => by
    obtain ⟨Bs, h1, h2, h3⟩ := mu_split_e (n := n) (acc := v :: acc) (st := st) h
    exact ⟨Bs ++ [v], by simp [h1], by simp [h2], by simp [h3]⟩
def mu_words : List Value → Nat
  | [] => 0
  | .long _ :: t => mu_words t + 2
  | .double _ :: t => mu_words t + 2
  | _ :: t => mu_words t + 1
/-- what lies below on the stack is small -/
def mu_small (r : List Value) (P : Prop) : Prop := match Nat.ble (mu_words r) 8 with
  | true => P
  | false => False
def mu_callV (w : mu_O) (mi : mu_M) (d : Nat) (L : Nat × Nat) (As : List Value) (g : mu_H) (K : mu_H → Prop) : Prop := ∃ g', mu_met w mi d As g none g' ∧ mu_X g' ≤ L.1 ∧ mu_S g' ≤ L.2 ∧ K g'
def mu_callI (w : mu_O) (mi : mu_M) (d : Nat) (L : Nat × Nat) (As : List Value) (g : mu_H) (K : Int32 → mu_H → Prop) : Prop := ∃ x g', mu_met w mi d As g (some (.int x)) g' ∧ mu_X g' ≤ L.1 ∧ mu_S g' ≤ L.2 ∧ K x g'
def mu_callR (w : mu_O) (mi : mu_M) (d : Nat) (L : Nat × Nat) (As : List Value) (g : mu_H) (K : Nat → mu_H → Prop) : Prop := ∃ x g', mu_met w mi d As g (some (.ref x)) g' ∧ mu_X g' ≤ L.1 ∧ mu_S g' ≤ L.2 ∧ K x g'
/-- a call, by what the method returns -/
def mu_call (w : mu_O) (mi : mu_M) (d : Nat) (L : Nat × Nat) (As : List Value) (rest : List Value) (g : mu_H) (K : List Value → mu_H → Prop) : Prop := match d with
  | 0 => False
  | d + 1 => match mu_mR mi with
    | none => mu_callV w mi d L As g (fun g' => K rest g')
    | some (.object _) => mu_callR w mi d L As g (fun x g' => K (.ref x :: rest) g')
    | some (.array _) => mu_callR w mi d L As g (fun x g' => K (.ref x :: rest) g')
    | some _ => mu_callI w mi d L As g (fun x g' => K (.int x :: rest) g')
def mu_sw (x : Int32) (K : Nat → Prop) (pc : Nat) : Int → List Int → Prop
  | _, [] => True
  | lo, off :: t => (x.toInt = lo → K (mu_j pc off)) ∧ mu_sw x K pc (lo + 1) t
def mu_lw (x : Int32) (K : Nat → Prop) (pc : Nat) (dflt : Int) : List (Int × Int) → Prop
  | [] => K (mu_j pc dflt)
  | (k, off) :: t => (x.toInt = k → K (mu_j pc off)) ∧ (¬ x.toInt = k → mu_lw x K pc dflt t)
abbrev mu_C : Type := Nat → List (Option Value) → List Value → mu_H → Prop
def mu_ldI (K : mu_C) (n pc : Nat) (ls : List (Option Value)) (st : List Value) (g : mu_H) (v : Option Value) : Prop := match v with
  | some (.int v) => K (pc + n) ls (.int v :: st) g
  | _ => False
def mu_ldL (K : mu_C) (n pc : Nat) (ls : List (Option Value)) (st : List Value) (g : mu_H) (v : Option Value) : Prop := match v with
  | some (.long v) => K (pc + n) ls (.long v :: st) g
  | _ => False
def mu_ldA (K : mu_C) (n pc : Nat) (ls : List (Option Value)) (st : List Value) (g : mu_H) (v : Option Value) : Prop := match v with
  | some (.ref v) => K (pc + n) ls (.ref v :: st) g
  | _ => False
def mu_sto (K : mu_C) (n pc : Nat) (ls : List (Option Value)) (st : List Value) (g : mu_H) (x : Nat) (v : Value) : Prop := match mu_noL ls x with
  | true => K (pc + n) (mu_set ls x v) st g
  | false => False
def mu_pos (d : Nat) (P : Prop) : Prop := match d with
  | 0 => False
  | _ + 1 => P
def mu_rI (t : Option FieldType) (x : Int32) (P : Prop) : Prop := match t with
  | some .int => P
  | some .boolean => (x = 0 ∨ x = 1) ∧ P
  | some t => narrow t (.int x) = .int x ∧ P
  | none => False
/-- addresses of statics and of texts -/
def mu_sa (w : mu_O) (j : Nat) : Nat := w.2.2.2.2.1 j
def mu_sb (w : mu_O) (j : Nat) : Nat := w.2.2.2.2.2 j
/-- what must hold before an instruction so that K holds behind it -/
def mu_step (w : mu_O) (mi : mu_M) (d : Nat) (L : Nat × Nat) (Q : Option Value → mu_H → Prop) (i : Instr) (n : Nat) (K : mu_C) (pc : Nat) (ls : List (Option Value)) (st : List Value) (g : mu_H) : Prop := match i with
  | .iconst v => K (pc + n) ls (.int (Int32.ofInt v) :: st) g
  | .bipush v => K (pc + n) ls (.int (Int32.ofInt v) :: st) g
  | .sipush v => K (pc + n) ls (.int (Int32.ofInt v) :: st) g
  | .lconst v => K (pc + n) ls (.long (Int64.ofNat (v : Nat)) :: st) g
  | .aconst_null => K (pc + n) ls (.ref 0 :: st) g
  | .ldc x => match mu_look (mu_pC (mu_mK mi)) x with
    | some (.inl (v, _)) => K (pc + n) ls (.int v :: st) g
    | some (.inr j) => K (pc + n) ls (.ref (w.2.2.2.2.2 j) :: st) g
    | none => False
  | .ldc_w x => match mu_look (mu_pC (mu_mK mi)) x with
    | some (.inl (v, _)) => K (pc + n) ls (.int v :: st) g
    | _ => False
  | .ldc2_w x => match mu_look (mu_pL (mu_mK mi)) x with
    | some (v, _) => K (pc + n) ls (.long v :: st) g
    | none => False
  | .iload x => mu_ldI K n pc ls st g (mu_get ls x)
  | .iload_n x => mu_ldI K n pc ls st g (mu_get ls x.val)
  | .lload x => mu_ldL K n pc ls st g (mu_get ls x)
  | .lload_n x => mu_ldL K n pc ls st g (mu_get ls x.val)
  | .aload x => mu_ldA K n pc ls st g (mu_get ls x)
  | .aload_n x => mu_ldA K n pc ls st g (mu_get ls x.val)
  | .istore x => mu_p1 st fun v r => mu_sto K n pc ls r g x (.int v)
  | .istore_n x => mu_p1 st fun v r => mu_sto K n pc ls r g x.val (.int v)
  | .astore x => mu_pr st fun v r => mu_sto K n pc ls r g x (.ref v)
  | .astore_n x => mu_pr st fun v r => mu_sto K n pc ls r g x.val (.ref v)
  | .iinc x c => match mu_get ls x with
    | some (.int v) => mu_sto K n pc ls st g x (.int (v + Int32.ofInt c))
    | _ => False
  | .iadd => mu_p2 st fun x y r => K (pc + n) ls (.int (x + y) :: r) g
  | .isub => mu_p2 st fun x y r => K (pc + n) ls (.int (x - y) :: r) g
  | .imul => mu_p2 st fun x y r => K (pc + n) ls (.int (x * y) :: r) g
  | .idiv => mu_p2 st fun x y r => (¬ y = 0) ∧ K (pc + n) ls (.int (x / y) :: r) g
  | .irem => mu_p2 st fun x y r => (¬ y = 0) ∧ K (pc + n) ls (.int (x % y) :: r) g
  | .iand => mu_p2 st fun x y r => K (pc + n) ls (.int (x &&& y) :: r) g
  | .ior => mu_p2 st fun x y r => K (pc + n) ls (.int (x ||| y) :: r) g
  | .ishl => mu_p2 st fun x y r => K (pc + n) ls (.int (x <<< (y &&& 31)) :: r) g
  | .ishr => mu_p2 st fun x y r => K (pc + n) ls (.int (x >>> (y &&& 31)) :: r) g
  | .iushr => mu_p2 st fun x y r => K (pc + n) ls (.int (mu_ushr x y) :: r) g
  | .ineg => mu_p1 st fun x r => K (pc + n) ls (.int (-x) :: r) g
  | .i2l => mu_p1 st fun x r => K (pc + n) ls (.long x.toInt64 :: r) g
  | .i2b => mu_p1 st fun x r => K (pc + n) ls (.int x.toInt8.toInt32 :: r) g
  | .i2c => mu_p1 st fun x r => K (pc + n) ls (.int (x.toUInt32 % 65536).toInt32 :: r) g
  | .ladd => mu_q2 st fun x y r => K (pc + n) ls (.long (x + y) :: r) g
  | .lcmp => mu_q2 st fun x y r => K (pc + n) ls (.int (lg_cmp x y) :: r) g
  | .dup => match st with
    | .int x :: r => K (pc + n) ls (.int x :: .int x :: r) g
    | .ref x :: r => K (pc + n) ls (.ref x :: .ref x :: r) g
    | _ => False
  | .dup2 => mu_pir st fun a j r => K (pc + n) ls (.int j :: .ref a :: .int j :: .ref a :: r) g
  | .pop => match st with
    | .int _ :: r => K (pc + n) ls r g
    | .ref _ :: r => K (pc + n) ls r g
    | _ => False
  | .goto off => K (mu_j pc off) ls st g
  | .ifCond c off => mu_p1 st fun x r => (mu_ifc c x → K (mu_j pc off) ls r g) ∧ (¬ mu_ifc c x → K (pc + n) ls r g)
  | .if_icmp c off => mu_p2 st fun x y r => (mu_icmp c x y → K (mu_j pc off) ls r g) ∧ (¬ mu_icmp c x y → K (pc + n) ls r g)
  | .ifnull off => mu_pr st fun a r => (a = 0 → K (mu_j pc off) ls r g) ∧ (¬ a = 0 → K (pc + n) ls r g)
  | .ifnonnull off => mu_pr st fun a r => (¬ a = 0 → K (mu_j pc off) ls r g) ∧ (a = 0 → K (pc + n) ls r g)
  | .tableswitch dflt lo hi offs => mu_p1 st fun x r => ((x.toInt < lo ∨ hi < x.toInt) → K (mu_j pc dflt) ls r g) ∧ mu_sw x (fun t => K t ls r g) pc lo offs.toList
  | .lookupswitch dflt ps => mu_p1 st fun x r => mu_lw x (fun t => K t ls r g) pc dflt ps.toList
  | .getfield x => match mu_look (mu_pF (mu_mK mi)) x with
    | some (c, f, _) => mu_pr st fun a r => mu_T g a = c + 1 ∧ (match mu_fR c f with
      | true => K (pc + n) ls (.ref (mu_R g a f) :: r) g
      | false => K (pc + n) ls (.int (mu_I g a f) :: r) g)
    | none => False
  | .putfield x => match mu_look (mu_pF (mu_mK mi)) x with
    | some (c, f, _) => match mu_fR c f with
      | true => mu_prr st fun a b r => mu_T g a = c + 1 ∧ K (pc + n) ls r (mu_sR g a f b)
      | false => mu_pir st fun a v r => mu_T g a = c + 1 ∧ mu_fit (mu_Ty c f) v (K (pc + n) ls r (mu_sI g a f v))
    | none => False
  | .getstatic x => match mu_look (mu_pS (mu_mK mi)) x with
    | some (j, _) => K (pc + n) ls (mu_sv w j :: st) g
    | none => False
  | .new x => match mu_look (mu_pN (mu_mK mi)) x with
    | some (c, _) => mu_X g + 1 ≤ L.1 ∧ mu_S g + mu_nf c ≤ L.2 ∧ K (pc + n) ls (.ref (mu_X g) :: st) (mu_sN g (c + 1) 0 (mu_nf c))
    | none => False
  | .newarray t => mu_p1 st fun x r => mu_in x 100000 ∧ mu_X g + 1 ≤ L.1 ∧ mu_S g + x.toNatClampNeg ≤ L.2 ∧ (match t with
    | .int => K (pc + n) ls (.ref (mu_X g) :: r) (mu_sN g 20 x.toNatClampNeg x.toNatClampNeg)
    | .byte => K (pc + n) ls (.ref (mu_X g) :: r) (mu_sN g 21 x.toNatClampNeg x.toNatClampNeg)
    | _ => False)
  | .anewarray y => match mu_look (mu_pA (mu_mK mi)) y with
    | some (q, _) => mu_p1 st fun x r => mu_in x 100000 ∧ mu_X g + 1 ≤ L.1 ∧ mu_S g + x.toNatClampNeg ≤ L.2 ∧ K (pc + n) ls (.ref (mu_X g) :: r) (mu_sN g (20 + q) x.toNatClampNeg x.toNatClampNeg)
    | none => False
  | .arraylength => mu_pr st fun a r => (20 ≤ mu_T g a ∧ mu_T g a < 27) ∧ K (pc + n) ls (.int (Int32.ofNat (mu_N g a)) :: r) g
  | .iaload => mu_pir st fun a j r => mu_T g a = 20 ∧ mu_in j (mu_N g a) ∧ K (pc + n) ls (.int (mu_I g a j.toNatClampNeg) :: r) g
  | .baload => mu_pir st fun a j r => mu_T g a = 21 ∧ mu_in j (mu_N g a) ∧ K (pc + n) ls (.int (mu_I g a j.toNatClampNeg) :: r) g
  | .aaload => mu_pir st fun a j r => (22 ≤ mu_T g a ∧ mu_T g a < 27) ∧ mu_in j (mu_N g a) ∧ K (pc + n) ls (.ref (mu_R g a j.toNatClampNeg) :: r) g
  | .iastore => mu_piir st fun a j x r => w.1 < a ∧ mu_T g a = 20 ∧ mu_in j (mu_N g a) ∧ K (pc + n) ls r (mu_sI g a j.toNatClampNeg x)
  | .bastore => mu_piir st fun a j x r => w.1 < a ∧ mu_T g a = 21 ∧ mu_in j (mu_N g a) ∧ K (pc + n) ls r (mu_sI g a j.toNatClampNeg x.toInt8.toInt32)
  | .aastore => mu_prir st fun a j v r => w.1 < a ∧ (22 ≤ mu_T g a ∧ mu_T g a < 27) ∧ (v = 0 ∨ mu_T g v = mu_Ac (mu_T g a - 20) + 1) ∧ mu_in j (mu_N g a) ∧ K (pc + n) ls r (mu_sR g a j.toNatClampNeg v)
  | .ireturn => match st with
    | [.int x] => mu_rI (mu_mR mi) x (Q (some (.int x)) g)
    | _ => False
  | .areturn => match st with
    | [.ref a] => Q (some (.ref a)) g
    | _ => False
  | .return_ => match st with
    | [] => Q none g
    | _ => False
  | .invokestatic x => match mu_look (mu_pM (mu_mK mi)) x with
    | some (mj, _) => match mu_split (mu_mA mj) [] st with
      | some (As, rest) => mu_small rest (mu_call w mj d L As rest g (fun st' g' => K (pc + n) ls st' g'))
      | none => False
    | none => match mu_look (mu_pQ (mu_mK mi)) x with
      | some (1, _) => mu_p2 st fun x y r => mu_small r (mu_pos d (K (pc + n) ls (.int (mu_max x y) :: r) g))
      | some (2, _) => mu_p2 st fun x y r => mu_small r (mu_pos d (K (pc + n) ls (.int (mu_min x y) :: r) g))
      | some (3, _) => mu_p1 st fun x r => mu_small r (mu_pos d (K (pc + n) ls (.int (mu_abs x) :: r) g))
      | some (4, _) => mu_pcp st fun a sp b dp m r => mu_small r (mu_pos d (w.1 < a ∧ w.1 < b ∧ ((mu_T g a = 20 ∧ mu_T g b = 20) ∨ (mu_T g a = 21 ∧ mu_T g b = 21)) ∧ 0 ≤ sp.toInt ∧ 0 ≤ dp.toInt ∧ 0 ≤ m.toInt ∧ sp.toInt + m.toInt ≤ (mu_N g a : Int) ∧ dp.toInt + m.toInt ≤ (mu_N g b : Int) ∧ K (pc + n) ls r (mu_sC g a sp.toNatClampNeg b dp.toNatClampNeg m.toNatClampNeg)))
      | _ => False
  | .invokevirtual x => match mu_look (mu_pM (mu_mK mi)) x with
    | some (mj, _) => match mu_split (mu_mA mj) [] st with
      | some (As, .ref a :: rest) => mu_T g a = mu_mK mj + 1 ∧ mu_small rest (mu_call w mj d L (.ref a :: As) rest g (fun st' g' => K (pc + n) ls st' g'))
      | _ => False
    | none => False
  | .invokespecial x => match mu_look (mu_pM (mu_mK mi)) x with
    | some (mj, _) => match mu_split (mu_mA mj) [] st with
      | some (As, .ref a :: rest) => (¬ a = 0) ∧ mu_small rest (mu_call w mj d L (.ref a :: As) rest g (fun st' g' => K (pc + n) ls st' g'))
      | _ => False
    | none => match mu_look (mu_pQ (mu_mK mi)) x with
      | some (0, _) => mu_pr st fun a r => (¬ a = 0) ∧ mu_small r (mu_pos d (K (pc + n) ls r g))
      | _ => False
  | _ => False
/-- the walk of k instructions, up to the heads hs (pc, which locals live) -/
def mu_wp (w : mu_O) (mi : mu_M) (d : Nat) (L : Nat × Nat) (Q : Option Value → mu_H → Prop) (hs : List (Nat × List Bool)) : Nat → mu_C
  | 0, pc, ls, st, g => mu_go w mi d L Q pc ls st g
  | k + 1, pc, ls, st, g => match mu_at (mu_mC mi) pc with
    | none => False
    | some (i, n) => mu_step w mi d L Q i n (fun pc' ls' st' g' => match mu_look hs pc' with
      | some bs => mu_go w mi d L Q pc' (mu_mask bs ls') st' g'
      | none => mu_wp w mi d L Q hs k pc' ls' st' g') pc ls st g
end
section
/-! OWN SMALL MACHINE, PART 5: what is checked of the tables, once -/
theorem mu_look_mem {α : Type} : ∀ {l : List (Nat × α)} {i : Nat} {v : α}, mu_look l i = some v → (i, v) ∈ l
  | [], _, _, h => by cases h
  | (k, x) :: t, i, v, h => by
    unfold mu_look at h
    cases hb : Nat.beq k i with
    | true =>
      rw [hb] at h
      have e : k = i := Nat.eq_of_beq_eq_true hb
      cases h
      rw [e]
      exact List.mem_cons_self
    | false =>
      rw [hb] at h
      exact List.mem_cons_of_mem _ (mu_look_mem h)
theorem mu_at_mem : ∀ {l : List (Nat × Instr × Nat)} {pc : Nat} {v : Instr × Nat}, mu_at l pc = some v → (pc, v) ∈ l
  | [], _, _, h => by cases h
  | (k, i, n) :: t, pc, v, h => by
    unfold mu_at at h
    cases hb : Nat.beq k pc with
    | true =>
      rw [hb] at h
      have e : k = pc := Nat.eq_of_beq_eq_true hb
      cases h
      rw [e]
      exact List.mem_cons_self
    | false =>
      rw [hb] at h
      exact List.mem_cons_of_mem _ (mu_at_mem h)
/-- a word stands at this place of the tables, and is one that stays -/
def mu_w (i : Nat) (x : Jvm.Cond) : Bool := decide (lw_tbl[i]? = some x) && goodWord x
theorem mu_w_e {i : Nat} {x : Jvm.Cond} (h : mu_w i x = true) : x ∈ lw_tbl ∧ goodWord x = true := by
  unfold mu_w at h
  rw [Bool.and_eq_true, decide_eq_true_eq] at h
  exact ⟨List.mem_of_getElem? h.1, h.2⟩
def mu_len (n : Nat) : Instr → Nat
  | .bipush _ => 2
  | .sipush _ => 3
  | .ldc _ => 2
  | .ldc_w _ => 3
  | .ldc2_w _ => 3
  | .iload _ => 2
  | .lload _ => 2
  | .aload _ => 2
  | .istore _ => 2
  | .astore _ => 2
  | .iinc _ _ => 3
  | .goto _ => 3
  | .ifCond _ _ => 3
  | .if_icmp _ _ => 3
  | .ifnull _ => 3
  | .ifnonnull _ => 3
  | .tableswitch _ _ _ _ => n
  | .lookupswitch _ _ => n
  | .getfield _ => 3
  | .putfield _ => 3
  | .getstatic _ => 3
  | .new _ => 3
  | .newarray _ => 2
  | .anewarray _ => 3
  | .invokestatic _ => 3
  | .invokevirtual _ => 3
  | .invokespecial _ => 3
  | .checkcast _ => 3
  | _ => 1
def mu_nn (pc : Nat) (off : Int) : Bool := decide (0 ≤ (pc : Int) + off)
def mu_kd (c x k : Nat) : Bool := match mu_look (mu_pM c) x with
  | some (_, kd, _) => Nat.beq kd k
  | none => true
def mu_okA (mi : mu_M) (pc : Nat) : Instr → Bool
  | .bipush v => decide ((Int8.ofInt v).toInt32 = Int32.ofInt v)
  | .sipush v => decide ((Int16.ofInt v).toInt32 = Int32.ofInt v)
  | .istore x => Nat.blt x (mu_mL mi)
  | .istore_n x => Nat.blt x.val (mu_mL mi)
  | .astore x => Nat.blt x (mu_mL mi)
  | .astore_n x => Nat.blt x.val (mu_mL mi)
  | .iinc x _ => Nat.blt x (mu_mL mi)
  | .goto off => mu_nn pc off
  | .ifCond _ off => mu_nn pc off
  | .if_icmp _ off => mu_nn pc off
  | .ifnull off => mu_nn pc off
  | .ifnonnull off => mu_nn pc off
  | .tableswitch dflt lo hi offs => mu_nn pc dflt && offs.toList.all (mu_nn pc) && decide ((offs.size : Int) = hi - lo + 1)
  | .lookupswitch dflt ps => mu_nn pc dflt && ps.toList.all (fun q => mu_nn pc q.2) && (ps.toList.zip (ps.toList.drop 1)).all (fun (a, next) => a.1 < next.1)
  | .putfield x => match mu_look (mu_pF (mu_mK mi)) x with
    | some (c, f, _) => match vwCl[c]? with
      | some r => !(r.2.1 f).2.2.2 || (decide ((mu_mY mi).name = "<init>") && decide ((r.2.1 f).1 = (mu_mY mi).cls))
      | none => false
    | none => true
  | .invokestatic x => mu_kd (mu_mK mi) x 0
  | .invokevirtual x => mu_kd (mu_mK mi) x 1
  | .invokespecial x => mu_kd (mu_mK mi) x 2
  | .areturn => match mu_mR mi with
    | some (.object _) => true
    | some (.array _) => true
    | _ => false
  | .return_ => (mu_mR mi).isNone
  | _ => true
def mu_okI (mi : mu_M) (q : Nat × Instr × Nat) : Bool := decide (decode (mu_mB mi) q.1 = .ok (q.2.1, q.2.2)) && Nat.beq q.2.2 (mu_len q.2.2 q.2.1) && mu_okA mi q.1 q.2.1
/-- a method's data are right -/
def mu_ok (mi : mu_M) : Bool := Nat.blt (mu_mK mi) 18 && decide (mu_own (mu_mK mi) = (mu_mY mi).cls) && Nat.ble (mu_mL mi) 21 && plainName (mu_mY mi).cls && (mu_mC mi).all (mu_okI mi)
def mu_ckF (c : Nat) (e : Nat × Nat × Nat × Nat) : Bool := match vwCl[e.2.1]? with
  | some r => Nat.blt e.2.1 12 && Nat.blt e.2.2.1 r.2.2 && mu_w e.2.2.2 (.fieldLink (mu_own c) e.1 (r.2.1 e.2.2.1).1 (r.2.1 e.2.2.1).2.1 (r.2.1 e.2.2.1).2.2.1)
  | none => Nat.beq e.2.1 12 && ((Nat.beq e.2.2.1 0 && mu_w e.2.2.2 (.fieldLink (mu_own c) e.1 "java/lang/String" "value" "[B")) || (Nat.beq e.2.2.1 1 && mu_w e.2.2.2 (.fieldLink (mu_own c) e.1 "java/lang/String" "coder" "B")))
def mu_ckS (c : Nat) (e : Nat × Nat × Nat × Nat) : Bool := match mu_sts[e.2.1]? with
  | some q => match e.2.2.1 with
    | 0 => mu_w e.2.2.2 (.fieldLink (mu_own c) e.1 q.1 q.2.1 q.2.2)
    | _ => decide (mu_nF[e.2.2.2]? = some (mu_own c, e.1, q.1, q.2.1, q.2.2, "StageFights"))
  | none => false
def mu_ckM (c : Nat) (e : Nat × mu_M × Nat × Bool × List Nat) : Bool :=
  (match e.2.2.2.1 with
    | false => mu_w (e.2.2.2.2.getD 0 0) (.methodLink (mu_own c) e.1 (mu_mY e.2.1))
    | true => decide (mu_nM[e.2.2.2.2.getD 0 0]? = some (mu_own c, e.1, mu_mY e.2.1, "StageFights"))) &&
  mu_w (e.2.2.2.2.getD 1 0) (.code (mu_mY e.2.1) (mu_mB e.2.1) (mu_mL e.2.1) (mu_mR e.2.1)) && mu_w (e.2.2.2.2.getD 2 0) (.initialized (mu_mY e.2.1).cls) &&
  (match e.2.2.1 with
    | 0 => mu_w (e.2.2.2.2.getD 3 0) (.static (mu_mY e.2.1))
    | 1 => !e.2.2.2.1 && mu_w (e.2.2.2.2.getD 3 0) (.instanceMethod (mu_mY e.2.1)) && mu_w (e.2.2.2.2.getD 4 0) (.selects (mu_mY e.2.1).cls (mu_mY e.2.1) (mu_mY e.2.1)) && Nat.blt (mu_mK e.2.1) 13 && decide (mu_own (mu_mK e.2.1) = (mu_mY e.2.1).cls)
    | _ => mu_w (e.2.2.2.2.getD 3 0) (.instanceMethod (mu_mY e.2.1)) && decide ((mu_mY e.2.1).name = "<init>") && (mu_mR e.2.1).isNone) &&
  decide ((mu_mY e.2.1).cls ≠ "java/lang/invoke/MethodHandle") && decide ((mu_mY e.2.1).cls ≠ "java/lang/invoke/VarHandle") && decide ((parseMethodDescriptor (mu_mY e.2.1).desc).map (fun d => d.parameters.length) = some (mu_mA e.2.1)) && Nat.ble (mu_mL e.2.1) 21
def mu_ckQ (c : Nat) (e : Nat × Nat × Nat) : Bool := match e.2.1 with
  | 0 => mu_w e.2.2 (.methodLink (mu_own c) e.1 objectInit)
  | 1 => mu_w e.2.2 (.methodLink (mu_own c) e.1 Lib.Math.max.name)
  | 2 => mu_w e.2.2 (.methodLink (mu_own c) e.1 Lib.Math.min.name)
  | 3 => mu_w e.2.2 (.methodLink (mu_own c) e.1 Lib.Math.abs.name)
  | _ => mu_w e.2.2 (.methodLink (mu_own c) e.1 arraycopyName)
def mu_ckC (c : Nat) (e : Nat × ((Int32 × Nat) ⊕ Nat)) : Bool := match e.2 with
  | .inl q => mu_w q.2 (.constant (mu_own c) e.1 q.1)
  | .inr j => match mu_ss[j]? with
    | some q => decide (q.1 = mu_own c) && Nat.beq q.2.1 e.1
    | none => false
def mu_ckL (c : Nat) (e : Nat × Int64 × Nat) : Bool := mu_w e.2.2 (.constantLong (mu_own c) e.1 e.2.1)
def mu_ckN (c : Nat) (e : Nat × Nat × Nat) : Bool := Nat.blt e.2.1 12 && (match vwCl[e.2.1]? with
    | some r => mu_w e.2.2 (.classLink (mu_own c) e.1 r.1)
    | none => false)
def mu_ckA (c : Nat) (e : Nat × Nat × Nat) : Bool := Nat.blt 1 e.2.1 && Nat.blt e.2.1 7 && (match mu_AE e.2.1 with
    | .object C => mu_w e.2.2 (.classLink (mu_own c) e.1 C)
    | _ => false)
theorem mu_kF : (List.range 18).all (fun c => (mu_pF c).all (mu_ckF c)) = true := by decide +kernel
theorem mu_kS : (List.range 18).all (fun c => (mu_pS c).all (mu_ckS c)) = true := by decide +kernel
theorem mu_kQ : (List.range 18).all (fun c => (mu_pQ c).all (mu_ckQ c)) = true := by decide +kernel
theorem mu_kC : (List.range 18).all (fun c => (mu_pC c).all (mu_ckC c)) = true := by decide +kernel
theorem mu_kL : (List.range 18).all (fun c => (mu_pL c).all (mu_ckL c)) = true := by decide +kernel
theorem mu_kN : (List.range 18).all (fun c => (mu_pN c).all (mu_ckN c)) = true := by decide +kernel
theorem mu_kA : (List.range 18).all (fun c => (mu_pA c).all (mu_ckA c)) = true := by decide +kernel
theorem mu_k_of {α : Type} {P : Nat → List α} {f : Nat → α → Bool} (h : (List.range 18).all (fun c => (P c).all (f c)) = true) {c : Nat} (hc : c < 18) {x : α} (hx : x ∈ P c) : f c x = true :=
  List.all_eq_true.mp (List.all_eq_true.mp h c (List.mem_range.mpr hc)) x hx
def mu_ckW : Bool := mu_w 512 (.static Lib.Math.max.name) && mu_w 513 (.code Lib.Math.max.name Lib.Math.max.code 2 (some .int)) && mu_w 506 (.static Lib.Math.min.name) && mu_w 507 (.code Lib.Math.min.name Lib.Math.min.code 2 (some .int)) && mu_w 658 (.static Lib.Math.abs.name) && mu_w 659 (.code Lib.Math.abs.name Lib.Math.abs.code 1 (some .int)) && mu_w 89 (.initialized "java/lang/Math") && mu_w 914 (.native arraycopyName) && mu_w 913 (.static arraycopyName) && mu_w 97 (.initialized "java/lang/System") && mu_w 104 (.instanceMethod objectInit) && mu_w 105 (.code objectInit ⟨#[0xb1]⟩ 1 none) && mu_w 136 (.arrayClass .int) && mu_w 376 (.arrayClass .byte)
theorem mu_kW : mu_ckW = true := by decide +kernel
def mu_ckI (c : Nat) : Bool := match vwCl[c]?, mu_cw[c]?, mu_uw[c]? with
  | some r, some q, some u => mu_w q.1 (.instantiable r.1 r.2.2) && mu_w q.2 (.initialized r.1) && Nat.beq r.2.2 (mu_nf c) && decide (r.1 = mu_own c) && (List.range r.2.2).all (fun k => mu_w (u.getD k 0) (u_lay r.1 r.2.1 k)) && (List.range r.2.2).all (fun k => decide (parseFieldDescriptor (r.2.1 k).2.2.1 = some (mu_Ty c k))) && (List.range r.2.2).all (fun k => (List.range r.2.2).all (fun j => Nat.beq k j || decide ((r.2.1 k).2.1 ≠ (r.2.1 j).2.1))) && (List.range r.2.2).all (fun k => match mu_Ty c k with
    | .int => true
    | .boolean => true
    | .object _ => true
    | .array _ => true
    | _ => false)
  | _, _, _ => false
theorem mu_kI : (List.range 12).all mu_ckI = true := by decide +kernel
end
section
/-! the pools of methods are right, a stretch at a time -/
theorem mu_all_split {α : Type} (f : α → Bool) (l : List α) (n : Nat) (h1 : (l.take n).all f = true) (h2 : (l.drop n).all f = true) : l.all f = true := by
  rw [← List.take_append_drop n l, List.all_append, h1, h2]
  rfl
set_option maxRecDepth 100000 in
theorem mu_kM_0_0 : ((mu_pM 0).take 12).all (mu_ckM 0) = true := by decide +kernel
set_option maxRecDepth 100000 in
theorem mu_kM_0 : (mu_pM 0).all (mu_ckM 0) = true := (mu_all_split (mu_ckM 0) (mu_pM 0) 12 mu_kM_0_0 (rfl : (((mu_pM 0).drop 12)).all (mu_ckM 0) = true))
set_option maxRecDepth 100000 in
theorem mu_kM_1_0 : ((mu_pM 1).take 12).all (mu_ckM 1) = true := by decide +kernel
set_option maxRecDepth 100000 in
theorem mu_kM_1 : (mu_pM 1).all (mu_ckM 1) = true := (mu_all_split (mu_ckM 1) (mu_pM 1) 12 mu_kM_1_0 (rfl : (((mu_pM 1).drop 12)).all (mu_ckM 1) = true))
set_option maxRecDepth 100000 in
theorem mu_kM_2_0 : ((mu_pM 2).take 12).all (mu_ckM 2) = true := by decide +kernel
set_option maxRecDepth 100000 in
theorem mu_kM_2 : (mu_pM 2).all (mu_ckM 2) = true := (mu_all_split (mu_ckM 2) (mu_pM 2) 12 mu_kM_2_0 (rfl : (((mu_pM 2).drop 12)).all (mu_ckM 2) = true))
set_option maxRecDepth 100000 in
theorem mu_kM_3_0 : ((mu_pM 3).take 12).all (mu_ckM 3) = true := by decide +kernel
set_option maxRecDepth 100000 in
theorem mu_kM_3_1 : (((mu_pM 3).drop 12).take 12).all (mu_ckM 3) = true := by decide +kernel
set_option maxRecDepth 100000 in
theorem mu_kM_3 : (mu_pM 3).all (mu_ckM 3) = true := (mu_all_split (mu_ckM 3) (mu_pM 3) 12 mu_kM_3_0 (mu_all_split (mu_ckM 3) ((mu_pM 3).drop 12) 12 mu_kM_3_1 (rfl : ((((mu_pM 3).drop 12).drop 12)).all (mu_ckM 3) = true)))
set_option maxRecDepth 100000 in
theorem mu_kM_4_0 : ((mu_pM 4).take 12).all (mu_ckM 4) = true := by decide +kernel
set_option maxRecDepth 100000 in
theorem mu_kM_4_1 : (((mu_pM 4).drop 12).take 12).all (mu_ckM 4) = true := by decide +kernel
set_option maxRecDepth 100000 in
theorem mu_kM_4 : (mu_pM 4).all (mu_ckM 4) = true := (mu_all_split (mu_ckM 4) (mu_pM 4) 12 mu_kM_4_0 (mu_all_split (mu_ckM 4) ((mu_pM 4).drop 12) 12 mu_kM_4_1 (rfl : ((((mu_pM 4).drop 12).drop 12)).all (mu_ckM 4) = true)))
set_option maxRecDepth 100000 in
theorem mu_kM_5_0 : ((mu_pM 5).take 12).all (mu_ckM 5) = true := by decide +kernel
set_option maxRecDepth 100000 in
theorem mu_kM_5 : (mu_pM 5).all (mu_ckM 5) = true := (mu_all_split (mu_ckM 5) (mu_pM 5) 12 mu_kM_5_0 (rfl : (((mu_pM 5).drop 12)).all (mu_ckM 5) = true))
set_option maxRecDepth 100000 in
theorem mu_kM_6_0 : ((mu_pM 6).take 12).all (mu_ckM 6) = true := by decide +kernel
set_option maxRecDepth 100000 in
theorem mu_kM_6 : (mu_pM 6).all (mu_ckM 6) = true := (mu_all_split (mu_ckM 6) (mu_pM 6) 12 mu_kM_6_0 (rfl : (((mu_pM 6).drop 12)).all (mu_ckM 6) = true))
set_option maxRecDepth 100000 in
theorem mu_kM_7_0 : ((mu_pM 7).take 12).all (mu_ckM 7) = true := by decide +kernel
set_option maxRecDepth 100000 in
theorem mu_kM_7 : (mu_pM 7).all (mu_ckM 7) = true := (mu_all_split (mu_ckM 7) (mu_pM 7) 12 mu_kM_7_0 (rfl : (((mu_pM 7).drop 12)).all (mu_ckM 7) = true))
set_option maxRecDepth 100000 in
theorem mu_kM_8_0 : ((mu_pM 8).take 12).all (mu_ckM 8) = true := by decide +kernel
set_option maxRecDepth 100000 in
theorem mu_kM_8_1 : (((mu_pM 8).drop 12).take 12).all (mu_ckM 8) = true := by decide +kernel
set_option maxRecDepth 100000 in
theorem mu_kM_8 : (mu_pM 8).all (mu_ckM 8) = true := (mu_all_split (mu_ckM 8) (mu_pM 8) 12 mu_kM_8_0 (mu_all_split (mu_ckM 8) ((mu_pM 8).drop 12) 12 mu_kM_8_1 (rfl : ((((mu_pM 8).drop 12).drop 12)).all (mu_ckM 8) = true)))
set_option maxRecDepth 100000 in
theorem mu_kM_9_0 : ((mu_pM 9).take 12).all (mu_ckM 9) = true := by decide +kernel
set_option maxRecDepth 100000 in
theorem mu_kM_9 : (mu_pM 9).all (mu_ckM 9) = true := (mu_all_split (mu_ckM 9) (mu_pM 9) 12 mu_kM_9_0 (rfl : (((mu_pM 9).drop 12)).all (mu_ckM 9) = true))
set_option maxRecDepth 100000 in
theorem mu_kM_10_0 : ((mu_pM 10).take 12).all (mu_ckM 10) = true := by decide +kernel
set_option maxRecDepth 100000 in
theorem mu_kM_10_1 : (((mu_pM 10).drop 12).take 12).all (mu_ckM 10) = true := by decide +kernel
set_option maxRecDepth 100000 in
theorem mu_kM_10_2 : ((((mu_pM 10).drop 12).drop 12).take 12).all (mu_ckM 10) = true := by decide +kernel
set_option maxRecDepth 100000 in
theorem mu_kM_10_3 : (((((mu_pM 10).drop 12).drop 12).drop 12).take 12).all (mu_ckM 10) = true := by decide +kernel
set_option maxRecDepth 100000 in
theorem mu_kM_10_4 : ((((((mu_pM 10).drop 12).drop 12).drop 12).drop 12).take 12).all (mu_ckM 10) = true := by decide +kernel
set_option maxRecDepth 100000 in
theorem mu_kM_10 : (mu_pM 10).all (mu_ckM 10) = true := (mu_all_split (mu_ckM 10) (mu_pM 10) 12 mu_kM_10_0 (mu_all_split (mu_ckM 10) ((mu_pM 10).drop 12) 12 mu_kM_10_1 (mu_all_split (mu_ckM 10) (((mu_pM 10).drop 12).drop 12) 12 mu_kM_10_2 (mu_all_split (mu_ckM 10) ((((mu_pM 10).drop 12).drop 12).drop 12) 12 mu_kM_10_3 (mu_all_split (mu_ckM 10) (((((mu_pM 10).drop 12).drop 12).drop 12).drop 12) 12 mu_kM_10_4 (rfl : (((((((mu_pM 10).drop 12).drop 12).drop 12).drop 12).drop 12)).all (mu_ckM 10) = true))))))
set_option maxRecDepth 100000 in
theorem mu_kM_11_0 : ((mu_pM 11).take 12).all (mu_ckM 11) = true := by decide +kernel
set_option maxRecDepth 100000 in
theorem mu_kM_11_1 : (((mu_pM 11).drop 12).take 12).all (mu_ckM 11) = true := by decide +kernel
set_option maxRecDepth 100000 in
theorem mu_kM_11_2 : ((((mu_pM 11).drop 12).drop 12).take 12).all (mu_ckM 11) = true := by decide +kernel
set_option maxRecDepth 100000 in
theorem mu_kM_11_3 : (((((mu_pM 11).drop 12).drop 12).drop 12).take 12).all (mu_ckM 11) = true := by decide +kernel
set_option maxRecDepth 100000 in
theorem mu_kM_11_4 : ((((((mu_pM 11).drop 12).drop 12).drop 12).drop 12).take 12).all (mu_ckM 11) = true := by decide +kernel
set_option maxRecDepth 100000 in
theorem mu_kM_11_5 : (((((((mu_pM 11).drop 12).drop 12).drop 12).drop 12).drop 12).take 12).all (mu_ckM 11) = true := by decide +kernel
set_option maxRecDepth 100000 in
theorem mu_kM_11 : (mu_pM 11).all (mu_ckM 11) = true := (mu_all_split (mu_ckM 11) (mu_pM 11) 12 mu_kM_11_0 (mu_all_split (mu_ckM 11) ((mu_pM 11).drop 12) 12 mu_kM_11_1 (mu_all_split (mu_ckM 11) (((mu_pM 11).drop 12).drop 12) 12 mu_kM_11_2 (mu_all_split (mu_ckM 11) ((((mu_pM 11).drop 12).drop 12).drop 12) 12 mu_kM_11_3 (mu_all_split (mu_ckM 11) (((((mu_pM 11).drop 12).drop 12).drop 12).drop 12) 12 mu_kM_11_4 (mu_all_split (mu_ckM 11) ((((((mu_pM 11).drop 12).drop 12).drop 12).drop 12).drop 12) 12 mu_kM_11_5 (rfl : ((((((((mu_pM 11).drop 12).drop 12).drop 12).drop 12).drop 12).drop 12)).all (mu_ckM 11) = true)))))))
set_option maxRecDepth 100000 in
theorem mu_kM_12_0 : ((mu_pM 12).take 12).all (mu_ckM 12) = true := by decide +kernel
set_option maxRecDepth 100000 in
theorem mu_kM_12 : (mu_pM 12).all (mu_ckM 12) = true := (mu_all_split (mu_ckM 12) (mu_pM 12) 12 mu_kM_12_0 (rfl : (((mu_pM 12).drop 12)).all (mu_ckM 12) = true))
set_option maxRecDepth 100000 in
theorem mu_kM_13_0 : ((mu_pM 13).take 12).all (mu_ckM 13) = true := by decide +kernel
set_option maxRecDepth 100000 in
theorem mu_kM_13 : (mu_pM 13).all (mu_ckM 13) = true := (mu_all_split (mu_ckM 13) (mu_pM 13) 12 mu_kM_13_0 (rfl : (((mu_pM 13).drop 12)).all (mu_ckM 13) = true))
set_option maxRecDepth 100000 in
theorem mu_kM_14_0 : ((mu_pM 14).take 12).all (mu_ckM 14) = true := by decide +kernel
set_option maxRecDepth 100000 in
theorem mu_kM_14 : (mu_pM 14).all (mu_ckM 14) = true := (mu_all_split (mu_ckM 14) (mu_pM 14) 12 mu_kM_14_0 (rfl : (((mu_pM 14).drop 12)).all (mu_ckM 14) = true))
set_option maxRecDepth 100000 in
theorem mu_kM_15_0 : ((mu_pM 15).take 12).all (mu_ckM 15) = true := by decide +kernel
set_option maxRecDepth 100000 in
theorem mu_kM_15 : (mu_pM 15).all (mu_ckM 15) = true := (mu_all_split (mu_ckM 15) (mu_pM 15) 12 mu_kM_15_0 (rfl : (((mu_pM 15).drop 12)).all (mu_ckM 15) = true))
set_option maxRecDepth 100000 in
theorem mu_kM_16_0 : ((mu_pM 16).take 12).all (mu_ckM 16) = true := by decide +kernel
set_option maxRecDepth 100000 in
theorem mu_kM_16 : (mu_pM 16).all (mu_ckM 16) = true := (mu_all_split (mu_ckM 16) (mu_pM 16) 12 mu_kM_16_0 (rfl : (((mu_pM 16).drop 12)).all (mu_ckM 16) = true))
set_option maxRecDepth 100000 in
theorem mu_kM_17_0 : ((mu_pM 17).take 12).all (mu_ckM 17) = true := by decide +kernel
set_option maxRecDepth 100000 in
theorem mu_kM_17_1 : (((mu_pM 17).drop 12).take 12).all (mu_ckM 17) = true := by decide +kernel
set_option maxRecDepth 100000 in
theorem mu_kM_17_2 : ((((mu_pM 17).drop 12).drop 12).take 12).all (mu_ckM 17) = true := by decide +kernel
set_option maxRecDepth 100000 in
theorem mu_kM_17_3 : (((((mu_pM 17).drop 12).drop 12).drop 12).take 12).all (mu_ckM 17) = true := by decide +kernel
set_option maxRecDepth 100000 in
theorem mu_kM_17_4 : ((((((mu_pM 17).drop 12).drop 12).drop 12).drop 12).take 12).all (mu_ckM 17) = true := by decide +kernel
set_option maxRecDepth 100000 in
theorem mu_kM_17_5 : (((((((mu_pM 17).drop 12).drop 12).drop 12).drop 12).drop 12).take 12).all (mu_ckM 17) = true := by decide +kernel
set_option maxRecDepth 100000 in
theorem mu_kM_17_6 : ((((((((mu_pM 17).drop 12).drop 12).drop 12).drop 12).drop 12).drop 12).take 12).all (mu_ckM 17) = true := by decide +kernel
set_option maxRecDepth 100000 in
theorem mu_kM_17_7 : (((((((((mu_pM 17).drop 12).drop 12).drop 12).drop 12).drop 12).drop 12).drop 12).take 12).all (mu_ckM 17) = true := by decide +kernel
set_option maxRecDepth 100000 in
theorem mu_kM_17_8 : ((((((((((mu_pM 17).drop 12).drop 12).drop 12).drop 12).drop 12).drop 12).drop 12).drop 12).take 12).all (mu_ckM 17) = true := by decide +kernel
set_option maxRecDepth 100000 in
theorem mu_kM_17 : (mu_pM 17).all (mu_ckM 17) = true := (mu_all_split (mu_ckM 17) (mu_pM 17) 12 mu_kM_17_0 (mu_all_split (mu_ckM 17) ((mu_pM 17).drop 12) 12 mu_kM_17_1 (mu_all_split (mu_ckM 17) (((mu_pM 17).drop 12).drop 12) 12 mu_kM_17_2 (mu_all_split (mu_ckM 17) ((((mu_pM 17).drop 12).drop 12).drop 12) 12 mu_kM_17_3 (mu_all_split (mu_ckM 17) (((((mu_pM 17).drop 12).drop 12).drop 12).drop 12) 12 mu_kM_17_4 (mu_all_split (mu_ckM 17) ((((((mu_pM 17).drop 12).drop 12).drop 12).drop 12).drop 12) 12 mu_kM_17_5 (mu_all_split (mu_ckM 17) (((((((mu_pM 17).drop 12).drop 12).drop 12).drop 12).drop 12).drop 12) 12 mu_kM_17_6 (mu_all_split (mu_ckM 17) ((((((((mu_pM 17).drop 12).drop 12).drop 12).drop 12).drop 12).drop 12).drop 12) 12 mu_kM_17_7 (mu_all_split (mu_ckM 17) (((((((((mu_pM 17).drop 12).drop 12).drop 12).drop 12).drop 12).drop 12).drop 12).drop 12) 12 mu_kM_17_8 (rfl : (((((((((((mu_pM 17).drop 12).drop 12).drop 12).drop 12).drop 12).drop 12).drop 12).drop 12).drop 12)).all (mu_ckM 17) = true))))))))))
theorem mu_kM : (List.range 18).all (fun c => (mu_pM c).all (mu_ckM c)) = true := by
  rw [List.all_eq_true]
  intro c hc
  have hc := List.mem_range.mp hc
  rcases (show c = 0 ∨ c = 1 ∨ c = 2 ∨ c = 3 ∨ c = 4 ∨ c = 5 ∨ c = 6 ∨ c = 7 ∨ c = 8 ∨ c = 9 ∨ c = 10 ∨ c = 11 ∨ c = 12 ∨ c = 13 ∨ c = 14 ∨ c = 15 ∨ c = 16 ∨ c = 17 by omega) with rfl | rfl | rfl | rfl | rfl | rfl | rfl | rfl | rfl | rfl | rfl | rfl | rfl | rfl | rfl | rfl | rfl | rfl
  · exact mu_kM_0
  · exact mu_kM_1
  · exact mu_kM_2
  · exact mu_kM_3
  · exact mu_kM_4
  · exact mu_kM_5
  · exact mu_kM_6
  · exact mu_kM_7
  · exact mu_kM_8
  · exact mu_kM_9
  · exact mu_kM_10
  · exact mu_kM_11
  · exact mu_kM_12
  · exact mu_kM_13
  · exact mu_kM_14
  · exact mu_kM_15
  · exact mu_kM_16
  · exact mu_kM_17
end
section
/-! OWN SMALL MACHINE, PART 6: the instructions that leave the heap alone are walked as they should -/
section Mu8
variable {w : mu_O} {mi : mu_M} {d : Nat} {L : Nat × Nat} {Q : Option Value → mu_H → Prop} {pc : Nat} {ls : List (Option Value)} {st : List Value} {g : mu_H}
theorem mu_lift {pc' : Nat} {st' : List Value}
    (h : ∀ (p : Program) (l : Launch) (e : Env) (R : Room) (s : State) (m : MethodId) (args : Array Value) (below : List Frame) (meth : Method) (c : Code) (H : Heap) (locs : List Loc) (cells slots S0 : Nat) (Qw : State → Prop) (lsA : Array Slot),
      mu_ctx w mi d L p R s m args meth c S0 → mu_dyn w g R s S0 H locs cells slots → lv_has lsA (mu_mL mi) (mu_lv 0 ls) → W p l e R s m args below meth c H locs cells slots Qw (F0 m pc' lsA (st'.map mu_V)) → W p l e R s m args below meth c H locs cells slots Qw (F0 m pc lsA (st.map mu_V)))
    (k : mu_go w mi d L Q pc' ls st' g) : mu_go w mi d L Q pc ls st g := by
  intro p l e R s m args below meth c H locs cells slots S0 Qw lsA hc hy hl hr
  exact h p l e R s m args below meth c H locs cells slots S0 Qw lsA hc hy hl (k p l e R s m args below meth c H locs cells slots S0 Qw lsA hc hy hl hr)
theorem mu_ldI_e {K : mu_C} {n : Nat} {v : Option Value} (h : mu_ldI K n pc ls st g v) : ∃ x, v = some (.int x) ∧ K (pc + n) ls (.int x :: st) g := by
  unfold mu_ldI at h; split at h
  · exact ⟨_, rfl, h⟩
  · exact h.elim
theorem mu_ldL_e {K : mu_C} {n : Nat} {v : Option Value} (h : mu_ldL K n pc ls st g v) : ∃ x, v = some (.long x) ∧ K (pc + n) ls (.long x :: st) g := by
  unfold mu_ldL at h; split at h
  · exact ⟨_, rfl, h⟩
  · exact h.elim
theorem mu_ldA_e {K : mu_C} {n : Nat} {v : Option Value} (h : mu_ldA K n pc ls st g v) : ∃ x, v = some (.ref x) ∧ K (pc + n) ls (.ref x :: st) g := by
  unfold mu_ldA at h; split at h
  · exact ⟨_, rfl, h⟩
  · exact h.elim
theorem mu_sto_e {K : mu_C} {n x : Nat} {v : Value} (h : mu_sto K n pc ls st g x v) : mu_noL ls x = true ∧ K (pc + n) (mu_set ls x v) st g := by
  unfold mu_sto at h; split at h
  · rename_i hb; exact ⟨hb, h⟩
  · exact h.elim
theorem mu_go_iconst {v : Int} (hd : decode (mu_mB mi) pc = .ok (.iconst v, 1)) (k : mu_go w mi d L Q (pc + 1) ls (.int (Int32.ofInt v) :: st) g) : mu_go w mi d L Q pc ls st g :=
  mu_lift (fun _ _ _ _ _ _ _ _ _ _ _ _ _ _ _ _ _ hc _ _ k => lv_iconst hc.1 hc.2.1 hd rfl k) k
theorem mu_go_bipush {v : Int} (hd : decode (mu_mB mi) pc = .ok (.bipush v, 2)) (hv : (Int8.ofInt v).toInt32 = Int32.ofInt v) (k : mu_go w mi d L Q (pc + 2) ls (.int (Int32.ofInt v) :: st) g) : mu_go w mi d L Q pc ls st g :=
  mu_lift (fun _ _ _ _ _ _ _ _ _ _ _ _ _ _ _ _ _ hc _ _ k => lv_bipush hc.1 hc.2.1 hd hv k) k
theorem mu_go_sipush {v : Int} (hd : decode (mu_mB mi) pc = .ok (.sipush v, 3)) (hv : (Int16.ofInt v).toInt32 = Int32.ofInt v) (k : mu_go w mi d L Q (pc + 3) ls (.int (Int32.ofInt v) :: st) g) : mu_go w mi d L Q pc ls st g :=
  mu_lift (fun _ _ _ _ _ _ _ _ _ _ _ _ _ _ _ _ _ hc _ _ k => lv_sipush hc.1 hc.2.1 hd hv k) k
theorem mu_go_lconst {v : Fin 2} (hd : decode (mu_mB mi) pc = .ok (.lconst v, 1)) (k : mu_go w mi d L Q (pc + 1) ls (.long (Int64.ofNat (v : Nat)) :: st) g) : mu_go w mi d L Q pc ls st g :=
  mu_lift (fun _ _ _ _ _ _ _ _ _ _ _ _ _ _ _ _ _ hc _ _ k => lv_lconst hc.1 hc.2.1 hd rfl k) k
theorem mu_go_null (hd : decode (mu_mB mi) pc = .ok (.aconst_null, 1)) (k : mu_go w mi d L Q (pc + 1) ls (.ref 0 :: st) g) : mu_go w mi d L Q pc ls st g :=
  mu_lift (fun _ _ _ _ _ _ _ _ _ _ _ _ _ _ _ _ _ hc _ _ k => lv_null hc.1 hc.2.1 hd k) k
theorem mu_go_ldc {x : Nat} {v : Int32} (hd : decode (mu_mB mi) pc = .ok (.ldc x, 2)) (hw : Jvm.Cond.constant (mu_mY mi).cls x v ∈ lw_tbl ∧ goodWord (Jvm.Cond.constant (mu_mY mi).cls x v) = true) (k : mu_go w mi d L Q (pc + 2) ls (.int v :: st) g) : mu_go w mi d L Q pc ls st g :=
  mu_lift (fun _ _ _ _ _ _ _ _ _ _ _ _ _ _ _ _ _ hc _ _ k => lv_ldc hc.1 hc.2.1 hc.2.2.2.1 (hc.2.2.2.2.1 _ hw.1 hw.2) hd k) k
theorem mu_go_ldcw {x : Nat} {v : Int32} (hd : decode (mu_mB mi) pc = .ok (.ldc_w x, 3)) (hw : Jvm.Cond.constant (mu_mY mi).cls x v ∈ lw_tbl ∧ goodWord (Jvm.Cond.constant (mu_mY mi).cls x v) = true) (k : mu_go w mi d L Q (pc + 3) ls (.int v :: st) g) : mu_go w mi d L Q pc ls st g :=
  mu_lift (fun _ _ _ _ _ _ _ _ _ _ _ _ _ _ _ _ _ hc _ _ k => lv_ldcw hc.1 hc.2.1 hc.2.2.2.1 (hc.2.2.2.2.1 _ hw.1 hw.2) hd k) k
theorem mu_go_ldc2 {x : Nat} {v : Int64} (hd : decode (mu_mB mi) pc = .ok (.ldc2_w x, 3)) (hw : Jvm.Cond.constantLong (mu_mY mi).cls x v ∈ lw_tbl ∧ goodWord (Jvm.Cond.constantLong (mu_mY mi).cls x v) = true) (k : mu_go w mi d L Q (pc + 3) ls (.long v :: st) g) : mu_go w mi d L Q pc ls st g :=
  mu_lift (fun _ _ _ _ _ _ _ _ _ _ _ _ _ _ _ _ _ hc _ _ k => lv_ldc2 hc.1 hc.2.1 hc.2.2.2.1 (hc.2.2.2.2.1 _ hw.1 hw.2) hd k) k
theorem mu_go_ldcS {x j : Nat} {q : String × Nat × String} (hd : decode (mu_mB mi) pc = .ok (.ldc x, 2)) (hq : mu_ss[j]? = some q) (h1 : q.1 = (mu_mY mi).cls) (h2 : q.2.1 = x) (k : mu_go w mi d L Q (pc + 2) ls (.ref (w.2.2.2.2.2 j) :: st) g) : mu_go w mi d L Q pc ls st g :=
  mu_lift (fun p l e R s m args below meth c H locs cells slots S0 Qw lsA hc _ _ k => by
    obtain ⟨a, ha, hR⟩ := hc.2.2.2.2.2.1.2.2.2.2 j q hq
    rw [ha] at k
    rw [h1, h2] at hR
    exact va_ldcS hc.1 hc.2.1 hc.2.2.2.1 hR hd k) k
theorem mu_go_iload {x : Nat} {v : Int32} (hd : decode (mu_mB mi) pc = .ok (.iload x, 2)) (hv : mu_get ls x = some (.int v)) (k : mu_go w mi d L Q (pc + 2) ls (.int v :: st) g) : mu_go w mi d L Q pc ls st g :=
  mu_lift (fun _ _ _ _ _ _ _ _ _ _ _ _ _ _ _ _ _ hc _ hl k => lv_iload hc.1 hc.2.1 hd (mu_has_get hl hv) k) k
theorem mu_go_iload_n {x : Fin 4} {v : Int32} (hd : decode (mu_mB mi) pc = .ok (.iload_n x, 1)) (hv : mu_get ls x.val = some (.int v)) (k : mu_go w mi d L Q (pc + 1) ls (.int v :: st) g) : mu_go w mi d L Q pc ls st g :=
  mu_lift (fun _ _ _ _ _ _ _ _ _ _ _ _ _ _ _ _ _ hc _ hl k => lv_iload_n hc.1 hc.2.1 hd rfl (mu_has_get hl hv) k) k
theorem mu_go_lload {x : Nat} {v : Int64} (hd : decode (mu_mB mi) pc = .ok (.lload x, 2)) (hv : mu_get ls x = some (.long v)) (k : mu_go w mi d L Q (pc + 2) ls (.long v :: st) g) : mu_go w mi d L Q pc ls st g :=
  mu_lift (fun _ _ _ _ _ _ _ _ _ _ _ _ _ _ _ _ _ hc _ hl k => lv_lload hc.1 hc.2.1 hd (mu_has_get hl hv) k) k
theorem mu_go_lload_n {x : Fin 4} {v : Int64} (hd : decode (mu_mB mi) pc = .ok (.lload_n x, 1)) (hv : mu_get ls x.val = some (.long v)) (k : mu_go w mi d L Q (pc + 1) ls (.long v :: st) g) : mu_go w mi d L Q pc ls st g :=
  mu_lift (fun _ _ _ _ _ _ _ _ _ _ _ _ _ _ _ _ _ hc _ hl k => lv_lload_n hc.1 hc.2.1 hd rfl (mu_has_get hl hv) k) k
theorem mu_go_aload {x : Nat} {v : Nat} (hd : decode (mu_mB mi) pc = .ok (.aload x, 2)) (hv : mu_get ls x = some (.ref v)) (k : mu_go w mi d L Q (pc + 2) ls (.ref v :: st) g) : mu_go w mi d L Q pc ls st g :=
  mu_lift (fun p l e R s m args below meth c H locs cells slots S0 Qw lsA hc _ hl k => by
    cases v with
    | zero => exact lv_aloadN hc.1 hc.2.1 hd (mu_has_get hl hv) k
    | succ a => exact lv_aload hc.1 hc.2.1 hd (mu_has_get hl hv) k) k
theorem mu_go_aload_n {x : Fin 4} {v : Nat} (hd : decode (mu_mB mi) pc = .ok (.aload_n x, 1)) (hv : mu_get ls x.val = some (.ref v)) (k : mu_go w mi d L Q (pc + 1) ls (.ref v :: st) g) : mu_go w mi d L Q pc ls st g :=
  mu_lift (fun p l e R s m args below meth c H locs cells slots S0 Qw lsA hc _ hl k => by
    cases v with
    | zero => exact lv_aload_nN hc.1 hc.2.1 hd rfl (mu_has_get hl hv) k
    | succ a => exact lv_aload_n hc.1 hc.2.1 hd rfl (mu_has_get hl hv) k) k
theorem mu_go_istore {x : Nat} {v : Int32} (hd : decode (mu_mB mi) pc = .ok (.istore x, 2)) (hx : x < mu_mL mi) (hn : mu_noL ls x = true) (k : mu_go w mi d L Q (pc + 2) (mu_set ls x (.int v)) st g) : mu_go w mi d L Q pc ls (.int v :: st) g := by
  intro p l e R s m args below meth c H locs cells slots S0 Qw lsA hc hy hl hr
  exact lv_istore hc.1 hc.2.1 hd hl hx rfl fun ls' hl' => k p l e R s m args below meth c H locs cells slots S0 Qw ls' hc hy (mu_has_set (v := .int v) hl' hn) hr
theorem mu_go_istore_n {x : Fin 4} {v : Int32} (hd : decode (mu_mB mi) pc = .ok (.istore_n x, 1)) (hx : x.val < mu_mL mi) (hn : mu_noL ls x.val = true) (k : mu_go w mi d L Q (pc + 1) (mu_set ls x.val (.int v)) st g) : mu_go w mi d L Q pc ls (.int v :: st) g := by
  intro p l e R s m args below meth c H locs cells slots S0 Qw lsA hc hy hl hr
  exact lv_istore_n hc.1 hc.2.1 hd rfl hl hx rfl fun ls' hl' => k p l e R s m args below meth c H locs cells slots S0 Qw ls' hc hy (mu_has_set (v := .int v) hl' hn) hr
theorem mu_go_astore {x : Nat} {v : Nat} (hd : decode (mu_mB mi) pc = .ok (.astore x, 2)) (hx : x < mu_mL mi) (hn : mu_noL ls x = true) (k : mu_go w mi d L Q (pc + 2) (mu_set ls x (.ref v)) st g) : mu_go w mi d L Q pc ls (.ref v :: st) g := by
  intro p l e R s m args below meth c H locs cells slots S0 Qw lsA hc hy hl hr
  cases v with
  | zero => exact lv_astoreN hc.1 hc.2.1 hd hl hx rfl fun ls' hl' => k p l e R s m args below meth c H locs cells slots S0 Qw ls' hc hy (mu_has_set (v := .ref 0) hl' hn) hr
  | succ a => exact lv_astore hc.1 hc.2.1 hd hl hx rfl fun ls' hl' => k p l e R s m args below meth c H locs cells slots S0 Qw ls' hc hy (mu_has_set (v := .ref (a + 1)) hl' hn) hr
theorem mu_go_astore_n {x : Fin 4} {v : Nat} (hd : decode (mu_mB mi) pc = .ok (.astore_n x, 1)) (hx : x.val < mu_mL mi) (hn : mu_noL ls x.val = true) (k : mu_go w mi d L Q (pc + 1) (mu_set ls x.val (.ref v)) st g) : mu_go w mi d L Q pc ls (.ref v :: st) g := by
  intro p l e R s m args below meth c H locs cells slots S0 Qw lsA hc hy hl hr
  cases v with
  | zero => exact lv_astore_nN hc.1 hc.2.1 hd rfl hl hx rfl fun ls' hl' => k p l e R s m args below meth c H locs cells slots S0 Qw ls' hc hy (mu_has_set (v := .ref 0) hl' hn) hr
  | succ a => exact lv_astore_n hc.1 hc.2.1 hd rfl hl hx rfl fun ls' hl' => k p l e R s m args below meth c H locs cells slots S0 Qw ls' hc hy (mu_has_set (v := .ref (a + 1)) hl' hn) hr
theorem mu_go_iinc {x : Nat} {c0 : Int} {v : Int32} (hd : decode (mu_mB mi) pc = .ok (.iinc x c0, 3)) (hx : x < mu_mL mi) (hv : mu_get ls x = some (.int v)) (hn : mu_noL ls x = true) (k : mu_go w mi d L Q (pc + 3) (mu_set ls x (.int (v + Int32.ofInt c0))) st g) : mu_go w mi d L Q pc ls st g := by
  intro p l e R s m args below meth c H locs cells slots S0 Qw lsA hc hy hl hr
  have h1 := mu_lv_get (k := 0) hv
  rw [Nat.zero_add] at h1
  obtain ⟨i, hi⟩ := List.getElem?_of_mem h1
  exact lv_iinc hc.1 hc.2.1 hd hl hi rfl hx rfl fun ls' hl' => k p l e R s m args below meth c H locs cells slots S0 Qw ls' hc hy (mu_has_set (v := .int (v + Int32.ofInt c0)) hl' hn) hr
theorem mu_go_goto {off : Int} (hd : decode (mu_mB mi) pc = .ok (.goto off, 3)) (h0 : 0 ≤ (pc : Int) + off) (k : mu_go w mi d L Q (mu_j pc off) ls st g) : mu_go w mi d L Q pc ls st g :=
  mu_lift (fun _ _ _ _ _ _ _ _ _ _ _ _ _ _ _ _ _ hc _ _ k => lv_goto hc.1 hc.2.1 hd (Int.toNat_of_nonneg h0).symm k) k
theorem mu_go_ifc {cd : ClassFile.Cond} {off : Int} {x : Int32} (hd : decode (mu_mB mi) pc = .ok (.ifCond cd off, 3)) (h0 : 0 ≤ (pc : Int) + off) (k1 : mu_ifc cd x → mu_go w mi d L Q (mu_j pc off) ls st g) (k2 : ¬ mu_ifc cd x → mu_go w mi d L Q (pc + 3) ls st g) : mu_go w mi d L Q pc ls (.int x :: st) g := by
  intro p l e R s m args below meth c H locs cells slots S0 Qw lsA hc hy hl hr
  have e0 := (Int.toNat_of_nonneg h0).symm
  have a1 := fun h => k1 h p l e R s m args below meth c H locs cells slots S0 Qw lsA hc hy hl hr
  have a2 := fun h => k2 h p l e R s m args below meth c H locs cells slots S0 Qw lsA hc hy hl hr
  cases cd with
  | eq => exact lv_if_eq hc.1 hc.2.1 hd e0 a1 a2
  | ne => exact lv_if_ne hc.1 hc.2.1 hd e0 a1 (fun h => a2 (fun hn => hn h))
  | lt => exact lv_if_lt hc.1 hc.2.1 hd e0 a1 a2
  | ge => exact lv_if_ge hc.1 hc.2.1 hd e0 a1 a2
  | gt => exact lv_if_gt hc.1 hc.2.1 hd e0 a1 a2
  | le => exact lv_if_le hc.1 hc.2.1 hd e0 a1 a2
theorem mu_go_icmp {cd : ClassFile.Cond} {off : Int} {x y : Int32} (hd : decode (mu_mB mi) pc = .ok (.if_icmp cd off, 3)) (h0 : 0 ≤ (pc : Int) + off) (k1 : mu_icmp cd x y → mu_go w mi d L Q (mu_j pc off) ls st g) (k2 : ¬ mu_icmp cd x y → mu_go w mi d L Q (pc + 3) ls st g) : mu_go w mi d L Q pc ls (.int y :: .int x :: st) g := by
  intro p l e R s m args below meth c H locs cells slots S0 Qw lsA hc hy hl hr
  have e0 := (Int.toNat_of_nonneg h0).symm
  have a1 := fun h => k1 h p l e R s m args below meth c H locs cells slots S0 Qw lsA hc hy hl hr
  have a2 := fun h => k2 h p l e R s m args below meth c H locs cells slots S0 Qw lsA hc hy hl hr
  cases cd with
  | eq => exact lv_icmp_eq hc.1 hc.2.1 hd e0 a1 a2
  | ne => exact lv_icmp_ne hc.1 hc.2.1 hd e0 a1 (fun h => a2 (fun hn => hn h))
  | lt => exact lv_icmp_lt hc.1 hc.2.1 hd e0 a1 a2
  | ge => exact lv_icmp_ge hc.1 hc.2.1 hd e0 a1 a2
  | gt => exact lv_icmp_gt hc.1 hc.2.1 hd e0 a1 a2
  | le => exact lv_icmp_le hc.1 hc.2.1 hd e0 a1 a2
theorem mu_go_ifnull {off : Int} {a : Nat} (hd : decode (mu_mB mi) pc = .ok (.ifnull off, 3)) (h0 : 0 ≤ (pc : Int) + off) (k1 : a = 0 → mu_go w mi d L Q (mu_j pc off) ls st g) (k2 : ¬ a = 0 → mu_go w mi d L Q (pc + 3) ls st g) : mu_go w mi d L Q pc ls (.ref a :: st) g := by
  intro p l e R s m args below meth c H locs cells slots S0 Qw lsA hc hy hl hr
  have e0 := (Int.toNat_of_nonneg h0).symm
  cases a with
  | zero => exact lv_ifnullN hc.1 hc.2.1 hd e0 (k1 rfl p l e R s m args below meth c H locs cells slots S0 Qw lsA hc hy hl hr)
  | succ a => exact lv_ifnull hc.1 hc.2.1 hd (k2 (by omega) p l e R s m args below meth c H locs cells slots S0 Qw lsA hc hy hl hr)
theorem mu_go_ifnonnull {off : Int} {a : Nat} (hd : decode (mu_mB mi) pc = .ok (.ifnonnull off, 3)) (h0 : 0 ≤ (pc : Int) + off) (k1 : ¬ a = 0 → mu_go w mi d L Q (mu_j pc off) ls st g) (k2 : a = 0 → mu_go w mi d L Q (pc + 3) ls st g) : mu_go w mi d L Q pc ls (.ref a :: st) g := by
  intro p l e R s m args below meth c H locs cells slots S0 Qw lsA hc hy hl hr
  have e0 := (Int.toNat_of_nonneg h0).symm
  cases a with
  | zero => exact lv_ifnonnullN hc.1 hc.2.1 hd (k2 rfl p l e R s m args below meth c H locs cells slots S0 Qw lsA hc hy hl hr)
  | succ a => exact lv_ifnonnull hc.1 hc.2.1 hd e0 (k1 (by omega) p l e R s m args below meth c H locs cells slots S0 Qw lsA hc hy hl hr)
theorem mu_sw_e {x : Int32} {K : Nat → Prop} : ∀ {offs : List Int} {lo : Int} {j : Nat} {off : Int}, mu_sw x K pc lo offs → offs[j]? = some off → x.toInt = lo + j → K (mu_j pc off)
  | [], _, _, _, _, h, _ => by cases h
  | o :: t, lo, 0, off, h, hj, hx => by
    cases hj
    exact h.1 (by omega)
  | o :: t, lo, j + 1, off, h, hj, hx => mu_sw_e (lo := lo + 1) (j := j) h.2 hj (by omega)
theorem mu_go_table {dflt lo hi : Int} {offs : Array Int} {n : Nat} {x : Int32} (hd : decode (mu_mB mi) pc = .ok (.tableswitch dflt lo hi offs, n)) (h0 : 0 ≤ (pc : Int) + dflt) (h1 : ∀ o ∈ offs.toList, 0 ≤ (pc : Int) + o) (h2 : (offs.size : Int) = hi - lo + 1)
    (k1 : (x.toInt < lo ∨ hi < x.toInt) → mu_go w mi d L Q (mu_j pc dflt) ls st g) (k2 : ∀ (j : Nat) (off : Int), offs.toList[j]? = some off → x.toInt = lo + j → mu_go w mi d L Q (mu_j pc off) ls st g) : mu_go w mi d L Q pc ls (.int x :: st) g := by
  intro p l e R s m args below meth c H locs cells slots S0 Qw lsA hc hy hl hr
  by_cases hx : x.toInt < lo ∨ hi < x.toInt
  · exact lv_tableOut hc.1 hc.2.1 hd hx (Int.toNat_of_nonneg h0).symm (k1 hx p l e R s m args below meth c H locs cells slots S0 Qw lsA hc hy hl hr)
  · have hx1 : ¬ x.toInt < lo := fun h => hx (Or.inl h)
    have hx2 : ¬ hi < x.toInt := fun h => hx (Or.inr h)
    have hlt : (x.toInt - lo).toNat < offs.size := by omega
    have e1 : offs[(x.toInt - lo).toNat]? = some offs[(x.toInt - lo).toNat] := Array.getElem?_eq_getElem hlt
    have e2 : offs.toList[(x.toInt - lo).toNat]? = some offs[(x.toInt - lo).toNat] := by rw [Array.getElem?_toList]; exact e1
    have e3 : 0 ≤ (pc : Int) + offs[(x.toInt - lo).toNat] := h1 _ (List.mem_of_getElem? e2)
    exact lv_tableIn hc.1 hc.2.1 hd hx1 hx2 e1 (Int.toNat_of_nonneg e3).symm (k2 _ _ e2 (by omega) p l e R s m args below meth c H locs cells slots S0 Qw lsA hc hy hl hr)
theorem mu_lw_e {x : Int32} {K : Nat → Prop} {dflt : Int} : ∀ {ps : List (Int × Int)}, mu_lw x K pc dflt ps → K (mu_j pc (Op.lookupswitch.offset ps dflt x.toInt))
  | [], h => h
  | (k, o) :: t, h => by
    by_cases hk : x.toInt = k
    · have := h.1 hk
      simpa [Op.lookupswitch.offset, hk] using this
    · have := mu_lw_e (h.2 hk)
      have hk2 : ¬ k = x.toInt := fun e => hk e.symm
      simpa [Op.lookupswitch.offset, hk, hk2] using this
end Mu8
end
section
/-! OWN SMALL MACHINE, PART 7: the instructions that read and write the heap -/
section Mu9
theorem mu_hts {R : Room} {w : mu_O} {mi : mu_M} {d : Nat} {L : Nat × Nat} {p : Program} {s : State} {m : MethodId} {args : Array Value} {meth : Method} {c : Code} {S0 : Nat} (hc : mu_ctx w mi d L p R s m args meth c S0) : ∀ x ∈ lw_tbl.filter goodWord, x.before args s = true :=
  fun x hx => hc.2.2.2.2.1 x (List.mem_filter.mp hx).1 (List.mem_filter.mp hx).2
/-- all that is checked of a class -/
theorem mu_cls {c : Nat} (hc : c < 12) : ∃ r, vwCl[c]? = some r ∧ r.2.2 = mu_nf c ∧ r.1 = mu_own c ∧ (Jvm.Cond.instantiable r.1 r.2.2 ∈ lw_tbl ∧ goodWord (Jvm.Cond.instantiable r.1 r.2.2) = true) ∧ (Jvm.Cond.initialized r.1 ∈ lw_tbl ∧ goodWord (Jvm.Cond.initialized r.1) = true) ∧ (∀ x ∈ u_ws r.1 r.2.1 r.2.2, x ∈ lw_tbl.filter goodWord) ∧ (∀ k, k < r.2.2 → parseFieldDescriptor (r.2.1 k).2.2.1 = some (mu_Ty c k)) ∧ (∀ a, a < r.2.2 → ∀ b, b < r.2.2 → a ≠ b → (r.2.1 a).2.1 ≠ (r.2.1 b).2.1) ∧ (∀ k, k < r.2.2 → mu_Ty c k = .int ∨ mu_Ty c k = .boolean ∨ (∃ n, mu_Ty c k = .object n) ∨ ∃ t, mu_Ty c k = .array t) := by
  have h := List.all_eq_true.mp mu_kI c (List.mem_range.mpr hc)
  unfold mu_ckI at h
  split at h
  · rename_i r q u hr hq hu
    simp only [Bool.and_eq_true] at h
    obtain ⟨⟨⟨⟨⟨⟨⟨h1, h2⟩, h3⟩, h4⟩, h5⟩, h6⟩, h7⟩, h8⟩ := h
    refine ⟨r, hr, Nat.eq_of_beq_eq_true h3, of_decide_eq_true h4, mu_w_e h1, mu_w_e h2, fun x hx => ?_, fun k hk => ?_, fun a ha b hb hne => ?_, fun k hk => ?_⟩
    · obtain ⟨k, hk, rfl⟩ := List.mem_map.mp hx
      have := mu_w_e (List.all_eq_true.mp h5 k hk)
      exact List.mem_filter.mpr this
    · exact of_decide_eq_true (List.all_eq_true.mp h6 k (List.mem_range.mpr hk))
    · have h9 := List.all_eq_true.mp (List.all_eq_true.mp h7 a (List.mem_range.mpr ha)) b (List.mem_range.mpr hb)
      rw [Bool.or_eq_true] at h9
      rcases h9 with h9 | h9
      · exact absurd (Nat.eq_of_beq_eq_true h9) hne
      · exact of_decide_eq_true h9
    · have h9 := List.all_eq_true.mp h8 k (List.mem_range.mpr hk)
      split at h9
      · left; assumption
      · right; left; assumption
      · right; right; left; exact ⟨_, by assumption⟩
      · right; right; right; exact ⟨_, by assumption⟩
      · cases h9
  · cases h
variable {w : mu_O} {mi : mu_M} {d : Nat} {L : Nat × Nat} {Q : Option Value → mu_H → Prop} {pc : Nat} {ls : List (Option Value)} {st : List Value} {g : mu_H}
theorem mu_succ {U : State} {H : Heap} (h : mu_rep w g U H) {a t : Nat} (ht : mu_T g a = t + 1) : ∃ b, a = b + 1 := by
  cases a with
  | zero => rw [h.2.2.1] at ht; omega
  | succ b => exact ⟨b, rfl⟩
theorem mu_fv_int {c a k : Nat} (h : mu_isR (mu_Ty c k) = false) : mu_Fv g c a k = .int (mu_I g a k) := by unfold mu_Fv; rw [h]
theorem mu_fv_ref {c a k : Nat} (h : mu_isR (mu_Ty c k) = true) : mu_Fv g c a k = .ref (mu_R g a k) := by unfold mu_Fv; rw [h]
/-- a field of an object of the class table is read -/
theorem mu_go_get {x c f : Nat} {r : vw_C} {a : Nat} (hcn : c < 12) (hd : decode (mu_mB mi) pc = .ok (.getfield x, 3)) (hr : vwCl[c]? = some r) (hf : f < r.2.2) (hw : Jvm.Cond.fieldLink (mu_mY mi).cls x (r.2.1 f).1 (r.2.1 f).2.1 (r.2.1 f).2.2.1 ∈ lw_tbl ∧ goodWord (Jvm.Cond.fieldLink (mu_mY mi).cls x (r.2.1 f).1 (r.2.1 f).2.1 (r.2.1 f).2.2.1) = true) (ht : mu_T g a = c + 1) (k : mu_go w mi d L Q (pc + 3) ls (mu_Fv g c a f :: st) g) : mu_go w mi d L Q pc ls (.ref a :: st) g :=
  mu_lift (fun p l e R s m args below meth cd H locs cells slots S0 Qw lsA hc hy _ k => by
    obtain ⟨a, rfl⟩ := mu_succ hy.1 ht
    obtain ⟨r', hr', -, -, -, -, hin, -⟩ := mu_cls hcn
    cases hr.symm.trans hr'
    obtain ⟨-, r', hr', cell, q1, q2, q3, q4⟩ := (hy.1.2.2.2 a).1 c hcn ht
    cases hr.symm.trans hr'
    obtain ⟨hS, hfc, kC, hkC, hkind⟩ := hc.2.2.2.2.2.1.1.1 c _ hr
    obtain ⟨cf, kf, fi, fd, hi, hsl⟩ := hS f hf
    exact W.getf (v := mu_V (mu_Fv g c (a + 1) f)) hc.1 hc.2.1 hc.2.2.2.1 (hc.2.2.2.2.1 _ hw.1 hw.2) hi (u_facts hfc hkC (u_lays (mu_hts hc) hin hf) hi).1 q1 (by rw [q3]; exact fun h => by cases h) (by rw [hsl]; exact q4 f hf) rfl rfl hd k) k
/-- a String's field -/
theorem mu_go_getS {x f : Nat} {a : Nat} {n0 d0 : String} (hd : decode (mu_mB mi) pc = .ok (.getfield x, 3)) (hf : (f = 0 ∧ n0 = "value" ∧ d0 = "[B") ∨ (f = 1 ∧ n0 = "coder" ∧ d0 = "B")) (hw : Jvm.Cond.fieldLink (mu_mY mi).cls x "java/lang/String" n0 d0 ∈ lw_tbl ∧ goodWord (Jvm.Cond.fieldLink (mu_mY mi).cls x "java/lang/String" n0 d0) = true) (ht : mu_T g a = 13) (k : mu_go w mi d L Q (pc + 3) ls ((if f = 0 then .ref (mu_R g a f) else .int (mu_I g a f)) :: st) g) : mu_go w mi d L Q pc ls (.ref a :: st) g :=
  mu_lift (fun p l e R s m args below meth cd H locs cells slots S0 Qw lsA hc hy _ k => by
    obtain ⟨a, rfl⟩ := mu_succ (t := 12) hy.1 ht
    obtain ⟨-, h2, h3⟩ := (hy.1.2.2.2 a).2.2 ht
    rcases hf with ⟨rfl, rfl, rfl⟩ | ⟨rfl, rfl, rfl⟩
    · obtain ⟨cf, kf, fi, fd, cell, hi, hst, hcell, hkn, hsl, -⟩ := h2
      exact W.getf hc.1 hc.2.1 hc.2.2.2.1 (hc.2.2.2.2.1 _ hw.1 hw.2) hi hst hcell hkn hsl rfl rfl hd k
    · obtain ⟨cf, kf, fi, fd, cell, hi, hst, hcell, hkn, hsl, -⟩ := h3
      exact W.getf hc.1 hc.2.1 hc.2.2.2.1 (hc.2.2.2.2.1 _ hw.1 hw.2) hi hst hcell hkn hsl rfl rfl hd k) k
/-- a cell of the class table is written: the heap that comes of it -/
theorem mu_rep_put {s : State} {H H' : Heap} {c a f : Nat} {r : vw_C} {g' : mu_H} {cell : Cell} {v : Value} (hcn : c < 12) (hr : vwCl[c]? = some r) (hf : f < r.2.2) (hP : mu_rep w g s H) (ht : mu_T g (a + 1) = c + 1)
    (eT : mu_T g' = mu_T g) (eN : mu_N g' = mu_N g) (eX : mu_X g' = mu_X g) (eo : ∀ x k, x ≠ a + 1 → mu_I g' x k = mu_I g x k ∧ mu_R g' x k = mu_R g x k) (ev : ∀ k, k < r.2.2 → mu_V (mu_Fv g' c (a + 1) k) = updV (fun k => mu_V (mu_Fv g c (a + 1) k)) f v k)
    (q2 : cell.cls = w.2.1 c) (q3 : cell.vm = .none) (q4 : ∀ k, k < r.2.2 → cell.slots[w.2.2.1 c k]? = some (mu_V (mu_Fv g c (a + 1) k))) (hap : ∀ x y, x < r.2.2 → y < r.2.2 → x ≠ y → w.2.2.1 c x ≠ w.2.2.1 c y)
    (e1 : H'[a]? = some (cell.setSlot (w.2.2.1 c f) v)) (e2 : H'.size = H.size) (e3 : ∀ q, q ≠ a → H'[q]? = H[q]?) : mu_rep w g' s H' := by
  obtain ⟨h1, h2, h3, h4⟩ := hP
  refine ⟨by rw [e2, eX]; exact h1, by rw [e2]; exact h2, by rw [eT]; exact h3, fun b => ?_⟩
  by_cases hb : b = a
  · subst hb
    refine ⟨fun c' hc' ht' => ?_, fun q hq ht' => ?_, fun ht' => ?_⟩
    · rw [eT] at ht'
      have : c' = c := by omega
      subst this
      exact ⟨((h4 b).1 c' hc' ht').1, r, hr, _, e1, q2, q3, fun k hk => (t_set q4 hap hf v k hk).trans (congrArg some (ev k hk).symm)⟩
    · rw [eT, ht] at ht'; omega
    · rw [eT, ht] at ht'; omega
  · exact mu_cell_kept (h4 b) (e3 b hb) (by rw [eT]) (by rw [eN]) (fun k => (eo _ k (by omega)).1) (fun k => (eo _ k (by omega)).2)
theorem mu_go_put {x c f : Nat} {r : vw_C} {a : Nat} {v : Value} {g' : mu_H} (hcn : c < 12) (hd : decode (mu_mB mi) pc = .ok (.putfield x, 3)) (hr : vwCl[c]? = some r) (hf : f < r.2.2) (hw : Jvm.Cond.fieldLink (mu_mY mi).cls x (r.2.1 f).1 (r.2.1 f).2.1 (r.2.1 f).2.2.1 ∈ lw_tbl ∧ goodWord (Jvm.Cond.fieldLink (mu_mY mi).cls x (r.2.1 f).1 (r.2.1 f).2.1 (r.2.1 f).2.2.1) = true)
    (hfin : (r.2.1 f).2.2.2 = false ∨ ((mu_mY mi).name = "<init>" ∧ (r.2.1 f).1 = (mu_mY mi).cls)) (ht : mu_T g a = c + 1) (hn : narrow (mu_Ty c f) (mu_V v) = mu_V v) (hfit : fits (mu_Ty c f) (mu_V v) = true)
    (eT : mu_T g' = mu_T g) (eN : mu_N g' = mu_N g) (eX : mu_X g' = mu_X g) (eS : mu_S g' = mu_S g) (eo : ∀ x k, x ≠ a → mu_I g' x k = mu_I g x k ∧ mu_R g' x k = mu_R g x k) (ev : ∀ k, k < r.2.2 → mu_Fv g' c a k = if k = f then v else mu_Fv g c a k)
    (k : mu_go w mi d L Q (pc + 3) ls st g') : mu_go w mi d L Q pc ls (v :: .ref a :: st) g := by
  intro p l e R s m args below meth cd H locs cells slots S0 Qw lsA hc hy hl hret
  obtain ⟨a, rfl⟩ := mu_succ hy.1 ht
  obtain ⟨r', hr', -, -, -, -, hin, hty, hnm, -⟩ := mu_cls hcn
  cases hr.symm.trans hr'
  obtain ⟨hwa, r', hr', cell, q1, q2, q3, q4⟩ := (hy.1.2.2.2 a).1 c hcn ht
  cases hr.symm.trans hr'
  have hap := va_apart (own := "") (mu_hts hc) hin (mu_Ty c) hty hnm hc.2.2.2.2.2.1.1 hr
  obtain ⟨hS, hfc, kC, hkC, hkind⟩ := hc.2.2.2.2.2.1.1.1 c _ hr
  obtain ⟨cf, kf, fi, fd, hi, hsl⟩ := hS f hf
  have hst := (u_facts hfc hkC (u_lays (mu_hts hc) hin hf) hi).1
  have hlay := mu_hts hc _ (hin _ (u_in_lay hf))
  have hlk := hc.2.2.2.2.1 _ hw.1 hw.2
  have hgo : ∀ H' : Heap, H'[a]? = some (cell.setSlot (w.2.2.1 c f) (mu_V v)) → H'.size = H.size → (∀ q, q ≠ a → H'[q]? = H[q]?) → W p l e R s m args below meth cd H' (locs ++ [⟨a, w.2.2.1 c f⟩]) cells slots Qw (F0 m (pc + 3) lsA (st.map mu_V)) := by
    intro H' e1 e2 e3
    refine k p l e R s m args below meth cd H' _ cells slots S0 Qw lsA hc ⟨mu_rep_put hcn hr hf hy.1 ht eT eN eX eo (fun j hj => ?_) q2 q3 q4 hap e1 e2 e3, mu_stat_kept hy.2.1 (fun q _ hq => e3 q (fun h => hq (by rw [h]; exact hwa))), by rw [e2]; exact hy.2.2.1, by rw [eS]; exact hy.2.2.2.1, fun q hq => ?_, hy.2.2.2.2.2⟩ hl hret
    · rw [ev j hj]
      unfold updV
      split <;> rfl
    · rcases List.mem_append.mp hq with h | h
      · exact hy.2.2.2.2.1 q h
      · rw [List.mem_singleton.mp h]; exact hwa
  by_cases hfi : (r.2.1 f).2.2.2 = true
  · rcases hfin with h | ⟨hin2, hdecl⟩
    · rw [h] at hfi; cases hfi
    · unfold u_lay at hlay
      rw [if_pos hfi] at hlay
      have hcf : m.cls = cf := by
        obtain ⟨_, _, c', _, _, _, -, -, hf', -, -, -, hown2, -⟩ := Cond.laysFinal_spec hlay
        have e1 : c' = cf := by have := hi.symm.trans hf'; simp at this; exact this.1.symm
        rw [hdecl] at hown2
        rw [← e1]; exact Option.some.inj (hc.2.2.2.1.symm.trans hown2)
      have h6 := u_fits hfc hkC hkind (Or.inr hlay) hi (hty f hf) hn hfit
      refine W.putFinK hc.1 hc.2.1 hc.2.2.2.1 hlk hi hst hcf (hc.2.2.2.2.2.2.1.trans hin2) (by rw [q2]; exact h6) q1 q3 (by rw [hsl]; exact k2_hasslot (q4 f hf)) rfl rfl hd fun H' e1 e2 e3 => ?_
      rw [hsl] at e1 ⊢
      exact hgo H' e1 e2 e3
  · unfold u_lay at hlay
    rw [if_neg hfi] at hlay
    have h6 := u_store hfc hkC hkind hlay hi (hty f hf) hn hfit
    refine W.putK hc.1 hc.2.1 (f := fd) ⟨hc.2.2.2.1, hlk, ⟨_, _, _, hi⟩, hst⟩ (by rw [q2]; exact h6) q1 q3 (by rw [hsl]; exact k2_hasslot (q4 f hf)) rfl rfl hd fun H' e1 e2 e3 => ?_
    rw [hsl] at e1 ⊢
    exact hgo H' e1 e2 e3
end Mu9
end
section
/-! OWN SMALL MACHINE, PART 8: arrays, new cells, statics -/
section Mu10
variable {w : mu_O} {mi : mu_M} {d : Nat} {L : Nat × Nat} {Q : Option Value → mu_H → Prop} {pc : Nat} {ls : List (Option Value)} {st : List Value} {g : mu_H}
theorem mu_in_lt {j : Int32} {n : Nat} (h : mu_in j n) : ¬ j < 0 ∧ j.toNatClampNeg < n := by
  have h2 : vp_in j n := vp_in_iff.mpr h
  exact ⟨fun q => h2 (Or.inl q), Nat.not_le.mp fun q => h2 (Or.inr q)⟩
theorem mu_go_alen {a : Nat} (hd : decode (mu_mB mi) pc = .ok (.arraylength, 1)) (ht : 20 ≤ mu_T g a ∧ mu_T g a < 27) (k : mu_go w mi d L Q (pc + 1) ls (.int (Int32.ofNat (mu_N g a)) :: st) g) : mu_go w mi d L Q pc ls (.ref a :: st) g :=
  mu_lift (fun p l e R s m args below meth cd H locs cells slots S0 Qw lsA hc hy _ k => by
    obtain ⟨a, rfl⟩ := mu_succ (a := a) (t := mu_T g a - 1) hy.1 (by omega)
    obtain ⟨cell, h1, h2, -, -, h5, -⟩ := mu_arr hc.2.2.2.2.2.1.1 (hy.1.2.2.2 a) (q := mu_T g (a + 1) - 20) (by omega) (by omega)
    exact W.alen hc.1 hc.2.1 h1 h2 h5 rfl rfl hd k) k
theorem mu_go_iald {a : Nat} {j : Int32} (hd : decode (mu_mB mi) pc = .ok (.iaload, 1)) (ht : mu_T g a = 20) (hj : mu_in j (mu_N g a)) (k : mu_go w mi d L Q (pc + 1) ls (.int (mu_I g a j.toNatClampNeg) :: st) g) : mu_go w mi d L Q pc ls (.int j :: .ref a :: st) g :=
  mu_lift (fun p l e R s m args below meth cd H locs cells slots S0 Qw lsA hc hy _ k => by
    obtain ⟨a, rfl⟩ := mu_succ (t := 19) hy.1 ht
    obtain ⟨cell, h1, h2, h3, h4, h5, h6⟩ := mu_arr hc.2.2.2.2.2.1.1 (hy.1.2.2.2 a) (q := 0) (by omega) (by omega)
    have hj := mu_in_lt hj
    exact W.iald hc.1 hc.2.1 h1 h2 h3 (fun h => h.elim hj.1 (fun h => by omega)) (h6 _ hj.2) rfl rfl hd k) k
theorem mu_go_bald {a : Nat} {j : Int32} (hd : decode (mu_mB mi) pc = .ok (.baload, 1)) (ht : mu_T g a = 21) (hj : mu_in j (mu_N g a)) (k : mu_go w mi d L Q (pc + 1) ls (.int (mu_I g a j.toNatClampNeg) :: st) g) : mu_go w mi d L Q pc ls (.int j :: .ref a :: st) g :=
  mu_lift (fun p l e R s m args below meth cd H locs cells slots S0 Qw lsA hc hy _ k => by
    obtain ⟨a, rfl⟩ := mu_succ (t := 20) hy.1 ht
    obtain ⟨cell, h1, h2, h3, h4, h5, h6⟩ := mu_arr hc.2.2.2.2.2.1.1 (hy.1.2.2.2 a) (q := 1) (by omega) (by omega)
    have hj := mu_in_lt hj
    exact W.bald hc.1 hc.2.1 h1 h2 h3 (fun h => h.elim hj.1 (fun h => by omega)) (h6 _ hj.2) rfl rfl hd k) k
theorem mu_av_ref {q a j : Nat} (h : 1 < q) : mu_Av g q a j = .ref (mu_R g a j) := by
  match q, h with
  | q + 2, _ => rfl
theorem mu_ae_ref {q : Nat} (h : 1 < q) (h7 : q < 7) : (mu_AE q).isReference = true := by
  rcases (show q = 2 ∨ q = 3 ∨ q = 4 ∨ q = 5 ∨ q = 6 by omega) with rfl | rfl | rfl | rfl | rfl <;> rfl
theorem mu_go_aald {a : Nat} {j : Int32} (hd : decode (mu_mB mi) pc = .ok (.aaload, 1)) (ht : 22 ≤ mu_T g a ∧ mu_T g a < 27) (hj : mu_in j (mu_N g a)) (k : mu_go w mi d L Q (pc + 1) ls (.ref (mu_R g a j.toNatClampNeg) :: st) g) : mu_go w mi d L Q pc ls (.int j :: .ref a :: st) g :=
  mu_lift (fun p l e R s m args below meth cd H locs cells slots S0 Qw lsA hc hy _ k => by
    obtain ⟨a, rfl⟩ := mu_succ (a := a) (t := mu_T g a - 1) hy.1 (by omega)
    obtain ⟨cell, h1, h2, h3, h4, h5, h6⟩ := mu_arr hc.2.2.2.2.2.1.1 (hy.1.2.2.2 a) (q := mu_T g (a + 1) - 20) (by omega) (by omega)
    have hj := mu_in_lt hj
    have h7 := h6 _ hj.2
    rw [mu_av_ref (by omega)] at h7
    exact W.aald hc.1 hc.2.1 h1 h2 (mu_ae_ref (by omega) (by omega)) h3 (fun h => h.elim hj.1 (fun h => by omega)) h7 rfl rfl hd k) k
/-- an own array is written: the heap that comes of it -/
theorem mu_rep_ast {s : State} {H H' : Heap} {q a j : Nat} {g' : mu_H} {v : Value} (hq : q < 7) (hwa : w.1 ≤ a) (hP : mu_rep w g s H) (ht : mu_T g (a + 1) = 20 + q)
    (eT : mu_T g' = mu_T g) (eN : mu_N g' = mu_N g) (eX : mu_X g' = mu_X g) (eo : ∀ x k, x ≠ a + 1 → mu_I g' x k = mu_I g x k ∧ mu_R g' x k = mu_R g x k) (ev : ∀ k, mu_V (mu_Av g' q (a + 1) k) = updV (fun k => mu_V (mu_Av g q (a + 1) k)) j v k) (hb : q = 1 → fits .byte v = true)
    (e1 : H'[a]? = some ((arrV (w.2.2.2.1 q) (mu_N g (a + 1)) (fun j => mu_V (mu_Av g q (a + 1) j))).setSlot j v)) (e2 : H'.size = H.size) (e3 : ∀ q, q ≠ a → H'[q]? = H[q]?) : mu_rep w g' s H' := by
  obtain ⟨h1, h2, h3, h4⟩ := hP
  refine ⟨by rw [e2, eX]; exact h1, by rw [e2]; exact h2, by rw [eT]; exact h3, fun b => ?_⟩
  by_cases hb' : b = a
  · subst hb'
    refine ⟨fun c' hc' ht' => ?_, fun q' hq' ht' => ?_, fun ht' => ?_⟩
    · rw [eT, ht] at ht'; omega
    · rw [eT] at ht'
      have : q' = q := by omega
      subst this
      refine ⟨fun _ => ⟨?_, fun hq1 k hk => ?_⟩, fun h => absurd hwa h⟩
      · rw [e1, arrV_store, eN]
        congr 2
        exact funext fun k => (ev k).symm
      · subst hq1
        rw [eN] at hk
        have h5 := ev k
        have h6 : mu_V (mu_Av g' 1 (b + 1) k) = .int (mu_I g' (b + 1) k) := rfl
        rw [h6] at h5
        rw [h5]
        unfold updV
        split
        · exact hb rfl
        · exact (((h4 b).2.1 1 (by omega) ht').1 hwa).2 rfl k hk
    · rw [eT, ht] at ht'; omega
  · exact mu_cell_kept (h4 b) (e3 b hb') (by rw [eT]) (by rw [eN]) (fun k => (eo _ k (by omega)).1) (fun k => (eo _ k (by omega)).2)
theorem mu_dyn_ast {R : Room} {s : State} {S0 : Nat} {H H' : Heap} {locs : List Loc} {cells slots : Nat} {a i : Nat} {g' : mu_H} (hwa : w.1 ≤ a) (hy : mu_dyn w g R s S0 H locs cells slots) (hP : mu_rep w g' s H') (eS : mu_S g' = mu_S g) (e2 : H'.size = H.size) (e3 : ∀ q, q ≠ a → H'[q]? = H[q]?) : mu_dyn w g' R s S0 H' (locs ++ [⟨a, i⟩]) cells slots := by
  refine ⟨hP, mu_stat_kept hy.2.1 (fun q _ hq => e3 q (fun h => hq (by rw [h]; exact hwa))), by rw [e2]; exact hy.2.2.1, by rw [eS]; exact hy.2.2.2.1, fun q hq => ?_, hy.2.2.2.2.2⟩
  rcases List.mem_append.mp hq with h | h
  · exact hy.2.2.2.2.1 q h
  · rw [List.mem_singleton.mp h]; exact hwa
theorem mu_sI_eo {a k : Nat} {v : Int32} : ∀ x y, x ≠ a → mu_I (mu_sI g a k v) x y = mu_I g x y ∧ mu_R (mu_sI g a k v) x y = mu_R g x y := by
  intro x y h
  refine ⟨?_, rfl⟩
  show (if x = a ∧ y = k then v else mu_I g x y) = _
  rw [if_neg (fun q => h q.1)]
theorem mu_sR_eo {a k v : Nat} : ∀ x y, x ≠ a → mu_I (mu_sR g a k v) x y = mu_I g x y ∧ mu_R (mu_sR g a k v) x y = mu_R g x y := by
  intro x y h
  refine ⟨rfl, ?_⟩
  show (if x = a ∧ y = k then v else mu_R g x y) = _
  rw [if_neg (fun q => h q.1)]
theorem mu_go_iast {a : Nat} {j x : Int32} (hd : decode (mu_mB mi) pc = .ok (.iastore, 1)) (hwa : w.1 < a) (ht : mu_T g a = 20) (hj : mu_in j (mu_N g a)) (k : mu_go w mi d L Q (pc + 1) ls st (mu_sI g a j.toNatClampNeg x)) : mu_go w mi d L Q pc ls (.int x :: .int j :: .ref a :: st) g := by
  intro p l e R s m args below meth cd H locs cells slots S0 Qw lsA hc hy hl hret
  obtain ⟨a, rfl⟩ := mu_succ (t := 19) hy.1 ht
  have hwa : w.1 ≤ a := by omega
  have hj := mu_in_lt hj
  have hcell := (((hy.1.2.2.2 a).2.1 0 (by omega) ht).1 hwa).1
  refine W.iast hc.1 hc.2.1 hcell ((hc.2.2.2.2.2.1.1.2 0 _ (mu_tys_at w (by omega))).1 _ _) (fun h => (nomatch h)) (fun h => h.elim hj.1 (fun h => by rw [arrV_size] at h; omega)) rfl rfl hd fun H' e1 e2 e3 => ?_
  refine k p l e R s m args below meth cd H' _ cells slots S0 Qw lsA hc (mu_dyn_ast hwa hy (mu_rep_ast (q := 0) (by omega) hwa hy.1 ht rfl rfl rfl mu_sI_eo (fun k => ?_) (fun h => by cases h) e1 e2 e3) rfl e2 e3) hl hret
  show Value.int (if a + 1 = a + 1 ∧ k = j.toNatClampNeg then x else mu_I g (a + 1) k) = if k = j.toNatClampNeg then _ else _
  by_cases hk : k = j.toNatClampNeg
  · rw [if_pos ⟨rfl, hk⟩, if_pos hk]
  · rw [if_neg (fun q => hk q.2), if_neg hk]; rfl
theorem mu_go_bast {a : Nat} {j x : Int32} (hd : decode (mu_mB mi) pc = .ok (.bastore, 1)) (hwa : w.1 < a) (ht : mu_T g a = 21) (hj : mu_in j (mu_N g a)) (k : mu_go w mi d L Q (pc + 1) ls st (mu_sI g a j.toNatClampNeg x.toInt8.toInt32)) : mu_go w mi d L Q pc ls (.int x :: .int j :: .ref a :: st) g := by
  intro p l e R s m args below meth cd H locs cells slots S0 Qw lsA hc hy hl hret
  obtain ⟨a, rfl⟩ := mu_succ (t := 20) hy.1 ht
  have hwa : w.1 ≤ a := by omega
  have hj := mu_in_lt hj
  have hcell := (((hy.1.2.2.2 a).2.1 1 (by omega) ht).1 hwa).1
  refine W.bast hc.1 hc.2.1 hcell ((hc.2.2.2.2.2.1.1.2 1 _ (mu_tys_at w (by omega))).1 _ _) (fun h => (nomatch h)) (fun h => h.elim hj.1 (fun h => by rw [arrV_size] at h; omega)) rfl rfl hd fun H' e1 e2 e3 => ?_
  refine k p l e R s m args below meth cd H' _ cells slots S0 Qw lsA hc (mu_dyn_ast hwa hy (mu_rep_ast (q := 1) (v := .int x.toInt8.toInt32) (by omega) hwa hy.1 ht rfl rfl rfl mu_sI_eo (fun k => ?_) (fun _ => pk_fb x) e1 e2 e3) rfl e2 e3) hl hret
  show Value.int (if a + 1 = a + 1 ∧ k = j.toNatClampNeg then x.toInt8.toInt32 else mu_I g (a + 1) k) = if k = j.toNatClampNeg then _ else _
  by_cases hk : k = j.toNatClampNeg
  · rw [if_pos ⟨rfl, hk⟩, if_pos hk]
  · rw [if_neg (fun q => hk q.2), if_neg hk]; rfl
theorem mu_go_aast {a v : Nat} {j : Int32} (hd : decode (mu_mB mi) pc = .ok (.aastore, 1)) (hwa : w.1 < a) (ht : 22 ≤ mu_T g a ∧ mu_T g a < 27) (hv : v = 0 ∨ mu_T g v = mu_Ac (mu_T g a - 20) + 1) (hj : mu_in j (mu_N g a)) (k : mu_go w mi d L Q (pc + 1) ls st (mu_sR g a j.toNatClampNeg v)) : mu_go w mi d L Q pc ls (.ref v :: .int j :: .ref a :: st) g := by
  intro p l e R s m args below meth cd H locs cells slots S0 Qw lsA hc hy hl hret
  obtain ⟨a, rfl⟩ := mu_succ (a := a) (t := mu_T g a - 1) hy.1 (by omega)
  have hwa : w.1 ≤ a := by omega
  have hj := mu_in_lt hj
  obtain ⟨q, hq⟩ : ∃ q, q = mu_T g (a + 1) - 20 := ⟨_, rfl⟩
  rw [← hq] at hv
  have hq1 : 1 < q := by omega
  have hq7 : q < 7 := by omega
  have htq : mu_T g (a + 1) = 20 + q := by omega
  have hcell := (((hy.1.2.2.2 a).2.1 q hq7 htq).1 hwa).1
  have hgo : ∀ H' : Heap, H'[a]? = some ((arrV (w.2.2.2.1 q) (mu_N g (a + 1)) (fun j => mu_V (mu_Av g q (a + 1) j))).setSlot j.toNatClampNeg (mu_V (.ref v))) → H'.size = H.size → (∀ q, q ≠ a → H'[q]? = H[q]?) → W p l e R s m args below meth cd H' (locs ++ [⟨a, j.toNatClampNeg⟩]) cells slots Qw (F0 m (pc + 1) lsA (st.map mu_V)) := by
    intro H' e1 e2 e3
    refine k p l e R s m args below meth cd H' _ cells slots S0 Qw lsA hc (mu_dyn_ast hwa hy (mu_rep_ast hq7 hwa hy.1 htq rfl rfl rfl mu_sR_eo (fun k => ?_) (fun h => by omega) e1 e2 e3) rfl e2 e3) hl hret
    rw [mu_av_ref hq1]
    unfold updV
    show mu_V (.ref (if a + 1 = a + 1 ∧ k = j.toNatClampNeg then v else mu_R g (a + 1) k)) = _
    by_cases hk : k = j.toNatClampNeg
    · rw [if_pos ⟨rfl, hk⟩, if_pos hk]
    · rw [if_neg (fun q => hk q.2), if_neg hk]
      show _ = mu_V (mu_Av g q (a + 1) k)
      rw [mu_av_ref hq1]
  have htys := hc.2.2.2.2.2.1.1.2 q _ (mu_tys_at w hq7)
  obtain ⟨C, hC⟩ : ∃ C, mu_AE q = .object C := by
    rcases (show q = 2 ∨ q = 3 ∨ q = 4 ∨ q = 5 ∨ q = 6 by omega) with rfl | rfl | rfl | rfl | rfl <;> exact ⟨_, rfl⟩
  rw [hC] at htys
  cases v with
  | zero => exact va_WaastN hc.1 hc.2.1 hcell (htys.1 _ _) (fun h => (nomatch h)) (fun h => h.elim hj.1 (fun h => by rw [arrV_size] at h; omega)) rfl rfl hd hgo
  | succ v =>
    have hv : mu_T g (v + 1) = mu_Ac q + 1 := hv.elim (fun h => by omega) (fun h => h)
    have hcn : mu_Ac q < 12 := by
      rcases (show q = 2 ∨ q = 3 ∨ q = 4 ∨ q = 5 ∨ q = 6 by omega) with rfl | rfl | rfl | rfl | rfl <;> decide
    obtain ⟨-, r, hr, cellV, g1, g2, g3, -⟩ := (hy.1.2.2.2 v).1 _ hcn hv
    have hrC : r.1 = C := by
      rcases (show q = 2 ∨ q = 3 ∨ q = 4 ∨ q = 5 ∨ q = 6 by omega) with rfl | rfl | rfl | rfl | rfl <;> (cases hr; cases hC; rfl)
    have hcls := (hc.2.2.2.2.2.1.1.1 _ r hr).2
    rw [hrC] at hcls
    obtain ⟨kA, comp, k1, k2, k3, -⟩ := htys.2
    have hcomp : comp = w.2.1 (mu_Ac q) := Option.some.inj (k3.symm.trans hcls.1)
    subst hcomp
    obtain ⟨kC, hkC, -⟩ := hcls.2
    exact W.aast hc.1 hc.2.1 hcell (fun q h => by cases h) (fun h => by cases h) k1 k2 rfl hkC ⟨hj.1, by rw [arrV_size]; exact hj.2⟩ g1 (fun q h => by rw [g3] at h; cases h) (by rw [g2]; exact hkC) (by rw [g2]; exact va_assign hcls) rfl rfl hd hgo
end Mu10
end
section
/-! OWN SMALL MACHINE, PART 9: new cells, statics, the library's own methods -/
section Mu11
variable {w : mu_O} {mi : mu_M} {d : Nat} {L : Nat × Nat} {Q : Option Value → mu_H → Prop} {pc : Nat} {ls : List (Option Value)} {st : List Value} {g : mu_H}
/-- a new cell: all others stay -/
theorem mu_rep_new {s : State} {H H' : Heap} {t n v : Nat} (hP : mu_rep w g s H) (e2 : H'.size = H.size + 1) (e3 : ∀ q, q < H.size → H'[q]? = H[q]?) (hcell : mu_cell w (mu_sN g t n v) s H' H.size) : mu_rep w (mu_sN g t n v) s H' := by
  obtain ⟨h1, h2, h3, h4⟩ := hP
  have hX : mu_X (mu_sN g t n v) = mu_X g + 1 := rfl
  refine ⟨by rw [hX, e2, h1], by omega, ?_, fun b => ?_⟩
  · show (if 0 = mu_X g then t else mu_T g 0) = 0
    rw [if_neg (by omega)]; exact h3
  · by_cases hb : b = H.size
    · subst hb; exact hcell
    · have hne : ¬ b + 1 = mu_X g := by omega
      have eT : mu_T (mu_sN g t n v) (b + 1) = mu_T g (b + 1) := if_neg hne
      have eN : mu_N (mu_sN g t n v) (b + 1) = mu_N g (b + 1) := if_neg hne
      have eI : ∀ k, mu_I (mu_sN g t n v) (b + 1) k = mu_I g (b + 1) k := fun k => if_neg hne
      have eR : ∀ k, mu_R (mu_sN g t n v) (b + 1) k = mu_R g (b + 1) k := fun k => if_neg hne
      by_cases hlt : b < H.size
      · exact mu_cell_kept (h4 b) (e3 b hlt) eT eN eI eR
      · have hno : H[b]? = none := by simp; omega
        refine ⟨fun c hc ht => ?_, fun q hq ht => ?_, fun ht => ?_⟩
        · rw [eT] at ht
          obtain ⟨-, r, -, cell, hh, -⟩ := (h4 b).1 c hc ht
          rw [hno] at hh; cases hh
        · rw [eT] at ht
          obtain ⟨i1, i2⟩ := (h4 b).2.1 q hq ht
          refine ⟨fun ha => ?_, fun ha => ?_⟩
          · have := (i1 ha).1; rw [hno] at this; cases this
          · obtain ⟨cell, hh, -⟩ := i2 ha; rw [hno] at hh; cases hh
        · rw [eT] at ht
          obtain ⟨⟨cell, hh, -⟩, -⟩ := (h4 b).2.2 ht
          rw [hno] at hh; cases hh
theorem mu_dyn_new {R : Room} {s : State} {S0 : Nat} {H H' : Heap} {locs : List Loc} {cells slots : Nat} {t n v : Nat} (hy : mu_dyn w g R s S0 H locs cells slots) (hc1 : cells + 1 ≤ R.cells) (hs1 : slots + v ≤ R.slots) (hP : mu_rep w (mu_sN g t n v) s H') (e2 : H'.size = H.size + 1) (e3 : ∀ q, q < H.size → H'[q]? = H[q]?) : mu_dyn w (mu_sN g t n v) R s S0 H' locs (cells + 1) (slots + v) := by
  refine ⟨hP, mu_stat_kept hy.2.1 (fun q h _ => e3 q h), by rw [e2, hy.2.2.1]; omega, ?_, hy.2.2.2.2.1, hc1, hs1⟩
  show mu_S g + v = _
  rw [hy.2.2.2.1]; omega
theorem mu_room {R : Room} {s : State} {m : MethodId} {args : Array Value} {meth : Method} {c : Code} {S0 : Nat} {H : Heap} {locs : List Loc} {cells slots n : Nat} {p : Program} (hc : mu_ctx w mi d L p R s m args meth c S0) (hy : mu_dyn w g R s S0 H locs cells slots) (h1 : mu_X g + 1 ≤ L.1) (h2 : mu_S g + n ≤ L.2) : cells + 1 ≤ R.cells ∧ slots + n ≤ R.slots := by
  obtain ⟨-, -, -, -, -, -, -, -, -, e1, e2⟩ := hc
  obtain ⟨⟨e3, -⟩, -, e4, e5, -⟩ := hy
  omega
theorem mu_go_new {x c : Nat} {r : vw_C} (hcn : c < 12) (hd : decode (mu_mB mi) pc = .ok (.new x, 3)) (hr : vwCl[c]? = some r) (hw : Jvm.Cond.classLink (mu_mY mi).cls x r.1 ∈ lw_tbl ∧ goodWord (Jvm.Cond.classLink (mu_mY mi).cls x r.1) = true) (h1 : mu_X g + 1 ≤ L.1) (h2 : mu_S g + mu_nf c ≤ L.2) (k : mu_go w mi d L Q (pc + 3) ls (.ref (mu_X g) :: st) (mu_sN g (c + 1) 0 (mu_nf c))) : mu_go w mi d L Q pc ls st g := by
  intro p l e R s m args below meth cd H locs cells slots S0 Qw lsA hc hy hl hret
  obtain ⟨r', hr', hnf, -, hi1, hi2, hin, hty, -, hkd⟩ := mu_cls hcn
  cases hr.symm.trans hr'
  obtain ⟨hr1, hr2⟩ := mu_room hc hy h1 h2
  rw [← hnf] at hr2 k h2
  have hKn := hc.2.2.2.2.2.1.1.1 c _ hr
  refine W.newcK hc.1 hc.2.1 hc.2.2.2.1 (hc.2.2.2.2.1 _ hw.1 hw.2) (hc.2.2.2.2.1 _ hi1.1 hi1.2) (hc.2.2.2.2.1 _ hi2.1 hi2.2) rfl hd hr1 hr2 hKn.2.1 rfl fun H1 kC hkC e1 z1 o1 => ?_
  have eX : mu_X g = H.size + 1 := hy.1.1.symm
  have hT : mu_T (mu_sN g (c + 1) 0 r.2.2) (H.size + 1) = c + 1 := if_pos eX.symm
  have hrep : mu_rep w (mu_sN g (c + 1) 0 r.2.2) s H1 := by
    refine mu_rep_new hy.1 z1 o1 ⟨fun c' hc' ht' => ?_, fun q hq ht' => ?_, fun ht' => ?_⟩
    · rw [hT] at ht'
      have : c' = c := by omega
      subst this
      refine ⟨hy.1.2.1, r, hr, (u_born (mu_Ty c') (mu_hts hc) hin hKn hkC e1 hty).to (fun k hk => ?_)⟩
      have eI : mu_I (mu_sN g (c' + 1) 0 r.2.2) (H.size + 1) k = 0 := if_pos eX.symm
      have eR : mu_R (mu_sN g (c' + 1) 0 r.2.2) (H.size + 1) k = 0 := if_pos eX.symm
      unfold mu_Fv
      rw [eI, eR]
      rcases hkd k hk with h | h | ⟨_, h⟩ | ⟨_, h⟩ <;> rw [h] <;> rfl
    · rw [hT] at ht'; omega
    · rw [hT] at ht'; omega
  have k' := k p l e R s m args below meth cd H1 locs (cells + 1) (slots + r.2.2) S0 Qw lsA hc (mu_dyn_new hy hr1 hr2 hrep z1 o1) hl hret
  rw [eX] at k'
  exact k'
theorem mu_go_newarr {t : ArrayType} {q : Nat} {x : Int32} (hq : q < 2) (htq : newarray.typeOf t = mu_AE q) (hd : decode (mu_mB mi) pc = .ok (.newarray t, 2)) (hx : mu_in x 100000) (h1 : mu_X g + 1 ≤ L.1) (h2 : mu_S g + x.toNatClampNeg ≤ L.2) (k : mu_go w mi d L Q (pc + 2) ls (.ref (mu_X g) :: st) (mu_sN g (20 + q) x.toNatClampNeg x.toNatClampNeg)) : mu_go w mi d L Q pc ls (.int x :: st) g := by
  intro p l e R s m args below meth cd H locs cells slots S0 Qw lsA hc hy hl hret
  obtain ⟨hr1, hr2⟩ := mu_room hc hy h1 h2
  have hx := mu_in_lt hx
  have hword : Jvm.Cond.arrayClass (newarray.typeOf t) ∈ lw_tbl ∧ goodWord (Jvm.Cond.arrayClass (newarray.typeOf t)) = true := by
    have h := mu_kW
    unfold mu_ckW at h
    simp only [Bool.and_eq_true] at h
    rw [htq]
    rcases (show q = 0 ∨ q = 1 by omega) with rfl | rfl
    · exact mu_w_e h.1.2
    · exact mu_w_e h.2
  have hbytes : x.toNatClampNeg * componentBytes (newarray.typeOf t) ≤ 536870912 := by
    rw [htq]
    rcases (show q = 0 ∨ q = 1 by omega) with rfl | rfl
    · show x.toNatClampNeg * 4 ≤ _; omega
    · show x.toNatClampNeg * 1 ≤ _; omega
  refine W.newa hc.1 hc.2.1 (hc.2.2.2.2.1 _ hword.1 hword.2) rfl hd rfl hx.1 hbytes hr1 hr2 fun cA kA comp f1 f2 f3 => ?_
  generalize hH1 : H.push ({ cls := cA, slots := Array.replicate x.toNatClampNeg (defaultValue (newarray.typeOf t)), vm := .none } : Cell) = H1
  have z1 : H1.size = H.size + 1 := by rw [← hH1, Array.size_push]
  have e1 : H1[H.size]? = some (arrV cA x.toNatClampNeg (fun _ => defaultValue (newarray.typeOf t))) := by rw [← hH1, Array.getElem?_push_size, ← arrV_new]
  have o1 : ∀ q : Nat, q < H.size → H1[q]? = H[q]? := fun q hq => by rw [← hH1, Array.getElem?_push, if_neg (Nat.ne_of_lt hq)]
  have hcA : cA = w.2.2.2.1 q := by
    have h := (hc.2.2.2.2.2.1.1.2 q _ (mu_tys_at w (by omega))).2
    rw [htq] at f1
    rcases (show q = 0 ∨ q = 1 by omega) with rfl | rfl
    · exact Option.some.inj (f1.symm.trans h)
    · exact Option.some.inj (f1.symm.trans h)
  have eX : mu_X g = H.size + 1 := hy.1.1.symm
  have hT : mu_T (mu_sN g (20 + q) x.toNatClampNeg x.toNatClampNeg) (H.size + 1) = 20 + q := if_pos eX.symm
  have hrep : mu_rep w (mu_sN g (20 + q) x.toNatClampNeg x.toNatClampNeg) s H1 := by
    refine mu_rep_new hy.1 z1 o1 ⟨fun c' hc' ht' => ?_, fun q' hq' ht' => ?_, fun ht' => ?_⟩
    · rw [hT] at ht'; omega
    · rw [hT] at ht'
      have : q' = q := by omega
      subst this
      have eN : mu_N (mu_sN g (20 + q') x.toNatClampNeg x.toNatClampNeg) (H.size + 1) = x.toNatClampNeg := if_pos eX.symm
      have eI : ∀ k, mu_I (mu_sN g (20 + q') x.toNatClampNeg x.toNatClampNeg) (H.size + 1) k = 0 := fun k => if_pos eX.symm
      refine ⟨fun _ => ⟨?_, fun _ j _ => ?_⟩, fun h => absurd hy.1.2.1 h⟩
      · rw [e1, eN, hcA]
        congr 2
        funext j
        rw [htq]
        rcases (show q' = 0 ∨ q' = 1 by omega) with rfl | rfl
        · show defaultValue .int = .int (mu_I _ _ _); rw [eI]; rfl
        · show defaultValue .byte = .int (mu_I _ _ _); rw [eI]; rfl
      · rw [eI]; rfl
    · rw [hT] at ht'; omega
  have k' := k p l e R s m args below meth cd H1 locs (cells + 1) (slots + x.toNatClampNeg) S0 Qw lsA hc (mu_dyn_new hy hr1 hr2 hrep z1 o1) hl hret
  rw [eX] at k'
  exact k'
theorem mu_go_anew {y q : Nat} {C : String} {x : Int32} (hq1 : 1 < q) (hq : q < 7) (hC : mu_AE q = .object C) (hd : decode (mu_mB mi) pc = .ok (.anewarray y, 3)) (hw : Jvm.Cond.classLink (mu_mY mi).cls y C ∈ lw_tbl ∧ goodWord (Jvm.Cond.classLink (mu_mY mi).cls y C) = true) (hx : mu_in x 100000) (h1 : mu_X g + 1 ≤ L.1) (h2 : mu_S g + x.toNatClampNeg ≤ L.2) (k : mu_go w mi d L Q (pc + 3) ls (.ref (mu_X g) :: st) (mu_sN g (20 + q) x.toNatClampNeg x.toNatClampNeg)) : mu_go w mi d L Q pc ls (.int x :: st) g := by
  intro p l e R s m args below meth cd H locs cells slots S0 Qw lsA hc hy hl hret
  obtain ⟨hr1, hr2⟩ := mu_room hc hy h1 h2
  have hx := mu_in_lt hx
  obtain ⟨C', hC', hAO⟩ := hc.2.2.2.2.2.1.2.2.2.1 q hq1 hq
  rw [hC] at hC'
  cases hC'
  refine W.anew hc.1 hc.2.1 hc.2.2.2.1 (hc.2.2.2.2.1 _ hw.1 hw.2) (va_AO.use hAO) rfl hd rfl hx.1 (by omega) hr1 hr2 fun cA kA comp f1 f2 f3 f4 => ?_
  generalize hH1 : H.push ({ cls := cA, slots := Array.replicate x.toNatClampNeg .null, vm := .none } : Cell) = H1
  have z1 : H1.size = H.size + 1 := by rw [← hH1, Array.size_push]
  have e1 : H1[H.size]? = some (arrV cA x.toNatClampNeg (fun _ => .null)) := by rw [← hH1, Array.getElem?_push_size, ← arrV_new]
  have o1 : ∀ q : Nat, q < H.size → H1[q]? = H[q]? := fun q hq => by rw [← hH1, Array.getElem?_push, if_neg (Nat.ne_of_lt hq)]
  have hcA : cA = w.2.2.2.1 q := by
    have h := (hc.2.2.2.2.2.1.1.2 q _ (mu_tys_at w hq)).2
    rw [hC] at h
    obtain ⟨kA', comp', -, -, -, h⟩ := h
    exact Option.some.inj (f1.symm.trans h)
  have eX : mu_X g = H.size + 1 := hy.1.1.symm
  have hT : mu_T (mu_sN g (20 + q) x.toNatClampNeg x.toNatClampNeg) (H.size + 1) = 20 + q := if_pos eX.symm
  have hrep : mu_rep w (mu_sN g (20 + q) x.toNatClampNeg x.toNatClampNeg) s H1 := by
    refine mu_rep_new hy.1 z1 o1 ⟨fun c' hc' ht' => ?_, fun q' hq' ht' => ?_, fun ht' => ?_⟩
    · rw [hT] at ht'; omega
    · rw [hT] at ht'
      have : q' = q := by omega
      subst this
      have eN : mu_N (mu_sN g (20 + q') x.toNatClampNeg x.toNatClampNeg) (H.size + 1) = x.toNatClampNeg := if_pos eX.symm
      have eR : ∀ k, mu_R (mu_sN g (20 + q') x.toNatClampNeg x.toNatClampNeg) (H.size + 1) k = 0 := fun k => if_pos eX.symm
      refine ⟨fun _ => ⟨?_, fun h _ _ => by omega⟩, fun h => absurd hy.1.2.1 h⟩
      rw [e1, eN, hcA]
      congr 2
      funext j
      rw [mu_av_ref hq1, eR]
      rfl
    · rw [hT] at ht'; omega
  have k' := k p l e R s m args below meth cd H1 locs (cells + 1) (slots + x.toNatClampNeg) S0 Qw lsA hc (mu_dyn_new hy hr1 hr2 hrep z1 o1) hl hret
  rw [eX] at k'
  exact k'
theorem mu_go_gets {x j : Nat} {q : String × String × String} (hd : decode (mu_mB mi) pc = .ok (.getstatic x, 3)) (hq : mu_sts[j]? = some q) (hw : (Jvm.Cond.fieldLink (mu_mY mi).cls x q.1 q.2.1 q.2.2 ∈ lw_tbl ∧ goodWord (Jvm.Cond.fieldLink (mu_mY mi).cls x q.1 q.2.1 q.2.2) = true) ∨ ((mu_mY mi).cls, x, q.1, q.2.1, q.2.2, "StageFights") ∈ mu_nF) (k : mu_go w mi d L Q (pc + 3) ls (mu_sv w j :: st) g) : mu_go w mi d L Q pc ls st g :=
  mu_lift (fun p l e R s m args below meth cd H locs cells slots S0 Qw lsA hc hy _ k => by
    obtain ⟨cf, kf, fi, f, a, cell, h1, h2, h3, h4, h5, h6, h7, -⟩ := hy.2.1 j q hq
    have hkn : cell.vm ≠ .unknown := fun h => by rw [h] at h6; cases h6
    rcases hw with hw | hw
    · exact W.gets hc.1 hc.2.1 hc.2.2.2.1 (hc.2.2.2.2.1 _ hw.1 hw.2) h1 h2 h3 h4 h5 hkn h7 rfl hd k
    · exact va_WgetsN hc.1 hc.2.1 hc.2.2.2.1 ((hc.2.2.2.2.2.1.2.1 _ hw).use rfl) h1 h2 h3 h4 h5 hkn h7 rfl hd k) k
theorem mu_words_cat : ∀ (r : List Value), mu_words r = (r.map fun v => v.category).sum
  | [] => rfl
  | v :: t => by
    have ih := mu_words_cat t
    cases v <;> simp [mu_words, Value.category, ih] <;> omega
theorem mu_small_e {r : List Value} {P : Prop} (h : mu_small r P) : (r.map fun v => v.category).sum ≤ 8 ∧ P := by
  unfold mu_small at h
  split at h
  · rename_i hb
    rw [← mu_words_cat]
    exact ⟨Nat.le_of_ble_eq_true hb, h⟩
  · exact h.elim
theorem mu_pos_e {P : Prop} (h : mu_pos d P) : 0 < d ∧ P := by
  cases d with
  | zero => exact h.elim
  | succ d => exact ⟨Nat.succ_pos d, h⟩
theorem mu_cat_map (r : List Value) : ((r.map mu_V).map fun v => v.category).sum = (r.map fun v => v.category).sum := by
  rw [List.map_map]
  congr 1
  exact List.map_congr_left fun v _ => mu_V_cat v
theorem mu_go_max {x : Nat} {a b : Int32} (hd : decode (mu_mB mi) pc = .ok (.invokestatic x, 3)) (hw : Jvm.Cond.methodLink (mu_mY mi).cls x Lib.Math.max.name ∈ lw_tbl ∧ goodWord (Jvm.Cond.methodLink (mu_mY mi).cls x Lib.Math.max.name) = true) (hs : (st.map fun v => v.category).sum ≤ 8) (h0 : 0 < d) (k : mu_go w mi d L Q (pc + 3) ls (.int (mu_max a b) :: st) g) : mu_go w mi d L Q pc ls (.int b :: .int a :: st) g :=
  mu_lift (fun p l e R s m args below meth cd H locs cells slots S0 Qw lsA hc hy hl k => by
    have h := mu_kW
    unfold mu_ckW at h
    simp only [Bool.and_eq_true] at h
    obtain ⟨⟨⟨⟨⟨⟨⟨⟨⟨⟨⟨⟨⟨w1, w2⟩, w3⟩, w4⟩, w5⟩, w6⟩, w7⟩, -⟩, -⟩, -⟩, -⟩, -⟩, -⟩, -⟩ := h
    have t := fun {i : Nat} {x : Jvm.Cond} (h : mu_w i x = true) => hc.2.2.2.2.1 x (mu_w_e h).1 (mu_w_e h).2
    have hR := hc.2.2.2.2.2.2.2
    exact va_mmax hc.1 hc.2.1 (hc.2.2.1.trans hl.1.symm) hc.2.2.2.1 (hc.2.2.2.2.1 _ hw.1 hw.2) (t w1) (t w7) (t w2) (by omega) (by rw [mu_cat_map]; omega) hy.2.2.2.2.2.1 hy.2.2.2.2.2.2 hd k) k
theorem mu_go_min {x : Nat} {a b : Int32} (hd : decode (mu_mB mi) pc = .ok (.invokestatic x, 3)) (hw : Jvm.Cond.methodLink (mu_mY mi).cls x Lib.Math.min.name ∈ lw_tbl ∧ goodWord (Jvm.Cond.methodLink (mu_mY mi).cls x Lib.Math.min.name) = true) (hs : (st.map fun v => v.category).sum ≤ 8) (h0 : 0 < d) (k : mu_go w mi d L Q (pc + 3) ls (.int (mu_min a b) :: st) g) : mu_go w mi d L Q pc ls (.int b :: .int a :: st) g :=
  mu_lift (fun p l e R s m args below meth cd H locs cells slots S0 Qw lsA hc hy hl k => by
    have h := mu_kW
    unfold mu_ckW at h
    simp only [Bool.and_eq_true] at h
    obtain ⟨⟨⟨⟨⟨⟨⟨⟨⟨⟨⟨⟨⟨w1, w2⟩, w3⟩, w4⟩, w5⟩, w6⟩, w7⟩, -⟩, -⟩, -⟩, -⟩, -⟩, -⟩, -⟩ := h
    have t := fun {i : Nat} {x : Jvm.Cond} (h : mu_w i x = true) => hc.2.2.2.2.1 x (mu_w_e h).1 (mu_w_e h).2
    have hR := hc.2.2.2.2.2.2.2
    exact va_mmin hc.1 hc.2.1 (hc.2.2.1.trans hl.1.symm) hc.2.2.2.1 (hc.2.2.2.2.1 _ hw.1 hw.2) (t w3) (t w7) (t w4) (by omega) (by rw [mu_cat_map]; omega) hy.2.2.2.2.2.1 hy.2.2.2.2.2.2 hd k) k
theorem mu_go_abs {x : Nat} {a : Int32} (hd : decode (mu_mB mi) pc = .ok (.invokestatic x, 3)) (hw : Jvm.Cond.methodLink (mu_mY mi).cls x Lib.Math.abs.name ∈ lw_tbl ∧ goodWord (Jvm.Cond.methodLink (mu_mY mi).cls x Lib.Math.abs.name) = true) (hs : (st.map fun v => v.category).sum ≤ 8) (h0 : 0 < d) (k : mu_go w mi d L Q (pc + 3) ls (.int (mu_abs a) :: st) g) : mu_go w mi d L Q pc ls (.int a :: st) g :=
  mu_lift (fun p l e R s m args below meth cd H locs cells slots S0 Qw lsA hc hy hl k => by
    have h := mu_kW
    unfold mu_ckW at h
    simp only [Bool.and_eq_true] at h
    obtain ⟨⟨⟨⟨⟨⟨⟨⟨⟨⟨⟨⟨⟨w1, w2⟩, w3⟩, w4⟩, w5⟩, w6⟩, w7⟩, -⟩, -⟩, -⟩, -⟩, -⟩, -⟩, -⟩ := h
    have t := fun {i : Nat} {x : Jvm.Cond} (h : mu_w i x = true) => hc.2.2.2.2.1 x (mu_w_e h).1 (mu_w_e h).2
    have hR := hc.2.2.2.2.2.2.2
    exact va_mabs hc.1 hc.2.1 (hc.2.2.1.trans hl.1.symm) hc.2.2.2.1 (hc.2.2.2.2.1 _ hw.1 hw.2) (t w5) (t w7) (t w6) (by omega) (by rw [mu_cat_map]; omega) hy.2.2.2.2.2.1 hy.2.2.2.2.2.2 hd k) k
theorem mu_go_objI {x : Nat} {a : Nat} (hd : decode (mu_mB mi) pc = .ok (.invokespecial x, 3)) (hw : Jvm.Cond.methodLink (mu_mY mi).cls x objectInit ∈ lw_tbl ∧ goodWord (Jvm.Cond.methodLink (mu_mY mi).cls x objectInit) = true) (ha : ¬ a = 0) (hs : (st.map fun v => v.category).sum ≤ 8) (h0 : 0 < d) (k : mu_go w mi d L Q (pc + 3) ls st g) : mu_go w mi d L Q pc ls (.ref a :: st) g :=
  mu_lift (fun p l e R s m args below meth cd H locs cells slots S0 Qw lsA hc hy hl k => by
    obtain ⟨a, rfl⟩ := Nat.exists_eq_succ_of_ne_zero ha
    have h := mu_kW
    unfold mu_ckW at h
    simp only [Bool.and_eq_true] at h
    obtain ⟨⟨⟨⟨-, w11⟩, w12⟩, -⟩, -⟩ := h
    have t := fun {i : Nat} {x : Jvm.Cond} (h : mu_w i x = true) => hc.2.2.2.2.1 x (mu_w_e h).1 (mu_w_e h).2
    have hR := hc.2.2.2.2.2.2.2
    have hcat := mu_cat_map st
    exact W.objInit hc.1 hc.2.1 hc.2.2.2.1 (hc.2.2.2.2.1 _ hw.1 hw.2) (t w11) (t w12) rfl (hl.1.trans hc.2.2.1.symm) rfl hd (by omega) (by show 2 * 0 + _ + 12 ≤ _; omega) k) k
end Mu11
end
section
/-! OWN SMALL MACHINE, PART 10: calls, and a contract out of a walk -/
section Mu12
variable {w : mu_O} {mi : mu_M} {d : Nat} {L : Nat × Nat} {Q : Option Value → mu_H → Prop} {pc : Nat} {ls : List (Option Value)} {st : List Value} {g : mu_H}
theorem mu_K_same {u U : State} (hv : u.vm = U.vm) (h : mu_K w u) : mu_K w U := by
  obtain ⟨h1, h2, h3, h4, h5⟩ := h
  have hal : u.vm.Alike U.vm := by rw [hv]; exact Vm.Alike.refl _
  refine ⟨va_K.moved hal h1, fun q hq => (h2 q hq).same rfl hv, fun q hq => (h3 q hq).same rfl hv, fun q h0 hq => ?_, fun j q hj => ?_⟩
  · obtain ⟨C, e, hC⟩ := h4 q h0 hq
    exact ⟨C, e, hC.moved hal⟩
  · obtain ⟨a, e, ha⟩ := h5 j q hj
    exact ⟨a, e, ha.same hv.symm⟩
theorem mu_cal {s : State} {U : State} {g : JFrame} {mk : MethodId} {a : Array Value} : (U.calling g mk a).vm = U.vm ∧ (U.calling g mk a).heap = U.heap := ⟨rfl, rfl⟩
theorem mu_blind {As : List Value} {g0 : mu_H} : FrameBlind (va_Pc As (fun U => mu_K w U ∧ mu_rep w g0 U U.heap ∧ mu_stat w U U.heap)) := by
  intro a U g mk h
  obtain ⟨h0, h1, h2, h3⟩ := h
  exact ⟨h0, mu_K_same (u := U) rfl h1, mu_rep_moved (u := U) (U := U.calling g mk a) (Vm.Alike.refl U.vm) h2, mu_stat_moved (u := U) (U := U.calling g mk a) (Vm.Alike.refl U.vm) h3⟩
theorem mu_pre {s : State} {H : Heap} {As : List Value} (hK : mu_K w s) (hP : mu_rep w g s H) (hZ : mu_stat w s H) : ∀ U : State, U.heap = H → s.WarmedH U.vm → va_Pc As (fun U => mu_K w U ∧ mu_rep w g U U.heap ∧ mu_stat w U U.heap) As.toArray U := by
  intro U hU hW
  subst hU
  exact ⟨rfl, mu_K_warm hW hK, mu_rep_moved hW.alike hP, mu_stat_moved hW.alike hZ⟩
theorem mu_W_run {p : Program} {l : Launch} {e : Env} {R : Room} {s : State} {m : MethodId} {args : Array Value} {below : List Frame} {meth : Method} {c : Code} {H : Heap} {locs : List Loc} {cells slots S0 : Nat} {Qw : State → Prop} {lsA : Array Slot} {st0 restV : List Value} {g' : mu_H} {r : Option Value}
    {Qa : State → Outcome → State → Prop} (hr : va_Run p l e R s m args below meth c H locs cells slots (mu_X g' - mu_X g) (mu_S g' - mu_S g) (F0 m pc lsA st0) restV Qa (fun q => w.1 ≤ q)) (hq : ∀ o st₀ t, Qa st₀ o t → o = .returned (r.map mu_V) ∧ mu_rep w g' t t.heap ∧ mu_stat w t t.heap)
    (hX : mu_X g ≤ mu_X g') (hS : mu_S g ≤ mu_S g') (hL1 : mu_X g' ≤ s.heap.size + 1 + R.cells) (hL2 : mu_S g' ≤ S0 + R.slots) (hy : mu_dyn w g R s S0 H locs cells slots)
    (k : ∀ (H' : Heap) (locs' : List Loc), mu_dyn w g' R s S0 H' locs' (cells + (mu_X g' - mu_X g)) (slots + (mu_S g' - mu_S g)) → W p l e R s m args below meth c H' locs' (cells + (mu_X g' - mu_X g)) (slots + (mu_S g' - mu_S g)) Qw (F0 m (pc + 3) lsA ((r.map mu_V).toList ++ restV))) :
    W p l e R s m args below meth c H locs cells slots Qw (F0 m pc lsA st0) := by
  intro T hT X
  obtain ⟨v, st₀, t, T', L', h0, X', hL', e1, e2, hqa, st⟩ := hr T hT X
  obtain ⟨hv, hrep, hstat⟩ := hq _ _ _ hqa
  cases hv
  have hal : t.vm.Alike s.vm := by rw [← e2]; exact X'.warmed.alike.symm
  have hrep' : mu_rep w g' s T'.heap := by rw [e1]; exact mu_rep_moved hal hrep
  have hstat' : mu_stat w s T'.heap := by rw [e1]; exact mu_stat_moved hal hstat
  obtain ⟨⟨z1, -⟩, -, z2, z3, z4, z5, z6⟩ := hy
  have z7 := hrep'.1
  obtain ⟨t2, a1, b1⟩ := k T'.heap (locs ++ L') ⟨hrep', hstat', by omega, by omega, fun q hq => (List.mem_append.mp hq).elim (z4 q) (fun h => hL' q h), by omega, by omega⟩ T' rfl X'
  exact ⟨t2, st t2 a1, b1⟩
theorem mu_good (mj : mu_M) (hcode : Jvm.Cond.code (mu_mY mj) (mu_mB mj) (mu_mL mj) (mu_mR mj) ∈ lw_tbl ∧ goodWord (Jvm.Cond.code (mu_mY mj) (mu_mB mj) (mu_mL mj) (mu_mR mj)) = true) : GoodIn (lw_tbl.filter goodWord) (mu_ws mj) := by
  intro x hx
  rcases List.mem_cons.mp hx with rfl | hx
  · exact ⟨List.mem_filter.mpr hcode, good_of_word hcode.2⟩
  · exact ⟨hx, good_of_word (List.mem_filter.mp hx).2⟩
/-- what is checked of a callee -/
def mu_cee (mj : mu_M) : Prop := (Jvm.Cond.code (mu_mY mj) (mu_mB mj) (mu_mL mj) (mu_mR mj) ∈ lw_tbl ∧ goodWord (Jvm.Cond.code (mu_mY mj) (mu_mB mj) (mu_mL mj) (mu_mR mj)) = true) ∧ (Jvm.Cond.initialized (mu_mY mj).cls ∈ lw_tbl ∧ goodWord (Jvm.Cond.initialized (mu_mY mj).cls) = true) ∧ ((mu_mY mj).cls ≠ "java/lang/invoke/MethodHandle" ∧ (mu_mY mj).cls ≠ "java/lang/invoke/VarHandle" ∧ (parseMethodDescriptor (mu_mY mj).desc).map (fun d => d.parameters.length) = some (mu_mA mj)) ∧ mu_mL mj ≤ 21
def mu_lnk (own : String) (x : Nat) (mj : mu_M) : Prop := (Jvm.Cond.methodLink own x (mu_mY mj) ∈ lw_tbl ∧ goodWord (Jvm.Cond.methodLink own x (mu_mY mj)) = true) ∨ (own, x, mu_mY mj, "StageFights") ∈ mu_nM
theorem mu_go_callS {x : Nat} {mj : mu_M} {As rest : List Value} {r : Option Value} {g' : mu_H} (hd : decode (mu_mB mi) pc = .ok (.invokestatic x, 3)) (he : mu_cee mj) (hlk : mu_lnk (mu_mY mi).cls x mj) (hs : Jvm.Cond.static (mu_mY mj) ∈ lw_tbl ∧ goodWord (Jvm.Cond.static (mu_mY mj)) = true) (hn : As.length = mu_mA mj) (hsm : (rest.map fun v => v.category).sum ≤ 8)
    (hM : mu_met w mj d As g r g') (hX : mu_X g' ≤ L.1) (hS : mu_S g' ≤ L.2) (k : mu_go w mi (d + 1) L Q (pc + 3) ls (r.toList ++ rest) g') : mu_go w mi (d + 1) L Q pc ls (As.reverse ++ rest) g := by
  intro p l e R s m args below meth c H locs cells slots S0 Qw lsA hc hy hl hret
  obtain ⟨hM1, hM2, hM3⟩ := hM
  obtain ⟨c1, c2, c3, c4⟩ := he
  have hR := hc.2.2.2.2.2.2.2
  have hro : d + 1 ≤ R.frames ∧ 8 + (mu_mL mj + 11) + 40 * d ≤ R.locals := by omega
  have t := fun {x : Jvm.Cond} (h : x ∈ lw_tbl ∧ goodWord x = true) => hc.2.2.2.2.1 x h.1 h.2
  have hf : cells + (mu_X g' - mu_X g) ≤ R.cells ∧ slots + (mu_S g' - mu_S g) ≤ R.slots := by
    obtain ⟨⟨z1, -⟩, -, z2, z3, -⟩ := hy
    omega
  have hp := mu_pre (As := As.map mu_V) hc.2.2.2.2.2.1 hy.1 hy.2.1
  have hst : ((As.reverse ++ rest).map mu_V) = (As.map mu_V).reverse ++ rest.map mu_V := by rw [List.map_append, List.map_reverse]
  have hsz : lsA.size = mu_mL mi := hl.1
  have hsm' : 2 * (F0 m pc lsA ((As.reverse ++ rest).map mu_V)).monitorRoom + ((rest.map mu_V).map fun v => v.category).sum ≤ 8 := lv_room (by rw [mu_cat_map]; exact hsm)
  have hrun : va_Run p l e R s m args below meth c H locs cells slots (mu_X g' - mu_X g) (mu_S g' - mu_S g) (F0 m pc lsA ((As.reverse ++ rest).map mu_V)) (rest.map mu_V) (fun _ oc t => oc = .returned (r.map mu_V) ∧ mu_rep w g' t t.heap ∧ mu_stat w t t.heap) (fun q => w.1 ≤ q) := by
    rcases hlk with hlk | hlk
    · exact va_runS ⟨hc.1, hc.2.1, hc.2.2.1, hc.2.2.2.1, mu_hts hc⟩ (hM3 l) ⟨callB_of (mu_mA mj) (mu_hts hc) (mu_good mj c1) rfl rfl rfl (t c2) (t hlk) c3 hro, t hs⟩ ⟨mu_blind, hp⟩ rfl (by rw [List.length_map]; exact hn) hsz hst hsm' hd hf
    · exact va_runSN ⟨hc.1, hc.2.1, hc.2.2.1, hc.2.2.2.1, mu_hts hc⟩ (hM3 l) ⟨va_cnB (mu_mA mj) (mu_hts hc) (mu_good mj c1) rfl rfl rfl (hc.2.2.2.2.2.1.2.2.1 _ hlk) (t c2) c3 hro, t hs, trivial⟩ ⟨mu_blind, hp⟩ rfl (by rw [List.length_map]; exact hn) hsz hst hsm' hd hf
  refine mu_W_run hrun (fun _ _ _ h => h) hM1 hM2 (by omega) (by omega) hy fun H' locs' hy' => ?_
  have k' := k p l e R s m args below meth c H' locs' _ _ S0 Qw lsA hc hy' hl hret
  rw [List.map_append] at k'
  have er : r.toList.map mu_V = (r.map mu_V).toList := by cases r <;> rfl
  rw [er] at k'
  exact k'
theorem mu_recv {s : State} {H : Heap} {a k0 : Nat} {C : String} (hk : k0 < 13) (hC : mu_own k0 = C) (hK : mu_K w s) (hP : mu_rep w g s H) (ht : mu_T g (a + 1) = k0 + 1) : ∃ cellB : Cell, H[a]? = some cellB ∧ cellB.vm.isStatics = false ∧ s.vm.findClass C = some cellB.cls := by
  by_cases h12 : k0 < 12
  · obtain ⟨-, r, hr, cell, g1, g2, g3, -⟩ := (hP.2.2.2 a).1 k0 h12 ht
    obtain ⟨r', hr', -, hr1, -⟩ := mu_cls h12
    cases hr.symm.trans hr'
    exact ⟨cell, g1, by rw [g3]; rfl, by rw [g2, ← hC, ← hr1]; exact (hK.1.1 k0 r hr).2.1⟩
  · have e : k0 = 12 := by omega
    subst e
    obtain ⟨⟨cell, g1, g2, g3, -⟩, -⟩ := (hP.2.2.2 a).2.2 ht
    exact ⟨cell, g1, g2, by rw [← hC]; exact g3⟩
theorem mu_go_callV {x : Nat} {mj : mu_M} {As rest : List Value} {r : Option Value} {g' : mu_H} {a : Nat} (hd : decode (mu_mB mi) pc = .ok (.invokevirtual x, 3)) (he : mu_cee mj) (hlk : Jvm.Cond.methodLink (mu_mY mi).cls x (mu_mY mj) ∈ lw_tbl ∧ goodWord (Jvm.Cond.methodLink (mu_mY mi).cls x (mu_mY mj)) = true) (hs : Jvm.Cond.instanceMethod (mu_mY mj) ∈ lw_tbl ∧ goodWord (Jvm.Cond.instanceMethod (mu_mY mj)) = true) (hse : Jvm.Cond.selects (mu_mY mj).cls (mu_mY mj) (mu_mY mj) ∈ lw_tbl ∧ goodWord (Jvm.Cond.selects (mu_mY mj).cls (mu_mY mj) (mu_mY mj)) = true) (hk13 : mu_mK mj < 13) (hown : mu_own (mu_mK mj) = (mu_mY mj).cls)
    (ht : mu_T g a = mu_mK mj + 1) (hn : As.length = mu_mA mj) (hsm : (rest.map fun v => v.category).sum ≤ 8)
    (hM : mu_met w mj d (.ref a :: As) g r g') (hX : mu_X g' ≤ L.1) (hS : mu_S g' ≤ L.2) (k : mu_go w mi (d + 1) L Q (pc + 3) ls (r.toList ++ rest) g') : mu_go w mi (d + 1) L Q pc ls (As.reverse ++ .ref a :: rest) g := by
  intro p l e R s m args below meth c H locs cells slots S0 Qw lsA hc hy hl hret
  obtain ⟨a, rfl⟩ := mu_succ hy.1 ht
  obtain ⟨hM1, hM2, hM3⟩ := hM
  obtain ⟨c1, c2, c3, c4⟩ := he
  have hR := hc.2.2.2.2.2.2.2
  have hro : d + 1 ≤ R.frames ∧ 8 + (mu_mL mj + 11) + 40 * d ≤ R.locals := by omega
  have t := fun {x : Jvm.Cond} (h : x ∈ lw_tbl ∧ goodWord x = true) => hc.2.2.2.2.1 x h.1 h.2
  have hf : cells + (mu_X g' - mu_X g) ≤ R.cells ∧ slots + (mu_S g' - mu_S g) ≤ R.slots := by
    obtain ⟨⟨z1, -⟩, -, z2, z3, -⟩ := hy
    omega
  have hp := mu_pre (As := (Value.ref (a + 1) :: As).map mu_V) hc.2.2.2.2.2.1 hy.1 hy.2.1
  have hst : ((As.reverse ++ .ref (a + 1) :: rest).map mu_V) = (As.map mu_V).reverse ++ .ref a :: rest.map mu_V := by rw [List.map_append, List.map_reverse]; rfl
  have hsz : lsA.size = mu_mL mi := hl.1
  have hsm' : 2 * (F0 m pc lsA ((As.reverse ++ .ref (a + 1) :: rest).map mu_V)).monitorRoom + ((rest.map mu_V).map fun v => v.category).sum ≤ 8 := lv_room (by rw [mu_cat_map]; exact hsm)
  have hrun : va_Run p l e R s m args below meth c H locs cells slots (mu_X g' - mu_X g) (mu_S g' - mu_S g) (F0 m pc lsA ((As.reverse ++ .ref (a + 1) :: rest).map mu_V)) (rest.map mu_V) (fun _ oc t => oc = .returned (r.map mu_V) ∧ mu_rep w g' t t.heap ∧ mu_stat w t t.heap) (fun q => w.1 ≤ q) :=
    va_runV (C := (mu_mY mj).cls) ⟨hc.1, hc.2.1, hc.2.2.1, hc.2.2.2.1, mu_hts hc⟩ (hM3 l) ⟨callB_of (mu_mA mj) (mu_hts hc) (mu_good mj c1) rfl rfl rfl (t c2) (t hlk) c3 hro, t hs, t hse⟩ ⟨mu_blind, mu_recv hk13 hown hc.2.2.2.2.2.1 hy.1 ht, hp⟩ rfl (by rw [List.length_map]; exact hn) hsz hst hsm' hd hf
  refine mu_W_run hrun (fun _ _ _ h => h) hM1 hM2 (by omega) (by omega) hy fun H' locs' hy' => ?_
  have k' := k p l e R s m args below meth c H' locs' _ _ S0 Qw lsA hc hy' hl hret
  rw [List.map_append] at k'
  have er : r.toList.map mu_V = (r.map mu_V).toList := by cases r <;> rfl
  rw [er] at k'
  exact k'
theorem mu_go_callI {x : Nat} {mj : mu_M} {As rest : List Value} {r : Option Value} {g' : mu_H} {a : Nat} (hd : decode (mu_mB mi) pc = .ok (.invokespecial x, 3)) (he : mu_cee mj) (hlk : mu_lnk (mu_mY mi).cls x mj) (hs : Jvm.Cond.instanceMethod (mu_mY mj) ∈ lw_tbl ∧ goodWord (Jvm.Cond.instanceMethod (mu_mY mj)) = true) (hin : (mu_mY mj).name = "<init>") (hvoid : mu_mR mj = none) (ha : ¬ a = 0) (hn : As.length = mu_mA mj) (hsm : (rest.map fun v => v.category).sum ≤ 8)
    (hM : mu_met w mj d (.ref a :: As) g r g') (hX : mu_X g' ≤ L.1) (hS : mu_S g' ≤ L.2) (k : mu_go w mi (d + 1) L Q (pc + 3) ls (r.toList ++ rest) g') : mu_go w mi (d + 1) L Q pc ls (As.reverse ++ .ref a :: rest) g := by
  intro p l e R s m args below meth c H locs cells slots S0 Qw lsA hc hy hl hret
  obtain ⟨a, rfl⟩ := Nat.exists_eq_succ_of_ne_zero ha
  obtain ⟨hM1, hM2, hM3⟩ := hM
  obtain ⟨c1, c2, c3, c4⟩ := he
  have hR := hc.2.2.2.2.2.2.2
  have hro : d + 1 ≤ R.frames ∧ 8 + (mu_mL mj + 11) + 40 * d ≤ R.locals := by omega
  have t := fun {x : Jvm.Cond} (h : x ∈ lw_tbl ∧ goodWord x = true) => hc.2.2.2.2.1 x h.1 h.2
  have hf : cells + (mu_X g' - mu_X g) ≤ R.cells ∧ slots + (mu_S g' - mu_S g) ≤ R.slots := by
    obtain ⟨⟨z1, -⟩, -, z2, z3, -⟩ := hy
    omega
  have hp := mu_pre (As := (Value.ref (a + 1) :: As).map mu_V) hc.2.2.2.2.2.1 hy.1 hy.2.1
  have hst : ((As.reverse ++ .ref (a + 1) :: rest).map mu_V) = (As.map mu_V).reverse ++ .ref a :: rest.map mu_V := by rw [List.map_append, List.map_reverse]; rfl
  have hsz : lsA.size = mu_mL mi := hl.1
  have hsm' : 2 * (F0 m pc lsA ((As.reverse ++ .ref (a + 1) :: rest).map mu_V)).monitorRoom + ((rest.map mu_V).map fun v => v.category).sum ≤ 8 := lv_room (by rw [mu_cat_map]; exact hsm)
  have hws : mu_ws mj = .code (mu_mY mj) (mu_mB mj) (mu_mL mj) none :: lw_tbl.filter goodWord := by unfold mu_ws; rw [hvoid]
  have hrun : va_Run p l e R s m args below meth c H locs cells slots (mu_X g' - mu_X g) (mu_S g' - mu_S g) (F0 m pc lsA ((As.reverse ++ .ref (a + 1) :: rest).map mu_V)) (rest.map mu_V) (fun _ oc t => oc = .returned (r.map mu_V) ∧ mu_rep w g' t t.heap ∧ mu_stat w t t.heap) (fun q => w.1 ≤ q) := by
    rcases hlk with hlk | hlk
    · exact va_runI ⟨hc.1, hc.2.1, hc.2.2.1, hc.2.2.2.1, mu_hts hc⟩ (hM3 l) ⟨callB_of (mu_mA mj) (mu_hts hc) (mu_good mj c1) hws rfl rfl (t c2) (t hlk) c3 hro, hin, t hs⟩ ⟨mu_blind, hp⟩ rfl (by rw [List.length_map]; exact hn) hsz hst hsm' hd hf
    · exact va_runIN ⟨hc.1, hc.2.1, hc.2.2.1, hc.2.2.2.1, mu_hts hc⟩ (hM3 l) ⟨va_cnB (mu_mA mj) (mu_hts hc) (mu_good mj c1) hws rfl rfl (hc.2.2.2.2.2.1.2.2.1 _ hlk) (t c2) c3 hro, hin, t hs⟩ ⟨mu_blind, hp⟩ rfl (by rw [List.length_map]; exact hn) hsz hst hsm' hd hf
  refine mu_W_run hrun (fun _ _ _ h => h) hM1 hM2 (by omega) (by omega) hy fun H' locs' hy' => ?_
  have k' := k p l e R s m args below meth c H' locs' _ _ S0 Qw lsA hc hy' hl hret
  rw [List.map_append] at k'
  have er : r.toList.map mu_V = (r.map mu_V).toList := by cases r <;> rfl
  rw [er] at k'
  exact k'
/-- a contract out of a walk from the entry -/
theorem mu_met_of {As : List Value} {r : Option Value} {g' : mu_H} (hok : plainName (mu_mY mi).cls = true) (hlen : (lg_sl (As.map mu_V)).length ≤ mu_mL mi) (hent : ∀ lsA : Array Slot, lv_has lsA (mu_mL mi) (lv_args 0 (As.map mu_V)) → lv_has lsA (mu_mL mi) (mu_lv 0 ls)) (hX : mu_X g ≤ mu_X g') (hS : mu_S g ≤ mu_S g')
    (k : mu_go w mi d (mu_X g', mu_S g') (fun r' g'' => r' = r ∧ g'' = g') 0 ls [] g) : mu_met w mi d As g r g' := by
  refine ⟨hX, hS, fun l => ?_⟩
  refine Met.ofW (cc := mu_mB mi) (maxL := mu_mL mi) (ret := mu_mR mi) hok rfl ?_
  intro p e s m args below meth c s₁ B hml hv
  obtain ⟨rfl, hK, hP, hZ⟩ := hv
  have hts := atoms_spec (ws := mu_ws mi) B.pre
  have hlocks := B.notSynchronized
  have hl := hent _ (lv_entry (As.map mu_V) hlen)
  rw [lg_entry_eq]
  have hsz := hP.1
  refine k p l e _ s m _ below meth c s.heap [] 0 0 (mu_S g) _ _ ⟨B.exec, B.bytes, hml, findClass_of_methodNamed B.named, fun x hx hg => hts x (List.mem_cons_of_mem _ (List.mem_filter.mpr ⟨hx, hg⟩)), hK, (name_of_methodNamed B.named B.method).1, Nat.le_refl _, Nat.le_refl _, ?_, ?_⟩ ⟨hP, hZ, rfl, rfl, (fun _ h => by cases h), Nat.zero_le _, Nat.zero_le _⟩ hl ?_
  · show mu_X g' = s.heap.size + 1 + (mu_X g' - mu_X g); omega
  · show mu_S g' = mu_S g + (mu_S g' - mu_S g); omega
  · intro r' g'' H' locs' cells' slots' pc' ls' hq hy hret
    obtain ⟨rfl, rfl⟩ := hq
    obtain ⟨hP', hZ', z1, z2, z3, -, -⟩ := hy
    have z4 := hP'.1
    have e1 : cells' = mu_X g'' - mu_X g := by omega
    have e2 : slots' = mu_S g'' - mu_S g := by omega
    subst e1; subst e2
    have hpost : ∀ t : State, t.heap = H' → s.WarmedH t.vm → mu_rep w g'' t t.heap ∧ mu_stat w t t.heap := by
      intro t ht hW
      subst ht
      exact ⟨mu_rep_moved hW.alike hP', mu_stat_moved hW.alike hZ'⟩
    cases r' with
    | none =>
      exact W.vret B.exec B.bytes (B.returns.trans hret.1) (fun t ht hW => ⟨rfl, hpost t ht hW⟩) z3 hret.2
    | some v =>
      cases v with
      | int v =>
        obtain ⟨ty, h1, h2, h3⟩ := hret
        exact W.zret B.exec B.bytes (B.returns.trans h1) h2 (fun t ht hW => ⟨rfl, hpost t ht hW⟩) z3 h3
      | ref a =>
        obtain ⟨rt, h1, h2, h3⟩ := hret
        exact W.aret B.exec B.bytes (B.returns.trans h1) h2 (by cases a with | zero => exact Or.inl rfl | succ a => exact Or.inr ⟨a, rfl⟩) (fun t ht hW => ⟨rfl, hpost t ht hW⟩) z3 h3
      | _ => exact hret.elim
end Mu12
end
section
/-! OWN SMALL MACHINE, PART 11: System.arraycopy between own rows of ints or bytes -/
section Mu13
variable {w : mu_O} {mi : mu_M} {d : Nat} {L : Nat × Nat} {Q : Option Value → mu_H → Prop} {pc : Nat} {ls : List (Option Value)} {st : List Value} {g : mu_H}
theorem mu_nn0 (z : Int32) (h : 0 ≤ z.toInt) : ¬ z < 0 ∧ z.toInt = (z.toNatClampNeg : Int) := by
  refine ⟨fun hz => ?_, ?_⟩
  · have := Int32.lt_iff_toInt_lt.mp hz
    have e : (0 : Int32).toInt = 0 := rfl
    omega
  · show z.toInt = ((z.toInt.toNat : Nat) : Int)
    omega
theorem mu_go_copy {x a b q : Nat} {sp dp n : Int32} (hq : q < 2) (hd : decode (mu_mB mi) pc = .ok (.invokestatic x, 3)) (hw : Jvm.Cond.methodLink (mu_mY mi).cls x arraycopyName ∈ lw_tbl ∧ goodWord (Jvm.Cond.methodLink (mu_mY mi).cls x arraycopyName) = true) (hs : (st.map fun v => v.category).sum ≤ 8) (h0 : 0 < d)
    (hwa : w.1 < a) (hwb : w.1 < b) (ta : mu_T g a = 20 + q) (tb : mu_T g b = 20 + q) (h1 : 0 ≤ sp.toInt) (h2 : 0 ≤ dp.toInt) (h3 : 0 ≤ n.toInt) (h4 : sp.toInt + n.toInt ≤ (mu_N g a : Int)) (h5 : dp.toInt + n.toInt ≤ (mu_N g b : Int))
    (k : mu_go w mi d L Q (pc + 3) ls st (mu_sC g a sp.toNatClampNeg b dp.toNatClampNeg n.toNatClampNeg)) : mu_go w mi d L Q pc ls (.int n :: .int dp :: .ref b :: .int sp :: .ref a :: st) g := by
  intro p l e R s m args below meth cd H locs cells slots S0 Qw lsA hc hy hl hret
  obtain ⟨a, rfl⟩ := mu_succ (a := a) (t := 19 + q) hy.1 (by omega)
  obtain ⟨b, rfl⟩ := mu_succ (a := b) (t := 19 + q) hy.1 (by omega)
  have hwa : w.1 ≤ a := by omega
  have hwb : w.1 ≤ b := by omega
  obtain ⟨s1, s2⟩ := mu_nn0 sp h1
  obtain ⟨d1, d2⟩ := mu_nn0 dp h2
  obtain ⟨n1, n2⟩ := mu_nn0 n h3
  have hvA : ∀ c : Nat, (fun j => mu_V (mu_Av g q c j)) = (fun j => Value.int (mu_I g c j)) := by
    intro c
    rcases (show q = 0 ∨ q = 1 by omega) with rfl | rfl <;> rfl
  have hca := ((hy.1.2.2.2 a).2.1 q (by omega) ta).1 hwa
  have hcb := ((hy.1.2.2.2 b).2.1 q (by omega) tb).1 hwb
  rw [hvA] at hca hcb
  have h := mu_kW
  unfold mu_ckW at h
  simp only [Bool.and_eq_true] at h
  obtain ⟨⟨⟨⟨⟨⟨⟨-, w8⟩, w9⟩, w10⟩, -⟩, -⟩, -⟩, -⟩ := h
  have t := fun {i : Nat} {x : Jvm.Cond} (h : mu_w i x = true) => hc.2.2.2.2.1 x (mu_w_e h).1 (mu_w_e h).2
  have hR := hc.2.2.2.2.2.2.2
  have hcat := mu_cat_map st
  have htys := (hc.2.2.2.2.2.1.1.2 q _ (mu_tys_at w (by omega))).1
  have hfit : ∀ i, i < n.toNatClampNeg → fits (mu_AE q) (.int (mu_I g (a + 1) (sp.toNatClampNeg + i))) = true := by
    intro i hi
    rcases (show q = 0 ∨ q = 1 by omega) with rfl | rfl
    · rfl
    · exact hca.2 rfl _ (by omega)
  have hprim : refKind (mu_AE q) = false := by
    rcases (show q = 0 ∨ q = 1 by omega) with rfl | rfl <;> rfl
  intro T hT X
  obtain ⟨-, k0, hk0, cm0, hkk0⟩ := htys (mu_N g (a + 1)) (fun j => .int (mu_I g (a + 1) j))
  obtain ⟨-, k1, hk1, cm1, hkk1⟩ := htys (mu_N g (b + 1)) (fun j => .int (mu_I g (b + 1) j))
  obtain ⟨vm', X', step⟩ := X.arraycopy hc.1 hc.2.2.2.1 (hc.2.2.2.2.1 _ hw.1 hw.2) (t w8) (t w9) (t w10) (src := a) (dst := b) (cs := arrV (w.2.2.2.1 q) (mu_N g (a + 1)) (fun j => .int (mu_I g (a + 1) j))) (cd := arrV (w.2.2.2.1 q) (mu_N g (b + 1)) (fun j => .int (mu_I g (b + 1) j))) (srcPos := sp) (destPos := dp) (n := n) (by rw [hT]; exact hca.1) (by rw [hT]; exact hcb.1)
    (fun _ h => by cases h) (fun _ h => by cases h) (fun h => by cases h) (fun h => by cases h) hk0 hk1 hkk0 hkk1 (by simp [hprim]) s1 d1 n1
    (by rw [arrV_size]; omega)
    (by rw [arrV_size]; omega)
    (fun vm₁ _ i hi => by
      have e : (arrV (w.2.2.2.1 q) (mu_N g (a + 1)) (fun j => .int (mu_I g (a + 1) j))).slots.getD (sp.toNatClampNeg + i) .null = .int (mu_I g (a + 1) (sp.toNatClampNeg + i)) := by
        rw [Array.getD_eq_getD_getElem?, arrV_read _ _ (by omega)]
        rfl
      refine ⟨?_, ?_⟩
      · rw [e]
        exact hfit i hi
      · rw [e]
        exact trivial)
    (g := F0 m pc lsA (.int n :: .int dp :: .ref b :: .int sp :: .ref a :: st.map mu_V)) rfl (hl.1.trans hc.2.2.1.symm) (rest := st.map mu_V) rfl (by rw [hc.2.1]; exact hd) (by omega) (by show 2 * 0 + _ + (5 + 2 + 11) ≤ _; omega)
  have e1 : copied (arrV (w.2.2.2.1 q) (mu_N g (a + 1)) (fun j => .int (mu_I g (a + 1) j))) (arrV (w.2.2.2.1 q) (mu_N g (b + 1)) (fun j => .int (mu_I g (b + 1) j))) sp dp n = arrV (w.2.2.2.1 q) (mu_N g (b + 1)) (fun j => .int (va_cpy (mu_I g (a + 1)) (mu_I g (b + 1)) sp.toNatClampNeg dp.toNatClampNeg n.toNatClampNeg j)) := va_copied (fun z => .int z) _ _ _ _ (by omega)
  rw [e1] at X' step
  have hlb : b < H.size := (Array.getElem?_eq_some_iff.mp hcb.1).1
  generalize hcell : arrV (w.2.2.2.1 q) (mu_N g (b + 1)) (fun j => Value.int (va_cpy (mu_I g (a + 1)) (mu_I g (b + 1)) sp.toNatClampNeg dp.toNatClampNeg n.toNatClampNeg j)) = cell at X' step
  have hheap : ((T.setVm vm').setCell b cell).heap = H.setIfInBounds b cell := by rw [← hT]; rfl
  have z1 : (H.setIfInBounds b cell)[b]? = some cell := by simp [Array.getElem?_setIfInBounds, hlb]
  have z2 : (H.setIfInBounds b cell).size = H.size := by simp
  have z3 : ∀ q : Nat, q ≠ b → (H.setIfInBounds b cell)[q]? = H[q]? := fun q hq => by simp [Array.getElem?_setIfInBounds, Ne.symm hq]
  have eI : ∀ j, mu_I (mu_sC g (a + 1) sp.toNatClampNeg (b + 1) dp.toNatClampNeg n.toNatClampNeg) (b + 1) j = va_cpy (mu_I g (a + 1)) (mu_I g (b + 1)) sp.toNatClampNeg dp.toNatClampNeg n.toNatClampNeg j := by
    intro j
    show (if b + 1 = b + 1 ∧ (dp.toNatClampNeg ≤ j ∧ j < dp.toNatClampNeg + n.toNatClampNeg) then _ else _) = if _ then _ else _
    by_cases hj : dp.toNatClampNeg ≤ j ∧ j < dp.toNatClampNeg + n.toNatClampNeg
    · rw [if_pos ⟨rfl, hj⟩, if_pos hj]
    · rw [if_neg (fun h => hj h.2), if_neg hj]
  have eO : ∀ x y, x ≠ b + 1 → mu_I (mu_sC g (a + 1) sp.toNatClampNeg (b + 1) dp.toNatClampNeg n.toNatClampNeg) x y = mu_I g x y := fun x y h => if_neg (fun q => h q.1)
  have hrep : mu_rep w (mu_sC g (a + 1) sp.toNatClampNeg (b + 1) dp.toNatClampNeg n.toNatClampNeg) s (H.setIfInBounds b cell) := by
    obtain ⟨r1, r2, r3, r4⟩ := hy.1
    refine ⟨by rw [z2]; exact r1, by rw [z2]; exact r2, r3, fun y => ?_⟩
    by_cases hyb : y = b
    · subst hyb
      have eT : mu_T (mu_sC g (a + 1) sp.toNatClampNeg (y + 1) dp.toNatClampNeg n.toNatClampNeg) (y + 1) = 20 + q := tb
      refine ⟨fun c' hc' ht' => ?_, fun q' hq' ht' => ?_, fun ht' => ?_⟩
      · rw [eT] at ht'; omega
      · rw [eT] at ht'
        have : q' = q := by omega
        subst this
        refine ⟨fun _ => ⟨?_, fun hq1 j hj => ?_⟩, fun h => absurd hwb h⟩
        · have ef : (fun j => Value.int (va_cpy (mu_I g (a + 1)) (mu_I g (y + 1)) sp.toNatClampNeg dp.toNatClampNeg n.toNatClampNeg j)) = (fun j => mu_V (mu_Av (mu_sC g (a + 1) sp.toNatClampNeg (y + 1) dp.toNatClampNeg n.toNatClampNeg) q' (y + 1) j)) := by
            funext j
            rw [← eI]
            rcases (show q' = 0 ∨ q' = 1 by omega) with rfl | rfl <;> rfl
          rw [z1, ← hcell, ef]
          rfl
        · rw [eI]
          unfold va_cpy
          split
          · subst hq1
            exact hfit _ (by omega)
          · exact hcb.2 hq1 j hj
      · rw [eT] at ht'; omega
    · exact mu_cell_kept (r4 y) (z3 y hyb) rfl rfl (fun j => eO _ j (by omega)) (fun _ => rfl)
  have hk := k p l e R s m args below meth cd (H.setIfInBounds b cell) _ cells slots S0 Qw lsA hc ⟨hrep, mu_stat_kept hy.2.1 (fun q _ hq => z3 q (fun h => hq (by rw [h]; exact hwb))), by rw [z2]; exact hy.2.2.1, hy.2.2.2.1, fun q hq => ?_, hy.2.2.2.2.2⟩ hl hret _ hheap X'
  · obtain ⟨t2, a1, b1⟩ := hk
    exact ⟨t2, step t2 a1, b1⟩
  · rcases List.mem_append.mp hq with h | h
    · exact hy.2.2.2.2.1 q h
    · obtain ⟨z, -, hz⟩ := List.mem_map.mp h
      rw [← hz]
      exact hwb
end Mu13
end
section
/-! OWN SMALL MACHINE, PART 12: a step is walked as it should; so is a walk of many -/
section Mu14
variable {w : mu_O} {mi : mu_M} {d : Nat} {L : Nat × Nat} {Q : Option Value → mu_H → Prop} {pc : Nat} {ls : List (Option Value)} {st : List Value} {g : mu_H}
theorem mu_ok_e (hm : mu_ok mi = true) : mu_mK mi < 18 ∧ mu_own (mu_mK mi) = (mu_mY mi).cls ∧ mu_mL mi ≤ 21 ∧ plainName (mu_mY mi).cls = true ∧ ∀ q ∈ mu_mC mi, mu_okI mi q = true := by
  unfold mu_ok at hm
  simp only [Bool.and_eq_true] at hm
  obtain ⟨⟨⟨⟨h1, h2⟩, h3⟩, h4⟩, h5⟩ := hm
  exact ⟨Nat.le_of_ble_eq_true h1, of_decide_eq_true h2, Nat.le_of_ble_eq_true h3, h4, fun q hq => List.all_eq_true.mp h5 q hq⟩
theorem mu_okI_e {i : Instr} {n : Nat} (hm : mu_ok mi = true) (hat : mu_at (mu_mC mi) pc = some (i, n)) : decode (mu_mB mi) pc = .ok (i, n) ∧ n = mu_len n i ∧ mu_okA mi pc i = true := by
  have h := (mu_ok_e hm).2.2.2.2 _ (mu_at_mem hat)
  unfold mu_okI at h
  simp only [Bool.and_eq_true] at h
  exact ⟨of_decide_eq_true h.1.1, Nat.eq_of_beq_eq_true h.1.2, h.2⟩
theorem mu_ckM_e {c x : Nat} {mj : mu_M} {kd : Nat} {ne : Bool} {is : List Nat} (hc : c < 18) (h : mu_look (mu_pM c) x = some (mj, kd, ne, is)) : mu_cee mj ∧ mu_lnk (mu_own c) x mj ∧ (ne = false → Jvm.Cond.methodLink (mu_own c) x (mu_mY mj) ∈ lw_tbl ∧ goodWord (Jvm.Cond.methodLink (mu_own c) x (mu_mY mj)) = true) ∧
    (kd = 0 → Jvm.Cond.static (mu_mY mj) ∈ lw_tbl ∧ goodWord (Jvm.Cond.static (mu_mY mj)) = true) ∧
    (kd = 1 → (Jvm.Cond.methodLink (mu_own c) x (mu_mY mj) ∈ lw_tbl ∧ goodWord (Jvm.Cond.methodLink (mu_own c) x (mu_mY mj)) = true) ∧ (Jvm.Cond.instanceMethod (mu_mY mj) ∈ lw_tbl ∧ goodWord (Jvm.Cond.instanceMethod (mu_mY mj)) = true) ∧ (Jvm.Cond.selects (mu_mY mj).cls (mu_mY mj) (mu_mY mj) ∈ lw_tbl ∧ goodWord (Jvm.Cond.selects (mu_mY mj).cls (mu_mY mj) (mu_mY mj)) = true) ∧ mu_mK mj < 13 ∧ mu_own (mu_mK mj) = (mu_mY mj).cls) ∧
    (kd = 2 → (Jvm.Cond.instanceMethod (mu_mY mj) ∈ lw_tbl ∧ goodWord (Jvm.Cond.instanceMethod (mu_mY mj)) = true) ∧ (mu_mY mj).name = "<init>" ∧ mu_mR mj = none) := by
  have h1 := mu_k_of mu_kM hc (mu_look_mem h)
  unfold mu_ckM at h1
  simp only [Bool.and_eq_true] at h1
  obtain ⟨⟨⟨⟨⟨⟨⟨i1, i2⟩, i3⟩, i4⟩, i5⟩, i6⟩, i7⟩, i8⟩ := h1
  refine ⟨⟨mu_w_e i2, mu_w_e i3, ⟨of_decide_eq_true i5, of_decide_eq_true i6, of_decide_eq_true i7⟩, Nat.le_of_ble_eq_true i8⟩, ?_, ?_, ?_, ?_, ?_⟩
  · cases ne with
    | false => exact Or.inl (mu_w_e i1)
    | true => exact Or.inr (List.mem_of_getElem? (of_decide_eq_true i1))
  · intro e; subst e; exact mu_w_e i1
  · intro e; subst e; exact mu_w_e i4
  · intro e; subst e
    simp only [Bool.and_eq_true] at i4
    have hne : ne = false := by
      cases ne with
      | false => rfl
      | true => cases i4.1.1.1.1
    subst hne
    exact ⟨mu_w_e i1, mu_w_e i4.1.1.1.2, mu_w_e i4.1.1.2, Nat.le_of_ble_eq_true i4.1.2, of_decide_eq_true i4.2⟩
  · intro e; subst e
    simp only [Bool.and_eq_true] at i4
    refine ⟨mu_w_e i4.1.1, of_decide_eq_true i4.1.2, ?_⟩
    cases hR : mu_mR mj with
    | none => rfl
    | some t => rw [hR] at i4; cases i4.2
theorem mu_call_e {mj : mu_M} {As rest : List Value} {K : List Value → mu_H → Prop} (h : mu_call w mj d L As rest g K) : ∃ (d' : Nat) (r : Option Value) (g' : mu_H), d = d' + 1 ∧ mu_met w mj d' As g r g' ∧ mu_X g' ≤ L.1 ∧ mu_S g' ≤ L.2 ∧ K (r.toList ++ rest) g' := by
  cases d with
  | zero => exact h.elim
  | succ d =>
    unfold mu_call at h
    dsimp only at h
    split at h
    · obtain ⟨g', h1, h2, h3, h4⟩ := h
      exact ⟨d, none, g', rfl, h1, h2, h3, h4⟩
    · obtain ⟨x, g', h1, h2, h3, h4⟩ := h
      exact ⟨d, some (.ref x), g', rfl, h1, h2, h3, h4⟩
    · obtain ⟨x, g', h1, h2, h3, h4⟩ := h
      exact ⟨d, some (.ref x), g', rfl, h1, h2, h3, h4⟩
    · obtain ⟨x, g', h1, h2, h3, h4⟩ := h
      exact ⟨d, some (.int x), g', rfl, h1, h2, h3, h4⟩
theorem mu_go_bin {st' : List Value} {x y : Int32} (k : mu_go w mi d L Q (pc + 1) ls st' g) (h : ∀ (p : Program) (l : Launch) (e : Env) (R : Room) (s : State) (m : MethodId) (args : Array Value) (below : List Frame) (meth : Method) (c : Code) (H : Heap) (locs : List Loc) (cells slots : Nat) (Qw : State → Prop) (lsA : Array Slot),
    p.tables.exec = Jvm.exec → c.code = mu_mB mi → W p l e R s m args below meth c H locs cells slots Qw (F0 m (pc + 1) lsA (st'.map mu_V)) → W p l e R s m args below meth c H locs cells slots Qw (F0 m pc lsA (.int y :: .int x :: st.map mu_V))) : mu_go w mi d L Q pc ls (.int y :: .int x :: st) g :=
  mu_lift (fun p l e R s m args below meth c H locs cells slots S0 Qw lsA hc _ _ k => h p l e R s m args below meth c H locs cells slots Qw lsA hc.1 hc.2.1 k) k
theorem mu_rI_e {t : Option FieldType} {x : Int32} {P : Prop} (h : mu_rI t x P) : (∃ ty, t = some ty ∧ narrow ty (.int x) = .int x) ∧ P := by
  unfold mu_rI at h
  split at h
  · exact ⟨⟨_, rfl, rfl⟩, h⟩
  · refine ⟨⟨_, rfl, ?_⟩, h.2⟩
    rcases h.1 with rfl | rfl <;> rfl
  · exact ⟨⟨_, rfl, h.1⟩, h.2⟩
  · exact h.elim
theorem mu_go_ireturn {x : Int32} (hd : decode (mu_mB mi) pc = .ok (.ireturn, 1)) (h : (∃ ty, mu_mR mi = some ty ∧ narrow ty (.int x) = .int x) ∧ Q (some (.int x)) g) : mu_go w mi d L Q pc ls [.int x] g := by
  intro p l e R s m args below meth c H locs cells slots S0 Qw lsA hc hy hl hret
  obtain ⟨⟨ty, h1, h2⟩, h3⟩ := h
  exact hret (some (.int x)) g H locs cells slots pc lsA h3 hy ⟨ty, h1, h2, hd⟩
theorem mu_go_areturn {a : Nat} (hd : decode (mu_mB mi) pc = .ok (.areturn, 1)) (ho : mu_okA mi pc .areturn = true) (h : Q (some (.ref a)) g) : mu_go w mi d L Q pc ls [.ref a] g := by
  intro p l e R s m args below meth c H locs cells slots S0 Qw lsA hc hy hl hret
  refine hret (some (.ref a)) g H locs cells slots pc lsA h hy ?_
  unfold mu_okA at ho
  dsimp only at ho
  split at ho
  · rename_i h1; exact ⟨_, h1, Or.inl ⟨_, rfl⟩, hd⟩
  · rename_i h1; exact ⟨_, h1, Or.inr ⟨_, rfl⟩, hd⟩
  · cases ho
theorem mu_go_return (hd : decode (mu_mB mi) pc = .ok (.return_, 1)) (ho : mu_okA mi pc .return_ = true) (h : Q none g) : mu_go w mi d L Q pc ls [] g := by
  intro p l e R s m args below meth c H locs cells slots S0 Qw lsA hc hy hl hret
  refine hret none g H locs cells slots pc lsA h hy ⟨?_, hd⟩
  cases hR : mu_mR mi with
  | none => rfl
  | some t =>
    have ho : (mu_mR mi).isNone = true := ho
    rw [hR] at ho; cases ho
theorem mu_ckF_e {c x cc f wi : Nat} (hc : c < 18) (h : mu_look (mu_pF c) x = some (cc, f, wi)) : (cc < 12 ∧ ∃ r, vwCl[cc]? = some r ∧ f < r.2.2 ∧ (Jvm.Cond.fieldLink (mu_own c) x (r.2.1 f).1 (r.2.1 f).2.1 (r.2.1 f).2.2.1 ∈ lw_tbl ∧ goodWord (Jvm.Cond.fieldLink (mu_own c) x (r.2.1 f).1 (r.2.1 f).2.1 (r.2.1 f).2.2.1) = true)) ∨
    (cc = 12 ∧ ∃ n0 d0, ((f = 0 ∧ n0 = "value" ∧ d0 = "[B") ∨ (f = 1 ∧ n0 = "coder" ∧ d0 = "B")) ∧ (Jvm.Cond.fieldLink (mu_own c) x "java/lang/String" n0 d0 ∈ lw_tbl ∧ goodWord (Jvm.Cond.fieldLink (mu_own c) x "java/lang/String" n0 d0) = true)) := by
  have h1 := mu_k_of mu_kF hc (mu_look_mem h)
  unfold mu_ckF at h1
  dsimp only at h1
  split at h1
  · rename_i r hr
    simp only [Bool.and_eq_true] at h1
    exact Or.inl ⟨Nat.le_of_ble_eq_true h1.1.1, r, hr, Nat.le_of_ble_eq_true h1.1.2, mu_w_e h1.2⟩
  · simp only [Bool.and_eq_true, Bool.or_eq_true] at h1
    refine Or.inr ⟨Nat.eq_of_beq_eq_true h1.1, ?_⟩
    rcases h1.2 with h2 | h2
    · exact ⟨_, _, Or.inl ⟨Nat.eq_of_beq_eq_true h2.1, rfl, rfl⟩, mu_w_e h2.2⟩
    · exact ⟨_, _, Or.inr ⟨Nat.eq_of_beq_eq_true h2.1, rfl, rfl⟩, mu_w_e h2.2⟩
theorem mu_kd_e {c x k kd : Nat} {mj : mu_M} {r : Bool × List Nat} (h : mu_kd c x k = true) (hl : mu_look (mu_pM c) x = some (mj, kd, r)) : kd = k := by
  unfold mu_kd at h
  rw [hl] at h
  exact Nat.eq_of_beq_eq_true h
end Mu14
end
section
/-! OWN SMALL MACHINE, PART 13: soundness -/
section Mu15
variable {w : mu_O} {mi : mu_M} {d : Nat} {L : Nat × Nat} {Q : Option Value → mu_H → Prop} {pc : Nat} {ls : List (Option Value)} {st : List Value} {g : mu_H}
set_option maxHeartbeats 4000000 in
set_option maxRecDepth 100000 in
theorem mu_step_sound {i : Instr} {n : Nat} {K : mu_C} (hm : mu_ok mi = true) (hat : mu_at (mu_mC mi) pc = some (i, n)) (h : mu_step w mi d L Q i n K pc ls st g) (hK : ∀ pc' ls' st' g', K pc' ls' st' g' → mu_go w mi d L Q pc' ls' st' g') : mu_go w mi d L Q pc ls st g := by
  obtain ⟨hd, hn, ha⟩ := mu_okI_e hm hat
  obtain ⟨k18, kown, -, -, -⟩ := mu_ok_e hm
  cases i
  case iconst v =>
    have hn : n = 1 := hn
    subst hn
    exact mu_go_iconst hd (hK _ _ _ _ h)
  case bipush v =>
    have hn : n = 2 := hn
    subst hn
    exact mu_go_bipush hd (of_decide_eq_true ha) (hK _ _ _ _ h)
  case sipush v =>
    have hn : n = 3 := hn
    subst hn
    exact mu_go_sipush hd (of_decide_eq_true ha) (hK _ _ _ _ h)
  case lconst v =>
    have hn : n = 1 := hn
    subst hn
    exact mu_go_lconst hd (hK _ _ _ _ h)
  case aconst_null =>
    have hn : n = 1 := hn
    subst hn
    exact mu_go_null hd (hK _ _ _ _ h)
  case ldc x =>
    have hn : n = 2 := hn
    subst hn
    unfold mu_step at h
    dsimp only at h
    split at h
    · rename_i v wi hl
      have h1 := mu_k_of mu_kC k18 (mu_look_mem hl)
      unfold mu_ckC at h1
      rw [kown] at h1
      exact mu_go_ldc hd (mu_w_e h1) (hK _ _ _ _ h)
    · rename_i j hl
      have h1 := mu_k_of mu_kC k18 (mu_look_mem hl)
      unfold mu_ckC at h1
      rw [kown] at h1
      dsimp only at h1
      split at h1
      · rename_i q hq
        simp only [Bool.and_eq_true] at h1
        exact mu_go_ldcS hd hq (of_decide_eq_true h1.1) (Nat.eq_of_beq_eq_true h1.2) (hK _ _ _ _ h)
      · cases h1
    · exact h.elim
  case ldc_w x =>
    have hn : n = 3 := hn
    subst hn
    unfold mu_step at h
    dsimp only at h
    split at h
    · rename_i v wi hl
      have h1 := mu_k_of mu_kC k18 (mu_look_mem hl)
      unfold mu_ckC at h1
      rw [kown] at h1
      exact mu_go_ldcw hd (mu_w_e h1) (hK _ _ _ _ h)
    · exact h.elim
  case ldc2_w x =>
    have hn : n = 3 := hn
    subst hn
    unfold mu_step at h
    dsimp only at h
    split at h
    · rename_i v wi hl
      have h1 := mu_k_of mu_kL k18 (mu_look_mem hl)
      unfold mu_ckL at h1
      rw [kown] at h1
      exact mu_go_ldc2 hd (mu_w_e h1) (hK _ _ _ _ h)
    · exact h.elim
  case iload x =>
    have hn : n = 2 := hn
    subst hn
    obtain ⟨v, hv, h⟩ := mu_ldI_e h
    exact mu_go_iload hd hv (hK _ _ _ _ h)
  case iload_n x =>
    have hn : n = 1 := hn
    subst hn
    obtain ⟨v, hv, h⟩ := mu_ldI_e h
    exact mu_go_iload_n hd hv (hK _ _ _ _ h)
  case lload x =>
    have hn : n = 2 := hn
    subst hn
    obtain ⟨v, hv, h⟩ := mu_ldL_e h
    exact mu_go_lload hd hv (hK _ _ _ _ h)
  case lload_n x =>
    have hn : n = 1 := hn
    subst hn
    obtain ⟨v, hv, h⟩ := mu_ldL_e h
    exact mu_go_lload_n hd hv (hK _ _ _ _ h)
  case aload x =>
    have hn : n = 2 := hn
    subst hn
    obtain ⟨v, hv, h⟩ := mu_ldA_e h
    exact mu_go_aload hd hv (hK _ _ _ _ h)
  case aload_n x =>
    have hn : n = 1 := hn
    subst hn
    obtain ⟨v, hv, h⟩ := mu_ldA_e h
    exact mu_go_aload_n hd hv (hK _ _ _ _ h)
  case istore x =>
    have hn : n = 2 := hn
    subst hn
    obtain ⟨v, r, rfl, h⟩ := mu_p1_e h
    obtain ⟨h1, h⟩ := mu_sto_e h
    exact mu_go_istore hd (Nat.le_of_ble_eq_true ha) h1 (hK _ _ _ _ h)
  case istore_n x =>
    have hn : n = 1 := hn
    subst hn
    obtain ⟨v, r, rfl, h⟩ := mu_p1_e h
    obtain ⟨h1, h⟩ := mu_sto_e h
    exact mu_go_istore_n hd (Nat.le_of_ble_eq_true ha) h1 (hK _ _ _ _ h)
  case astore x =>
    have hn : n = 2 := hn
    subst hn
    obtain ⟨v, r, rfl, h⟩ := mu_pr_e h
    obtain ⟨h1, h⟩ := mu_sto_e h
    exact mu_go_astore hd (Nat.le_of_ble_eq_true ha) h1 (hK _ _ _ _ h)
  case astore_n x =>
    have hn : n = 1 := hn
    subst hn
    obtain ⟨v, r, rfl, h⟩ := mu_pr_e h
    obtain ⟨h1, h⟩ := mu_sto_e h
    exact mu_go_astore_n hd (Nat.le_of_ble_eq_true ha) h1 (hK _ _ _ _ h)
  case iinc x c0 =>
    have hn : n = 3 := hn
    subst hn
    unfold mu_step at h
    dsimp only at h
    split at h
    · rename_i v hv
      obtain ⟨h1, h⟩ := mu_sto_e h
      exact mu_go_iinc hd (Nat.le_of_ble_eq_true ha) hv h1 (hK _ _ _ _ h)
    · exact h.elim
  case iadd =>
    have hn : n = 1 := hn
    subst hn
    obtain ⟨x, y, r, rfl, h⟩ := mu_p2_e h
    exact mu_go_bin (hK _ _ _ _ h) (fun _ _ _ _ _ _ _ _ _ _ _ _ _ _ _ _ hx hb k => lv_iadd hx hb hd k)
  case isub =>
    have hn : n = 1 := hn
    subst hn
    obtain ⟨x, y, r, rfl, h⟩ := mu_p2_e h
    exact mu_go_bin (hK _ _ _ _ h) (fun _ _ _ _ _ _ _ _ _ _ _ _ _ _ _ _ hx hb k => lv_isub hx hb hd k)
  case imul =>
    have hn : n = 1 := hn
    subst hn
    obtain ⟨x, y, r, rfl, h⟩ := mu_p2_e h
    exact mu_go_bin (hK _ _ _ _ h) (fun _ _ _ _ _ _ _ _ _ _ _ _ _ _ _ _ hx hb k => lv_imul hx hb hd k)
  case idiv =>
    have hn : n = 1 := hn
    subst hn
    obtain ⟨x, y, r, rfl, h0, h⟩ := mu_p2_e h
    exact mu_go_bin (hK _ _ _ _ h) (fun _ _ _ _ _ _ _ _ _ _ _ _ _ _ _ _ hx hb k => lv_idiv hx hb hd h0 k)
  case irem =>
    have hn : n = 1 := hn
    subst hn
    obtain ⟨x, y, r, rfl, h0, h⟩ := mu_p2_e h
    rw [← irem_eq_mod] at h
    exact mu_go_bin (hK _ _ _ _ h) (fun _ _ _ _ _ _ _ _ _ _ _ _ _ _ _ _ hx hb k => lv_irem hx hb hd h0 k)
  case iand =>
    have hn : n = 1 := hn
    subst hn
    obtain ⟨x, y, r, rfl, h⟩ := mu_p2_e h
    exact mu_go_bin (hK _ _ _ _ h) (fun _ _ _ _ _ _ _ _ _ _ _ _ _ _ _ _ hx hb k => lv_iand hx hb hd k)
  case ior =>
    have hn : n = 1 := hn
    subst hn
    obtain ⟨x, y, r, rfl, h⟩ := mu_p2_e h
    exact mu_go_bin (hK _ _ _ _ h) (fun _ _ _ _ _ _ _ _ _ _ _ _ _ _ _ _ hx hb k => lv_ior hx hb hd k)
  case ishl =>
    have hn : n = 1 := hn
    subst hn
    obtain ⟨x, y, r, rfl, h⟩ := mu_p2_e h
    exact mu_go_bin (hK _ _ _ _ h) (fun _ _ _ _ _ _ _ _ _ _ _ _ _ _ _ _ hx hb k => lv_ishl hx hb hd k)
  case ishr =>
    have hn : n = 1 := hn
    subst hn
    obtain ⟨x, y, r, rfl, h⟩ := mu_p2_e h
    exact mu_go_bin (hK _ _ _ _ h) (fun _ _ _ _ _ _ _ _ _ _ _ _ _ _ _ _ hx hb k => lv_ishr hx hb hd k)
  case iushr =>
    have hn : n = 1 := hn
    subst hn
    obtain ⟨x, y, r, rfl, h⟩ := mu_p2_e h
    exact mu_go_bin (hK _ _ _ _ h) (fun _ _ _ _ _ _ _ _ _ _ _ _ _ _ _ _ hx hb k => lv_iushr hx hb hd rfl k)
  case ineg =>
    have hn : n = 1 := hn
    subst hn
    obtain ⟨x, r, rfl, h⟩ := mu_p1_e h
    exact mu_lift (fun _ _ _ _ _ _ _ _ _ _ _ _ _ _ _ _ _ hc _ _ k => lv_ineg hc.1 hc.2.1 hd k) (hK _ _ _ _ h)
  case i2l =>
    have hn : n = 1 := hn
    subst hn
    obtain ⟨x, r, rfl, h⟩ := mu_p1_e h
    exact mu_lift (fun _ _ _ _ _ _ _ _ _ _ _ _ _ _ _ _ _ hc _ _ k => lv_i2l hc.1 hc.2.1 hd rfl k) (hK _ _ _ _ h)
  case i2b =>
    have hn : n = 1 := hn
    subst hn
    obtain ⟨x, r, rfl, h⟩ := mu_p1_e h
    exact mu_lift (fun _ _ _ _ _ _ _ _ _ _ _ _ _ _ _ _ _ hc _ _ k => lv_i2b hc.1 hc.2.1 hd rfl k) (hK _ _ _ _ h)
  case i2c =>
    have hn : n = 1 := hn
    subst hn
    obtain ⟨x, r, rfl, h⟩ := mu_p1_e h
    exact mu_lift (fun _ _ _ _ _ _ _ _ _ _ _ _ _ _ _ _ _ hc _ _ k => lv_i2c hc.1 hc.2.1 hd rfl k) (hK _ _ _ _ h)
  case ladd =>
    have hn : n = 1 := hn
    subst hn
    obtain ⟨x, y, r, rfl, h⟩ := mu_q2_e h
    exact mu_lift (fun _ _ _ _ _ _ _ _ _ _ _ _ _ _ _ _ _ hc _ _ k => lv_ladd hc.1 hc.2.1 hd k) (hK _ _ _ _ h)
  case lcmp =>
    have hn : n = 1 := hn
    subst hn
    obtain ⟨x, y, r, rfl, h⟩ := mu_q2_e h
    exact mu_lift (fun _ _ _ _ _ _ _ _ _ _ _ _ _ _ _ _ _ hc _ _ k => W.lcmp hc.1 hc.2.1 hd k) (hK _ _ _ _ h)
  case dup =>
    have hn : n = 1 := hn
    subst hn
    unfold mu_step at h
    dsimp only at h
    split at h
    · exact mu_lift (fun _ _ _ _ _ _ _ _ _ _ _ _ _ _ _ _ _ hc _ _ k => lv_dup hc.1 hc.2.1 hd rfl k) (hK _ _ _ _ h)
    · exact mu_lift (fun _ _ _ _ _ _ _ _ _ _ _ _ _ _ _ _ _ hc _ _ k => lv_dup hc.1 hc.2.1 hd (mu_V_cat _) k) (hK _ _ _ _ h)
    · exact h.elim
  case dup2 =>
    have hn : n = 1 := hn
    subst hn
    obtain ⟨a, j, r, rfl, h⟩ := mu_pir_e h
    exact mu_lift (fun _ _ _ _ _ _ _ _ _ _ _ _ _ _ _ _ _ hc _ _ k => lv_dup2_11 hc.1 hc.2.1 hd rfl (mu_V_cat _) k) (hK _ _ _ _ h)
  case pop =>
    have hn : n = 1 := hn
    subst hn
    unfold mu_step at h
    dsimp only at h
    split at h
    · exact mu_lift (fun _ _ _ _ _ _ _ _ _ _ _ _ _ _ _ _ _ hc _ _ k => lv_pop hc.1 hc.2.1 hd rfl k) (hK _ _ _ _ h)
    · exact mu_lift (fun _ _ _ _ _ _ _ _ _ _ _ _ _ _ _ _ _ hc _ _ k => lv_pop hc.1 hc.2.1 hd (mu_V_cat _) k) (hK _ _ _ _ h)
    · exact h.elim
  case goto off =>
    have hn : n = 3 := hn
    subst hn
    exact mu_go_goto hd (of_decide_eq_true ha) (hK _ _ _ _ h)
  case ifCond c off =>
    have hn : n = 3 := hn
    subst hn
    obtain ⟨x, r, rfl, h1, h2⟩ := mu_p1_e h
    exact mu_go_ifc hd (of_decide_eq_true ha) (fun q => hK _ _ _ _ (h1 q)) (fun q => hK _ _ _ _ (h2 q))
  case if_icmp c off =>
    have hn : n = 3 := hn
    subst hn
    obtain ⟨x, y, r, rfl, h1, h2⟩ := mu_p2_e h
    exact mu_go_icmp hd (of_decide_eq_true ha) (fun q => hK _ _ _ _ (h1 q)) (fun q => hK _ _ _ _ (h2 q))
  case ifnull off =>
    have hn : n = 3 := hn
    subst hn
    obtain ⟨a, r, rfl, h1, h2⟩ := mu_pr_e h
    exact mu_go_ifnull hd (of_decide_eq_true ha) (fun q => hK _ _ _ _ (h1 q)) (fun q => hK _ _ _ _ (h2 q))
  case ifnonnull off =>
    have hn : n = 3 := hn
    subst hn
    obtain ⟨a, r, rfl, h1, h2⟩ := mu_pr_e h
    exact mu_go_ifnonnull hd (of_decide_eq_true ha) (fun q => hK _ _ _ _ (h1 q)) (fun q => hK _ _ _ _ (h2 q))
  case tableswitch dflt lo hi offs =>
    obtain ⟨x, r, rfl, h1, h2⟩ := mu_p1_e h
    have ha : (mu_nn pc dflt && offs.toList.all (mu_nn pc) && decide ((offs.size : Int) = hi - lo + 1)) = true := ha
    simp only [Bool.and_eq_true] at ha
    exact mu_go_table hd (of_decide_eq_true ha.1.1) (fun o ho => of_decide_eq_true (List.all_eq_true.mp ha.1.2 o ho)) (of_decide_eq_true ha.2) (fun q => hK _ _ _ _ (h1 q)) (fun j off hj hx => hK _ _ _ _ (mu_sw_e h2 hj hx))
  case lookupswitch dflt ps =>
    obtain ⟨x, r, rfl, h1⟩ := mu_p1_e h
    have ha : (mu_nn pc dflt && ps.toList.all (fun q => mu_nn pc q.2) && (ps.toList.zip (ps.toList.drop 1)).all (fun (a, next) => a.1 < next.1)) = true := ha
    simp only [Bool.and_eq_true] at ha
    have h2 := mu_lw_e (K := fun t => K t ls r g) h1
    have h0 : 0 ≤ (pc : Int) + Op.lookupswitch.offset ps.toList dflt x.toInt := by
      have hall := ha.1.2
      have hdf : 0 ≤ (pc : Int) + dflt := of_decide_eq_true ha.1.1
      generalize ps.toList = l at hall
      induction l with
      | nil => exact hdf
      | cons q t ih =>
        rw [List.all_cons, Bool.and_eq_true] at hall
        have h3 : 0 ≤ (pc : Int) + q.2 := of_decide_eq_true hall.1
        have h4 := ih hall.2
        obtain ⟨qk, qo⟩ := q
        by_cases hk : qk = x.toInt
        · simpa [Op.lookupswitch.offset, hk] using h3
        · have hk2 : ¬ x.toInt = qk := fun e => hk e.symm
          simpa [Op.lookupswitch.offset, hk, hk2] using h4
    exact mu_lift (fun _ _ _ _ _ _ _ _ _ _ _ _ _ _ _ _ _ hc _ _ k => lv_lookup hc.1 hc.2.1 hd ha.2 rfl (Int.toNat_of_nonneg h0).symm k) (hK _ _ _ _ h2)
  case getfield x =>
    have hn : n = 3 := hn
    subst hn
    unfold mu_step at h
    dsimp only at h
    split at h
    · rename_i c f wi hl
      obtain ⟨a, r, rfl, ht, h⟩ := mu_pr_e h
      rcases mu_ckF_e k18 hl with ⟨hc, q, hq, hf, hw⟩ | ⟨rfl, n0, d0, hf, hw⟩
      · rw [kown] at hw
        have e0 : mu_fR c f = mu_isR (mu_Ty c f) := by
          unfold mu_fR
          have : Nat.beq c 12 = false := by
            cases hb : Nat.beq c 12 with
            | false => rfl
            | true => have := Nat.eq_of_beq_eq_true hb; omega
          rw [this]
        rw [e0] at h
        refine mu_go_get hc hd hq hf hw ht (hK _ _ _ _ ?_)
        unfold mu_Fv
        cases hb : mu_isR (mu_Ty c f) with
        | true => rw [hb] at h; exact h
        | false => rw [hb] at h; exact h
      · rw [kown] at hw
        refine mu_go_getS hd hf hw ht (hK _ _ _ _ ?_)
        rcases hf with ⟨rfl, -, -⟩ | ⟨rfl, -, -⟩
        · exact h
        · exact h
    · exact h.elim
  case putfield x =>
    have hn : n = 3 := hn
    subst hn
    unfold mu_step at h
    unfold mu_okA at ha
    dsimp only at h ha
    split at h
    · rename_i c f wi hl
      rw [hl] at ha
      dsimp only at ha
      rcases mu_ckF_e k18 hl with ⟨hc, q, hq, hf, hw⟩ | ⟨rfl, n0, d0, hf, hw⟩
      · rw [kown] at hw
        rw [hq] at ha
        have hfin : (q.2.1 f).2.2.2 = false ∨ ((mu_mY mi).name = "<init>" ∧ (q.2.1 f).1 = (mu_mY mi).cls) := by
          simp only [Bool.or_eq_true, Bool.not_eq_true', Bool.and_eq_true] at ha
          rcases ha with ha | ha
          · exact Or.inl ha
          · exact Or.inr ⟨of_decide_eq_true ha.1, of_decide_eq_true ha.2⟩
        obtain ⟨q', hq', -, -, -, -, -, -, -, hkd⟩ := mu_cls hc
        cases hq.symm.trans hq'
        have e0 : mu_fR c f = mu_isR (mu_Ty c f) := by
          unfold mu_fR
          have : Nat.beq c 12 = false := by
            cases hb : Nat.beq c 12 with
            | false => rfl
            | true => have := Nat.eq_of_beq_eq_true hb; omega
          rw [this]
        rw [e0] at h
        cases hb : mu_isR (mu_Ty c f) with
        | true =>
          rw [hb] at h
          obtain ⟨a, b, r, rfl, ht, h⟩ := mu_prr_e h
          have hnf : narrow (mu_Ty c f) (mu_V (.ref b)) = mu_V (.ref b) ∧ fits (mu_Ty c f) (mu_V (.ref b)) = true := by
            rcases hkd f hf with e | e | ⟨_, e⟩ | ⟨_, e⟩
            · rw [e] at hb; cases hb
            · rw [e] at hb; cases hb
            · rw [e]; cases b <;> exact ⟨rfl, rfl⟩
            · rw [e]; cases b <;> exact ⟨rfl, rfl⟩
          refine mu_go_put (g' := mu_sR g a f b) hc hd hq hf hw hfin ht hnf.1 hnf.2 rfl rfl rfl rfl mu_sR_eo (fun k hk => ?_) (hK _ _ _ _ h)
          by_cases hkf : k = f
          · subst hkf
            rw [mu_fv_ref hb, if_pos rfl]
            show Value.ref (if a = a ∧ k = k then b else _) = _
            rw [if_pos ⟨rfl, rfl⟩]
          · rw [if_neg hkf]
            unfold mu_Fv
            have : mu_R (mu_sR g a f b) a k = mu_R g a k := if_neg (fun z => hkf z.2)
            rw [this]
            rfl
        | false =>
          rw [hb] at h
          obtain ⟨a, v, r, rfl, ht, h⟩ := mu_pir_e h
          have hnf : (narrow (mu_Ty c f) (.int v) = .int v ∧ fits (mu_Ty c f) (.int v) = true) ∧ K (pc + 3) ls r (mu_sI g a f v) := by
            unfold mu_fit at h
            split at h
            · rename_i e; rw [e]; exact ⟨⟨rfl, rfl⟩, h⟩
            · rename_i e
              rw [e]
              refine ⟨?_, h.2⟩
              rcases h.1 with rfl | rfl <;> exact ⟨rfl, rfl⟩
            · exact h.elim
          refine mu_go_put (g' := mu_sI g a f v) hc hd hq hf hw hfin ht hnf.1.1 hnf.1.2 rfl rfl rfl rfl mu_sI_eo (fun k hk => ?_) (hK _ _ _ _ hnf.2)
          by_cases hkf : k = f
          · subst hkf
            rw [mu_fv_int hb, if_pos rfl]
            show Value.int (if a = a ∧ k = k then v else _) = _
            rw [if_pos ⟨rfl, rfl⟩]
          · rw [if_neg hkf]
            unfold mu_Fv
            have : mu_I (mu_sI g a f v) a k = mu_I g a k := if_neg (fun z => hkf z.2)
            rw [this]
            rfl
      · cases ha
    · exact h.elim
  case getstatic x =>
    have hn : n = 3 := hn
    subst hn
    unfold mu_step at h
    dsimp only at h
    split at h
    · rename_i j r hl
      have h1 := mu_k_of mu_kS k18 (mu_look_mem hl)
      unfold mu_ckS at h1
      rw [kown] at h1
      dsimp only at h1
      split at h1
      · rename_i q hq
        split at h1
        · exact mu_go_gets hd hq (Or.inl (mu_w_e h1)) (hK _ _ _ _ h)
        · exact mu_go_gets hd hq (Or.inr (List.mem_of_getElem? (of_decide_eq_true h1))) (hK _ _ _ _ h)
      · cases h1
    · exact h.elim
  case new x =>
    have hn : n = 3 := hn
    subst hn
    unfold mu_step at h
    dsimp only at h
    split at h
    · rename_i c wi hl
      have h1 := mu_k_of mu_kN k18 (mu_look_mem hl)
      unfold mu_ckN at h1
      rw [kown] at h1
      rw [Bool.and_eq_true] at h1
      obtain ⟨hb, h1⟩ := h1
      dsimp only at h1 hb
      split at h1
      · rename_i r hr
        exact mu_go_new (Nat.le_of_ble_eq_true hb) hd hr (mu_w_e h1) h.1 h.2.1 (hK _ _ _ _ h.2.2)
      · cases h1
    · exact h.elim
  case newarray t =>
    have hn : n = 2 := hn
    subst hn
    obtain ⟨x, r, rfl, h1, h2, h3, h⟩ := mu_p1_e h
    cases t with
    | int => exact mu_go_newarr (q := 0) (by omega) rfl hd h1 h2 h3 (hK _ _ _ _ h)
    | byte => exact mu_go_newarr (q := 1) (by omega) rfl hd h1 h2 h3 (hK _ _ _ _ h)
    | _ => exact h.elim
  case anewarray y =>
    have hn : n = 3 := hn
    subst hn
    unfold mu_step at h
    dsimp only at h
    split at h
    · rename_i c wi hl
      have h1 := mu_k_of mu_kA k18 (mu_look_mem hl)
      unfold mu_ckA at h1
      rw [kown] at h1
      simp only [Bool.and_eq_true] at h1
      obtain ⟨⟨c1, c2⟩, h4⟩ := h1
      obtain ⟨x, r, rfl, i1, i2, i3, h⟩ := mu_p1_e h
      split at h4
      · rename_i C hC
        exact mu_go_anew (Nat.le_of_ble_eq_true c1) (Nat.le_of_ble_eq_true c2) hC hd (mu_w_e h4) i1 i2 i3 (hK _ _ _ _ h)
      · cases h4
    · exact h.elim
  case arraylength =>
    have hn : n = 1 := hn
    subst hn
    obtain ⟨a, r, rfl, ht, h⟩ := mu_pr_e h
    exact mu_go_alen hd ht (hK _ _ _ _ h)
  case iaload =>
    have hn : n = 1 := hn
    subst hn
    obtain ⟨a, j, r, rfl, ht, hj, h⟩ := mu_pir_e h
    exact mu_go_iald hd ht hj (hK _ _ _ _ h)
  case baload =>
    have hn : n = 1 := hn
    subst hn
    obtain ⟨a, j, r, rfl, ht, hj, h⟩ := mu_pir_e h
    exact mu_go_bald hd ht hj (hK _ _ _ _ h)
  case aaload =>
    have hn : n = 1 := hn
    subst hn
    obtain ⟨a, j, r, rfl, ht, hj, h⟩ := mu_pir_e h
    exact mu_go_aald hd ht hj (hK _ _ _ _ h)
  case iastore =>
    have hn : n = 1 := hn
    subst hn
    obtain ⟨a, j, x, r, rfl, hwa, ht, hj, h⟩ := mu_piir_e h
    exact mu_go_iast hd hwa ht hj (hK _ _ _ _ h)
  case bastore =>
    have hn : n = 1 := hn
    subst hn
    obtain ⟨a, j, x, r, rfl, hwa, ht, hj, h⟩ := mu_piir_e h
    exact mu_go_bast hd hwa ht hj (hK _ _ _ _ h)
  case aastore =>
    have hn : n = 1 := hn
    subst hn
    obtain ⟨a, j, v, r, rfl, hwa, ht, hv, hj, h⟩ := mu_prir_e h
    exact mu_go_aast hd hwa ht hv hj (hK _ _ _ _ h)
  case ireturn =>
    have hn : n = 1 := hn
    subst hn
    unfold mu_step at h
    dsimp only at h
    split at h
    · exact mu_go_ireturn hd (mu_rI_e h)
    · exact h.elim
  case areturn =>
    have hn : n = 1 := hn
    subst hn
    unfold mu_step at h
    dsimp only at h
    split at h
    · exact mu_go_areturn hd ha h
    · exact h.elim
  case return_ =>
    have hn : n = 1 := hn
    subst hn
    unfold mu_step at h
    dsimp only at h
    split at h
    · exact mu_go_return hd ha h
    · exact h.elim
  case invokestatic x =>
    have hn : n = 3 := hn
    subst hn
    unfold mu_step at h
    dsimp only at h
    split at h
    · rename_i mj r0 hl
      obtain ⟨kd, ne, is⟩ := r0
      have hkd := mu_kd_e ha hl
      obtain ⟨he, hlk, -, hs, -, -⟩ := mu_ckM_e k18 hl
      rw [kown] at hlk
      split at h
      · rename_i As rest hsp
        obtain ⟨Bs, b1, b2, b3⟩ := mu_split_e hsp
        rw [List.append_nil] at b2
        subst b2
        subst b3
        obtain ⟨hsm, h⟩ := mu_small_e h
        obtain ⟨d', r, g', rfl, hM, hX, hS, h⟩ := mu_call_e h
        exact mu_go_callS hd he hlk (hs hkd) b1 hsm hM hX hS (hK _ _ _ _ h)
      · exact h.elim
    · split at h
      · rename_i wi hl
        have h1 := mu_k_of mu_kQ k18 (mu_look_mem hl)
        unfold mu_ckQ at h1
        rw [kown] at h1
        obtain ⟨a, b, r, rfl, h⟩ := mu_p2_e h
        obtain ⟨hsm, h⟩ := mu_small_e h
        obtain ⟨h0, h⟩ := mu_pos_e h
        exact mu_go_max hd (mu_w_e h1) hsm h0 (hK _ _ _ _ h)
      · rename_i wi hl
        have h1 := mu_k_of mu_kQ k18 (mu_look_mem hl)
        unfold mu_ckQ at h1
        rw [kown] at h1
        obtain ⟨a, b, r, rfl, h⟩ := mu_p2_e h
        obtain ⟨hsm, h⟩ := mu_small_e h
        obtain ⟨h0, h⟩ := mu_pos_e h
        exact mu_go_min hd (mu_w_e h1) hsm h0 (hK _ _ _ _ h)
      · rename_i wi hl
        have h1 := mu_k_of mu_kQ k18 (mu_look_mem hl)
        unfold mu_ckQ at h1
        rw [kown] at h1
        obtain ⟨a, r, rfl, h⟩ := mu_p1_e h
        obtain ⟨hsm, h⟩ := mu_small_e h
        obtain ⟨h0, h⟩ := mu_pos_e h
        exact mu_go_abs hd (mu_w_e h1) hsm h0 (hK _ _ _ _ h)
      · rename_i wi hl
        have h1 := mu_k_of mu_kQ k18 (mu_look_mem hl)
        unfold mu_ckQ at h1
        rw [kown] at h1
        obtain ⟨a, sp, b, dp, m, r, rfl, h⟩ := mu_pcp_e h
        obtain ⟨hsm, h⟩ := mu_small_e h
        obtain ⟨h0, i1, i2, i3, i4, i5, i6, i7, i8, h⟩ := mu_pos_e h
        rcases i3 with ⟨t1, t2⟩ | ⟨t1, t2⟩
        · exact mu_go_copy (q := 0) (by omega) hd (mu_w_e h1) hsm h0 i1 i2 t1 t2 i4 i5 i6 i7 i8 (hK _ _ _ _ h)
        · exact mu_go_copy (q := 1) (by omega) hd (mu_w_e h1) hsm h0 i1 i2 t1 t2 i4 i5 i6 i7 i8 (hK _ _ _ _ h)
      · exact h.elim
  case invokevirtual x =>
    have hn : n = 3 := hn
    subst hn
    unfold mu_step at h
    dsimp only at h
    split at h
    · rename_i mj r0 hl
      obtain ⟨kd, ne, is⟩ := r0
      have hkd := mu_kd_e ha hl
      obtain ⟨he, hlk, hne, -, hs, -⟩ := mu_ckM_e k18 hl
      rw [kown] at hlk hne
      split at h
      · rename_i As a rest hsp
        obtain ⟨Bs, b1, b2, b3⟩ := mu_split_e hsp
        rw [List.append_nil] at b2
        subst b2
        subst b3
        obtain ⟨ht, h⟩ := h
        obtain ⟨hsm, h⟩ := mu_small_e h
        obtain ⟨d', r, g', rfl, hM, hX, hS, h⟩ := mu_call_e h
        obtain ⟨hl2, s1, s2, s3, s4⟩ := hs hkd
        rw [kown] at hl2
        exact mu_go_callV hd he hl2 s1 s2 s3 s4 ht b1 hsm hM hX hS (hK _ _ _ _ h)
      · exact h.elim
    · exact h.elim
  case invokespecial x =>
    have hn : n = 3 := hn
    subst hn
    unfold mu_step at h
    dsimp only at h
    split at h
    · rename_i mj r0 hl
      obtain ⟨kd, ne, is⟩ := r0
      have hkd := mu_kd_e ha hl
      obtain ⟨he, hlk, -, -, -, hs⟩ := mu_ckM_e k18 hl
      rw [kown] at hlk
      split at h
      · rename_i As a rest hsp
        obtain ⟨Bs, b1, b2, b3⟩ := mu_split_e hsp
        rw [List.append_nil] at b2
        subst b2
        subst b3
        obtain ⟨ht, h⟩ := h
        obtain ⟨hsm, h⟩ := mu_small_e h
        obtain ⟨d', r, g', rfl, hM, hX, hS, h⟩ := mu_call_e h
        obtain ⟨s1, s2, s3⟩ := hs hkd
        exact mu_go_callI hd he hlk s1 s2 s3 ht b1 hsm hM hX hS (hK _ _ _ _ h)
      · exact h.elim
    · split at h
      · rename_i wi hl
        have h1 := mu_k_of mu_kQ k18 (mu_look_mem hl)
        unfold mu_ckQ at h1
        rw [kown] at h1
        obtain ⟨a, r, rfl, h9, h⟩ := mu_pr_e h
        obtain ⟨hsm, h⟩ := mu_small_e h
        obtain ⟨h0, h⟩ := mu_pos_e h
        exact mu_go_objI hd (mu_w_e h1) h9 hsm h0 (hK _ _ _ _ h)
      · exact h.elim
  all_goals exact False.elim h
theorem mu_wpgo (hm : mu_ok mi = true) {hs : List (Nat × List Bool)} : ∀ {k pc : Nat} {ls : List (Option Value)} {st : List Value} {g : mu_H}, mu_wp w mi d L Q hs k pc ls st g → mu_go w mi d L Q pc ls st g
  | 0, _, _, _, _, h => h
  | k + 1, pc, ls, st, g, h => by
    unfold mu_wp at h
    split at h
    · exact h.elim
    · rename_i i n hat
      refine mu_step_sound hm hat h fun pc' ls' st' g' h' => ?_
      split at h'
      · intro p l e R s m args below meth c H locs cells slots S0 Qw lsA hc hy hl hr
        exact h' p l e R s m args below meth c H locs cells slots S0 Qw lsA hc hy (mu_has_mask hl) hr
      · exact mu_wpgo hm h'
/-- the locals at a method's entry -/
def mu_ent : Nat → List Value → List (Option Value)
  | n, [] => List.replicate n none
  | n, .long x :: t => some (.long x) :: none :: mu_ent (n - 2) t
  | n, .double x :: t => some (.double x) :: none :: mu_ent (n - 2) t
  | n, v :: t => some v :: mu_ent (n - 1) t
theorem mu_lv_none : ∀ (k n : Nat), mu_lv k (List.replicate n none) = []
  | _, 0 => rfl
  | k, n + 1 => mu_lv_none (k + 1) n
theorem mu_ent_lv : ∀ (As : List Value) (n k : Nat), mu_lv k (mu_ent n As) = lv_args k (As.map mu_V)
  | [], n, k => mu_lv_none k n
  | v :: t, n, k => by
    cases v with
    | long x => exact congrArg ((k, Value.long x) :: ·) (mu_ent_lv t (n - 2) (k + 2))
    | double x => exact congrArg ((k, Value.double x) :: ·) (mu_ent_lv t (n - 2) (k + 2))
    | ref a =>
      show (k, mu_V (.ref a)) :: mu_lv (k + 1) (mu_ent (n - 1) t) = (k, mu_V (.ref a)) :: lv_args (if (mu_V (.ref a)).category = 2 then k + 2 else k + 1) (t.map mu_V)
      rw [mu_V_cat, mu_ent_lv t (n - 1) (k + 1)]
      rfl
    | int x => exact congrArg ((k, Value.int x) :: ·) (mu_ent_lv t (n - 1) (k + 1))
    | float x => exact congrArg ((k, Value.float x) :: ·) (mu_ent_lv t (n - 1) (k + 1))
    | null => exact congrArg ((k, Value.null) :: ·) (mu_ent_lv t (n - 1) (k + 1))
    | retAddr x => exact congrArg ((k, Value.retAddr x) :: ·) (mu_ent_lv t (n - 1) (k + 1))
theorem mu_sl_len : ∀ (As : List Value), (lg_sl (As.map mu_V)).length = mu_words As
  | [] => rfl
  | v :: t => by
    have ih := mu_sl_len t
    unfold lg_sl at ih ⊢
    rw [List.map_cons, List.flatMap_cons, List.length_append, ih, mu_V_cat]
    cases v <;> simp [mu_words, Value.category] <;> omega
/-- a contract out of a walk from the entry -/
theorem mu_metG {As : List Value} {r : Option Value} {g' : mu_H} (hm : mu_ok mi = true) (k : mu_go w mi d (mu_X g', mu_S g') (fun r' g'' => r' = r ∧ g'' = g') 0 (mu_ent (mu_mL mi) As) [] g) (hlen : Nat.ble (mu_words As) (mu_mL mi) = true) (hX : mu_X g ≤ mu_X g') (hS : mu_S g ≤ mu_S g') : mu_met w mi d As g r g' :=
  mu_met_of (mu_ok_e hm).2.2.2.1 (by rw [mu_sl_len]; exact Nat.le_of_ble_eq_true hlen) (fun lsA h => by rw [mu_ent_lv]; exact h) hX hS k
end Mu15
end
