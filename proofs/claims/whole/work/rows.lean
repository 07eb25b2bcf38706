section
-- ===== PART A: goes FIRST, ahead of the names: the tables' words, and 'selects' of the private methods out of them =====
/-- a private method of a class that the tables say can be made, by its rows of tables_1 -/
def lw_okq (q : MethodName × Nat) : Prop := (q.1.cls ≠ "java/lang/invoke/MethodHandle" ∧ q.1.cls ≠ "java/lang/invoke/VarHandle") ∧ Cond.instantiable q.1.cls q.2 ∈ tables_1 ∧ Cond.privateMethod q.1 ∈ tables_1 ∧ Cond.instanceMethod q.1 ∈ tables_1
theorem lw_p0 : lw_okq (⟨"java/lang/Throwable", "fillInStackTrace", "(I)Ljava/lang/Throwable;"⟩, 6) := ⟨⟨by decide +kernel, by decide +kernel⟩, List.mem_of_getElem? (i := 223) (by decide +kernel), List.mem_of_getElem? (i := 221) (by decide +kernel), List.mem_of_getElem? (i := 222) (by decide +kernel)⟩
theorem lw_p1 : lw_okq (⟨"ShelfSwarm", "isHome", "(I)Z"⟩, 6) := ⟨⟨by decide +kernel, by decide +kernel⟩, List.mem_of_getElem? (i := 34) (by decide +kernel), List.mem_of_getElem? (i := 260) (by decide +kernel), List.mem_of_getElem? (i := 261) (by decide +kernel)⟩
theorem lw_p2 : lw_okq (⟨"ShelfSwarm", "isStation", "(I)Z"⟩, 6) := ⟨⟨by decide +kernel, by decide +kernel⟩, List.mem_of_getElem? (i := 34) (by decide +kernel), List.mem_of_getElem? (i := 279) (by decide +kernel), List.mem_of_getElem? (i := 280) (by decide +kernel)⟩
theorem lw_p3 : lw_okq (⟨"ShelfSwarm$Floor", "openCells", "()J"⟩, 3) := ⟨⟨by decide +kernel, by decide +kernel⟩, List.mem_of_getElem? (i := 48) (by decide +kernel), List.mem_of_getElem? (i := 338) (by decide +kernel), List.mem_of_getElem? (i := 339) (by decide +kernel)⟩
theorem lw_p4 : lw_okq (⟨"java/util/ArrayList", "add", "(Ljava/lang/Object;[Ljava/lang/Object;I)V"⟩, 3) := ⟨⟨by decide +kernel, by decide +kernel⟩, List.mem_of_getElem? (i := 64) (by decide +kernel), List.mem_of_getElem? (i := 380) (by decide +kernel), List.mem_of_getElem? (i := 381) (by decide +kernel)⟩
theorem lw_p5 : lw_okq (⟨"java/util/ArrayList", "grow", "()[Ljava/lang/Object;"⟩, 3) := ⟨⟨by decide +kernel, by decide +kernel⟩, List.mem_of_getElem? (i := 64) (by decide +kernel), List.mem_of_getElem? (i := 384) (by decide +kernel), List.mem_of_getElem? (i := 385) (by decide +kernel)⟩
theorem lw_p6 : lw_okq (⟨"java/util/ArrayList", "grow", "(I)[Ljava/lang/Object;"⟩, 3) := ⟨⟨by decide +kernel, by decide +kernel⟩, List.mem_of_getElem? (i := 64) (by decide +kernel), List.mem_of_getElem? (i := 388) (by decide +kernel), List.mem_of_getElem? (i := 389) (by decide +kernel)⟩
theorem lw_p7 : lw_okq (⟨"ShelfSwarm", "findTray", "(I)LShelfSwarm$Tray;"⟩, 6) := ⟨⟨by decide +kernel, by decide +kernel⟩, List.mem_of_getElem? (i := 34) (by decide +kernel), List.mem_of_getElem? (i := 489) (by decide +kernel), List.mem_of_getElem? (i := 490) (by decide +kernel)⟩
theorem lw_p8 : lw_okq (⟨"ShelfSwarm", "findOrder", "(I)LShelfSwarm$Order;"⟩, 6) := ⟨⟨by decide +kernel, by decide +kernel⟩, List.mem_of_getElem? (i := 34) (by decide +kernel), List.mem_of_getElem? (i := 553) (by decide +kernel), List.mem_of_getElem? (i := 554) (by decide +kernel)⟩
theorem lw_p9 : lw_okq (⟨"ShelfSwarm", "findStation", "(I)LShelfSwarm$Station;"⟩, 6) := ⟨⟨by decide +kernel, by decide +kernel⟩, List.mem_of_getElem? (i := 34) (by decide +kernel), List.mem_of_getElem? (i := 590) (by decide +kernel), List.mem_of_getElem? (i := 591) (by decide +kernel)⟩
theorem lw_p10 : lw_okq (⟨"ShelfSwarm", "findLine", "(II)LShelfSwarm$Line;"⟩, 6) := ⟨⟨by decide +kernel, by decide +kernel⟩, List.mem_of_getElem? (i := 34) (by decide +kernel), List.mem_of_getElem? (i := 594) (by decide +kernel), List.mem_of_getElem? (i := 595) (by decide +kernel)⟩
theorem lw_p11 : lw_okq (⟨"ShelfSwarm$Robot", "forgetAsking", "()V"⟩, 9) := ⟨⟨by decide +kernel, by decide +kernel⟩, List.mem_of_getElem? (i := 621) (by decide +kernel), List.mem_of_getElem? (i := 619) (by decide +kernel), List.mem_of_getElem? (i := 620) (by decide +kernel)⟩
theorem lw_p12 : lw_okq (⟨"java/util/ArrayList", "fastRemove", "([Ljava/lang/Object;I)V"⟩, 3) := ⟨⟨by decide +kernel, by decide +kernel⟩, List.mem_of_getElem? (i := 64) (by decide +kernel), List.mem_of_getElem? (i := 634) (by decide +kernel), List.mem_of_getElem? (i := 635) (by decide +kernel)⟩
theorem lw_p13 : lw_okq (⟨"ShelfSwarm", "findRobot", "(I)LShelfSwarm$Robot;"⟩, 6) := ⟨⟨by decide +kernel, by decide +kernel⟩, List.mem_of_getElem? (i := 34) (by decide +kernel), List.mem_of_getElem? (i := 728) (by decide +kernel), List.mem_of_getElem? (i := 729) (by decide +kernel)⟩
theorem lw_p14 : lw_okq (⟨"ShelfSwarm", "pickFromServing", "()V"⟩, 6) := ⟨⟨by decide +kernel, by decide +kernel⟩, List.mem_of_getElem? (i := 34) (by decide +kernel), List.mem_of_getElem? (i := 796) (by decide +kernel), List.mem_of_getElem? (i := 797) (by decide +kernel)⟩
theorem lw_p15 : lw_okq (⟨"ShelfSwarm", "pick", "(LShelfSwarm$Robot;LShelfSwarm$Tray;LShelfSwarm$Line;)V"⟩, 6) := ⟨⟨by decide +kernel, by decide +kernel⟩, List.mem_of_getElem? (i := 34) (by decide +kernel), List.mem_of_getElem? (i := 800) (by decide +kernel), List.mem_of_getElem? (i := 801) (by decide +kernel)⟩
def lw_privs_1 : List (MethodName × Nat) := [(⟨"java/lang/Throwable", "fillInStackTrace", "(I)Ljava/lang/Throwable;"⟩, 6), (⟨"ShelfSwarm", "isHome", "(I)Z"⟩, 6), (⟨"ShelfSwarm", "isStation", "(I)Z"⟩, 6), (⟨"ShelfSwarm$Floor", "openCells", "()J"⟩, 3), (⟨"java/util/ArrayList", "add", "(Ljava/lang/Object;[Ljava/lang/Object;I)V"⟩, 3), (⟨"java/util/ArrayList", "grow", "()[Ljava/lang/Object;"⟩, 3), (⟨"java/util/ArrayList", "grow", "(I)[Ljava/lang/Object;"⟩, 3), (⟨"ShelfSwarm", "findTray", "(I)LShelfSwarm$Tray;"⟩, 6), (⟨"ShelfSwarm", "findOrder", "(I)LShelfSwarm$Order;"⟩, 6), (⟨"ShelfSwarm", "findStation", "(I)LShelfSwarm$Station;"⟩, 6), (⟨"ShelfSwarm", "findLine", "(II)LShelfSwarm$Line;"⟩, 6), (⟨"ShelfSwarm$Robot", "forgetAsking", "()V"⟩, 9), (⟨"java/util/ArrayList", "fastRemove", "([Ljava/lang/Object;I)V"⟩, 3), (⟨"ShelfSwarm", "findRobot", "(I)LShelfSwarm$Robot;"⟩, 6), (⟨"ShelfSwarm", "pickFromServing", "()V"⟩, 6), (⟨"ShelfSwarm", "pick", "(LShelfSwarm$Robot;LShelfSwarm$Tray;LShelfSwarm$Line;)V"⟩, 6)]
theorem lw_r1 : ∀ q ∈ lw_privs_1, lw_okq q := List.forall_mem_cons.mpr ⟨lw_p0, List.forall_mem_cons.mpr ⟨lw_p1, List.forall_mem_cons.mpr ⟨lw_p2, List.forall_mem_cons.mpr ⟨lw_p3, List.forall_mem_cons.mpr ⟨lw_p4, List.forall_mem_cons.mpr ⟨lw_p5, List.forall_mem_cons.mpr ⟨lw_p6, List.forall_mem_cons.mpr ⟨lw_p7, List.forall_mem_cons.mpr ⟨lw_p8, List.forall_mem_cons.mpr ⟨lw_p9, List.forall_mem_cons.mpr ⟨lw_p10, List.forall_mem_cons.mpr ⟨lw_p11, List.forall_mem_cons.mpr ⟨lw_p12, List.forall_mem_cons.mpr ⟨lw_p13, List.forall_mem_cons.mpr ⟨lw_p14, List.forall_mem_cons.mpr ⟨lw_p15, fun _ h => absurd h List.not_mem_nil⟩⟩⟩⟩⟩⟩⟩⟩⟩⟩⟩⟩⟩⟩⟩⟩
theorem lw_p16 : lw_okq (⟨"ShelfSwarm", "sendRobots", "()V"⟩, 6) := ⟨⟨by decide +kernel, by decide +kernel⟩, List.mem_of_getElem? (i := 34) (by decide +kernel), List.mem_of_getElem? (i := 823) (by decide +kernel), List.mem_of_getElem? (i := 824) (by decide +kernel)⟩
theorem lw_p17 : lw_okq (⟨"ShelfSwarm", "sendRobotFor", "(LShelfSwarm$Station;)V"⟩, 6) := ⟨⟨by decide +kernel, by decide +kernel⟩, List.mem_of_getElem? (i := 34) (by decide +kernel), List.mem_of_getElem? (i := 831) (by decide +kernel), List.mem_of_getElem? (i := 832) (by decide +kernel)⟩
theorem lw_p18 : lw_okq (⟨"ShelfSwarm", "nearestTray", "(II)LShelfSwarm$Tray;"⟩, 6) := ⟨⟨by decide +kernel, by decide +kernel⟩, List.mem_of_getElem? (i := 34) (by decide +kernel), List.mem_of_getElem? (i := 835) (by decide +kernel), List.mem_of_getElem? (i := 836) (by decide +kernel)⟩
theorem lw_p19 : lw_okq (⟨"ShelfSwarm$Fleet", "wantedCell", "(LShelfSwarm$Robot;)I"⟩, 8) := ⟨⟨by decide +kernel, by decide +kernel⟩, List.mem_of_getElem? (i := 42) (by decide +kernel), List.mem_of_getElem? (i := 853) (by decide +kernel), List.mem_of_getElem? (i := 854) (by decide +kernel)⟩
theorem lw_p20 : lw_okq (⟨"ShelfSwarm$Fleet", "gatherRing", "(LShelfSwarm$Robot;)V"⟩, 8) := ⟨⟨by decide +kernel, by decide +kernel⟩, List.mem_of_getElem? (i := 42) (by decide +kernel), List.mem_of_getElem? (i := 885) (by decide +kernel), List.mem_of_getElem? (i := 886) (by decide +kernel)⟩
theorem lw_p21 : lw_okq (⟨"ShelfSwarm$Fleet", "turnRing", "()V"⟩, 8) := ⟨⟨by decide +kernel, by decide +kernel⟩, List.mem_of_getElem? (i := 42) (by decide +kernel), List.mem_of_getElem? (i := 895) (by decide +kernel), List.mem_of_getElem? (i := 896) (by decide +kernel)⟩
theorem lw_p22 : lw_okq (⟨"ShelfSwarm$Fleet", "moveRobot", "(LShelfSwarm$Robot;I)V"⟩, 8) := ⟨⟨by decide +kernel, by decide +kernel⟩, List.mem_of_getElem? (i := 42) (by decide +kernel), List.mem_of_getElem? (i := 899) (by decide +kernel), List.mem_of_getElem? (i := 900) (by decide +kernel)⟩
theorem lw_p23 : lw_okq (⟨"ShelfSwarm$Fleet", "breakRing", "(LShelfSwarm$Robot;LShelfSwarm$Robot;)V"⟩, 8) := ⟨⟨by decide +kernel, by decide +kernel⟩, List.mem_of_getElem? (i := 42) (by decide +kernel), List.mem_of_getElem? (i := 907) (by decide +kernel), List.mem_of_getElem? (i := 908) (by decide +kernel)⟩
theorem lw_p24 : lw_okq (⟨"ShelfSwarm$Fleet", "canYieldTo", "(LShelfSwarm$Robot;LShelfSwarm$Robot;)Z"⟩, 8) := ⟨⟨by decide +kernel, by decide +kernel⟩, List.mem_of_getElem? (i := 42) (by decide +kernel), List.mem_of_getElem? (i := 915) (by decide +kernel), List.mem_of_getElem? (i := 916) (by decide +kernel)⟩
theorem lw_p25 : lw_okq (⟨"ShelfSwarm$Fleet", "isAskedFor", "(I)Z"⟩, 8) := ⟨⟨by decide +kernel, by decide +kernel⟩, List.mem_of_getElem? (i := 42) (by decide +kernel), List.mem_of_getElem? (i := 927) (by decide +kernel), List.mem_of_getElem? (i := 928) (by decide +kernel)⟩
theorem lw_p26 : lw_okq (⟨"ShelfSwarm$Fleet", "cellAside", "(I)I"⟩, 8) := ⟨⟨by decide +kernel, by decide +kernel⟩, List.mem_of_getElem? (i := 42) (by decide +kernel), List.mem_of_getElem? (i := 931) (by decide +kernel), List.mem_of_getElem? (i := 932) (by decide +kernel)⟩
theorem lw_p27 : lw_okq (⟨"ShelfSwarm$Fleet", "lineUpAskers", "()V"⟩, 8) := ⟨⟨by decide +kernel, by decide +kernel⟩, List.mem_of_getElem? (i := 42) (by decide +kernel), List.mem_of_getElem? (i := 941) (by decide +kernel), List.mem_of_getElem? (i := 942) (by decide +kernel)⟩
theorem lw_p28 : lw_okq (⟨"ShelfSwarm$Fleet", "placeInQueue", "(LShelfSwarm$Robot;)I"⟩, 8) := ⟨⟨by decide +kernel, by decide +kernel⟩, List.mem_of_getElem? (i := 42) (by decide +kernel), List.mem_of_getElem? (i := 945) (by decide +kernel), List.mem_of_getElem? (i := 946) (by decide +kernel)⟩
theorem lw_p29 : lw_okq (⟨"java/util/ArrayList", "rangeCheckForAdd", "(I)V"⟩, 3) := ⟨⟨by decide +kernel, by decide +kernel⟩, List.mem_of_getElem? (i := 64) (by decide +kernel), List.mem_of_getElem? (i := 958) (by decide +kernel), List.mem_of_getElem? (i := 959) (by decide +kernel)⟩
theorem lw_p30 : lw_okq (⟨"java/util/ArrayList", "outOfBoundsMsg", "(I)Ljava/lang/String;"⟩, 3) := ⟨⟨by decide +kernel, by decide +kernel⟩, List.mem_of_getElem? (i := 64) (by decide +kernel), List.mem_of_getElem? (i := 963) (by decide +kernel), List.mem_of_getElem? (i := 964) (by decide +kernel)⟩
theorem lw_p31 : lw_okq (⟨"ShelfSwarm", "findPick", "(I)LShelfSwarm$Pick;"⟩, 6) := ⟨⟨by decide +kernel, by decide +kernel⟩, List.mem_of_getElem? (i := 34) (by decide +kernel), List.mem_of_getElem? (i := 1228) (by decide +kernel), List.mem_of_getElem? (i := 1229) (by decide +kernel)⟩
def lw_privs_2 : List (MethodName × Nat) := [(⟨"ShelfSwarm", "sendRobots", "()V"⟩, 6), (⟨"ShelfSwarm", "sendRobotFor", "(LShelfSwarm$Station;)V"⟩, 6), (⟨"ShelfSwarm", "nearestTray", "(II)LShelfSwarm$Tray;"⟩, 6), (⟨"ShelfSwarm$Fleet", "wantedCell", "(LShelfSwarm$Robot;)I"⟩, 8), (⟨"ShelfSwarm$Fleet", "gatherRing", "(LShelfSwarm$Robot;)V"⟩, 8), (⟨"ShelfSwarm$Fleet", "turnRing", "()V"⟩, 8), (⟨"ShelfSwarm$Fleet", "moveRobot", "(LShelfSwarm$Robot;I)V"⟩, 8), (⟨"ShelfSwarm$Fleet", "breakRing", "(LShelfSwarm$Robot;LShelfSwarm$Robot;)V"⟩, 8), (⟨"ShelfSwarm$Fleet", "canYieldTo", "(LShelfSwarm$Robot;LShelfSwarm$Robot;)Z"⟩, 8), (⟨"ShelfSwarm$Fleet", "isAskedFor", "(I)Z"⟩, 8), (⟨"ShelfSwarm$Fleet", "cellAside", "(I)I"⟩, 8), (⟨"ShelfSwarm$Fleet", "lineUpAskers", "()V"⟩, 8), (⟨"ShelfSwarm$Fleet", "placeInQueue", "(LShelfSwarm$Robot;)I"⟩, 8), (⟨"java/util/ArrayList", "rangeCheckForAdd", "(I)V"⟩, 3), (⟨"java/util/ArrayList", "outOfBoundsMsg", "(I)Ljava/lang/String;"⟩, 3), (⟨"ShelfSwarm", "findPick", "(I)LShelfSwarm$Pick;"⟩, 6)]
theorem lw_r2 : ∀ q ∈ lw_privs_2, lw_okq q := List.forall_mem_cons.mpr ⟨lw_p16, List.forall_mem_cons.mpr ⟨lw_p17, List.forall_mem_cons.mpr ⟨lw_p18, List.forall_mem_cons.mpr ⟨lw_p19, List.forall_mem_cons.mpr ⟨lw_p20, List.forall_mem_cons.mpr ⟨lw_p21, List.forall_mem_cons.mpr ⟨lw_p22, List.forall_mem_cons.mpr ⟨lw_p23, List.forall_mem_cons.mpr ⟨lw_p24, List.forall_mem_cons.mpr ⟨lw_p25, List.forall_mem_cons.mpr ⟨lw_p26, List.forall_mem_cons.mpr ⟨lw_p27, List.forall_mem_cons.mpr ⟨lw_p28, List.forall_mem_cons.mpr ⟨lw_p29, List.forall_mem_cons.mpr ⟨lw_p30, List.forall_mem_cons.mpr ⟨lw_p31, fun _ h => absurd h List.not_mem_nil⟩⟩⟩⟩⟩⟩⟩⟩⟩⟩⟩⟩⟩⟩⟩⟩
theorem lw_p32 : lw_okq (⟨"ShelfSwarmModel", "homeOf", "(I)I"⟩, 40) := ⟨⟨by decide +kernel, by decide +kernel⟩, List.mem_of_getElem? (i := 1246) (by decide +kernel), List.mem_of_getElem? (i := 1389) (by decide +kernel), List.mem_of_getElem? (i := 1390) (by decide +kernel)⟩
theorem lw_p33 : lw_okq (⟨"ShelfSwarmModel", "stationAt", "(I)I"⟩, 40) := ⟨⟨by decide +kernel, by decide +kernel⟩, List.mem_of_getElem? (i := 1246) (by decide +kernel), List.mem_of_getElem? (i := 1393) (by decide +kernel), List.mem_of_getElem? (i := 1394) (by decide +kernel)⟩
theorem lw_p34 : lw_okq (⟨"ShelfSwarmModel", "robotAt", "(I)I"⟩, 40) := ⟨⟨by decide +kernel, by decide +kernel⟩, List.mem_of_getElem? (i := 1246) (by decide +kernel), List.mem_of_getElem? (i := 1397) (by decide +kernel), List.mem_of_getElem? (i := 1398) (by decide +kernel)⟩
theorem lw_p35 : lw_okq (⟨"ShelfSwarmModel", "holds", "(I)Z"⟩, 40) := ⟨⟨by decide +kernel, by decide +kernel⟩, List.mem_of_getElem? (i := 1246) (by decide +kernel), List.mem_of_getElem? (i := 1401) (by decide +kernel), List.mem_of_getElem? (i := 1402) (by decide +kernel)⟩
theorem lw_p36 : lw_okq (⟨"ShelfSwarmModel", "distanceOf", "(II)I"⟩, 40) := ⟨⟨by decide +kernel, by decide +kernel⟩, List.mem_of_getElem? (i := 1246) (by decide +kernel), List.mem_of_getElem? (i := 1413) (by decide +kernel), List.mem_of_getElem? (i := 1414) (by decide +kernel)⟩
theorem lw_p37 : lw_okq (⟨"ShelfSwarmModel", "lays", "(II)V"⟩, 40) := ⟨⟨by decide +kernel, by decide +kernel⟩, List.mem_of_getElem? (i := 1246) (by decide +kernel), List.mem_of_getElem? (i := 1417) (by decide +kernel), List.mem_of_getElem? (i := 1418) (by decide +kernel)⟩
theorem lw_p38 : lw_okq (⟨"ShelfSwarmModel", "isOpen", "(I)Z"⟩, 40) := ⟨⟨by decide +kernel, by decide +kernel⟩, List.mem_of_getElem? (i := 1246) (by decide +kernel), List.mem_of_getElem? (i := 1421) (by decide +kernel), List.mem_of_getElem? (i := 1422) (by decide +kernel)⟩
theorem lw_p39 : lw_okq (⟨"ShelfSwarmModel", "nearest", "(I)I"⟩, 40) := ⟨⟨by decide +kernel, by decide +kernel⟩, List.mem_of_getElem? (i := 1246) (by decide +kernel), List.mem_of_getElem? (i := 1428) (by decide +kernel), List.mem_of_getElem? (i := 1429) (by decide +kernel)⟩
theorem lw_p40 : lw_okq (⟨"ShelfSwarmModel", "isTray", "(I)Z"⟩, 40) := ⟨⟨by decide +kernel, by decide +kernel⟩, List.mem_of_getElem? (i := 1246) (by decide +kernel), List.mem_of_getElem? (i := 1444) (by decide +kernel), List.mem_of_getElem? (i := 1445) (by decide +kernel)⟩
theorem lw_p41 : lw_okq (⟨"ShelfSwarmModel", "robotWith", "(IZ)I"⟩, 40) := ⟨⟨by decide +kernel, by decide +kernel⟩, List.mem_of_getElem? (i := 1246) (by decide +kernel), List.mem_of_getElem? (i := 1448) (by decide +kernel), List.mem_of_getElem? (i := 1449) (by decide +kernel)⟩
theorem lw_p42 : lw_okq (⟨"ShelfSwarmModel", "isLine", "(II)Z"⟩, 40) := ⟨⟨by decide +kernel, by decide +kernel⟩, List.mem_of_getElem? (i := 1246) (by decide +kernel), List.mem_of_getElem? (i := 1464) (by decide +kernel), List.mem_of_getElem? (i := 1465) (by decide +kernel)⟩
theorem lw_p43 : lw_okq (⟨"ShelfSwarmModel", "becomes", "(II)V"⟩, 40) := ⟨⟨by decide +kernel, by decide +kernel⟩, List.mem_of_getElem? (i := 1246) (by decide +kernel), List.mem_of_getElem? (i := 1472) (by decide +kernel), List.mem_of_getElem? (i := 1473) (by decide +kernel)⟩
theorem lw_p44 : lw_okq (⟨"ShelfSwarmModel", "isRobot", "(I)Z"⟩, 40) := ⟨⟨by decide +kernel, by decide +kernel⟩, List.mem_of_getElem? (i := 1246) (by decide +kernel), List.mem_of_getElem? (i := 1500) (by decide +kernel), List.mem_of_getElem? (i := 1501) (by decide +kernel)⟩
theorem lw_p45 : lw_okq (⟨"ShelfSwarmModel", "passes", "()V"⟩, 40) := ⟨⟨by decide +kernel, by decide +kernel⟩, List.mem_of_getElem? (i := 1246) (by decide +kernel), List.mem_of_getElem? (i := 1532) (by decide +kernel), List.mem_of_getElem? (i := 1533) (by decide +kernel)⟩
theorem lw_p46 : lw_okq (⟨"ShelfSwarmModel", "picksFrom", "(I)V"⟩, 40) := ⟨⟨by decide +kernel, by decide +kernel⟩, List.mem_of_getElem? (i := 1246) (by decide +kernel), List.mem_of_getElem? (i := 1536) (by decide +kernel), List.mem_of_getElem? (i := 1537) (by decide +kernel)⟩
theorem lw_p47 : lw_okq (⟨"ShelfSwarmModel", "serves", "(I)V"⟩, 40) := ⟨⟨by decide +kernel, by decide +kernel⟩, List.mem_of_getElem? (i := 1246) (by decide +kernel), List.mem_of_getElem? (i := 1540) (by decide +kernel), List.mem_of_getElem? (i := 1541) (by decide +kernel)⟩
def lw_privs_3 : List (MethodName × Nat) := [(⟨"ShelfSwarmModel", "homeOf", "(I)I"⟩, 40), (⟨"ShelfSwarmModel", "stationAt", "(I)I"⟩, 40), (⟨"ShelfSwarmModel", "robotAt", "(I)I"⟩, 40), (⟨"ShelfSwarmModel", "holds", "(I)Z"⟩, 40), (⟨"ShelfSwarmModel", "distanceOf", "(II)I"⟩, 40), (⟨"ShelfSwarmModel", "lays", "(II)V"⟩, 40), (⟨"ShelfSwarmModel", "isOpen", "(I)Z"⟩, 40), (⟨"ShelfSwarmModel", "nearest", "(I)I"⟩, 40), (⟨"ShelfSwarmModel", "isTray", "(I)Z"⟩, 40), (⟨"ShelfSwarmModel", "robotWith", "(IZ)I"⟩, 40), (⟨"ShelfSwarmModel", "isLine", "(II)Z"⟩, 40), (⟨"ShelfSwarmModel", "becomes", "(II)V"⟩, 40), (⟨"ShelfSwarmModel", "isRobot", "(I)Z"⟩, 40), (⟨"ShelfSwarmModel", "passes", "()V"⟩, 40), (⟨"ShelfSwarmModel", "picksFrom", "(I)V"⟩, 40), (⟨"ShelfSwarmModel", "serves", "(I)V"⟩, 40)]
theorem lw_r3 : ∀ q ∈ lw_privs_3, lw_okq q := List.forall_mem_cons.mpr ⟨lw_p32, List.forall_mem_cons.mpr ⟨lw_p33, List.forall_mem_cons.mpr ⟨lw_p34, List.forall_mem_cons.mpr ⟨lw_p35, List.forall_mem_cons.mpr ⟨lw_p36, List.forall_mem_cons.mpr ⟨lw_p37, List.forall_mem_cons.mpr ⟨lw_p38, List.forall_mem_cons.mpr ⟨lw_p39, List.forall_mem_cons.mpr ⟨lw_p40, List.forall_mem_cons.mpr ⟨lw_p41, List.forall_mem_cons.mpr ⟨lw_p42, List.forall_mem_cons.mpr ⟨lw_p43, List.forall_mem_cons.mpr ⟨lw_p44, List.forall_mem_cons.mpr ⟨lw_p45, List.forall_mem_cons.mpr ⟨lw_p46, List.forall_mem_cons.mpr ⟨lw_p47, fun _ h => absurd h List.not_mem_nil⟩⟩⟩⟩⟩⟩⟩⟩⟩⟩⟩⟩⟩⟩⟩⟩
theorem lw_p48 : lw_okq (⟨"ShelfSwarmModel", "hasRobot", "(I)Z"⟩, 40) := ⟨⟨by decide +kernel, by decide +kernel⟩, List.mem_of_getElem? (i := 1246) (by decide +kernel), List.mem_of_getElem? (i := 1544) (by decide +kernel), List.mem_of_getElem? (i := 1545) (by decide +kernel)⟩
theorem lw_p49 : lw_okq (⟨"ShelfSwarmModel", "sends", "(II)Z"⟩, 40) := ⟨⟨by decide +kernel, by decide +kernel⟩, List.mem_of_getElem? (i := 1246) (by decide +kernel), List.mem_of_getElem? (i := 1548) (by decide +kernel), List.mem_of_getElem? (i := 1549) (by decide +kernel)⟩
theorem lw_p50 : lw_okq (⟨"ShelfSwarmModel", "trayFor", "(II)I"⟩, 40) := ⟨⟨by decide +kernel, by decide +kernel⟩, List.mem_of_getElem? (i := 1246) (by decide +kernel), List.mem_of_getElem? (i := 1552) (by decide +kernel), List.mem_of_getElem? (i := 1553) (by decide +kernel)⟩
theorem lw_p51 : lw_okq (⟨"ShelfSwarmModel", "robotFor", "(I)I"⟩, 40) := ⟨⟨by decide +kernel, by decide +kernel⟩, List.mem_of_getElem? (i := 1246) (by decide +kernel), List.mem_of_getElem? (i := 1556) (by decide +kernel), List.mem_of_getElem? (i := 1557) (by decide +kernel)⟩
theorem lw_p52 : lw_okq (⟨"ShelfSwarmModel", "asksFor", "(I)V"⟩, 40) := ⟨⟨by decide +kernel, by decide +kernel⟩, List.mem_of_getElem? (i := 1246) (by decide +kernel), List.mem_of_getElem? (i := 1560) (by decide +kernel), List.mem_of_getElem? (i := 1561) (by decide +kernel)⟩
theorem lw_p53 : lw_okq (⟨"ShelfSwarmModel", "goalOf", "(I)I"⟩, 40) := ⟨⟨by decide +kernel, by decide +kernel⟩, List.mem_of_getElem? (i := 1246) (by decide +kernel), List.mem_of_getElem? (i := 1564) (by decide +kernel), List.mem_of_getElem? (i := 1565) (by decide +kernel)⟩
theorem lw_p54 : lw_okq (⟨"ShelfSwarmModel", "resolves", "()V"⟩, 40) := ⟨⟨by decide +kernel, by decide +kernel⟩, List.mem_of_getElem? (i := 1246) (by decide +kernel), List.mem_of_getElem? (i := 1568) (by decide +kernel), List.mem_of_getElem? (i := 1569) (by decide +kernel)⟩
theorem lw_p55 : lw_okq (⟨"ShelfSwarmModel", "ringOf", "(I)I"⟩, 40) := ⟨⟨by decide +kernel, by decide +kernel⟩, List.mem_of_getElem? (i := 1246) (by decide +kernel), List.mem_of_getElem? (i := 1572) (by decide +kernel), List.mem_of_getElem? (i := 1573) (by decide +kernel)⟩
theorem lw_p56 : lw_okq (⟨"ShelfSwarmModel", "nextOf", "(I)I"⟩, 40) := ⟨⟨by decide +kernel, by decide +kernel⟩, List.mem_of_getElem? (i := 1246) (by decide +kernel), List.mem_of_getElem? (i := 1576) (by decide +kernel), List.mem_of_getElem? (i := 1577) (by decide +kernel)⟩
theorem lw_p57 : lw_okq (⟨"ShelfSwarmModel", "turns", "(I)V"⟩, 40) := ⟨⟨by decide +kernel, by decide +kernel⟩, List.mem_of_getElem? (i := 1246) (by decide +kernel), List.mem_of_getElem? (i := 1580) (by decide +kernel), List.mem_of_getElem? (i := 1581) (by decide +kernel)⟩
theorem lw_p58 : lw_okq (⟨"ShelfSwarmModel", "moves", "(II)V"⟩, 40) := ⟨⟨by decide +kernel, by decide +kernel⟩, List.mem_of_getElem? (i := 1246) (by decide +kernel), List.mem_of_getElem? (i := 1584) (by decide +kernel), List.mem_of_getElem? (i := 1585) (by decide +kernel)⟩
theorem lw_p59 : lw_okq (⟨"ShelfSwarmModel", "isAbove", "(II)Z"⟩, 40) := ⟨⟨by decide +kernel, by decide +kernel⟩, List.mem_of_getElem? (i := 1246) (by decide +kernel), List.mem_of_getElem? (i := 1588) (by decide +kernel), List.mem_of_getElem? (i := 1589) (by decide +kernel)⟩
theorem lw_p60 : lw_okq (⟨"ShelfSwarmModel", "yieldsTo", "(II)Z"⟩, 40) := ⟨⟨by decide +kernel, by decide +kernel⟩, List.mem_of_getElem? (i := 1246) (by decide +kernel), List.mem_of_getElem? (i := 1592) (by decide +kernel), List.mem_of_getElem? (i := 1593) (by decide +kernel)⟩
theorem lw_p61 : lw_okq (⟨"ShelfSwarmModel", "isAsked", "(I)Z"⟩, 40) := ⟨⟨by decide +kernel, by decide +kernel⟩, List.mem_of_getElem? (i := 1246) (by decide +kernel), List.mem_of_getElem? (i := 1596) (by decide +kernel), List.mem_of_getElem? (i := 1597) (by decide +kernel)⟩
theorem lw_p62 : lw_okq (⟨"ShelfSwarmModel", "stepsAside", "(I)V"⟩, 40) := ⟨⟨by decide +kernel, by decide +kernel⟩, List.mem_of_getElem? (i := 1246) (by decide +kernel), List.mem_of_getElem? (i := 1600) (by decide +kernel), List.mem_of_getElem? (i := 1601) (by decide +kernel)⟩
theorem lw_p63 : lw_okq (⟨"ShelfSwarmModel", "goes", "()V"⟩, 40) := ⟨⟨by decide +kernel, by decide +kernel⟩, List.mem_of_getElem? (i := 1246) (by decide +kernel), List.mem_of_getElem? (i := 1604) (by decide +kernel), List.mem_of_getElem? (i := 1605) (by decide +kernel)⟩
def lw_privs_4 : List (MethodName × Nat) := [(⟨"ShelfSwarmModel", "hasRobot", "(I)Z"⟩, 40), (⟨"ShelfSwarmModel", "sends", "(II)Z"⟩, 40), (⟨"ShelfSwarmModel", "trayFor", "(II)I"⟩, 40), (⟨"ShelfSwarmModel", "robotFor", "(I)I"⟩, 40), (⟨"ShelfSwarmModel", "asksFor", "(I)V"⟩, 40), (⟨"ShelfSwarmModel", "goalOf", "(I)I"⟩, 40), (⟨"ShelfSwarmModel", "resolves", "()V"⟩, 40), (⟨"ShelfSwarmModel", "ringOf", "(I)I"⟩, 40), (⟨"ShelfSwarmModel", "nextOf", "(I)I"⟩, 40), (⟨"ShelfSwarmModel", "turns", "(I)V"⟩, 40), (⟨"ShelfSwarmModel", "moves", "(II)V"⟩, 40), (⟨"ShelfSwarmModel", "isAbove", "(II)Z"⟩, 40), (⟨"ShelfSwarmModel", "yieldsTo", "(II)Z"⟩, 40), (⟨"ShelfSwarmModel", "isAsked", "(I)Z"⟩, 40), (⟨"ShelfSwarmModel", "stepsAside", "(I)V"⟩, 40), (⟨"ShelfSwarmModel", "goes", "()V"⟩, 40)]
theorem lw_r4 : ∀ q ∈ lw_privs_4, lw_okq q := List.forall_mem_cons.mpr ⟨lw_p48, List.forall_mem_cons.mpr ⟨lw_p49, List.forall_mem_cons.mpr ⟨lw_p50, List.forall_mem_cons.mpr ⟨lw_p51, List.forall_mem_cons.mpr ⟨lw_p52, List.forall_mem_cons.mpr ⟨lw_p53, List.forall_mem_cons.mpr ⟨lw_p54, List.forall_mem_cons.mpr ⟨lw_p55, List.forall_mem_cons.mpr ⟨lw_p56, List.forall_mem_cons.mpr ⟨lw_p57, List.forall_mem_cons.mpr ⟨lw_p58, List.forall_mem_cons.mpr ⟨lw_p59, List.forall_mem_cons.mpr ⟨lw_p60, List.forall_mem_cons.mpr ⟨lw_p61, List.forall_mem_cons.mpr ⟨lw_p62, List.forall_mem_cons.mpr ⟨lw_p63, fun _ h => absurd h List.not_mem_nil⟩⟩⟩⟩⟩⟩⟩⟩⟩⟩⟩⟩⟩⟩⟩⟩
theorem lw_p64 : lw_okq (⟨"ShelfSwarmModel", "arrives", "(I)V"⟩, 40) := ⟨⟨by decide +kernel, by decide +kernel⟩, List.mem_of_getElem? (i := 1246) (by decide +kernel), List.mem_of_getElem? (i := 1608) (by decide +kernel), List.mem_of_getElem? (i := 1609) (by decide +kernel)⟩
theorem lw_p65 : lw_okq (⟨"ShelfSwarmModel", "isPick", "(I)Z"⟩, 40) := ⟨⟨by decide +kernel, by decide +kernel⟩, List.mem_of_getElem? (i := 1246) (by decide +kernel), List.mem_of_getElem? (i := 1648) (by decide +kernel), List.mem_of_getElem? (i := 1649) (by decide +kernel)⟩
def lw_privs_5 : List (MethodName × Nat) := [(⟨"ShelfSwarmModel", "arrives", "(I)V"⟩, 40), (⟨"ShelfSwarmModel", "isPick", "(I)Z"⟩, 40)]
theorem lw_r5 : ∀ q ∈ lw_privs_5, lw_okq q := List.forall_mem_cons.mpr ⟨lw_p64, List.forall_mem_cons.mpr ⟨lw_p65, fun _ h => absurd h List.not_mem_nil⟩⟩
def lw_privs : List (MethodName × Nat) := lw_privs_1 ++ (lw_privs_2 ++ (lw_privs_3 ++ (lw_privs_4 ++ (lw_privs_5))))
def lw_tbl : List Cond := k2_sels lw_privs ++ tables_1
theorem lw_privs_ok : ∀ q ∈ lw_privs, lw_okq q := by
  show ∀ q ∈ lw_privs_1 ++ (lw_privs_2 ++ (lw_privs_3 ++ (lw_privs_4 ++ (lw_privs_5)))), lw_okq q
  exact List.forall_mem_append.mpr ⟨lw_r1, List.forall_mem_append.mpr ⟨lw_r2, List.forall_mem_append.mpr ⟨lw_r3, List.forall_mem_append.mpr ⟨lw_r4, lw_r5⟩⟩⟩⟩
end
section
/-! ===== BEGIN words of one list among another's, by their places ===== -/
theorem goodIn_r {big : List Cond} (ws : List Cond) (ps : List Nat) (hp : ws = ps.filterMap (fun i => big[i]?)) (h : ws.all goodWord = true) : GoodIn big ws := by
  intro w hw
  have h1 := List.all_eq_true.mp h w hw
  rw [hp] at hw
  obtain ⟨i, -, hi⟩ := List.mem_filterMap.mp hw
  have hm : w ∈ big := by first | exact List.mem_of_getElem? hi | exact List.getElem?_mem hi
  exact ⟨hm, good_of_word h1⟩
theorem goodIn_app {big a b : List Cond} (ha : GoodIn big a) (hb : GoodIn big b) : GoodIn big (a ++ b) := fun w h => (List.mem_append.mp h).elim (ha w) (hb w)
theorem goodIn_ca {big a b : List Cond} {c : Cond} (ha : GoodIn big (c :: a)) (hb : GoodIn big b) : GoodIn big (c :: (a ++ b)) := fun w h => (List.mem_cons.mp h).elim (fun e => ha w (List.mem_cons.mpr (Or.inl e))) (fun h => (List.mem_append.mp h).elim (fun h => ha w (List.mem_cons.mpr (Or.inr h))) (hb w))
theorem goodIn_sub {big ws : List Cond} (hm : ∀ w ∈ ws, w ∈ big) (h : ws.all goodWord = true) : GoodIn big ws := fun w hw => ⟨hm w hw, good_of_word (List.all_eq_true.mp h w hw)⟩
/-! ===== END ===== -/

/-! ===== BEGIN exceptions that leave a method, and their catching by the caller (launches without stack traces) ===== -/
section VXA
/-! The laws vx_back, vx_callV, vx_callS, vx_callSW, vx_throw0, vx_throwS follow proofs of the library, with one case more: JvmDerived/Free/Laws.lean (Back.of_free), Shelf42/LK1.lean (callV, callS), Shelf/KitTraced.lean (throwNew0V, throwNewS). -/
/-- where a method has thrown q: the class by its name, the cell, what was written, the world -/
def vx_T (XC : String → State → State → Prop) (st : State) (q : Addr) (t : State) (mc ms : Nat) (free : Addr → Prop) : Prop :=
  ∃ (E : String) (ce : Cell) (L : List Loc), XC E st t ∧ t.heap[q]? = some ce ∧ ce.vm = .none ∧ st.vm.findClass E = some ce.cls ∧ st.WarmedH t.vm ∧ st.sameButNew ({ t with vm := st.vm } : State) L mc ms ∧ ∀ z ∈ L, free z.base
def vx_Q (Qc : Array Value → State → Outcome → State → Prop) (XC : String → State → State → Prop) (mc ms : Nat) (free : Addr → Prop) : Array Value → State → Outcome → State → Prop := fun a st o t =>
  (Qc a st o t ∧ ∃ L, FrameEnd st o t L mc ms ∧ ∀ q ∈ L, free q.base) ∨ ∃ q, o = .threw q ∧ vx_T XC st q t mc ms free
/-- a callee that returns or throws -/
def vx_Met (l : Launch) (y : MethodName) (ws : List Cond) (rm : Room) (Pc : Array Value → State → Prop) (Qc : Array Value → State → Outcome → State → Prop) (XC : String → State → State → Prop) (mc ms : Nat) (free : Addr → Prop) : Prop :=
  MetFree l y (headSpec ws rm) Pc (fun _ _ _ _ _ => True) (vx_Q Qc XC mc ms free)
def vx_Post (XC : String → State → State → Prop) (mc ms : Nat) (free : Addr → Prop) : Pt → Array Value → Addr → Pt → Prop := fun A a q B =>
  ∃ (g : JFrame) (mk : MethodId) (t : State) (L : List Loc) (E : String) (ce : Cell), B.U.heap = t.heap ∧ B.U.vm = t.vm ∧ XC E (A.U.calling g mk a) t ∧ t.heap[q]? = some ce ∧ ce.vm = .none ∧ A.U.vm.findClass E = some ce.cls ∧ B.locs = A.locs ++ L ∧ (∀ z ∈ L, free z.base) ∧ B.cells = A.cells + mc ∧ B.slots = A.slots + ms
def vx_Back (l : Launch) (R : Room) (p : Program) (e : Env) (below : List Frame) (s : State) (sargs : Array Value) (y : MethodName) (len W9 : Nat)
    (Pre : Pt → Array Value → Prop) (Post : Pt → Array Value → Option Value → Pt → Prop) (PostX : Pt → Array Value → Addr → Pt → Prop) : Prop :=
  ∀ (m : MethodId) (meth : Method) (c : Code) (A : Pt) (g : JFrame) (ig : Instr) (mk : MethodId) (a : Array Value),
    Stand p l e R s m sargs below meth c A.U A.locs A.cells A.slots → g.method = m → g.locals.size = c.maxLocals → decode c.code g.pc = .ok (ig, len) →
    2 * g.monitorRoom + (g.stack.map fun v => v.category).sum ≤ W9 → A.U.methodNamed? y = some mk → Pre A a →
    (∃ (v : Option Value) (B : Pt), Stand p l e R s m sargs below meth c B.U B.locs B.cells B.slots ∧ Post A a v B ∧
      Steps p.tables e below (doInvoke e (A.U.setTop g) [] mk a).1 (B.U.setTop { g with pc := g.pc + len, stack := v.toList ++ g.stack })) ∨
    (∃ (q : Addr) (B : Pt), Stand p l e R s m sargs below meth c B.U B.locs B.cells B.slots ∧ PostX A a q B ∧
      Steps p.tables e below (doInvoke e (A.U.setTop g) [] mk a).1 ((B.U.setTop g).pushFrame (.throwing q)))
section Payer
variable {l : Launch} {R : Room} {p : Program} {e : Env} {below : List Frame} {s : State} {sargs : Array Value} {y : MethodName} {len W9 : Nat}
theorem vx_back {ws : List Cond} {rm : Room} {Pc : Array Value → State → Prop} {Qc : Array Value → State → Outcome → State → Prop} {XC : String → State → State → Prop} {mc ms : Nat} {free : Addr → Prop} {bytes : ByteArray} {maxL : Nat} {ret : Option FieldType}
    (hM : vx_Met l y ws rm Pc Qc XC mc ms free) (hblind : FrameBlind Pc) (hrc : rm.cells = mc) (hrs : rm.slots = ms)
    (hframes : rm.frames + 1 ≤ R.frames) (hlocals : W9 + (maxL + 11) + rm.locals ≤ R.locals)
    (hws : ∀ w ∈ ws, ∀ a' U, s.WarmedH U.vm → w.before a' U = true) (hcode : Cond.code y bytes maxL ret ∈ ws) (hinit : ∀ a' U, s.WarmedH U.vm → (Cond.initialized y.cls).before a' U = true) :
    vx_Back l R p e below s sargs y len W9 (PreOf R mc ms Pc) (PostOf Qc mc ms free) (vx_Post XC mc ms free) := by
  intro m meth c A g ig mk a X hg hsize hdg hW hn hp
  have h1 : (headSpec ws rm).pre.before a A.U = true := atoms_intro fun w hw => hws w hw _ _ X.warmed
  have h2 : (Cond.code y bytes maxL ret).before a A.U = true := hws _ hcode _ _ X.warmed
  have h3 : (Cond.initialized y.cls).before a A.U = true := hinit _ _ X.warmed
  have h4 : A.cells + (headSpec ws rm).room.cells ≤ R.cells := by rw [show (headSpec ws rm).room.cells = mc from hrc]; exact hp.1
  have h5 : A.slots + (headSpec ws rm).room.slots ≤ R.slots := by rw [show (headSpec ws rm).room.slots = ms from hrs]; exact hp.2.1
  have hPc : Pc a (A.U.calling g mk a) := hblind _ _ _ _ hp.2.2
  obtain ⟨U, Ls, c0, s0⟩ := A
  dsimp only [Pt.U, Pt.locs, Pt.cells, Pt.slots] at h1 h2 h3 h4 h5 X hn hPc ⊢
  obtain ⟨methY, cY, hmY, hcY, -, hlY, -, -, -, -⟩ := Cond.code_spec hn h2
  obtain ⟨kY, hkY, -⟩ := className_of_methodNamed hn
  have hinitY : kY.init = .initialized := Cond.initialized_spec (findClass_of_methodNamed hn) hkY h3
  have h : At U g.method c below := by rw [hg]; exact X.here
  have hlocals9 : W9 + (maxL + 11) + (headSpec ws rm).room.locals ≤ R.locals := hlocals
  have happ : (headSpec ws rm).appliesLoose y e.platform (U.calling g mk a) = true :=
    Spec.appliesLoose_calling (g := g) h hdg hn hkY hinitY
      (X.room_calling (g := g) (R' := (headSpec ws rm).room) hsize hmY hcY hframes (by rw [hlY]; omega) h4 h5) h1
  obtain ⟨mid, hmid⟩ := h.above
  have hfr : (U.setTop g).frames = (.java g :: mid) ++ below := by rw [State.frames_setTop' g h.top, hmid]; rfl
  obtain ⟨o, s₂, hsteps, -, hend, hq⟩ := Steps.callFree hM p X.admits X.cas X.clock (acts := []) hfr happ hPc trivial
  have hq' : vx_Q Qc XC mc ms free a (U.calling g mk a) o s₂ := hq
  rw [State.frames_setTop' g h.top] at hend
  obtain ⟨g₀, hg0⟩ := Option.isSome_iff_exists.mp h.top
  obtain ⟨r, hr⟩ := State.topJava?_eq_some.mp hg0
  have hr' : (({ U with heap := s₂.heap, slotsUsed := s₂.slotsUsed } : State).setVm s₂.vm).frames = .java g₀ :: r := hr
  rcases hq' with ⟨hqc, L, hfe, hL⟩ | ⟨q, rfl, E, ce, L, hx, hce, hcv, hcl, hW₂, hsm, hL⟩
  · obtain ⟨⟨v, rfl⟩, hW₂, e2, q2, q3, q4, q5, q6⟩ := id hfe
    have e3 : s₂ = ({ (U.calling g mk a).setFrames s₂.frames with heap := s₂.heap, slotsUsed := s₂.slotsUsed } : State).setVm s₂.vm := by
      have : s₂ = ({ s₂ with vm := (U.calling g mk a).vm } : State).setVm s₂.vm := rfl
      rw [e2] at this
      exact this
    obtain ⟨c₂, i₂, len₂, hc₂, hd₂, hf₂⟩ := hend
    have hW' : U.WarmedH s₂.vm := hW₂
    have hcc : c₂ = c := by
      have h1 : s₂.code? g.method = U.code? g.method := by
        rw [State.code?_eq, State.code?_eq, hW'.alike.method?]
      exact Option.some.inj (hc₂.symm.trans (h1.trans h.code))
    subst hcc
    have hlen : len₂ = len := by rw [hdg] at hd₂; cases hd₂; rfl
    subst hlen
    have hs₂ : s₂ = (({ U with heap := s₂.heap, slotsUsed := s₂.slotsUsed } : State).setVm s₂.vm).setTop { g with pc := g.pc + len₂, stack := v.toList ++ g.stack } := by
      refine e3.trans ?_
      rw [hf₂, State.calling_eq h.top, State.setFrames_setFrames, State.setTop_of_frames _ hr', hr]
      rfl
    have hsame : U.sameButNew ({ U with heap := s₂.heap, slotsUsed := s₂.slotsUsed } : State) L mc ms := by
      refine ⟨?_, q2, q3, q4, q5, q6⟩
      obtain ⟨t, ht, -⟩ := State.frames_cons hr
      show ({ U with heap := s₂.heap, slotsUsed := s₂.slotsUsed } : State) = { U.setFrames U.frames with heap := s₂.heap, slotsUsed := s₂.slotsUsed }
      rw [State.setFrames_self ht]
    subst hg
    refine Or.inl ⟨v, ⟨(({ U with heap := s₂.heap, slotsUsed := s₂.slotsUsed } : State).setVm s₂.vm), Ls ++ L, c0 + mc, s0 + ms⟩,
      ⟨X.admits, X.cas, X.clock, X.frames, X.room, X.hears, X.method, X.code, (X.here.setHeapUsed s₂.heap s₂.slotsUsed).setVm hW'.alike, X.tail, State.WarmedH.trans X.warmed hW', X.limits, X.bytes, X.same.trans (hsame.setVm s.vm)⟩,
      ⟨g, mk, s₂, L, rfl, rfl, hqc, rfl, hL, rfl, rfl⟩, ?_⟩
    show Steps p.tables e below _ ((({ U with heap := s₂.heap, slotsUsed := s₂.slotsUsed } : State).setVm s₂.vm).setTop { g with pc := g.pc + len₂, stack := v.toList ++ g.stack })
    rw [← hs₂]
    exact hsteps
  · obtain ⟨e2, q2, q3, q4, q5, q6⟩ := id hsm
    have e3 : s₂ = ({ (U.calling g mk a).setFrames s₂.frames with heap := s₂.heap, slotsUsed := s₂.slotsUsed } : State).setVm s₂.vm := by
      have : s₂ = ({ s₂ with vm := (U.calling g mk a).vm } : State).setVm s₂.vm := rfl
      rw [e2] at this
      exact this
    have hf₂ : s₂.frames = .throwing q :: .java g :: U.frames.tail := hend
    have hW' : U.WarmedH s₂.vm := hW₂
    have hs₂ : s₂ = ((({ U with heap := s₂.heap, slotsUsed := s₂.slotsUsed } : State).setVm s₂.vm).setTop g).pushFrame (.throwing q) := by
      refine e3.trans ?_
      rw [hf₂, State.calling_eq h.top, State.setFrames_setFrames, State.pushFrame, State.frames_setTop _ hr', State.setTop_of_frames _ hr', State.setFrames_setFrames, hr]
      rfl
    have hsame : U.sameButNew ({ U with heap := s₂.heap, slotsUsed := s₂.slotsUsed } : State) L mc ms := by
      refine ⟨?_, q2, q3, q4, q5, q6⟩
      obtain ⟨t, ht, -⟩ := State.frames_cons hr
      show ({ U with heap := s₂.heap, slotsUsed := s₂.slotsUsed } : State) = { U.setFrames U.frames with heap := s₂.heap, slotsUsed := s₂.slotsUsed }
      rw [State.setFrames_self ht]
    subst hg
    refine Or.inr ⟨q, ⟨(({ U with heap := s₂.heap, slotsUsed := s₂.slotsUsed } : State).setVm s₂.vm), Ls ++ L, c0 + mc, s0 + ms⟩,
      ⟨X.admits, X.cas, X.clock, X.frames, X.room, X.hears, X.method, X.code, (X.here.setHeapUsed s₂.heap s₂.slotsUsed).setVm hW'.alike, X.tail, State.WarmedH.trans X.warmed hW', X.limits, X.bytes, X.same.trans (hsame.setVm s.vm)⟩,
      ⟨g, mk, s₂, L, E, ce, rfl, rfl, hx, hce, hcv, hcl, rfl, hL, rfl, rfl⟩, ?_⟩
    show Steps p.tables e below _ (((({ U with heap := s₂.heap, slotsUsed := s₂.slotsUsed } : State).setVm s₂.vm).setTop g).pushFrame (.throwing q))
    rw [← hs₂]
    exact hsteps
end Payer
section Calls
variable {p : Program} {l : Launch} {e : Env} {R : Room} {s : State} {m : MethodId} {args : Array Value} {below : List Frame} {meth : Method} {c : Code} {T : State} {locs : List Loc} {cells slots : Nat}
theorem vx_callV (X : Stand p l e R s m args below meth c T locs cells slots) (hexec : p.tables.exec = Jvm.exec) {own C : String} {index : Nat} {y : MethodName} {bytes : ByteArray} {maxL : Nat} {ret : Option FieldType}
    (hown : s.vm.findClass own = some m.cls) (hlink : (Cond.methodLink own index y).before args s = true) (hinst : (Cond.instanceMethod y).before args s = true) (hsel : (Cond.selects C y y).before args s = true)
    (hcode : (Cond.code y bytes maxL ret).before args s = true) (hy : y.cls ≠ "java/lang/invoke/MethodHandle" ∧ y.cls ≠ "java/lang/invoke/VarHandle")
    {W9 : Nat} {Pre : Pt → Array Value → Prop} {Post : Pt → Array Value → Option Value → Pt → Prop} {PostX : Pt → Array Value → Addr → Pt → Prop} (hK : vx_Back l R p e below s args y 3 W9 Pre Post PostX)
    {b : Addr} {cellB : Cell} (hcell : T.heap[b]? = some cellB) (hobj : cellB.vm.isStatics = false) (hcls : s.vm.findClass C = some cellB.cls)
    {g : JFrame} (hg : g.method = m) (hsize : g.locals.size = c.maxLocals) {argsL rest : List Value} (hlen : ∀ sig, parseMethodDescriptor y.desc = some sig → argsL.length = sig.parameters.length)
    (hstack : g.stack = argsL.reverse ++ .ref b :: rest) (hW : 2 * g.monitorRoom + (rest.map fun v => v.category).sum ≤ W9) (hdg : decode c.code g.pc = .ok (.invokevirtual index, 3))
    (hpre : ∀ vm₁, s.WarmedH vm₁ → Pre ⟨T.setVm vm₁, locs, cells, slots⟩ (Value.ref b :: argsL).toArray) :
    (∃ (v : Option Value) (vm₁ : Vm) (B : Pt), s.WarmedH vm₁ ∧ Stand p l e R s m args below meth c B.U B.locs B.cells B.slots ∧ Post ⟨T.setVm vm₁, locs, cells, slots⟩ (Value.ref b :: argsL).toArray v B ∧
      ∀ target, Steps p.tables e below (B.U.setTop { g with pc := g.pc + 3, stack := v.toList ++ rest }) target → Steps p.tables e below (T.setTop g) target) ∨
    (∃ (q : Addr) (vm₁ : Vm) (B : Pt), s.WarmedH vm₁ ∧ Stand p l e R s m args below meth c B.U B.locs B.cells B.slots ∧ PostX ⟨T.setVm vm₁, locs, cells, slots⟩ (Value.ref b :: argsL).toArray q B ∧
      Steps p.tables e below (T.setTop g) ((B.U.setTop { g with stack := rest }).pushFrame (.throwing q))) := by
  obtain ⟨mk, methM, hnamed, hmethM, hstM, habM⟩ := Cond.instanceMethod_spec hinst
  obtain ⟨methM', cM, hmethM', -, -, -, -, -, -, hsigM⟩ := Cond.code_spec hnamed hcode
  cases hmethM.symm.trans hmethM'
  obtain ⟨c2, r2, m2, q1, q2, q3, q4, kP, hkP, hkPi⟩ := Cond.selects_spec hsel
  cases hcls.symm.trans q1
  cases (State.methodFound?_of_named hnamed hy).symm.trans q2
  cases hnamed.symm.trans q3
  have hselP : selectMethod e.platform s.vm cellB.cls mk = .method mk := by rw [Launch.admits_selectMethod X.admits]; exact q4
  obtain ⟨vm₁, X₁, hstep₁⟩ := X.invokevirtual hexec hown hlink hnamed hmethM hstM hkP hkPi hy (a := b) (cell := cellB) hcell
    (fun z h => by rw [h] at hobj; cases hobj) hselP hmethM habM hkP hkPi (g := g) hg (argsL := argsL) (rest := rest) (hlen _ hsigM) hstack hdg
  rcases hK m meth c ⟨T.setVm vm₁, locs, cells, slots⟩ { g with stack := rest } (.invokevirtual index) mk (Value.ref b :: argsL).toArray X₁ hg hsize hdg hW (X₁.named hnamed) (hpre vm₁ X₁.warmed) with ⟨v, B, X', hpost, hsteps⟩ | ⟨q, B, X', hpost, hsteps⟩
  · exact Or.inl ⟨v, vm₁, B, X₁.warmed, X', hpost, fun target h => hstep₁ _ fun acts => by rw [doInvoke_state]; exact hsteps.trans h⟩
  · exact Or.inr ⟨q, vm₁, B, X₁.warmed, X', hpost, hstep₁ _ fun acts => by rw [doInvoke_state]; exact hsteps⟩
theorem vx_callS (X : Stand p l e R s m args below meth c T locs cells slots) (hexec : p.tables.exec = Jvm.exec) {own : String} {index : Nat} {y : MethodName} {bytes : ByteArray} {maxL : Nat} {ret : Option FieldType}
    (hown : s.vm.findClass own = some m.cls) (hlink : (Cond.methodLink own index y).before args s = true) (hstat : (Cond.static y).before args s = true) (hinit : (Cond.initialized y.cls).before args s = true)
    (hcode : (Cond.code y bytes maxL ret).before args s = true) (hy : y.cls ≠ "java/lang/invoke/MethodHandle" ∧ y.cls ≠ "java/lang/invoke/VarHandle")
    {W9 : Nat} {Pre : Pt → Array Value → Prop} {Post : Pt → Array Value → Option Value → Pt → Prop} {PostX : Pt → Array Value → Addr → Pt → Prop} (hK : vx_Back l R p e below s args y 3 W9 Pre Post PostX)
    {g : JFrame} (hg : g.method = m) (hsize : g.locals.size = c.maxLocals) {argsL rest : List Value} (hlen : ∀ sig, parseMethodDescriptor y.desc = some sig → argsL.length = sig.parameters.length)
    (hstack : g.stack = argsL.reverse ++ rest) (hW : 2 * g.monitorRoom + (rest.map fun v => v.category).sum ≤ W9) (hdg : decode c.code g.pc = .ok (.invokestatic index, 3))
    (hpre : ∀ vm₁, s.WarmedH vm₁ → Pre ⟨T.setVm vm₁, locs, cells, slots⟩ argsL.toArray) :
    (∃ (v : Option Value) (vm₁ : Vm) (B : Pt), s.WarmedH vm₁ ∧ Stand p l e R s m args below meth c B.U B.locs B.cells B.slots ∧ Post ⟨T.setVm vm₁, locs, cells, slots⟩ argsL.toArray v B ∧
      ∀ target, Steps p.tables e below (B.U.setTop { g with pc := g.pc + 3, stack := v.toList ++ rest }) target → Steps p.tables e below (T.setTop g) target) ∨
    (∃ (q : Addr) (vm₁ : Vm) (B : Pt), s.WarmedH vm₁ ∧ Stand p l e R s m args below meth c B.U B.locs B.cells B.slots ∧ PostX ⟨T.setVm vm₁, locs, cells, slots⟩ argsL.toArray q B ∧
      Steps p.tables e below (T.setTop g) ((B.U.setTop { g with stack := rest }).pushFrame (.throwing q))) := by
  obtain ⟨mk, hnamed⟩ := Cond.code_named hcode
  obtain ⟨methM, cM, hmethM, -, -, -, -, -, -, hsigM⟩ := Cond.code_spec hnamed hcode
  have hstatic : methM.isStatic = true := Cond.static_spec hnamed hmethM hstat
  obtain ⟨kP, hkP, -⟩ := className_of_methodNamed hnamed
  have hinitP : kP.init = .initialized := Cond.initialized_spec (findClass_of_methodNamed hnamed) hkP hinit
  obtain ⟨vm₁, X₁, hstep₁⟩ := X.invokestatic hexec hown hlink hnamed hmethM hstatic hkP hinitP hy (g := g) hg (argsL := argsL) (rest := rest) (hlen _ hsigM) hstack hdg
  rcases hK m meth c ⟨T.setVm vm₁, locs, cells, slots⟩ { g with stack := rest } (.invokestatic index) mk argsL.toArray X₁ hg hsize hdg hW (X₁.named hnamed) (hpre vm₁ X₁.warmed) with ⟨v, B, X', hpost, hsteps⟩ | ⟨q, B, X', hpost, hsteps⟩
  · exact Or.inl ⟨v, vm₁, B, X₁.warmed, X', hpost, fun target h => hstep₁ _ fun acts => by rw [doInvoke_state]; exact hsteps.trans h⟩
  · exact Or.inr ⟨q, vm₁, B, X₁.warmed, X', hpost, hstep₁ _ fun acts => by rw [doInvoke_state]; exact hsteps⟩
end Calls
theorem vx_cls {s : State} {T : State} {vm₁ : Vm} {E : String} {k : ClassId} (hW : s.WarmedH vm₁) (h : (T.setVm vm₁).vm.findClass E = some k) : s.vm.findClass E = some k := by
  have h1 : vm₁.findClass E = some k := h
  rw [hW.alike.findClass] at h1
  exact h1
/-- the method's frame g, with q thrown over it -/
def vx_W (p : Program) (l : Launch) (e : Env) (R : Room) (s : State) (m : MethodId) (args : Array Value) (below : List Frame) (meth : Method) (c : Code) (H : Heap) (locs : List Loc) (cells slots : Nat) (Q : State → Prop) (g : JFrame) (q : Addr) : Prop :=
  ∀ T : State, T.heap = H → Stand p l e R s m args below meth c T locs cells slots → ∃ t, Steps p.tables e below ((T.setTop g).pushFrame (.throwing q)) t ∧ Q t
def vx_Run (p : Program) (l : Launch) (e : Env) (R : Room) (s : State) (m : MethodId) (args : Array Value) (below : List Frame) (meth : Method) (c : Code) (H : Heap) (locs : List Loc) (cells slots mc ms : Nat) (g : JFrame) (rest : List Value) (Qa : State → Outcome → State → Prop) (XC : String → State → State → Prop) (free : Addr → Prop) : Prop :=
  ∀ T : State, T.heap = H → Stand p l e R s m args below meth c T locs cells slots →
    (∃ (v : Option Value) (st₀ t T' : State) (L : List Loc), st₀.heap = H ∧ Stand p l e R s m args below meth c T' (locs ++ L) (cells + mc) (slots + ms) ∧ (∀ q ∈ L, free q.base) ∧ T'.heap = t.heap ∧ T'.vm = t.vm ∧ Qa st₀ (.returned v) t ∧
      Goes p e below T g T' { g with pc := g.pc + 3, stack := v.toList ++ rest }) ∨
    (∃ (q : Addr) (st₀ t T' : State) (L : List Loc) (E : String) (ce : Cell), st₀.heap = H ∧ Stand p l e R s m args below meth c T' (locs ++ L) (cells + mc) (slots + ms) ∧ (∀ z ∈ L, free z.base) ∧ T'.heap = t.heap ∧ T'.vm = t.vm ∧ XC E st₀ t ∧ t.heap[q]? = some ce ∧ ce.vm = .none ∧ s.vm.findClass E = some ce.cls ∧
      Steps p.tables e below (T.setTop g) ((T'.setTop { g with stack := rest }).pushFrame (.throwing q)))
def vx_X {S : Type} (px : S → Prop) (B : String → S → State → Prop) (A : Nat → Prop) : String → State → State → Prop := fun E st t => ∃ u : S, px u ∧ B E u t ∧ va_F A st t
section Runs
variable {p : Program} {l : Launch} {e : Env} {R : Room} {s : State} {m : MethodId} {args : Array Value} {below : List Frame} {meth : Method} {c : Code} {H : Heap} {locs : List Loc} {cells slots : Nat}
variable {y : MethodName} {bytes cc : ByteArray} {maxL nL mc ms n index : Nat} {ret : Option FieldType} {ws : List Cond} {rm : Room} {Pc : Array Value → State → Prop} {Qc : Array Value → State → Outcome → State → Prop} {XC : String → State → State → Prop} {free : Addr → Prop} {Ts : List Cond} {own C : String} {b : Addr} {As rest : List Value} {g : JFrame}
theorem vx_callBack (cb : CallB R s args own index y bytes maxL ret ws rm mc ms n) (hM : vx_Met l y ws rm Pc Qc XC mc ms free) (hbl : FrameBlind Pc) : vx_Back l R p e below s args y 3 8 (PreOf R mc ms Pc) (PostOf Qc mc ms free) (vx_Post XC mc ms free) := by
  obtain ⟨hrc, hrs, hfr, hlo, hws, hcw, -, hini, -⟩ := cb
  exact vx_back (bytes := bytes) (maxL := maxL) (ret := ret) hM hbl hrc hrs hfr hlo hws hcw (fun a' U hW => word_at hW (Or.inl (by first | rfl | simp [Cond.onTables, Cond.keeps, Cond.steady])) hini)
theorem vx_runV (S : CallFix p m c cc nL s args Ts own) (hM : vx_Met l y ws rm Pc Qc XC mc ms free) (cw : CallW R s args own C index y bytes maxL ret ws rm mc ms n) (hp : PreV s H C b Pc As)
    (hg : g.method = m) (hn : As.length = n) (hsize : g.locals.size = nL) (hstack : g.stack = As.reverse ++ .ref b :: rest) (hW : 2 * g.monitorRoom + (rest.map fun v => v.category).sum ≤ 8) (hdg : decode cc g.pc = .ok (.invokevirtual index, 3)) (hf : cells + mc ≤ R.cells ∧ slots + ms ≤ R.slots) :
    vx_Run p l e R s m args below meth c H locs cells slots mc ms g rest (Qc (Value.ref b :: As).toArray) XC free := by
  have hK : vx_Back l R p e below s args y 3 8 (PreOf R mc ms Pc) (PostOf Qc mc ms free) (vx_Post XC mc ms free) := vx_callBack cw.1 hM hp.1
  obtain ⟨⟨-, -, -, -, -, -, hcode, -, hy, hlen, hl⟩, hin, hse⟩ := cw
  obtain ⟨hx, hb, hml, ho, -⟩ := S
  obtain ⟨-, ⟨cellB, hcB, hoB, hclB⟩, hPc⟩ := hp
  intro T hT X
  rcases vx_callV X hx (C := C) (bytes := bytes) (maxL := maxL) (ret := ret) ho hl hin hse hcode hy hK (by rw [hT]; exact hcB) hoB hclB hg (hsize.trans hml.symm) (argsL := As) (rest := rest) (fun sig h => hn.trans (hlen sig h)) hstack hW (by rw [hb]; exact hdg)
    (fun vm₁ hW₁ => ⟨hf.1, hf.2, hPc (T.setVm vm₁) hT hW₁⟩) with ⟨v, vm₁, ⟨U', l2, c2, s2⟩, hW₁, X', ⟨g', mk, t, L, e1, e2, hq, h1, hL, h2, h3⟩, st⟩ | ⟨q, vm₁, ⟨U', l2, c2, s2⟩, hW₁, X', ⟨g', mk, t, L, E, ce, e1, e2, hq, hce, hcv, hcl, h1, hL, h2, h3⟩, st⟩
  · dsimp only [Pt.U, Pt.locs, Pt.cells, Pt.slots] at X' e1 e2 h1 h2 h3 st
    subst h1; subst h2; subst h3
    exact Or.inl ⟨v, (T.setVm vm₁).calling g' mk (Value.ref b :: As).toArray, t, U', L, hT, X', hL, e1, e2, hq, st⟩
  · dsimp only [Pt.U, Pt.locs, Pt.cells, Pt.slots] at X' e1 e2 h1 h2 h3 st hcl
    subst h1; subst h2; subst h3
    exact Or.inr ⟨q, (T.setVm vm₁).calling g' mk (Value.ref b :: As).toArray, t, U', L, E, ce, hT, X', hL, e1, e2, hq, hce, hcv, vx_cls hW₁ hcl, st⟩
theorem vx_runS (S : CallFix p m c cc nL s args Ts own) (hM : vx_Met l y ws rm Pc Qc XC mc ms free) (cw : CallB R s args own index y bytes maxL ret ws rm mc ms n ∧ (Cond.static y).before args s = true) (hp : PreS s H Pc As)
    (hg : g.method = m) (hn : As.length = n) (hsize : g.locals.size = nL) (hstack : g.stack = As.reverse ++ rest) (hW : 2 * g.monitorRoom + (rest.map fun v => v.category).sum ≤ 8) (hdg : decode cc g.pc = .ok (.invokestatic index, 3)) (hf : cells + mc ≤ R.cells ∧ slots + ms ≤ R.slots) :
    vx_Run p l e R s m args below meth c H locs cells slots mc ms g rest (Qc As.toArray) XC free := by
  have hK : vx_Back l R p e below s args y 3 8 (PreOf R mc ms Pc) (PostOf Qc mc ms free) (vx_Post XC mc ms free) := vx_callBack cw.1 hM hp.1
  obtain ⟨⟨-, -, -, -, -, -, hcode, hini, hy, hlen, hl⟩, hstt⟩ := cw
  obtain ⟨hx, hb, hml, ho, -⟩ := S
  intro T hT X
  rcases vx_callS X hx (bytes := bytes) (maxL := maxL) (ret := ret) ho hl hstt hini hcode hy hK hg (hsize.trans hml.symm) (argsL := As) (rest := rest) (fun sig h => hn.trans (hlen sig h)) hstack hW (by rw [hb]; exact hdg)
    (fun vm₁ hW₁ => ⟨hf.1, hf.2, hp.2 (T.setVm vm₁) hT hW₁⟩) with ⟨v, vm₁, ⟨U', l2, c2, s2⟩, hW₁, X', ⟨g', mk, t, L, e1, e2, hq, h1, hL, h2, h3⟩, st⟩ | ⟨q, vm₁, ⟨U', l2, c2, s2⟩, hW₁, X', ⟨g', mk, t, L, E, ce, e1, e2, hq, hce, hcv, hcl, h1, hL, h2, h3⟩, st⟩
  · dsimp only [Pt.U, Pt.locs, Pt.cells, Pt.slots] at X' e1 e2 h1 h2 h3 st
    subst h1; subst h2; subst h3
    exact Or.inl ⟨v, (T.setVm vm₁).calling g' mk As.toArray, t, U', L, hT, X', hL, e1, e2, hq, st⟩
  · dsimp only [Pt.U, Pt.locs, Pt.cells, Pt.slots] at X' e1 e2 h1 h2 h3 st hcl
    subst h1; subst h2; subst h3
    exact Or.inr ⟨q, (T.setVm vm₁).calling g' mk As.toArray, t, U', L, E, ce, hT, X', hL, e1, e2, hq, hce, hcv, vx_cls hW₁ hcl, st⟩
end Runs
section Rows
variable {p : Program} {l : Launch} {e : Env} {R : Room} {s : State} {m : MethodId} {args : Array Value} {below : List Frame} {meth : Method} {c : Code} {H : Heap} {locs : List Loc} {cells slots : Nat} {Q : State → Prop}
variable {mc ms : Nat} {free : Addr → Prop} {A0 A1 : Nat → Prop} {H0 : Heap} {a : Array Value} {pc : Nat} {ls : Array Slot} {st0 rest : List Value}
theorem vx_keep {st₀ t T' : State} {L : List Loc} (h0 : st₀.heap = H) (e1 : T'.heap = t.heap) (hS : va_S A0 H0 H locs) (hA : ∀ q, q < H.size → A1 q → A0 q) (hf : ∀ q, free q → A0 q) (hL : ∀ q ∈ L, free q.base) (hF : va_F A1 st₀ t) :
    H.size ≤ T'.heap.size ∧ (∀ q : Nat, q < H.size → ¬ A1 q → T'.heap[q]? = H[q]?) ∧ va_S A0 H0 T'.heap (locs ++ L) := by
  obtain ⟨hz, hk⟩ := hF
  rw [h0] at hz hk
  exact ⟨by rw [e1]; exact hz, fun q h1 h2 => by rw [e1]; exact hk q h1 h2,
    ⟨Nat.le_trans hS.1 (by rw [e1]; exact hz), fun q h1 h2 => by rw [e1, hk q (Nat.lt_of_lt_of_le h1 hS.1) (fun z => h2 (hA q (Nat.lt_of_lt_of_le h1 hS.1) z))]; exact hS.2.1 q h1 h2, fun q hq => by
      rcases List.mem_append.mp hq with h | h
      · exact hS.2.2 q h
      · exact hf _ (hL q h)⟩⟩
theorem vx_calli {S SX : Type} {post : Int32 → S → Prop} {px : SX → Prop} {B : S → State → Prop} {BX : String → SX → State → Prop} {AX : Nat → Prop} (hr : vx_Run p l e R s m args below meth c H locs cells slots mc ms (F0 m pc ls st0) rest (va_Qi post B A1 a) (vx_X px BX AX) free) (hS : va_S A0 H0 H locs) (hA : ∀ q, q < H.size → A1 q → A0 q) (hf : ∀ q, free q → A0 q) (hAX : ∀ q, q < H.size → AX q → A0 q)
    (kx : ∀ (E : String) (ce : Cell) (q9 : Addr) (u : SX) (t : State) (H1 : Heap) (locs1 : List Loc), t.heap = H1 → s.vm.Alike t.vm → px u → BX E u t → H.size ≤ H1.size → (∀ q : Nat, q < H.size → ¬ AX q → H1[q]? = H[q]?) → va_S A0 H0 H1 locs1 → H1[q9]? = some ce → ce.vm = .none → s.vm.findClass E = some ce.cls → vx_W p l e R s m args below meth c H1 locs1 (cells + mc) (slots + ms) Q (F0 m pc ls rest) q9)
    (kk : ∀ (r : Int32) (u : S) (t : State) (H1 : Heap) (locs1 : List Loc), t.heap = H1 → s.vm.Alike t.vm → post r u → B u t → H.size ≤ H1.size → (∀ q : Nat, q < H.size → ¬ A1 q → H1[q]? = H[q]?) → va_S A0 H0 H1 locs1 → W p l e R s m args below meth c H1 locs1 (cells + mc) (slots + ms) Q (F0 m (pc + 3) ls (.int r :: rest))) : W p l e R s m args below meth c H locs cells slots Q (F0 m pc ls st0) := by
  intro T hT X
  rcases hr T hT X with ⟨v, st₀, t, T', L, h0, X', hL, e1, e2, ⟨⟨r, u, hv, hp, hb⟩, hF⟩, st⟩ | ⟨q, st₀, t, T', L, E, ce, h0, X', hL, e1, e2, ⟨u, hp, hb, hF⟩, hce, hcv, hcl, st⟩
  · cases hv
    obtain ⟨k1, k2, k3⟩ := vx_keep h0 e1 hS hA hf hL hF
    obtain ⟨t2, a1, b1⟩ := kk r u t T'.heap (locs ++ L) e1.symm (by rw [← e2]; exact X'.warmed.alike) hp hb k1 k2 k3 T' rfl X'
    exact ⟨t2, st t2 a1, b1⟩
  · obtain ⟨k1, k2, k3⟩ := vx_keep h0 e1 hS hAX hf hL hF
    obtain ⟨t2, a1, b1⟩ := kx E ce q u t T'.heap (locs ++ L) e1.symm (by rw [← e2]; exact X'.warmed.alike) hp hb k1 k2 k3 (by rw [e1]; exact hce) hcv hcl T' rfl X'
    exact ⟨t2, st.trans a1, b1⟩
theorem vx_calll {S SX : Type} {post : Int64 → S → Prop} {px : SX → Prop} {B : S → State → Prop} {BX : String → SX → State → Prop} {AX : Nat → Prop} (hr : vx_Run p l e R s m args below meth c H locs cells slots mc ms (F0 m pc ls st0) rest (va_Ql post B A1 a) (vx_X px BX AX) free) (hS : va_S A0 H0 H locs) (hA : ∀ q, q < H.size → A1 q → A0 q) (hf : ∀ q, free q → A0 q) (hAX : ∀ q, q < H.size → AX q → A0 q)
    (kx : ∀ (E : String) (ce : Cell) (q9 : Addr) (u : SX) (t : State) (H1 : Heap) (locs1 : List Loc), t.heap = H1 → s.vm.Alike t.vm → px u → BX E u t → H.size ≤ H1.size → (∀ q : Nat, q < H.size → ¬ AX q → H1[q]? = H[q]?) → va_S A0 H0 H1 locs1 → H1[q9]? = some ce → ce.vm = .none → s.vm.findClass E = some ce.cls → vx_W p l e R s m args below meth c H1 locs1 (cells + mc) (slots + ms) Q (F0 m pc ls rest) q9)
    (kk : ∀ (r : Int64) (u : S) (t : State) (H1 : Heap) (locs1 : List Loc), t.heap = H1 → s.vm.Alike t.vm → post r u → B u t → H.size ≤ H1.size → (∀ q : Nat, q < H.size → ¬ A1 q → H1[q]? = H[q]?) → va_S A0 H0 H1 locs1 → W p l e R s m args below meth c H1 locs1 (cells + mc) (slots + ms) Q (F0 m (pc + 3) ls (.long r :: rest))) : W p l e R s m args below meth c H locs cells slots Q (F0 m pc ls st0) := by
  intro T hT X
  rcases hr T hT X with ⟨v, st₀, t, T', L, h0, X', hL, e1, e2, ⟨⟨r, u, hv, hp, hb⟩, hF⟩, st⟩ | ⟨q, st₀, t, T', L, E, ce, h0, X', hL, e1, e2, ⟨u, hp, hb, hF⟩, hce, hcv, hcl, st⟩
  · cases hv
    obtain ⟨k1, k2, k3⟩ := vx_keep h0 e1 hS hA hf hL hF
    obtain ⟨t2, a1, b1⟩ := kk r u t T'.heap (locs ++ L) e1.symm (by rw [← e2]; exact X'.warmed.alike) hp hb k1 k2 k3 T' rfl X'
    exact ⟨t2, st t2 a1, b1⟩
  · obtain ⟨k1, k2, k3⟩ := vx_keep h0 e1 hS hAX hf hL hF
    obtain ⟨t2, a1, b1⟩ := kx E ce q u t T'.heap (locs ++ L) e1.symm (by rw [← e2]; exact X'.warmed.alike) hp hb k1 k2 k3 (by rw [e1]; exact hce) hcv hcl T' rfl X'
    exact ⟨t2, st.trans a1, b1⟩
theorem vx_callf {S SX : Type} {post : UInt32 → S → Prop} {px : SX → Prop} {B : S → State → Prop} {BX : String → SX → State → Prop} {AX : Nat → Prop} (hr : vx_Run p l e R s m args below meth c H locs cells slots mc ms (F0 m pc ls st0) rest (va_Qf post B A1 a) (vx_X px BX AX) free) (hS : va_S A0 H0 H locs) (hA : ∀ q, q < H.size → A1 q → A0 q) (hf : ∀ q, free q → A0 q) (hAX : ∀ q, q < H.size → AX q → A0 q)
    (kx : ∀ (E : String) (ce : Cell) (q9 : Addr) (u : SX) (t : State) (H1 : Heap) (locs1 : List Loc), t.heap = H1 → s.vm.Alike t.vm → px u → BX E u t → H.size ≤ H1.size → (∀ q : Nat, q < H.size → ¬ AX q → H1[q]? = H[q]?) → va_S A0 H0 H1 locs1 → H1[q9]? = some ce → ce.vm = .none → s.vm.findClass E = some ce.cls → vx_W p l e R s m args below meth c H1 locs1 (cells + mc) (slots + ms) Q (F0 m pc ls rest) q9)
    (kk : ∀ (r : UInt32) (u : S) (t : State) (H1 : Heap) (locs1 : List Loc), t.heap = H1 → s.vm.Alike t.vm → post r u → B u t → H.size ≤ H1.size → (∀ q : Nat, q < H.size → ¬ A1 q → H1[q]? = H[q]?) → va_S A0 H0 H1 locs1 → W p l e R s m args below meth c H1 locs1 (cells + mc) (slots + ms) Q (F0 m (pc + 3) ls (.float r :: rest))) : W p l e R s m args below meth c H locs cells slots Q (F0 m pc ls st0) := by
  intro T hT X
  rcases hr T hT X with ⟨v, st₀, t, T', L, h0, X', hL, e1, e2, ⟨⟨r, u, hv, hp, hb⟩, hF⟩, st⟩ | ⟨q, st₀, t, T', L, E, ce, h0, X', hL, e1, e2, ⟨u, hp, hb, hF⟩, hce, hcv, hcl, st⟩
  · cases hv
    obtain ⟨k1, k2, k3⟩ := vx_keep h0 e1 hS hA hf hL hF
    obtain ⟨t2, a1, b1⟩ := kk r u t T'.heap (locs ++ L) e1.symm (by rw [← e2]; exact X'.warmed.alike) hp hb k1 k2 k3 T' rfl X'
    exact ⟨t2, st t2 a1, b1⟩
  · obtain ⟨k1, k2, k3⟩ := vx_keep h0 e1 hS hAX hf hL hF
    obtain ⟨t2, a1, b1⟩ := kx E ce q u t T'.heap (locs ++ L) e1.symm (by rw [← e2]; exact X'.warmed.alike) hp hb k1 k2 k3 (by rw [e1]; exact hce) hcv hcl T' rfl X'
    exact ⟨t2, st.trans a1, b1⟩
theorem vx_calld {S SX : Type} {post : UInt64 → S → Prop} {px : SX → Prop} {B : S → State → Prop} {BX : String → SX → State → Prop} {AX : Nat → Prop} (hr : vx_Run p l e R s m args below meth c H locs cells slots mc ms (F0 m pc ls st0) rest (va_Qd post B A1 a) (vx_X px BX AX) free) (hS : va_S A0 H0 H locs) (hA : ∀ q, q < H.size → A1 q → A0 q) (hf : ∀ q, free q → A0 q) (hAX : ∀ q, q < H.size → AX q → A0 q)
    (kx : ∀ (E : String) (ce : Cell) (q9 : Addr) (u : SX) (t : State) (H1 : Heap) (locs1 : List Loc), t.heap = H1 → s.vm.Alike t.vm → px u → BX E u t → H.size ≤ H1.size → (∀ q : Nat, q < H.size → ¬ AX q → H1[q]? = H[q]?) → va_S A0 H0 H1 locs1 → H1[q9]? = some ce → ce.vm = .none → s.vm.findClass E = some ce.cls → vx_W p l e R s m args below meth c H1 locs1 (cells + mc) (slots + ms) Q (F0 m pc ls rest) q9)
    (kk : ∀ (r : UInt64) (u : S) (t : State) (H1 : Heap) (locs1 : List Loc), t.heap = H1 → s.vm.Alike t.vm → post r u → B u t → H.size ≤ H1.size → (∀ q : Nat, q < H.size → ¬ A1 q → H1[q]? = H[q]?) → va_S A0 H0 H1 locs1 → W p l e R s m args below meth c H1 locs1 (cells + mc) (slots + ms) Q (F0 m (pc + 3) ls (.double r :: rest))) : W p l e R s m args below meth c H locs cells slots Q (F0 m pc ls st0) := by
  intro T hT X
  rcases hr T hT X with ⟨v, st₀, t, T', L, h0, X', hL, e1, e2, ⟨⟨r, u, hv, hp, hb⟩, hF⟩, st⟩ | ⟨q, st₀, t, T', L, E, ce, h0, X', hL, e1, e2, ⟨u, hp, hb, hF⟩, hce, hcv, hcl, st⟩
  · cases hv
    obtain ⟨k1, k2, k3⟩ := vx_keep h0 e1 hS hA hf hL hF
    obtain ⟨t2, a1, b1⟩ := kk r u t T'.heap (locs ++ L) e1.symm (by rw [← e2]; exact X'.warmed.alike) hp hb k1 k2 k3 T' rfl X'
    exact ⟨t2, st t2 a1, b1⟩
  · obtain ⟨k1, k2, k3⟩ := vx_keep h0 e1 hS hAX hf hL hF
    obtain ⟨t2, a1, b1⟩ := kx E ce q u t T'.heap (locs ++ L) e1.symm (by rw [← e2]; exact X'.warmed.alike) hp hb k1 k2 k3 (by rw [e1]; exact hce) hcv hcl T' rfl X'
    exact ⟨t2, st.trans a1, b1⟩
theorem vx_callv {S SX : Type} {post : S → Prop} {px : SX → Prop} {B : S → State → Prop} {BX : String → SX → State → Prop} {AX : Nat → Prop} (hr : vx_Run p l e R s m args below meth c H locs cells slots mc ms (F0 m pc ls st0) rest (va_Qv post B A1 a) (vx_X px BX AX) free) (hS : va_S A0 H0 H locs) (hA : ∀ q, q < H.size → A1 q → A0 q) (hf : ∀ q, free q → A0 q) (hAX : ∀ q, q < H.size → AX q → A0 q)
    (kx : ∀ (E : String) (ce : Cell) (q9 : Addr) (u : SX) (t : State) (H1 : Heap) (locs1 : List Loc), t.heap = H1 → s.vm.Alike t.vm → px u → BX E u t → H.size ≤ H1.size → (∀ q : Nat, q < H.size → ¬ AX q → H1[q]? = H[q]?) → va_S A0 H0 H1 locs1 → H1[q9]? = some ce → ce.vm = .none → s.vm.findClass E = some ce.cls → vx_W p l e R s m args below meth c H1 locs1 (cells + mc) (slots + ms) Q (F0 m pc ls rest) q9)
    (kk : ∀ (u : S) (t : State) (H1 : Heap) (locs1 : List Loc), t.heap = H1 → s.vm.Alike t.vm → post u → B u t → H.size ≤ H1.size → (∀ q : Nat, q < H.size → ¬ A1 q → H1[q]? = H[q]?) → va_S A0 H0 H1 locs1 → W p l e R s m args below meth c H1 locs1 (cells + mc) (slots + ms) Q (F0 m (pc + 3) ls (rest))) : W p l e R s m args below meth c H locs cells slots Q (F0 m pc ls st0) := by
  intro T hT X
  rcases hr T hT X with ⟨v, st₀, t, T', L, h0, X', hL, e1, e2, ⟨⟨u, hv, hp, hb⟩, hF⟩, st⟩ | ⟨q, st₀, t, T', L, E, ce, h0, X', hL, e1, e2, ⟨u, hp, hb, hF⟩, hce, hcv, hcl, st⟩
  · cases hv
    obtain ⟨k1, k2, k3⟩ := vx_keep h0 e1 hS hA hf hL hF
    obtain ⟨t2, a1, b1⟩ := kk u t T'.heap (locs ++ L) e1.symm (by rw [← e2]; exact X'.warmed.alike) hp hb k1 k2 k3 T' rfl X'
    exact ⟨t2, st t2 a1, b1⟩
  · obtain ⟨k1, k2, k3⟩ := vx_keep h0 e1 hS hAX hf hL hF
    obtain ⟨t2, a1, b1⟩ := kx E ce q u t T'.heap (locs ++ L) e1.symm (by rw [← e2]; exact X'.warmed.alike) hp hb k1 k2 k3 (by rw [e1]; exact hce) hcv hcl T' rfl X'
    exact ⟨t2, st.trans a1, b1⟩
/-- caught by the row x of this method's table; the rows ahead don't take it -/
theorem vx_catch {own name : String} {E : String} {ce : Cell} {q : Addr} (hown : s.vm.findClass own = some m.cls) (pre : List ExceptionTableEntry) (x : ExceptionTableEntry) (suf : List ExceptionTableEntry) (hsplit : c.exceptionTable.toList = pre ++ x :: suf)
    (hpass : ∀ z ∈ pre, covers z pc = false ∨ (z.catchType ≠ 0 ∧ ∃ nm : String, (Cond.classLink own z.catchType nm).before args s = true ∧ va_Nc E nm s)) (hx : covers x pc = true) (h0 : x.catchType ≠ 0)
    (hlink : (Cond.classLink own x.catchType name).before args s = true) (hcast : (Cond.castable E name).before args s = true) (hcell : H[q]? = some ce) (hv : ce.vm = .none) (hcl : s.vm.findClass E = some ce.cls)
    (kk : W p l e R s m args below meth c H locs cells slots Q (F0 m x.handlerPc ls [.ref q])) : vx_W p l e R s m args below meth c H locs cells slots Q (F0 m pc ls rest) q := by
  intro T hT X
  have hpl : e.platform.magicAccessors = ({} : Platform).magicAccessors := by rw [X.admits.platform]
  obtain ⟨c3, c4, hc3, hc4, hasg⟩ := Cond.castable_spec hcast
  cases Option.some.inj (hc3.symm.trans hcl)
  obtain ⟨c5, hc5, hcl5⟩ := Cond.classLink_spec hown hlink e.platform hpl
  cases Option.some.inj (hc4.symm.trans hc5)
  obtain ⟨vm', X', st⟩ := X.thenCaughtThrough q (g := F0 m pc ls rest) rfl (Steps.refl _) (by rw [hT]; exact hcell) (by rw [hv]; rfl) (by obtain ⟨k9, h9, -⟩ := Vm.findClass_spec hcl; exact ⟨k9, h9⟩) pre x suf hsplit
    (fun z hz => by
      rcases hpass z hz with h | ⟨hz0, nm, hl1, hn1⟩
      · exact Or.inl h
      · obtain ⟨c6, hc6, hcl6⟩ := Cond.classLink_spec hown hl1 e.platform hpl
        obtain ⟨a8, b8, h1, h2, h3⟩ := hn1
        cases Option.some.inj (h1.symm.trans hcl)
        cases Option.some.inj (h2.symm.trans hc6)
        exact Or.inr ⟨hz0, _, hcl6, h3⟩) hx (Or.inr ⟨h0, c4, hcl5, hasg⟩)
  obtain ⟨t, a1, b1⟩ := kk (T.setVm vm') hT X'
  exact ⟨t, st.trans a1, b1⟩
end Rows
section Ends
variable {p : Program} {l : Launch} {e : Env} {R : Room} {s : State} {m : MethodId} {args : Array Value} {below : List Frame} {meth : Method} {c : Code} {H : Heap} {locs : List Loc} {cells slots : Nat} {Q : State → Prop}
variable {mc ms : Nat} {free : Addr → Prop} {A0 A1 : Nat → Prop} {H0 : Heap} {a : Array Value} {ls : Array Slot} {st0 rest : List Value}
variable {Qc : Array Value → State → Outcome → State → Prop} {XC : String → State → State → Prop}
/-- what a body that may throw owes at its end -/
def vx_MQ (below : List Frame) (Qc : Array Value → State → Outcome → State → Prop) (XC : String → State → State → Prop) (a : Array Value) (s : State) (mc ms : Nat) (free : Addr → Prop) : State → Prop := fun t =>
  ∃ o, t.status = .running ∧ Ended t below o ∧ vx_Q Qc XC mc ms free a s o t
theorem vx_ret {g : JFrame} {mc ms : Nat} (k : W p l e R s m args below meth c H locs cells slots (MQ below Qc args s mc ms free) g) : W p l e R s m args below meth c H locs cells slots (vx_MQ below Qc XC args s mc ms free) g := by
  intro T hT X
  obtain ⟨t, a1, o, b1, b2, b3, b4⟩ := k T hT X
  exact ⟨t, a1, o, b1, b2, Or.inl ⟨b3, b4⟩⟩
/-- not caught here: it goes on to the caller -/
theorem vx_widen {g : JFrame} {q : Addr} {k n : Nat} (h1 : cells ≤ k) (h2 : slots ≤ n) (kk : vx_W p l e R s m args below meth c H locs k n Q g q) : vx_W p l e R s m args below meth c H locs cells slots Q g q := fun T hT X => kk T hT (stand_widen X h1 h2)
theorem vx_out {pc : Nat} {E : String} {ce : Cell} {q : Addr} {mc ms : Nat} (hout : ∀ x ∈ c.exceptionTable.toList, covers x pc = false) (hlocks : meth.locks = false) (hcell : H[q]? = some ce) (hv : ce.vm = .none) (hcl : s.vm.findClass E = some ce.cls)
    (hx : ∀ t : State, t.heap = H → s.vm.Alike t.vm → XC E s t) (hf : ∀ z ∈ locs, free z.base) (hc : cells ≤ mc) (hs : slots ≤ ms) :
    vx_W p l e R s m args below meth c H locs cells slots (vx_MQ below Qc XC args s mc ms free) (F0 m pc ls rest) q := by
  intro T hT X
  obtain ⟨st1, hrun, hend, hW, hsm⟩ := X.leaveThrown q (g := F0 m pc ls rest) rfl rfl rfl hout hlocks
  have hcell9 : (T.setFrames (.throwing q :: below)).heap[q]? = some ce := by
    show T.heap[q]? = some ce
    rw [hT]; exact hcell
  exact ⟨_, st1, .threw q, hrun, hend, Or.inr ⟨q, rfl, E, ce, locs, hx _ hT hW.alike, hcell9, hv, hcl, hW, hsm.mono hc hs, hf⟩⟩
theorem vx_frame {U : State} {k n : Nat} (h : s.sameButNew ({ U with vm := s.vm } : State) locs k n) : s.heap.size ≤ U.heap.size ∧ ∀ q : Nat, q < s.heap.size → (∀ z ∈ locs, z.base ≠ q) → U.heap[q]? = s.heap[q]? := by
  obtain ⟨-, h2, -, -, -, h6⟩ := h
  refine ⟨h2, fun q hq hz => ?_⟩
  obtain ⟨c9, e1, e2, e3, e4⟩ := h6 q _ (Array.getElem?_eq_getElem hq)
  have hs : c9.slots = (s.heap[q]).slots := Array.ext_getElem? fun i => e4 i fun hm => hz _ hm rfl
  have h9 : c9 = s.heap[q] := by
    rw [hs] at e2
    exact e2
  have e5 : U.heap[q]? = some c9 := e1
  rw [e5, h9, Array.getElem?_eq_getElem hq]
/-- the words of a throw but the four that speak of the heap -/
def vx_no (w : Cond) : Bool := decide (w ≠ .isRef (.static Bundle.tN "UNASSIGNED_STACK" Bundle.steD)) && decide (w ≠ .isRef (.static Bundle.tN "SUPPRESSED_SENTINEL" Bundle.listD)) && decide (w ≠ .laysStatic Bundle.tN "UNASSIGNED_STACK" Bundle.steD) && decide (w ≠ .laysStatic Bundle.tN "SUPPRESSED_SENTINEL" Bundle.listD)
def vx_at0 (own : String) (ic : Nat) (X : String) (names : List String) : List Cond := (Bundle.ownAtoms0 own ic X names).filter vx_no
def vx_atS (own : String) (ic : Nat) (X : String) (names : List String) : List Cond := (Bundle.ownAtoms own ic X names).filter vx_no
/-- a word that the tables alone decide, or a good one -/
def vx_ot (w : Cond) : Bool := w.onTables || goodWord w
theorem vx_ot_at {args a' : Array Value} {s U : State} {w : Cond} (hW : s.WarmedH U.vm) (hvm : s.vm = U.vm) (hg : vx_ot w = true) (h : w.before args s = true) : w.before a' U = true := by
  simp only [vx_ot, Bool.or_eq_true] at hg
  rcases hg with hg | hg
  · exact va_tabs hg hvm h
  · exact word_at hW (good_of_word hg) h
/-- a list's words: the good ones out of the method's own list, the others by premises of their own -/
theorem vx_hat {args : Array Value} {s : State} {L B : List Cond} (h1 : ∀ w ∈ L.filter goodWord, w.before args s = true) (h2 : ∀ w ∈ L.filter (fun w => !goodWord w), w ∈ B) (h3 : ∀ w ∈ B, w.before args s = true) : ∀ w ∈ L, w.before args s = true := by
  intro w hw
  by_cases g : goodWord w = true
  · exact h1 w (List.mem_filter.mpr ⟨hw, g⟩)
  · refine h3 w (h2 w (List.mem_filter.mpr ⟨hw, ?_⟩))
    show (!goodWord w) = true
    cases hgw : goodWord w
    · rfl
    · exact absurd hgw g
theorem vx_c {args : Array Value} {s : State} {w : Cond} {B : List Cond} (h : w.before args s = true) (t : ∀ w ∈ B, w.before args s = true) : ∀ w' ∈ w :: B, w'.before args s = true := fun w' h' => (List.mem_cons.mp h').elim (fun e => by rw [e]; exact h) (t w')
theorem vx_n {args : Array Value} {s : State} : ∀ w ∈ ([] : List Cond), w.before args s = true := fun _ h => nomatch h
theorem vx_own {args : Array Value} {s : State} {L : List Cond} (h1 : ∀ w ∈ L.filter vx_no, w.before args s = true)
    (hU : (Cond.isRef (.static Bundle.tN "UNASSIGNED_STACK" Bundle.steD)).before args s = true) (hN : (Cond.isRef (.static Bundle.tN "SUPPRESSED_SENTINEL" Bundle.listD)).before args s = true)
    (lU : (Cond.laysStatic Bundle.tN "UNASSIGNED_STACK" Bundle.steD).before args s = true) (lN : (Cond.laysStatic Bundle.tN "SUPPRESSED_SENTINEL" Bundle.listD).before args s = true) : ∀ w ∈ L, w.before args s = true := by
  intro w hw
  by_cases e1 : w = .isRef (.static Bundle.tN "UNASSIGNED_STACK" Bundle.steD)
  · rw [e1]; exact hU
  · by_cases e2 : w = .isRef (.static Bundle.tN "SUPPRESSED_SENTINEL" Bundle.listD)
    · rw [e2]; exact hN
    · by_cases e3 : w = .laysStatic Bundle.tN "UNASSIGNED_STACK" Bundle.steD
      · rw [e3]; exact lU
      · by_cases e4 : w = .laysStatic Bundle.tN "SUPPRESSED_SENTINEL" Bundle.listD
        · rw [e4]; exact lN
        · exact h1 w (List.mem_filter.mpr ⟨hw, by unfold vx_no; rw [decide_eq_true e1, decide_eq_true e2, decide_eq_true e3, decide_eq_true e4]; rfl⟩)
/-- where a static field lies, its class's statics cell in H -/
def vx_L (C n d : String) (A : Nat → Prop) (U : State) (H : Heap) : Prop := ∃ (c : ClassId) (k : Class) (i : Nat) (f : Field) (a : Nat) (cell : Cell), U.vm.findClass C = some c ∧ U.fieldFound? C n d = some (c, k, i, f) ∧ f.isStatic = true ∧ k.statics = some a ∧ H[a]? = some cell ∧ cell.vm.isStatics = true ∧ cell.cls = c ∧ f.slot < cell.slots.size ∧ k.staticTypes[f.slot]? = some f.type ∧ ¬ A a
theorem vx_L.moved {C n d : String} {A : Nat → Prop} {u U : State} {H : Heap} (hvm : u.vm.Alike U.vm) (h : vx_L C n d A u H) : vx_L C n d A U H := by
  obtain ⟨c, k, i, f, a, cell, h1, h2, h3, h4, h5, h6, h7, h8, h9, h10⟩ := h
  obtain ⟨k', hi', he⟩ := State.fieldFound?_setVm hvm h2
  exact ⟨c, k', i, f, a, cell, by rw [hvm.findClass]; exact h1, hi', h3, by rw [he]; exact h4, h5, h6, h7, h8, by rw [he]; exact h9, h10⟩
theorem vx_L.kept {C n d : String} {A : Nat → Prop} {U : State} {H H1 : Heap} (h : vx_L C n d A U H) (hq : ∀ a : Nat, a < H.size → ¬ A a → H1[a]? = H[a]?) : vx_L C n d A U H1 := by
  obtain ⟨c, k, i, f, a, cell, h1, h2, h3, h4, h5, h6, h7, h8, h9, h10⟩ := h
  exact ⟨c, k, i, f, a, cell, h1, h2, h3, h4, by rw [hq a (Array.getElem?_eq_some_iff.mp h5).1 h10]; exact h5, h6, h7, h8, h9, h10⟩
theorem vx_L.narrow {C n d : String} {A B : Nat → Prop} {U : State} {H : Heap} (h : vx_L C n d A U H) (hAB : ∀ q, B q → A q) : vx_L C n d B U H := by
  obtain ⟨c, k, i, f, a, cell, h1, h2, h3, h4, h5, h6, h7, h8, h9, h10⟩ := h
  exact ⟨c, k, i, f, a, cell, h1, h2, h3, h4, h5, h6, h7, h8, h9, fun z => h10 (hAB _ z)⟩
theorem vx_L.word {C n d : String} {A : Nat → Prop} {s : State} {args : Array Value} (h : vx_L C n d A s s.heap) : (Cond.laysStatic C n d).before args s = true := by
  obtain ⟨c, k, i, f, a, cell, h1, h2, h3, h4, h5, h6, h7, h8, h9, -⟩ := h
  show (Cond.laysStatic C n d).holds args s none s [] = true
  exact Cond.laysStatic_of h1 h2 h3 h4 h5 h6 h7 h8 h9
/-- .. and what it holds: null or some reference -/
def vx_Zq (C n d : String) (A : Nat → Prop) (U : State) (H : Heap) : Prop := va_Zq C n d A U H ∧ vx_L C n d A U H
theorem vx_Zq.moved {C n d : String} {A : Nat → Prop} {u U : State} {H : Heap} (hvm : u.vm.Alike U.vm) (h : vx_Zq C n d A u H) : vx_Zq C n d A U H := ⟨va_Zq.moved hvm h.1, vx_L.moved hvm h.2⟩
theorem vx_Zq.kept {C n d : String} {A : Nat → Prop} {U : State} {H H1 : Heap} (h : vx_Zq C n d A U H) (hq : ∀ a : Nat, a < H.size → ¬ A a → H1[a]? = H[a]?) : vx_Zq C n d A U H1 := ⟨va_Zq.kept h.1 hq, vx_L.kept h.2 hq⟩
theorem vx_Zq.narrow {C n d : String} {A B : Nat → Prop} {U : State} {H : Heap} (h : vx_Zq C n d A U H) (hAB : ∀ q, B q → A q) : vx_Zq C n d B U H := ⟨va_Zq.narrow h.1 hAB, vx_L.narrow h.2 hAB⟩
theorem vx_Zqof {args : Array Value} {s : State} {C n d : String} {A : Nat → Prop} (hl : (Cond.laysStatic C n d).before args s = true) (hini : (Cond.initialized C).before args s = true) (h : (Cond.isRef (.static C n d)).before args s = true) (hA : ∀ a : Nat, a < s.heap.size → ¬ A a) : vx_Zq C n d A s s.heap := by
  refine ⟨va_Zqof hl hini h hA, ?_⟩
  obtain ⟨c, k, i, f, a, cell, h1, h2, h3, h4, h5, h6, h7, h8, h9⟩ := Cond.laysStatic_spec hl
  exact ⟨c, k, i, f, a, cell, h1, h2, h3, h4, h5, h6, h7, h8, h9, hA a (Array.getElem?_eq_some_iff.mp h5).1⟩
theorem vx_isRef {C n d : String} {v : Value} {A : Nat → Prop} {s : State} {args : Array Value} (h : va_Z C n d v A s s.heap) (hv : v.isRef = true) : (Cond.isRef (.static C n d)).before args s = true := by
  obtain ⟨cf, kf, fi, f, a, cell, h1, h2, h3, h4, h5, h6, h7, -⟩ := h
  have he : (Term.static C n d).eval args s none [] s = some v := by
    simp [Term.eval, State.fieldNamed?, h1, h2, h4, h5, h6, h7]
  simp only [Cond.before, Cond.holds, Cond.value, he]
  cases v <;> simp_all [Value.isRef]
theorem vx_isRefq {C n d : String} {A : Nat → Prop} {s : State} {args : Array Value} (h : va_Zq C n d A s s.heap) : (Cond.isRef (.static C n d)).before args s = true := by
  rcases h with h | ⟨t, h⟩
  · exact vx_isRef h rfl
  · exact vx_isRef h rfl
/-- the same frame, seen from here: as if the method were called anew in this heap -/
theorem vx_rebase {T : State} (X : Stand p l e R s m args below meth c T locs cells slots) {R' : Room} (hf : R'.frames ≤ R.frames) (hl : R'.locals ≤ R.locals) (hc : cells + R'.cells ≤ R.cells) (hs : slots + R'.slots ≤ R.slots) :
    Stand p l e R' ((T.setVm s.vm).setFrames (.invoking m args :: below)) m args below meth c T [] 0 0 := by
  have htop : (T.setVm s.vm).topJava?.isSome := X.here.top
  have hF : ((T.setVm s.vm).setFrames (.invoking m args :: below)).frames = .invoking m args :: below := State.frames_setFrames _ (State.cur_lt_of_top htop)
  obtain ⟨g₀, hg0⟩ := Option.isSome_iff_exists.mp htop
  obtain ⟨r, hr⟩ := State.topJava?_eq_some.mp hg0
  have hl9 : e.platform.stackLimits (T.setVm s.vm).me = e.platform.stackLimits s.me := X.limits
  have hb9 : (T.setVm s.vm).me.stackBytes = s.me.stackBytes := X.bytes
  refine ⟨X.admits, X.cas, X.clock, hF, ?_, X.hears, X.method, X.code, X.here, X.tail, X.warmed, ?_, ?_, ?_⟩
  · have h := X.room
    have hU : ((T.setVm s.vm).setFrames (.invoking m args :: below)).localsInUse = s.localsInUse := by
      rw [State.localsInUse_invoking hF (meth := meth) (c := c) X.method X.code, State.localsInUse_invoking X.frames X.method X.code]
    simp only [State.hasRoom, Bool.and_eq_true, decide_eq_true_eq] at h ⊢
    obtain ⟨⟨⟨⟨h1, h2, h3, h4, h5, h6⟩, h7⟩, h8⟩, h9⟩ := h
    rw [X.frames, List.length_cons] at h2 h3
    have q1 := X.heapSize
    have q2 := X.used
    simp only [hF, hU, List.length_cons, State.stackLimits_setFrames, State.stackBytes_setFrames, hl9, hb9]
    refine ⟨⟨⟨⟨by omega, by omega, by omega, by omega, by omega, h6⟩, ?_⟩, ?_⟩, X.book⟩
    · show T.heap.size + R'.cells ≤ e.platform.maxCells
      omega
    · show T.slotsUsed + R'.slots ≤ e.platform.maxSlots
      omega
  · rw [State.stackLimits_setFrames]; rfl
  · rw [State.stackBytes_setFrames]; rfl
  · refine ⟨?_, Nat.le_refl _, Nat.le_refl _, ?_, ?_, fun a c9 h9 => ⟨c9, h9, rfl, rfl, fun _ _ => rfl⟩⟩
    · obtain ⟨t, ht, -⟩ := State.frames_cons hr
      show T.setVm s.vm = { ((T.setVm s.vm).setFrames (.invoking m args :: below)).setFrames (T.setVm s.vm).frames with heap := T.heap, slotsUsed := T.slotsUsed }
      rw [State.setFrames_setFrames, State.setFrames_self ht]
      rfl
    · show T.slotsUsed = T.slotsUsed + ((T.heap.toList.drop T.heap.size).map (·.slots.size)).sum
      rw [List.drop_eq_nil_of_le (Nat.le_of_eq Array.length_toList)]
      rfl
    · show ((T.heap.toList.drop T.heap.size).map (·.slots.size)).sum ≤ 0
      rw [List.drop_eq_nil_of_le (Nat.le_of_eq Array.length_toList)]
      exact Nat.le_refl _
/-- 'throw new E()': new; dup; invokespecial; athrow -/
theorem vx_throw0 {cc : ByteArray} {pc : Nat} (hexec : p.tables.exec = Jvm.exec) (hb : c.code = cc) (hl : l.stackTraces = false) {own cls : String} {names : List String} {ik ic mc ms : Nat} {A : Nat → Prop}
    (hown : s.vm.findClass own = some m.cls) (hcls : Bundle.fit cls = true) (hnames : ∀ n ∈ names, Bundle.fit n = true)
    (hk : (Cond.classLink own ik cls).before args s = true) (hini : (Cond.initialized cls).before args s = true) (hat : ∀ w ∈ vx_at0 own ic cls names, w.before args s = true)
    (hgood : ∀ w ∈ Cond.classLink own ik cls :: Cond.initialized cls :: vx_at0 own ic cls names, vx_ot w = true)
    (hU : vx_Zq Bundle.tN "UNASSIGNED_STACK" Bundle.steD A s s.heap) (hN : vx_Zq Bundle.tN "SUPPRESSED_SENTINEL" Bundle.listD A s s.heap) (hS : va_S A s.heap H locs) (hsize : ls.size = c.maxLocals)
    (d0 : decode cc pc = .ok (.new ik, 3)) (d3 : decode cc (pc + 3) = .ok (.dup, 1)) (d4 : decode cc (pc + 4) = .ok (.invokespecial ic, 3)) (d7 : decode cc (pc + 7) = .ok (.athrow, 1))
    (hout : ∀ x ∈ c.exceptionTable.toList, covers x (pc + 7) = false)
    (hRframes : names.length + 3 < R.frames) (hRlocals : (rest.map fun v => v.category).sum + (13 * (names.length + 1) + 42) ≤ R.locals) (hRcells : cells + 1 ≤ R.cells) (hRslots : slots + 6 ≤ R.slots) (hlocks : meth.locks = false)
    (hx : ∀ t : State, s.vm.Alike t.vm → H.size ≤ t.heap.size → (∀ q : Nat, q < H.size → t.heap[q]? = H[q]?) → XC cls s t)
    (hf : ∀ z ∈ locs, free z.base) (hc : cells + 1 ≤ mc) (hs : slots + 6 ≤ ms) :
    W p l e R s m args below meth c H locs cells slots (vx_MQ below Qc XC args s mc ms free) (F0 m pc ls rest) := by
  intro T hT X
  have htr : e.platform.stackTraces = false := (show e.platform.stackTraces = l.stackTraces by rw [X.admits.platform]).trans hl
  have Y := vx_rebase X (R' := { frames := R.frames, locals := R.locals, cells := 1, slots := 6 }) (Nat.le_refl _) (Nat.le_refl _) hRcells hRslots
  obtain ⟨s', hA⟩ : ∃ z, z = (T.setVm s.vm).setFrames (.invoking m args :: below) := ⟨_, rfl⟩
  rw [← hA] at Y
  have hvm : s'.vm = s.vm := by rw [hA]; rfl
  have hhp : s'.heap = H := by rw [hA]; exact hT
  have hW0 : s.WarmedH s'.vm := by rw [hvm]; exact State.WarmedH.refl s
  have hat' : ∀ w ∈ vx_at0 own ic cls names, w.before args s' = true := fun w hw => vx_ot_at hW0 hvm.symm (hgood w (List.mem_cons_of_mem _ (List.mem_cons_of_mem _ hw))) (hat w hw)
  have hk' : (Cond.classLink own ik cls).before args s' = true := vx_ot_at hW0 hvm.symm (hgood _ List.mem_cons_self) hk
  have hini' : (Cond.initialized cls).before args s' = true := vx_ot_at hW0 hvm.symm (hgood _ (List.mem_cons_of_mem _ List.mem_cons_self)) hini
  have hU' : vx_Zq Bundle.tN "UNASSIGNED_STACK" Bundle.steD A s' s'.heap := by rw [hhp]; exact vx_Zq.moved hW0.alike (hU.kept hS.2.1)
  have hN' : vx_Zq Bundle.tN "SUPPRESSED_SENTINEL" Bundle.listD A s' s'.heap := by rw [hhp]; exact vx_Zq.moved hW0.alike (hN.kept hS.2.1)
  have h : ∀ w ∈ Bundle.ownAtoms0 own ic cls names, w.before args s' = true := vx_own hat' (vx_isRefq hU'.1) (vx_isRefq hN'.1) hU'.2.word hN'.2.word
  have hown' : s'.vm.findClass own = some m.cls := by rw [hvm]; exact hown
  have hins : (Cond.instantiable cls 6).before args s' = true := h _ (by simp [Bundle.ownAtoms0])
  obtain ⟨vm₁, cX, kX, hfX, hkX, -, -, X₁, st1⟩ := Y.newCold hexec (own := own) (C := cls) (index := ik) (n := 6) hown' hk' hins hini'
    (g := F0 m pc ls rest) rfl (by rw [hb]; exact d0) (Nat.le_refl _) (Nat.le_refl _)
  generalize hT1 : (T.setVm vm₁).pushCell { cls := cX, slots := kX.instanceTypes.map defaultValue, vm := .none } = T1 at X₁ st1
  have hcat : (Value.ref T.heap.size).category = 1 := rfl
  have hcellA : T1.heap[T.heap.size]? = some (freshCell cX kX) := by rw [← hT1]; exact State.heap_pushCell_size _ _
  have d3' : decode c.code (pc + 3) = .ok (.dup, 1) := by rw [hb]; exact d3
  obtain ⟨U, hsteps, hrun, hend, hW, hsame, ce, hce, hO⟩ := X₁.ctorThrow0 hexec htr (own := own) (cls := cls) (names := names) (ic := ic) hown' hcls hnames h (fun x hx => nomatch hx) hfX hkX hcellA (by rw [hhp, hT]; exact Nat.le_refl _)
    (g := { method := m, pc := pc + 4, locals := ls, stack := .ref T.heap.size :: .ref T.heap.size :: rest, locked := none }) rfl hsize rfl rfl (rest := rest) rfl
    (by rw [hb]; exact d4) (by rw [hb]; exact d7) hout hRframes (by simp only [List.map_cons, List.sum_cons, hcat]; omega) hlocks
  obtain ⟨f1, f2⟩ := vx_frame hsame
  rw [hhp] at f1 f2
  have hWs : s.WarmedH U.vm := State.WarmedH.trans hW0 hW
  have hcl : s.vm.findClass cls = some ce.cls := by
    have h9 := hO.cls
    rw [hvm] at h9
    exact h9
  have hall : s.sameButNew ({ U with vm := s.vm } : State) locs mc ms := by
    subst hA
    obtain ⟨e1, e2⟩ := hsame
    rw [State.setFrames_setFrames] at e1
    have h2 : (T.setVm s.vm).sameButNew ({ U with vm := s.vm } : State) [] (0 + 1) (0 + 6) := ⟨e1, e2⟩
    have h3 := X.same.trans h2
    rw [List.append_nil] at h3
    exact h3.mono hc hs
  refine ⟨U, ?_, .threw T.heap.size, hrun, hend, Or.inr ⟨T.heap.size, rfl, cls, ce, locs, hx U hWs.alike f1 (fun q hq => f2 q hq (fun z hz => nomatch hz)), hce, hO.vm, hcl, hWs, hall, hf⟩⟩
  refine st1 _ ?_
  show Steps p.tables e below (T1.setTop { method := m, pc := pc + 3, locals := ls, stack := .ref T.heap.size :: rest, locked := none }) _
  jvm_step X₁.here [X₁.here.top, hexec, d3', Value.category]
  exact hsteps
/-- 'throw new E("text")': new; dup; ldc; invokespecial; athrow -/
theorem vx_throwS {cc : ByteArray} {pc : Nat} (hexec : p.tables.exec = Jvm.exec) (hb : c.code = cc) (hl : l.stackTraces = false) {own cls text : String} {names : List String} {ik is ic mc ms sa : Nat} {A : Nat → Prop}
    (hown : s.vm.findClass own = some m.cls) (hcls : Bundle.fit cls = true) (hnames : ∀ n ∈ names, Bundle.fit n = true)
    (hk : (Cond.classLink own ik cls).before args s = true) (hini : (Cond.initialized cls).before args s = true) (hstr : vk_R own is text sa s) (hat : ∀ w ∈ vx_atS own ic cls names, w.before args s = true)
    (hgood : ∀ w ∈ Cond.classLink own ik cls :: Cond.initialized cls :: vx_atS own ic cls names, vx_ot w = true)
    (hU : vx_Zq Bundle.tN "UNASSIGNED_STACK" Bundle.steD A s s.heap) (hN : vx_Zq Bundle.tN "SUPPRESSED_SENTINEL" Bundle.listD A s s.heap) (hS : va_S A s.heap H locs) (hsize : ls.size = c.maxLocals)
    (d0 : decode cc pc = .ok (.new ik, 3)) (d3 : decode cc (pc + 3) = .ok (.dup, 1)) (d4 : decode cc (pc + 4) = .ok (.ldc is, 2)) (d6 : decode cc (pc + 6) = .ok (.invokespecial ic, 3)) (d9 : decode cc (pc + 9) = .ok (.athrow, 1))
    (hout : ∀ x ∈ c.exceptionTable.toList, covers x (pc + 9) = false)
    (hRframes : names.length + 3 < R.frames) (hRlocals : (rest.map fun v => v.category).sum + (13 * (names.length + 1) + 43) ≤ R.locals) (hRcells : cells + 1 ≤ R.cells) (hRslots : slots + 6 ≤ R.slots) (hlocks : meth.locks = false)
    (hx : ∀ t : State, s.vm.Alike t.vm → H.size ≤ t.heap.size → (∀ q : Nat, q < H.size → t.heap[q]? = H[q]?) → XC cls s t)
    (hf : ∀ z ∈ locs, free z.base) (hc : cells + 1 ≤ mc) (hs : slots + 6 ≤ ms) :
    W p l e R s m args below meth c H locs cells slots (vx_MQ below Qc XC args s mc ms free) (F0 m pc ls rest) := by
  intro T hT X
  have htr : e.platform.stackTraces = false := (show e.platform.stackTraces = l.stackTraces by rw [X.admits.platform]).trans hl
  have Y := vx_rebase X (R' := { frames := R.frames, locals := R.locals, cells := 1, slots := 6 }) (Nat.le_refl _) (Nat.le_refl _) hRcells hRslots
  obtain ⟨s', hA⟩ : ∃ z, z = (T.setVm s.vm).setFrames (.invoking m args :: below) := ⟨_, rfl⟩
  rw [← hA] at Y
  have hvm : s'.vm = s.vm := by rw [hA]; rfl
  have hhp : s'.heap = H := by rw [hA]; exact hT
  have hW0 : s.WarmedH s'.vm := by rw [hvm]; exact State.WarmedH.refl s
  have hat' : ∀ w ∈ vx_atS own ic cls names, w.before args s' = true := fun w hw => vx_ot_at hW0 hvm.symm (hgood w (List.mem_cons_of_mem _ (List.mem_cons_of_mem _ hw))) (hat w hw)
  have hk' : (Cond.classLink own ik cls).before args s' = true := vx_ot_at hW0 hvm.symm (hgood _ List.mem_cons_self) hk
  have hini' : (Cond.initialized cls).before args s' = true := vx_ot_at hW0 hvm.symm (hgood _ (List.mem_cons_of_mem _ List.mem_cons_self)) hini
  have hU' : vx_Zq Bundle.tN "UNASSIGNED_STACK" Bundle.steD A s' s'.heap := by rw [hhp]; exact vx_Zq.moved hW0.alike (hU.kept hS.2.1)
  have hN' : vx_Zq Bundle.tN "SUPPRESSED_SENTINEL" Bundle.listD A s' s'.heap := by rw [hhp]; exact vx_Zq.moved hW0.alike (hN.kept hS.2.1)
  have h : ∀ w ∈ Bundle.ownAtoms own ic cls names, w.before args s' = true := vx_own hat' (vx_isRefq hU'.1) (vx_isRefq hN'.1) hU'.2.word hN'.2.word
  have hown' : s'.vm.findClass own = some m.cls := by rw [hvm]; exact hown
  have hins : (Cond.instantiable cls 6).before args s' = true := h _ (by simp [Bundle.ownAtoms])
  obtain ⟨vm₁, cX, kX, hfX, hkX, -, -, X₁, st1⟩ := Y.newCold hexec (own := own) (C := cls) (index := ik) (n := 6) hown' hk' hins hini'
    (g := F0 m pc ls rest) rfl (by rw [hb]; exact d0) (Nat.le_refl _) (Nat.le_refl _)
  generalize hT1 : (T.setVm vm₁).pushCell { cls := cX, slots := kX.instanceTypes.map defaultValue, vm := .none } = T1 at X₁ st1
  have hcat : (Value.ref T.heap.size).category = 1 := rfl
  have hcellA : T1.heap[T.heap.size]? = some (freshCell cX kX) := by rw [← hT1]; exact State.heap_pushCell_size _ _
  have d3' : decode c.code (pc + 3) = .ok (.dup, 1) := by rw [hb]; exact d3
  have d4' : decode c.code (pc + 4) = .ok (.ldc is, 2) := by rw [hb]; exact d4
  have hstr' : vk_R own is text sa s' := vk_R.warm hW0 hstr
  obtain ⟨U, hsteps, hrun, hend, hW, hsame, ce, hce, hO⟩ := X₁.ctorThrowS hexec htr (own := own) (cls := cls) (names := names) (ic := ic) hown' hcls hnames h (fun x hx => nomatch hx) hfX hkX hcellA (by rw [hhp, hT]; exact Nat.le_refl _) (msg := .ref sa) rfl
    (g := { method := m, pc := pc + 6, locals := ls, stack := .ref sa :: .ref T.heap.size :: .ref T.heap.size :: rest, locked := none }) rfl hsize rfl rfl (rest := rest) rfl
    (by rw [hb]; exact d6) (by rw [hb]; exact d9) hout hRframes (by simp only [List.map_cons, List.sum_cons, hcat]; omega) hlocks
  obtain ⟨f1, f2⟩ := vx_frame hsame
  rw [hhp] at f1 f2
  have hWs : s.WarmedH U.vm := State.WarmedH.trans hW0 hW
  have hcl : s.vm.findClass cls = some ce.cls := by
    have h9 := hO.cls
    rw [hvm] at h9
    exact h9
  have hall : s.sameButNew ({ U with vm := s.vm } : State) locs mc ms := by
    subst hA
    obtain ⟨e1, e2⟩ := hsame
    rw [State.setFrames_setFrames] at e1
    have h2 : (T.setVm s.vm).sameButNew ({ U with vm := s.vm } : State) [] (0 + 1) (0 + 6) := ⟨e1, e2⟩
    have h3 := X.same.trans h2
    rw [List.append_nil] at h3
    exact h3.mono hc hs
  refine ⟨U, ?_, .threw T.heap.size, hrun, hend, Or.inr ⟨T.heap.size, rfl, cls, ce, locs, hx U hWs.alike f1 (fun q hq => f2 q hq (fun z hz => nomatch hz)), hce, hO.vm, hcl, hWs, hall, hf⟩⟩
  refine st1 _ ?_
  show Steps p.tables e below (T1.setTop { method := m, pc := pc + 3, locals := ls, stack := .ref T.heap.size :: rest, locked := none }) _
  jvm_step X₁.here [X₁.here.top, hexec, d3', Value.category]
  exact X₁.ldcString hexec (own := own) (text := text) (index := is) (a := sa) hown' hstr'.1 hstr'.2
    (g := { method := m, pc := pc + 4, locals := ls, stack := .ref T.heap.size :: .ref T.heap.size :: rest, locked := none }) rfl d4' _ hsteps
/-- 'throw new E("text")', the text by a wide index -/
theorem vx_throwSW {cc : ByteArray} {pc : Nat} (hexec : p.tables.exec = Jvm.exec) (hb : c.code = cc) (hl : l.stackTraces = false) {own cls text : String} {names : List String} {ik is ic mc ms sa : Nat} {A : Nat → Prop}
    (hown : s.vm.findClass own = some m.cls) (hcls : Bundle.fit cls = true) (hnames : ∀ n ∈ names, Bundle.fit n = true)
    (hk : (Cond.classLink own ik cls).before args s = true) (hini : (Cond.initialized cls).before args s = true) (hstr : vk_R own is text sa s) (hat : ∀ w ∈ vx_atS own ic cls names, w.before args s = true)
    (hgood : ∀ w ∈ Cond.classLink own ik cls :: Cond.initialized cls :: vx_atS own ic cls names, vx_ot w = true)
    (hU : vx_Zq Bundle.tN "UNASSIGNED_STACK" Bundle.steD A s s.heap) (hN : vx_Zq Bundle.tN "SUPPRESSED_SENTINEL" Bundle.listD A s s.heap) (hS : va_S A s.heap H locs) (hsize : ls.size = c.maxLocals)
    (d0 : decode cc pc = .ok (.new ik, 3)) (d3 : decode cc (pc + 3) = .ok (.dup, 1)) (d4 : decode cc (pc + 4) = .ok (.ldc_w is, 3)) (d7 : decode cc (pc + 7) = .ok (.invokespecial ic, 3)) (d10 : decode cc (pc + 10) = .ok (.athrow, 1))
    (hout : ∀ x ∈ c.exceptionTable.toList, covers x (pc + 10) = false)
    (hRframes : names.length + 3 < R.frames) (hRlocals : (rest.map fun v => v.category).sum + (13 * (names.length + 1) + 43) ≤ R.locals) (hRcells : cells + 1 ≤ R.cells) (hRslots : slots + 6 ≤ R.slots) (hlocks : meth.locks = false)
    (hx : ∀ t : State, s.vm.Alike t.vm → H.size ≤ t.heap.size → (∀ q : Nat, q < H.size → t.heap[q]? = H[q]?) → XC cls s t)
    (hf : ∀ z ∈ locs, free z.base) (hc : cells + 1 ≤ mc) (hs : slots + 6 ≤ ms) :
    W p l e R s m args below meth c H locs cells slots (vx_MQ below Qc XC args s mc ms free) (F0 m pc ls rest) := by
  intro T hT X
  have htr : e.platform.stackTraces = false := (show e.platform.stackTraces = l.stackTraces by rw [X.admits.platform]).trans hl
  have Y := vx_rebase X (R' := { frames := R.frames, locals := R.locals, cells := 1, slots := 6 }) (Nat.le_refl _) (Nat.le_refl _) hRcells hRslots
  obtain ⟨s', hA⟩ : ∃ z, z = (T.setVm s.vm).setFrames (.invoking m args :: below) := ⟨_, rfl⟩
  rw [← hA] at Y
  have hvm : s'.vm = s.vm := by rw [hA]; rfl
  have hhp : s'.heap = H := by rw [hA]; exact hT
  have hW0 : s.WarmedH s'.vm := by rw [hvm]; exact State.WarmedH.refl s
  have hat' : ∀ w ∈ vx_atS own ic cls names, w.before args s' = true := fun w hw => vx_ot_at hW0 hvm.symm (hgood w (List.mem_cons_of_mem _ (List.mem_cons_of_mem _ hw))) (hat w hw)
  have hk' : (Cond.classLink own ik cls).before args s' = true := vx_ot_at hW0 hvm.symm (hgood _ List.mem_cons_self) hk
  have hini' : (Cond.initialized cls).before args s' = true := vx_ot_at hW0 hvm.symm (hgood _ (List.mem_cons_of_mem _ List.mem_cons_self)) hini
  have hU' : vx_Zq Bundle.tN "UNASSIGNED_STACK" Bundle.steD A s' s'.heap := by rw [hhp]; exact vx_Zq.moved hW0.alike (hU.kept hS.2.1)
  have hN' : vx_Zq Bundle.tN "SUPPRESSED_SENTINEL" Bundle.listD A s' s'.heap := by rw [hhp]; exact vx_Zq.moved hW0.alike (hN.kept hS.2.1)
  have h : ∀ w ∈ Bundle.ownAtoms own ic cls names, w.before args s' = true := vx_own hat' (vx_isRefq hU'.1) (vx_isRefq hN'.1) hU'.2.word hN'.2.word
  have hown' : s'.vm.findClass own = some m.cls := by rw [hvm]; exact hown
  have hins : (Cond.instantiable cls 6).before args s' = true := h _ (by simp [Bundle.ownAtoms])
  obtain ⟨vm₁, cX, kX, hfX, hkX, -, -, X₁, st1⟩ := Y.newCold hexec (own := own) (C := cls) (index := ik) (n := 6) hown' hk' hins hini'
    (g := F0 m pc ls rest) rfl (by rw [hb]; exact d0) (Nat.le_refl _) (Nat.le_refl _)
  generalize hT1 : (T.setVm vm₁).pushCell { cls := cX, slots := kX.instanceTypes.map defaultValue, vm := .none } = T1 at X₁ st1
  have hcat : (Value.ref T.heap.size).category = 1 := rfl
  have hcellA : T1.heap[T.heap.size]? = some (freshCell cX kX) := by rw [← hT1]; exact State.heap_pushCell_size _ _
  have d3' : decode c.code (pc + 3) = .ok (.dup, 1) := by rw [hb]; exact d3
  have d4' : decode c.code (pc + 4) = .ok (.ldc_w is, 3) := by rw [hb]; exact d4
  have hstr' : vk_R own is text sa s' := vk_R.warm hW0 hstr
  obtain ⟨U, hsteps, hrun, hend, hW, hsame, ce, hce, hO⟩ := X₁.ctorThrowS hexec htr (own := own) (cls := cls) (names := names) (ic := ic) hown' hcls hnames h (fun x hx => nomatch hx) hfX hkX hcellA (by rw [hhp, hT]; exact Nat.le_refl _) (msg := .ref sa) rfl
    (g := { method := m, pc := pc + 7, locals := ls, stack := .ref sa :: .ref T.heap.size :: .ref T.heap.size :: rest, locked := none }) rfl hsize rfl rfl (rest := rest) rfl
    (by rw [hb]; exact d7) (by rw [hb]; exact d10) hout hRframes (by simp only [List.map_cons, List.sum_cons, hcat]; omega) hlocks
  obtain ⟨f1, f2⟩ := vx_frame hsame
  rw [hhp] at f1 f2
  have hWs : s.WarmedH U.vm := State.WarmedH.trans hW0 hW
  have hcl : s.vm.findClass cls = some ce.cls := by
    have h9 := hO.cls
    rw [hvm] at h9
    exact h9
  have hall : s.sameButNew ({ U with vm := s.vm } : State) locs mc ms := by
    subst hA
    obtain ⟨e1, e2⟩ := hsame
    rw [State.setFrames_setFrames] at e1
    have h2 : (T.setVm s.vm).sameButNew ({ U with vm := s.vm } : State) [] (0 + 1) (0 + 6) := ⟨e1, e2⟩
    have h3 := X.same.trans h2
    rw [List.append_nil] at h3
    exact h3.mono hc hs
  refine ⟨U, ?_, .threw T.heap.size, hrun, hend, Or.inr ⟨T.heap.size, rfl, cls, ce, locs, hx U hWs.alike f1 (fun q hq => f2 q hq (fun z hz => nomatch hz)), hce, hO.vm, hcl, hWs, hall, hf⟩⟩
  refine st1 _ ?_
  show Steps p.tables e below (T1.setTop { method := m, pc := pc + 3, locals := ls, stack := .ref T.heap.size :: rest, locked := none }) _
  jvm_step X₁.here [X₁.here.top, hexec, d3', Value.category]
  exact X₁.ldcStringW hexec (own := own) (text := text) (index := is) (a := sa) hown' hstr'.1 hstr'.2
    (g := { method := m, pc := pc + 4, locals := ls, stack := .ref T.heap.size :: .ref T.heap.size :: rest, locked := none }) rfl d4' _ hsteps
end Ends
section Bodies
variable {l : Launch}
theorem vx_ofW {y : MethodName} {ws ws' : List Cond} {rm : Room} {Pc : Array Value → State → Prop} {Qc : Array Value → State → Outcome → State → Prop} {XC : String → State → State → Prop} {mc ms : Nat} {free : Addr → Prop} {cc : ByteArray} {maxL : Nat} {ret : Option FieldType}
    (hy : plainName y.cls = true) (hw : ws = Cond.code y cc maxL ret :: ws')
    (body : ∀ p e s m args below meth c s₁, BodyLoose p l y (headSpec ws rm) cc maxL ret e s m args below meth c s₁ → c.maxLocals = maxL → (∀ x ∈ c.exceptionTable.toList, False) → Pc args s →
      W p l e (headSpec ws rm).room s m args below meth c s.heap [] 0 0 (vx_MQ below Qc XC args s mc ms free) (entryFrame m args maxL)) : vx_Met l y ws rm Pc Qc XC mc ms free := by
  refine MetFree.of_bodyS (code := cc) (maxLocals := maxL) (ret := ret) hy ?_ ?_
  · intro args s m h hn
    obtain ⟨meth, c, h1, h2, h3, h4, h5, h6, -, -⟩ := Cond.code_spec hn (atoms_spec (ws := ws) h _ (by rw [hw]; exact List.mem_cons_self))
    exact ⟨meth, c, h1, h2, h3, h4, h5, h6⟩
  · intro p e s m args below meth c s₁ B hml hP _
    have hh0 : s₁.heap = s.heap := by rw [B.state]; rfl
    have ht : ∀ x ∈ c.exceptionTable.toList, False := by
      obtain ⟨meth9, c9, h1, h2, -, -, -, -, h7, -⟩ := Cond.code_spec B.named (atoms_spec (ws := ws) B.pre _ (by rw [hw]; exact List.mem_cons_self))
      cases Option.some.inj (h1.symm.trans B.method)
      cases Option.some.inj (h2.symm.trans (Stand.of_body B).code)
      intro x hx
      rw [Array.isEmpty_iff.mp h7] at hx
      cases hx
    obtain ⟨t, a1, o, b1, b2, b3⟩ := body p e s m args below meth c s₁ B hml ht hP s₁ hh0 (Stand.of_body B)
    exact ⟨t, o, a1, b1, b2, b3⟩
/-- the table of a body with handlers -/
theorem vx_table {p : Program} {x y : MethodName} {S : Spec} {cc bytes : ByteArray} {maxL maxL' : Nat} {ret ret' : Option FieldType} {e : Env} {s s₁ : State} {m : MethodId} {args : Array Value} {below : List Frame} {meth : Method} {c : Code} {hh : List (Nat × Nat × Nat × Nat)}
    (B : BodyLoose p l y S cc maxL ret e s m args below meth c s₁) (h : (Cond.codeWith y bytes maxL' ret' hh).before args s = true) : c.exceptionTable.toList = tableOf hh := by
  obtain ⟨m9, meth9, c9, hn9, h1, h2, -, -, h6, -⟩ := Cond.codeWith_spec h
  cases Option.some.inj (hn9.symm.trans B.named)
  cases Option.some.inj (h1.symm.trans B.method)
  cases Option.some.inj (h2.symm.trans (Stand.of_body B).code)
  rw [← h6, table_eq]
end Bodies
end VXA
/-! ===== END ===== -/
/-! ===== BEGIN a static call of a method with an exception table ===== -/
section VXS
variable {p : Program} {l : Launch} {e : Env} {R : Room} {s : State} {m : MethodId} {args : Array Value} {below : List Frame} {meth : Method} {c : Code} {T : State} {H : Heap} {locs : List Loc} {cells slots : Nat}
abbrev vx_CSW (R : Room) (s : State) (args : Array Value) (own : String) (index : Nat) (y : MethodName) (bytes : ByteArray) (maxL : Nat) (ret : Option FieldType) (hh : List (Nat × Nat × Nat × Nat)) (ws : List Cond) (rm : Room) (mc ms n : Nat) : Prop :=
  (rm.cells = mc ∧ rm.slots = ms ∧ rm.frames + 1 ≤ R.frames ∧ 8 + (maxL + 11) + rm.locals ≤ R.locals ∧ (∀ w ∈ ws, ∀ (a' : Array Value) (U : State), s.WarmedH U.vm → w.before a' U = true) ∧ Cond.codeWith y bytes maxL ret hh ∈ ws) ∧
  (Cond.codeWith y bytes maxL ret hh).before args s = true ∧ (Cond.initialized y.cls).before args s = true ∧ (y.cls ≠ "java/lang/invoke/MethodHandle" ∧ y.cls ≠ "java/lang/invoke/VarHandle") ∧
  (∀ sig, parseMethodDescriptor y.desc = some sig → n = sig.parameters.length) ∧ (Cond.methodLink own index y).before args s = true ∧ (Cond.static y).before args s = true
theorem vx_cwSW {own : String} {index maxL mc ms : Nat} {y : MethodName} {bytes : ByteArray} {ret : Option FieldType} {hh : List (Nat × Nat × Nat × Nat)} {Ts ws ws' : List Cond} {rm : Room} (n : Nat) (ht : ∀ w ∈ Ts, w.before args s = true) (hT : GoodIn Ts (va_wsS own index y ws)) (hw : ws = Cond.codeWith y bytes maxL ret hh :: ws') (hrc : rm.cells = mc) (hrs : rm.slots = ms)
    (hd : y.cls ≠ "java/lang/invoke/MethodHandle" ∧ y.cls ≠ "java/lang/invoke/VarHandle" ∧ (parseMethodDescriptor y.desc).map (fun d => d.parameters.length) = some n) (hR : rm.frames + 1 ≤ R.frames ∧ 8 + (maxL + 11) + rm.locals ≤ R.locals) :
    vx_CSW R s args own index y bytes maxL ret hh ws rm mc ms n := by
  have ok : ∀ w ∈ va_wsS own index y ws, w.before args s = true := fun w h => ht w (hT w h).1
  have hG : GoodIn Ts ws := fun w h => hT w (by unfold va_wsS; exact List.mem_append_right _ h)
  have hc : Cond.codeWith y bytes maxL ret hh ∈ ws := by rw [hw]; exact List.mem_cons_self
  refine ⟨⟨hrc, hrs, hR.1, hR.2, pay_in ht hG, hc⟩, ht _ (hG _ hc).1, ok _ (by simp [va_wsS]), ⟨hd.1, hd.2.1⟩, fun sig h => ?_, ok _ (by simp [va_wsS]), ok _ (by simp [va_wsS])⟩
  have h2 := hd.2.2
  rw [h] at h2
  exact (Option.some.inj h2).symm
theorem vx_callSW (X : Stand p l e R s m args below meth c T locs cells slots) (hexec : p.tables.exec = Jvm.exec) {own : String} {index : Nat} {y : MethodName} {bytes : ByteArray} {maxL : Nat} {ret : Option FieldType} {hh : List (Nat × Nat × Nat × Nat)}
    (hown : s.vm.findClass own = some m.cls) (hlink : (Cond.methodLink own index y).before args s = true) (hstat : (Cond.static y).before args s = true) (hinit : (Cond.initialized y.cls).before args s = true)
    (hcode : (Cond.codeWith y bytes maxL ret hh).before args s = true) (hy : y.cls ≠ "java/lang/invoke/MethodHandle" ∧ y.cls ≠ "java/lang/invoke/VarHandle")
    {W9 : Nat} {Pre : Pt → Array Value → Prop} {Post : Pt → Array Value → Option Value → Pt → Prop} (hK : Back l R p e below s args y 3 W9 Pre Post)
    {g : JFrame} (hg : g.method = m) (hsize : g.locals.size = c.maxLocals) {argsL rest : List Value} (hlen : ∀ sig, parseMethodDescriptor y.desc = some sig → argsL.length = sig.parameters.length)
    (hstack : g.stack = argsL.reverse ++ rest) (hW : 2 * g.monitorRoom + (rest.map fun v => v.category).sum ≤ W9) (hdg : decode c.code g.pc = .ok (.invokestatic index, 3))
    (hpre : ∀ vm₁, s.WarmedH vm₁ → Pre ⟨T.setVm vm₁, locs, cells, slots⟩ argsL.toArray) :
    ∃ (v : Option Value) (vm₁ : Vm) (B : Pt), s.WarmedH vm₁ ∧ Stand p l e R s m args below meth c B.U B.locs B.cells B.slots ∧ Post ⟨T.setVm vm₁, locs, cells, slots⟩ argsL.toArray v B ∧
      ∀ target, Steps p.tables e below (B.U.setTop { g with pc := g.pc + 3, stack := v.toList ++ rest }) target → Steps p.tables e below (T.setTop g) target := by
  obtain ⟨mk, methM, cM, hnamed, hmethM, -, -, -, -, -, -, hsigM⟩ := Cond.codeWith_spec hcode
  have hstatic : methM.isStatic = true := Cond.static_spec hnamed hmethM hstat
  obtain ⟨kP, hkP, -⟩ := className_of_methodNamed hnamed
  have hinitP : kP.init = .initialized := Cond.initialized_spec (findClass_of_methodNamed hnamed) hkP hinit
  obtain ⟨vm₁, X₁, hstep₁⟩ := X.invokestatic hexec hown hlink hnamed hmethM hstatic hkP hinitP hy (g := g) hg (argsL := argsL) (rest := rest) (hlen _ hsigM) hstack hdg
  obtain ⟨v, B, X', hpost, hsteps⟩ := hK m meth c ⟨T.setVm vm₁, locs, cells, slots⟩ { g with stack := rest } (.invokestatic index) mk argsL.toArray X₁ hg hsize hdg hW (X₁.named hnamed) (hpre vm₁ X₁.warmed)
  exact ⟨v, vm₁, B, X₁.warmed, X', hpost, fun target h => hstep₁ _ fun acts => by rw [doInvoke_state]; exact hsteps.trans h⟩
theorem vx_runSW {y : MethodName} {bytes cc : ByteArray} {maxL nL mc ms n index : Nat} {ret : Option FieldType} {hh : List (Nat × Nat × Nat × Nat)} {ws : List Cond} {rm : Room} {Pc : Array Value → State → Prop} {Qc : Array Value → State → Outcome → State → Prop} {free : Addr → Prop} {Ts : List Cond} {own : String} {As rest : List Value} {g : JFrame}
    (S : CallFix p m c cc nL s args Ts own) (hM : Met l y ws rm Pc Qc mc ms free) (cw : vx_CSW R s args own index y bytes maxL ret hh ws rm mc ms n) (hp : PreS s H Pc As)
    (hg : g.method = m) (hn : As.length = n) (hsize : g.locals.size = nL) (hstack : g.stack = As.reverse ++ rest) (hW : 2 * g.monitorRoom + (rest.map fun v => v.category).sum ≤ 8) (hdg : decode cc g.pc = .ok (.invokestatic index, 3)) (hf : cells + mc ≤ R.cells ∧ slots + ms ≤ R.slots) :
    va_Run p l e R s m args below meth c H locs cells slots mc ms g rest (Qc As.toArray) (free) := by
  obtain ⟨⟨hrc, hrs, hfr, hlo, hws, hcw⟩, hcode, hini, hy, hlen, hl, hstt⟩ := cw
  have hK : Back l R p e below s args y 3 8 (PreOf R mc ms Pc) (PostOf Qc mc ms free) := va_backW (hh := hh) (bytes := bytes) (maxL := maxL) (ret := ret) hM hp.1 hrc hrs hfr hlo hws hcw (fun a' U hW => word_at hW (Or.inl (by first | rfl | simp [Cond.onTables, Cond.keeps, Cond.steady])) hini)
  obtain ⟨hx, hb, hml, ho, -⟩ := S
  intro T hT X
  obtain ⟨v, vm₁, ⟨U', l2, c2, s2⟩, hW₁, X', ⟨g', mk, t, L, e1, e2, hq, h1, hL, h2, h3⟩, st⟩ := vx_callSW X hx (hh := hh) (bytes := bytes) (maxL := maxL) (ret := ret) ho hl hstt hini hcode hy hK hg (hsize.trans hml.symm) (argsL := As) (rest := rest) (fun sig h => hn.trans (hlen sig h)) hstack hW (by rw [hb]; exact hdg)
    (fun vm₁ hW₁ => ⟨hf.1, hf.2, hp.2 (T.setVm vm₁) hT hW₁⟩)
  dsimp only [Pt.U, Pt.locs, Pt.cells, Pt.slots] at X' e1 e2 h1 h2 h3 st
  subst h1; subst h2; subst h3
  exact ⟨v, (T.setVm vm₁).calling g' mk As.toArray, t, U', L, hT, X', hL, e1, e2, hq, st⟩
/-- not caught here, past rows that name other classes: it goes on to the caller -/
theorem vx_outP {p : Program} {l : Launch} {e : Env} {R : Room} {s : State} {m : MethodId} {args : Array Value} {below : List Frame} {meth : Method} {c : Code} {H : Heap} {locs : List Loc} {cells slots : Nat} {free : Addr → Prop} {ls : Array Slot} {rest : List Value} {Qc : Array Value → State → Outcome → State → Prop} {XC : String → State → State → Prop}
    {pc : Nat} {own E : String} {ce : Cell} {q : Addr} {mc ms : Nat} (hown : s.vm.findClass own = some m.cls) (hlocks : meth.locks = false)
    (hpass : ∀ z ∈ c.exceptionTable.toList, covers z pc = false ∨ (z.catchType ≠ 0 ∧ ∃ nm : String, (Cond.classLink own z.catchType nm).before args s = true ∧ va_Nc E nm s)) (hcell : H[q]? = some ce) (hv : ce.vm = .none) (hcl : s.vm.findClass E = some ce.cls)
    (hx : ∀ t : State, t.heap = H → s.vm.Alike t.vm → XC E s t) (hf : ∀ z ∈ locs, free z.base) (hc : cells ≤ mc) (hs : slots ≤ ms) :
    vx_W p l e R s m args below meth c H locs cells slots (vx_MQ below Qc XC args s mc ms free) (F0 m pc ls rest) q := by
  intro T hT X
  have hpl : e.platform.magicAccessors = ({} : Platform).magicAccessors := by rw [X.admits.platform]
  obtain ⟨vm', hW', X', st⟩ := X.outThrough hlocks q (g := F0 m pc ls rest) rfl rfl rfl (cell := ce) (by rw [hT]; exact hcell) (by rw [hv]; rfl)
    (by obtain ⟨k9, h9, -⟩ := Vm.findClass_spec hcl; exact ⟨k9, h9⟩) (fun z hz => by
      rcases hpass z hz with h | ⟨hz0, nm, hl1, hn1⟩
      · exact Or.inl h
      · obtain ⟨c6, hc6, hcl6⟩ := Cond.classLink_spec hown hl1 e.platform hpl
        obtain ⟨a8, b8, h1, h2, h3⟩ := hn1
        cases Option.some.inj (h1.symm.trans hcl)
        cases Option.some.inj (h2.symm.trans hc6)
        exact Or.inr ⟨hz0, _, hcl6, h3⟩)
  obtain ⟨g₀, hfr⟩ := X'.frames_eq
  have hcell9 : ((T.setVm vm').setFrames (.throwing q :: below)).heap[q]? = some ce := by
    show T.heap[q]? = some ce
    rw [hT]; exact hcell
  have hend : Ended ((T.setVm vm').setFrames (.throwing q :: below)) below (.threw q) := State.frames_setFrames _ (State.cur_lt_of_frames hfr)
  refine ⟨(T.setVm vm').setFrames (.throwing q :: below), ?_, .threw q, X'.here.running, hend, Or.inr ⟨q, rfl, E, ce, locs, hx _ hT (X'.ends _).1.alike, hcell9, hv, hcl, (X'.ends _).1, (X'.ends _).2.mono hc hs, hf⟩⟩
  rw [X.pushThrowing_eq]
  exact st
/-- a thing of a world lies in the heap -/
theorem vx_lt {D : va_G} {cl : List vw_C} {ws : va_W} {H1 : Heap} (h : va_P D cl ws H1) {k : Nat} {q : Nat × va_E} (hk : ws[k]? = some q) : q.1 < H1.size := (h k q hk).lt
end VXS
/-! ===== END ===== -/
/-! ===== BEGIN methods with a table of their own: called by a name, returning or throwing ===== -/
section VXH
/-! vx_backW, vx_callVX, vx_callSX, vx_callVW, vx_runVW, vx_runVX, vx_runSX, vx_ofWH follow the same proofs as their sisters above (Free/Laws.lean, Shelf42/LK1.lean); vx_outP calls Shelf42/NT130.lean (outThrough). -/
section
variable {l : Launch} {R : Room} {p : Program} {e : Env} {below : List Frame} {s : State} {sargs : Array Value} {y : MethodName} {len W9 : Nat}
theorem vx_backW {ws : List Cond} {rm : Room} {Pc : Array Value → State → Prop} {Qc : Array Value → State → Outcome → State → Prop} {XC : String → State → State → Prop} {mc ms : Nat} {free : Addr → Prop} {bytes : ByteArray} {maxL : Nat} {ret : Option FieldType} {hh : List (Nat × Nat × Nat × Nat)}
    (hM : vx_Met l y ws rm Pc Qc XC mc ms free) (hblind : FrameBlind Pc) (hrc : rm.cells = mc) (hrs : rm.slots = ms)
    (hframes : rm.frames + 1 ≤ R.frames) (hlocals : W9 + (maxL + 11) + rm.locals ≤ R.locals)
    (hws : ∀ w ∈ ws, ∀ a' U, s.WarmedH U.vm → w.before a' U = true) (hcode : Cond.codeWith y bytes maxL ret hh ∈ ws) (hinit : ∀ a' U, s.WarmedH U.vm → (Cond.initialized y.cls).before a' U = true) :
    vx_Back l R p e below s sargs y len W9 (PreOf R mc ms Pc) (PostOf Qc mc ms free) (vx_Post XC mc ms free) := by
  intro m meth c A g ig mk a X hg hsize hdg hW hn hp
  have h1 : (headSpec ws rm).pre.before a A.U = true := atoms_intro fun w hw => hws w hw _ _ X.warmed
  have h2 : (Cond.codeWith y bytes maxL ret hh).before a A.U = true := hws _ hcode _ _ X.warmed
  have h3 : (Cond.initialized y.cls).before a A.U = true := hinit _ _ X.warmed
  have h4 : A.cells + (headSpec ws rm).room.cells ≤ R.cells := by rw [show (headSpec ws rm).room.cells = mc from hrc]; exact hp.1
  have h5 : A.slots + (headSpec ws rm).room.slots ≤ R.slots := by rw [show (headSpec ws rm).room.slots = ms from hrs]; exact hp.2.1
  have hPc : Pc a (A.U.calling g mk a) := hblind _ _ _ _ hp.2.2
  obtain ⟨U, Ls, c0, s0⟩ := A
  dsimp only [Pt.U, Pt.locs, Pt.cells, Pt.slots] at h1 h2 h3 h4 h5 X hn hPc ⊢
  obtain ⟨m9, methY, cY, hn9, hmY, hcY, -, hlY, -⟩ := Cond.codeWith_spec h2
  cases Option.some.inj (hn9.symm.trans hn)
  obtain ⟨kY, hkY, -⟩ := className_of_methodNamed hn
  have hinitY : kY.init = .initialized := Cond.initialized_spec (findClass_of_methodNamed hn) hkY h3
  have h : At U g.method c below := by rw [hg]; exact X.here
  have hlocals9 : W9 + (maxL + 11) + (headSpec ws rm).room.locals ≤ R.locals := hlocals
  have happ : (headSpec ws rm).appliesLoose y e.platform (U.calling g mk a) = true :=
    Spec.appliesLoose_calling (g := g) h hdg hn hkY hinitY
      (X.room_calling (g := g) (R' := (headSpec ws rm).room) hsize hmY hcY hframes (by rw [hlY]; omega) h4 h5) h1
  obtain ⟨mid, hmid⟩ := h.above
  have hfr : (U.setTop g).frames = (.java g :: mid) ++ below := by rw [State.frames_setTop' g h.top, hmid]; rfl
  obtain ⟨o, s₂, hsteps, -, hend, hq⟩ := Steps.callFree hM p X.admits X.cas X.clock (acts := []) hfr happ hPc trivial
  have hq' : vx_Q Qc XC mc ms free a (U.calling g mk a) o s₂ := hq
  rw [State.frames_setTop' g h.top] at hend
  obtain ⟨g₀, hg0⟩ := Option.isSome_iff_exists.mp h.top
  obtain ⟨r, hr⟩ := State.topJava?_eq_some.mp hg0
  have hr' : (({ U with heap := s₂.heap, slotsUsed := s₂.slotsUsed } : State).setVm s₂.vm).frames = .java g₀ :: r := hr
  rcases hq' with ⟨hqc, L, hfe, hL⟩ | ⟨q, rfl, E, ce, L, hx, hce, hcv, hcl, hW₂, hsm, hL⟩
  · obtain ⟨⟨v, rfl⟩, hW₂, e2, q2, q3, q4, q5, q6⟩ := id hfe
    have e3 : s₂ = ({ (U.calling g mk a).setFrames s₂.frames with heap := s₂.heap, slotsUsed := s₂.slotsUsed } : State).setVm s₂.vm := by
      have : s₂ = ({ s₂ with vm := (U.calling g mk a).vm } : State).setVm s₂.vm := rfl
      rw [e2] at this
      exact this
    obtain ⟨c₂, i₂, len₂, hc₂, hd₂, hf₂⟩ := hend
    have hW' : U.WarmedH s₂.vm := hW₂
    have hcc : c₂ = c := by
      have h1 : s₂.code? g.method = U.code? g.method := by
        rw [State.code?_eq, State.code?_eq, hW'.alike.method?]
      exact Option.some.inj (hc₂.symm.trans (h1.trans h.code))
    subst hcc
    have hlen : len₂ = len := by rw [hdg] at hd₂; cases hd₂; rfl
    subst hlen
    have hs₂ : s₂ = (({ U with heap := s₂.heap, slotsUsed := s₂.slotsUsed } : State).setVm s₂.vm).setTop { g with pc := g.pc + len₂, stack := v.toList ++ g.stack } := by
      refine e3.trans ?_
      rw [hf₂, State.calling_eq h.top, State.setFrames_setFrames, State.setTop_of_frames _ hr', hr]
      rfl
    have hsame : U.sameButNew ({ U with heap := s₂.heap, slotsUsed := s₂.slotsUsed } : State) L mc ms := by
      refine ⟨?_, q2, q3, q4, q5, q6⟩
      obtain ⟨t, ht, -⟩ := State.frames_cons hr
      show ({ U with heap := s₂.heap, slotsUsed := s₂.slotsUsed } : State) = { U.setFrames U.frames with heap := s₂.heap, slotsUsed := s₂.slotsUsed }
      rw [State.setFrames_self ht]
    subst hg
    refine Or.inl ⟨v, ⟨(({ U with heap := s₂.heap, slotsUsed := s₂.slotsUsed } : State).setVm s₂.vm), Ls ++ L, c0 + mc, s0 + ms⟩,
      ⟨X.admits, X.cas, X.clock, X.frames, X.room, X.hears, X.method, X.code, (X.here.setHeapUsed s₂.heap s₂.slotsUsed).setVm hW'.alike, X.tail, State.WarmedH.trans X.warmed hW', X.limits, X.bytes, X.same.trans (hsame.setVm s.vm)⟩,
      ⟨g, mk, s₂, L, rfl, rfl, hqc, rfl, hL, rfl, rfl⟩, ?_⟩
    show Steps p.tables e below _ ((({ U with heap := s₂.heap, slotsUsed := s₂.slotsUsed } : State).setVm s₂.vm).setTop { g with pc := g.pc + len₂, stack := v.toList ++ g.stack })
    rw [← hs₂]
    exact hsteps
  · obtain ⟨e2, q2, q3, q4, q5, q6⟩ := id hsm
    have e3 : s₂ = ({ (U.calling g mk a).setFrames s₂.frames with heap := s₂.heap, slotsUsed := s₂.slotsUsed } : State).setVm s₂.vm := by
      have : s₂ = ({ s₂ with vm := (U.calling g mk a).vm } : State).setVm s₂.vm := rfl
      rw [e2] at this
      exact this
    have hf₂ : s₂.frames = .throwing q :: .java g :: U.frames.tail := hend
    have hW' : U.WarmedH s₂.vm := hW₂
    have hs₂ : s₂ = ((({ U with heap := s₂.heap, slotsUsed := s₂.slotsUsed } : State).setVm s₂.vm).setTop g).pushFrame (.throwing q) := by
      refine e3.trans ?_
      rw [hf₂, State.calling_eq h.top, State.setFrames_setFrames, State.pushFrame, State.frames_setTop _ hr', State.setTop_of_frames _ hr', State.setFrames_setFrames, hr]
      rfl
    have hsame : U.sameButNew ({ U with heap := s₂.heap, slotsUsed := s₂.slotsUsed } : State) L mc ms := by
      refine ⟨?_, q2, q3, q4, q5, q6⟩
      obtain ⟨t, ht, -⟩ := State.frames_cons hr
      show ({ U with heap := s₂.heap, slotsUsed := s₂.slotsUsed } : State) = { U.setFrames U.frames with heap := s₂.heap, slotsUsed := s₂.slotsUsed }
      rw [State.setFrames_self ht]
    subst hg
    refine Or.inr ⟨q, ⟨(({ U with heap := s₂.heap, slotsUsed := s₂.slotsUsed } : State).setVm s₂.vm), Ls ++ L, c0 + mc, s0 + ms⟩,
      ⟨X.admits, X.cas, X.clock, X.frames, X.room, X.hears, X.method, X.code, (X.here.setHeapUsed s₂.heap s₂.slotsUsed).setVm hW'.alike, X.tail, State.WarmedH.trans X.warmed hW', X.limits, X.bytes, X.same.trans (hsame.setVm s.vm)⟩,
      ⟨g, mk, s₂, L, E, ce, rfl, rfl, hx, hce, hcv, hcl, rfl, hL, rfl, rfl⟩, ?_⟩
    show Steps p.tables e below _ (((({ U with heap := s₂.heap, slotsUsed := s₂.slotsUsed } : State).setVm s₂.vm).setTop g).pushFrame (.throwing q))
    rw [← hs₂]
    exact hsteps
end
variable {p : Program} {l : Launch} {e : Env} {R : Room} {s : State} {m : MethodId} {args : Array Value} {below : List Frame} {meth : Method} {c : Code} {T : State} {H : Heap} {locs : List Loc} {cells slots : Nat}
theorem vx_callVX (X : Stand p l e R s m args below meth c T locs cells slots) (hexec : p.tables.exec = Jvm.exec) {own C : String} {index : Nat} {y : MethodName} {bytes : ByteArray} {maxL : Nat} {ret : Option FieldType} {hh : List (Nat × Nat × Nat × Nat)}
    (hown : s.vm.findClass own = some m.cls) (hlink : (Cond.methodLink own index y).before args s = true) (hinst : (Cond.instanceMethod y).before args s = true) (hsel : (Cond.selects C y y).before args s = true)
    (hcode : (Cond.codeWith y bytes maxL ret hh).before args s = true) (hy : y.cls ≠ "java/lang/invoke/MethodHandle" ∧ y.cls ≠ "java/lang/invoke/VarHandle")
    {W9 : Nat} {Pre : Pt → Array Value → Prop} {Post : Pt → Array Value → Option Value → Pt → Prop} {PostX : Pt → Array Value → Addr → Pt → Prop} (hK : vx_Back l R p e below s args y 3 W9 Pre Post PostX)
    {b : Addr} {cellB : Cell} (hcell : T.heap[b]? = some cellB) (hobj : cellB.vm.isStatics = false) (hcls : s.vm.findClass C = some cellB.cls)
    {g : JFrame} (hg : g.method = m) (hsize : g.locals.size = c.maxLocals) {argsL rest : List Value} (hlen : ∀ sig, parseMethodDescriptor y.desc = some sig → argsL.length = sig.parameters.length)
    (hstack : g.stack = argsL.reverse ++ .ref b :: rest) (hW : 2 * g.monitorRoom + (rest.map fun v => v.category).sum ≤ W9) (hdg : decode c.code g.pc = .ok (.invokevirtual index, 3))
    (hpre : ∀ vm₁, s.WarmedH vm₁ → Pre ⟨T.setVm vm₁, locs, cells, slots⟩ (Value.ref b :: argsL).toArray) :
    (∃ (v : Option Value) (vm₁ : Vm) (B : Pt), s.WarmedH vm₁ ∧ Stand p l e R s m args below meth c B.U B.locs B.cells B.slots ∧ Post ⟨T.setVm vm₁, locs, cells, slots⟩ (Value.ref b :: argsL).toArray v B ∧
      ∀ target, Steps p.tables e below (B.U.setTop { g with pc := g.pc + 3, stack := v.toList ++ rest }) target → Steps p.tables e below (T.setTop g) target) ∨
    (∃ (q : Addr) (vm₁ : Vm) (B : Pt), s.WarmedH vm₁ ∧ Stand p l e R s m args below meth c B.U B.locs B.cells B.slots ∧ PostX ⟨T.setVm vm₁, locs, cells, slots⟩ (Value.ref b :: argsL).toArray q B ∧
      Steps p.tables e below (T.setTop g) ((B.U.setTop { g with stack := rest }).pushFrame (.throwing q))) := by
  obtain ⟨mk, methM, hnamed, hmethM, hstM, habM⟩ := Cond.instanceMethod_spec hinst
  obtain ⟨m8, methM', cM, hn8, hmethM', -, -, -, -, -, -, hsigM⟩ := Cond.codeWith_spec hcode
  cases Option.some.inj (hn8.symm.trans hnamed)
  cases hmethM.symm.trans hmethM'
  obtain ⟨c2, r2, m2, q1, q2, q3, q4, kP, hkP, hkPi⟩ := Cond.selects_spec hsel
  cases hcls.symm.trans q1
  cases (State.methodFound?_of_named hnamed hy).symm.trans q2
  cases hnamed.symm.trans q3
  have hselP : selectMethod e.platform s.vm cellB.cls mk = .method mk := by rw [Launch.admits_selectMethod X.admits]; exact q4
  obtain ⟨vm₁, X₁, hstep₁⟩ := X.invokevirtual hexec hown hlink hnamed hmethM hstM hkP hkPi hy (a := b) (cell := cellB) hcell
    (fun z h => by rw [h] at hobj; cases hobj) hselP hmethM habM hkP hkPi (g := g) hg (argsL := argsL) (rest := rest) (hlen _ hsigM) hstack hdg
  rcases hK m meth c ⟨T.setVm vm₁, locs, cells, slots⟩ { g with stack := rest } (.invokevirtual index) mk (Value.ref b :: argsL).toArray X₁ hg hsize hdg hW (X₁.named hnamed) (hpre vm₁ X₁.warmed) with ⟨v, B, X', hpost, hsteps⟩ | ⟨q, B, X', hpost, hsteps⟩
  · exact Or.inl ⟨v, vm₁, B, X₁.warmed, X', hpost, fun target h => hstep₁ _ fun acts => by rw [doInvoke_state]; exact hsteps.trans h⟩
  · exact Or.inr ⟨q, vm₁, B, X₁.warmed, X', hpost, hstep₁ _ fun acts => by rw [doInvoke_state]; exact hsteps⟩
theorem vx_callSX (X : Stand p l e R s m args below meth c T locs cells slots) (hexec : p.tables.exec = Jvm.exec) {own : String} {index : Nat} {y : MethodName} {bytes : ByteArray} {maxL : Nat} {ret : Option FieldType} {hh : List (Nat × Nat × Nat × Nat)}
    (hown : s.vm.findClass own = some m.cls) (hlink : (Cond.methodLink own index y).before args s = true) (hstat : (Cond.static y).before args s = true) (hinit : (Cond.initialized y.cls).before args s = true)
    (hcode : (Cond.codeWith y bytes maxL ret hh).before args s = true) (hy : y.cls ≠ "java/lang/invoke/MethodHandle" ∧ y.cls ≠ "java/lang/invoke/VarHandle")
    {W9 : Nat} {Pre : Pt → Array Value → Prop} {Post : Pt → Array Value → Option Value → Pt → Prop} {PostX : Pt → Array Value → Addr → Pt → Prop} (hK : vx_Back l R p e below s args y 3 W9 Pre Post PostX)
    {g : JFrame} (hg : g.method = m) (hsize : g.locals.size = c.maxLocals) {argsL rest : List Value} (hlen : ∀ sig, parseMethodDescriptor y.desc = some sig → argsL.length = sig.parameters.length)
    (hstack : g.stack = argsL.reverse ++ rest) (hW : 2 * g.monitorRoom + (rest.map fun v => v.category).sum ≤ W9) (hdg : decode c.code g.pc = .ok (.invokestatic index, 3))
    (hpre : ∀ vm₁, s.WarmedH vm₁ → Pre ⟨T.setVm vm₁, locs, cells, slots⟩ argsL.toArray) :
    (∃ (v : Option Value) (vm₁ : Vm) (B : Pt), s.WarmedH vm₁ ∧ Stand p l e R s m args below meth c B.U B.locs B.cells B.slots ∧ Post ⟨T.setVm vm₁, locs, cells, slots⟩ argsL.toArray v B ∧
      ∀ target, Steps p.tables e below (B.U.setTop { g with pc := g.pc + 3, stack := v.toList ++ rest }) target → Steps p.tables e below (T.setTop g) target) ∨
    (∃ (q : Addr) (vm₁ : Vm) (B : Pt), s.WarmedH vm₁ ∧ Stand p l e R s m args below meth c B.U B.locs B.cells B.slots ∧ PostX ⟨T.setVm vm₁, locs, cells, slots⟩ argsL.toArray q B ∧
      Steps p.tables e below (T.setTop g) ((B.U.setTop { g with stack := rest }).pushFrame (.throwing q))) := by
  obtain ⟨mk, methM, cM, hnamed, hmethM, -, -, -, -, -, -, hsigM⟩ := Cond.codeWith_spec hcode
  have hstatic : methM.isStatic = true := Cond.static_spec hnamed hmethM hstat
  obtain ⟨kP, hkP, -⟩ := className_of_methodNamed hnamed
  have hinitP : kP.init = .initialized := Cond.initialized_spec (findClass_of_methodNamed hnamed) hkP hinit
  obtain ⟨vm₁, X₁, hstep₁⟩ := X.invokestatic hexec hown hlink hnamed hmethM hstatic hkP hinitP hy (g := g) hg (argsL := argsL) (rest := rest) (hlen _ hsigM) hstack hdg
  rcases hK m meth c ⟨T.setVm vm₁, locs, cells, slots⟩ { g with stack := rest } (.invokestatic index) mk argsL.toArray X₁ hg hsize hdg hW (X₁.named hnamed) (hpre vm₁ X₁.warmed) with ⟨v, B, X', hpost, hsteps⟩ | ⟨q, B, X', hpost, hsteps⟩
  · exact Or.inl ⟨v, vm₁, B, X₁.warmed, X', hpost, fun target h => hstep₁ _ fun acts => by rw [doInvoke_state]; exact hsteps.trans h⟩
  · exact Or.inr ⟨q, vm₁, B, X₁.warmed, X', hpost, hstep₁ _ fun acts => by rw [doInvoke_state]; exact hsteps⟩
theorem vx_callVW (X : Stand p l e R s m args below meth c T locs cells slots) (hexec : p.tables.exec = Jvm.exec) {own C : String} {index : Nat} {y : MethodName} {bytes : ByteArray} {maxL : Nat} {ret : Option FieldType} {hh : List (Nat × Nat × Nat × Nat)}
    (hown : s.vm.findClass own = some m.cls) (hlink : (Cond.methodLink own index y).before args s = true) (hinst : (Cond.instanceMethod y).before args s = true) (hsel : (Cond.selects C y y).before args s = true)
    (hcode : (Cond.codeWith y bytes maxL ret hh).before args s = true) (hy : y.cls ≠ "java/lang/invoke/MethodHandle" ∧ y.cls ≠ "java/lang/invoke/VarHandle")
    {W9 : Nat} {Pre : Pt → Array Value → Prop} {Post : Pt → Array Value → Option Value → Pt → Prop} (hK : Back l R p e below s args y 3 W9 Pre Post)
    {b : Addr} {cellB : Cell} (hcell : T.heap[b]? = some cellB) (hobj : cellB.vm.isStatics = false) (hcls : s.vm.findClass C = some cellB.cls)
    {g : JFrame} (hg : g.method = m) (hsize : g.locals.size = c.maxLocals) {argsL rest : List Value} (hlen : ∀ sig, parseMethodDescriptor y.desc = some sig → argsL.length = sig.parameters.length)
    (hstack : g.stack = argsL.reverse ++ .ref b :: rest) (hW : 2 * g.monitorRoom + (rest.map fun v => v.category).sum ≤ W9) (hdg : decode c.code g.pc = .ok (.invokevirtual index, 3))
    (hpre : ∀ vm₁, s.WarmedH vm₁ → Pre ⟨T.setVm vm₁, locs, cells, slots⟩ (Value.ref b :: argsL).toArray) :
    ∃ (v : Option Value) (vm₁ : Vm) (B : Pt), s.WarmedH vm₁ ∧ Stand p l e R s m args below meth c B.U B.locs B.cells B.slots ∧ Post ⟨T.setVm vm₁, locs, cells, slots⟩ (Value.ref b :: argsL).toArray v B ∧
      ∀ target, Steps p.tables e below (B.U.setTop { g with pc := g.pc + 3, stack := v.toList ++ rest }) target → Steps p.tables e below (T.setTop g) target := by
  obtain ⟨mk, methM, hnamed, hmethM, hstM, habM⟩ := Cond.instanceMethod_spec hinst
  obtain ⟨m8, methM', cM, hn8, hmethM', -, -, -, -, -, -, hsigM⟩ := Cond.codeWith_spec hcode
  cases Option.some.inj (hn8.symm.trans hnamed)
  cases hmethM.symm.trans hmethM'
  obtain ⟨c2, r2, m2, q1, q2, q3, q4, kP, hkP, hkPi⟩ := Cond.selects_spec hsel
  cases hcls.symm.trans q1
  cases (State.methodFound?_of_named hnamed hy).symm.trans q2
  cases hnamed.symm.trans q3
  have hselP : selectMethod e.platform s.vm cellB.cls mk = .method mk := by rw [Launch.admits_selectMethod X.admits]; exact q4
  obtain ⟨vm₁, X₁, hstep₁⟩ := X.invokevirtual hexec hown hlink hnamed hmethM hstM hkP hkPi hy (a := b) (cell := cellB) hcell
    (fun z h => by rw [h] at hobj; cases hobj) hselP hmethM habM hkP hkPi (g := g) hg (argsL := argsL) (rest := rest) (hlen _ hsigM) hstack hdg
  obtain ⟨v, B, X', hpost, hsteps⟩ := hK m meth c ⟨T.setVm vm₁, locs, cells, slots⟩ { g with stack := rest } (.invokevirtual index) mk (Value.ref b :: argsL).toArray X₁ hg hsize hdg hW (X₁.named hnamed) (hpre vm₁ X₁.warmed)
  exact ⟨v, vm₁, B, X₁.warmed, X', hpost, fun target h => hstep₁ _ fun acts => by rw [doInvoke_state]; exact hsteps.trans h⟩
abbrev vx_CVW (R : Room) (s : State) (args : Array Value) (own C : String) (index : Nat) (y : MethodName) (bytes : ByteArray) (maxL : Nat) (ret : Option FieldType) (hh : List (Nat × Nat × Nat × Nat)) (ws : List Cond) (rm : Room) (mc ms n : Nat) : Prop :=
  (rm.cells = mc ∧ rm.slots = ms ∧ rm.frames + 1 ≤ R.frames ∧ 8 + (maxL + 11) + rm.locals ≤ R.locals ∧ (∀ w ∈ ws, ∀ (a' : Array Value) (U : State), s.WarmedH U.vm → w.before a' U = true) ∧ Cond.codeWith y bytes maxL ret hh ∈ ws) ∧
  (Cond.codeWith y bytes maxL ret hh).before args s = true ∧ (Cond.initialized y.cls).before args s = true ∧ (y.cls ≠ "java/lang/invoke/MethodHandle" ∧ y.cls ≠ "java/lang/invoke/VarHandle") ∧
  (∀ sig, parseMethodDescriptor y.desc = some sig → n = sig.parameters.length) ∧ (Cond.methodLink own index y).before args s = true ∧ (Cond.instanceMethod y).before args s = true ∧ (Cond.selects C y y).before args s = true
theorem vx_cwVW {own C : String} {index maxL mc ms : Nat} {y : MethodName} {bytes : ByteArray} {ret : Option FieldType} {hh : List (Nat × Nat × Nat × Nat)} {Ts ws ws' : List Cond} {rm : Room} (n : Nat) (ht : ∀ w ∈ Ts, w.before args s = true) (hT : GoodIn Ts (wsV own index C y ws)) (hw : ws = Cond.codeWith y bytes maxL ret hh :: ws') (hrc : rm.cells = mc) (hrs : rm.slots = ms)
    (hd : y.cls = C ∧ y.cls ≠ "java/lang/invoke/MethodHandle" ∧ y.cls ≠ "java/lang/invoke/VarHandle" ∧ (parseMethodDescriptor y.desc).map (fun d => d.parameters.length) = some n) (hR : rm.frames + 1 ≤ R.frames ∧ 8 + (maxL + 11) + rm.locals ≤ R.locals) :
    vx_CVW R s args own C index y bytes maxL ret hh ws rm mc ms n := by
  obtain ⟨hC, hd⟩ := hd
  subst hC
  have ok : ∀ w ∈ wsV own index y.cls y ws, w.before args s = true := fun w h => ht w (hT w h).1
  have hG : GoodIn Ts ws := fun w h => hT w (by unfold wsV; exact List.mem_append_right _ h)
  have hc : Cond.codeWith y bytes maxL ret hh ∈ ws := by rw [hw]; exact List.mem_cons_self
  refine ⟨⟨hrc, hrs, hR.1, hR.2, pay_in ht hG, hc⟩, ht _ (hG _ hc).1, ok _ (by simp [wsV]), ⟨hd.1, hd.2.1⟩, fun sig h => ?_, ok _ (by simp [wsV]), ok _ (by simp [wsV]), ok _ (by simp [wsV])⟩
  have h2 := hd.2.2
  rw [h] at h2
  exact (Option.some.inj h2).symm
theorem vx_runVW {y : MethodName} {bytes cc : ByteArray} {maxL nL mc ms n index : Nat} {ret : Option FieldType} {hh : List (Nat × Nat × Nat × Nat)} {ws : List Cond} {rm : Room} {Pc : Array Value → State → Prop} {Qc : Array Value → State → Outcome → State → Prop} {free : Addr → Prop} {Ts : List Cond} {own C : String} {b : Addr} {As rest : List Value} {g : JFrame}
    (S : CallFix p m c cc nL s args Ts own) (hM : Met l y ws rm Pc Qc mc ms free) (cw : vx_CVW R s args own C index y bytes maxL ret hh ws rm mc ms n) (hp : PreV s H C b Pc As)
    (hg : g.method = m) (hn : As.length = n) (hsize : g.locals.size = nL) (hstack : g.stack = As.reverse ++ .ref b :: rest) (hW : 2 * g.monitorRoom + (rest.map fun v => v.category).sum ≤ 8) (hdg : decode cc g.pc = .ok (.invokevirtual index, 3)) (hf : cells + mc ≤ R.cells ∧ slots + ms ≤ R.slots) :
    va_Run p l e R s m args below meth c H locs cells slots mc ms g rest (Qc (Value.ref b :: As).toArray) free := by
  obtain ⟨⟨hrc, hrs, hfr, hlo, hws, hcw⟩, hcode, hini, hy, hlen, hl, hin, hse⟩ := cw
  have hK : Back l R p e below s args y 3 8 (PreOf R mc ms Pc) (PostOf Qc mc ms free) := va_backW (hh := hh) (bytes := bytes) (maxL := maxL) (ret := ret) hM hp.1 hrc hrs hfr hlo hws hcw (fun a' U hW => word_at hW (Or.inl (by first | rfl | simp [Cond.onTables, Cond.keeps, Cond.steady])) hini)
  obtain ⟨hx, hb, hml, ho, -⟩ := S
  obtain ⟨-, ⟨cellB, hcB, hoB, hclB⟩, hPc⟩ := hp
  intro T hT X
  obtain ⟨v, vm₁, ⟨U', l2, c2, s2⟩, hW₁, X', ⟨g', mk, t, L, e1, e2, hq, h1, hL, h2, h3⟩, st⟩ := vx_callVW X hx (C := C) (hh := hh) (bytes := bytes) (maxL := maxL) (ret := ret) ho hl hin hse hcode hy hK (by rw [hT]; exact hcB) hoB hclB hg (hsize.trans hml.symm) (argsL := As) (rest := rest) (fun sig h => hn.trans (hlen sig h)) hstack hW (by rw [hb]; exact hdg)
    (fun vm₁ hW₁ => ⟨hf.1, hf.2, hPc (T.setVm vm₁) hT hW₁⟩)
  dsimp only [Pt.U, Pt.locs, Pt.cells, Pt.slots] at X' e1 e2 h1 h2 h3 st
  subst h1; subst h2; subst h3
  exact ⟨v, (T.setVm vm₁).calling g' mk (Value.ref b :: As).toArray, t, U', L, hT, X', hL, e1, e2, hq, st⟩
section
variable {y : MethodName} {bytes cc : ByteArray} {maxL nL mc ms n index : Nat} {ret : Option FieldType} {ws : List Cond} {rm : Room} {Pc : Array Value → State → Prop} {Qc : Array Value → State → Outcome → State → Prop} {XC : String → State → State → Prop} {free : Addr → Prop} {Ts : List Cond} {own C : String} {b : Addr} {As rest : List Value} {g : JFrame}
theorem vx_runVX {hh : List (Nat × Nat × Nat × Nat)} (S : CallFix p m c cc nL s args Ts own) (hM : vx_Met l y ws rm Pc Qc XC mc ms free) (cw : vx_CVW R s args own C index y bytes maxL ret hh ws rm mc ms n) (hp : PreV s H C b Pc As)
    (hg : g.method = m) (hn : As.length = n) (hsize : g.locals.size = nL) (hstack : g.stack = As.reverse ++ .ref b :: rest) (hW : 2 * g.monitorRoom + (rest.map fun v => v.category).sum ≤ 8) (hdg : decode cc g.pc = .ok (.invokevirtual index, 3)) (hf : cells + mc ≤ R.cells ∧ slots + ms ≤ R.slots) :
    vx_Run p l e R s m args below meth c H locs cells slots mc ms g rest (Qc (Value.ref b :: As).toArray) XC free := by
  obtain ⟨⟨hrc, hrs, hfr, hlo, hws, hcw⟩, hcode, hini, hy, hlen, hl, hin, hse⟩ := cw
  have hK : vx_Back l R p e below s args y 3 8 (PreOf R mc ms Pc) (PostOf Qc mc ms free) (vx_Post XC mc ms free) := vx_backW (hh := hh) (bytes := bytes) (maxL := maxL) (ret := ret) hM hp.1 hrc hrs hfr hlo hws hcw (fun a' U hW => word_at hW (Or.inl (by first | rfl | simp [Cond.onTables, Cond.keeps, Cond.steady])) hini)
  obtain ⟨hx, hb, hml, ho, -⟩ := S
  obtain ⟨-, ⟨cellB, hcB, hoB, hclB⟩, hPc⟩ := hp
  intro T hT X
  rcases vx_callVX X hx (C := C) (hh := hh) (bytes := bytes) (maxL := maxL) (ret := ret) ho hl hin hse hcode hy hK (by rw [hT]; exact hcB) hoB hclB hg (hsize.trans hml.symm) (argsL := As) (rest := rest) (fun sig h => hn.trans (hlen sig h)) hstack hW (by rw [hb]; exact hdg)
    (fun vm₁ hW₁ => ⟨hf.1, hf.2, hPc (T.setVm vm₁) hT hW₁⟩) with ⟨v, vm₁, ⟨U', l2, c2, s2⟩, hW₁, X', ⟨g', mk, t, L, e1, e2, hq, h1, hL, h2, h3⟩, st⟩ | ⟨q, vm₁, ⟨U', l2, c2, s2⟩, hW₁, X', ⟨g', mk, t, L, E, ce, e1, e2, hq, hce, hcv, hcl, h1, hL, h2, h3⟩, st⟩
  · dsimp only [Pt.U, Pt.locs, Pt.cells, Pt.slots] at X' e1 e2 h1 h2 h3 st
    subst h1; subst h2; subst h3
    exact Or.inl ⟨v, (T.setVm vm₁).calling g' mk (Value.ref b :: As).toArray, t, U', L, hT, X', hL, e1, e2, hq, st⟩
  · dsimp only [Pt.U, Pt.locs, Pt.cells, Pt.slots] at X' e1 e2 h1 h2 h3 st hcl
    subst h1; subst h2; subst h3
    exact Or.inr ⟨q, (T.setVm vm₁).calling g' mk (Value.ref b :: As).toArray, t, U', L, E, ce, hT, X', hL, e1, e2, hq, hce, hcv, vx_cls hW₁ hcl, st⟩
theorem vx_runSX {hh : List (Nat × Nat × Nat × Nat)} (S : CallFix p m c cc nL s args Ts own) (hM : vx_Met l y ws rm Pc Qc XC mc ms free) (cw : vx_CSW R s args own index y bytes maxL ret hh ws rm mc ms n) (hp : PreS s H Pc As)
    (hg : g.method = m) (hn : As.length = n) (hsize : g.locals.size = nL) (hstack : g.stack = As.reverse ++ rest) (hW : 2 * g.monitorRoom + (rest.map fun v => v.category).sum ≤ 8) (hdg : decode cc g.pc = .ok (.invokestatic index, 3)) (hf : cells + mc ≤ R.cells ∧ slots + ms ≤ R.slots) :
    vx_Run p l e R s m args below meth c H locs cells slots mc ms g rest (Qc As.toArray) XC free := by
  obtain ⟨⟨hrc, hrs, hfr, hlo, hws, hcw⟩, hcode, hini, hy, hlen, hl, hstt⟩ := cw
  have hK : vx_Back l R p e below s args y 3 8 (PreOf R mc ms Pc) (PostOf Qc mc ms free) (vx_Post XC mc ms free) := vx_backW (hh := hh) (bytes := bytes) (maxL := maxL) (ret := ret) hM hp.1 hrc hrs hfr hlo hws hcw (fun a' U hW => word_at hW (Or.inl (by first | rfl | simp [Cond.onTables, Cond.keeps, Cond.steady])) hini)
  obtain ⟨hx, hb, hml, ho, -⟩ := S
  intro T hT X
  rcases vx_callSX X hx (hh := hh) (bytes := bytes) (maxL := maxL) (ret := ret) ho hl hstt hini hcode hy hK hg (hsize.trans hml.symm) (argsL := As) (rest := rest) (fun sig h => hn.trans (hlen sig h)) hstack hW (by rw [hb]; exact hdg)
    (fun vm₁ hW₁ => ⟨hf.1, hf.2, hp.2 (T.setVm vm₁) hT hW₁⟩) with ⟨v, vm₁, ⟨U', l2, c2, s2⟩, hW₁, X', ⟨g', mk, t, L, e1, e2, hq, h1, hL, h2, h3⟩, st⟩ | ⟨q, vm₁, ⟨U', l2, c2, s2⟩, hW₁, X', ⟨g', mk, t, L, E, ce, e1, e2, hq, hce, hcv, hcl, h1, hL, h2, h3⟩, st⟩
  · dsimp only [Pt.U, Pt.locs, Pt.cells, Pt.slots] at X' e1 e2 h1 h2 h3 st
    subst h1; subst h2; subst h3
    exact Or.inl ⟨v, (T.setVm vm₁).calling g' mk As.toArray, t, U', L, hT, X', hL, e1, e2, hq, st⟩
  · dsimp only [Pt.U, Pt.locs, Pt.cells, Pt.slots] at X' e1 e2 h1 h2 h3 st hcl
    subst h1; subst h2; subst h3
    exact Or.inr ⟨q, (T.setVm vm₁).calling g' mk As.toArray, t, U', L, E, ce, hT, X', hL, e1, e2, hq, hce, hcv, vx_cls hW₁ hcl, st⟩
end
end VXH
theorem vx_ofWH {l : Launch} {y : MethodName} {ws ws' : List Cond} {rm : Room} {Pc : Array Value → State → Prop} {Qc : Array Value → State → Outcome → State → Prop} {XC : String → State → State → Prop} {mc ms : Nat} {free : Addr → Prop} {cc : ByteArray} {maxL : Nat} {ret : Option FieldType} {hh : List (Nat × Nat × Nat × Nat)}
    (hy : plainName y.cls = true) (hw : ws = Cond.codeWith y cc maxL ret hh :: ws')
    (body : ∀ p e s m args below meth c s₁, BodyLoose p l y (headSpec ws rm) cc maxL ret e s m args below meth c s₁ → c.maxLocals = maxL → Pc args s →
      W p l e (headSpec ws rm).room s m args below meth c s.heap [] 0 0 (vx_MQ below Qc XC args s mc ms free) (entryFrame m args maxL)) : vx_Met l y ws rm Pc Qc XC mc ms free := by
  refine MetFree.of_bodyS (code := cc) (maxLocals := maxL) (ret := ret) hy ?_ ?_
  · intro args s m h hn
    obtain ⟨m9, meth, c, hn9, h1, h2, h3, h4, -, h5, h6, -⟩ := Cond.codeWith_spec (atoms_spec (ws := ws) h _ (by rw [hw]; exact List.mem_cons_self))
    cases hn.symm.trans hn9
    exact ⟨meth, c, h1, h2, h3, h4, h5, h6⟩
  · intro p e s m args below meth c s₁ B hml hP _
    have hh0 : s₁.heap = s.heap := by rw [B.state]; rfl
    obtain ⟨t, a1, o, b1, b2, b3⟩ := body p e s m args below meth c s₁ B hml hP s₁ hh0 (Stand.of_body B)
    exact ⟨t, o, a1, b1, b2, b3⟩
/-! ===== END ===== -/
end
section
def RX0 : String := "ShelfSwarm$Fleet"
def TX0 : u_T := fun k => match k with
  | 0 => ("ShelfSwarm$Fleet", "floor", "LShelfSwarm$Floor;", true)
  | 1 => ("ShelfSwarm$Fleet", "robots", "Ljava/util/ArrayList;", true)
  | 2 => ("ShelfSwarm$Fleet", "steps", "I", false)
  | 3 => ("ShelfSwarm$Fleet", "rings", "I", false)
  | 4 => ("ShelfSwarm$Fleet", "yields", "I", false)
  | 5 => ("ShelfSwarm$Fleet", "knots", "I", false)
  | 6 => ("ShelfSwarm$Fleet", "ring", "Ljava/util/ArrayList;", true)
  | _ => ("ShelfSwarm$Fleet", "queue", "Ljava/util/ArrayList;", true)
def tyX0 : Nat → FieldType := fun k => match k with
  | 0 => .object "ShelfSwarm$Floor"
  | 1 => .object "java/util/ArrayList"
  | 2 => .int
  | 3 => .int
  | 4 => .int
  | 5 => .int
  | 6 => .object "java/util/ArrayList"
  | _ => .object "java/util/ArrayList"
abbrev wsX00 : List Cond := u_ws RX0 TX0 8
theorem nmX0 : ∀ a, a < 8 → ∀ b, b < 8 → a ≠ b → (TX0 a).2.1 ≠ (TX0 b).2.1 := by decide +kernel
theorem tyX0_ok : ∀ k, k < 8 → parseFieldDescriptor (TX0 k).2.2.1 = some (tyX0 k) := by decide +kernel
abbrev cX0_init : ByteArray := prog_2_method_1_code
def yX0_init : MethodName := ⟨RX0, "<init>", "()V"⟩
abbrev cX0_robotAt : ByteArray := prog_2_method_2_code
def yX0_robotAt : MethodName := ⟨RX0, "robotAt", "(I)LShelfSwarm$Robot;"⟩
abbrev cX0_robotWith : ByteArray := prog_2_method_3_code
def yX0_robotWith : MethodName := ⟨RX0, "robotWith", "(LShelfSwarm$Tray;)LShelfSwarm$Robot;"⟩
abbrev cX0_carrierOf : ByteArray := prog_2_method_4_code
def yX0_carrierOf : MethodName := ⟨RX0, "carrierOf", "(LShelfSwarm$Tray;)LShelfSwarm$Robot;"⟩
abbrev cX0_workerFor : ByteArray := prog_2_method_5_code
def yX0_workerFor : MethodName := ⟨RX0, "workerFor", "(LShelfSwarm$Line;)LShelfSwarm$Robot;"⟩
abbrev cX0_worksFor : ByteArray := prog_2_method_6_code
def yX0_worksFor : MethodName := ⟨RX0, "worksFor", "(LShelfSwarm$Station;)Z"⟩
abbrev cX0_nearestIdle : ByteArray := prog_2_method_7_code
def yX0_nearestIdle : MethodName := ⟨RX0, "nearestIdle", "(I)LShelfSwarm$Robot;"⟩
abbrev cX0_moveRobot : ByteArray := prog_2_method_8_code
def yX0_moveRobot : MethodName := ⟨RX0, "moveRobot", "(LShelfSwarm$Robot;I)V"⟩
abbrev cX0_askForCells : ByteArray := prog_2_method_9_code
def yX0_askForCells : MethodName := ⟨RX0, "askForCells", "(I)V"⟩
abbrev cX0_wantedCell : ByteArray := prog_2_method_10_code
def yX0_wantedCell : MethodName := ⟨RX0, "wantedCell", "(LShelfSwarm$Robot;)I"⟩
abbrev cX0_settleRings : ByteArray := prog_2_method_11_code
def yX0_settleRings : MethodName := ⟨RX0, "settleRings", "()V"⟩
abbrev cX0_gatherRing : ByteArray := prog_2_method_12_code
def yX0_gatherRing : MethodName := ⟨RX0, "gatherRing", "(LShelfSwarm$Robot;)V"⟩
abbrev cX0_turnRing : ByteArray := prog_2_method_13_code
def yX0_turnRing : MethodName := ⟨RX0, "turnRing", "()V"⟩
abbrev cX0_breakRing : ByteArray := prog_2_method_14_code
def yX0_breakRing : MethodName := ⟨RX0, "breakRing", "(LShelfSwarm$Robot;LShelfSwarm$Robot;)V"⟩
abbrev cX0_canYieldTo : ByteArray := prog_2_method_15_code
def yX0_canYieldTo : MethodName := ⟨RX0, "canYieldTo", "(LShelfSwarm$Robot;LShelfSwarm$Robot;)Z"⟩
abbrev cX0_stepAside : ByteArray := prog_2_method_16_code
def yX0_stepAside : MethodName := ⟨RX0, "stepAside", "()V"⟩
abbrev cX0_cellAside : ByteArray := prog_2_method_17_code
def yX0_cellAside : MethodName := ⟨RX0, "cellAside", "(I)I"⟩
abbrev cX0_isAskedFor : ByteArray := prog_2_method_18_code
def yX0_isAskedFor : MethodName := ⟨RX0, "isAskedFor", "(I)Z"⟩
abbrev cX0_moveOn : ByteArray := prog_2_method_19_code
def yX0_moveOn : MethodName := ⟨RX0, "moveOn", "()V"⟩
abbrev cX0_lineUpAskers : ByteArray := prog_2_method_20_code
def yX0_lineUpAskers : MethodName := ⟨RX0, "lineUpAskers", "()V"⟩
abbrev cX0_placeInQueue : ByteArray := prog_2_method_21_code
def yX0_placeInQueue : MethodName := ⟨RX0, "placeInQueue", "(LShelfSwarm$Robot;)I"⟩
abbrev cX0_arrive : ByteArray := prog_2_method_22_code
def yX0_arrive : MethodName := ⟨RX0, "arrive", "()V"⟩
def RX1 : String := "ShelfSwarm$Floor"
def TX1 : u_T := fun k => match k with
  | 0 => ("ShelfSwarm$Floor", "walls", "J", false)
  | 1 => ("ShelfSwarm$Floor", "closed", "J", false)
  | _ => ("ShelfSwarm$Floor", "dead", "J", false)
def tyX1 : Nat → FieldType := fun k => match k with
  | 0 => .long
  | 1 => .long
  | _ => .long
abbrev wsX10 : List Cond := u_ws RX1 TX1 3
theorem nmX1 : ∀ a, a < 3 → ∀ b, b < 3 → a ≠ b → (TX1 a).2.1 ≠ (TX1 b).2.1 := by decide +kernel
theorem tyX1_ok : ∀ k, k < 3 → parseFieldDescriptor (TX1 k).2.2.1 = some (tyX1 k) := by decide +kernel
abbrev cX1_init : ByteArray := prog_3_method_1_code
def yX1_init : MethodName := ⟨RX1, "<init>", "()V"⟩
abbrev cX1_setOf : ByteArray := prog_3_method_2_code
def yX1_setOf : MethodName := ⟨RX1, "setOf", "(I)J"⟩
abbrev cX1_isWall : ByteArray := prog_3_method_3_code
def yX1_isWall : MethodName := ⟨RX1, "isWall", "(I)Z"⟩
abbrev cX1_buildWall : ByteArray := prog_3_method_4_code
def yX1_buildWall : MethodName := ⟨RX1, "buildWall", "(I)V"⟩
abbrev cX1_isClosed : ByteArray := prog_3_method_5_code
def yX1_isClosed : MethodName := ⟨RX1, "isClosed", "(I)Z"⟩
abbrev cX1_markClosed : ByteArray := prog_3_method_6_code
def yX1_markClosed : MethodName := ⟨RX1, "markClosed", "(IZ)V"⟩
abbrev cX1_markDead : ByteArray := prog_3_method_7_code
def yX1_markDead : MethodName := ⟨RX1, "markDead", "(IZ)V"⟩
abbrev cX1_openCells : ByteArray := prog_3_method_8_code
def yX1_openCells : MethodName := ⟨RX1, "openCells", "()J"⟩
abbrev cX1_isOpen : ByteArray := prog_3_method_9_code
def yX1_isOpen : MethodName := ⟨RX1, "isOpen", "(I)Z"⟩
abbrev cX1_neighbour : ByteArray := prog_3_method_10_code
def yX1_neighbour : MethodName := ⟨RX1, "neighbour", "(II)I"⟩
abbrev cX1_neighboursOf : ByteArray := prog_3_method_11_code
def yX1_neighboursOf : MethodName := ⟨RX1, "neighboursOf", "(J)J"⟩
abbrev cX1_stepsBetween : ByteArray := prog_3_method_12_code
def yX1_stepsBetween : MethodName := ⟨RX1, "stepsBetween", "(III)I"⟩
abbrev cX1_nextCell : ByteArray := prog_3_method_13_code
def yX1_nextCell : MethodName := ⟨RX1, "nextCell", "(III)I"⟩
def RX2 : String := "ShelfSwarm$Line"
def TX2 : u_T := fun k => match k with
  | 0 => ("ShelfSwarm$Line", "order", "LShelfSwarm$Order;", true)
  | 1 => ("ShelfSwarm$Line", "good", "I", true)
  | 2 => ("ShelfSwarm$Line", "left", "I", false)
  | _ => ("ShelfSwarm$Line", "station", "LShelfSwarm$Station;", false)
def tyX2 : Nat → FieldType := fun k => match k with
  | 0 => .object "ShelfSwarm$Order"
  | 1 => .int
  | 2 => .int
  | _ => .object "ShelfSwarm$Station"
abbrev wsX20 : List Cond := u_ws RX2 TX2 4
theorem nmX2 : ∀ a, a < 4 → ∀ b, b < 4 → a ≠ b → (TX2 a).2.1 ≠ (TX2 b).2.1 := by decide +kernel
theorem tyX2_ok : ∀ k, k < 4 → parseFieldDescriptor (TX2 k).2.2.1 = some (tyX2 k) := by decide +kernel
abbrev cX2_init : ByteArray := prog_4_method_1_code
def yX2_init : MethodName := ⟨RX2, "<init>", "(LShelfSwarm$Order;II)V"⟩
def RX3 : String := "ShelfSwarm$Order"
def TX3 : u_T := fun k => match k with
  | 0 => ("ShelfSwarm$Order", "number", "I", true)
  | _ => ("ShelfSwarm$Order", "lines", "Ljava/util/ArrayList;", true)
def tyX3 : Nat → FieldType := fun k => match k with
  | 0 => .int
  | _ => .object "java/util/ArrayList"
abbrev wsX30 : List Cond := u_ws RX3 TX3 2
theorem nmX3 : ∀ a, a < 2 → ∀ b, b < 2 → a ≠ b → (TX3 a).2.1 ≠ (TX3 b).2.1 := by decide +kernel
theorem tyX3_ok : ∀ k, k < 2 → parseFieldDescriptor (TX3 k).2.2.1 = some (tyX3 k) := by decide +kernel
abbrev cX3_init : ByteArray := prog_5_method_1_code
def yX3_init : MethodName := ⟨RX3, "<init>", "(I)V"⟩
def RX4 : String := "ShelfSwarm$Pick"
def TX4 : u_T := fun k => match k with
  | 0 => ("ShelfSwarm$Pick", "tray", "LShelfSwarm$Tray;", true)
  | 1 => ("ShelfSwarm$Pick", "order", "LShelfSwarm$Order;", true)
  | _ => ("ShelfSwarm$Pick", "tick", "I", true)
def tyX4 : Nat → FieldType := fun k => match k with
  | 0 => .object "ShelfSwarm$Tray"
  | 1 => .object "ShelfSwarm$Order"
  | _ => .int
abbrev wsX40 : List Cond := u_ws RX4 TX4 3
theorem nmX4 : ∀ a, a < 3 → ∀ b, b < 3 → a ≠ b → (TX4 a).2.1 ≠ (TX4 b).2.1 := by decide +kernel
theorem tyX4_ok : ∀ k, k < 3 → parseFieldDescriptor (TX4 k).2.2.1 = some (tyX4 k) := by decide +kernel
abbrev cX4_init : ByteArray := prog_6_method_1_code
def yX4_init : MethodName := ⟨RX4, "<init>", "(LShelfSwarm$Tray;LShelfSwarm$Order;I)V"⟩
def RX5 : String := "ShelfSwarm$Robot"
def TX5 : u_T := fun k => match k with
  | 0 => ("ShelfSwarm$Robot", "number", "I", true)
  | 1 => ("ShelfSwarm$Robot", "rank", "I", true)
  | 2 => ("ShelfSwarm$Robot", "cell", "I", false)
  | 3 => ("ShelfSwarm$Robot", "state", "I", false)
  | 4 => ("ShelfSwarm$Robot", "tray", "LShelfSwarm$Tray;", false)
  | 5 => ("ShelfSwarm$Robot", "line", "LShelfSwarm$Line;", false)
  | 6 => ("ShelfSwarm$Robot", "asks", "I", false)
  | 7 => ("ShelfSwarm$Robot", "asksSince", "I", false)
  | _ => ("ShelfSwarm$Robot", "avoids", "I", false)
def tyX5 : Nat → FieldType := fun k => match k with
  | 0 => .int
  | 1 => .int
  | 2 => .int
  | 3 => .int
  | 4 => .object "ShelfSwarm$Tray"
  | 5 => .object "ShelfSwarm$Line"
  | 6 => .int
  | 7 => .int
  | _ => .int
abbrev wsX50 : List Cond := u_ws RX5 TX5 9
theorem nmX5 : ∀ a, a < 9 → ∀ b, b < 9 → a ≠ b → (TX5 a).2.1 ≠ (TX5 b).2.1 := by decide +kernel
theorem tyX5_ok : ∀ k, k < 9 → parseFieldDescriptor (TX5 k).2.2.1 = some (tyX5 k) := by decide +kernel
abbrev cX5_init : ByteArray := prog_7_method_1_code
def yX5_init : MethodName := ⟨RX5, "<init>", "(III)V"⟩
abbrev cX5_isAbove : ByteArray := prog_7_method_2_code
def yX5_isAbove : MethodName := ⟨RX5, "isAbove", "(LShelfSwarm$Robot;)Z"⟩
abbrev cX5_goesBefore : ByteArray := prog_7_method_3_code
def yX5_goesBefore : MethodName := ⟨RX5, "goesBefore", "(LShelfSwarm$Robot;)Z"⟩
abbrev cX5_isOnItsWay : ByteArray := prog_7_method_4_code
def yX5_isOnItsWay : MethodName := ⟨RX5, "isOnItsWay", "()Z"⟩
abbrev cX5_goal : ByteArray := prog_7_method_5_code
def yX5_goal : MethodName := ⟨RX5, "goal", "()I"⟩
abbrev cX5_become : ByteArray := prog_7_method_6_code
def yX5_become : MethodName := ⟨RX5, "become", "(I)V"⟩
abbrev cX5_moveTo : ByteArray := prog_7_method_7_code
def yX5_moveTo : MethodName := ⟨RX5, "moveTo", "(I)V"⟩
abbrev cX5_forgetAsking : ByteArray := prog_7_method_8_code
def yX5_forgetAsking : MethodName := ⟨RX5, "forgetAsking", "()V"⟩
abbrev cX5_askFor : ByteArray := prog_7_method_9_code
def yX5_askFor : MethodName := ⟨RX5, "askFor", "(II)V"⟩
abbrev cX5_yieldTo : ByteArray := prog_7_method_10_code
def yX5_yieldTo : MethodName := ⟨RX5, "yieldTo", "(LShelfSwarm$Robot;)V"⟩
abbrev cX5_fetch : ByteArray := prog_7_method_11_code
def yX5_fetch : MethodName := ⟨RX5, "fetch", "(LShelfSwarm$Tray;LShelfSwarm$Line;)V"⟩
abbrev cX5_leaveLine : ByteArray := prog_7_method_12_code
def yX5_leaveLine : MethodName := ⟨RX5, "leaveLine", "()V"⟩
abbrev cX5_breakDown : ByteArray := prog_7_method_13_code
def yX5_breakDown : MethodName := ⟨RX5, "breakDown", "()V"⟩
abbrev cX5_reachGoal : ByteArray := prog_7_method_14_code
def yX5_reachGoal : MethodName := ⟨RX5, "reachGoal", "()V"⟩
def RX6 : String := "ShelfSwarm$Station"
def TX6 : u_T := fun k => match k with
  | 0 => ("ShelfSwarm$Station", "number", "I", true)
  | 1 => ("ShelfSwarm$Station", "cell", "I", true)
  | _ => ("ShelfSwarm$Station", "claims", "Ljava/util/ArrayList;", true)
def tyX6 : Nat → FieldType := fun k => match k with
  | 0 => .int
  | 1 => .int
  | _ => .object "java/util/ArrayList"
abbrev wsX60 : List Cond := u_ws RX6 TX6 3
theorem nmX6 : ∀ a, a < 3 → ∀ b, b < 3 → a ≠ b → (TX6 a).2.1 ≠ (TX6 b).2.1 := by decide +kernel
theorem tyX6_ok : ∀ k, k < 3 → parseFieldDescriptor (TX6 k).2.2.1 = some (tyX6 k) := by decide +kernel
abbrev cX6_init : ByteArray := prog_8_method_1_code
def yX6_init : MethodName := ⟨RX6, "<init>", "(II)V"⟩
abbrev cX6_forget : ByteArray := prog_8_method_2_code
def yX6_forget : MethodName := ⟨RX6, "forget", "(LShelfSwarm$Line;)V"⟩
def RX7 : String := "ShelfSwarm$Tray"
def TX7 : u_T := fun k => match k with
  | 0 => ("ShelfSwarm$Tray", "number", "I", true)
  | 1 => ("ShelfSwarm$Tray", "home", "I", true)
  | 2 => ("ShelfSwarm$Tray", "good", "I", true)
  | 3 => ("ShelfSwarm$Tray", "amount", "I", false)
  | _ => ("ShelfSwarm$Tray", "received", "I", false)
def tyX7 : Nat → FieldType := fun k => match k with
  | 0 => .int
  | 1 => .int
  | 2 => .int
  | 3 => .int
  | _ => .int
abbrev wsX70 : List Cond := u_ws RX7 TX7 5
theorem nmX7 : ∀ a, a < 5 → ∀ b, b < 5 → a ≠ b → (TX7 a).2.1 ≠ (TX7 b).2.1 := by decide +kernel
theorem tyX7_ok : ∀ k, k < 5 → parseFieldDescriptor (TX7 k).2.2.1 = some (tyX7 k) := by decide +kernel
abbrev cX7_init : ByteArray := prog_9_method_1_code
def yX7_init : MethodName := ⟨RX7, "<init>", "(III)V"⟩
abbrev cX7_put : ByteArray := prog_9_method_2_code
def yX7_put : MethodName := ⟨RX7, "put", "(I)V"⟩
def RX8 : String := "ShelfSwarm"
def TX8 : u_T := fun k => match k with
  | 0 => ("ShelfSwarm", "fleet", "LShelfSwarm$Fleet;", true)
  | 1 => ("ShelfSwarm", "stations", "Ljava/util/ArrayList;", true)
  | 2 => ("ShelfSwarm", "trays", "Ljava/util/ArrayList;", true)
  | 3 => ("ShelfSwarm", "orders", "Ljava/util/ArrayList;", true)
  | 4 => ("ShelfSwarm", "picks", "Ljava/util/ArrayList;", true)
  | _ => ("ShelfSwarm", "time", "I", false)
def tyX8 : Nat → FieldType := fun k => match k with
  | 0 => .object "ShelfSwarm$Fleet"
  | 1 => .object "java/util/ArrayList"
  | 2 => .object "java/util/ArrayList"
  | 3 => .object "java/util/ArrayList"
  | 4 => .object "java/util/ArrayList"
  | _ => .int
abbrev wsX80 : List Cond := u_ws RX8 TX8 6
theorem nmX8 : ∀ a, a < 6 → ∀ b, b < 6 → a ≠ b → (TX8 a).2.1 ≠ (TX8 b).2.1 := by decide +kernel
theorem tyX8_ok : ∀ k, k < 6 → parseFieldDescriptor (TX8 k).2.2.1 = some (tyX8 k) := by decide +kernel
abbrev cX8_init : ByteArray := prog_1_method_1_code
def yX8_init : MethodName := ⟨RX8, "<init>", "()V"⟩
abbrev cX8_wall : ByteArray := prog_1_method_2_code
def yX8_wall : MethodName := ⟨RX8, "wall", "(I)V"⟩
abbrev cX8_setClosed : ByteArray := prog_1_method_3_code
def yX8_setClosed : MethodName := ⟨RX8, "setClosed", "(IZ)Z"⟩
abbrev cX8_distance : ByteArray := prog_1_method_4_code
def yX8_distance : MethodName := ⟨RX8, "distance", "(II)I"⟩
abbrev cX8_addStation : ByteArray := prog_1_method_5_code
def yX8_addStation : MethodName := ⟨RX8, "addStation", "(I)I"⟩
abbrev cX8_addTray : ByteArray := prog_1_method_6_code
def yX8_addTray : MethodName := ⟨RX8, "addTray", "(III)I"⟩
abbrev cX8_fill : ByteArray := prog_1_method_7_code
def yX8_fill : MethodName := ⟨RX8, "fill", "(II)I"⟩
abbrev cX8_addOrder : ByteArray := prog_1_method_8_code
def yX8_addOrder : MethodName := ⟨RX8, "addOrder", "()I"⟩
abbrev cX8_addLine : ByteArray := prog_1_method_9_code
def yX8_addLine : MethodName := ⟨RX8, "addLine", "(III)I"⟩
abbrev cX8_claim : ByteArray := prog_1_method_10_code
def yX8_claim : MethodName := ⟨RX8, "claim", "(III)I"⟩
abbrev cX8_giveUp : ByteArray := prog_1_method_11_code
def yX8_giveUp : MethodName := ⟨RX8, "giveUp", "(II)I"⟩
abbrev cX8_left : ByteArray := prog_1_method_12_code
def yX8_left : MethodName := ⟨RX8, "left", "(II)I"⟩
abbrev cX8_claimant : ByteArray := prog_1_method_13_code
def yX8_claimant : MethodName := ⟨RX8, "claimant", "(II)I"⟩
abbrev cX8_amount : ByteArray := prog_1_method_14_code
def yX8_amount : MethodName := ⟨RX8, "amount", "(I)I"⟩
abbrev cX8_trayCell : ByteArray := prog_1_method_15_code
def yX8_trayCell : MethodName := ⟨RX8, "trayCell", "(I)I"⟩
abbrev cX8_addRobot : ByteArray := prog_1_method_16_code
def yX8_addRobot : MethodName := ⟨RX8, "addRobot", "(II)I"⟩
abbrev cX8_die : ByteArray := prog_1_method_17_code
def yX8_die : MethodName := ⟨RX8, "die", "(I)I"⟩
abbrev cX8_repair : ByteArray := prog_1_method_18_code
def yX8_repair : MethodName := ⟨RX8, "repair", "(I)I"⟩
abbrev cX8_robotIn : ByteArray := prog_1_method_19_code
def yX8_robotIn : MethodName := ⟨RX8, "robotIn", "(I)I"⟩
abbrev cX8_cellOf : ByteArray := prog_1_method_20_code
def yX8_cellOf : MethodName := ⟨RX8, "cellOf", "(I)I"⟩
abbrev cX8_state : ByteArray := prog_1_method_21_code
def yX8_state : MethodName := ⟨RX8, "state", "(I)I"⟩
abbrev cX8_trayOf : ByteArray := prog_1_method_22_code
def yX8_trayOf : MethodName := ⟨RX8, "trayOf", "(I)I"⟩
abbrev cX8_asked : ByteArray := prog_1_method_23_code
def yX8_asked : MethodName := ⟨RX8, "asked", "(I)I"⟩
abbrev cX8_tick : ByteArray := prog_1_method_24_code
def yX8_tick : MethodName := ⟨RX8, "tick", "(I)I"⟩
abbrev cX8_time : ByteArray := prog_1_method_25_code
def yX8_time : MethodName := ⟨RX8, "time", "()I"⟩
abbrev cX8_steps : ByteArray := prog_1_method_26_code
def yX8_steps : MethodName := ⟨RX8, "steps", "()I"⟩
abbrev cX8_rings : ByteArray := prog_1_method_27_code
def yX8_rings : MethodName := ⟨RX8, "rings", "()I"⟩
abbrev cX8_yields : ByteArray := prog_1_method_28_code
def yX8_yields : MethodName := ⟨RX8, "yields", "()I"⟩
abbrev cX8_knots : ByteArray := prog_1_method_29_code
def yX8_knots : MethodName := ⟨RX8, "knots", "()I"⟩
abbrev cX8_stock : ByteArray := prog_1_method_30_code
def yX8_stock : MethodName := ⟨RX8, "stock", "(I)I"⟩
abbrev cX8_stockByPicks : ByteArray := prog_1_method_31_code
def yX8_stockByPicks : MethodName := ⟨RX8, "stockByPicks", "(I)I"⟩
abbrev cX8_picks : ByteArray := prog_1_method_32_code
def yX8_picks : MethodName := ⟨RX8, "picks", "()I"⟩
abbrev cX8_pickedFrom : ByteArray := prog_1_method_33_code
def yX8_pickedFrom : MethodName := ⟨RX8, "pickedFrom", "(I)I"⟩
abbrev cX8_pickedFor : ByteArray := prog_1_method_34_code
def yX8_pickedFor : MethodName := ⟨RX8, "pickedFor", "(I)I"⟩
abbrev cX8_pickedIn : ByteArray := prog_1_method_35_code
def yX8_pickedIn : MethodName := ⟨RX8, "pickedIn", "(I)I"⟩
abbrev cX8_requireRange : ByteArray := prog_1_method_36_code
def yX8_requireRange : MethodName := ⟨RX8, "requireRange", "(III)V"⟩
abbrev cX8_requireCell : ByteArray := prog_1_method_37_code
def yX8_requireCell : MethodName := ⟨RX8, "requireCell", "(I)V"⟩
abbrev cX8_requireGood : ByteArray := prog_1_method_38_code
def yX8_requireGood : MethodName := ⟨RX8, "requireGood", "(I)V"⟩
abbrev cX8_requireNumber : ByteArray := prog_1_method_39_code
def yX8_requireNumber : MethodName := ⟨RX8, "requireNumber", "(II)V"⟩
abbrev cX8_findStation : ByteArray := prog_1_method_40_code
def yX8_findStation : MethodName := ⟨RX8, "findStation", "(I)LShelfSwarm$Station;"⟩
abbrev cX8_findTray : ByteArray := prog_1_method_41_code
def yX8_findTray : MethodName := ⟨RX8, "findTray", "(I)LShelfSwarm$Tray;"⟩
abbrev cX8_findOrder : ByteArray := prog_1_method_42_code
def yX8_findOrder : MethodName := ⟨RX8, "findOrder", "(I)LShelfSwarm$Order;"⟩
abbrev cX8_findLine : ByteArray := prog_1_method_43_code
def yX8_findLine : MethodName := ⟨RX8, "findLine", "(II)LShelfSwarm$Line;"⟩
abbrev cX8_findRobot : ByteArray := prog_1_method_44_code
def yX8_findRobot : MethodName := ⟨RX8, "findRobot", "(I)LShelfSwarm$Robot;"⟩
abbrev cX8_findPick : ByteArray := prog_1_method_45_code
def yX8_findPick : MethodName := ⟨RX8, "findPick", "(I)LShelfSwarm$Pick;"⟩
abbrev cX8_numberOf : ByteArray := prog_1_method_46_code
def yX8_numberOf : MethodName := ⟨RX8, "numberOf", "(LShelfSwarm$Tray;)I"⟩
abbrev cX8_isHome : ByteArray := prog_1_method_47_code
def yX8_isHome : MethodName := ⟨RX8, "isHome", "(I)Z"⟩
abbrev cX8_isStation : ByteArray := prog_1_method_48_code
def yX8_isStation : MethodName := ⟨RX8, "isStation", "(I)Z"⟩
abbrev cX8_pickFromServing : ByteArray := prog_1_method_49_code
def yX8_pickFromServing : MethodName := ⟨RX8, "pickFromServing", "()V"⟩
abbrev cX8_pick : ByteArray := prog_1_method_50_code
def yX8_pick : MethodName := ⟨RX8, "pick", "(LShelfSwarm$Robot;LShelfSwarm$Tray;LShelfSwarm$Line;)V"⟩
abbrev cX8_sendRobots : ByteArray := prog_1_method_51_code
def yX8_sendRobots : MethodName := ⟨RX8, "sendRobots", "()V"⟩
abbrev cX8_sendRobotFor : ByteArray := prog_1_method_52_code
def yX8_sendRobotFor : MethodName := ⟨RX8, "sendRobotFor", "(LShelfSwarm$Station;)V"⟩
abbrev cX8_nearestTray : ByteArray := prog_1_method_53_code
def yX8_nearestTray : MethodName := ⟨RX8, "nearestTray", "(II)LShelfSwarm$Tray;"⟩
def RX9 : String := "ShelfSwarmModel"
def TX9 : u_T := fun k => match k with
  | 0 => ("ShelfSwarmModel", "thrown", "I", false)
  | 1 => ("ShelfSwarmModel", "time", "I", false)
  | 2 => ("ShelfSwarmModel", "isWall", "[Z", true)
  | 3 => ("ShelfSwarmModel", "isClosed", "[Z", true)
  | 4 => ("ShelfSwarmModel", "stations", "I", false)
  | 5 => ("ShelfSwarmModel", "stationCells", "[I", true)
  | 6 => ("ShelfSwarmModel", "trays", "I", false)
  | 7 => ("ShelfSwarmModel", "homes", "[I", true)
  | 8 => ("ShelfSwarmModel", "goods", "[I", true)
  | 9 => ("ShelfSwarmModel", "amounts", "[I", true)
  | 10 => ("ShelfSwarmModel", "orders", "I", false)
  | 11 => ("ShelfSwarmModel", "lines", "[I", true)
  | 12 => ("ShelfSwarmModel", "lineGoods", "[I", true)
  | 13 => ("ShelfSwarmModel", "lefts", "[I", true)
  | 14 => ("ShelfSwarmModel", "claimants", "[I", true)
  | 15 => ("ShelfSwarmModel", "claimedAt", "[I", true)
  | 16 => ("ShelfSwarmModel", "claims", "I", false)
  | 17 => ("ShelfSwarmModel", "robots", "I", false)
  | 18 => ("ShelfSwarmModel", "cells", "[I", true)
  | 19 => ("ShelfSwarmModel", "ranks", "[I", true)
  | 20 => ("ShelfSwarmModel", "states", "[I", true)
  | 21 => ("ShelfSwarmModel", "loads", "[I", true)
  | 22 => ("ShelfSwarmModel", "worksFor", "[I", true)
  | 23 => ("ShelfSwarmModel", "avoids", "[I", true)
  | 24 => ("ShelfSwarmModel", "asks", "[I", true)
  | 25 => ("ShelfSwarmModel", "sinces", "[I", true)
  | 26 => ("ShelfSwarmModel", "isDone", "[Z", true)
  | 27 => ("ShelfSwarmModel", "nextCells", "[I", true)
  | 28 => ("ShelfSwarmModel", "steps", "I", false)
  | 29 => ("ShelfSwarmModel", "rings", "I", false)
  | 30 => ("ShelfSwarmModel", "yields", "I", false)
  | 31 => ("ShelfSwarmModel", "knots", "I", false)
  | 32 => ("ShelfSwarmModel", "came", "[I", true)
  | 33 => ("ShelfSwarmModel", "gone", "[I", true)
  | 34 => ("ShelfSwarmModel", "picks", "I", false)
  | 35 => ("ShelfSwarmModel", "pickTrays", "[I", true)
  | 36 => ("ShelfSwarmModel", "pickOrders", "[I", true)
  | 37 => ("ShelfSwarmModel", "pickTicks", "[I", true)
  | 38 => ("ShelfSwarmModel", "far", "[I", true)
  | _ => ("ShelfSwarmModel", "found", "[I", true)
def tyX9 : Nat → FieldType := fun k => match k with
  | 0 => .int
  | 1 => .int
  | 2 => .array .boolean
  | 3 => .array .boolean
  | 4 => .int
  | 5 => .array .int
  | 6 => .int
  | 7 => .array .int
  | 8 => .array .int
  | 9 => .array .int
  | 10 => .int
  | 11 => .array .int
  | 12 => .array .int
  | 13 => .array .int
  | 14 => .array .int
  | 15 => .array .int
  | 16 => .int
  | 17 => .int
  | 18 => .array .int
  | 19 => .array .int
  | 20 => .array .int
  | 21 => .array .int
  | 22 => .array .int
  | 23 => .array .int
  | 24 => .array .int
  | 25 => .array .int
  | 26 => .array .boolean
  | 27 => .array .int
  | 28 => .int
  | 29 => .int
  | 30 => .int
  | 31 => .int
  | 32 => .array .int
  | 33 => .array .int
  | 34 => .int
  | 35 => .array .int
  | 36 => .array .int
  | 37 => .array .int
  | 38 => .array .int
  | _ => .array .int
abbrev wsX90 : List Cond := u_ws RX9 TX9 40
theorem nmX9 : ∀ a, a < 40 → ∀ b, b < 40 → a ≠ b → (TX9 a).2.1 ≠ (TX9 b).2.1 := by decide +kernel
theorem tyX9_ok : ∀ k, k < 40 → parseFieldDescriptor (TX9 k).2.2.1 = some (tyX9 k) := by decide +kernel
abbrev cX9_init : ByteArray := prog_11_method_1_code
def yX9_init : MethodName := ⟨RX9, "<init>", "()V"⟩
abbrev cX9_thrown : ByteArray := prog_11_method_2_code
def yX9_thrown : MethodName := ⟨RX9, "thrown", "()I"⟩
abbrev cX9_holds : ByteArray := prog_11_method_3_code
def yX9_holds : MethodName := ⟨RX9, "holds", "(I)Z"⟩
abbrev cX9_isIn : ByteArray := prog_11_method_4_code
def yX9_isIn : MethodName := ⟨RX9, "isIn", "(II)Z"⟩
abbrev cX9_isCell : ByteArray := prog_11_method_5_code
def yX9_isCell : MethodName := ⟨RX9, "isCell", "(I)Z"⟩
abbrev cX9_robotAt : ByteArray := prog_11_method_6_code
def yX9_robotAt : MethodName := ⟨RX9, "robotAt", "(I)I"⟩
abbrev cX9_stationAt : ByteArray := prog_11_method_7_code
def yX9_stationAt : MethodName := ⟨RX9, "stationAt", "(I)I"⟩
abbrev cX9_homeOf : ByteArray := prog_11_method_8_code
def yX9_homeOf : MethodName := ⟨RX9, "homeOf", "(I)I"⟩
abbrev cX9_isOpen : ByteArray := prog_11_method_9_code
def yX9_isOpen : MethodName := ⟨RX9, "isOpen", "(I)Z"⟩
abbrev cX9_neighbour : ByteArray := prog_11_method_10_code
def yX9_neighbour : MethodName := ⟨RX9, "neighbour", "(II)I"⟩
abbrev cX9_lays : ByteArray := prog_11_method_11_code
def yX9_lays : MethodName := ⟨RX9, "lays", "(II)V"⟩
abbrev cX9_nearest : ByteArray := prog_11_method_12_code
def yX9_nearest : MethodName := ⟨RX9, "nearest", "(I)I"⟩
abbrev cX9_distanceOf : ByteArray := prog_11_method_13_code
def yX9_distanceOf : MethodName := ⟨RX9, "distanceOf", "(II)I"⟩
abbrev cX9_wall : ByteArray := prog_11_method_14_code
def yX9_wall : MethodName := ⟨RX9, "wall", "(I)V"⟩
abbrev cX9_setClosed : ByteArray := prog_11_method_15_code
def yX9_setClosed : MethodName := ⟨RX9, "setClosed", "(IZ)Z"⟩
abbrev cX9_distance : ByteArray := prog_11_method_16_code
def yX9_distance : MethodName := ⟨RX9, "distance", "(II)I"⟩
abbrev cX9_addStation : ByteArray := prog_11_method_17_code
def yX9_addStation : MethodName := ⟨RX9, "addStation", "(I)I"⟩
abbrev cX9_addTray : ByteArray := prog_11_method_18_code
def yX9_addTray : MethodName := ⟨RX9, "addTray", "(III)I"⟩
abbrev cX9_isTray : ByteArray := prog_11_method_19_code
def yX9_isTray : MethodName := ⟨RX9, "isTray", "(I)Z"⟩
abbrev cX9_robotWith : ByteArray := prog_11_method_20_code
def yX9_robotWith : MethodName := ⟨RX9, "robotWith", "(IZ)I"⟩
abbrev cX9_fill : ByteArray := prog_11_method_21_code
def yX9_fill : MethodName := ⟨RX9, "fill", "(II)I"⟩
abbrev cX9_addOrder : ByteArray := prog_11_method_22_code
def yX9_addOrder : MethodName := ⟨RX9, "addOrder", "()I"⟩
abbrev cX9_addLine : ByteArray := prog_11_method_23_code
def yX9_addLine : MethodName := ⟨RX9, "addLine", "(III)I"⟩
abbrev cX9_isLine : ByteArray := prog_11_method_24_code
def yX9_isLine : MethodName := ⟨RX9, "isLine", "(II)Z"⟩
abbrev cX9_claim : ByteArray := prog_11_method_25_code
def yX9_claim : MethodName := ⟨RX9, "claim", "(III)I"⟩
abbrev cX9_becomes : ByteArray := prog_11_method_26_code
def yX9_becomes : MethodName := ⟨RX9, "becomes", "(II)V"⟩
abbrev cX9_giveUp : ByteArray := prog_11_method_27_code
def yX9_giveUp : MethodName := ⟨RX9, "giveUp", "(II)I"⟩
abbrev cX9_left : ByteArray := prog_11_method_28_code
def yX9_left : MethodName := ⟨RX9, "left", "(II)I"⟩
abbrev cX9_claimant : ByteArray := prog_11_method_29_code
def yX9_claimant : MethodName := ⟨RX9, "claimant", "(II)I"⟩
abbrev cX9_amount : ByteArray := prog_11_method_30_code
def yX9_amount : MethodName := ⟨RX9, "amount", "(I)I"⟩
abbrev cX9_trayCell : ByteArray := prog_11_method_31_code
def yX9_trayCell : MethodName := ⟨RX9, "trayCell", "(I)I"⟩
abbrev cX9_addRobot : ByteArray := prog_11_method_32_code
def yX9_addRobot : MethodName := ⟨RX9, "addRobot", "(II)I"⟩
abbrev cX9_isRobot : ByteArray := prog_11_method_33_code
def yX9_isRobot : MethodName := ⟨RX9, "isRobot", "(I)Z"⟩
abbrev cX9_die : ByteArray := prog_11_method_34_code
def yX9_die : MethodName := ⟨RX9, "die", "(I)I"⟩
abbrev cX9_repair : ByteArray := prog_11_method_35_code
def yX9_repair : MethodName := ⟨RX9, "repair", "(I)I"⟩
abbrev cX9_robotIn : ByteArray := prog_11_method_36_code
def yX9_robotIn : MethodName := ⟨RX9, "robotIn", "(I)I"⟩
abbrev cX9_cellOf : ByteArray := prog_11_method_37_code
def yX9_cellOf : MethodName := ⟨RX9, "cellOf", "(I)I"⟩
abbrev cX9_state : ByteArray := prog_11_method_38_code
def yX9_state : MethodName := ⟨RX9, "state", "(I)I"⟩
abbrev cX9_trayOf : ByteArray := prog_11_method_39_code
def yX9_trayOf : MethodName := ⟨RX9, "trayOf", "(I)I"⟩
abbrev cX9_asked : ByteArray := prog_11_method_40_code
def yX9_asked : MethodName := ⟨RX9, "asked", "(I)I"⟩
abbrev cX9_picksFrom : ByteArray := prog_11_method_41_code
def yX9_picksFrom : MethodName := ⟨RX9, "picksFrom", "(I)V"⟩
abbrev cX9_hasRobot : ByteArray := prog_11_method_42_code
def yX9_hasRobot : MethodName := ⟨RX9, "hasRobot", "(I)Z"⟩
abbrev cX9_trayFor : ByteArray := prog_11_method_43_code
def yX9_trayFor : MethodName := ⟨RX9, "trayFor", "(II)I"⟩
abbrev cX9_robotFor : ByteArray := prog_11_method_44_code
def yX9_robotFor : MethodName := ⟨RX9, "robotFor", "(I)I"⟩
abbrev cX9_sends : ByteArray := prog_11_method_45_code
def yX9_sends : MethodName := ⟨RX9, "sends", "(II)Z"⟩
abbrev cX9_serves : ByteArray := prog_11_method_46_code
def yX9_serves : MethodName := ⟨RX9, "serves", "(I)V"⟩
abbrev cX9_goalOf : ByteArray := prog_11_method_47_code
def yX9_goalOf : MethodName := ⟨RX9, "goalOf", "(I)I"⟩
abbrev cX9_asksFor : ByteArray := prog_11_method_48_code
def yX9_asksFor : MethodName := ⟨RX9, "asksFor", "(I)V"⟩
abbrev cX9_moves : ByteArray := prog_11_method_49_code
def yX9_moves : MethodName := ⟨RX9, "moves", "(II)V"⟩
abbrev cX9_nextOf : ByteArray := prog_11_method_50_code
def yX9_nextOf : MethodName := ⟨RX9, "nextOf", "(I)I"⟩
abbrev cX9_ringOf : ByteArray := prog_11_method_51_code
def yX9_ringOf : MethodName := ⟨RX9, "ringOf", "(I)I"⟩
abbrev cX9_isAbove : ByteArray := prog_11_method_52_code
def yX9_isAbove : MethodName := ⟨RX9, "isAbove", "(II)Z"⟩
abbrev cX9_yieldsTo : ByteArray := prog_11_method_53_code
def yX9_yieldsTo : MethodName := ⟨RX9, "yieldsTo", "(II)Z"⟩
abbrev cX9_turns : ByteArray := prog_11_method_54_code
def yX9_turns : MethodName := ⟨RX9, "turns", "(I)V"⟩
abbrev cX9_resolves : ByteArray := prog_11_method_55_code
def yX9_resolves : MethodName := ⟨RX9, "resolves", "()V"⟩
abbrev cX9_isAsked : ByteArray := prog_11_method_56_code
def yX9_isAsked : MethodName := ⟨RX9, "isAsked", "(I)Z"⟩
abbrev cX9_stepsAside : ByteArray := prog_11_method_57_code
def yX9_stepsAside : MethodName := ⟨RX9, "stepsAside", "(I)V"⟩
abbrev cX9_goes : ByteArray := prog_11_method_58_code
def yX9_goes : MethodName := ⟨RX9, "goes", "()V"⟩
abbrev cX9_arrives : ByteArray := prog_11_method_59_code
def yX9_arrives : MethodName := ⟨RX9, "arrives", "(I)V"⟩
abbrev cX9_passes : ByteArray := prog_11_method_60_code
def yX9_passes : MethodName := ⟨RX9, "passes", "()V"⟩
abbrev cX9_tick : ByteArray := prog_11_method_61_code
def yX9_tick : MethodName := ⟨RX9, "tick", "(I)I"⟩
abbrev cX9_time : ByteArray := prog_11_method_62_code
def yX9_time : MethodName := ⟨RX9, "time", "()I"⟩
abbrev cX9_steps : ByteArray := prog_11_method_63_code
def yX9_steps : MethodName := ⟨RX9, "steps", "()I"⟩
abbrev cX9_rings : ByteArray := prog_11_method_64_code
def yX9_rings : MethodName := ⟨RX9, "rings", "()I"⟩
abbrev cX9_yields : ByteArray := prog_11_method_65_code
def yX9_yields : MethodName := ⟨RX9, "yields", "()I"⟩
abbrev cX9_knots : ByteArray := prog_11_method_66_code
def yX9_knots : MethodName := ⟨RX9, "knots", "()I"⟩
abbrev cX9_stock : ByteArray := prog_11_method_67_code
def yX9_stock : MethodName := ⟨RX9, "stock", "(I)I"⟩
abbrev cX9_stockByPicks : ByteArray := prog_11_method_68_code
def yX9_stockByPicks : MethodName := ⟨RX9, "stockByPicks", "(I)I"⟩
abbrev cX9_picks : ByteArray := prog_11_method_69_code
def yX9_picks : MethodName := ⟨RX9, "picks", "()I"⟩
abbrev cX9_isPick : ByteArray := prog_11_method_70_code
def yX9_isPick : MethodName := ⟨RX9, "isPick", "(I)Z"⟩
abbrev cX9_pickedFrom : ByteArray := prog_11_method_71_code
def yX9_pickedFrom : MethodName := ⟨RX9, "pickedFrom", "(I)I"⟩
abbrev cX9_pickedFor : ByteArray := prog_11_method_72_code
def yX9_pickedFor : MethodName := ⟨RX9, "pickedFor", "(I)I"⟩
abbrev cX9_pickedIn : ByteArray := prog_11_method_73_code
def yX9_pickedIn : MethodName := ⟨RX9, "pickedIn", "(I)I"⟩
def RJ9 : String := "java/lang/Math"
def TJ9 : u_T := fun k => match k with
  | _ => ("", "", "", false)
def tyJ9 : Nat → FieldType := fun k => match k with
  | _ => .int
abbrev wsJ90 : List Cond := u_ws RJ9 TJ9 0
theorem nmJ9 : ∀ a, a < 0 → ∀ b, b < 0 → a ≠ b → (TJ9 a).2.1 ≠ (TJ9 b).2.1 := by decide +kernel
theorem tyJ9_ok : ∀ k, k < 0 → parseFieldDescriptor (TJ9 k).2.2.1 = some (tyJ9 k) := by decide +kernel
abbrev cJ9_max_7cf53 : ByteArray := prog_24_method_65_code
def yJ9_max_7cf53 : MethodName := ⟨RJ9, "max", "(II)I"⟩
abbrev cJ9_min_7cf53 : ByteArray := prog_24_method_69_code
def yJ9_min_7cf53 : MethodName := ⟨RJ9, "min", "(II)I"⟩
def RJxa1e45 : String := "java/util/AbstractCollection"
def TJxa1e45 : u_T := fun k => match k with
  | _ => ("", "", "", false)
def tyJxa1e45 : Nat → FieldType := fun k => match k with
  | _ => .int
abbrev wsJxa1e450 : List Cond := u_ws RJxa1e45 TJxa1e45 0
theorem nmJxa1e45 : ∀ a, a < 0 → ∀ b, b < 0 → a ≠ b → (TJxa1e45 a).2.1 ≠ (TJxa1e45 b).2.1 := by decide +kernel
theorem tyJxa1e45_ok : ∀ k, k < 0 → parseFieldDescriptor (TJxa1e45 k).2.2.1 = some (tyJxa1e45 k) := by decide +kernel
abbrev cJxa1e45_init_da8c8 : ByteArray := prog_35_method_1_code
def yJxa1e45_init_da8c8 : MethodName := ⟨RJxa1e45, "<init>", "()V"⟩
def RJxc12de : String := "java/util/AbstractList"
def TJxc12de : u_T := fun k => match k with
  | _ => ("", "", "", false)
def tyJxc12de : Nat → FieldType := fun k => match k with
  | _ => .int
abbrev wsJxc12de0 : List Cond := u_ws RJxc12de TJxc12de 0
theorem nmJxc12de : ∀ a, a < 0 → ∀ b, b < 0 → a ≠ b → (TJxc12de a).2.1 ≠ (TJxc12de b).2.1 := by decide +kernel
theorem tyJxc12de_ok : ∀ k, k < 0 → parseFieldDescriptor (TJxc12de k).2.2.1 = some (tyJxc12de k) := by decide +kernel
abbrev cJxc12de_init_da8c8 : ByteArray := prog_36_method_1_code
def yJxc12de_init_da8c8 : MethodName := ⟨RJxc12de, "<init>", "()V"⟩
def RJx4a65c : String := "java/util/ArrayList"
def TJx4a65c : u_T := fun k => match k with
  | 0 => ("java/util/AbstractList", "modCount", "I", false)
  | 1 => ("java/util/ArrayList", "elementData", "[Ljava/lang/Object;", false)
  | _ => ("java/util/ArrayList", "size", "I", false)
def tyJx4a65c : Nat → FieldType := fun k => match k with
  | 0 => .int
  | 1 => .array (.object "java/lang/Object")
  | _ => .int
abbrev wsJx4a65c0 : List Cond := u_ws RJx4a65c TJx4a65c 3
theorem nmJx4a65c : ∀ a, a < 3 → ∀ b, b < 3 → a ≠ b → (TJx4a65c a).2.1 ≠ (TJx4a65c b).2.1 := by decide +kernel
theorem tyJx4a65c_ok : ∀ k, k < 3 → parseFieldDescriptor (TJx4a65c k).2.2.1 = some (tyJx4a65c k) := by decide +kernel
abbrev cJx4a65c_init_da8c8 : ByteArray := prog_37_method_2_code
def yJx4a65c_init_da8c8 : MethodName := ⟨RJx4a65c, "<init>", "()V"⟩
abbrev cJx4a65c_grow_92f84 : ByteArray := prog_37_method_6_code
def yJx4a65c_grow_92f84 : MethodName := ⟨RJx4a65c, "grow", "(I)[Ljava/lang/Object;"⟩
abbrev cJx4a65c_grow_d5877 : ByteArray := prog_37_method_7_code
def yJx4a65c_grow_d5877 : MethodName := ⟨RJx4a65c, "grow", "()[Ljava/lang/Object;"⟩
abbrev cJx4a65c_size_8abf5 : ByteArray := prog_37_method_8_code
def yJx4a65c_size_8abf5 : MethodName := ⟨RJx4a65c, "size", "()I"⟩
abbrev cJx4a65c_elementData_915e3 : ByteArray := prog_37_method_18_code
def yJx4a65c_elementData_915e3 : MethodName := ⟨RJx4a65c, "elementData", "(I)Ljava/lang/Object;"⟩
abbrev cJx4a65c_get_915e3 : ByteArray := prog_37_method_20_code
def yJx4a65c_get_915e3 : MethodName := ⟨RJx4a65c, "get", "(I)Ljava/lang/Object;"⟩
abbrev cJx4a65c_add_72be8 : ByteArray := prog_37_method_24_code
def yJx4a65c_add_72be8 : MethodName := ⟨RJx4a65c, "add", "(Ljava/lang/Object;[Ljava/lang/Object;I)V"⟩
abbrev cJx4a65c_add_9ea2d : ByteArray := prog_37_method_25_code
def yJx4a65c_add_9ea2d : MethodName := ⟨RJx4a65c, "add", "(Ljava/lang/Object;)Z"⟩
abbrev cJx4a65c_add_7a177 : ByteArray := prog_37_method_26_code
def yJx4a65c_add_7a177 : MethodName := ⟨RJx4a65c, "add", "(ILjava/lang/Object;)V"⟩
abbrev cJx4a65c_remove_915e3 : ByteArray := prog_37_method_29_code
def yJx4a65c_remove_915e3 : MethodName := ⟨RJx4a65c, "remove", "(I)Ljava/lang/Object;"⟩
abbrev cJx4a65c_fastRemove_b59b0 : ByteArray := prog_37_method_39_code
def yJx4a65c_fastRemove_b59b0 : MethodName := ⟨RJx4a65c, "fastRemove", "([Ljava/lang/Object;I)V"⟩
abbrev cJx4a65c_clear_da8c8 : ByteArray := prog_37_method_40_code
def yJx4a65c_clear_da8c8 : MethodName := ⟨RJx4a65c, "clear", "()V"⟩
abbrev cJx4a65c_rangeCheckForAdd_d00df : ByteArray := prog_37_method_45_code
def yJx4a65c_rangeCheckForAdd_d00df : MethodName := ⟨RJx4a65c, "rangeCheckForAdd", "(I)V"⟩
abbrev cJx4a65c_outOfBoundsMsg_b52d3 : ByteArray := prog_37_method_46_code
def yJx4a65c_outOfBoundsMsg_b52d3 : MethodName := ⟨RJx4a65c, "outOfBoundsMsg", "(I)Ljava/lang/String;"⟩
def RJ7 : String := "java/util/Arrays"
def TJ7 : u_T := fun k => match k with
  | _ => ("", "", "", false)
def tyJ7 : Nat → FieldType := fun k => match k with
  | _ => .int
abbrev wsJ70 : List Cond := u_ws RJ7 TJ7 0
theorem nmJ7 : ∀ a, a < 0 → ∀ b, b < 0 → a ≠ b → (TJ7 a).2.1 ≠ (TJ7 b).2.1 := by decide +kernel
theorem tyJ7_ok : ∀ k, k < 0 → parseFieldDescriptor (TJ7 k).2.2.1 = some (tyJ7 k) := by decide +kernel
abbrev cJ7_copyOf_1904c : ByteArray := prog_38_method_119_code
def yJ7_copyOf_1904c : MethodName := ⟨RJ7, "copyOf", "([Ljava/lang/Object;I)[Ljava/lang/Object;"⟩
abbrev cJ7_copyOf_6403c : ByteArray := prog_38_method_120_code
def yJ7_copyOf_6403c : MethodName := ⟨RJ7, "copyOf", "([Ljava/lang/Object;ILjava/lang/Class;)[Ljava/lang/Object;"⟩
abbrev cJ7_copyOf_9075b : ByteArray := prog_38_method_121_code
def yJ7_copyOf_9075b : MethodName := ⟨RJ7, "copyOf", "([BI)[B"⟩
abbrev cJ7_checkLength_df160 : ByteArray := prog_38_method_131_code
def yJ7_checkLength_df160 : MethodName := ⟨RJ7, "checkLength", "(II)V"⟩
abbrev cJ7_copyOfRange_39247 : ByteArray := prog_38_method_132_code
def yJ7_copyOfRange_39247 : MethodName := ⟨RJ7, "copyOfRange", "([BII)[B"⟩
abbrev cJ7_copyOfRangeByte_39247 : ByteArray := prog_38_method_133_code
def yJ7_copyOfRangeByte_39247 : MethodName := ⟨RJ7, "copyOfRangeByte", "([BII)[B"⟩
def RJ15 : String := "java/util/Objects"
def TJ15 : u_T := fun k => match k with
  | _ => ("", "", "", false)
def tyJ15 : Nat → FieldType := fun k => match k with
  | _ => .int
abbrev wsJ150 : List Cond := u_ws RJ15 TJ15 0
theorem nmJ15 : ∀ a, a < 0 → ∀ b, b < 0 → a ≠ b → (TJ15 a).2.1 ≠ (TJ15 b).2.1 := by decide +kernel
theorem tyJ15_ok : ∀ k, k < 0 → parseFieldDescriptor (TJ15 k).2.2.1 = some (tyJ15 k) := by decide +kernel
abbrev cJ15_checkIndex_7cf53 : ByteArray := prog_41_method_17_code
def yJ15_checkIndex_7cf53 : MethodName := ⟨RJ15, "checkIndex", "(II)I"⟩
def RJ8 : String := "jdk/internal/util/ArraysSupport"
def TJ8 : u_T := fun k => match k with
  | _ => ("", "", "", false)
def tyJ8 : Nat → FieldType := fun k => match k with
  | _ => .int
abbrev wsJ80 : List Cond := u_ws RJ8 TJ8 0
theorem nmJ8 : ∀ a, a < 0 → ∀ b, b < 0 → a ≠ b → (TJ8 a).2.1 ≠ (TJ8 b).2.1 := by decide +kernel
theorem tyJ8_ok : ∀ k, k < 0 → parseFieldDescriptor (TJ8 k).2.2.1 = some (tyJ8 k) := by decide +kernel
abbrev cJ8_newLength_cabcc : ByteArray := prog_44_method_27_code
def yJ8_newLength_cabcc : MethodName := ⟨RJ8, "newLength", "(III)I"⟩
abbrev cJ8_hugeLength_7cf53 : ByteArray := prog_44_method_28_code
def yJ8_hugeLength_7cf53 : MethodName := ⟨RJ8, "hugeLength", "(II)I"⟩
def RJ3 : String := "jdk/internal/util/Preconditions"
def TJ3 : u_T := fun k => match k with
  | _ => ("", "", "", false)
def tyJ3 : Nat → FieldType := fun k => match k with
  | _ => .int
abbrev wsJ30 : List Cond := u_ws RJ3 TJ3 0
theorem nmJ3 : ∀ a, a < 0 → ∀ b, b < 0 → a ≠ b → (TJ3 a).2.1 ≠ (TJ3 b).2.1 := by decide +kernel
theorem tyJ3_ok : ∀ k, k < 0 → parseFieldDescriptor (TJ3 k).2.2.1 = some (tyJ3 k) := by decide +kernel
abbrev cJ3_checkIndex_8e157 : ByteArray := prog_45_method_11_code
def yJ3_checkIndex_8e157 : MethodName := ⟨RJ3, "checkIndex", "(IILjava/util/function/BiFunction;)I"⟩
abbrev cJ3_checkFromToIndex_8c36e : ByteArray := prog_45_method_12_code
def yJ3_checkFromToIndex_8c36e : MethodName := ⟨RJ3, "checkFromToIndex", "(IIILjava/util/function/BiFunction;)I"⟩
abbrev cJ3_checkFromIndexSize_8c36e : ByteArray := prog_45_method_13_code
def yJ3_checkFromIndexSize_8c36e : MethodName := ⟨RJ3, "checkFromIndexSize", "(IIILjava/util/function/BiFunction;)I"⟩
def RL : String := "ShelfSwarmLaw"
abbrev cL_wall : ByteArray := method_3_code
def yL_wall : MethodName := ⟨RL, "wall", "(LShelfSwarm;I)I"⟩
abbrev cL_setClosed : ByteArray := method_4_code
def yL_setClosed : MethodName := ⟨RL, "setClosed", "(LShelfSwarm;IZ[J)I"⟩
abbrev cL_distance : ByteArray := method_5_code
def yL_distance : MethodName := ⟨RL, "distance", "(LShelfSwarm;II[J)I"⟩
abbrev cL_addStation : ByteArray := method_6_code
def yL_addStation : MethodName := ⟨RL, "addStation", "(LShelfSwarm;I[J)I"⟩
abbrev cL_addTray : ByteArray := method_7_code
def yL_addTray : MethodName := ⟨RL, "addTray", "(LShelfSwarm;III[J)I"⟩
abbrev cL_fill : ByteArray := method_8_code
def yL_fill : MethodName := ⟨RL, "fill", "(LShelfSwarm;II[J)I"⟩
abbrev cL_addOrder : ByteArray := method_9_code
def yL_addOrder : MethodName := ⟨RL, "addOrder", "(LShelfSwarm;[J)I"⟩
abbrev cL_addLine : ByteArray := method_10_code
def yL_addLine : MethodName := ⟨RL, "addLine", "(LShelfSwarm;III[J)I"⟩
abbrev cL_claim : ByteArray := method_11_code
def yL_claim : MethodName := ⟨RL, "claim", "(LShelfSwarm;III[J)I"⟩
abbrev cL_giveUp : ByteArray := method_12_code
def yL_giveUp : MethodName := ⟨RL, "giveUp", "(LShelfSwarm;II[J)I"⟩
abbrev cL_left : ByteArray := method_13_code
def yL_left : MethodName := ⟨RL, "left", "(LShelfSwarm;II[J)I"⟩
abbrev cL_claimant : ByteArray := method_14_code
def yL_claimant : MethodName := ⟨RL, "claimant", "(LShelfSwarm;II[J)I"⟩
abbrev cL_amount : ByteArray := method_15_code
def yL_amount : MethodName := ⟨RL, "amount", "(LShelfSwarm;I[J)I"⟩
abbrev cL_trayCell : ByteArray := method_16_code
def yL_trayCell : MethodName := ⟨RL, "trayCell", "(LShelfSwarm;I[J)I"⟩
abbrev cL_addRobot : ByteArray := method_17_code
def yL_addRobot : MethodName := ⟨RL, "addRobot", "(LShelfSwarm;II[J)I"⟩
abbrev cL_die : ByteArray := method_18_code
def yL_die : MethodName := ⟨RL, "die", "(LShelfSwarm;I[J)I"⟩
abbrev cL_repair : ByteArray := method_19_code
def yL_repair : MethodName := ⟨RL, "repair", "(LShelfSwarm;I[J)I"⟩
abbrev cL_robotIn : ByteArray := method_20_code
def yL_robotIn : MethodName := ⟨RL, "robotIn", "(LShelfSwarm;I[J)I"⟩
abbrev cL_cellOf : ByteArray := method_21_code
def yL_cellOf : MethodName := ⟨RL, "cellOf", "(LShelfSwarm;I[J)I"⟩
abbrev cL_state : ByteArray := method_22_code
def yL_state : MethodName := ⟨RL, "state", "(LShelfSwarm;I[J)I"⟩
abbrev cL_trayOf : ByteArray := method_23_code
def yL_trayOf : MethodName := ⟨RL, "trayOf", "(LShelfSwarm;I[J)I"⟩
abbrev cL_asked : ByteArray := method_24_code
def yL_asked : MethodName := ⟨RL, "asked", "(LShelfSwarm;I[J)I"⟩
abbrev cL_tick : ByteArray := method_25_code
def yL_tick : MethodName := ⟨RL, "tick", "(LShelfSwarm;I[J)I"⟩
abbrev cL_stock : ByteArray := method_26_code
def yL_stock : MethodName := ⟨RL, "stock", "(LShelfSwarm;I[J)I"⟩
abbrev cL_stockByPicks : ByteArray := method_27_code
def yL_stockByPicks : MethodName := ⟨RL, "stockByPicks", "(LShelfSwarm;I[J)I"⟩
abbrev cL_pickedFrom : ByteArray := method_28_code
def yL_pickedFrom : MethodName := ⟨RL, "pickedFrom", "(LShelfSwarm;I[J)I"⟩
abbrev cL_pickedFor : ByteArray := method_29_code
def yL_pickedFor : MethodName := ⟨RL, "pickedFor", "(LShelfSwarm;I[J)I"⟩
abbrev cL_pickedIn : ByteArray := method_30_code
def yL_pickedIn : MethodName := ⟨RL, "pickedIn", "(LShelfSwarm;I[J)I"⟩
abbrev cL_law : ByteArray := code
def yL_law : MethodName := ⟨RL, "law", "([I)Z"⟩
end
section
theorem dX0_init_0 : decode cX0_init 0 = .ok (.aload_n 0, 1) := by decide +kernel
theorem dX0_init_1 : decode cX0_init 1 = .ok (.invokespecial 3, 3) := by decide +kernel
theorem dX0_init_4 : decode cX0_init 4 = .ok (.aload_n 0, 1) := by decide +kernel
theorem dX0_init_5 : decode cX0_init 5 = .ok (.new 9, 3) := by decide +kernel
theorem dX0_init_8 : decode cX0_init 8 = .ok (.dup, 1) := by decide +kernel
theorem dX0_init_9 : decode cX0_init 9 = .ok (.invokespecial 11, 3) := by decide +kernel
theorem dX0_init_12 : decode cX0_init 12 = .ok (.putfield 12, 3) := by decide +kernel
theorem dX0_init_15 : decode cX0_init 15 = .ok (.aload_n 0, 1) := by decide +kernel
theorem dX0_init_16 : decode cX0_init 16 = .ok (.new 18, 3) := by decide +kernel
theorem dX0_init_19 : decode cX0_init 19 = .ok (.dup, 1) := by decide +kernel
theorem dX0_init_20 : decode cX0_init 20 = .ok (.invokespecial 20, 3) := by decide +kernel
theorem dX0_init_23 : decode cX0_init 23 = .ok (.putfield 21, 3) := by decide +kernel
theorem dX0_init_26 : decode cX0_init 26 = .ok (.aload_n 0, 1) := by decide +kernel
theorem dX0_init_27 : decode cX0_init 27 = .ok (.iconst 0, 1) := by decide +kernel
theorem dX0_init_28 : decode cX0_init 28 = .ok (.putfield 25, 3) := by decide +kernel
theorem dX0_init_31 : decode cX0_init 31 = .ok (.aload_n 0, 1) := by decide +kernel
theorem dX0_init_32 : decode cX0_init 32 = .ok (.iconst 0, 1) := by decide +kernel
theorem dX0_init_33 : decode cX0_init 33 = .ok (.putfield 29, 3) := by decide +kernel
theorem dX0_init_36 : decode cX0_init 36 = .ok (.aload_n 0, 1) := by decide +kernel
theorem dX0_init_37 : decode cX0_init 37 = .ok (.iconst 0, 1) := by decide +kernel
theorem dX0_init_38 : decode cX0_init 38 = .ok (.putfield 32, 3) := by decide +kernel
theorem dX0_init_41 : decode cX0_init 41 = .ok (.aload_n 0, 1) := by decide +kernel
theorem dX0_init_42 : decode cX0_init 42 = .ok (.iconst 0, 1) := by decide +kernel
theorem dX0_init_43 : decode cX0_init 43 = .ok (.putfield 35, 3) := by decide +kernel
theorem dX0_init_46 : decode cX0_init 46 = .ok (.aload_n 0, 1) := by decide +kernel
theorem dX0_init_47 : decode cX0_init 47 = .ok (.new 18, 3) := by decide +kernel
theorem dX0_init_50 : decode cX0_init 50 = .ok (.dup, 1) := by decide +kernel
theorem dX0_init_51 : decode cX0_init 51 = .ok (.invokespecial 20, 3) := by decide +kernel
theorem dX0_init_54 : decode cX0_init 54 = .ok (.putfield 38, 3) := by decide +kernel
theorem dX0_init_57 : decode cX0_init 57 = .ok (.aload_n 0, 1) := by decide +kernel
theorem dX0_init_58 : decode cX0_init 58 = .ok (.new 18, 3) := by decide +kernel
theorem dX0_init_61 : decode cX0_init 61 = .ok (.dup, 1) := by decide +kernel
theorem dX0_init_62 : decode cX0_init 62 = .ok (.invokespecial 20, 3) := by decide +kernel
theorem dX0_init_65 : decode cX0_init 65 = .ok (.putfield 41, 3) := by decide +kernel
theorem dX0_init_68 : decode cX0_init 68 = .ok (.return_, 1) := by decide +kernel
theorem dX0_robotAt_0 : decode cX0_robotAt 0 = .ok (.iconst 0, 1) := by decide +kernel
theorem dX0_robotAt_1 : decode cX0_robotAt 1 = .ok (.istore_n 2, 1) := by decide +kernel
theorem dX0_robotAt_2 : decode cX0_robotAt 2 = .ok (.iload_n 2, 1) := by decide +kernel
theorem dX0_robotAt_3 : decode cX0_robotAt 3 = .ok (.aload_n 0, 1) := by decide +kernel
theorem dX0_robotAt_4 : decode cX0_robotAt 4 = .ok (.getfield 21, 3) := by decide +kernel
theorem dX0_robotAt_7 : decode cX0_robotAt 7 = .ok (.invokevirtual 44, 3) := by decide +kernel
theorem dX0_robotAt_10 : decode cX0_robotAt 10 = .ok (.if_icmp .ge 31, 3) := by decide +kernel
theorem dX0_robotAt_13 : decode cX0_robotAt 13 = .ok (.aload_n 0, 1) := by decide +kernel
theorem dX0_robotAt_14 : decode cX0_robotAt 14 = .ok (.getfield 21, 3) := by decide +kernel
theorem dX0_robotAt_17 : decode cX0_robotAt 17 = .ok (.iload_n 2, 1) := by decide +kernel
theorem dX0_robotAt_18 : decode cX0_robotAt 18 = .ok (.invokevirtual 48, 3) := by decide +kernel
theorem dX0_robotAt_21 : decode cX0_robotAt 21 = .ok (.checkcast 52, 3) := by decide +kernel
theorem dX0_robotAt_24 : decode cX0_robotAt 24 = .ok (.astore_n 3, 1) := by decide +kernel
theorem dX0_robotAt_25 : decode cX0_robotAt 25 = .ok (.aload_n 3, 1) := by decide +kernel
theorem dX0_robotAt_26 : decode cX0_robotAt 26 = .ok (.getfield 54, 3) := by decide +kernel
theorem dX0_robotAt_29 : decode cX0_robotAt 29 = .ok (.iload_n 1, 1) := by decide +kernel
theorem dX0_robotAt_30 : decode cX0_robotAt 30 = .ok (.if_icmp .ne 5, 3) := by decide +kernel
theorem dX0_robotAt_33 : decode cX0_robotAt 33 = .ok (.aload_n 3, 1) := by decide +kernel
theorem dX0_robotAt_34 : decode cX0_robotAt 34 = .ok (.areturn, 1) := by decide +kernel
theorem dX0_robotAt_35 : decode cX0_robotAt 35 = .ok (.iinc 2 1, 3) := by decide +kernel
theorem dX0_robotAt_38 : decode cX0_robotAt 38 = .ok (.goto (-36), 3) := by decide +kernel
theorem dX0_robotAt_41 : decode cX0_robotAt 41 = .ok (.aconst_null, 1) := by decide +kernel
theorem dX0_robotAt_42 : decode cX0_robotAt 42 = .ok (.areturn, 1) := by decide +kernel
theorem dX0_robotWith_0 : decode cX0_robotWith 0 = .ok (.iconst 0, 1) := by decide +kernel
theorem dX0_robotWith_1 : decode cX0_robotWith 1 = .ok (.istore_n 2, 1) := by decide +kernel
theorem dX0_robotWith_2 : decode cX0_robotWith 2 = .ok (.iload_n 2, 1) := by decide +kernel
theorem dX0_robotWith_3 : decode cX0_robotWith 3 = .ok (.aload_n 0, 1) := by decide +kernel
theorem dX0_robotWith_4 : decode cX0_robotWith 4 = .ok (.getfield 21, 3) := by decide +kernel
theorem dX0_robotWith_7 : decode cX0_robotWith 7 = .ok (.invokevirtual 44, 3) := by decide +kernel
theorem dX0_robotWith_10 : decode cX0_robotWith 10 = .ok (.if_icmp .ge 31, 3) := by decide +kernel
theorem dX0_robotWith_13 : decode cX0_robotWith 13 = .ok (.aload_n 0, 1) := by decide +kernel
theorem dX0_robotWith_14 : decode cX0_robotWith 14 = .ok (.getfield 21, 3) := by decide +kernel
theorem dX0_robotWith_17 : decode cX0_robotWith 17 = .ok (.iload_n 2, 1) := by decide +kernel
theorem dX0_robotWith_18 : decode cX0_robotWith 18 = .ok (.invokevirtual 48, 3) := by decide +kernel
theorem dX0_robotWith_21 : decode cX0_robotWith 21 = .ok (.checkcast 52, 3) := by decide +kernel
theorem dX0_robotWith_24 : decode cX0_robotWith 24 = .ok (.astore_n 3, 1) := by decide +kernel
theorem dX0_robotWith_25 : decode cX0_robotWith 25 = .ok (.aload_n 3, 1) := by decide +kernel
theorem dX0_robotWith_26 : decode cX0_robotWith 26 = .ok (.getfield 57, 3) := by decide +kernel
theorem dX0_robotWith_29 : decode cX0_robotWith 29 = .ok (.aload_n 1, 1) := by decide +kernel
theorem dX0_robotWith_30 : decode cX0_robotWith 30 = .ok (.if_acmp .ne 5, 3) := by decide +kernel
theorem dX0_robotWith_33 : decode cX0_robotWith 33 = .ok (.aload_n 3, 1) := by decide +kernel
theorem dX0_robotWith_34 : decode cX0_robotWith 34 = .ok (.areturn, 1) := by decide +kernel
theorem dX0_robotWith_35 : decode cX0_robotWith 35 = .ok (.iinc 2 1, 3) := by decide +kernel
theorem dX0_robotWith_38 : decode cX0_robotWith 38 = .ok (.goto (-36), 3) := by decide +kernel
theorem dX0_robotWith_41 : decode cX0_robotWith 41 = .ok (.aconst_null, 1) := by decide +kernel
theorem dX0_robotWith_42 : decode cX0_robotWith 42 = .ok (.areturn, 1) := by decide +kernel
theorem dX0_carrierOf_0 : decode cX0_carrierOf 0 = .ok (.aload_n 0, 1) := by decide +kernel
theorem dX0_carrierOf_1 : decode cX0_carrierOf 1 = .ok (.aload_n 1, 1) := by decide +kernel
theorem dX0_carrierOf_2 : decode cX0_carrierOf 2 = .ok (.invokevirtual 61, 3) := by decide +kernel
theorem dX0_carrierOf_5 : decode cX0_carrierOf 5 = .ok (.astore_n 2, 1) := by decide +kernel
theorem dX0_carrierOf_6 : decode cX0_carrierOf 6 = .ok (.aload_n 2, 1) := by decide +kernel
theorem dX0_carrierOf_7 : decode cX0_carrierOf 7 = .ok (.ifnull 11, 3) := by decide +kernel
theorem dX0_carrierOf_10 : decode cX0_carrierOf 10 = .ok (.aload_n 2, 1) := by decide +kernel
theorem dX0_carrierOf_11 : decode cX0_carrierOf 11 = .ok (.getfield 65, 3) := by decide +kernel
theorem dX0_carrierOf_14 : decode cX0_carrierOf 14 = .ok (.iconst 1, 1) := by decide +kernel
theorem dX0_carrierOf_15 : decode cX0_carrierOf 15 = .ok (.if_icmp .ne 7, 3) := by decide +kernel
theorem dX0_carrierOf_18 : decode cX0_carrierOf 18 = .ok (.aconst_null, 1) := by decide +kernel
theorem dX0_carrierOf_19 : decode cX0_carrierOf 19 = .ok (.goto 4, 3) := by decide +kernel
theorem dX0_carrierOf_22 : decode cX0_carrierOf 22 = .ok (.aload_n 2, 1) := by decide +kernel
theorem dX0_carrierOf_23 : decode cX0_carrierOf 23 = .ok (.areturn, 1) := by decide +kernel
theorem dX0_workerFor_0 : decode cX0_workerFor 0 = .ok (.iconst 0, 1) := by decide +kernel
theorem dX0_workerFor_1 : decode cX0_workerFor 1 = .ok (.istore_n 2, 1) := by decide +kernel
theorem dX0_workerFor_2 : decode cX0_workerFor 2 = .ok (.iload_n 2, 1) := by decide +kernel
theorem dX0_workerFor_3 : decode cX0_workerFor 3 = .ok (.aload_n 0, 1) := by decide +kernel
theorem dX0_workerFor_4 : decode cX0_workerFor 4 = .ok (.getfield 21, 3) := by decide +kernel
theorem dX0_workerFor_7 : decode cX0_workerFor 7 = .ok (.invokevirtual 44, 3) := by decide +kernel
theorem dX0_workerFor_10 : decode cX0_workerFor 10 = .ok (.if_icmp .ge 31, 3) := by decide +kernel
theorem dX0_workerFor_13 : decode cX0_workerFor 13 = .ok (.aload_n 0, 1) := by decide +kernel
theorem dX0_workerFor_14 : decode cX0_workerFor 14 = .ok (.getfield 21, 3) := by decide +kernel
theorem dX0_workerFor_17 : decode cX0_workerFor 17 = .ok (.iload_n 2, 1) := by decide +kernel
theorem dX0_workerFor_18 : decode cX0_workerFor 18 = .ok (.invokevirtual 48, 3) := by decide +kernel
theorem dX0_workerFor_21 : decode cX0_workerFor 21 = .ok (.checkcast 52, 3) := by decide +kernel
theorem dX0_workerFor_24 : decode cX0_workerFor 24 = .ok (.astore_n 3, 1) := by decide +kernel
theorem dX0_workerFor_25 : decode cX0_workerFor 25 = .ok (.aload_n 3, 1) := by decide +kernel
theorem dX0_workerFor_26 : decode cX0_workerFor 26 = .ok (.getfield 68, 3) := by decide +kernel
theorem dX0_workerFor_29 : decode cX0_workerFor 29 = .ok (.aload_n 1, 1) := by decide +kernel
theorem dX0_workerFor_30 : decode cX0_workerFor 30 = .ok (.if_acmp .ne 5, 3) := by decide +kernel
theorem dX0_workerFor_33 : decode cX0_workerFor 33 = .ok (.aload_n 3, 1) := by decide +kernel
theorem dX0_workerFor_34 : decode cX0_workerFor 34 = .ok (.areturn, 1) := by decide +kernel
theorem dX0_workerFor_35 : decode cX0_workerFor 35 = .ok (.iinc 2 1, 3) := by decide +kernel
theorem dX0_workerFor_38 : decode cX0_workerFor 38 = .ok (.goto (-36), 3) := by decide +kernel
theorem dX0_workerFor_41 : decode cX0_workerFor 41 = .ok (.aconst_null, 1) := by decide +kernel
theorem dX0_workerFor_42 : decode cX0_workerFor 42 = .ok (.areturn, 1) := by decide +kernel
theorem dX0_worksFor_0 : decode cX0_worksFor 0 = .ok (.iconst 0, 1) := by decide +kernel
theorem dX0_worksFor_1 : decode cX0_worksFor 1 = .ok (.istore_n 2, 1) := by decide +kernel
theorem dX0_worksFor_2 : decode cX0_worksFor 2 = .ok (.iload_n 2, 1) := by decide +kernel
theorem dX0_worksFor_3 : decode cX0_worksFor 3 = .ok (.aload_n 0, 1) := by decide +kernel
theorem dX0_worksFor_4 : decode cX0_worksFor 4 = .ok (.getfield 21, 3) := by decide +kernel
theorem dX0_worksFor_7 : decode cX0_worksFor 7 = .ok (.invokevirtual 44, 3) := by decide +kernel
theorem dX0_worksFor_10 : decode cX0_worksFor 10 = .ok (.if_icmp .ge 38, 3) := by decide +kernel
theorem dX0_worksFor_13 : decode cX0_worksFor 13 = .ok (.aload_n 0, 1) := by decide +kernel
theorem dX0_worksFor_14 : decode cX0_worksFor 14 = .ok (.getfield 21, 3) := by decide +kernel
theorem dX0_worksFor_17 : decode cX0_worksFor 17 = .ok (.iload_n 2, 1) := by decide +kernel
theorem dX0_worksFor_18 : decode cX0_worksFor 18 = .ok (.invokevirtual 48, 3) := by decide +kernel
theorem dX0_worksFor_21 : decode cX0_worksFor 21 = .ok (.checkcast 52, 3) := by decide +kernel
theorem dX0_worksFor_24 : decode cX0_worksFor 24 = .ok (.getfield 68, 3) := by decide +kernel
theorem dX0_worksFor_27 : decode cX0_worksFor 27 = .ok (.astore_n 3, 1) := by decide +kernel
theorem dX0_worksFor_28 : decode cX0_worksFor 28 = .ok (.aload_n 3, 1) := by decide +kernel
theorem dX0_worksFor_29 : decode cX0_worksFor 29 = .ok (.ifnull 13, 3) := by decide +kernel
theorem dX0_worksFor_32 : decode cX0_worksFor 32 = .ok (.aload_n 3, 1) := by decide +kernel
theorem dX0_worksFor_33 : decode cX0_worksFor 33 = .ok (.getfield 72, 3) := by decide +kernel
theorem dX0_worksFor_36 : decode cX0_worksFor 36 = .ok (.aload_n 1, 1) := by decide +kernel
theorem dX0_worksFor_37 : decode cX0_worksFor 37 = .ok (.if_acmp .ne 5, 3) := by decide +kernel
theorem dX0_worksFor_40 : decode cX0_worksFor 40 = .ok (.iconst 1, 1) := by decide +kernel
theorem dX0_worksFor_41 : decode cX0_worksFor 41 = .ok (.ireturn, 1) := by decide +kernel
theorem dX0_worksFor_42 : decode cX0_worksFor 42 = .ok (.iinc 2 1, 3) := by decide +kernel
theorem dX0_worksFor_45 : decode cX0_worksFor 45 = .ok (.goto (-43), 3) := by decide +kernel
theorem dX0_worksFor_48 : decode cX0_worksFor 48 = .ok (.iconst 0, 1) := by decide +kernel
theorem dX0_worksFor_49 : decode cX0_worksFor 49 = .ok (.ireturn, 1) := by decide +kernel
theorem dX0_nearestIdle_0 : decode cX0_nearestIdle 0 = .ok (.aconst_null, 1) := by decide +kernel
theorem dX0_nearestIdle_1 : decode cX0_nearestIdle 1 = .ok (.astore_n 2, 1) := by decide +kernel
theorem dX0_nearestIdle_2 : decode cX0_nearestIdle 2 = .ok (.bipush 64, 2) := by decide +kernel
theorem dX0_nearestIdle_4 : decode cX0_nearestIdle 4 = .ok (.istore_n 3, 1) := by decide +kernel
theorem dX0_nearestIdle_5 : decode cX0_nearestIdle 5 = .ok (.iconst 0, 1) := by decide +kernel
theorem dX0_nearestIdle_6 : decode cX0_nearestIdle 6 = .ok (.istore 4, 2) := by decide +kernel
theorem dX0_nearestIdle_8 : decode cX0_nearestIdle 8 = .ok (.iload 4, 2) := by decide +kernel
theorem dX0_nearestIdle_10 : decode cX0_nearestIdle 10 = .ok (.aload_n 0, 1) := by decide +kernel
theorem dX0_nearestIdle_11 : decode cX0_nearestIdle 11 = .ok (.getfield 21, 3) := by decide +kernel
theorem dX0_nearestIdle_14 : decode cX0_nearestIdle 14 = .ok (.invokevirtual 44, 3) := by decide +kernel
theorem dX0_nearestIdle_17 : decode cX0_nearestIdle 17 = .ok (.if_icmp .ge 65, 3) := by decide +kernel
theorem dX0_nearestIdle_20 : decode cX0_nearestIdle 20 = .ok (.aload_n 0, 1) := by decide +kernel
theorem dX0_nearestIdle_21 : decode cX0_nearestIdle 21 = .ok (.getfield 21, 3) := by decide +kernel
theorem dX0_nearestIdle_24 : decode cX0_nearestIdle 24 = .ok (.iload 4, 2) := by decide +kernel
theorem dX0_nearestIdle_26 : decode cX0_nearestIdle 26 = .ok (.invokevirtual 48, 3) := by decide +kernel
theorem dX0_nearestIdle_29 : decode cX0_nearestIdle 29 = .ok (.checkcast 52, 3) := by decide +kernel
theorem dX0_nearestIdle_32 : decode cX0_nearestIdle 32 = .ok (.astore 5, 2) := by decide +kernel
theorem dX0_nearestIdle_34 : decode cX0_nearestIdle 34 = .ok (.aload 5, 2) := by decide +kernel
theorem dX0_nearestIdle_36 : decode cX0_nearestIdle 36 = .ok (.getfield 65, 3) := by decide +kernel
theorem dX0_nearestIdle_39 : decode cX0_nearestIdle 39 = .ok (.ifCond .ne 37, 3) := by decide +kernel
theorem dX0_nearestIdle_42 : decode cX0_nearestIdle 42 = .ok (.aload_n 0, 1) := by decide +kernel
theorem dX0_nearestIdle_43 : decode cX0_nearestIdle 43 = .ok (.getfield 12, 3) := by decide +kernel
theorem dX0_nearestIdle_46 : decode cX0_nearestIdle 46 = .ok (.aload 5, 2) := by decide +kernel
theorem dX0_nearestIdle_48 : decode cX0_nearestIdle 48 = .ok (.getfield 54, 3) := by decide +kernel
theorem dX0_nearestIdle_51 : decode cX0_nearestIdle 51 = .ok (.iload_n 1, 1) := by decide +kernel
theorem dX0_nearestIdle_52 : decode cX0_nearestIdle 52 = .ok (.iconst (-1), 1) := by decide +kernel
theorem dX0_nearestIdle_53 : decode cX0_nearestIdle 53 = .ok (.invokevirtual 78, 3) := by decide +kernel
theorem dX0_nearestIdle_56 : decode cX0_nearestIdle 56 = .ok (.istore 6, 2) := by decide +kernel
theorem dX0_nearestIdle_58 : decode cX0_nearestIdle 58 = .ok (.iload 6, 2) := by decide +kernel
theorem dX0_nearestIdle_60 : decode cX0_nearestIdle 60 = .ok (.iconst (-1), 1) := by decide +kernel
theorem dX0_nearestIdle_61 : decode cX0_nearestIdle 61 = .ok (.if_icmp .eq 15, 3) := by decide +kernel
theorem dX0_nearestIdle_64 : decode cX0_nearestIdle 64 = .ok (.iload 6, 2) := by decide +kernel
theorem dX0_nearestIdle_66 : decode cX0_nearestIdle 66 = .ok (.iload_n 3, 1) := by decide +kernel
theorem dX0_nearestIdle_67 : decode cX0_nearestIdle 67 = .ok (.if_icmp .ge 9, 3) := by decide +kernel
theorem dX0_nearestIdle_70 : decode cX0_nearestIdle 70 = .ok (.aload 5, 2) := by decide +kernel
theorem dX0_nearestIdle_72 : decode cX0_nearestIdle 72 = .ok (.astore_n 2, 1) := by decide +kernel
theorem dX0_nearestIdle_73 : decode cX0_nearestIdle 73 = .ok (.iload 6, 2) := by decide +kernel
theorem dX0_nearestIdle_75 : decode cX0_nearestIdle 75 = .ok (.istore_n 3, 1) := by decide +kernel
theorem dX0_nearestIdle_76 : decode cX0_nearestIdle 76 = .ok (.iinc 4 1, 3) := by decide +kernel
theorem dX0_nearestIdle_79 : decode cX0_nearestIdle 79 = .ok (.goto (-71), 3) := by decide +kernel
theorem dX0_nearestIdle_82 : decode cX0_nearestIdle 82 = .ok (.aload_n 2, 1) := by decide +kernel
theorem dX0_nearestIdle_83 : decode cX0_nearestIdle 83 = .ok (.areturn, 1) := by decide +kernel
theorem dX0_moveRobot_0 : decode cX0_moveRobot 0 = .ok (.aload_n 1, 1) := by decide +kernel
theorem dX0_moveRobot_1 : decode cX0_moveRobot 1 = .ok (.iload_n 2, 1) := by decide +kernel
theorem dX0_moveRobot_2 : decode cX0_moveRobot 2 = .ok (.invokevirtual 82, 3) := by decide +kernel
theorem dX0_moveRobot_5 : decode cX0_moveRobot 5 = .ok (.aload_n 0, 1) := by decide +kernel
theorem dX0_moveRobot_6 : decode cX0_moveRobot 6 = .ok (.dup, 1) := by decide +kernel
theorem dX0_moveRobot_7 : decode cX0_moveRobot 7 = .ok (.getfield 25, 3) := by decide +kernel
theorem dX0_moveRobot_10 : decode cX0_moveRobot 10 = .ok (.iconst 1, 1) := by decide +kernel
theorem dX0_moveRobot_11 : decode cX0_moveRobot 11 = .ok (.iadd, 1) := by decide +kernel
theorem dX0_moveRobot_12 : decode cX0_moveRobot 12 = .ok (.putfield 25, 3) := by decide +kernel
theorem dX0_moveRobot_15 : decode cX0_moveRobot 15 = .ok (.return_, 1) := by decide +kernel
theorem dX0_askForCells_0 : decode cX0_askForCells 0 = .ok (.iconst 0, 1) := by decide +kernel
theorem dX0_askForCells_1 : decode cX0_askForCells 1 = .ok (.istore_n 2, 1) := by decide +kernel
theorem dX0_askForCells_2 : decode cX0_askForCells 2 = .ok (.iload_n 2, 1) := by decide +kernel
theorem dX0_askForCells_3 : decode cX0_askForCells 3 = .ok (.aload_n 0, 1) := by decide +kernel
theorem dX0_askForCells_4 : decode cX0_askForCells 4 = .ok (.getfield 21, 3) := by decide +kernel
theorem dX0_askForCells_7 : decode cX0_askForCells 7 = .ok (.invokevirtual 44, 3) := by decide +kernel
theorem dX0_askForCells_10 : decode cX0_askForCells 10 = .ok (.if_icmp .ge 31, 3) := by decide +kernel
theorem dX0_askForCells_13 : decode cX0_askForCells 13 = .ok (.aload_n 0, 1) := by decide +kernel
theorem dX0_askForCells_14 : decode cX0_askForCells 14 = .ok (.getfield 21, 3) := by decide +kernel
theorem dX0_askForCells_17 : decode cX0_askForCells 17 = .ok (.iload_n 2, 1) := by decide +kernel
theorem dX0_askForCells_18 : decode cX0_askForCells 18 = .ok (.invokevirtual 48, 3) := by decide +kernel
theorem dX0_askForCells_21 : decode cX0_askForCells 21 = .ok (.checkcast 52, 3) := by decide +kernel
theorem dX0_askForCells_24 : decode cX0_askForCells 24 = .ok (.astore_n 3, 1) := by decide +kernel
theorem dX0_askForCells_25 : decode cX0_askForCells 25 = .ok (.aload_n 3, 1) := by decide +kernel
theorem dX0_askForCells_26 : decode cX0_askForCells 26 = .ok (.aload_n 0, 1) := by decide +kernel
theorem dX0_askForCells_27 : decode cX0_askForCells 27 = .ok (.aload_n 3, 1) := by decide +kernel
theorem dX0_askForCells_28 : decode cX0_askForCells 28 = .ok (.invokevirtual 86, 3) := by decide +kernel
theorem dX0_askForCells_31 : decode cX0_askForCells 31 = .ok (.iload_n 1, 1) := by decide +kernel
theorem dX0_askForCells_32 : decode cX0_askForCells 32 = .ok (.invokevirtual 90, 3) := by decide +kernel
theorem dX0_askForCells_35 : decode cX0_askForCells 35 = .ok (.iinc 2 1, 3) := by decide +kernel
theorem dX0_askForCells_38 : decode cX0_askForCells 38 = .ok (.goto (-36), 3) := by decide +kernel
theorem dX0_askForCells_41 : decode cX0_askForCells 41 = .ok (.return_, 1) := by decide +kernel
theorem dX0_wantedCell_0 : decode cX0_wantedCell 0 = .ok (.aload_n 1, 1) := by decide +kernel
theorem dX0_wantedCell_1 : decode cX0_wantedCell 1 = .ok (.invokevirtual 94, 3) := by decide +kernel
theorem dX0_wantedCell_4 : decode cX0_wantedCell 4 = .ok (.istore_n 2, 1) := by decide +kernel
theorem dX0_wantedCell_5 : decode cX0_wantedCell 5 = .ok (.aload_n 1, 1) := by decide +kernel
theorem dX0_wantedCell_6 : decode cX0_wantedCell 6 = .ok (.invokevirtual 97, 3) := by decide +kernel
theorem dX0_wantedCell_9 : decode cX0_wantedCell 9 = .ok (.ifCond .eq 11, 3) := by decide +kernel
theorem dX0_wantedCell_12 : decode cX0_wantedCell 12 = .ok (.aload_n 1, 1) := by decide +kernel
theorem dX0_wantedCell_13 : decode cX0_wantedCell 13 = .ok (.getfield 54, 3) := by decide +kernel
theorem dX0_wantedCell_16 : decode cX0_wantedCell 16 = .ok (.iload_n 2, 1) := by decide +kernel
theorem dX0_wantedCell_17 : decode cX0_wantedCell 17 = .ok (.if_icmp .ne 5, 3) := by decide +kernel
theorem dX0_wantedCell_20 : decode cX0_wantedCell 20 = .ok (.iconst (-1), 1) := by decide +kernel
theorem dX0_wantedCell_21 : decode cX0_wantedCell 21 = .ok (.ireturn, 1) := by decide +kernel
theorem dX0_wantedCell_22 : decode cX0_wantedCell 22 = .ok (.aload_n 0, 1) := by decide +kernel
theorem dX0_wantedCell_23 : decode cX0_wantedCell 23 = .ok (.getfield 12, 3) := by decide +kernel
theorem dX0_wantedCell_26 : decode cX0_wantedCell 26 = .ok (.aload_n 1, 1) := by decide +kernel
theorem dX0_wantedCell_27 : decode cX0_wantedCell 27 = .ok (.getfield 54, 3) := by decide +kernel
theorem dX0_wantedCell_30 : decode cX0_wantedCell 30 = .ok (.iload_n 2, 1) := by decide +kernel
theorem dX0_wantedCell_31 : decode cX0_wantedCell 31 = .ok (.aload_n 1, 1) := by decide +kernel
theorem dX0_wantedCell_32 : decode cX0_wantedCell 32 = .ok (.getfield 101, 3) := by decide +kernel
theorem dX0_wantedCell_35 : decode cX0_wantedCell 35 = .ok (.invokevirtual 104, 3) := by decide +kernel
theorem dX0_wantedCell_38 : decode cX0_wantedCell 38 = .ok (.istore_n 3, 1) := by decide +kernel
theorem dX0_wantedCell_39 : decode cX0_wantedCell 39 = .ok (.iload_n 3, 1) := by decide +kernel
theorem dX0_wantedCell_40 : decode cX0_wantedCell 40 = .ok (.iconst (-1), 1) := by decide +kernel
theorem dX0_wantedCell_41 : decode cX0_wantedCell 41 = .ok (.if_icmp .ne 30, 3) := by decide +kernel
theorem dX0_wantedCell_44 : decode cX0_wantedCell 44 = .ok (.aload_n 1, 1) := by decide +kernel
theorem dX0_wantedCell_45 : decode cX0_wantedCell 45 = .ok (.getfield 101, 3) := by decide +kernel
theorem dX0_wantedCell_48 : decode cX0_wantedCell 48 = .ok (.iconst (-1), 1) := by decide +kernel
theorem dX0_wantedCell_49 : decode cX0_wantedCell 49 = .ok (.if_icmp .eq 22, 3) := by decide +kernel
theorem dX0_wantedCell_52 : decode cX0_wantedCell 52 = .ok (.aload_n 1, 1) := by decide +kernel
theorem dX0_wantedCell_53 : decode cX0_wantedCell 53 = .ok (.iconst (-1), 1) := by decide +kernel
theorem dX0_wantedCell_54 : decode cX0_wantedCell 54 = .ok (.putfield 101, 3) := by decide +kernel
theorem dX0_wantedCell_57 : decode cX0_wantedCell 57 = .ok (.aload_n 0, 1) := by decide +kernel
theorem dX0_wantedCell_58 : decode cX0_wantedCell 58 = .ok (.getfield 12, 3) := by decide +kernel
theorem dX0_wantedCell_61 : decode cX0_wantedCell 61 = .ok (.aload_n 1, 1) := by decide +kernel
theorem dX0_wantedCell_62 : decode cX0_wantedCell 62 = .ok (.getfield 54, 3) := by decide +kernel
theorem dX0_wantedCell_65 : decode cX0_wantedCell 65 = .ok (.iload_n 2, 1) := by decide +kernel
theorem dX0_wantedCell_66 : decode cX0_wantedCell 66 = .ok (.iconst (-1), 1) := by decide +kernel
theorem dX0_wantedCell_67 : decode cX0_wantedCell 67 = .ok (.invokevirtual 104, 3) := by decide +kernel
theorem dX0_wantedCell_70 : decode cX0_wantedCell 70 = .ok (.istore_n 3, 1) := by decide +kernel
theorem dX0_wantedCell_71 : decode cX0_wantedCell 71 = .ok (.iload_n 3, 1) := by decide +kernel
theorem dX0_wantedCell_72 : decode cX0_wantedCell 72 = .ok (.ireturn, 1) := by decide +kernel
theorem dX0_settleRings_0 : decode cX0_settleRings 0 = .ok (.iconst 0, 1) := by decide +kernel
theorem dX0_settleRings_1 : decode cX0_settleRings 1 = .ok (.istore_n 1, 1) := by decide +kernel
theorem dX0_settleRings_2 : decode cX0_settleRings 2 = .ok (.iload_n 1, 1) := by decide +kernel
theorem dX0_settleRings_3 : decode cX0_settleRings 3 = .ok (.aload_n 0, 1) := by decide +kernel
theorem dX0_settleRings_4 : decode cX0_settleRings 4 = .ok (.getfield 21, 3) := by decide +kernel
theorem dX0_settleRings_7 : decode cX0_settleRings 7 = .ok (.invokevirtual 44, 3) := by decide +kernel
theorem dX0_settleRings_10 : decode cX0_settleRings 10 = .ok (.if_icmp .ge 79, 3) := by decide +kernel
theorem dX0_settleRings_13 : decode cX0_settleRings 13 = .ok (.aload_n 0, 1) := by decide +kernel
theorem dX0_settleRings_14 : decode cX0_settleRings 14 = .ok (.aload_n 0, 1) := by decide +kernel
theorem dX0_settleRings_15 : decode cX0_settleRings 15 = .ok (.getfield 21, 3) := by decide +kernel
theorem dX0_settleRings_18 : decode cX0_settleRings 18 = .ok (.iload_n 1, 1) := by decide +kernel
theorem dX0_settleRings_19 : decode cX0_settleRings 19 = .ok (.invokevirtual 48, 3) := by decide +kernel
theorem dX0_settleRings_22 : decode cX0_settleRings 22 = .ok (.checkcast 52, 3) := by decide +kernel
theorem dX0_settleRings_25 : decode cX0_settleRings 25 = .ok (.invokevirtual 107, 3) := by decide +kernel
theorem dX0_settleRings_28 : decode cX0_settleRings 28 = .ok (.aload_n 0, 1) := by decide +kernel
theorem dX0_settleRings_29 : decode cX0_settleRings 29 = .ok (.getfield 38, 3) := by decide +kernel
theorem dX0_settleRings_32 : decode cX0_settleRings 32 = .ok (.invokevirtual 44, 3) := by decide +kernel
theorem dX0_settleRings_35 : decode cX0_settleRings 35 = .ok (.iconst 2, 1) := by decide +kernel
theorem dX0_settleRings_36 : decode cX0_settleRings 36 = .ok (.if_icmp .le 10, 3) := by decide +kernel
theorem dX0_settleRings_39 : decode cX0_settleRings 39 = .ok (.aload_n 0, 1) := by decide +kernel
theorem dX0_settleRings_40 : decode cX0_settleRings 40 = .ok (.invokevirtual 111, 3) := by decide +kernel
theorem dX0_settleRings_43 : decode cX0_settleRings 43 = .ok (.goto 40, 3) := by decide +kernel
theorem dX0_settleRings_46 : decode cX0_settleRings 46 = .ok (.aload_n 0, 1) := by decide +kernel
theorem dX0_settleRings_47 : decode cX0_settleRings 47 = .ok (.getfield 38, 3) := by decide +kernel
theorem dX0_settleRings_50 : decode cX0_settleRings 50 = .ok (.invokevirtual 44, 3) := by decide +kernel
theorem dX0_settleRings_53 : decode cX0_settleRings 53 = .ok (.iconst 2, 1) := by decide +kernel
theorem dX0_settleRings_54 : decode cX0_settleRings 54 = .ok (.if_icmp .ne 29, 3) := by decide +kernel
theorem dX0_settleRings_57 : decode cX0_settleRings 57 = .ok (.aload_n 0, 1) := by decide +kernel
theorem dX0_settleRings_58 : decode cX0_settleRings 58 = .ok (.aload_n 0, 1) := by decide +kernel
theorem dX0_settleRings_59 : decode cX0_settleRings 59 = .ok (.getfield 38, 3) := by decide +kernel
theorem dX0_settleRings_62 : decode cX0_settleRings 62 = .ok (.iconst 0, 1) := by decide +kernel
theorem dX0_settleRings_63 : decode cX0_settleRings 63 = .ok (.invokevirtual 48, 3) := by decide +kernel
theorem dX0_settleRings_66 : decode cX0_settleRings 66 = .ok (.checkcast 52, 3) := by decide +kernel
theorem dX0_settleRings_69 : decode cX0_settleRings 69 = .ok (.aload_n 0, 1) := by decide +kernel
theorem dX0_settleRings_70 : decode cX0_settleRings 70 = .ok (.getfield 38, 3) := by decide +kernel
theorem dX0_settleRings_73 : decode cX0_settleRings 73 = .ok (.iconst 1, 1) := by decide +kernel
theorem dX0_settleRings_74 : decode cX0_settleRings 74 = .ok (.invokevirtual 48, 3) := by decide +kernel
theorem dX0_settleRings_77 : decode cX0_settleRings 77 = .ok (.checkcast 52, 3) := by decide +kernel
theorem dX0_settleRings_80 : decode cX0_settleRings 80 = .ok (.invokevirtual 114, 3) := by decide +kernel
theorem dX0_settleRings_83 : decode cX0_settleRings 83 = .ok (.iinc 1 1, 3) := by decide +kernel
theorem dX0_settleRings_86 : decode cX0_settleRings 86 = .ok (.goto (-84), 3) := by decide +kernel
theorem dX0_settleRings_89 : decode cX0_settleRings 89 = .ok (.return_, 1) := by decide +kernel
theorem dX0_gatherRing_0 : decode cX0_gatherRing 0 = .ok (.aload_n 0, 1) := by decide +kernel
theorem dX0_gatherRing_1 : decode cX0_gatherRing 1 = .ok (.getfield 38, 3) := by decide +kernel
theorem dX0_gatherRing_4 : decode cX0_gatherRing 4 = .ok (.invokevirtual 118, 3) := by decide +kernel
theorem dX0_gatherRing_7 : decode cX0_gatherRing 7 = .ok (.aload_n 1, 1) := by decide +kernel
theorem dX0_gatherRing_8 : decode cX0_gatherRing 8 = .ok (.astore_n 2, 1) := by decide +kernel
theorem dX0_gatherRing_9 : decode cX0_gatherRing 9 = .ok (.iconst 0, 1) := by decide +kernel
theorem dX0_gatherRing_10 : decode cX0_gatherRing 10 = .ok (.istore_n 3, 1) := by decide +kernel
theorem dX0_gatherRing_11 : decode cX0_gatherRing 11 = .ok (.iload_n 3, 1) := by decide +kernel
theorem dX0_gatherRing_12 : decode cX0_gatherRing 12 = .ok (.bipush 6, 2) := by decide +kernel
theorem dX0_gatherRing_14 : decode cX0_gatherRing 14 = .ok (.if_icmp .ge 51, 3) := by decide +kernel
theorem dX0_gatherRing_17 : decode cX0_gatherRing 17 = .ok (.aload_n 0, 1) := by decide +kernel
theorem dX0_gatherRing_18 : decode cX0_gatherRing 18 = .ok (.getfield 38, 3) := by decide +kernel
theorem dX0_gatherRing_21 : decode cX0_gatherRing 21 = .ok (.aload_n 2, 1) := by decide +kernel
theorem dX0_gatherRing_22 : decode cX0_gatherRing 22 = .ok (.invokevirtual 121, 3) := by decide +kernel
theorem dX0_gatherRing_25 : decode cX0_gatherRing 25 = .ok (.pop, 1) := by decide +kernel
theorem dX0_gatherRing_26 : decode cX0_gatherRing 26 = .ok (.aload_n 0, 1) := by decide +kernel
theorem dX0_gatherRing_27 : decode cX0_gatherRing 27 = .ok (.aload_n 2, 1) := by decide +kernel
theorem dX0_gatherRing_28 : decode cX0_gatherRing 28 = .ok (.getfield 125, 3) := by decide +kernel
theorem dX0_gatherRing_31 : decode cX0_gatherRing 31 = .ok (.invokevirtual 128, 3) := by decide +kernel
theorem dX0_gatherRing_34 : decode cX0_gatherRing 34 = .ok (.astore_n 2, 1) := by decide +kernel
theorem dX0_gatherRing_35 : decode cX0_gatherRing 35 = .ok (.aload_n 2, 1) := by decide +kernel
theorem dX0_gatherRing_36 : decode cX0_gatherRing 36 = .ok (.aload_n 1, 1) := by decide +kernel
theorem dX0_gatherRing_37 : decode cX0_gatherRing 37 = .ok (.if_acmp .ne 4, 3) := by decide +kernel
theorem dX0_gatherRing_40 : decode cX0_gatherRing 40 = .ok (.return_, 1) := by decide +kernel
theorem dX0_gatherRing_41 : decode cX0_gatherRing 41 = .ok (.aload_n 2, 1) := by decide +kernel
theorem dX0_gatherRing_42 : decode cX0_gatherRing 42 = .ok (.ifnull 23, 3) := by decide +kernel
theorem dX0_gatherRing_45 : decode cX0_gatherRing 45 = .ok (.aload_n 2, 1) := by decide +kernel
theorem dX0_gatherRing_46 : decode cX0_gatherRing 46 = .ok (.getfield 132, 3) := by decide +kernel
theorem dX0_gatherRing_49 : decode cX0_gatherRing 49 = .ok (.aload_n 1, 1) := by decide +kernel
theorem dX0_gatherRing_50 : decode cX0_gatherRing 50 = .ok (.getfield 132, 3) := by decide +kernel
theorem dX0_gatherRing_53 : decode cX0_gatherRing 53 = .ok (.if_icmp .ge 6, 3) := by decide +kernel
theorem dX0_gatherRing_56 : decode cX0_gatherRing 56 = .ok (.goto 9, 3) := by decide +kernel
theorem dX0_gatherRing_59 : decode cX0_gatherRing 59 = .ok (.iinc 3 1, 3) := by decide +kernel
theorem dX0_gatherRing_62 : decode cX0_gatherRing 62 = .ok (.goto (-51), 3) := by decide +kernel
theorem dX0_gatherRing_65 : decode cX0_gatherRing 65 = .ok (.aload_n 0, 1) := by decide +kernel
theorem dX0_gatherRing_66 : decode cX0_gatherRing 66 = .ok (.getfield 38, 3) := by decide +kernel
theorem dX0_gatherRing_69 : decode cX0_gatherRing 69 = .ok (.invokevirtual 118, 3) := by decide +kernel
theorem dX0_gatherRing_72 : decode cX0_gatherRing 72 = .ok (.return_, 1) := by decide +kernel
theorem dX0_turnRing_0 : decode cX0_turnRing 0 = .ok (.iconst 0, 1) := by decide +kernel
theorem dX0_turnRing_1 : decode cX0_turnRing 1 = .ok (.istore_n 1, 1) := by decide +kernel
theorem dX0_turnRing_2 : decode cX0_turnRing 2 = .ok (.iload_n 1, 1) := by decide +kernel
theorem dX0_turnRing_3 : decode cX0_turnRing 3 = .ok (.aload_n 0, 1) := by decide +kernel
theorem dX0_turnRing_4 : decode cX0_turnRing 4 = .ok (.getfield 38, 3) := by decide +kernel
theorem dX0_turnRing_7 : decode cX0_turnRing 7 = .ok (.invokevirtual 44, 3) := by decide +kernel
theorem dX0_turnRing_10 : decode cX0_turnRing 10 = .ok (.if_icmp .ge 30, 3) := by decide +kernel
theorem dX0_turnRing_13 : decode cX0_turnRing 13 = .ok (.aload_n 0, 1) := by decide +kernel
theorem dX0_turnRing_14 : decode cX0_turnRing 14 = .ok (.getfield 38, 3) := by decide +kernel
theorem dX0_turnRing_17 : decode cX0_turnRing 17 = .ok (.iload_n 1, 1) := by decide +kernel
theorem dX0_turnRing_18 : decode cX0_turnRing 18 = .ok (.invokevirtual 48, 3) := by decide +kernel
theorem dX0_turnRing_21 : decode cX0_turnRing 21 = .ok (.checkcast 52, 3) := by decide +kernel
theorem dX0_turnRing_24 : decode cX0_turnRing 24 = .ok (.astore_n 2, 1) := by decide +kernel
theorem dX0_turnRing_25 : decode cX0_turnRing 25 = .ok (.aload_n 0, 1) := by decide +kernel
theorem dX0_turnRing_26 : decode cX0_turnRing 26 = .ok (.aload_n 2, 1) := by decide +kernel
theorem dX0_turnRing_27 : decode cX0_turnRing 27 = .ok (.aload_n 2, 1) := by decide +kernel
theorem dX0_turnRing_28 : decode cX0_turnRing 28 = .ok (.getfield 125, 3) := by decide +kernel
theorem dX0_turnRing_31 : decode cX0_turnRing 31 = .ok (.invokevirtual 135, 3) := by decide +kernel
theorem dX0_turnRing_34 : decode cX0_turnRing 34 = .ok (.iinc 1 1, 3) := by decide +kernel
theorem dX0_turnRing_37 : decode cX0_turnRing 37 = .ok (.goto (-35), 3) := by decide +kernel
theorem dX0_turnRing_40 : decode cX0_turnRing 40 = .ok (.aload_n 0, 1) := by decide +kernel
theorem dX0_turnRing_41 : decode cX0_turnRing 41 = .ok (.dup, 1) := by decide +kernel
theorem dX0_turnRing_42 : decode cX0_turnRing 42 = .ok (.getfield 29, 3) := by decide +kernel
theorem dX0_turnRing_45 : decode cX0_turnRing 45 = .ok (.iconst 1, 1) := by decide +kernel
theorem dX0_turnRing_46 : decode cX0_turnRing 46 = .ok (.iadd, 1) := by decide +kernel
theorem dX0_turnRing_47 : decode cX0_turnRing 47 = .ok (.putfield 29, 3) := by decide +kernel
theorem dX0_turnRing_50 : decode cX0_turnRing 50 = .ok (.return_, 1) := by decide +kernel
theorem dX0_breakRing_0 : decode cX0_breakRing 0 = .ok (.aload_n 1, 1) := by decide +kernel
theorem dX0_breakRing_1 : decode cX0_breakRing 1 = .ok (.aload_n 2, 1) := by decide +kernel
theorem dX0_breakRing_2 : decode cX0_breakRing 2 = .ok (.invokevirtual 139, 3) := by decide +kernel
theorem dX0_breakRing_5 : decode cX0_breakRing 5 = .ok (.ifCond .eq 7, 3) := by decide +kernel
theorem dX0_breakRing_8 : decode cX0_breakRing 8 = .ok (.aload_n 1, 1) := by decide +kernel
theorem dX0_breakRing_9 : decode cX0_breakRing 9 = .ok (.goto 4, 3) := by decide +kernel
theorem dX0_breakRing_12 : decode cX0_breakRing 12 = .ok (.aload_n 2, 1) := by decide +kernel
theorem dX0_breakRing_13 : decode cX0_breakRing 13 = .ok (.astore_n 3, 1) := by decide +kernel
theorem dX0_breakRing_14 : decode cX0_breakRing 14 = .ok (.aload_n 3, 1) := by decide +kernel
theorem dX0_breakRing_15 : decode cX0_breakRing 15 = .ok (.aload_n 1, 1) := by decide +kernel
theorem dX0_breakRing_16 : decode cX0_breakRing 16 = .ok (.if_acmp .ne 7, 3) := by decide +kernel
theorem dX0_breakRing_19 : decode cX0_breakRing 19 = .ok (.aload_n 2, 1) := by decide +kernel
theorem dX0_breakRing_20 : decode cX0_breakRing 20 = .ok (.goto 4, 3) := by decide +kernel
theorem dX0_breakRing_23 : decode cX0_breakRing 23 = .ok (.aload_n 1, 1) := by decide +kernel
theorem dX0_breakRing_24 : decode cX0_breakRing 24 = .ok (.astore 4, 2) := by decide +kernel
theorem dX0_breakRing_26 : decode cX0_breakRing 26 = .ok (.aload_n 0, 1) := by decide +kernel
theorem dX0_breakRing_27 : decode cX0_breakRing 27 = .ok (.aload 4, 2) := by decide +kernel
theorem dX0_breakRing_29 : decode cX0_breakRing 29 = .ok (.aload_n 3, 1) := by decide +kernel
theorem dX0_breakRing_30 : decode cX0_breakRing 30 = .ok (.invokevirtual 143, 3) := by decide +kernel
theorem dX0_breakRing_33 : decode cX0_breakRing 33 = .ok (.ifCond .eq 22, 3) := by decide +kernel
theorem dX0_breakRing_36 : decode cX0_breakRing 36 = .ok (.aload 4, 2) := by decide +kernel
theorem dX0_breakRing_38 : decode cX0_breakRing 38 = .ok (.aload_n 3, 1) := by decide +kernel
theorem dX0_breakRing_39 : decode cX0_breakRing 39 = .ok (.invokevirtual 147, 3) := by decide +kernel
theorem dX0_breakRing_42 : decode cX0_breakRing 42 = .ok (.aload_n 0, 1) := by decide +kernel
theorem dX0_breakRing_43 : decode cX0_breakRing 43 = .ok (.dup, 1) := by decide +kernel
theorem dX0_breakRing_44 : decode cX0_breakRing 44 = .ok (.getfield 32, 3) := by decide +kernel
theorem dX0_breakRing_47 : decode cX0_breakRing 47 = .ok (.iconst 1, 1) := by decide +kernel
theorem dX0_breakRing_48 : decode cX0_breakRing 48 = .ok (.iadd, 1) := by decide +kernel
theorem dX0_breakRing_49 : decode cX0_breakRing 49 = .ok (.putfield 32, 3) := by decide +kernel
theorem dX0_breakRing_52 : decode cX0_breakRing 52 = .ok (.goto 42, 3) := by decide +kernel
theorem dX0_breakRing_55 : decode cX0_breakRing 55 = .ok (.aload_n 0, 1) := by decide +kernel
theorem dX0_breakRing_56 : decode cX0_breakRing 56 = .ok (.aload_n 3, 1) := by decide +kernel
theorem dX0_breakRing_57 : decode cX0_breakRing 57 = .ok (.aload 4, 2) := by decide +kernel
theorem dX0_breakRing_59 : decode cX0_breakRing 59 = .ok (.invokevirtual 143, 3) := by decide +kernel
theorem dX0_breakRing_62 : decode cX0_breakRing 62 = .ok (.ifCond .eq 22, 3) := by decide +kernel
theorem dX0_breakRing_65 : decode cX0_breakRing 65 = .ok (.aload_n 3, 1) := by decide +kernel
theorem dX0_breakRing_66 : decode cX0_breakRing 66 = .ok (.aload 4, 2) := by decide +kernel
theorem dX0_breakRing_68 : decode cX0_breakRing 68 = .ok (.invokevirtual 147, 3) := by decide +kernel
theorem dX0_breakRing_71 : decode cX0_breakRing 71 = .ok (.aload_n 0, 1) := by decide +kernel
theorem dX0_breakRing_72 : decode cX0_breakRing 72 = .ok (.dup, 1) := by decide +kernel
theorem dX0_breakRing_73 : decode cX0_breakRing 73 = .ok (.getfield 32, 3) := by decide +kernel
theorem dX0_breakRing_76 : decode cX0_breakRing 76 = .ok (.iconst 1, 1) := by decide +kernel
theorem dX0_breakRing_77 : decode cX0_breakRing 77 = .ok (.iadd, 1) := by decide +kernel
theorem dX0_breakRing_78 : decode cX0_breakRing 78 = .ok (.putfield 32, 3) := by decide +kernel
theorem dX0_breakRing_81 : decode cX0_breakRing 81 = .ok (.goto 13, 3) := by decide +kernel
theorem dX0_breakRing_84 : decode cX0_breakRing 84 = .ok (.aload_n 0, 1) := by decide +kernel
theorem dX0_breakRing_85 : decode cX0_breakRing 85 = .ok (.dup, 1) := by decide +kernel
theorem dX0_breakRing_86 : decode cX0_breakRing 86 = .ok (.getfield 35, 3) := by decide +kernel
theorem dX0_breakRing_89 : decode cX0_breakRing 89 = .ok (.iconst 1, 1) := by decide +kernel
theorem dX0_breakRing_90 : decode cX0_breakRing 90 = .ok (.iadd, 1) := by decide +kernel
theorem dX0_breakRing_91 : decode cX0_breakRing 91 = .ok (.putfield 35, 3) := by decide +kernel
theorem dX0_breakRing_94 : decode cX0_breakRing 94 = .ok (.return_, 1) := by decide +kernel
theorem dX0_canYieldTo_0 : decode cX0_canYieldTo 0 = .ok (.aload_n 0, 1) := by decide +kernel
theorem dX0_canYieldTo_1 : decode cX0_canYieldTo 1 = .ok (.getfield 12, 3) := by decide +kernel
theorem dX0_canYieldTo_4 : decode cX0_canYieldTo 4 = .ok (.aload_n 1, 1) := by decide +kernel
theorem dX0_canYieldTo_5 : decode cX0_canYieldTo 5 = .ok (.getfield 54, 3) := by decide +kernel
theorem dX0_canYieldTo_8 : decode cX0_canYieldTo 8 = .ok (.aload_n 1, 1) := by decide +kernel
theorem dX0_canYieldTo_9 : decode cX0_canYieldTo 9 = .ok (.invokevirtual 94, 3) := by decide +kernel
theorem dX0_canYieldTo_12 : decode cX0_canYieldTo 12 = .ok (.aload_n 2, 1) := by decide +kernel
theorem dX0_canYieldTo_13 : decode cX0_canYieldTo 13 = .ok (.getfield 54, 3) := by decide +kernel
theorem dX0_canYieldTo_16 : decode cX0_canYieldTo 16 = .ok (.invokevirtual 104, 3) := by decide +kernel
theorem dX0_canYieldTo_19 : decode cX0_canYieldTo 19 = .ok (.iconst (-1), 1) := by decide +kernel
theorem dX0_canYieldTo_20 : decode cX0_canYieldTo 20 = .ok (.if_icmp .eq 7, 3) := by decide +kernel
theorem dX0_canYieldTo_23 : decode cX0_canYieldTo 23 = .ok (.iconst 1, 1) := by decide +kernel
theorem dX0_canYieldTo_24 : decode cX0_canYieldTo 24 = .ok (.goto 4, 3) := by decide +kernel
theorem dX0_canYieldTo_27 : decode cX0_canYieldTo 27 = .ok (.iconst 0, 1) := by decide +kernel
theorem dX0_canYieldTo_28 : decode cX0_canYieldTo 28 = .ok (.ireturn, 1) := by decide +kernel
theorem dX0_stepAside_0 : decode cX0_stepAside 0 = .ok (.iconst 0, 1) := by decide +kernel
theorem dX0_stepAside_1 : decode cX0_stepAside 1 = .ok (.istore_n 1, 1) := by decide +kernel
theorem dX0_stepAside_2 : decode cX0_stepAside 2 = .ok (.iload_n 1, 1) := by decide +kernel
theorem dX0_stepAside_3 : decode cX0_stepAside 3 = .ok (.aload_n 0, 1) := by decide +kernel
theorem dX0_stepAside_4 : decode cX0_stepAside 4 = .ok (.getfield 21, 3) := by decide +kernel
theorem dX0_stepAside_7 : decode cX0_stepAside 7 = .ok (.invokevirtual 44, 3) := by decide +kernel
theorem dX0_stepAside_10 : decode cX0_stepAside 10 = .ok (.if_icmp .ge 59, 3) := by decide +kernel
theorem dX0_stepAside_13 : decode cX0_stepAside 13 = .ok (.aload_n 0, 1) := by decide +kernel
theorem dX0_stepAside_14 : decode cX0_stepAside 14 = .ok (.getfield 21, 3) := by decide +kernel
theorem dX0_stepAside_17 : decode cX0_stepAside 17 = .ok (.iload_n 1, 1) := by decide +kernel
theorem dX0_stepAside_18 : decode cX0_stepAside 18 = .ok (.invokevirtual 48, 3) := by decide +kernel
theorem dX0_stepAside_21 : decode cX0_stepAside 21 = .ok (.checkcast 52, 3) := by decide +kernel
theorem dX0_stepAside_24 : decode cX0_stepAside 24 = .ok (.astore_n 2, 1) := by decide +kernel
theorem dX0_stepAside_25 : decode cX0_stepAside 25 = .ok (.aload_n 2, 1) := by decide +kernel
theorem dX0_stepAside_26 : decode cX0_stepAside 26 = .ok (.getfield 65, 3) := by decide +kernel
theorem dX0_stepAside_29 : decode cX0_stepAside 29 = .ok (.ifCond .ne 34, 3) := by decide +kernel
theorem dX0_stepAside_32 : decode cX0_stepAside 32 = .ok (.aload_n 0, 1) := by decide +kernel
theorem dX0_stepAside_33 : decode cX0_stepAside 33 = .ok (.aload_n 2, 1) := by decide +kernel
theorem dX0_stepAside_34 : decode cX0_stepAside 34 = .ok (.getfield 54, 3) := by decide +kernel
theorem dX0_stepAside_37 : decode cX0_stepAside 37 = .ok (.invokevirtual 150, 3) := by decide +kernel
theorem dX0_stepAside_40 : decode cX0_stepAside 40 = .ok (.ifCond .eq 23, 3) := by decide +kernel
theorem dX0_stepAside_43 : decode cX0_stepAside 43 = .ok (.aload_n 0, 1) := by decide +kernel
theorem dX0_stepAside_44 : decode cX0_stepAside 44 = .ok (.aload_n 2, 1) := by decide +kernel
theorem dX0_stepAside_45 : decode cX0_stepAside 45 = .ok (.getfield 54, 3) := by decide +kernel
theorem dX0_stepAside_48 : decode cX0_stepAside 48 = .ok (.invokevirtual 154, 3) := by decide +kernel
theorem dX0_stepAside_51 : decode cX0_stepAside 51 = .ok (.istore_n 3, 1) := by decide +kernel
theorem dX0_stepAside_52 : decode cX0_stepAside 52 = .ok (.iload_n 3, 1) := by decide +kernel
theorem dX0_stepAside_53 : decode cX0_stepAside 53 = .ok (.iconst (-1), 1) := by decide +kernel
theorem dX0_stepAside_54 : decode cX0_stepAside 54 = .ok (.if_icmp .eq 9, 3) := by decide +kernel
theorem dX0_stepAside_57 : decode cX0_stepAside 57 = .ok (.aload_n 0, 1) := by decide +kernel
theorem dX0_stepAside_58 : decode cX0_stepAside 58 = .ok (.aload_n 2, 1) := by decide +kernel
theorem dX0_stepAside_59 : decode cX0_stepAside 59 = .ok (.iload_n 3, 1) := by decide +kernel
theorem dX0_stepAside_60 : decode cX0_stepAside 60 = .ok (.invokevirtual 135, 3) := by decide +kernel
theorem dX0_stepAside_63 : decode cX0_stepAside 63 = .ok (.iinc 1 1, 3) := by decide +kernel
theorem dX0_stepAside_66 : decode cX0_stepAside 66 = .ok (.goto (-64), 3) := by decide +kernel
theorem dX0_stepAside_69 : decode cX0_stepAside 69 = .ok (.return_, 1) := by decide +kernel
theorem dX0_cellAside_0 : decode cX0_cellAside 0 = .ok (.iconst 0, 1) := by decide +kernel
theorem dX0_cellAside_1 : decode cX0_cellAside 1 = .ok (.istore_n 2, 1) := by decide +kernel
theorem dX0_cellAside_2 : decode cX0_cellAside 2 = .ok (.iload_n 2, 1) := by decide +kernel
theorem dX0_cellAside_3 : decode cX0_cellAside 3 = .ok (.iconst 4, 1) := by decide +kernel
theorem dX0_cellAside_4 : decode cX0_cellAside 4 = .ok (.if_icmp .ge 44, 3) := by decide +kernel
theorem dX0_cellAside_7 : decode cX0_cellAside 7 = .ok (.iload_n 1, 1) := by decide +kernel
theorem dX0_cellAside_8 : decode cX0_cellAside 8 = .ok (.iload_n 2, 1) := by decide +kernel
theorem dX0_cellAside_9 : decode cX0_cellAside 9 = .ok (.invokestatic 158, 3) := by decide +kernel
theorem dX0_cellAside_12 : decode cX0_cellAside 12 = .ok (.istore_n 3, 1) := by decide +kernel
theorem dX0_cellAside_13 : decode cX0_cellAside 13 = .ok (.aload_n 0, 1) := by decide +kernel
theorem dX0_cellAside_14 : decode cX0_cellAside 14 = .ok (.getfield 12, 3) := by decide +kernel
theorem dX0_cellAside_17 : decode cX0_cellAside 17 = .ok (.iload_n 3, 1) := by decide +kernel
theorem dX0_cellAside_18 : decode cX0_cellAside 18 = .ok (.invokevirtual 162, 3) := by decide +kernel
theorem dX0_cellAside_21 : decode cX0_cellAside 21 = .ok (.ifCond .eq 21, 3) := by decide +kernel
theorem dX0_cellAside_24 : decode cX0_cellAside 24 = .ok (.aload_n 0, 1) := by decide +kernel
theorem dX0_cellAside_25 : decode cX0_cellAside 25 = .ok (.iload_n 3, 1) := by decide +kernel
theorem dX0_cellAside_26 : decode cX0_cellAside 26 = .ok (.invokevirtual 128, 3) := by decide +kernel
theorem dX0_cellAside_29 : decode cX0_cellAside 29 = .ok (.ifnonnull 13, 3) := by decide +kernel
theorem dX0_cellAside_32 : decode cX0_cellAside 32 = .ok (.aload_n 0, 1) := by decide +kernel
theorem dX0_cellAside_33 : decode cX0_cellAside 33 = .ok (.iload_n 3, 1) := by decide +kernel
theorem dX0_cellAside_34 : decode cX0_cellAside 34 = .ok (.invokevirtual 150, 3) := by decide +kernel
theorem dX0_cellAside_37 : decode cX0_cellAside 37 = .ok (.ifCond .ne 5, 3) := by decide +kernel
theorem dX0_cellAside_40 : decode cX0_cellAside 40 = .ok (.iload_n 3, 1) := by decide +kernel
theorem dX0_cellAside_41 : decode cX0_cellAside 41 = .ok (.ireturn, 1) := by decide +kernel
theorem dX0_cellAside_42 : decode cX0_cellAside 42 = .ok (.iinc 2 1, 3) := by decide +kernel
theorem dX0_cellAside_45 : decode cX0_cellAside 45 = .ok (.goto (-43), 3) := by decide +kernel
theorem dX0_cellAside_48 : decode cX0_cellAside 48 = .ok (.iconst (-1), 1) := by decide +kernel
theorem dX0_cellAside_49 : decode cX0_cellAside 49 = .ok (.ireturn, 1) := by decide +kernel
theorem dX0_isAskedFor_0 : decode cX0_isAskedFor 0 = .ok (.iconst 0, 1) := by decide +kernel
theorem dX0_isAskedFor_1 : decode cX0_isAskedFor 1 = .ok (.istore_n 2, 1) := by decide +kernel
theorem dX0_isAskedFor_2 : decode cX0_isAskedFor 2 = .ok (.iload_n 2, 1) := by decide +kernel
theorem dX0_isAskedFor_3 : decode cX0_isAskedFor 3 = .ok (.aload_n 0, 1) := by decide +kernel
theorem dX0_isAskedFor_4 : decode cX0_isAskedFor 4 = .ok (.getfield 21, 3) := by decide +kernel
theorem dX0_isAskedFor_7 : decode cX0_isAskedFor 7 = .ok (.invokevirtual 44, 3) := by decide +kernel
theorem dX0_isAskedFor_10 : decode cX0_isAskedFor 10 = .ok (.if_icmp .ge 29, 3) := by decide +kernel
theorem dX0_isAskedFor_13 : decode cX0_isAskedFor 13 = .ok (.aload_n 0, 1) := by decide +kernel
theorem dX0_isAskedFor_14 : decode cX0_isAskedFor 14 = .ok (.getfield 21, 3) := by decide +kernel
theorem dX0_isAskedFor_17 : decode cX0_isAskedFor 17 = .ok (.iload_n 2, 1) := by decide +kernel
theorem dX0_isAskedFor_18 : decode cX0_isAskedFor 18 = .ok (.invokevirtual 48, 3) := by decide +kernel
theorem dX0_isAskedFor_21 : decode cX0_isAskedFor 21 = .ok (.checkcast 52, 3) := by decide +kernel
theorem dX0_isAskedFor_24 : decode cX0_isAskedFor 24 = .ok (.getfield 125, 3) := by decide +kernel
theorem dX0_isAskedFor_27 : decode cX0_isAskedFor 27 = .ok (.iload_n 1, 1) := by decide +kernel
theorem dX0_isAskedFor_28 : decode cX0_isAskedFor 28 = .ok (.if_icmp .ne 5, 3) := by decide +kernel
theorem dX0_isAskedFor_31 : decode cX0_isAskedFor 31 = .ok (.iconst 1, 1) := by decide +kernel
theorem dX0_isAskedFor_32 : decode cX0_isAskedFor 32 = .ok (.ireturn, 1) := by decide +kernel
theorem dX0_isAskedFor_33 : decode cX0_isAskedFor 33 = .ok (.iinc 2 1, 3) := by decide +kernel
theorem dX0_isAskedFor_36 : decode cX0_isAskedFor 36 = .ok (.goto (-34), 3) := by decide +kernel
theorem dX0_isAskedFor_39 : decode cX0_isAskedFor 39 = .ok (.iconst 0, 1) := by decide +kernel
theorem dX0_isAskedFor_40 : decode cX0_isAskedFor 40 = .ok (.ireturn, 1) := by decide +kernel
theorem dX0_moveOn_0 : decode cX0_moveOn 0 = .ok (.aload_n 0, 1) := by decide +kernel
theorem dX0_moveOn_1 : decode cX0_moveOn 1 = .ok (.invokevirtual 165, 3) := by decide +kernel
theorem dX0_moveOn_4 : decode cX0_moveOn 4 = .ok (.iconst 0, 1) := by decide +kernel
theorem dX0_moveOn_5 : decode cX0_moveOn 5 = .ok (.istore_n 1, 1) := by decide +kernel
theorem dX0_moveOn_6 : decode cX0_moveOn 6 = .ok (.iload_n 1, 1) := by decide +kernel
theorem dX0_moveOn_7 : decode cX0_moveOn 7 = .ok (.aload_n 0, 1) := by decide +kernel
theorem dX0_moveOn_8 : decode cX0_moveOn 8 = .ok (.getfield 41, 3) := by decide +kernel
theorem dX0_moveOn_11 : decode cX0_moveOn 11 = .ok (.invokevirtual 44, 3) := by decide +kernel
theorem dX0_moveOn_14 : decode cX0_moveOn 14 = .ok (.if_icmp .ge 41, 3) := by decide +kernel
theorem dX0_moveOn_17 : decode cX0_moveOn 17 = .ok (.aload_n 0, 1) := by decide +kernel
theorem dX0_moveOn_18 : decode cX0_moveOn 18 = .ok (.getfield 41, 3) := by decide +kernel
theorem dX0_moveOn_21 : decode cX0_moveOn 21 = .ok (.iload_n 1, 1) := by decide +kernel
theorem dX0_moveOn_22 : decode cX0_moveOn 22 = .ok (.invokevirtual 48, 3) := by decide +kernel
theorem dX0_moveOn_25 : decode cX0_moveOn 25 = .ok (.checkcast 52, 3) := by decide +kernel
theorem dX0_moveOn_28 : decode cX0_moveOn 28 = .ok (.astore_n 2, 1) := by decide +kernel
theorem dX0_moveOn_29 : decode cX0_moveOn 29 = .ok (.aload_n 0, 1) := by decide +kernel
theorem dX0_moveOn_30 : decode cX0_moveOn 30 = .ok (.aload_n 2, 1) := by decide +kernel
theorem dX0_moveOn_31 : decode cX0_moveOn 31 = .ok (.getfield 125, 3) := by decide +kernel
theorem dX0_moveOn_34 : decode cX0_moveOn 34 = .ok (.invokevirtual 128, 3) := by decide +kernel
theorem dX0_moveOn_37 : decode cX0_moveOn 37 = .ok (.ifnonnull 12, 3) := by decide +kernel
theorem dX0_moveOn_40 : decode cX0_moveOn 40 = .ok (.aload_n 0, 1) := by decide +kernel
theorem dX0_moveOn_41 : decode cX0_moveOn 41 = .ok (.aload_n 2, 1) := by decide +kernel
theorem dX0_moveOn_42 : decode cX0_moveOn 42 = .ok (.aload_n 2, 1) := by decide +kernel
theorem dX0_moveOn_43 : decode cX0_moveOn 43 = .ok (.getfield 125, 3) := by decide +kernel
theorem dX0_moveOn_46 : decode cX0_moveOn 46 = .ok (.invokevirtual 135, 3) := by decide +kernel
theorem dX0_moveOn_49 : decode cX0_moveOn 49 = .ok (.iinc 1 1, 3) := by decide +kernel
theorem dX0_moveOn_52 : decode cX0_moveOn 52 = .ok (.goto (-46), 3) := by decide +kernel
theorem dX0_moveOn_55 : decode cX0_moveOn 55 = .ok (.return_, 1) := by decide +kernel
theorem dX0_lineUpAskers_0 : decode cX0_lineUpAskers 0 = .ok (.aload_n 0, 1) := by decide +kernel
theorem dX0_lineUpAskers_1 : decode cX0_lineUpAskers 1 = .ok (.getfield 41, 3) := by decide +kernel
theorem dX0_lineUpAskers_4 : decode cX0_lineUpAskers 4 = .ok (.invokevirtual 118, 3) := by decide +kernel
theorem dX0_lineUpAskers_7 : decode cX0_lineUpAskers 7 = .ok (.iconst 0, 1) := by decide +kernel
theorem dX0_lineUpAskers_8 : decode cX0_lineUpAskers 8 = .ok (.istore_n 1, 1) := by decide +kernel
theorem dX0_lineUpAskers_9 : decode cX0_lineUpAskers 9 = .ok (.iload_n 1, 1) := by decide +kernel
theorem dX0_lineUpAskers_10 : decode cX0_lineUpAskers 10 = .ok (.aload_n 0, 1) := by decide +kernel
theorem dX0_lineUpAskers_11 : decode cX0_lineUpAskers 11 = .ok (.getfield 21, 3) := by decide +kernel
theorem dX0_lineUpAskers_14 : decode cX0_lineUpAskers 14 = .ok (.invokevirtual 44, 3) := by decide +kernel
theorem dX0_lineUpAskers_17 : decode cX0_lineUpAskers 17 = .ok (.if_icmp .ge 42, 3) := by decide +kernel
theorem dX0_lineUpAskers_20 : decode cX0_lineUpAskers 20 = .ok (.aload_n 0, 1) := by decide +kernel
theorem dX0_lineUpAskers_21 : decode cX0_lineUpAskers 21 = .ok (.getfield 21, 3) := by decide +kernel
theorem dX0_lineUpAskers_24 : decode cX0_lineUpAskers 24 = .ok (.iload_n 1, 1) := by decide +kernel
theorem dX0_lineUpAskers_25 : decode cX0_lineUpAskers 25 = .ok (.invokevirtual 48, 3) := by decide +kernel
theorem dX0_lineUpAskers_28 : decode cX0_lineUpAskers 28 = .ok (.checkcast 52, 3) := by decide +kernel
theorem dX0_lineUpAskers_31 : decode cX0_lineUpAskers 31 = .ok (.astore_n 2, 1) := by decide +kernel
theorem dX0_lineUpAskers_32 : decode cX0_lineUpAskers 32 = .ok (.aload_n 2, 1) := by decide +kernel
theorem dX0_lineUpAskers_33 : decode cX0_lineUpAskers 33 = .ok (.getfield 125, 3) := by decide +kernel
theorem dX0_lineUpAskers_36 : decode cX0_lineUpAskers 36 = .ok (.iconst (-1), 1) := by decide +kernel
theorem dX0_lineUpAskers_37 : decode cX0_lineUpAskers 37 = .ok (.if_icmp .eq 16, 3) := by decide +kernel
theorem dX0_lineUpAskers_40 : decode cX0_lineUpAskers 40 = .ok (.aload_n 0, 1) := by decide +kernel
theorem dX0_lineUpAskers_41 : decode cX0_lineUpAskers 41 = .ok (.getfield 41, 3) := by decide +kernel
theorem dX0_lineUpAskers_44 : decode cX0_lineUpAskers 44 = .ok (.aload_n 0, 1) := by decide +kernel
theorem dX0_lineUpAskers_45 : decode cX0_lineUpAskers 45 = .ok (.aload_n 2, 1) := by decide +kernel
theorem dX0_lineUpAskers_46 : decode cX0_lineUpAskers 46 = .ok (.invokevirtual 168, 3) := by decide +kernel
theorem dX0_lineUpAskers_49 : decode cX0_lineUpAskers 49 = .ok (.aload_n 2, 1) := by decide +kernel
theorem dX0_lineUpAskers_50 : decode cX0_lineUpAskers 50 = .ok (.invokevirtual 171, 3) := by decide +kernel
theorem dX0_lineUpAskers_53 : decode cX0_lineUpAskers 53 = .ok (.iinc 1 1, 3) := by decide +kernel
theorem dX0_lineUpAskers_56 : decode cX0_lineUpAskers 56 = .ok (.goto (-47), 3) := by decide +kernel
theorem dX0_lineUpAskers_59 : decode cX0_lineUpAskers 59 = .ok (.return_, 1) := by decide +kernel
theorem dX0_placeInQueue_0 : decode cX0_placeInQueue 0 = .ok (.iconst 0, 1) := by decide +kernel
theorem dX0_placeInQueue_1 : decode cX0_placeInQueue 1 = .ok (.istore_n 2, 1) := by decide +kernel
theorem dX0_placeInQueue_2 : decode cX0_placeInQueue 2 = .ok (.iload_n 2, 1) := by decide +kernel
theorem dX0_placeInQueue_3 : decode cX0_placeInQueue 3 = .ok (.aload_n 0, 1) := by decide +kernel
theorem dX0_placeInQueue_4 : decode cX0_placeInQueue 4 = .ok (.getfield 41, 3) := by decide +kernel
theorem dX0_placeInQueue_7 : decode cX0_placeInQueue 7 = .ok (.invokevirtual 44, 3) := by decide +kernel
theorem dX0_placeInQueue_10 : decode cX0_placeInQueue 10 = .ok (.if_icmp .ge 27, 3) := by decide +kernel
theorem dX0_placeInQueue_13 : decode cX0_placeInQueue 13 = .ok (.aload_n 0, 1) := by decide +kernel
theorem dX0_placeInQueue_14 : decode cX0_placeInQueue 14 = .ok (.getfield 41, 3) := by decide +kernel
theorem dX0_placeInQueue_17 : decode cX0_placeInQueue 17 = .ok (.iload_n 2, 1) := by decide +kernel
theorem dX0_placeInQueue_18 : decode cX0_placeInQueue 18 = .ok (.invokevirtual 48, 3) := by decide +kernel
theorem dX0_placeInQueue_21 : decode cX0_placeInQueue 21 = .ok (.checkcast 52, 3) := by decide +kernel
theorem dX0_placeInQueue_24 : decode cX0_placeInQueue 24 = .ok (.aload_n 1, 1) := by decide +kernel
theorem dX0_placeInQueue_25 : decode cX0_placeInQueue 25 = .ok (.invokevirtual 174, 3) := by decide +kernel
theorem dX0_placeInQueue_28 : decode cX0_placeInQueue 28 = .ok (.ifCond .eq 9, 3) := by decide +kernel
theorem dX0_placeInQueue_31 : decode cX0_placeInQueue 31 = .ok (.iinc 2 1, 3) := by decide +kernel
theorem dX0_placeInQueue_34 : decode cX0_placeInQueue 34 = .ok (.goto (-32), 3) := by decide +kernel
theorem dX0_placeInQueue_37 : decode cX0_placeInQueue 37 = .ok (.iload_n 2, 1) := by decide +kernel
theorem dX0_placeInQueue_38 : decode cX0_placeInQueue 38 = .ok (.ireturn, 1) := by decide +kernel
theorem dX0_arrive_0 : decode cX0_arrive 0 = .ok (.iconst 0, 1) := by decide +kernel
theorem dX0_arrive_1 : decode cX0_arrive 1 = .ok (.istore_n 1, 1) := by decide +kernel
theorem dX0_arrive_2 : decode cX0_arrive 2 = .ok (.iload_n 1, 1) := by decide +kernel
theorem dX0_arrive_3 : decode cX0_arrive 3 = .ok (.aload_n 0, 1) := by decide +kernel
theorem dX0_arrive_4 : decode cX0_arrive 4 = .ok (.getfield 21, 3) := by decide +kernel
theorem dX0_arrive_7 : decode cX0_arrive 7 = .ok (.invokevirtual 44, 3) := by decide +kernel
theorem dX0_arrive_10 : decode cX0_arrive 10 = .ok (.if_icmp .ge 36, 3) := by decide +kernel
theorem dX0_arrive_13 : decode cX0_arrive 13 = .ok (.aload_n 0, 1) := by decide +kernel
theorem dX0_arrive_14 : decode cX0_arrive 14 = .ok (.getfield 21, 3) := by decide +kernel
theorem dX0_arrive_17 : decode cX0_arrive 17 = .ok (.iload_n 1, 1) := by decide +kernel
theorem dX0_arrive_18 : decode cX0_arrive 18 = .ok (.invokevirtual 48, 3) := by decide +kernel
theorem dX0_arrive_21 : decode cX0_arrive 21 = .ok (.checkcast 52, 3) := by decide +kernel
theorem dX0_arrive_24 : decode cX0_arrive 24 = .ok (.astore_n 2, 1) := by decide +kernel
theorem dX0_arrive_25 : decode cX0_arrive 25 = .ok (.aload_n 2, 1) := by decide +kernel
theorem dX0_arrive_26 : decode cX0_arrive 26 = .ok (.getfield 54, 3) := by decide +kernel
theorem dX0_arrive_29 : decode cX0_arrive 29 = .ok (.aload_n 2, 1) := by decide +kernel
theorem dX0_arrive_30 : decode cX0_arrive 30 = .ok (.invokevirtual 94, 3) := by decide +kernel
theorem dX0_arrive_33 : decode cX0_arrive 33 = .ok (.if_icmp .ne 7, 3) := by decide +kernel
theorem dX0_arrive_36 : decode cX0_arrive 36 = .ok (.aload_n 2, 1) := by decide +kernel
theorem dX0_arrive_37 : decode cX0_arrive 37 = .ok (.invokevirtual 177, 3) := by decide +kernel
theorem dX0_arrive_40 : decode cX0_arrive 40 = .ok (.iinc 1 1, 3) := by decide +kernel
theorem dX0_arrive_43 : decode cX0_arrive 43 = .ok (.goto (-41), 3) := by decide +kernel
theorem dX0_arrive_46 : decode cX0_arrive 46 = .ok (.return_, 1) := by decide +kernel
theorem dX1_init_0 : decode cX1_init 0 = .ok (.aload_n 0, 1) := by decide +kernel
theorem dX1_init_1 : decode cX1_init 1 = .ok (.invokespecial 5, 3) := by decide +kernel
theorem dX1_init_4 : decode cX1_init 4 = .ok (.aload_n 0, 1) := by decide +kernel
theorem dX1_init_5 : decode cX1_init 5 = .ok (.lconst 0, 1) := by decide +kernel
theorem dX1_init_6 : decode cX1_init 6 = .ok (.putfield 11, 3) := by decide +kernel
theorem dX1_init_9 : decode cX1_init 9 = .ok (.aload_n 0, 1) := by decide +kernel
theorem dX1_init_10 : decode cX1_init 10 = .ok (.lconst 0, 1) := by decide +kernel
theorem dX1_init_11 : decode cX1_init 11 = .ok (.putfield 15, 3) := by decide +kernel
theorem dX1_init_14 : decode cX1_init 14 = .ok (.aload_n 0, 1) := by decide +kernel
theorem dX1_init_15 : decode cX1_init 15 = .ok (.lconst 0, 1) := by decide +kernel
theorem dX1_init_16 : decode cX1_init 16 = .ok (.putfield 18, 3) := by decide +kernel
theorem dX1_init_19 : decode cX1_init 19 = .ok (.return_, 1) := by decide +kernel
theorem dX1_setOf_0 : decode cX1_setOf 0 = .ok (.iload_n 0, 1) := by decide +kernel
theorem dX1_setOf_1 : decode cX1_setOf 1 = .ok (.ifCond .lt 15, 3) := by decide +kernel
theorem dX1_setOf_4 : decode cX1_setOf 4 = .ok (.iload_n 0, 1) := by decide +kernel
theorem dX1_setOf_5 : decode cX1_setOf 5 = .ok (.bipush 64, 2) := by decide +kernel
theorem dX1_setOf_7 : decode cX1_setOf 7 = .ok (.if_icmp .ge 9, 3) := by decide +kernel
theorem dX1_setOf_10 : decode cX1_setOf 10 = .ok (.lconst 1, 1) := by decide +kernel
theorem dX1_setOf_11 : decode cX1_setOf 11 = .ok (.iload_n 0, 1) := by decide +kernel
theorem dX1_setOf_12 : decode cX1_setOf 12 = .ok (.lshl, 1) := by decide +kernel
theorem dX1_setOf_13 : decode cX1_setOf 13 = .ok (.goto 4, 3) := by decide +kernel
theorem dX1_setOf_16 : decode cX1_setOf 16 = .ok (.lconst 0, 1) := by decide +kernel
theorem dX1_setOf_17 : decode cX1_setOf 17 = .ok (.lreturn, 1) := by decide +kernel
theorem dX1_isWall_0 : decode cX1_isWall 0 = .ok (.aload_n 0, 1) := by decide +kernel
theorem dX1_isWall_1 : decode cX1_isWall 1 = .ok (.getfield 11, 3) := by decide +kernel
theorem dX1_isWall_4 : decode cX1_isWall 4 = .ok (.iload_n 1, 1) := by decide +kernel
theorem dX1_isWall_5 : decode cX1_isWall 5 = .ok (.invokestatic 21, 3) := by decide +kernel
theorem dX1_isWall_8 : decode cX1_isWall 8 = .ok (.land, 1) := by decide +kernel
theorem dX1_isWall_9 : decode cX1_isWall 9 = .ok (.lconst 0, 1) := by decide +kernel
theorem dX1_isWall_10 : decode cX1_isWall 10 = .ok (.lcmp, 1) := by decide +kernel
theorem dX1_isWall_11 : decode cX1_isWall 11 = .ok (.ifCond .eq 7, 3) := by decide +kernel
theorem dX1_isWall_14 : decode cX1_isWall 14 = .ok (.iconst 1, 1) := by decide +kernel
theorem dX1_isWall_15 : decode cX1_isWall 15 = .ok (.goto 4, 3) := by decide +kernel
theorem dX1_isWall_18 : decode cX1_isWall 18 = .ok (.iconst 0, 1) := by decide +kernel
theorem dX1_isWall_19 : decode cX1_isWall 19 = .ok (.ireturn, 1) := by decide +kernel
theorem dX1_buildWall_0 : decode cX1_buildWall 0 = .ok (.aload_n 0, 1) := by decide +kernel
theorem dX1_buildWall_1 : decode cX1_buildWall 1 = .ok (.dup, 1) := by decide +kernel
theorem dX1_buildWall_2 : decode cX1_buildWall 2 = .ok (.getfield 11, 3) := by decide +kernel
theorem dX1_buildWall_5 : decode cX1_buildWall 5 = .ok (.iload_n 1, 1) := by decide +kernel
theorem dX1_buildWall_6 : decode cX1_buildWall 6 = .ok (.invokestatic 21, 3) := by decide +kernel
theorem dX1_buildWall_9 : decode cX1_buildWall 9 = .ok (.lor, 1) := by decide +kernel
theorem dX1_buildWall_10 : decode cX1_buildWall 10 = .ok (.putfield 11, 3) := by decide +kernel
theorem dX1_buildWall_13 : decode cX1_buildWall 13 = .ok (.return_, 1) := by decide +kernel
theorem dX1_isClosed_0 : decode cX1_isClosed 0 = .ok (.aload_n 0, 1) := by decide +kernel
theorem dX1_isClosed_1 : decode cX1_isClosed 1 = .ok (.getfield 15, 3) := by decide +kernel
theorem dX1_isClosed_4 : decode cX1_isClosed 4 = .ok (.iload_n 1, 1) := by decide +kernel
theorem dX1_isClosed_5 : decode cX1_isClosed 5 = .ok (.invokestatic 21, 3) := by decide +kernel
theorem dX1_isClosed_8 : decode cX1_isClosed 8 = .ok (.land, 1) := by decide +kernel
theorem dX1_isClosed_9 : decode cX1_isClosed 9 = .ok (.lconst 0, 1) := by decide +kernel
theorem dX1_isClosed_10 : decode cX1_isClosed 10 = .ok (.lcmp, 1) := by decide +kernel
theorem dX1_isClosed_11 : decode cX1_isClosed 11 = .ok (.ifCond .eq 7, 3) := by decide +kernel
theorem dX1_isClosed_14 : decode cX1_isClosed 14 = .ok (.iconst 1, 1) := by decide +kernel
theorem dX1_isClosed_15 : decode cX1_isClosed 15 = .ok (.goto 4, 3) := by decide +kernel
theorem dX1_isClosed_18 : decode cX1_isClosed 18 = .ok (.iconst 0, 1) := by decide +kernel
theorem dX1_isClosed_19 : decode cX1_isClosed 19 = .ok (.ireturn, 1) := by decide +kernel
theorem dX1_markClosed_0 : decode cX1_markClosed 0 = .ok (.aload_n 0, 1) := by decide +kernel
theorem dX1_markClosed_1 : decode cX1_markClosed 1 = .ok (.iload_n 2, 1) := by decide +kernel
theorem dX1_markClosed_2 : decode cX1_markClosed 2 = .ok (.ifCond .eq 15, 3) := by decide +kernel
theorem dX1_markClosed_5 : decode cX1_markClosed 5 = .ok (.aload_n 0, 1) := by decide +kernel
theorem dX1_markClosed_6 : decode cX1_markClosed 6 = .ok (.getfield 15, 3) := by decide +kernel
theorem dX1_markClosed_9 : decode cX1_markClosed 9 = .ok (.iload_n 1, 1) := by decide +kernel
theorem dX1_markClosed_10 : decode cX1_markClosed 10 = .ok (.invokestatic 21, 3) := by decide +kernel
theorem dX1_markClosed_13 : decode cX1_markClosed 13 = .ok (.lor, 1) := by decide +kernel
theorem dX1_markClosed_14 : decode cX1_markClosed 14 = .ok (.goto 16, 3) := by decide +kernel
theorem dX1_markClosed_17 : decode cX1_markClosed 17 = .ok (.aload_n 0, 1) := by decide +kernel
theorem dX1_markClosed_18 : decode cX1_markClosed 18 = .ok (.getfield 15, 3) := by decide +kernel
theorem dX1_markClosed_21 : decode cX1_markClosed 21 = .ok (.iload_n 1, 1) := by decide +kernel
theorem dX1_markClosed_22 : decode cX1_markClosed 22 = .ok (.invokestatic 21, 3) := by decide +kernel
theorem dX1_markClosed_25 : decode cX1_markClosed 25 = .ok (.ldc2_w 25, 3) := by decide +kernel
theorem dX1_markClosed_28 : decode cX1_markClosed 28 = .ok (.lxor, 1) := by decide +kernel
theorem dX1_markClosed_29 : decode cX1_markClosed 29 = .ok (.land, 1) := by decide +kernel
theorem dX1_markClosed_30 : decode cX1_markClosed 30 = .ok (.putfield 15, 3) := by decide +kernel
theorem dX1_markClosed_33 : decode cX1_markClosed 33 = .ok (.return_, 1) := by decide +kernel
theorem dX1_markDead_0 : decode cX1_markDead 0 = .ok (.aload_n 0, 1) := by decide +kernel
theorem dX1_markDead_1 : decode cX1_markDead 1 = .ok (.iload_n 2, 1) := by decide +kernel
theorem dX1_markDead_2 : decode cX1_markDead 2 = .ok (.ifCond .eq 15, 3) := by decide +kernel
theorem dX1_markDead_5 : decode cX1_markDead 5 = .ok (.aload_n 0, 1) := by decide +kernel
theorem dX1_markDead_6 : decode cX1_markDead 6 = .ok (.getfield 18, 3) := by decide +kernel
theorem dX1_markDead_9 : decode cX1_markDead 9 = .ok (.iload_n 1, 1) := by decide +kernel
theorem dX1_markDead_10 : decode cX1_markDead 10 = .ok (.invokestatic 21, 3) := by decide +kernel
theorem dX1_markDead_13 : decode cX1_markDead 13 = .ok (.lor, 1) := by decide +kernel
theorem dX1_markDead_14 : decode cX1_markDead 14 = .ok (.goto 16, 3) := by decide +kernel
theorem dX1_markDead_17 : decode cX1_markDead 17 = .ok (.aload_n 0, 1) := by decide +kernel
theorem dX1_markDead_18 : decode cX1_markDead 18 = .ok (.getfield 18, 3) := by decide +kernel
theorem dX1_markDead_21 : decode cX1_markDead 21 = .ok (.iload_n 1, 1) := by decide +kernel
theorem dX1_markDead_22 : decode cX1_markDead 22 = .ok (.invokestatic 21, 3) := by decide +kernel
theorem dX1_markDead_25 : decode cX1_markDead 25 = .ok (.ldc2_w 25, 3) := by decide +kernel
theorem dX1_markDead_28 : decode cX1_markDead 28 = .ok (.lxor, 1) := by decide +kernel
theorem dX1_markDead_29 : decode cX1_markDead 29 = .ok (.land, 1) := by decide +kernel
theorem dX1_markDead_30 : decode cX1_markDead 30 = .ok (.putfield 18, 3) := by decide +kernel
theorem dX1_markDead_33 : decode cX1_markDead 33 = .ok (.return_, 1) := by decide +kernel
theorem dX1_openCells_0 : decode cX1_openCells 0 = .ok (.aload_n 0, 1) := by decide +kernel
theorem dX1_openCells_1 : decode cX1_openCells 1 = .ok (.getfield 11, 3) := by decide +kernel
theorem dX1_openCells_4 : decode cX1_openCells 4 = .ok (.aload_n 0, 1) := by decide +kernel
theorem dX1_openCells_5 : decode cX1_openCells 5 = .ok (.getfield 15, 3) := by decide +kernel
theorem dX1_openCells_8 : decode cX1_openCells 8 = .ok (.lor, 1) := by decide +kernel
theorem dX1_openCells_9 : decode cX1_openCells 9 = .ok (.aload_n 0, 1) := by decide +kernel
theorem dX1_openCells_10 : decode cX1_openCells 10 = .ok (.getfield 18, 3) := by decide +kernel
theorem dX1_openCells_13 : decode cX1_openCells 13 = .ok (.lor, 1) := by decide +kernel
theorem dX1_openCells_14 : decode cX1_openCells 14 = .ok (.ldc2_w 25, 3) := by decide +kernel
theorem dX1_openCells_17 : decode cX1_openCells 17 = .ok (.lxor, 1) := by decide +kernel
theorem dX1_openCells_18 : decode cX1_openCells 18 = .ok (.lreturn, 1) := by decide +kernel
theorem dX1_isOpen_0 : decode cX1_isOpen 0 = .ok (.aload_n 0, 1) := by decide +kernel
theorem dX1_isOpen_1 : decode cX1_isOpen 1 = .ok (.invokevirtual 27, 3) := by decide +kernel
theorem dX1_isOpen_4 : decode cX1_isOpen 4 = .ok (.iload_n 1, 1) := by decide +kernel
theorem dX1_isOpen_5 : decode cX1_isOpen 5 = .ok (.invokestatic 21, 3) := by decide +kernel
theorem dX1_isOpen_8 : decode cX1_isOpen 8 = .ok (.land, 1) := by decide +kernel
theorem dX1_isOpen_9 : decode cX1_isOpen 9 = .ok (.lconst 0, 1) := by decide +kernel
theorem dX1_isOpen_10 : decode cX1_isOpen 10 = .ok (.lcmp, 1) := by decide +kernel
theorem dX1_isOpen_11 : decode cX1_isOpen 11 = .ok (.ifCond .eq 7, 3) := by decide +kernel
theorem dX1_isOpen_14 : decode cX1_isOpen 14 = .ok (.iconst 1, 1) := by decide +kernel
theorem dX1_isOpen_15 : decode cX1_isOpen 15 = .ok (.goto 4, 3) := by decide +kernel
theorem dX1_isOpen_18 : decode cX1_isOpen 18 = .ok (.iconst 0, 1) := by decide +kernel
theorem dX1_isOpen_19 : decode cX1_isOpen 19 = .ok (.ireturn, 1) := by decide +kernel
theorem dX1_neighbour_0 : decode cX1_neighbour 0 = .ok (.iload_n 0, 1) := by decide +kernel
theorem dX1_neighbour_1 : decode cX1_neighbour 1 = .ok (.bipush 8, 2) := by decide +kernel
theorem dX1_neighbour_3 : decode cX1_neighbour 3 = .ok (.irem, 1) := by decide +kernel
theorem dX1_neighbour_4 : decode cX1_neighbour 4 = .ok (.istore_n 2, 1) := by decide +kernel
theorem dX1_neighbour_5 : decode cX1_neighbour 5 = .ok (.iload_n 1, 1) := by decide +kernel
theorem dX1_neighbour_6 : decode cX1_neighbour 6 = .ok (.tableswitch 67 0 2 #[26, 41, 53], 26) := by decide +kernel
theorem dX1_neighbour_32 : decode cX1_neighbour 32 = .ok (.iload_n 0, 1) := by decide +kernel
theorem dX1_neighbour_33 : decode cX1_neighbour 33 = .ok (.bipush 8, 2) := by decide +kernel
theorem dX1_neighbour_35 : decode cX1_neighbour 35 = .ok (.if_icmp .lt 10, 3) := by decide +kernel
theorem dX1_neighbour_38 : decode cX1_neighbour 38 = .ok (.iload_n 0, 1) := by decide +kernel
theorem dX1_neighbour_39 : decode cX1_neighbour 39 = .ok (.bipush 8, 2) := by decide +kernel
theorem dX1_neighbour_41 : decode cX1_neighbour 41 = .ok (.isub, 1) := by decide +kernel
theorem dX1_neighbour_42 : decode cX1_neighbour 42 = .ok (.goto 4, 3) := by decide +kernel
theorem dX1_neighbour_45 : decode cX1_neighbour 45 = .ok (.iconst (-1), 1) := by decide +kernel
theorem dX1_neighbour_46 : decode cX1_neighbour 46 = .ok (.ireturn, 1) := by decide +kernel
theorem dX1_neighbour_47 : decode cX1_neighbour 47 = .ok (.iload_n 2, 1) := by decide +kernel
theorem dX1_neighbour_48 : decode cX1_neighbour 48 = .ok (.ifCond .le 9, 3) := by decide +kernel
theorem dX1_neighbour_51 : decode cX1_neighbour 51 = .ok (.iload_n 0, 1) := by decide +kernel
theorem dX1_neighbour_52 : decode cX1_neighbour 52 = .ok (.iconst 1, 1) := by decide +kernel
theorem dX1_neighbour_53 : decode cX1_neighbour 53 = .ok (.isub, 1) := by decide +kernel
theorem dX1_neighbour_54 : decode cX1_neighbour 54 = .ok (.goto 4, 3) := by decide +kernel
theorem dX1_neighbour_57 : decode cX1_neighbour 57 = .ok (.iconst (-1), 1) := by decide +kernel
theorem dX1_neighbour_58 : decode cX1_neighbour 58 = .ok (.ireturn, 1) := by decide +kernel
theorem dX1_neighbour_59 : decode cX1_neighbour 59 = .ok (.iload_n 2, 1) := by decide +kernel
theorem dX1_neighbour_60 : decode cX1_neighbour 60 = .ok (.bipush 7, 2) := by decide +kernel
theorem dX1_neighbour_62 : decode cX1_neighbour 62 = .ok (.if_icmp .ge 9, 3) := by decide +kernel
theorem dX1_neighbour_65 : decode cX1_neighbour 65 = .ok (.iload_n 0, 1) := by decide +kernel
theorem dX1_neighbour_66 : decode cX1_neighbour 66 = .ok (.iconst 1, 1) := by decide +kernel
theorem dX1_neighbour_67 : decode cX1_neighbour 67 = .ok (.iadd, 1) := by decide +kernel
theorem dX1_neighbour_68 : decode cX1_neighbour 68 = .ok (.goto 4, 3) := by decide +kernel
theorem dX1_neighbour_71 : decode cX1_neighbour 71 = .ok (.iconst (-1), 1) := by decide +kernel
theorem dX1_neighbour_72 : decode cX1_neighbour 72 = .ok (.ireturn, 1) := by decide +kernel
theorem dX1_neighbour_73 : decode cX1_neighbour 73 = .ok (.iload_n 0, 1) := by decide +kernel
theorem dX1_neighbour_74 : decode cX1_neighbour 74 = .ok (.bipush 56, 2) := by decide +kernel
theorem dX1_neighbour_76 : decode cX1_neighbour 76 = .ok (.if_icmp .ge 10, 3) := by decide +kernel
theorem dX1_neighbour_79 : decode cX1_neighbour 79 = .ok (.iload_n 0, 1) := by decide +kernel
theorem dX1_neighbour_80 : decode cX1_neighbour 80 = .ok (.bipush 8, 2) := by decide +kernel
theorem dX1_neighbour_82 : decode cX1_neighbour 82 = .ok (.iadd, 1) := by decide +kernel
theorem dX1_neighbour_83 : decode cX1_neighbour 83 = .ok (.goto 4, 3) := by decide +kernel
theorem dX1_neighbour_86 : decode cX1_neighbour 86 = .ok (.iconst (-1), 1) := by decide +kernel
theorem dX1_neighbour_87 : decode cX1_neighbour 87 = .ok (.ireturn, 1) := by decide +kernel
theorem dX1_neighboursOf_0 : decode cX1_neighboursOf 0 = .ok (.lload_n 0, 1) := by decide +kernel
theorem dX1_neighboursOf_1 : decode cX1_neighboursOf 1 = .ok (.bipush 8, 2) := by decide +kernel
theorem dX1_neighboursOf_3 : decode cX1_neighboursOf 3 = .ok (.lshl, 1) := by decide +kernel
theorem dX1_neighboursOf_4 : decode cX1_neighboursOf 4 = .ok (.lload_n 0, 1) := by decide +kernel
theorem dX1_neighboursOf_5 : decode cX1_neighboursOf 5 = .ok (.bipush 8, 2) := by decide +kernel
theorem dX1_neighboursOf_7 : decode cX1_neighboursOf 7 = .ok (.lushr, 1) := by decide +kernel
theorem dX1_neighboursOf_8 : decode cX1_neighboursOf 8 = .ok (.lor, 1) := by decide +kernel
theorem dX1_neighboursOf_9 : decode cX1_neighboursOf 9 = .ok (.lload_n 0, 1) := by decide +kernel
theorem dX1_neighboursOf_10 : decode cX1_neighboursOf 10 = .ok (.ldc2_w 31, 3) := by decide +kernel
theorem dX1_neighboursOf_13 : decode cX1_neighboursOf 13 = .ok (.land, 1) := by decide +kernel
theorem dX1_neighboursOf_14 : decode cX1_neighboursOf 14 = .ok (.iconst 1, 1) := by decide +kernel
theorem dX1_neighboursOf_15 : decode cX1_neighboursOf 15 = .ok (.lshl, 1) := by decide +kernel
theorem dX1_neighboursOf_16 : decode cX1_neighboursOf 16 = .ok (.lor, 1) := by decide +kernel
theorem dX1_neighboursOf_17 : decode cX1_neighboursOf 17 = .ok (.lload_n 0, 1) := by decide +kernel
theorem dX1_neighboursOf_18 : decode cX1_neighboursOf 18 = .ok (.ldc2_w 33, 3) := by decide +kernel
theorem dX1_neighboursOf_21 : decode cX1_neighboursOf 21 = .ok (.land, 1) := by decide +kernel
theorem dX1_neighboursOf_22 : decode cX1_neighboursOf 22 = .ok (.iconst 1, 1) := by decide +kernel
theorem dX1_neighboursOf_23 : decode cX1_neighboursOf 23 = .ok (.lushr, 1) := by decide +kernel
theorem dX1_neighboursOf_24 : decode cX1_neighboursOf 24 = .ok (.lor, 1) := by decide +kernel
theorem dX1_neighboursOf_25 : decode cX1_neighboursOf 25 = .ok (.lreturn, 1) := by decide +kernel
theorem dX1_stepsBetween_0 : decode cX1_stepsBetween 0 = .ok (.iload_n 1, 1) := by decide +kernel
theorem dX1_stepsBetween_1 : decode cX1_stepsBetween 1 = .ok (.iload_n 2, 1) := by decide +kernel
theorem dX1_stepsBetween_2 : decode cX1_stepsBetween 2 = .ok (.if_icmp .ne 5, 3) := by decide +kernel
theorem dX1_stepsBetween_5 : decode cX1_stepsBetween 5 = .ok (.iconst 0, 1) := by decide +kernel
theorem dX1_stepsBetween_6 : decode cX1_stepsBetween 6 = .ok (.ireturn, 1) := by decide +kernel
theorem dX1_stepsBetween_7 : decode cX1_stepsBetween 7 = .ok (.aload_n 0, 1) := by decide +kernel
theorem dX1_stepsBetween_8 : decode cX1_stepsBetween 8 = .ok (.invokevirtual 27, 3) := by decide +kernel
theorem dX1_stepsBetween_11 : decode cX1_stepsBetween 11 = .ok (.iload_n 3, 1) := by decide +kernel
theorem dX1_stepsBetween_12 : decode cX1_stepsBetween 12 = .ok (.invokestatic 21, 3) := by decide +kernel
theorem dX1_stepsBetween_15 : decode cX1_stepsBetween 15 = .ok (.ldc2_w 25, 3) := by decide +kernel
theorem dX1_stepsBetween_18 : decode cX1_stepsBetween 18 = .ok (.lxor, 1) := by decide +kernel
theorem dX1_stepsBetween_19 : decode cX1_stepsBetween 19 = .ok (.land, 1) := by decide +kernel
theorem dX1_stepsBetween_20 : decode cX1_stepsBetween 20 = .ok (.lstore 4, 2) := by decide +kernel
theorem dX1_stepsBetween_22 : decode cX1_stepsBetween 22 = .ok (.lload 4, 2) := by decide +kernel
theorem dX1_stepsBetween_24 : decode cX1_stepsBetween 24 = .ok (.iload_n 2, 1) := by decide +kernel
theorem dX1_stepsBetween_25 : decode cX1_stepsBetween 25 = .ok (.invokestatic 21, 3) := by decide +kernel
theorem dX1_stepsBetween_28 : decode cX1_stepsBetween 28 = .ok (.land, 1) := by decide +kernel
theorem dX1_stepsBetween_29 : decode cX1_stepsBetween 29 = .ok (.lstore 6, 2) := by decide +kernel
theorem dX1_stepsBetween_31 : decode cX1_stepsBetween 31 = .ok (.iload_n 1, 1) := by decide +kernel
theorem dX1_stepsBetween_32 : decode cX1_stepsBetween 32 = .ok (.invokestatic 21, 3) := by decide +kernel
theorem dX1_stepsBetween_35 : decode cX1_stepsBetween 35 = .ok (.lstore 8, 2) := by decide +kernel
theorem dX1_stepsBetween_37 : decode cX1_stepsBetween 37 = .ok (.iconst 1, 1) := by decide +kernel
theorem dX1_stepsBetween_38 : decode cX1_stepsBetween 38 = .ok (.istore 10, 2) := by decide +kernel
theorem dX1_stepsBetween_40 : decode cX1_stepsBetween 40 = .ok (.iload 10, 2) := by decide +kernel
theorem dX1_stepsBetween_42 : decode cX1_stepsBetween 42 = .ok (.bipush 64, 2) := by decide +kernel
theorem dX1_stepsBetween_44 : decode cX1_stepsBetween 44 = .ok (.if_icmp .ge 56, 3) := by decide +kernel
theorem dX1_stepsBetween_47 : decode cX1_stepsBetween 47 = .ok (.lload 6, 2) := by decide +kernel
theorem dX1_stepsBetween_49 : decode cX1_stepsBetween 49 = .ok (.lconst 0, 1) := by decide +kernel
theorem dX1_stepsBetween_50 : decode cX1_stepsBetween 50 = .ok (.lcmp, 1) := by decide +kernel
theorem dX1_stepsBetween_51 : decode cX1_stepsBetween 51 = .ok (.ifCond .eq 49, 3) := by decide +kernel
theorem dX1_stepsBetween_54 : decode cX1_stepsBetween 54 = .ok (.lload 8, 2) := by decide +kernel
theorem dX1_stepsBetween_56 : decode cX1_stepsBetween 56 = .ok (.lload 8, 2) := by decide +kernel
theorem dX1_stepsBetween_58 : decode cX1_stepsBetween 58 = .ok (.invokestatic 35, 3) := by decide +kernel
theorem dX1_stepsBetween_61 : decode cX1_stepsBetween 61 = .ok (.lload 4, 2) := by decide +kernel
theorem dX1_stepsBetween_63 : decode cX1_stepsBetween 63 = .ok (.land, 1) := by decide +kernel
theorem dX1_stepsBetween_64 : decode cX1_stepsBetween 64 = .ok (.lor, 1) := by decide +kernel
theorem dX1_stepsBetween_65 : decode cX1_stepsBetween 65 = .ok (.lstore 11, 2) := by decide +kernel
theorem dX1_stepsBetween_67 : decode cX1_stepsBetween 67 = .ok (.lload 11, 2) := by decide +kernel
theorem dX1_stepsBetween_69 : decode cX1_stepsBetween 69 = .ok (.lload 6, 2) := by decide +kernel
theorem dX1_stepsBetween_71 : decode cX1_stepsBetween 71 = .ok (.land, 1) := by decide +kernel
theorem dX1_stepsBetween_72 : decode cX1_stepsBetween 72 = .ok (.lconst 0, 1) := by decide +kernel
theorem dX1_stepsBetween_73 : decode cX1_stepsBetween 73 = .ok (.lcmp, 1) := by decide +kernel
theorem dX1_stepsBetween_74 : decode cX1_stepsBetween 74 = .ok (.ifCond .eq 6, 3) := by decide +kernel
theorem dX1_stepsBetween_77 : decode cX1_stepsBetween 77 = .ok (.iload 10, 2) := by decide +kernel
theorem dX1_stepsBetween_79 : decode cX1_stepsBetween 79 = .ok (.ireturn, 1) := by decide +kernel
theorem dX1_stepsBetween_80 : decode cX1_stepsBetween 80 = .ok (.lload 11, 2) := by decide +kernel
theorem dX1_stepsBetween_82 : decode cX1_stepsBetween 82 = .ok (.lload 8, 2) := by decide +kernel
theorem dX1_stepsBetween_84 : decode cX1_stepsBetween 84 = .ok (.lcmp, 1) := by decide +kernel
theorem dX1_stepsBetween_85 : decode cX1_stepsBetween 85 = .ok (.ifCond .ne 5, 3) := by decide +kernel
theorem dX1_stepsBetween_88 : decode cX1_stepsBetween 88 = .ok (.iconst (-1), 1) := by decide +kernel
theorem dX1_stepsBetween_89 : decode cX1_stepsBetween 89 = .ok (.ireturn, 1) := by decide +kernel
theorem dX1_stepsBetween_90 : decode cX1_stepsBetween 90 = .ok (.lload 11, 2) := by decide +kernel
theorem dX1_stepsBetween_92 : decode cX1_stepsBetween 92 = .ok (.lstore 8, 2) := by decide +kernel
theorem dX1_stepsBetween_94 : decode cX1_stepsBetween 94 = .ok (.iinc 10 1, 3) := by decide +kernel
theorem dX1_stepsBetween_97 : decode cX1_stepsBetween 97 = .ok (.goto (-57), 3) := by decide +kernel
theorem dX1_stepsBetween_100 : decode cX1_stepsBetween 100 = .ok (.iconst (-1), 1) := by decide +kernel
theorem dX1_stepsBetween_101 : decode cX1_stepsBetween 101 = .ok (.ireturn, 1) := by decide +kernel
theorem dX1_nextCell_0 : decode cX1_nextCell 0 = .ok (.iconst (-1), 1) := by decide +kernel
theorem dX1_nextCell_1 : decode cX1_nextCell 1 = .ok (.istore 4, 2) := by decide +kernel
theorem dX1_nextCell_3 : decode cX1_nextCell 3 = .ok (.bipush 64, 2) := by decide +kernel
theorem dX1_nextCell_5 : decode cX1_nextCell 5 = .ok (.istore 5, 2) := by decide +kernel
theorem dX1_nextCell_7 : decode cX1_nextCell 7 = .ok (.iconst 0, 1) := by decide +kernel
theorem dX1_nextCell_8 : decode cX1_nextCell 8 = .ok (.istore 6, 2) := by decide +kernel
theorem dX1_nextCell_10 : decode cX1_nextCell 10 = .ok (.iload 6, 2) := by decide +kernel
theorem dX1_nextCell_12 : decode cX1_nextCell 12 = .ok (.iconst 4, 1) := by decide +kernel
theorem dX1_nextCell_13 : decode cX1_nextCell 13 = .ok (.if_icmp .ge 63, 3) := by decide +kernel
theorem dX1_nextCell_16 : decode cX1_nextCell 16 = .ok (.iload_n 1, 1) := by decide +kernel
theorem dX1_nextCell_17 : decode cX1_nextCell 17 = .ok (.iload 6, 2) := by decide +kernel
theorem dX1_nextCell_19 : decode cX1_nextCell 19 = .ok (.invokestatic 39, 3) := by decide +kernel
theorem dX1_nextCell_22 : decode cX1_nextCell 22 = .ok (.istore 7, 2) := by decide +kernel
theorem dX1_nextCell_24 : decode cX1_nextCell 24 = .ok (.aload_n 0, 1) := by decide +kernel
theorem dX1_nextCell_25 : decode cX1_nextCell 25 = .ok (.iload 7, 2) := by decide +kernel
theorem dX1_nextCell_27 : decode cX1_nextCell 27 = .ok (.invokevirtual 43, 3) := by decide +kernel
theorem dX1_nextCell_30 : decode cX1_nextCell 30 = .ok (.ifCond .eq 40, 3) := by decide +kernel
theorem dX1_nextCell_33 : decode cX1_nextCell 33 = .ok (.iload 7, 2) := by decide +kernel
theorem dX1_nextCell_35 : decode cX1_nextCell 35 = .ok (.iload_n 3, 1) := by decide +kernel
theorem dX1_nextCell_36 : decode cX1_nextCell 36 = .ok (.if_icmp .eq 34, 3) := by decide +kernel
theorem dX1_nextCell_39 : decode cX1_nextCell 39 = .ok (.aload_n 0, 1) := by decide +kernel
theorem dX1_nextCell_40 : decode cX1_nextCell 40 = .ok (.iload 7, 2) := by decide +kernel
theorem dX1_nextCell_42 : decode cX1_nextCell 42 = .ok (.iload_n 2, 1) := by decide +kernel
theorem dX1_nextCell_43 : decode cX1_nextCell 43 = .ok (.iload_n 3, 1) := by decide +kernel
theorem dX1_nextCell_44 : decode cX1_nextCell 44 = .ok (.invokevirtual 47, 3) := by decide +kernel
theorem dX1_nextCell_47 : decode cX1_nextCell 47 = .ok (.istore 8, 2) := by decide +kernel
theorem dX1_nextCell_49 : decode cX1_nextCell 49 = .ok (.iload 8, 2) := by decide +kernel
theorem dX1_nextCell_51 : decode cX1_nextCell 51 = .ok (.iconst (-1), 1) := by decide +kernel
theorem dX1_nextCell_52 : decode cX1_nextCell 52 = .ok (.if_icmp .eq 18, 3) := by decide +kernel
theorem dX1_nextCell_55 : decode cX1_nextCell 55 = .ok (.iload 8, 2) := by decide +kernel
theorem dX1_nextCell_57 : decode cX1_nextCell 57 = .ok (.iload 5, 2) := by decide +kernel
theorem dX1_nextCell_59 : decode cX1_nextCell 59 = .ok (.if_icmp .ge 11, 3) := by decide +kernel
theorem dX1_nextCell_62 : decode cX1_nextCell 62 = .ok (.iload 7, 2) := by decide +kernel
theorem dX1_nextCell_64 : decode cX1_nextCell 64 = .ok (.istore 4, 2) := by decide +kernel
theorem dX1_nextCell_66 : decode cX1_nextCell 66 = .ok (.iload 8, 2) := by decide +kernel
theorem dX1_nextCell_68 : decode cX1_nextCell 68 = .ok (.istore 5, 2) := by decide +kernel
theorem dX1_nextCell_70 : decode cX1_nextCell 70 = .ok (.iinc 6 1, 3) := by decide +kernel
theorem dX1_nextCell_73 : decode cX1_nextCell 73 = .ok (.goto (-63), 3) := by decide +kernel
theorem dX1_nextCell_76 : decode cX1_nextCell 76 = .ok (.iload 4, 2) := by decide +kernel
theorem dX1_nextCell_78 : decode cX1_nextCell 78 = .ok (.ireturn, 1) := by decide +kernel
theorem dX2_init_0 : decode cX2_init 0 = .ok (.aload_n 0, 1) := by decide +kernel
theorem dX2_init_1 : decode cX2_init 1 = .ok (.invokespecial 1, 3) := by decide +kernel
theorem dX2_init_4 : decode cX2_init 4 = .ok (.aload_n 0, 1) := by decide +kernel
theorem dX2_init_5 : decode cX2_init 5 = .ok (.aconst_null, 1) := by decide +kernel
theorem dX2_init_6 : decode cX2_init 6 = .ok (.putfield 7, 3) := by decide +kernel
theorem dX2_init_9 : decode cX2_init 9 = .ok (.aload_n 0, 1) := by decide +kernel
theorem dX2_init_10 : decode cX2_init 10 = .ok (.aload_n 1, 1) := by decide +kernel
theorem dX2_init_11 : decode cX2_init 11 = .ok (.putfield 13, 3) := by decide +kernel
theorem dX2_init_14 : decode cX2_init 14 = .ok (.aload_n 0, 1) := by decide +kernel
theorem dX2_init_15 : decode cX2_init 15 = .ok (.iload_n 2, 1) := by decide +kernel
theorem dX2_init_16 : decode cX2_init 16 = .ok (.putfield 17, 3) := by decide +kernel
theorem dX2_init_19 : decode cX2_init 19 = .ok (.aload_n 0, 1) := by decide +kernel
theorem dX2_init_20 : decode cX2_init 20 = .ok (.iload_n 3, 1) := by decide +kernel
theorem dX2_init_21 : decode cX2_init 21 = .ok (.putfield 21, 3) := by decide +kernel
theorem dX2_init_24 : decode cX2_init 24 = .ok (.return_, 1) := by decide +kernel
theorem dX3_init_0 : decode cX3_init 0 = .ok (.aload_n 0, 1) := by decide +kernel
theorem dX3_init_1 : decode cX3_init 1 = .ok (.invokespecial 1, 3) := by decide +kernel
theorem dX3_init_4 : decode cX3_init 4 = .ok (.aload_n 0, 1) := by decide +kernel
theorem dX3_init_5 : decode cX3_init 5 = .ok (.new 7, 3) := by decide +kernel
theorem dX3_init_8 : decode cX3_init 8 = .ok (.dup, 1) := by decide +kernel
theorem dX3_init_9 : decode cX3_init 9 = .ok (.invokespecial 9, 3) := by decide +kernel
theorem dX3_init_12 : decode cX3_init 12 = .ok (.putfield 10, 3) := by decide +kernel
theorem dX3_init_15 : decode cX3_init 15 = .ok (.aload_n 0, 1) := by decide +kernel
theorem dX3_init_16 : decode cX3_init 16 = .ok (.iload_n 1, 1) := by decide +kernel
theorem dX3_init_17 : decode cX3_init 17 = .ok (.putfield 16, 3) := by decide +kernel
theorem dX3_init_20 : decode cX3_init 20 = .ok (.return_, 1) := by decide +kernel
theorem dX4_init_0 : decode cX4_init 0 = .ok (.aload_n 0, 1) := by decide +kernel
theorem dX4_init_1 : decode cX4_init 1 = .ok (.invokespecial 1, 3) := by decide +kernel
theorem dX4_init_4 : decode cX4_init 4 = .ok (.aload_n 0, 1) := by decide +kernel
theorem dX4_init_5 : decode cX4_init 5 = .ok (.aload_n 1, 1) := by decide +kernel
theorem dX4_init_6 : decode cX4_init 6 = .ok (.putfield 7, 3) := by decide +kernel
theorem dX4_init_9 : decode cX4_init 9 = .ok (.aload_n 0, 1) := by decide +kernel
theorem dX4_init_10 : decode cX4_init 10 = .ok (.aload_n 2, 1) := by decide +kernel
theorem dX4_init_11 : decode cX4_init 11 = .ok (.putfield 13, 3) := by decide +kernel
theorem dX4_init_14 : decode cX4_init 14 = .ok (.aload_n 0, 1) := by decide +kernel
theorem dX4_init_15 : decode cX4_init 15 = .ok (.iload_n 3, 1) := by decide +kernel
theorem dX4_init_16 : decode cX4_init 16 = .ok (.putfield 17, 3) := by decide +kernel
theorem dX4_init_19 : decode cX4_init 19 = .ok (.return_, 1) := by decide +kernel
theorem dX5_init_0 : decode cX5_init 0 = .ok (.aload_n 0, 1) := by decide +kernel
theorem dX5_init_1 : decode cX5_init 1 = .ok (.invokespecial 3, 3) := by decide +kernel
theorem dX5_init_4 : decode cX5_init 4 = .ok (.aload_n 0, 1) := by decide +kernel
theorem dX5_init_5 : decode cX5_init 5 = .ok (.iconst 0, 1) := by decide +kernel
theorem dX5_init_6 : decode cX5_init 6 = .ok (.putfield 9, 3) := by decide +kernel
theorem dX5_init_9 : decode cX5_init 9 = .ok (.aload_n 0, 1) := by decide +kernel
theorem dX5_init_10 : decode cX5_init 10 = .ok (.aconst_null, 1) := by decide +kernel
theorem dX5_init_11 : decode cX5_init 11 = .ok (.putfield 15, 3) := by decide +kernel
theorem dX5_init_14 : decode cX5_init 14 = .ok (.aload_n 0, 1) := by decide +kernel
theorem dX5_init_15 : decode cX5_init 15 = .ok (.aconst_null, 1) := by decide +kernel
theorem dX5_init_16 : decode cX5_init 16 = .ok (.putfield 19, 3) := by decide +kernel
theorem dX5_init_19 : decode cX5_init 19 = .ok (.aload_n 0, 1) := by decide +kernel
theorem dX5_init_20 : decode cX5_init 20 = .ok (.iconst (-1), 1) := by decide +kernel
theorem dX5_init_21 : decode cX5_init 21 = .ok (.putfield 23, 3) := by decide +kernel
theorem dX5_init_24 : decode cX5_init 24 = .ok (.aload_n 0, 1) := by decide +kernel
theorem dX5_init_25 : decode cX5_init 25 = .ok (.iconst 0, 1) := by decide +kernel
theorem dX5_init_26 : decode cX5_init 26 = .ok (.putfield 26, 3) := by decide +kernel
theorem dX5_init_29 : decode cX5_init 29 = .ok (.aload_n 0, 1) := by decide +kernel
theorem dX5_init_30 : decode cX5_init 30 = .ok (.iconst (-1), 1) := by decide +kernel
theorem dX5_init_31 : decode cX5_init 31 = .ok (.putfield 29, 3) := by decide +kernel
theorem dX5_init_34 : decode cX5_init 34 = .ok (.aload_n 0, 1) := by decide +kernel
theorem dX5_init_35 : decode cX5_init 35 = .ok (.iload_n 1, 1) := by decide +kernel
theorem dX5_init_36 : decode cX5_init 36 = .ok (.putfield 32, 3) := by decide +kernel
theorem dX5_init_39 : decode cX5_init 39 = .ok (.aload_n 0, 1) := by decide +kernel
theorem dX5_init_40 : decode cX5_init 40 = .ok (.iload_n 2, 1) := by decide +kernel
theorem dX5_init_41 : decode cX5_init 41 = .ok (.putfield 35, 3) := by decide +kernel
theorem dX5_init_44 : decode cX5_init 44 = .ok (.aload_n 0, 1) := by decide +kernel
theorem dX5_init_45 : decode cX5_init 45 = .ok (.iload_n 3, 1) := by decide +kernel
theorem dX5_init_46 : decode cX5_init 46 = .ok (.putfield 38, 3) := by decide +kernel
theorem dX5_init_49 : decode cX5_init 49 = .ok (.return_, 1) := by decide +kernel
theorem dX5_isAbove_0 : decode cX5_isAbove 0 = .ok (.aload_n 0, 1) := by decide +kernel
theorem dX5_isAbove_1 : decode cX5_isAbove 1 = .ok (.getfield 38, 3) := by decide +kernel
theorem dX5_isAbove_4 : decode cX5_isAbove 4 = .ok (.aload_n 1, 1) := by decide +kernel
theorem dX5_isAbove_5 : decode cX5_isAbove 5 = .ok (.getfield 38, 3) := by decide +kernel
theorem dX5_isAbove_8 : decode cX5_isAbove 8 = .ok (.if_icmp .gt 25, 3) := by decide +kernel
theorem dX5_isAbove_11 : decode cX5_isAbove 11 = .ok (.aload_n 0, 1) := by decide +kernel
theorem dX5_isAbove_12 : decode cX5_isAbove 12 = .ok (.getfield 38, 3) := by decide +kernel
theorem dX5_isAbove_15 : decode cX5_isAbove 15 = .ok (.aload_n 1, 1) := by decide +kernel
theorem dX5_isAbove_16 : decode cX5_isAbove 16 = .ok (.getfield 38, 3) := by decide +kernel
theorem dX5_isAbove_19 : decode cX5_isAbove 19 = .ok (.if_icmp .ne 18, 3) := by decide +kernel
theorem dX5_isAbove_22 : decode cX5_isAbove 22 = .ok (.aload_n 0, 1) := by decide +kernel
theorem dX5_isAbove_23 : decode cX5_isAbove 23 = .ok (.getfield 32, 3) := by decide +kernel
theorem dX5_isAbove_26 : decode cX5_isAbove 26 = .ok (.aload_n 1, 1) := by decide +kernel
theorem dX5_isAbove_27 : decode cX5_isAbove 27 = .ok (.getfield 32, 3) := by decide +kernel
theorem dX5_isAbove_30 : decode cX5_isAbove 30 = .ok (.if_icmp .ge 7, 3) := by decide +kernel
theorem dX5_isAbove_33 : decode cX5_isAbove 33 = .ok (.iconst 1, 1) := by decide +kernel
theorem dX5_isAbove_34 : decode cX5_isAbove 34 = .ok (.goto 4, 3) := by decide +kernel
theorem dX5_isAbove_37 : decode cX5_isAbove 37 = .ok (.iconst 0, 1) := by decide +kernel
theorem dX5_isAbove_38 : decode cX5_isAbove 38 = .ok (.ireturn, 1) := by decide +kernel
theorem dX5_goesBefore_0 : decode cX5_goesBefore 0 = .ok (.aload_n 0, 1) := by decide +kernel
theorem dX5_goesBefore_1 : decode cX5_goesBefore 1 = .ok (.getfield 26, 3) := by decide +kernel
theorem dX5_goesBefore_4 : decode cX5_goesBefore 4 = .ok (.aload_n 1, 1) := by decide +kernel
theorem dX5_goesBefore_5 : decode cX5_goesBefore 5 = .ok (.getfield 26, 3) := by decide +kernel
theorem dX5_goesBefore_8 : decode cX5_goesBefore 8 = .ok (.if_icmp .lt 22, 3) := by decide +kernel
theorem dX5_goesBefore_11 : decode cX5_goesBefore 11 = .ok (.aload_n 0, 1) := by decide +kernel
theorem dX5_goesBefore_12 : decode cX5_goesBefore 12 = .ok (.getfield 26, 3) := by decide +kernel
theorem dX5_goesBefore_15 : decode cX5_goesBefore 15 = .ok (.aload_n 1, 1) := by decide +kernel
theorem dX5_goesBefore_16 : decode cX5_goesBefore 16 = .ok (.getfield 26, 3) := by decide +kernel
theorem dX5_goesBefore_19 : decode cX5_goesBefore 19 = .ok (.if_icmp .ne 15, 3) := by decide +kernel
theorem dX5_goesBefore_22 : decode cX5_goesBefore 22 = .ok (.aload_n 0, 1) := by decide +kernel
theorem dX5_goesBefore_23 : decode cX5_goesBefore 23 = .ok (.aload_n 1, 1) := by decide +kernel
theorem dX5_goesBefore_24 : decode cX5_goesBefore 24 = .ok (.invokevirtual 41, 3) := by decide +kernel
theorem dX5_goesBefore_27 : decode cX5_goesBefore 27 = .ok (.ifCond .eq 7, 3) := by decide +kernel
theorem dX5_goesBefore_30 : decode cX5_goesBefore 30 = .ok (.iconst 1, 1) := by decide +kernel
theorem dX5_goesBefore_31 : decode cX5_goesBefore 31 = .ok (.goto 4, 3) := by decide +kernel
theorem dX5_goesBefore_34 : decode cX5_goesBefore 34 = .ok (.iconst 0, 1) := by decide +kernel
theorem dX5_goesBefore_35 : decode cX5_goesBefore 35 = .ok (.ireturn, 1) := by decide +kernel
theorem dX5_isOnItsWay_0 : decode cX5_isOnItsWay 0 = .ok (.aload_n 0, 1) := by decide +kernel
theorem dX5_isOnItsWay_1 : decode cX5_isOnItsWay 1 = .ok (.getfield 9, 3) := by decide +kernel
theorem dX5_isOnItsWay_4 : decode cX5_isOnItsWay 4 = .ok (.iconst 1, 1) := by decide +kernel
theorem dX5_isOnItsWay_5 : decode cX5_isOnItsWay 5 = .ok (.if_icmp .eq 19, 3) := by decide +kernel
theorem dX5_isOnItsWay_8 : decode cX5_isOnItsWay 8 = .ok (.aload_n 0, 1) := by decide +kernel
theorem dX5_isOnItsWay_9 : decode cX5_isOnItsWay 9 = .ok (.getfield 9, 3) := by decide +kernel
theorem dX5_isOnItsWay_12 : decode cX5_isOnItsWay 12 = .ok (.iconst 2, 1) := by decide +kernel
theorem dX5_isOnItsWay_13 : decode cX5_isOnItsWay 13 = .ok (.if_icmp .eq 11, 3) := by decide +kernel
theorem dX5_isOnItsWay_16 : decode cX5_isOnItsWay 16 = .ok (.aload_n 0, 1) := by decide +kernel
theorem dX5_isOnItsWay_17 : decode cX5_isOnItsWay 17 = .ok (.getfield 9, 3) := by decide +kernel
theorem dX5_isOnItsWay_20 : decode cX5_isOnItsWay 20 = .ok (.iconst 4, 1) := by decide +kernel
theorem dX5_isOnItsWay_21 : decode cX5_isOnItsWay 21 = .ok (.if_icmp .ne 7, 3) := by decide +kernel
theorem dX5_isOnItsWay_24 : decode cX5_isOnItsWay 24 = .ok (.iconst 1, 1) := by decide +kernel
theorem dX5_isOnItsWay_25 : decode cX5_isOnItsWay 25 = .ok (.goto 4, 3) := by decide +kernel
theorem dX5_isOnItsWay_28 : decode cX5_isOnItsWay 28 = .ok (.iconst 0, 1) := by decide +kernel
theorem dX5_isOnItsWay_29 : decode cX5_isOnItsWay 29 = .ok (.ireturn, 1) := by decide +kernel
theorem dX5_goal_0 : decode cX5_goal 0 = .ok (.aload_n 0, 1) := by decide +kernel
theorem dX5_goal_1 : decode cX5_goal 1 = .ok (.getfield 9, 3) := by decide +kernel
theorem dX5_goal_4 : decode cX5_goal 4 = .ok (.iconst 1, 1) := by decide +kernel
theorem dX5_goal_5 : decode cX5_goal 5 = .ok (.if_icmp .eq 11, 3) := by decide +kernel
theorem dX5_goal_8 : decode cX5_goal 8 = .ok (.aload_n 0, 1) := by decide +kernel
theorem dX5_goal_9 : decode cX5_goal 9 = .ok (.getfield 9, 3) := by decide +kernel
theorem dX5_goal_12 : decode cX5_goal 12 = .ok (.iconst 4, 1) := by decide +kernel
theorem dX5_goal_13 : decode cX5_goal 13 = .ok (.if_icmp .ne 22, 3) := by decide +kernel
theorem dX5_goal_16 : decode cX5_goal 16 = .ok (.aload_n 0, 1) := by decide +kernel
theorem dX5_goal_17 : decode cX5_goal 17 = .ok (.getfield 15, 3) := by decide +kernel
theorem dX5_goal_20 : decode cX5_goal 20 = .ok (.ifnonnull 7, 3) := by decide +kernel
theorem dX5_goal_23 : decode cX5_goal 23 = .ok (.iconst (-1), 1) := by decide +kernel
theorem dX5_goal_24 : decode cX5_goal 24 = .ok (.goto 10, 3) := by decide +kernel
theorem dX5_goal_27 : decode cX5_goal 27 = .ok (.aload_n 0, 1) := by decide +kernel
theorem dX5_goal_28 : decode cX5_goal 28 = .ok (.getfield 15, 3) := by decide +kernel
theorem dX5_goal_31 : decode cX5_goal 31 = .ok (.getfield 45, 3) := by decide +kernel
theorem dX5_goal_34 : decode cX5_goal 34 = .ok (.ireturn, 1) := by decide +kernel
theorem dX5_goal_35 : decode cX5_goal 35 = .ok (.aload_n 0, 1) := by decide +kernel
theorem dX5_goal_36 : decode cX5_goal 36 = .ok (.getfield 19, 3) := by decide +kernel
theorem dX5_goal_39 : decode cX5_goal 39 = .ok (.ifnull 13, 3) := by decide +kernel
theorem dX5_goal_42 : decode cX5_goal 42 = .ok (.aload_n 0, 1) := by decide +kernel
theorem dX5_goal_43 : decode cX5_goal 43 = .ok (.getfield 19, 3) := by decide +kernel
theorem dX5_goal_46 : decode cX5_goal 46 = .ok (.getfield 50, 3) := by decide +kernel
theorem dX5_goal_49 : decode cX5_goal 49 = .ok (.ifnonnull 7, 3) := by decide +kernel
theorem dX5_goal_52 : decode cX5_goal 52 = .ok (.iconst (-1), 1) := by decide +kernel
theorem dX5_goal_53 : decode cX5_goal 53 = .ok (.goto 13, 3) := by decide +kernel
theorem dX5_goal_56 : decode cX5_goal 56 = .ok (.aload_n 0, 1) := by decide +kernel
theorem dX5_goal_57 : decode cX5_goal 57 = .ok (.getfield 19, 3) := by decide +kernel
theorem dX5_goal_60 : decode cX5_goal 60 = .ok (.getfield 50, 3) := by decide +kernel
theorem dX5_goal_63 : decode cX5_goal 63 = .ok (.getfield 56, 3) := by decide +kernel
theorem dX5_goal_66 : decode cX5_goal 66 = .ok (.ireturn, 1) := by decide +kernel
theorem dX5_become_0 : decode cX5_become 0 = .ok (.aload_n 0, 1) := by decide +kernel
theorem dX5_become_1 : decode cX5_become 1 = .ok (.iload_n 1, 1) := by decide +kernel
theorem dX5_become_2 : decode cX5_become 2 = .ok (.putfield 9, 3) := by decide +kernel
theorem dX5_become_5 : decode cX5_become 5 = .ok (.aload_n 0, 1) := by decide +kernel
theorem dX5_become_6 : decode cX5_become 6 = .ok (.invokevirtual 59, 3) := by decide +kernel
theorem dX5_become_9 : decode cX5_become 9 = .ok (.return_, 1) := by decide +kernel
theorem dX5_moveTo_0 : decode cX5_moveTo 0 = .ok (.aload_n 0, 1) := by decide +kernel
theorem dX5_moveTo_1 : decode cX5_moveTo 1 = .ok (.iload_n 1, 1) := by decide +kernel
theorem dX5_moveTo_2 : decode cX5_moveTo 2 = .ok (.putfield 35, 3) := by decide +kernel
theorem dX5_moveTo_5 : decode cX5_moveTo 5 = .ok (.aload_n 0, 1) := by decide +kernel
theorem dX5_moveTo_6 : decode cX5_moveTo 6 = .ok (.invokevirtual 59, 3) := by decide +kernel
theorem dX5_moveTo_9 : decode cX5_moveTo 9 = .ok (.return_, 1) := by decide +kernel
theorem dX5_forgetAsking_0 : decode cX5_forgetAsking 0 = .ok (.aload_n 0, 1) := by decide +kernel
theorem dX5_forgetAsking_1 : decode cX5_forgetAsking 1 = .ok (.iconst (-1), 1) := by decide +kernel
theorem dX5_forgetAsking_2 : decode cX5_forgetAsking 2 = .ok (.putfield 23, 3) := by decide +kernel
theorem dX5_forgetAsking_5 : decode cX5_forgetAsking 5 = .ok (.aload_n 0, 1) := by decide +kernel
theorem dX5_forgetAsking_6 : decode cX5_forgetAsking 6 = .ok (.iconst (-1), 1) := by decide +kernel
theorem dX5_forgetAsking_7 : decode cX5_forgetAsking 7 = .ok (.putfield 29, 3) := by decide +kernel
theorem dX5_forgetAsking_10 : decode cX5_forgetAsking 10 = .ok (.return_, 1) := by decide +kernel
theorem dX5_askFor_0 : decode cX5_askFor 0 = .ok (.iload_n 1, 1) := by decide +kernel
theorem dX5_askFor_1 : decode cX5_askFor 1 = .ok (.aload_n 0, 1) := by decide +kernel
theorem dX5_askFor_2 : decode cX5_askFor 2 = .ok (.getfield 23, 3) := by decide +kernel
theorem dX5_askFor_5 : decode cX5_askFor 5 = .ok (.if_icmp .eq 8, 3) := by decide +kernel
theorem dX5_askFor_8 : decode cX5_askFor 8 = .ok (.aload_n 0, 1) := by decide +kernel
theorem dX5_askFor_9 : decode cX5_askFor 9 = .ok (.iload_n 2, 1) := by decide +kernel
theorem dX5_askFor_10 : decode cX5_askFor 10 = .ok (.putfield 26, 3) := by decide +kernel
theorem dX5_askFor_13 : decode cX5_askFor 13 = .ok (.aload_n 0, 1) := by decide +kernel
theorem dX5_askFor_14 : decode cX5_askFor 14 = .ok (.iload_n 1, 1) := by decide +kernel
theorem dX5_askFor_15 : decode cX5_askFor 15 = .ok (.putfield 23, 3) := by decide +kernel
theorem dX5_askFor_18 : decode cX5_askFor 18 = .ok (.return_, 1) := by decide +kernel
theorem dX5_yieldTo_0 : decode cX5_yieldTo 0 = .ok (.aload_n 0, 1) := by decide +kernel
theorem dX5_yieldTo_1 : decode cX5_yieldTo 1 = .ok (.aload_n 1, 1) := by decide +kernel
theorem dX5_yieldTo_2 : decode cX5_yieldTo 2 = .ok (.getfield 35, 3) := by decide +kernel
theorem dX5_yieldTo_5 : decode cX5_yieldTo 5 = .ok (.putfield 29, 3) := by decide +kernel
theorem dX5_yieldTo_8 : decode cX5_yieldTo 8 = .ok (.aload_n 0, 1) := by decide +kernel
theorem dX5_yieldTo_9 : decode cX5_yieldTo 9 = .ok (.iconst (-1), 1) := by decide +kernel
theorem dX5_yieldTo_10 : decode cX5_yieldTo 10 = .ok (.putfield 23, 3) := by decide +kernel
theorem dX5_yieldTo_13 : decode cX5_yieldTo 13 = .ok (.return_, 1) := by decide +kernel
theorem dX5_fetch_0 : decode cX5_fetch 0 = .ok (.aload_n 0, 1) := by decide +kernel
theorem dX5_fetch_1 : decode cX5_fetch 1 = .ok (.aload_n 1, 1) := by decide +kernel
theorem dX5_fetch_2 : decode cX5_fetch 2 = .ok (.putfield 15, 3) := by decide +kernel
theorem dX5_fetch_5 : decode cX5_fetch 5 = .ok (.aload_n 0, 1) := by decide +kernel
theorem dX5_fetch_6 : decode cX5_fetch 6 = .ok (.aload_n 2, 1) := by decide +kernel
theorem dX5_fetch_7 : decode cX5_fetch 7 = .ok (.putfield 19, 3) := by decide +kernel
theorem dX5_fetch_10 : decode cX5_fetch 10 = .ok (.aload_n 0, 1) := by decide +kernel
theorem dX5_fetch_11 : decode cX5_fetch 11 = .ok (.iconst 1, 1) := by decide +kernel
theorem dX5_fetch_12 : decode cX5_fetch 12 = .ok (.invokevirtual 62, 3) := by decide +kernel
theorem dX5_fetch_15 : decode cX5_fetch 15 = .ok (.return_, 1) := by decide +kernel
theorem dX5_leaveLine_0 : decode cX5_leaveLine 0 = .ok (.aload_n 0, 1) := by decide +kernel
theorem dX5_leaveLine_1 : decode cX5_leaveLine 1 = .ok (.aconst_null, 1) := by decide +kernel
theorem dX5_leaveLine_2 : decode cX5_leaveLine 2 = .ok (.putfield 19, 3) := by decide +kernel
theorem dX5_leaveLine_5 : decode cX5_leaveLine 5 = .ok (.aload_n 0, 1) := by decide +kernel
theorem dX5_leaveLine_6 : decode cX5_leaveLine 6 = .ok (.getfield 9, 3) := by decide +kernel
theorem dX5_leaveLine_9 : decode cX5_leaveLine 9 = .ok (.iconst 1, 1) := by decide +kernel
theorem dX5_leaveLine_10 : decode cX5_leaveLine 10 = .ok (.if_icmp .ne 16, 3) := by decide +kernel
theorem dX5_leaveLine_13 : decode cX5_leaveLine 13 = .ok (.aload_n 0, 1) := by decide +kernel
theorem dX5_leaveLine_14 : decode cX5_leaveLine 14 = .ok (.aconst_null, 1) := by decide +kernel
theorem dX5_leaveLine_15 : decode cX5_leaveLine 15 = .ok (.putfield 15, 3) := by decide +kernel
theorem dX5_leaveLine_18 : decode cX5_leaveLine 18 = .ok (.aload_n 0, 1) := by decide +kernel
theorem dX5_leaveLine_19 : decode cX5_leaveLine 19 = .ok (.iconst 0, 1) := by decide +kernel
theorem dX5_leaveLine_20 : decode cX5_leaveLine 20 = .ok (.invokevirtual 62, 3) := by decide +kernel
theorem dX5_leaveLine_23 : decode cX5_leaveLine 23 = .ok (.goto 8, 3) := by decide +kernel
theorem dX5_leaveLine_26 : decode cX5_leaveLine 26 = .ok (.aload_n 0, 1) := by decide +kernel
theorem dX5_leaveLine_27 : decode cX5_leaveLine 27 = .ok (.iconst 4, 1) := by decide +kernel
theorem dX5_leaveLine_28 : decode cX5_leaveLine 28 = .ok (.invokevirtual 62, 3) := by decide +kernel
theorem dX5_leaveLine_31 : decode cX5_leaveLine 31 = .ok (.return_, 1) := by decide +kernel
theorem dX5_breakDown_0 : decode cX5_breakDown 0 = .ok (.aload_n 0, 1) := by decide +kernel
theorem dX5_breakDown_1 : decode cX5_breakDown 1 = .ok (.aconst_null, 1) := by decide +kernel
theorem dX5_breakDown_2 : decode cX5_breakDown 2 = .ok (.putfield 19, 3) := by decide +kernel
theorem dX5_breakDown_5 : decode cX5_breakDown 5 = .ok (.aload_n 0, 1) := by decide +kernel
theorem dX5_breakDown_6 : decode cX5_breakDown 6 = .ok (.getfield 9, 3) := by decide +kernel
theorem dX5_breakDown_9 : decode cX5_breakDown 9 = .ok (.iconst 1, 1) := by decide +kernel
theorem dX5_breakDown_10 : decode cX5_breakDown 10 = .ok (.if_icmp .ne 8, 3) := by decide +kernel
theorem dX5_breakDown_13 : decode cX5_breakDown 13 = .ok (.aload_n 0, 1) := by decide +kernel
theorem dX5_breakDown_14 : decode cX5_breakDown 14 = .ok (.aconst_null, 1) := by decide +kernel
theorem dX5_breakDown_15 : decode cX5_breakDown 15 = .ok (.putfield 15, 3) := by decide +kernel
theorem dX5_breakDown_18 : decode cX5_breakDown 18 = .ok (.aload_n 0, 1) := by decide +kernel
theorem dX5_breakDown_19 : decode cX5_breakDown 19 = .ok (.iconst 5, 1) := by decide +kernel
theorem dX5_breakDown_20 : decode cX5_breakDown 20 = .ok (.invokevirtual 62, 3) := by decide +kernel
theorem dX5_breakDown_23 : decode cX5_breakDown 23 = .ok (.return_, 1) := by decide +kernel
theorem dX5_reachGoal_0 : decode cX5_reachGoal 0 = .ok (.aload_n 0, 1) := by decide +kernel
theorem dX5_reachGoal_1 : decode cX5_reachGoal 1 = .ok (.getfield 9, 3) := by decide +kernel
theorem dX5_reachGoal_4 : decode cX5_reachGoal 4 = .ok (.iconst 1, 1) := by decide +kernel
theorem dX5_reachGoal_5 : decode cX5_reachGoal 5 = .ok (.if_icmp .ne 11, 3) := by decide +kernel
theorem dX5_reachGoal_8 : decode cX5_reachGoal 8 = .ok (.aload_n 0, 1) := by decide +kernel
theorem dX5_reachGoal_9 : decode cX5_reachGoal 9 = .ok (.iconst 2, 1) := by decide +kernel
theorem dX5_reachGoal_10 : decode cX5_reachGoal 10 = .ok (.invokevirtual 62, 3) := by decide +kernel
theorem dX5_reachGoal_13 : decode cX5_reachGoal 13 = .ok (.goto 37, 3) := by decide +kernel
theorem dX5_reachGoal_16 : decode cX5_reachGoal 16 = .ok (.aload_n 0, 1) := by decide +kernel
theorem dX5_reachGoal_17 : decode cX5_reachGoal 17 = .ok (.getfield 9, 3) := by decide +kernel
theorem dX5_reachGoal_20 : decode cX5_reachGoal 20 = .ok (.iconst 2, 1) := by decide +kernel
theorem dX5_reachGoal_21 : decode cX5_reachGoal 21 = .ok (.if_icmp .ne 11, 3) := by decide +kernel
theorem dX5_reachGoal_24 : decode cX5_reachGoal 24 = .ok (.aload_n 0, 1) := by decide +kernel
theorem dX5_reachGoal_25 : decode cX5_reachGoal 25 = .ok (.iconst 3, 1) := by decide +kernel
theorem dX5_reachGoal_26 : decode cX5_reachGoal 26 = .ok (.invokevirtual 62, 3) := by decide +kernel
theorem dX5_reachGoal_29 : decode cX5_reachGoal 29 = .ok (.goto 21, 3) := by decide +kernel
theorem dX5_reachGoal_32 : decode cX5_reachGoal 32 = .ok (.aload_n 0, 1) := by decide +kernel
theorem dX5_reachGoal_33 : decode cX5_reachGoal 33 = .ok (.getfield 9, 3) := by decide +kernel
theorem dX5_reachGoal_36 : decode cX5_reachGoal 36 = .ok (.iconst 4, 1) := by decide +kernel
theorem dX5_reachGoal_37 : decode cX5_reachGoal 37 = .ok (.if_icmp .ne 13, 3) := by decide +kernel
theorem dX5_reachGoal_40 : decode cX5_reachGoal 40 = .ok (.aload_n 0, 1) := by decide +kernel
theorem dX5_reachGoal_41 : decode cX5_reachGoal 41 = .ok (.aconst_null, 1) := by decide +kernel
theorem dX5_reachGoal_42 : decode cX5_reachGoal 42 = .ok (.putfield 15, 3) := by decide +kernel
theorem dX5_reachGoal_45 : decode cX5_reachGoal 45 = .ok (.aload_n 0, 1) := by decide +kernel
theorem dX5_reachGoal_46 : decode cX5_reachGoal 46 = .ok (.iconst 0, 1) := by decide +kernel
theorem dX5_reachGoal_47 : decode cX5_reachGoal 47 = .ok (.invokevirtual 62, 3) := by decide +kernel
theorem dX5_reachGoal_50 : decode cX5_reachGoal 50 = .ok (.return_, 1) := by decide +kernel
theorem dX6_init_0 : decode cX6_init 0 = .ok (.aload_n 0, 1) := by decide +kernel
theorem dX6_init_1 : decode cX6_init 1 = .ok (.invokespecial 1, 3) := by decide +kernel
theorem dX6_init_4 : decode cX6_init 4 = .ok (.aload_n 0, 1) := by decide +kernel
theorem dX6_init_5 : decode cX6_init 5 = .ok (.new 7, 3) := by decide +kernel
theorem dX6_init_8 : decode cX6_init 8 = .ok (.dup, 1) := by decide +kernel
theorem dX6_init_9 : decode cX6_init 9 = .ok (.invokespecial 9, 3) := by decide +kernel
theorem dX6_init_12 : decode cX6_init 12 = .ok (.putfield 10, 3) := by decide +kernel
theorem dX6_init_15 : decode cX6_init 15 = .ok (.aload_n 0, 1) := by decide +kernel
theorem dX6_init_16 : decode cX6_init 16 = .ok (.iload_n 1, 1) := by decide +kernel
theorem dX6_init_17 : decode cX6_init 17 = .ok (.putfield 16, 3) := by decide +kernel
theorem dX6_init_20 : decode cX6_init 20 = .ok (.aload_n 0, 1) := by decide +kernel
theorem dX6_init_21 : decode cX6_init 21 = .ok (.iload_n 2, 1) := by decide +kernel
theorem dX6_init_22 : decode cX6_init 22 = .ok (.putfield 20, 3) := by decide +kernel
theorem dX6_init_25 : decode cX6_init 25 = .ok (.return_, 1) := by decide +kernel
theorem dX6_forget_0 : decode cX6_forget 0 = .ok (.iconst 0, 1) := by decide +kernel
theorem dX6_forget_1 : decode cX6_forget 1 = .ok (.istore_n 2, 1) := by decide +kernel
theorem dX6_forget_2 : decode cX6_forget 2 = .ok (.iload_n 2, 1) := by decide +kernel
theorem dX6_forget_3 : decode cX6_forget 3 = .ok (.aload_n 0, 1) := by decide +kernel
theorem dX6_forget_4 : decode cX6_forget 4 = .ok (.getfield 10, 3) := by decide +kernel
theorem dX6_forget_7 : decode cX6_forget 7 = .ok (.invokevirtual 23, 3) := by decide +kernel
theorem dX6_forget_10 : decode cX6_forget 10 = .ok (.if_icmp .ge 31, 3) := by decide +kernel
theorem dX6_forget_13 : decode cX6_forget 13 = .ok (.aload_n 0, 1) := by decide +kernel
theorem dX6_forget_14 : decode cX6_forget 14 = .ok (.getfield 10, 3) := by decide +kernel
theorem dX6_forget_17 : decode cX6_forget 17 = .ok (.iload_n 2, 1) := by decide +kernel
theorem dX6_forget_18 : decode cX6_forget 18 = .ok (.invokevirtual 27, 3) := by decide +kernel
theorem dX6_forget_21 : decode cX6_forget 21 = .ok (.aload_n 1, 1) := by decide +kernel
theorem dX6_forget_22 : decode cX6_forget 22 = .ok (.if_acmp .ne 13, 3) := by decide +kernel
theorem dX6_forget_25 : decode cX6_forget 25 = .ok (.aload_n 0, 1) := by decide +kernel
theorem dX6_forget_26 : decode cX6_forget 26 = .ok (.getfield 10, 3) := by decide +kernel
theorem dX6_forget_29 : decode cX6_forget 29 = .ok (.iload_n 2, 1) := by decide +kernel
theorem dX6_forget_30 : decode cX6_forget 30 = .ok (.invokevirtual 31, 3) := by decide +kernel
theorem dX6_forget_33 : decode cX6_forget 33 = .ok (.pop, 1) := by decide +kernel
theorem dX6_forget_34 : decode cX6_forget 34 = .ok (.return_, 1) := by decide +kernel
theorem dX6_forget_35 : decode cX6_forget 35 = .ok (.iinc 2 1, 3) := by decide +kernel
theorem dX6_forget_38 : decode cX6_forget 38 = .ok (.goto (-36), 3) := by decide +kernel
theorem dX6_forget_41 : decode cX6_forget 41 = .ok (.return_, 1) := by decide +kernel
theorem dX7_init_0 : decode cX7_init 0 = .ok (.aload_n 0, 1) := by decide +kernel
theorem dX7_init_1 : decode cX7_init 1 = .ok (.invokespecial 1, 3) := by decide +kernel
theorem dX7_init_4 : decode cX7_init 4 = .ok (.aload_n 0, 1) := by decide +kernel
theorem dX7_init_5 : decode cX7_init 5 = .ok (.iconst 0, 1) := by decide +kernel
theorem dX7_init_6 : decode cX7_init 6 = .ok (.putfield 7, 3) := by decide +kernel
theorem dX7_init_9 : decode cX7_init 9 = .ok (.aload_n 0, 1) := by decide +kernel
theorem dX7_init_10 : decode cX7_init 10 = .ok (.iconst 0, 1) := by decide +kernel
theorem dX7_init_11 : decode cX7_init 11 = .ok (.putfield 13, 3) := by decide +kernel
theorem dX7_init_14 : decode cX7_init 14 = .ok (.aload_n 0, 1) := by decide +kernel
theorem dX7_init_15 : decode cX7_init 15 = .ok (.iload_n 1, 1) := by decide +kernel
theorem dX7_init_16 : decode cX7_init 16 = .ok (.putfield 16, 3) := by decide +kernel
theorem dX7_init_19 : decode cX7_init 19 = .ok (.aload_n 0, 1) := by decide +kernel
theorem dX7_init_20 : decode cX7_init 20 = .ok (.iload_n 2, 1) := by decide +kernel
theorem dX7_init_21 : decode cX7_init 21 = .ok (.putfield 19, 3) := by decide +kernel
theorem dX7_init_24 : decode cX7_init 24 = .ok (.aload_n 0, 1) := by decide +kernel
theorem dX7_init_25 : decode cX7_init 25 = .ok (.iload_n 3, 1) := by decide +kernel
theorem dX7_init_26 : decode cX7_init 26 = .ok (.putfield 22, 3) := by decide +kernel
theorem dX7_init_29 : decode cX7_init 29 = .ok (.return_, 1) := by decide +kernel
theorem dX7_put_0 : decode cX7_put 0 = .ok (.aload_n 0, 1) := by decide +kernel
theorem dX7_put_1 : decode cX7_put 1 = .ok (.dup, 1) := by decide +kernel
theorem dX7_put_2 : decode cX7_put 2 = .ok (.getfield 7, 3) := by decide +kernel
theorem dX7_put_5 : decode cX7_put 5 = .ok (.iload_n 1, 1) := by decide +kernel
theorem dX7_put_6 : decode cX7_put 6 = .ok (.iadd, 1) := by decide +kernel
theorem dX7_put_7 : decode cX7_put 7 = .ok (.putfield 7, 3) := by decide +kernel
theorem dX7_put_10 : decode cX7_put 10 = .ok (.aload_n 0, 1) := by decide +kernel
theorem dX7_put_11 : decode cX7_put 11 = .ok (.dup, 1) := by decide +kernel
theorem dX7_put_12 : decode cX7_put 12 = .ok (.getfield 13, 3) := by decide +kernel
theorem dX7_put_15 : decode cX7_put 15 = .ok (.iload_n 1, 1) := by decide +kernel
theorem dX7_put_16 : decode cX7_put 16 = .ok (.iadd, 1) := by decide +kernel
theorem dX7_put_17 : decode cX7_put 17 = .ok (.putfield 13, 3) := by decide +kernel
theorem dX7_put_20 : decode cX7_put 20 = .ok (.return_, 1) := by decide +kernel
theorem dX8_init_0 : decode cX8_init 0 = .ok (.aload_n 0, 1) := by decide +kernel
theorem dX8_init_1 : decode cX8_init 1 = .ok (.invokespecial 1, 3) := by decide +kernel
theorem dX8_init_4 : decode cX8_init 4 = .ok (.aload_n 0, 1) := by decide +kernel
theorem dX8_init_5 : decode cX8_init 5 = .ok (.new 7, 3) := by decide +kernel
theorem dX8_init_8 : decode cX8_init 8 = .ok (.dup, 1) := by decide +kernel
theorem dX8_init_9 : decode cX8_init 9 = .ok (.invokespecial 9, 3) := by decide +kernel
theorem dX8_init_12 : decode cX8_init 12 = .ok (.putfield 10, 3) := by decide +kernel
theorem dX8_init_15 : decode cX8_init 15 = .ok (.aload_n 0, 1) := by decide +kernel
theorem dX8_init_16 : decode cX8_init 16 = .ok (.new 16, 3) := by decide +kernel
theorem dX8_init_19 : decode cX8_init 19 = .ok (.dup, 1) := by decide +kernel
theorem dX8_init_20 : decode cX8_init 20 = .ok (.invokespecial 18, 3) := by decide +kernel
theorem dX8_init_23 : decode cX8_init 23 = .ok (.putfield 19, 3) := by decide +kernel
theorem dX8_init_26 : decode cX8_init 26 = .ok (.aload_n 0, 1) := by decide +kernel
theorem dX8_init_27 : decode cX8_init 27 = .ok (.new 16, 3) := by decide +kernel
theorem dX8_init_30 : decode cX8_init 30 = .ok (.dup, 1) := by decide +kernel
theorem dX8_init_31 : decode cX8_init 31 = .ok (.invokespecial 18, 3) := by decide +kernel
theorem dX8_init_34 : decode cX8_init 34 = .ok (.putfield 23, 3) := by decide +kernel
theorem dX8_init_37 : decode cX8_init 37 = .ok (.aload_n 0, 1) := by decide +kernel
theorem dX8_init_38 : decode cX8_init 38 = .ok (.new 16, 3) := by decide +kernel
theorem dX8_init_41 : decode cX8_init 41 = .ok (.dup, 1) := by decide +kernel
theorem dX8_init_42 : decode cX8_init 42 = .ok (.invokespecial 18, 3) := by decide +kernel
theorem dX8_init_45 : decode cX8_init 45 = .ok (.putfield 26, 3) := by decide +kernel
theorem dX8_init_48 : decode cX8_init 48 = .ok (.aload_n 0, 1) := by decide +kernel
theorem dX8_init_49 : decode cX8_init 49 = .ok (.new 16, 3) := by decide +kernel
theorem dX8_init_52 : decode cX8_init 52 = .ok (.dup, 1) := by decide +kernel
theorem dX8_init_53 : decode cX8_init 53 = .ok (.invokespecial 18, 3) := by decide +kernel
theorem dX8_init_56 : decode cX8_init 56 = .ok (.putfield 29, 3) := by decide +kernel
theorem dX8_init_59 : decode cX8_init 59 = .ok (.aload_n 0, 1) := by decide +kernel
theorem dX8_init_60 : decode cX8_init 60 = .ok (.iconst 0, 1) := by decide +kernel
theorem dX8_init_61 : decode cX8_init 61 = .ok (.putfield 32, 3) := by decide +kernel
theorem dX8_init_64 : decode cX8_init 64 = .ok (.return_, 1) := by decide +kernel
theorem dX8_wall_0 : decode cX8_wall 0 = .ok (.iload_n 1, 1) := by decide +kernel
theorem dX8_wall_1 : decode cX8_wall 1 = .ok (.invokestatic 36, 3) := by decide +kernel
theorem dX8_wall_4 : decode cX8_wall 4 = .ok (.aload_n 0, 1) := by decide +kernel
theorem dX8_wall_5 : decode cX8_wall 5 = .ok (.getfield 10, 3) := by decide +kernel
theorem dX8_wall_8 : decode cX8_wall 8 = .ok (.getfield 40, 3) := by decide +kernel
theorem dX8_wall_11 : decode cX8_wall 11 = .ok (.iload_n 1, 1) := by decide +kernel
theorem dX8_wall_12 : decode cX8_wall 12 = .ok (.invokevirtual 44, 3) := by decide +kernel
theorem dX8_wall_15 : decode cX8_wall 15 = .ok (.ifCond .ne 30, 3) := by decide +kernel
theorem dX8_wall_18 : decode cX8_wall 18 = .ok (.aload_n 0, 1) := by decide +kernel
theorem dX8_wall_19 : decode cX8_wall 19 = .ok (.iload_n 1, 1) := by decide +kernel
theorem dX8_wall_20 : decode cX8_wall 20 = .ok (.invokevirtual 50, 3) := by decide +kernel
theorem dX8_wall_23 : decode cX8_wall 23 = .ok (.ifCond .ne 22, 3) := by decide +kernel
theorem dX8_wall_26 : decode cX8_wall 26 = .ok (.aload_n 0, 1) := by decide +kernel
theorem dX8_wall_27 : decode cX8_wall 27 = .ok (.iload_n 1, 1) := by decide +kernel
theorem dX8_wall_28 : decode cX8_wall 28 = .ok (.invokevirtual 53, 3) := by decide +kernel
theorem dX8_wall_31 : decode cX8_wall 31 = .ok (.ifCond .ne 14, 3) := by decide +kernel
theorem dX8_wall_34 : decode cX8_wall 34 = .ok (.aload_n 0, 1) := by decide +kernel
theorem dX8_wall_35 : decode cX8_wall 35 = .ok (.getfield 10, 3) := by decide +kernel
theorem dX8_wall_38 : decode cX8_wall 38 = .ok (.iload_n 1, 1) := by decide +kernel
theorem dX8_wall_39 : decode cX8_wall 39 = .ok (.invokevirtual 56, 3) := by decide +kernel
theorem dX8_wall_42 : decode cX8_wall 42 = .ok (.ifnull 13, 3) := by decide +kernel
theorem dX8_wall_45 : decode cX8_wall 45 = .ok (.new 60, 3) := by decide +kernel
theorem dX8_wall_48 : decode cX8_wall 48 = .ok (.dup, 1) := by decide +kernel
theorem dX8_wall_49 : decode cX8_wall 49 = .ok (.ldc 62, 2) := by decide +kernel
theorem dX8_wall_51 : decode cX8_wall 51 = .ok (.invokespecial 64, 3) := by decide +kernel
theorem dX8_wall_54 : decode cX8_wall 54 = .ok (.athrow, 1) := by decide +kernel
theorem dX8_wall_55 : decode cX8_wall 55 = .ok (.aload_n 0, 1) := by decide +kernel
theorem dX8_wall_56 : decode cX8_wall 56 = .ok (.getfield 10, 3) := by decide +kernel
theorem dX8_wall_59 : decode cX8_wall 59 = .ok (.getfield 40, 3) := by decide +kernel
theorem dX8_wall_62 : decode cX8_wall 62 = .ok (.iload_n 1, 1) := by decide +kernel
theorem dX8_wall_63 : decode cX8_wall 63 = .ok (.invokevirtual 67, 3) := by decide +kernel
theorem dX8_wall_66 : decode cX8_wall 66 = .ok (.return_, 1) := by decide +kernel
theorem dX8_setClosed_0 : decode cX8_setClosed 0 = .ok (.iload_n 1, 1) := by decide +kernel
theorem dX8_setClosed_1 : decode cX8_setClosed 1 = .ok (.invokestatic 36, 3) := by decide +kernel
theorem dX8_setClosed_4 : decode cX8_setClosed 4 = .ok (.aload_n 0, 1) := by decide +kernel
theorem dX8_setClosed_5 : decode cX8_setClosed 5 = .ok (.getfield 10, 3) := by decide +kernel
theorem dX8_setClosed_8 : decode cX8_setClosed 8 = .ok (.getfield 40, 3) := by decide +kernel
theorem dX8_setClosed_11 : decode cX8_setClosed 11 = .ok (.iload_n 1, 1) := by decide +kernel
theorem dX8_setClosed_12 : decode cX8_setClosed 12 = .ok (.invokevirtual 70, 3) := by decide +kernel
theorem dX8_setClosed_15 : decode cX8_setClosed 15 = .ok (.istore_n 3, 1) := by decide +kernel
theorem dX8_setClosed_16 : decode cX8_setClosed 16 = .ok (.aload_n 0, 1) := by decide +kernel
theorem dX8_setClosed_17 : decode cX8_setClosed 17 = .ok (.getfield 10, 3) := by decide +kernel
theorem dX8_setClosed_20 : decode cX8_setClosed 20 = .ok (.getfield 40, 3) := by decide +kernel
theorem dX8_setClosed_23 : decode cX8_setClosed 23 = .ok (.iload_n 1, 1) := by decide +kernel
theorem dX8_setClosed_24 : decode cX8_setClosed 24 = .ok (.iload_n 2, 1) := by decide +kernel
theorem dX8_setClosed_25 : decode cX8_setClosed 25 = .ok (.invokevirtual 73, 3) := by decide +kernel
theorem dX8_setClosed_28 : decode cX8_setClosed 28 = .ok (.iload_n 3, 1) := by decide +kernel
theorem dX8_setClosed_29 : decode cX8_setClosed 29 = .ok (.ireturn, 1) := by decide +kernel
theorem dX8_distance_0 : decode cX8_distance 0 = .ok (.iload_n 1, 1) := by decide +kernel
theorem dX8_distance_1 : decode cX8_distance 1 = .ok (.invokestatic 36, 3) := by decide +kernel
theorem dX8_distance_4 : decode cX8_distance 4 = .ok (.iload_n 2, 1) := by decide +kernel
theorem dX8_distance_5 : decode cX8_distance 5 = .ok (.invokestatic 36, 3) := by decide +kernel
theorem dX8_distance_8 : decode cX8_distance 8 = .ok (.aload_n 0, 1) := by decide +kernel
theorem dX8_distance_9 : decode cX8_distance 9 = .ok (.getfield 10, 3) := by decide +kernel
theorem dX8_distance_12 : decode cX8_distance 12 = .ok (.getfield 40, 3) := by decide +kernel
theorem dX8_distance_15 : decode cX8_distance 15 = .ok (.iload_n 1, 1) := by decide +kernel
theorem dX8_distance_16 : decode cX8_distance 16 = .ok (.iload_n 2, 1) := by decide +kernel
theorem dX8_distance_17 : decode cX8_distance 17 = .ok (.iconst (-1), 1) := by decide +kernel
theorem dX8_distance_18 : decode cX8_distance 18 = .ok (.invokevirtual 77, 3) := by decide +kernel
theorem dX8_distance_21 : decode cX8_distance 21 = .ok (.ireturn, 1) := by decide +kernel
theorem dX8_addStation_0 : decode cX8_addStation 0 = .ok (.iload_n 1, 1) := by decide +kernel
theorem dX8_addStation_1 : decode cX8_addStation 1 = .ok (.invokestatic 36, 3) := by decide +kernel
theorem dX8_addStation_4 : decode cX8_addStation 4 = .ok (.aload_n 0, 1) := by decide +kernel
theorem dX8_addStation_5 : decode cX8_addStation 5 = .ok (.getfield 10, 3) := by decide +kernel
theorem dX8_addStation_8 : decode cX8_addStation 8 = .ok (.getfield 40, 3) := by decide +kernel
theorem dX8_addStation_11 : decode cX8_addStation 11 = .ok (.iload_n 1, 1) := by decide +kernel
theorem dX8_addStation_12 : decode cX8_addStation 12 = .ok (.invokevirtual 44, 3) := by decide +kernel
theorem dX8_addStation_15 : decode cX8_addStation 15 = .ok (.ifCond .ne 22, 3) := by decide +kernel
theorem dX8_addStation_18 : decode cX8_addStation 18 = .ok (.aload_n 0, 1) := by decide +kernel
theorem dX8_addStation_19 : decode cX8_addStation 19 = .ok (.iload_n 1, 1) := by decide +kernel
theorem dX8_addStation_20 : decode cX8_addStation 20 = .ok (.invokevirtual 53, 3) := by decide +kernel
theorem dX8_addStation_23 : decode cX8_addStation 23 = .ok (.ifCond .ne 14, 3) := by decide +kernel
theorem dX8_addStation_26 : decode cX8_addStation 26 = .ok (.aload_n 0, 1) := by decide +kernel
theorem dX8_addStation_27 : decode cX8_addStation 27 = .ok (.getfield 19, 3) := by decide +kernel
theorem dX8_addStation_30 : decode cX8_addStation 30 = .ok (.invokevirtual 81, 3) := by decide +kernel
theorem dX8_addStation_33 : decode cX8_addStation 33 = .ok (.iconst 3, 1) := by decide +kernel
theorem dX8_addStation_34 : decode cX8_addStation 34 = .ok (.if_icmp .lt 13, 3) := by decide +kernel
theorem dX8_addStation_37 : decode cX8_addStation 37 = .ok (.new 60, 3) := by decide +kernel
theorem dX8_addStation_40 : decode cX8_addStation 40 = .ok (.dup, 1) := by decide +kernel
theorem dX8_addStation_41 : decode cX8_addStation 41 = .ok (.ldc 85, 2) := by decide +kernel
theorem dX8_addStation_43 : decode cX8_addStation 43 = .ok (.invokespecial 64, 3) := by decide +kernel
theorem dX8_addStation_46 : decode cX8_addStation 46 = .ok (.athrow, 1) := by decide +kernel
theorem dX8_addStation_47 : decode cX8_addStation 47 = .ok (.new 87, 3) := by decide +kernel
theorem dX8_addStation_50 : decode cX8_addStation 50 = .ok (.dup, 1) := by decide +kernel
theorem dX8_addStation_51 : decode cX8_addStation 51 = .ok (.aload_n 0, 1) := by decide +kernel
theorem dX8_addStation_52 : decode cX8_addStation 52 = .ok (.getfield 19, 3) := by decide +kernel
theorem dX8_addStation_55 : decode cX8_addStation 55 = .ok (.invokevirtual 81, 3) := by decide +kernel
theorem dX8_addStation_58 : decode cX8_addStation 58 = .ok (.iload_n 1, 1) := by decide +kernel
theorem dX8_addStation_59 : decode cX8_addStation 59 = .ok (.invokespecial 89, 3) := by decide +kernel
theorem dX8_addStation_62 : decode cX8_addStation 62 = .ok (.astore_n 2, 1) := by decide +kernel
theorem dX8_addStation_63 : decode cX8_addStation 63 = .ok (.aload_n 0, 1) := by decide +kernel
theorem dX8_addStation_64 : decode cX8_addStation 64 = .ok (.getfield 19, 3) := by decide +kernel
theorem dX8_addStation_67 : decode cX8_addStation 67 = .ok (.aload_n 2, 1) := by decide +kernel
theorem dX8_addStation_68 : decode cX8_addStation 68 = .ok (.invokevirtual 92, 3) := by decide +kernel
theorem dX8_addStation_71 : decode cX8_addStation 71 = .ok (.pop, 1) := by decide +kernel
theorem dX8_addStation_72 : decode cX8_addStation 72 = .ok (.aload_n 2, 1) := by decide +kernel
theorem dX8_addStation_73 : decode cX8_addStation 73 = .ok (.getfield 96, 3) := by decide +kernel
theorem dX8_addStation_76 : decode cX8_addStation 76 = .ok (.ireturn, 1) := by decide +kernel
theorem dX8_addTray_0 : decode cX8_addTray 0 = .ok (.iload_n 1, 1) := by decide +kernel
theorem dX8_addTray_1 : decode cX8_addTray 1 = .ok (.invokestatic 36, 3) := by decide +kernel
theorem dX8_addTray_4 : decode cX8_addTray 4 = .ok (.iload_n 2, 1) := by decide +kernel
theorem dX8_addTray_5 : decode cX8_addTray 5 = .ok (.invokestatic 99, 3) := by decide +kernel
theorem dX8_addTray_8 : decode cX8_addTray 8 = .ok (.iload_n 3, 1) := by decide +kernel
theorem dX8_addTray_9 : decode cX8_addTray 9 = .ok (.iconst 0, 1) := by decide +kernel
theorem dX8_addTray_10 : decode cX8_addTray 10 = .ok (.bipush 100, 2) := by decide +kernel
theorem dX8_addTray_12 : decode cX8_addTray 12 = .ok (.invokestatic 102, 3) := by decide +kernel
theorem dX8_addTray_15 : decode cX8_addTray 15 = .ok (.aload_n 0, 1) := by decide +kernel
theorem dX8_addTray_16 : decode cX8_addTray 16 = .ok (.getfield 10, 3) := by decide +kernel
theorem dX8_addTray_19 : decode cX8_addTray 19 = .ok (.getfield 40, 3) := by decide +kernel
theorem dX8_addTray_22 : decode cX8_addTray 22 = .ok (.iload_n 1, 1) := by decide +kernel
theorem dX8_addTray_23 : decode cX8_addTray 23 = .ok (.invokevirtual 44, 3) := by decide +kernel
theorem dX8_addTray_26 : decode cX8_addTray 26 = .ok (.ifCond .ne 23, 3) := by decide +kernel
theorem dX8_addTray_29 : decode cX8_addTray 29 = .ok (.aload_n 0, 1) := by decide +kernel
theorem dX8_addTray_30 : decode cX8_addTray 30 = .ok (.iload_n 1, 1) := by decide +kernel
theorem dX8_addTray_31 : decode cX8_addTray 31 = .ok (.invokevirtual 50, 3) := by decide +kernel
theorem dX8_addTray_34 : decode cX8_addTray 34 = .ok (.ifCond .ne 15, 3) := by decide +kernel
theorem dX8_addTray_37 : decode cX8_addTray 37 = .ok (.aload_n 0, 1) := by decide +kernel
theorem dX8_addTray_38 : decode cX8_addTray 38 = .ok (.getfield 23, 3) := by decide +kernel
theorem dX8_addTray_41 : decode cX8_addTray 41 = .ok (.invokevirtual 81, 3) := by decide +kernel
theorem dX8_addTray_44 : decode cX8_addTray 44 = .ok (.bipush 16, 2) := by decide +kernel
theorem dX8_addTray_46 : decode cX8_addTray 46 = .ok (.if_icmp .lt 13, 3) := by decide +kernel
theorem dX8_addTray_49 : decode cX8_addTray 49 = .ok (.new 60, 3) := by decide +kernel
theorem dX8_addTray_52 : decode cX8_addTray 52 = .ok (.dup, 1) := by decide +kernel
theorem dX8_addTray_53 : decode cX8_addTray 53 = .ok (.ldc 106, 2) := by decide +kernel
theorem dX8_addTray_55 : decode cX8_addTray 55 = .ok (.invokespecial 64, 3) := by decide +kernel
theorem dX8_addTray_58 : decode cX8_addTray 58 = .ok (.athrow, 1) := by decide +kernel
theorem dX8_addTray_59 : decode cX8_addTray 59 = .ok (.new 108, 3) := by decide +kernel
theorem dX8_addTray_62 : decode cX8_addTray 62 = .ok (.dup, 1) := by decide +kernel
theorem dX8_addTray_63 : decode cX8_addTray 63 = .ok (.aload_n 0, 1) := by decide +kernel
theorem dX8_addTray_64 : decode cX8_addTray 64 = .ok (.getfield 23, 3) := by decide +kernel
theorem dX8_addTray_67 : decode cX8_addTray 67 = .ok (.invokevirtual 81, 3) := by decide +kernel
theorem dX8_addTray_70 : decode cX8_addTray 70 = .ok (.iload_n 1, 1) := by decide +kernel
theorem dX8_addTray_71 : decode cX8_addTray 71 = .ok (.iload_n 2, 1) := by decide +kernel
theorem dX8_addTray_72 : decode cX8_addTray 72 = .ok (.invokespecial 110, 3) := by decide +kernel
theorem dX8_addTray_75 : decode cX8_addTray 75 = .ok (.astore 4, 2) := by decide +kernel
theorem dX8_addTray_77 : decode cX8_addTray 77 = .ok (.aload 4, 2) := by decide +kernel
theorem dX8_addTray_79 : decode cX8_addTray 79 = .ok (.iload_n 3, 1) := by decide +kernel
theorem dX8_addTray_80 : decode cX8_addTray 80 = .ok (.invokevirtual 112, 3) := by decide +kernel
theorem dX8_addTray_83 : decode cX8_addTray 83 = .ok (.aload_n 0, 1) := by decide +kernel
theorem dX8_addTray_84 : decode cX8_addTray 84 = .ok (.getfield 23, 3) := by decide +kernel
theorem dX8_addTray_87 : decode cX8_addTray 87 = .ok (.aload 4, 2) := by decide +kernel
theorem dX8_addTray_89 : decode cX8_addTray 89 = .ok (.invokevirtual 92, 3) := by decide +kernel
theorem dX8_addTray_92 : decode cX8_addTray 92 = .ok (.pop, 1) := by decide +kernel
theorem dX8_addTray_93 : decode cX8_addTray 93 = .ok (.aload 4, 2) := by decide +kernel
theorem dX8_addTray_95 : decode cX8_addTray 95 = .ok (.getfield 115, 3) := by decide +kernel
theorem dX8_addTray_98 : decode cX8_addTray 98 = .ok (.ireturn, 1) := by decide +kernel
theorem dX8_fill_0 : decode cX8_fill 0 = .ok (.aload_n 0, 1) := by decide +kernel
theorem dX8_fill_1 : decode cX8_fill 1 = .ok (.iload_n 1, 1) := by decide +kernel
theorem dX8_fill_2 : decode cX8_fill 2 = .ok (.invokevirtual 116, 3) := by decide +kernel
theorem dX8_fill_5 : decode cX8_fill 5 = .ok (.astore_n 3, 1) := by decide +kernel
theorem dX8_fill_6 : decode cX8_fill 6 = .ok (.iload_n 2, 1) := by decide +kernel
theorem dX8_fill_7 : decode cX8_fill 7 = .ok (.iconst 1, 1) := by decide +kernel
theorem dX8_fill_8 : decode cX8_fill 8 = .ok (.bipush 100, 2) := by decide +kernel
theorem dX8_fill_10 : decode cX8_fill 10 = .ok (.invokestatic 102, 3) := by decide +kernel
theorem dX8_fill_13 : decode cX8_fill 13 = .ok (.aload_n 0, 1) := by decide +kernel
theorem dX8_fill_14 : decode cX8_fill 14 = .ok (.getfield 10, 3) := by decide +kernel
theorem dX8_fill_17 : decode cX8_fill 17 = .ok (.aload_n 3, 1) := by decide +kernel
theorem dX8_fill_18 : decode cX8_fill 18 = .ok (.invokevirtual 120, 3) := by decide +kernel
theorem dX8_fill_21 : decode cX8_fill 21 = .ok (.ifnull 13, 3) := by decide +kernel
theorem dX8_fill_24 : decode cX8_fill 24 = .ok (.new 60, 3) := by decide +kernel
theorem dX8_fill_27 : decode cX8_fill 27 = .ok (.dup, 1) := by decide +kernel
theorem dX8_fill_28 : decode cX8_fill 28 = .ok (.ldc 124, 2) := by decide +kernel
theorem dX8_fill_30 : decode cX8_fill 30 = .ok (.invokespecial 64, 3) := by decide +kernel
theorem dX8_fill_33 : decode cX8_fill 33 = .ok (.athrow, 1) := by decide +kernel
theorem dX8_fill_34 : decode cX8_fill 34 = .ok (.aload_n 3, 1) := by decide +kernel
theorem dX8_fill_35 : decode cX8_fill 35 = .ok (.iload_n 2, 1) := by decide +kernel
theorem dX8_fill_36 : decode cX8_fill 36 = .ok (.invokevirtual 112, 3) := by decide +kernel
theorem dX8_fill_39 : decode cX8_fill 39 = .ok (.aload_n 3, 1) := by decide +kernel
theorem dX8_fill_40 : decode cX8_fill 40 = .ok (.getfield 126, 3) := by decide +kernel
theorem dX8_fill_43 : decode cX8_fill 43 = .ok (.ireturn, 1) := by decide +kernel
theorem dX8_addOrder_0 : decode cX8_addOrder 0 = .ok (.aload_n 0, 1) := by decide +kernel
theorem dX8_addOrder_1 : decode cX8_addOrder 1 = .ok (.getfield 26, 3) := by decide +kernel
theorem dX8_addOrder_4 : decode cX8_addOrder 4 = .ok (.invokevirtual 81, 3) := by decide +kernel
theorem dX8_addOrder_7 : decode cX8_addOrder 7 = .ok (.bipush 10, 2) := by decide +kernel
theorem dX8_addOrder_9 : decode cX8_addOrder 9 = .ok (.if_icmp .lt 13, 3) := by decide +kernel
theorem dX8_addOrder_12 : decode cX8_addOrder 12 = .ok (.new 60, 3) := by decide +kernel
theorem dX8_addOrder_15 : decode cX8_addOrder 15 = .ok (.dup, 1) := by decide +kernel
theorem dX8_addOrder_16 : decode cX8_addOrder 16 = .ok (.ldc 129, 2) := by decide +kernel
theorem dX8_addOrder_18 : decode cX8_addOrder 18 = .ok (.invokespecial 64, 3) := by decide +kernel
theorem dX8_addOrder_21 : decode cX8_addOrder 21 = .ok (.athrow, 1) := by decide +kernel
theorem dX8_addOrder_22 : decode cX8_addOrder 22 = .ok (.new 131, 3) := by decide +kernel
theorem dX8_addOrder_25 : decode cX8_addOrder 25 = .ok (.dup, 1) := by decide +kernel
theorem dX8_addOrder_26 : decode cX8_addOrder 26 = .ok (.aload_n 0, 1) := by decide +kernel
theorem dX8_addOrder_27 : decode cX8_addOrder 27 = .ok (.getfield 26, 3) := by decide +kernel
theorem dX8_addOrder_30 : decode cX8_addOrder 30 = .ok (.invokevirtual 81, 3) := by decide +kernel
theorem dX8_addOrder_33 : decode cX8_addOrder 33 = .ok (.invokespecial 133, 3) := by decide +kernel
theorem dX8_addOrder_36 : decode cX8_addOrder 36 = .ok (.astore_n 1, 1) := by decide +kernel
theorem dX8_addOrder_37 : decode cX8_addOrder 37 = .ok (.aload_n 0, 1) := by decide +kernel
theorem dX8_addOrder_38 : decode cX8_addOrder 38 = .ok (.getfield 26, 3) := by decide +kernel
theorem dX8_addOrder_41 : decode cX8_addOrder 41 = .ok (.aload_n 1, 1) := by decide +kernel
theorem dX8_addOrder_42 : decode cX8_addOrder 42 = .ok (.invokevirtual 92, 3) := by decide +kernel
theorem dX8_addOrder_45 : decode cX8_addOrder 45 = .ok (.pop, 1) := by decide +kernel
theorem dX8_addOrder_46 : decode cX8_addOrder 46 = .ok (.aload_n 1, 1) := by decide +kernel
theorem dX8_addOrder_47 : decode cX8_addOrder 47 = .ok (.getfield 135, 3) := by decide +kernel
theorem dX8_addOrder_50 : decode cX8_addOrder 50 = .ok (.ireturn, 1) := by decide +kernel
theorem dX8_addLine_0 : decode cX8_addLine 0 = .ok (.aload_n 0, 1) := by decide +kernel
theorem dX8_addLine_1 : decode cX8_addLine 1 = .ok (.iload_n 1, 1) := by decide +kernel
theorem dX8_addLine_2 : decode cX8_addLine 2 = .ok (.invokevirtual 136, 3) := by decide +kernel
theorem dX8_addLine_5 : decode cX8_addLine 5 = .ok (.astore 4, 2) := by decide +kernel
theorem dX8_addLine_7 : decode cX8_addLine 7 = .ok (.iload_n 2, 1) := by decide +kernel
theorem dX8_addLine_8 : decode cX8_addLine 8 = .ok (.invokestatic 99, 3) := by decide +kernel
theorem dX8_addLine_11 : decode cX8_addLine 11 = .ok (.iload_n 3, 1) := by decide +kernel
theorem dX8_addLine_12 : decode cX8_addLine 12 = .ok (.iconst 1, 1) := by decide +kernel
theorem dX8_addLine_13 : decode cX8_addLine 13 = .ok (.bipush 50, 2) := by decide +kernel
theorem dX8_addLine_15 : decode cX8_addLine 15 = .ok (.invokestatic 102, 3) := by decide +kernel
theorem dX8_addLine_18 : decode cX8_addLine 18 = .ok (.aload 4, 2) := by decide +kernel
theorem dX8_addLine_20 : decode cX8_addLine 20 = .ok (.getfield 140, 3) := by decide +kernel
theorem dX8_addLine_23 : decode cX8_addLine 23 = .ok (.invokevirtual 81, 3) := by decide +kernel
theorem dX8_addLine_26 : decode cX8_addLine 26 = .ok (.iconst 3, 1) := by decide +kernel
theorem dX8_addLine_27 : decode cX8_addLine 27 = .ok (.if_icmp .lt 13, 3) := by decide +kernel
theorem dX8_addLine_30 : decode cX8_addLine 30 = .ok (.new 60, 3) := by decide +kernel
theorem dX8_addLine_33 : decode cX8_addLine 33 = .ok (.dup, 1) := by decide +kernel
theorem dX8_addLine_34 : decode cX8_addLine 34 = .ok (.ldc 143, 2) := by decide +kernel
theorem dX8_addLine_36 : decode cX8_addLine 36 = .ok (.invokespecial 64, 3) := by decide +kernel
theorem dX8_addLine_39 : decode cX8_addLine 39 = .ok (.athrow, 1) := by decide +kernel
theorem dX8_addLine_40 : decode cX8_addLine 40 = .ok (.aload 4, 2) := by decide +kernel
theorem dX8_addLine_42 : decode cX8_addLine 42 = .ok (.getfield 140, 3) := by decide +kernel
theorem dX8_addLine_45 : decode cX8_addLine 45 = .ok (.new 145, 3) := by decide +kernel
theorem dX8_addLine_48 : decode cX8_addLine 48 = .ok (.dup, 1) := by decide +kernel
theorem dX8_addLine_49 : decode cX8_addLine 49 = .ok (.aload 4, 2) := by decide +kernel
theorem dX8_addLine_51 : decode cX8_addLine 51 = .ok (.iload_n 2, 1) := by decide +kernel
theorem dX8_addLine_52 : decode cX8_addLine 52 = .ok (.iload_n 3, 1) := by decide +kernel
theorem dX8_addLine_53 : decode cX8_addLine 53 = .ok (.invokespecial 147, 3) := by decide +kernel
theorem dX8_addLine_56 : decode cX8_addLine 56 = .ok (.invokevirtual 92, 3) := by decide +kernel
theorem dX8_addLine_59 : decode cX8_addLine 59 = .ok (.pop, 1) := by decide +kernel
theorem dX8_addLine_60 : decode cX8_addLine 60 = .ok (.aload 4, 2) := by decide +kernel
theorem dX8_addLine_62 : decode cX8_addLine 62 = .ok (.getfield 140, 3) := by decide +kernel
theorem dX8_addLine_65 : decode cX8_addLine 65 = .ok (.invokevirtual 81, 3) := by decide +kernel
theorem dX8_addLine_68 : decode cX8_addLine 68 = .ok (.iconst 1, 1) := by decide +kernel
theorem dX8_addLine_69 : decode cX8_addLine 69 = .ok (.isub, 1) := by decide +kernel
theorem dX8_addLine_70 : decode cX8_addLine 70 = .ok (.ireturn, 1) := by decide +kernel
theorem dX8_claim_0 : decode cX8_claim 0 = .ok (.aload_n 0, 1) := by decide +kernel
theorem dX8_claim_1 : decode cX8_claim 1 = .ok (.iload_n 1, 1) := by decide +kernel
theorem dX8_claim_2 : decode cX8_claim 2 = .ok (.invokevirtual 150, 3) := by decide +kernel
theorem dX8_claim_5 : decode cX8_claim 5 = .ok (.astore 4, 2) := by decide +kernel
theorem dX8_claim_7 : decode cX8_claim 7 = .ok (.aload_n 0, 1) := by decide +kernel
theorem dX8_claim_8 : decode cX8_claim 8 = .ok (.iload_n 2, 1) := by decide +kernel
theorem dX8_claim_9 : decode cX8_claim 9 = .ok (.iload_n 3, 1) := by decide +kernel
theorem dX8_claim_10 : decode cX8_claim 10 = .ok (.invokevirtual 154, 3) := by decide +kernel
theorem dX8_claim_13 : decode cX8_claim 13 = .ok (.astore 5, 2) := by decide +kernel
theorem dX8_claim_15 : decode cX8_claim 15 = .ok (.aload 5, 2) := by decide +kernel
theorem dX8_claim_17 : decode cX8_claim 17 = .ok (.getfield 158, 3) := by decide +kernel
theorem dX8_claim_20 : decode cX8_claim 20 = .ok (.ifnull 13, 3) := by decide +kernel
theorem dX8_claim_23 : decode cX8_claim 23 = .ok (.new 60, 3) := by decide +kernel
theorem dX8_claim_26 : decode cX8_claim 26 = .ok (.dup, 1) := by decide +kernel
theorem dX8_claim_27 : decode cX8_claim 27 = .ok (.ldc 162, 2) := by decide +kernel
theorem dX8_claim_29 : decode cX8_claim 29 = .ok (.invokespecial 64, 3) := by decide +kernel
theorem dX8_claim_32 : decode cX8_claim 32 = .ok (.athrow, 1) := by decide +kernel
theorem dX8_claim_33 : decode cX8_claim 33 = .ok (.aload 5, 2) := by decide +kernel
theorem dX8_claim_35 : decode cX8_claim 35 = .ok (.aload 4, 2) := by decide +kernel
theorem dX8_claim_37 : decode cX8_claim 37 = .ok (.putfield 158, 3) := by decide +kernel
theorem dX8_claim_40 : decode cX8_claim 40 = .ok (.aload 4, 2) := by decide +kernel
theorem dX8_claim_42 : decode cX8_claim 42 = .ok (.getfield 164, 3) := by decide +kernel
theorem dX8_claim_45 : decode cX8_claim 45 = .ok (.aload 5, 2) := by decide +kernel
theorem dX8_claim_47 : decode cX8_claim 47 = .ok (.invokevirtual 92, 3) := by decide +kernel
theorem dX8_claim_50 : decode cX8_claim 50 = .ok (.pop, 1) := by decide +kernel
theorem dX8_claim_51 : decode cX8_claim 51 = .ok (.aload 4, 2) := by decide +kernel
theorem dX8_claim_53 : decode cX8_claim 53 = .ok (.getfield 164, 3) := by decide +kernel
theorem dX8_claim_56 : decode cX8_claim 56 = .ok (.invokevirtual 81, 3) := by decide +kernel
theorem dX8_claim_59 : decode cX8_claim 59 = .ok (.ireturn, 1) := by decide +kernel
theorem dX8_giveUp_0 : decode cX8_giveUp 0 = .ok (.aload_n 0, 1) := by decide +kernel
theorem dX8_giveUp_1 : decode cX8_giveUp 1 = .ok (.iload_n 1, 1) := by decide +kernel
theorem dX8_giveUp_2 : decode cX8_giveUp 2 = .ok (.iload_n 2, 1) := by decide +kernel
theorem dX8_giveUp_3 : decode cX8_giveUp 3 = .ok (.invokevirtual 154, 3) := by decide +kernel
theorem dX8_giveUp_6 : decode cX8_giveUp 6 = .ok (.astore_n 3, 1) := by decide +kernel
theorem dX8_giveUp_7 : decode cX8_giveUp 7 = .ok (.aload_n 3, 1) := by decide +kernel
theorem dX8_giveUp_8 : decode cX8_giveUp 8 = .ok (.getfield 158, 3) := by decide +kernel
theorem dX8_giveUp_11 : decode cX8_giveUp 11 = .ok (.astore 4, 2) := by decide +kernel
theorem dX8_giveUp_13 : decode cX8_giveUp 13 = .ok (.aload 4, 2) := by decide +kernel
theorem dX8_giveUp_15 : decode cX8_giveUp 15 = .ok (.ifnonnull 13, 3) := by decide +kernel
theorem dX8_giveUp_18 : decode cX8_giveUp 18 = .ok (.new 60, 3) := by decide +kernel
theorem dX8_giveUp_21 : decode cX8_giveUp 21 = .ok (.dup, 1) := by decide +kernel
theorem dX8_giveUp_22 : decode cX8_giveUp 22 = .ok (.ldc 167, 2) := by decide +kernel
theorem dX8_giveUp_24 : decode cX8_giveUp 24 = .ok (.invokespecial 64, 3) := by decide +kernel
theorem dX8_giveUp_27 : decode cX8_giveUp 27 = .ok (.athrow, 1) := by decide +kernel
theorem dX8_giveUp_28 : decode cX8_giveUp 28 = .ok (.aload_n 0, 1) := by decide +kernel
theorem dX8_giveUp_29 : decode cX8_giveUp 29 = .ok (.getfield 10, 3) := by decide +kernel
theorem dX8_giveUp_32 : decode cX8_giveUp 32 = .ok (.aload_n 3, 1) := by decide +kernel
theorem dX8_giveUp_33 : decode cX8_giveUp 33 = .ok (.invokevirtual 169, 3) := by decide +kernel
theorem dX8_giveUp_36 : decode cX8_giveUp 36 = .ok (.astore 5, 2) := by decide +kernel
theorem dX8_giveUp_38 : decode cX8_giveUp 38 = .ok (.aload 5, 2) := by decide +kernel
theorem dX8_giveUp_40 : decode cX8_giveUp 40 = .ok (.ifnull 8, 3) := by decide +kernel
theorem dX8_giveUp_43 : decode cX8_giveUp 43 = .ok (.aload 5, 2) := by decide +kernel
theorem dX8_giveUp_45 : decode cX8_giveUp 45 = .ok (.invokevirtual 173, 3) := by decide +kernel
theorem dX8_giveUp_48 : decode cX8_giveUp 48 = .ok (.aload 4, 2) := by decide +kernel
theorem dX8_giveUp_50 : decode cX8_giveUp 50 = .ok (.aload_n 3, 1) := by decide +kernel
theorem dX8_giveUp_51 : decode cX8_giveUp 51 = .ok (.invokevirtual 178, 3) := by decide +kernel
theorem dX8_giveUp_54 : decode cX8_giveUp 54 = .ok (.aload_n 3, 1) := by decide +kernel
theorem dX8_giveUp_55 : decode cX8_giveUp 55 = .ok (.aconst_null, 1) := by decide +kernel
theorem dX8_giveUp_56 : decode cX8_giveUp 56 = .ok (.putfield 158, 3) := by decide +kernel
theorem dX8_giveUp_59 : decode cX8_giveUp 59 = .ok (.aload 4, 2) := by decide +kernel
theorem dX8_giveUp_61 : decode cX8_giveUp 61 = .ok (.getfield 96, 3) := by decide +kernel
theorem dX8_giveUp_64 : decode cX8_giveUp 64 = .ok (.ireturn, 1) := by decide +kernel
theorem dX8_left_0 : decode cX8_left 0 = .ok (.aload_n 0, 1) := by decide +kernel
theorem dX8_left_1 : decode cX8_left 1 = .ok (.iload_n 1, 1) := by decide +kernel
theorem dX8_left_2 : decode cX8_left 2 = .ok (.iload_n 2, 1) := by decide +kernel
theorem dX8_left_3 : decode cX8_left 3 = .ok (.invokevirtual 154, 3) := by decide +kernel
theorem dX8_left_6 : decode cX8_left 6 = .ok (.getfield 182, 3) := by decide +kernel
theorem dX8_left_9 : decode cX8_left 9 = .ok (.ireturn, 1) := by decide +kernel
theorem dX8_claimant_0 : decode cX8_claimant 0 = .ok (.aload_n 0, 1) := by decide +kernel
theorem dX8_claimant_1 : decode cX8_claimant 1 = .ok (.iload_n 1, 1) := by decide +kernel
theorem dX8_claimant_2 : decode cX8_claimant 2 = .ok (.iload_n 2, 1) := by decide +kernel
theorem dX8_claimant_3 : decode cX8_claimant 3 = .ok (.invokevirtual 154, 3) := by decide +kernel
theorem dX8_claimant_6 : decode cX8_claimant 6 = .ok (.getfield 158, 3) := by decide +kernel
theorem dX8_claimant_9 : decode cX8_claimant 9 = .ok (.astore_n 3, 1) := by decide +kernel
theorem dX8_claimant_10 : decode cX8_claimant 10 = .ok (.aload_n 3, 1) := by decide +kernel
theorem dX8_claimant_11 : decode cX8_claimant 11 = .ok (.ifnonnull 7, 3) := by decide +kernel
theorem dX8_claimant_14 : decode cX8_claimant 14 = .ok (.iconst (-1), 1) := by decide +kernel
theorem dX8_claimant_15 : decode cX8_claimant 15 = .ok (.goto 7, 3) := by decide +kernel
theorem dX8_claimant_18 : decode cX8_claimant 18 = .ok (.aload_n 3, 1) := by decide +kernel
theorem dX8_claimant_19 : decode cX8_claimant 19 = .ok (.getfield 96, 3) := by decide +kernel
theorem dX8_claimant_22 : decode cX8_claimant 22 = .ok (.ireturn, 1) := by decide +kernel
theorem dX8_amount_0 : decode cX8_amount 0 = .ok (.aload_n 0, 1) := by decide +kernel
theorem dX8_amount_1 : decode cX8_amount 1 = .ok (.iload_n 1, 1) := by decide +kernel
theorem dX8_amount_2 : decode cX8_amount 2 = .ok (.invokevirtual 116, 3) := by decide +kernel
theorem dX8_amount_5 : decode cX8_amount 5 = .ok (.getfield 126, 3) := by decide +kernel
theorem dX8_amount_8 : decode cX8_amount 8 = .ok (.ireturn, 1) := by decide +kernel
theorem dX8_trayCell_0 : decode cX8_trayCell 0 = .ok (.aload_n 0, 1) := by decide +kernel
theorem dX8_trayCell_1 : decode cX8_trayCell 1 = .ok (.iload_n 1, 1) := by decide +kernel
theorem dX8_trayCell_2 : decode cX8_trayCell 2 = .ok (.invokevirtual 116, 3) := by decide +kernel
theorem dX8_trayCell_5 : decode cX8_trayCell 5 = .ok (.astore_n 2, 1) := by decide +kernel
theorem dX8_trayCell_6 : decode cX8_trayCell 6 = .ok (.aload_n 0, 1) := by decide +kernel
theorem dX8_trayCell_7 : decode cX8_trayCell 7 = .ok (.getfield 10, 3) := by decide +kernel
theorem dX8_trayCell_10 : decode cX8_trayCell 10 = .ok (.aload_n 2, 1) := by decide +kernel
theorem dX8_trayCell_11 : decode cX8_trayCell 11 = .ok (.invokevirtual 120, 3) := by decide +kernel
theorem dX8_trayCell_14 : decode cX8_trayCell 14 = .ok (.astore_n 3, 1) := by decide +kernel
theorem dX8_trayCell_15 : decode cX8_trayCell 15 = .ok (.aload_n 3, 1) := by decide +kernel
theorem dX8_trayCell_16 : decode cX8_trayCell 16 = .ok (.ifnonnull 10, 3) := by decide +kernel
theorem dX8_trayCell_19 : decode cX8_trayCell 19 = .ok (.aload_n 2, 1) := by decide +kernel
theorem dX8_trayCell_20 : decode cX8_trayCell 20 = .ok (.getfield 185, 3) := by decide +kernel
theorem dX8_trayCell_23 : decode cX8_trayCell 23 = .ok (.goto 7, 3) := by decide +kernel
theorem dX8_trayCell_26 : decode cX8_trayCell 26 = .ok (.aload_n 3, 1) := by decide +kernel
theorem dX8_trayCell_27 : decode cX8_trayCell 27 = .ok (.getfield 188, 3) := by decide +kernel
theorem dX8_trayCell_30 : decode cX8_trayCell 30 = .ok (.ireturn, 1) := by decide +kernel
theorem dX8_addRobot_0 : decode cX8_addRobot 0 = .ok (.iload_n 1, 1) := by decide +kernel
theorem dX8_addRobot_1 : decode cX8_addRobot 1 = .ok (.invokestatic 36, 3) := by decide +kernel
theorem dX8_addRobot_4 : decode cX8_addRobot 4 = .ok (.iload_n 2, 1) := by decide +kernel
theorem dX8_addRobot_5 : decode cX8_addRobot 5 = .ok (.iconst 0, 1) := by decide +kernel
theorem dX8_addRobot_6 : decode cX8_addRobot 6 = .ok (.bipush 9, 2) := by decide +kernel
theorem dX8_addRobot_8 : decode cX8_addRobot 8 = .ok (.invokestatic 102, 3) := by decide +kernel
theorem dX8_addRobot_11 : decode cX8_addRobot 11 = .ok (.aload_n 0, 1) := by decide +kernel
theorem dX8_addRobot_12 : decode cX8_addRobot 12 = .ok (.getfield 10, 3) := by decide +kernel
theorem dX8_addRobot_15 : decode cX8_addRobot 15 = .ok (.getfield 40, 3) := by decide +kernel
theorem dX8_addRobot_18 : decode cX8_addRobot 18 = .ok (.iload_n 1, 1) := by decide +kernel
theorem dX8_addRobot_19 : decode cX8_addRobot 19 = .ok (.invokevirtual 44, 3) := by decide +kernel
theorem dX8_addRobot_22 : decode cX8_addRobot 22 = .ok (.ifCond .ne 29, 3) := by decide +kernel
theorem dX8_addRobot_25 : decode cX8_addRobot 25 = .ok (.aload_n 0, 1) := by decide +kernel
theorem dX8_addRobot_26 : decode cX8_addRobot 26 = .ok (.getfield 10, 3) := by decide +kernel
theorem dX8_addRobot_29 : decode cX8_addRobot 29 = .ok (.iload_n 1, 1) := by decide +kernel
theorem dX8_addRobot_30 : decode cX8_addRobot 30 = .ok (.invokevirtual 56, 3) := by decide +kernel
theorem dX8_addRobot_33 : decode cX8_addRobot 33 = .ok (.ifnonnull 18, 3) := by decide +kernel
theorem dX8_addRobot_36 : decode cX8_addRobot 36 = .ok (.aload_n 0, 1) := by decide +kernel
theorem dX8_addRobot_37 : decode cX8_addRobot 37 = .ok (.getfield 10, 3) := by decide +kernel
theorem dX8_addRobot_40 : decode cX8_addRobot 40 = .ok (.getfield 191, 3) := by decide +kernel
theorem dX8_addRobot_43 : decode cX8_addRobot 43 = .ok (.invokevirtual 81, 3) := by decide +kernel
theorem dX8_addRobot_46 : decode cX8_addRobot 46 = .ok (.bipush 6, 2) := by decide +kernel
theorem dX8_addRobot_48 : decode cX8_addRobot 48 = .ok (.if_icmp .lt 13, 3) := by decide +kernel
theorem dX8_addRobot_51 : decode cX8_addRobot 51 = .ok (.new 60, 3) := by decide +kernel
theorem dX8_addRobot_54 : decode cX8_addRobot 54 = .ok (.dup, 1) := by decide +kernel
theorem dX8_addRobot_55 : decode cX8_addRobot 55 = .ok (.ldc 194, 2) := by decide +kernel
theorem dX8_addRobot_57 : decode cX8_addRobot 57 = .ok (.invokespecial 64, 3) := by decide +kernel
theorem dX8_addRobot_60 : decode cX8_addRobot 60 = .ok (.athrow, 1) := by decide +kernel
theorem dX8_addRobot_61 : decode cX8_addRobot 61 = .ok (.new 174, 3) := by decide +kernel
theorem dX8_addRobot_64 : decode cX8_addRobot 64 = .ok (.dup, 1) := by decide +kernel
theorem dX8_addRobot_65 : decode cX8_addRobot 65 = .ok (.aload_n 0, 1) := by decide +kernel
theorem dX8_addRobot_66 : decode cX8_addRobot 66 = .ok (.getfield 10, 3) := by decide +kernel
theorem dX8_addRobot_69 : decode cX8_addRobot 69 = .ok (.getfield 191, 3) := by decide +kernel
theorem dX8_addRobot_72 : decode cX8_addRobot 72 = .ok (.invokevirtual 81, 3) := by decide +kernel
theorem dX8_addRobot_75 : decode cX8_addRobot 75 = .ok (.iload_n 1, 1) := by decide +kernel
theorem dX8_addRobot_76 : decode cX8_addRobot 76 = .ok (.iload_n 2, 1) := by decide +kernel
theorem dX8_addRobot_77 : decode cX8_addRobot 77 = .ok (.invokespecial 196, 3) := by decide +kernel
theorem dX8_addRobot_80 : decode cX8_addRobot 80 = .ok (.astore_n 3, 1) := by decide +kernel
theorem dX8_addRobot_81 : decode cX8_addRobot 81 = .ok (.aload_n 0, 1) := by decide +kernel
theorem dX8_addRobot_82 : decode cX8_addRobot 82 = .ok (.getfield 10, 3) := by decide +kernel
theorem dX8_addRobot_85 : decode cX8_addRobot 85 = .ok (.getfield 191, 3) := by decide +kernel
theorem dX8_addRobot_88 : decode cX8_addRobot 88 = .ok (.aload_n 3, 1) := by decide +kernel
theorem dX8_addRobot_89 : decode cX8_addRobot 89 = .ok (.invokevirtual 92, 3) := by decide +kernel
theorem dX8_addRobot_92 : decode cX8_addRobot 92 = .ok (.pop, 1) := by decide +kernel
theorem dX8_addRobot_93 : decode cX8_addRobot 93 = .ok (.aload_n 3, 1) := by decide +kernel
theorem dX8_addRobot_94 : decode cX8_addRobot 94 = .ok (.getfield 197, 3) := by decide +kernel
theorem dX8_addRobot_97 : decode cX8_addRobot 97 = .ok (.ireturn, 1) := by decide +kernel
theorem dX8_die_0 : decode cX8_die 0 = .ok (.aload_n 0, 1) := by decide +kernel
theorem dX8_die_1 : decode cX8_die 1 = .ok (.iload_n 1, 1) := by decide +kernel
theorem dX8_die_2 : decode cX8_die 2 = .ok (.invokevirtual 198, 3) := by decide +kernel
theorem dX8_die_5 : decode cX8_die 5 = .ok (.astore_n 2, 1) := by decide +kernel
theorem dX8_die_6 : decode cX8_die 6 = .ok (.aload_n 2, 1) := by decide +kernel
theorem dX8_die_7 : decode cX8_die 7 = .ok (.getfield 201, 3) := by decide +kernel
theorem dX8_die_10 : decode cX8_die 10 = .ok (.iconst 5, 1) := by decide +kernel
theorem dX8_die_11 : decode cX8_die 11 = .ok (.if_icmp .ne 13, 3) := by decide +kernel
theorem dX8_die_14 : decode cX8_die 14 = .ok (.new 60, 3) := by decide +kernel
theorem dX8_die_17 : decode cX8_die 17 = .ok (.dup, 1) := by decide +kernel
theorem dX8_die_18 : decode cX8_die 18 = .ok (.ldc 204, 2) := by decide +kernel
theorem dX8_die_20 : decode cX8_die 20 = .ok (.invokespecial 64, 3) := by decide +kernel
theorem dX8_die_23 : decode cX8_die 23 = .ok (.athrow, 1) := by decide +kernel
theorem dX8_die_24 : decode cX8_die 24 = .ok (.aload_n 2, 1) := by decide +kernel
theorem dX8_die_25 : decode cX8_die 25 = .ok (.invokevirtual 206, 3) := by decide +kernel
theorem dX8_die_28 : decode cX8_die 28 = .ok (.aload_n 0, 1) := by decide +kernel
theorem dX8_die_29 : decode cX8_die 29 = .ok (.getfield 10, 3) := by decide +kernel
theorem dX8_die_32 : decode cX8_die 32 = .ok (.getfield 40, 3) := by decide +kernel
theorem dX8_die_35 : decode cX8_die 35 = .ok (.aload_n 2, 1) := by decide +kernel
theorem dX8_die_36 : decode cX8_die 36 = .ok (.getfield 188, 3) := by decide +kernel
theorem dX8_die_39 : decode cX8_die 39 = .ok (.iconst 1, 1) := by decide +kernel
theorem dX8_die_40 : decode cX8_die 40 = .ok (.invokevirtual 209, 3) := by decide +kernel
theorem dX8_die_43 : decode cX8_die 43 = .ok (.aload_n 2, 1) := by decide +kernel
theorem dX8_die_44 : decode cX8_die 44 = .ok (.getfield 212, 3) := by decide +kernel
theorem dX8_die_47 : decode cX8_die 47 = .ok (.invokestatic 216, 3) := by decide +kernel
theorem dX8_die_50 : decode cX8_die 50 = .ok (.ireturn, 1) := by decide +kernel
theorem dX8_repair_0 : decode cX8_repair 0 = .ok (.aload_n 0, 1) := by decide +kernel
theorem dX8_repair_1 : decode cX8_repair 1 = .ok (.iload_n 1, 1) := by decide +kernel
theorem dX8_repair_2 : decode cX8_repair 2 = .ok (.invokevirtual 198, 3) := by decide +kernel
theorem dX8_repair_5 : decode cX8_repair 5 = .ok (.astore_n 2, 1) := by decide +kernel
theorem dX8_repair_6 : decode cX8_repair 6 = .ok (.aload_n 2, 1) := by decide +kernel
theorem dX8_repair_7 : decode cX8_repair 7 = .ok (.getfield 201, 3) := by decide +kernel
theorem dX8_repair_10 : decode cX8_repair 10 = .ok (.iconst 5, 1) := by decide +kernel
theorem dX8_repair_11 : decode cX8_repair 11 = .ok (.if_icmp .eq 13, 3) := by decide +kernel
theorem dX8_repair_14 : decode cX8_repair 14 = .ok (.new 60, 3) := by decide +kernel
theorem dX8_repair_17 : decode cX8_repair 17 = .ok (.dup, 1) := by decide +kernel
theorem dX8_repair_18 : decode cX8_repair 18 = .ok (.ldc 220, 2) := by decide +kernel
theorem dX8_repair_20 : decode cX8_repair 20 = .ok (.invokespecial 64, 3) := by decide +kernel
theorem dX8_repair_23 : decode cX8_repair 23 = .ok (.athrow, 1) := by decide +kernel
theorem dX8_repair_24 : decode cX8_repair 24 = .ok (.aload_n 2, 1) := by decide +kernel
theorem dX8_repair_25 : decode cX8_repair 25 = .ok (.aload_n 2, 1) := by decide +kernel
theorem dX8_repair_26 : decode cX8_repair 26 = .ok (.getfield 212, 3) := by decide +kernel
theorem dX8_repair_29 : decode cX8_repair 29 = .ok (.ifnonnull 7, 3) := by decide +kernel
theorem dX8_repair_32 : decode cX8_repair 32 = .ok (.iconst 0, 1) := by decide +kernel
theorem dX8_repair_33 : decode cX8_repair 33 = .ok (.goto 4, 3) := by decide +kernel
theorem dX8_repair_36 : decode cX8_repair 36 = .ok (.iconst 4, 1) := by decide +kernel
theorem dX8_repair_37 : decode cX8_repair 37 = .ok (.invokevirtual 222, 3) := by decide +kernel
theorem dX8_repair_40 : decode cX8_repair 40 = .ok (.aload_n 0, 1) := by decide +kernel
theorem dX8_repair_41 : decode cX8_repair 41 = .ok (.getfield 10, 3) := by decide +kernel
theorem dX8_repair_44 : decode cX8_repair 44 = .ok (.getfield 40, 3) := by decide +kernel
theorem dX8_repair_47 : decode cX8_repair 47 = .ok (.aload_n 2, 1) := by decide +kernel
theorem dX8_repair_48 : decode cX8_repair 48 = .ok (.getfield 188, 3) := by decide +kernel
theorem dX8_repair_51 : decode cX8_repair 51 = .ok (.iconst 0, 1) := by decide +kernel
theorem dX8_repair_52 : decode cX8_repair 52 = .ok (.invokevirtual 209, 3) := by decide +kernel
theorem dX8_repair_55 : decode cX8_repair 55 = .ok (.aload_n 2, 1) := by decide +kernel
theorem dX8_repair_56 : decode cX8_repair 56 = .ok (.getfield 201, 3) := by decide +kernel
theorem dX8_repair_59 : decode cX8_repair 59 = .ok (.ireturn, 1) := by decide +kernel
theorem dX8_robotIn_0 : decode cX8_robotIn 0 = .ok (.iload_n 1, 1) := by decide +kernel
theorem dX8_robotIn_1 : decode cX8_robotIn 1 = .ok (.invokestatic 36, 3) := by decide +kernel
theorem dX8_robotIn_4 : decode cX8_robotIn 4 = .ok (.aload_n 0, 1) := by decide +kernel
theorem dX8_robotIn_5 : decode cX8_robotIn 5 = .ok (.getfield 10, 3) := by decide +kernel
theorem dX8_robotIn_8 : decode cX8_robotIn 8 = .ok (.iload_n 1, 1) := by decide +kernel
theorem dX8_robotIn_9 : decode cX8_robotIn 9 = .ok (.invokevirtual 56, 3) := by decide +kernel
theorem dX8_robotIn_12 : decode cX8_robotIn 12 = .ok (.astore_n 2, 1) := by decide +kernel
theorem dX8_robotIn_13 : decode cX8_robotIn 13 = .ok (.aload_n 2, 1) := by decide +kernel
theorem dX8_robotIn_14 : decode cX8_robotIn 14 = .ok (.ifnonnull 7, 3) := by decide +kernel
theorem dX8_robotIn_17 : decode cX8_robotIn 17 = .ok (.iconst (-1), 1) := by decide +kernel
theorem dX8_robotIn_18 : decode cX8_robotIn 18 = .ok (.goto 7, 3) := by decide +kernel
theorem dX8_robotIn_21 : decode cX8_robotIn 21 = .ok (.aload_n 2, 1) := by decide +kernel
theorem dX8_robotIn_22 : decode cX8_robotIn 22 = .ok (.getfield 197, 3) := by decide +kernel
theorem dX8_robotIn_25 : decode cX8_robotIn 25 = .ok (.ireturn, 1) := by decide +kernel
theorem dX8_cellOf_0 : decode cX8_cellOf 0 = .ok (.aload_n 0, 1) := by decide +kernel
theorem dX8_cellOf_1 : decode cX8_cellOf 1 = .ok (.iload_n 1, 1) := by decide +kernel
theorem dX8_cellOf_2 : decode cX8_cellOf 2 = .ok (.invokevirtual 198, 3) := by decide +kernel
theorem dX8_cellOf_5 : decode cX8_cellOf 5 = .ok (.getfield 188, 3) := by decide +kernel
theorem dX8_cellOf_8 : decode cX8_cellOf 8 = .ok (.ireturn, 1) := by decide +kernel
theorem dX8_state_0 : decode cX8_state 0 = .ok (.aload_n 0, 1) := by decide +kernel
theorem dX8_state_1 : decode cX8_state 1 = .ok (.iload_n 1, 1) := by decide +kernel
theorem dX8_state_2 : decode cX8_state 2 = .ok (.invokevirtual 198, 3) := by decide +kernel
theorem dX8_state_5 : decode cX8_state 5 = .ok (.getfield 201, 3) := by decide +kernel
theorem dX8_state_8 : decode cX8_state 8 = .ok (.ireturn, 1) := by decide +kernel
theorem dX8_trayOf_0 : decode cX8_trayOf 0 = .ok (.aload_n 0, 1) := by decide +kernel
theorem dX8_trayOf_1 : decode cX8_trayOf 1 = .ok (.iload_n 1, 1) := by decide +kernel
theorem dX8_trayOf_2 : decode cX8_trayOf 2 = .ok (.invokevirtual 198, 3) := by decide +kernel
theorem dX8_trayOf_5 : decode cX8_trayOf 5 = .ok (.getfield 212, 3) := by decide +kernel
theorem dX8_trayOf_8 : decode cX8_trayOf 8 = .ok (.invokestatic 216, 3) := by decide +kernel
theorem dX8_trayOf_11 : decode cX8_trayOf 11 = .ok (.ireturn, 1) := by decide +kernel
theorem dX8_asked_0 : decode cX8_asked 0 = .ok (.aload_n 0, 1) := by decide +kernel
theorem dX8_asked_1 : decode cX8_asked 1 = .ok (.iload_n 1, 1) := by decide +kernel
theorem dX8_asked_2 : decode cX8_asked 2 = .ok (.invokevirtual 198, 3) := by decide +kernel
theorem dX8_asked_5 : decode cX8_asked 5 = .ok (.getfield 225, 3) := by decide +kernel
theorem dX8_asked_8 : decode cX8_asked 8 = .ok (.ireturn, 1) := by decide +kernel
theorem dX8_tick_0 : decode cX8_tick 0 = .ok (.iload_n 1, 1) := by decide +kernel
theorem dX8_tick_1 : decode cX8_tick 1 = .ok (.iconst 1, 1) := by decide +kernel
theorem dX8_tick_2 : decode cX8_tick 2 = .ok (.bipush 50, 2) := by decide +kernel
theorem dX8_tick_4 : decode cX8_tick 4 = .ok (.invokestatic 102, 3) := by decide +kernel
theorem dX8_tick_7 : decode cX8_tick 7 = .ok (.aload_n 0, 1) := by decide +kernel
theorem dX8_tick_8 : decode cX8_tick 8 = .ok (.getfield 32, 3) := by decide +kernel
theorem dX8_tick_11 : decode cX8_tick 11 = .ok (.iload_n 1, 1) := by decide +kernel
theorem dX8_tick_12 : decode cX8_tick 12 = .ok (.iadd, 1) := by decide +kernel
theorem dX8_tick_13 : decode cX8_tick 13 = .ok (.sipush 3000, 3) := by decide +kernel
theorem dX8_tick_16 : decode cX8_tick 16 = .ok (.if_icmp .le 13, 3) := by decide +kernel
theorem dX8_tick_19 : decode cX8_tick 19 = .ok (.new 60, 3) := by decide +kernel
theorem dX8_tick_22 : decode cX8_tick 22 = .ok (.dup, 1) := by decide +kernel
theorem dX8_tick_23 : decode cX8_tick 23 = .ok (.ldc 228, 2) := by decide +kernel
theorem dX8_tick_25 : decode cX8_tick 25 = .ok (.invokespecial 64, 3) := by decide +kernel
theorem dX8_tick_28 : decode cX8_tick 28 = .ok (.athrow, 1) := by decide +kernel
theorem dX8_tick_29 : decode cX8_tick 29 = .ok (.aload_n 0, 1) := by decide +kernel
theorem dX8_tick_30 : decode cX8_tick 30 = .ok (.getfield 29, 3) := by decide +kernel
theorem dX8_tick_33 : decode cX8_tick 33 = .ok (.invokevirtual 81, 3) := by decide +kernel
theorem dX8_tick_36 : decode cX8_tick 36 = .ok (.istore_n 2, 1) := by decide +kernel
theorem dX8_tick_37 : decode cX8_tick 37 = .ok (.iconst 0, 1) := by decide +kernel
theorem dX8_tick_38 : decode cX8_tick 38 = .ok (.istore_n 3, 1) := by decide +kernel
theorem dX8_tick_39 : decode cX8_tick 39 = .ok (.iload_n 3, 1) := by decide +kernel
theorem dX8_tick_40 : decode cX8_tick 40 = .ok (.iload_n 1, 1) := by decide +kernel
theorem dX8_tick_41 : decode cX8_tick 41 = .ok (.if_icmp .ge 66, 3) := by decide +kernel
theorem dX8_tick_44 : decode cX8_tick 44 = .ok (.aload_n 0, 1) := by decide +kernel
theorem dX8_tick_45 : decode cX8_tick 45 = .ok (.dup, 1) := by decide +kernel
theorem dX8_tick_46 : decode cX8_tick 46 = .ok (.getfield 32, 3) := by decide +kernel
theorem dX8_tick_49 : decode cX8_tick 49 = .ok (.iconst 1, 1) := by decide +kernel
theorem dX8_tick_50 : decode cX8_tick 50 = .ok (.iadd, 1) := by decide +kernel
theorem dX8_tick_51 : decode cX8_tick 51 = .ok (.putfield 32, 3) := by decide +kernel
theorem dX8_tick_54 : decode cX8_tick 54 = .ok (.aload_n 0, 1) := by decide +kernel
theorem dX8_tick_55 : decode cX8_tick 55 = .ok (.invokevirtual 230, 3) := by decide +kernel
theorem dX8_tick_58 : decode cX8_tick 58 = .ok (.aload_n 0, 1) := by decide +kernel
theorem dX8_tick_59 : decode cX8_tick 59 = .ok (.invokevirtual 233, 3) := by decide +kernel
theorem dX8_tick_62 : decode cX8_tick 62 = .ok (.aload_n 0, 1) := by decide +kernel
theorem dX8_tick_63 : decode cX8_tick 63 = .ok (.getfield 10, 3) := by decide +kernel
theorem dX8_tick_66 : decode cX8_tick 66 = .ok (.aload_n 0, 1) := by decide +kernel
theorem dX8_tick_67 : decode cX8_tick 67 = .ok (.getfield 32, 3) := by decide +kernel
theorem dX8_tick_70 : decode cX8_tick 70 = .ok (.invokevirtual 236, 3) := by decide +kernel
theorem dX8_tick_73 : decode cX8_tick 73 = .ok (.aload_n 0, 1) := by decide +kernel
theorem dX8_tick_74 : decode cX8_tick 74 = .ok (.getfield 10, 3) := by decide +kernel
theorem dX8_tick_77 : decode cX8_tick 77 = .ok (.invokevirtual 239, 3) := by decide +kernel
theorem dX8_tick_80 : decode cX8_tick 80 = .ok (.aload_n 0, 1) := by decide +kernel
theorem dX8_tick_81 : decode cX8_tick 81 = .ok (.getfield 10, 3) := by decide +kernel
theorem dX8_tick_84 : decode cX8_tick 84 = .ok (.invokevirtual 242, 3) := by decide +kernel
theorem dX8_tick_87 : decode cX8_tick 87 = .ok (.aload_n 0, 1) := by decide +kernel
theorem dX8_tick_88 : decode cX8_tick 88 = .ok (.getfield 10, 3) := by decide +kernel
theorem dX8_tick_91 : decode cX8_tick 91 = .ok (.invokevirtual 245, 3) := by decide +kernel
theorem dX8_tick_94 : decode cX8_tick 94 = .ok (.aload_n 0, 1) := by decide +kernel
theorem dX8_tick_95 : decode cX8_tick 95 = .ok (.getfield 10, 3) := by decide +kernel
theorem dX8_tick_98 : decode cX8_tick 98 = .ok (.invokevirtual 248, 3) := by decide +kernel
theorem dX8_tick_101 : decode cX8_tick 101 = .ok (.iinc 3 1, 3) := by decide +kernel
theorem dX8_tick_104 : decode cX8_tick 104 = .ok (.goto (-65), 3) := by decide +kernel
theorem dX8_tick_107 : decode cX8_tick 107 = .ok (.aload_n 0, 1) := by decide +kernel
theorem dX8_tick_108 : decode cX8_tick 108 = .ok (.getfield 29, 3) := by decide +kernel
theorem dX8_tick_111 : decode cX8_tick 111 = .ok (.invokevirtual 81, 3) := by decide +kernel
theorem dX8_tick_114 : decode cX8_tick 114 = .ok (.iload_n 2, 1) := by decide +kernel
theorem dX8_tick_115 : decode cX8_tick 115 = .ok (.isub, 1) := by decide +kernel
theorem dX8_tick_116 : decode cX8_tick 116 = .ok (.ireturn, 1) := by decide +kernel
theorem dX8_time_0 : decode cX8_time 0 = .ok (.aload_n 0, 1) := by decide +kernel
theorem dX8_time_1 : decode cX8_time 1 = .ok (.getfield 32, 3) := by decide +kernel
theorem dX8_time_4 : decode cX8_time 4 = .ok (.ireturn, 1) := by decide +kernel
theorem dX8_steps_0 : decode cX8_steps 0 = .ok (.aload_n 0, 1) := by decide +kernel
theorem dX8_steps_1 : decode cX8_steps 1 = .ok (.getfield 10, 3) := by decide +kernel
theorem dX8_steps_4 : decode cX8_steps 4 = .ok (.getfield 251, 3) := by decide +kernel
theorem dX8_steps_7 : decode cX8_steps 7 = .ok (.ireturn, 1) := by decide +kernel
theorem dX8_rings_0 : decode cX8_rings 0 = .ok (.aload_n 0, 1) := by decide +kernel
theorem dX8_rings_1 : decode cX8_rings 1 = .ok (.getfield 10, 3) := by decide +kernel
theorem dX8_rings_4 : decode cX8_rings 4 = .ok (.getfield 254, 3) := by decide +kernel
theorem dX8_rings_7 : decode cX8_rings 7 = .ok (.ireturn, 1) := by decide +kernel
theorem dX8_yields_0 : decode cX8_yields 0 = .ok (.aload_n 0, 1) := by decide +kernel
theorem dX8_yields_1 : decode cX8_yields 1 = .ok (.getfield 10, 3) := by decide +kernel
theorem dX8_yields_4 : decode cX8_yields 4 = .ok (.getfield 257, 3) := by decide +kernel
theorem dX8_yields_7 : decode cX8_yields 7 = .ok (.ireturn, 1) := by decide +kernel
theorem dX8_knots_0 : decode cX8_knots 0 = .ok (.aload_n 0, 1) := by decide +kernel
theorem dX8_knots_1 : decode cX8_knots 1 = .ok (.getfield 10, 3) := by decide +kernel
theorem dX8_knots_4 : decode cX8_knots 4 = .ok (.getfield 260, 3) := by decide +kernel
theorem dX8_knots_7 : decode cX8_knots 7 = .ok (.ireturn, 1) := by decide +kernel
theorem dX8_stock_0 : decode cX8_stock 0 = .ok (.iload_n 1, 1) := by decide +kernel
theorem dX8_stock_1 : decode cX8_stock 1 = .ok (.invokestatic 99, 3) := by decide +kernel
theorem dX8_stock_4 : decode cX8_stock 4 = .ok (.iconst 0, 1) := by decide +kernel
theorem dX8_stock_5 : decode cX8_stock 5 = .ok (.istore_n 2, 1) := by decide +kernel
theorem dX8_stock_6 : decode cX8_stock 6 = .ok (.iconst 0, 1) := by decide +kernel
theorem dX8_stock_7 : decode cX8_stock 7 = .ok (.istore_n 3, 1) := by decide +kernel
theorem dX8_stock_8 : decode cX8_stock 8 = .ok (.iload_n 3, 1) := by decide +kernel
theorem dX8_stock_9 : decode cX8_stock 9 = .ok (.aload_n 0, 1) := by decide +kernel
theorem dX8_stock_10 : decode cX8_stock 10 = .ok (.getfield 23, 3) := by decide +kernel
theorem dX8_stock_13 : decode cX8_stock 13 = .ok (.invokevirtual 81, 3) := by decide +kernel
theorem dX8_stock_16 : decode cX8_stock 16 = .ok (.if_icmp .ge 39, 3) := by decide +kernel
theorem dX8_stock_19 : decode cX8_stock 19 = .ok (.aload_n 0, 1) := by decide +kernel
theorem dX8_stock_20 : decode cX8_stock 20 = .ok (.getfield 23, 3) := by decide +kernel
theorem dX8_stock_23 : decode cX8_stock 23 = .ok (.iload_n 3, 1) := by decide +kernel
theorem dX8_stock_24 : decode cX8_stock 24 = .ok (.invokevirtual 263, 3) := by decide +kernel
theorem dX8_stock_27 : decode cX8_stock 27 = .ok (.checkcast 108, 3) := by decide +kernel
theorem dX8_stock_30 : decode cX8_stock 30 = .ok (.astore 4, 2) := by decide +kernel
theorem dX8_stock_32 : decode cX8_stock 32 = .ok (.aload 4, 2) := by decide +kernel
theorem dX8_stock_34 : decode cX8_stock 34 = .ok (.getfield 267, 3) := by decide +kernel
theorem dX8_stock_37 : decode cX8_stock 37 = .ok (.iload_n 1, 1) := by decide +kernel
theorem dX8_stock_38 : decode cX8_stock 38 = .ok (.if_icmp .ne 11, 3) := by decide +kernel
theorem dX8_stock_41 : decode cX8_stock 41 = .ok (.iload_n 2, 1) := by decide +kernel
theorem dX8_stock_42 : decode cX8_stock 42 = .ok (.aload 4, 2) := by decide +kernel
theorem dX8_stock_44 : decode cX8_stock 44 = .ok (.getfield 126, 3) := by decide +kernel
theorem dX8_stock_47 : decode cX8_stock 47 = .ok (.iadd, 1) := by decide +kernel
theorem dX8_stock_48 : decode cX8_stock 48 = .ok (.istore_n 2, 1) := by decide +kernel
theorem dX8_stock_49 : decode cX8_stock 49 = .ok (.iinc 3 1, 3) := by decide +kernel
theorem dX8_stock_52 : decode cX8_stock 52 = .ok (.goto (-44), 3) := by decide +kernel
theorem dX8_stock_55 : decode cX8_stock 55 = .ok (.iload_n 2, 1) := by decide +kernel
theorem dX8_stock_56 : decode cX8_stock 56 = .ok (.ireturn, 1) := by decide +kernel
theorem dX8_stockByPicks_0 : decode cX8_stockByPicks 0 = .ok (.iload_n 1, 1) := by decide +kernel
theorem dX8_stockByPicks_1 : decode cX8_stockByPicks 1 = .ok (.invokestatic 99, 3) := by decide +kernel
theorem dX8_stockByPicks_4 : decode cX8_stockByPicks 4 = .ok (.iconst 0, 1) := by decide +kernel
theorem dX8_stockByPicks_5 : decode cX8_stockByPicks 5 = .ok (.istore_n 2, 1) := by decide +kernel
theorem dX8_stockByPicks_6 : decode cX8_stockByPicks 6 = .ok (.iconst 0, 1) := by decide +kernel
theorem dX8_stockByPicks_7 : decode cX8_stockByPicks 7 = .ok (.istore_n 3, 1) := by decide +kernel
theorem dX8_stockByPicks_8 : decode cX8_stockByPicks 8 = .ok (.iload_n 3, 1) := by decide +kernel
theorem dX8_stockByPicks_9 : decode cX8_stockByPicks 9 = .ok (.aload_n 0, 1) := by decide +kernel
theorem dX8_stockByPicks_10 : decode cX8_stockByPicks 10 = .ok (.getfield 23, 3) := by decide +kernel
theorem dX8_stockByPicks_13 : decode cX8_stockByPicks 13 = .ok (.invokevirtual 81, 3) := by decide +kernel
theorem dX8_stockByPicks_16 : decode cX8_stockByPicks 16 = .ok (.if_icmp .ge 39, 3) := by decide +kernel
theorem dX8_stockByPicks_19 : decode cX8_stockByPicks 19 = .ok (.aload_n 0, 1) := by decide +kernel
theorem dX8_stockByPicks_20 : decode cX8_stockByPicks 20 = .ok (.getfield 23, 3) := by decide +kernel
theorem dX8_stockByPicks_23 : decode cX8_stockByPicks 23 = .ok (.iload_n 3, 1) := by decide +kernel
theorem dX8_stockByPicks_24 : decode cX8_stockByPicks 24 = .ok (.invokevirtual 263, 3) := by decide +kernel
theorem dX8_stockByPicks_27 : decode cX8_stockByPicks 27 = .ok (.checkcast 108, 3) := by decide +kernel
theorem dX8_stockByPicks_30 : decode cX8_stockByPicks 30 = .ok (.astore 4, 2) := by decide +kernel
theorem dX8_stockByPicks_32 : decode cX8_stockByPicks 32 = .ok (.aload 4, 2) := by decide +kernel
theorem dX8_stockByPicks_34 : decode cX8_stockByPicks 34 = .ok (.getfield 267, 3) := by decide +kernel
theorem dX8_stockByPicks_37 : decode cX8_stockByPicks 37 = .ok (.iload_n 1, 1) := by decide +kernel
theorem dX8_stockByPicks_38 : decode cX8_stockByPicks 38 = .ok (.if_icmp .ne 11, 3) := by decide +kernel
theorem dX8_stockByPicks_41 : decode cX8_stockByPicks 41 = .ok (.iload_n 2, 1) := by decide +kernel
theorem dX8_stockByPicks_42 : decode cX8_stockByPicks 42 = .ok (.aload 4, 2) := by decide +kernel
theorem dX8_stockByPicks_44 : decode cX8_stockByPicks 44 = .ok (.getfield 270, 3) := by decide +kernel
theorem dX8_stockByPicks_47 : decode cX8_stockByPicks 47 = .ok (.iadd, 1) := by decide +kernel
theorem dX8_stockByPicks_48 : decode cX8_stockByPicks 48 = .ok (.istore_n 2, 1) := by decide +kernel
theorem dX8_stockByPicks_49 : decode cX8_stockByPicks 49 = .ok (.iinc 3 1, 3) := by decide +kernel
theorem dX8_stockByPicks_52 : decode cX8_stockByPicks 52 = .ok (.goto (-44), 3) := by decide +kernel
theorem dX8_stockByPicks_55 : decode cX8_stockByPicks 55 = .ok (.iconst 0, 1) := by decide +kernel
theorem dX8_stockByPicks_56 : decode cX8_stockByPicks 56 = .ok (.istore_n 3, 1) := by decide +kernel
theorem dX8_stockByPicks_57 : decode cX8_stockByPicks 57 = .ok (.iload_n 3, 1) := by decide +kernel
theorem dX8_stockByPicks_58 : decode cX8_stockByPicks 58 = .ok (.aload_n 0, 1) := by decide +kernel
theorem dX8_stockByPicks_59 : decode cX8_stockByPicks 59 = .ok (.getfield 29, 3) := by decide +kernel
theorem dX8_stockByPicks_62 : decode cX8_stockByPicks 62 = .ok (.invokevirtual 81, 3) := by decide +kernel
theorem dX8_stockByPicks_65 : decode cX8_stockByPicks 65 = .ok (.if_icmp .ge 33, 3) := by decide +kernel
theorem dX8_stockByPicks_68 : decode cX8_stockByPicks 68 = .ok (.aload_n 0, 1) := by decide +kernel
theorem dX8_stockByPicks_69 : decode cX8_stockByPicks 69 = .ok (.getfield 29, 3) := by decide +kernel
theorem dX8_stockByPicks_72 : decode cX8_stockByPicks 72 = .ok (.iload_n 3, 1) := by decide +kernel
theorem dX8_stockByPicks_73 : decode cX8_stockByPicks 73 = .ok (.invokevirtual 263, 3) := by decide +kernel
theorem dX8_stockByPicks_76 : decode cX8_stockByPicks 76 = .ok (.checkcast 273, 3) := by decide +kernel
theorem dX8_stockByPicks_79 : decode cX8_stockByPicks 79 = .ok (.getfield 275, 3) := by decide +kernel
theorem dX8_stockByPicks_82 : decode cX8_stockByPicks 82 = .ok (.getfield 267, 3) := by decide +kernel
theorem dX8_stockByPicks_85 : decode cX8_stockByPicks 85 = .ok (.iload_n 1, 1) := by decide +kernel
theorem dX8_stockByPicks_86 : decode cX8_stockByPicks 86 = .ok (.if_icmp .ne 6, 3) := by decide +kernel
theorem dX8_stockByPicks_89 : decode cX8_stockByPicks 89 = .ok (.iinc 2 (-1), 3) := by decide +kernel
theorem dX8_stockByPicks_92 : decode cX8_stockByPicks 92 = .ok (.iinc 3 1, 3) := by decide +kernel
theorem dX8_stockByPicks_95 : decode cX8_stockByPicks 95 = .ok (.goto (-38), 3) := by decide +kernel
theorem dX8_stockByPicks_98 : decode cX8_stockByPicks 98 = .ok (.iload_n 2, 1) := by decide +kernel
theorem dX8_stockByPicks_99 : decode cX8_stockByPicks 99 = .ok (.ireturn, 1) := by decide +kernel
theorem dX8_picks_0 : decode cX8_picks 0 = .ok (.aload_n 0, 1) := by decide +kernel
theorem dX8_picks_1 : decode cX8_picks 1 = .ok (.getfield 29, 3) := by decide +kernel
theorem dX8_picks_4 : decode cX8_picks 4 = .ok (.invokevirtual 81, 3) := by decide +kernel
theorem dX8_picks_7 : decode cX8_picks 7 = .ok (.ireturn, 1) := by decide +kernel
theorem dX8_pickedFrom_0 : decode cX8_pickedFrom 0 = .ok (.aload_n 0, 1) := by decide +kernel
theorem dX8_pickedFrom_1 : decode cX8_pickedFrom 1 = .ok (.iload_n 1, 1) := by decide +kernel
theorem dX8_pickedFrom_2 : decode cX8_pickedFrom 2 = .ok (.invokevirtual 276, 3) := by decide +kernel
theorem dX8_pickedFrom_5 : decode cX8_pickedFrom 5 = .ok (.getfield 275, 3) := by decide +kernel
theorem dX8_pickedFrom_8 : decode cX8_pickedFrom 8 = .ok (.getfield 115, 3) := by decide +kernel
theorem dX8_pickedFrom_11 : decode cX8_pickedFrom 11 = .ok (.ireturn, 1) := by decide +kernel
theorem dX8_pickedFor_0 : decode cX8_pickedFor 0 = .ok (.aload_n 0, 1) := by decide +kernel
theorem dX8_pickedFor_1 : decode cX8_pickedFor 1 = .ok (.iload_n 1, 1) := by decide +kernel
theorem dX8_pickedFor_2 : decode cX8_pickedFor 2 = .ok (.invokevirtual 276, 3) := by decide +kernel
theorem dX8_pickedFor_5 : decode cX8_pickedFor 5 = .ok (.getfield 280, 3) := by decide +kernel
theorem dX8_pickedFor_8 : decode cX8_pickedFor 8 = .ok (.getfield 135, 3) := by decide +kernel
theorem dX8_pickedFor_11 : decode cX8_pickedFor 11 = .ok (.ireturn, 1) := by decide +kernel
theorem dX8_pickedIn_0 : decode cX8_pickedIn 0 = .ok (.aload_n 0, 1) := by decide +kernel
theorem dX8_pickedIn_1 : decode cX8_pickedIn 1 = .ok (.iload_n 1, 1) := by decide +kernel
theorem dX8_pickedIn_2 : decode cX8_pickedIn 2 = .ok (.invokevirtual 276, 3) := by decide +kernel
theorem dX8_pickedIn_5 : decode cX8_pickedIn 5 = .ok (.getfield 284, 3) := by decide +kernel
theorem dX8_pickedIn_8 : decode cX8_pickedIn 8 = .ok (.ireturn, 1) := by decide +kernel
theorem dX8_requireRange_0 : decode cX8_requireRange 0 = .ok (.iload_n 0, 1) := by decide +kernel
theorem dX8_requireRange_1 : decode cX8_requireRange 1 = .ok (.iload_n 1, 1) := by decide +kernel
theorem dX8_requireRange_2 : decode cX8_requireRange 2 = .ok (.if_icmp .lt 8, 3) := by decide +kernel
theorem dX8_requireRange_5 : decode cX8_requireRange 5 = .ok (.iload_n 0, 1) := by decide +kernel
theorem dX8_requireRange_6 : decode cX8_requireRange 6 = .ok (.iload_n 2, 1) := by decide +kernel
theorem dX8_requireRange_7 : decode cX8_requireRange 7 = .ok (.if_icmp .le 14, 3) := by decide +kernel
theorem dX8_requireRange_10 : decode cX8_requireRange 10 = .ok (.new 287, 3) := by decide +kernel
theorem dX8_requireRange_13 : decode cX8_requireRange 13 = .ok (.dup, 1) := by decide +kernel
theorem dX8_requireRange_14 : decode cX8_requireRange 14 = .ok (.ldc_w 289, 3) := by decide +kernel
theorem dX8_requireRange_17 : decode cX8_requireRange 17 = .ok (.invokespecial 291, 3) := by decide +kernel
theorem dX8_requireRange_20 : decode cX8_requireRange 20 = .ok (.athrow, 1) := by decide +kernel
theorem dX8_requireRange_21 : decode cX8_requireRange 21 = .ok (.return_, 1) := by decide +kernel
theorem dX8_requireCell_0 : decode cX8_requireCell 0 = .ok (.iload_n 0, 1) := by decide +kernel
theorem dX8_requireCell_1 : decode cX8_requireCell 1 = .ok (.iconst 0, 1) := by decide +kernel
theorem dX8_requireCell_2 : decode cX8_requireCell 2 = .ok (.bipush 63, 2) := by decide +kernel
theorem dX8_requireCell_4 : decode cX8_requireCell 4 = .ok (.invokestatic 102, 3) := by decide +kernel
theorem dX8_requireCell_7 : decode cX8_requireCell 7 = .ok (.return_, 1) := by decide +kernel
theorem dX8_requireGood_0 : decode cX8_requireGood 0 = .ok (.iload_n 0, 1) := by decide +kernel
theorem dX8_requireGood_1 : decode cX8_requireGood 1 = .ok (.iconst 0, 1) := by decide +kernel
theorem dX8_requireGood_2 : decode cX8_requireGood 2 = .ok (.iconst 5, 1) := by decide +kernel
theorem dX8_requireGood_3 : decode cX8_requireGood 3 = .ok (.invokestatic 102, 3) := by decide +kernel
theorem dX8_requireGood_6 : decode cX8_requireGood 6 = .ok (.return_, 1) := by decide +kernel
theorem dX8_requireNumber_0 : decode cX8_requireNumber 0 = .ok (.iload_n 0, 1) := by decide +kernel
theorem dX8_requireNumber_1 : decode cX8_requireNumber 1 = .ok (.ifCond .lt 8, 3) := by decide +kernel
theorem dX8_requireNumber_4 : decode cX8_requireNumber 4 = .ok (.iload_n 0, 1) := by decide +kernel
theorem dX8_requireNumber_5 : decode cX8_requireNumber 5 = .ok (.iload_n 1, 1) := by decide +kernel
theorem dX8_requireNumber_6 : decode cX8_requireNumber 6 = .ok (.if_icmp .lt 14, 3) := by decide +kernel
theorem dX8_requireNumber_9 : decode cX8_requireNumber 9 = .ok (.new 292, 3) := by decide +kernel
theorem dX8_requireNumber_12 : decode cX8_requireNumber 12 = .ok (.dup, 1) := by decide +kernel
theorem dX8_requireNumber_13 : decode cX8_requireNumber 13 = .ok (.ldc_w 294, 3) := by decide +kernel
theorem dX8_requireNumber_16 : decode cX8_requireNumber 16 = .ok (.invokespecial 296, 3) := by decide +kernel
theorem dX8_requireNumber_19 : decode cX8_requireNumber 19 = .ok (.athrow, 1) := by decide +kernel
theorem dX8_requireNumber_20 : decode cX8_requireNumber 20 = .ok (.return_, 1) := by decide +kernel
theorem dX8_findStation_0 : decode cX8_findStation 0 = .ok (.iload_n 1, 1) := by decide +kernel
theorem dX8_findStation_1 : decode cX8_findStation 1 = .ok (.aload_n 0, 1) := by decide +kernel
theorem dX8_findStation_2 : decode cX8_findStation 2 = .ok (.getfield 19, 3) := by decide +kernel
theorem dX8_findStation_5 : decode cX8_findStation 5 = .ok (.invokevirtual 81, 3) := by decide +kernel
theorem dX8_findStation_8 : decode cX8_findStation 8 = .ok (.invokestatic 297, 3) := by decide +kernel
theorem dX8_findStation_11 : decode cX8_findStation 11 = .ok (.aload_n 0, 1) := by decide +kernel
theorem dX8_findStation_12 : decode cX8_findStation 12 = .ok (.getfield 19, 3) := by decide +kernel
theorem dX8_findStation_15 : decode cX8_findStation 15 = .ok (.iload_n 1, 1) := by decide +kernel
theorem dX8_findStation_16 : decode cX8_findStation 16 = .ok (.invokevirtual 263, 3) := by decide +kernel
theorem dX8_findStation_19 : decode cX8_findStation 19 = .ok (.checkcast 87, 3) := by decide +kernel
theorem dX8_findStation_22 : decode cX8_findStation 22 = .ok (.areturn, 1) := by decide +kernel
theorem dX8_findTray_0 : decode cX8_findTray 0 = .ok (.iload_n 1, 1) := by decide +kernel
theorem dX8_findTray_1 : decode cX8_findTray 1 = .ok (.aload_n 0, 1) := by decide +kernel
theorem dX8_findTray_2 : decode cX8_findTray 2 = .ok (.getfield 23, 3) := by decide +kernel
theorem dX8_findTray_5 : decode cX8_findTray 5 = .ok (.invokevirtual 81, 3) := by decide +kernel
theorem dX8_findTray_8 : decode cX8_findTray 8 = .ok (.invokestatic 297, 3) := by decide +kernel
theorem dX8_findTray_11 : decode cX8_findTray 11 = .ok (.aload_n 0, 1) := by decide +kernel
theorem dX8_findTray_12 : decode cX8_findTray 12 = .ok (.getfield 23, 3) := by decide +kernel
theorem dX8_findTray_15 : decode cX8_findTray 15 = .ok (.iload_n 1, 1) := by decide +kernel
theorem dX8_findTray_16 : decode cX8_findTray 16 = .ok (.invokevirtual 263, 3) := by decide +kernel
theorem dX8_findTray_19 : decode cX8_findTray 19 = .ok (.checkcast 108, 3) := by decide +kernel
theorem dX8_findTray_22 : decode cX8_findTray 22 = .ok (.areturn, 1) := by decide +kernel
theorem dX8_findOrder_0 : decode cX8_findOrder 0 = .ok (.iload_n 1, 1) := by decide +kernel
theorem dX8_findOrder_1 : decode cX8_findOrder 1 = .ok (.aload_n 0, 1) := by decide +kernel
theorem dX8_findOrder_2 : decode cX8_findOrder 2 = .ok (.getfield 26, 3) := by decide +kernel
theorem dX8_findOrder_5 : decode cX8_findOrder 5 = .ok (.invokevirtual 81, 3) := by decide +kernel
theorem dX8_findOrder_8 : decode cX8_findOrder 8 = .ok (.invokestatic 297, 3) := by decide +kernel
theorem dX8_findOrder_11 : decode cX8_findOrder 11 = .ok (.aload_n 0, 1) := by decide +kernel
theorem dX8_findOrder_12 : decode cX8_findOrder 12 = .ok (.getfield 26, 3) := by decide +kernel
theorem dX8_findOrder_15 : decode cX8_findOrder 15 = .ok (.iload_n 1, 1) := by decide +kernel
theorem dX8_findOrder_16 : decode cX8_findOrder 16 = .ok (.invokevirtual 263, 3) := by decide +kernel
theorem dX8_findOrder_19 : decode cX8_findOrder 19 = .ok (.checkcast 131, 3) := by decide +kernel
theorem dX8_findOrder_22 : decode cX8_findOrder 22 = .ok (.areturn, 1) := by decide +kernel
theorem dX8_findLine_0 : decode cX8_findLine 0 = .ok (.aload_n 0, 1) := by decide +kernel
theorem dX8_findLine_1 : decode cX8_findLine 1 = .ok (.iload_n 1, 1) := by decide +kernel
theorem dX8_findLine_2 : decode cX8_findLine 2 = .ok (.invokevirtual 136, 3) := by decide +kernel
theorem dX8_findLine_5 : decode cX8_findLine 5 = .ok (.getfield 140, 3) := by decide +kernel
theorem dX8_findLine_8 : decode cX8_findLine 8 = .ok (.astore_n 3, 1) := by decide +kernel
theorem dX8_findLine_9 : decode cX8_findLine 9 = .ok (.iload_n 2, 1) := by decide +kernel
theorem dX8_findLine_10 : decode cX8_findLine 10 = .ok (.aload_n 3, 1) := by decide +kernel
theorem dX8_findLine_11 : decode cX8_findLine 11 = .ok (.invokevirtual 81, 3) := by decide +kernel
theorem dX8_findLine_14 : decode cX8_findLine 14 = .ok (.invokestatic 297, 3) := by decide +kernel
theorem dX8_findLine_17 : decode cX8_findLine 17 = .ok (.aload_n 3, 1) := by decide +kernel
theorem dX8_findLine_18 : decode cX8_findLine 18 = .ok (.iload_n 2, 1) := by decide +kernel
theorem dX8_findLine_19 : decode cX8_findLine 19 = .ok (.invokevirtual 263, 3) := by decide +kernel
theorem dX8_findLine_22 : decode cX8_findLine 22 = .ok (.checkcast 145, 3) := by decide +kernel
theorem dX8_findLine_25 : decode cX8_findLine 25 = .ok (.areturn, 1) := by decide +kernel
theorem dX8_findRobot_0 : decode cX8_findRobot 0 = .ok (.iload_n 1, 1) := by decide +kernel
theorem dX8_findRobot_1 : decode cX8_findRobot 1 = .ok (.aload_n 0, 1) := by decide +kernel
theorem dX8_findRobot_2 : decode cX8_findRobot 2 = .ok (.getfield 10, 3) := by decide +kernel
theorem dX8_findRobot_5 : decode cX8_findRobot 5 = .ok (.getfield 191, 3) := by decide +kernel
theorem dX8_findRobot_8 : decode cX8_findRobot 8 = .ok (.invokevirtual 81, 3) := by decide +kernel
theorem dX8_findRobot_11 : decode cX8_findRobot 11 = .ok (.invokestatic 297, 3) := by decide +kernel
theorem dX8_findRobot_14 : decode cX8_findRobot 14 = .ok (.aload_n 0, 1) := by decide +kernel
theorem dX8_findRobot_15 : decode cX8_findRobot 15 = .ok (.getfield 10, 3) := by decide +kernel
theorem dX8_findRobot_18 : decode cX8_findRobot 18 = .ok (.getfield 191, 3) := by decide +kernel
theorem dX8_findRobot_21 : decode cX8_findRobot 21 = .ok (.iload_n 1, 1) := by decide +kernel
theorem dX8_findRobot_22 : decode cX8_findRobot 22 = .ok (.invokevirtual 263, 3) := by decide +kernel
theorem dX8_findRobot_25 : decode cX8_findRobot 25 = .ok (.checkcast 174, 3) := by decide +kernel
theorem dX8_findRobot_28 : decode cX8_findRobot 28 = .ok (.areturn, 1) := by decide +kernel
theorem dX8_findPick_0 : decode cX8_findPick 0 = .ok (.iload_n 1, 1) := by decide +kernel
theorem dX8_findPick_1 : decode cX8_findPick 1 = .ok (.aload_n 0, 1) := by decide +kernel
theorem dX8_findPick_2 : decode cX8_findPick 2 = .ok (.getfield 29, 3) := by decide +kernel
theorem dX8_findPick_5 : decode cX8_findPick 5 = .ok (.invokevirtual 81, 3) := by decide +kernel
theorem dX8_findPick_8 : decode cX8_findPick 8 = .ok (.invokestatic 297, 3) := by decide +kernel
theorem dX8_findPick_11 : decode cX8_findPick 11 = .ok (.aload_n 0, 1) := by decide +kernel
theorem dX8_findPick_12 : decode cX8_findPick 12 = .ok (.getfield 29, 3) := by decide +kernel
theorem dX8_findPick_15 : decode cX8_findPick 15 = .ok (.iload_n 1, 1) := by decide +kernel
theorem dX8_findPick_16 : decode cX8_findPick 16 = .ok (.invokevirtual 263, 3) := by decide +kernel
theorem dX8_findPick_19 : decode cX8_findPick 19 = .ok (.checkcast 273, 3) := by decide +kernel
theorem dX8_findPick_22 : decode cX8_findPick 22 = .ok (.areturn, 1) := by decide +kernel
theorem dX8_numberOf_0 : decode cX8_numberOf 0 = .ok (.aload_n 0, 1) := by decide +kernel
theorem dX8_numberOf_1 : decode cX8_numberOf 1 = .ok (.ifnonnull 7, 3) := by decide +kernel
theorem dX8_numberOf_4 : decode cX8_numberOf 4 = .ok (.iconst (-1), 1) := by decide +kernel
theorem dX8_numberOf_5 : decode cX8_numberOf 5 = .ok (.goto 7, 3) := by decide +kernel
theorem dX8_numberOf_8 : decode cX8_numberOf 8 = .ok (.aload_n 0, 1) := by decide +kernel
theorem dX8_numberOf_9 : decode cX8_numberOf 9 = .ok (.getfield 115, 3) := by decide +kernel
theorem dX8_numberOf_12 : decode cX8_numberOf 12 = .ok (.ireturn, 1) := by decide +kernel
theorem dX8_isHome_0 : decode cX8_isHome 0 = .ok (.iconst 0, 1) := by decide +kernel
theorem dX8_isHome_1 : decode cX8_isHome 1 = .ok (.istore_n 2, 1) := by decide +kernel
theorem dX8_isHome_2 : decode cX8_isHome 2 = .ok (.iload_n 2, 1) := by decide +kernel
theorem dX8_isHome_3 : decode cX8_isHome 3 = .ok (.aload_n 0, 1) := by decide +kernel
theorem dX8_isHome_4 : decode cX8_isHome 4 = .ok (.getfield 23, 3) := by decide +kernel
theorem dX8_isHome_7 : decode cX8_isHome 7 = .ok (.invokevirtual 81, 3) := by decide +kernel
theorem dX8_isHome_10 : decode cX8_isHome 10 = .ok (.if_icmp .ge 29, 3) := by decide +kernel
theorem dX8_isHome_13 : decode cX8_isHome 13 = .ok (.aload_n 0, 1) := by decide +kernel
theorem dX8_isHome_14 : decode cX8_isHome 14 = .ok (.getfield 23, 3) := by decide +kernel
theorem dX8_isHome_17 : decode cX8_isHome 17 = .ok (.iload_n 2, 1) := by decide +kernel
theorem dX8_isHome_18 : decode cX8_isHome 18 = .ok (.invokevirtual 263, 3) := by decide +kernel
theorem dX8_isHome_21 : decode cX8_isHome 21 = .ok (.checkcast 108, 3) := by decide +kernel
theorem dX8_isHome_24 : decode cX8_isHome 24 = .ok (.getfield 185, 3) := by decide +kernel
theorem dX8_isHome_27 : decode cX8_isHome 27 = .ok (.iload_n 1, 1) := by decide +kernel
theorem dX8_isHome_28 : decode cX8_isHome 28 = .ok (.if_icmp .ne 5, 3) := by decide +kernel
theorem dX8_isHome_31 : decode cX8_isHome 31 = .ok (.iconst 1, 1) := by decide +kernel
theorem dX8_isHome_32 : decode cX8_isHome 32 = .ok (.ireturn, 1) := by decide +kernel
theorem dX8_isHome_33 : decode cX8_isHome 33 = .ok (.iinc 2 1, 3) := by decide +kernel
theorem dX8_isHome_36 : decode cX8_isHome 36 = .ok (.goto (-34), 3) := by decide +kernel
theorem dX8_isHome_39 : decode cX8_isHome 39 = .ok (.iconst 0, 1) := by decide +kernel
theorem dX8_isHome_40 : decode cX8_isHome 40 = .ok (.ireturn, 1) := by decide +kernel
theorem dX8_isStation_0 : decode cX8_isStation 0 = .ok (.iconst 0, 1) := by decide +kernel
theorem dX8_isStation_1 : decode cX8_isStation 1 = .ok (.istore_n 2, 1) := by decide +kernel
theorem dX8_isStation_2 : decode cX8_isStation 2 = .ok (.iload_n 2, 1) := by decide +kernel
theorem dX8_isStation_3 : decode cX8_isStation 3 = .ok (.aload_n 0, 1) := by decide +kernel
theorem dX8_isStation_4 : decode cX8_isStation 4 = .ok (.getfield 19, 3) := by decide +kernel
theorem dX8_isStation_7 : decode cX8_isStation 7 = .ok (.invokevirtual 81, 3) := by decide +kernel
theorem dX8_isStation_10 : decode cX8_isStation 10 = .ok (.if_icmp .ge 29, 3) := by decide +kernel
theorem dX8_isStation_13 : decode cX8_isStation 13 = .ok (.aload_n 0, 1) := by decide +kernel
theorem dX8_isStation_14 : decode cX8_isStation 14 = .ok (.getfield 19, 3) := by decide +kernel
theorem dX8_isStation_17 : decode cX8_isStation 17 = .ok (.iload_n 2, 1) := by decide +kernel
theorem dX8_isStation_18 : decode cX8_isStation 18 = .ok (.invokevirtual 263, 3) := by decide +kernel
theorem dX8_isStation_21 : decode cX8_isStation 21 = .ok (.checkcast 87, 3) := by decide +kernel
theorem dX8_isStation_24 : decode cX8_isStation 24 = .ok (.getfield 300, 3) := by decide +kernel
theorem dX8_isStation_27 : decode cX8_isStation 27 = .ok (.iload_n 1, 1) := by decide +kernel
theorem dX8_isStation_28 : decode cX8_isStation 28 = .ok (.if_icmp .ne 5, 3) := by decide +kernel
theorem dX8_isStation_31 : decode cX8_isStation 31 = .ok (.iconst 1, 1) := by decide +kernel
theorem dX8_isStation_32 : decode cX8_isStation 32 = .ok (.ireturn, 1) := by decide +kernel
theorem dX8_isStation_33 : decode cX8_isStation 33 = .ok (.iinc 2 1, 3) := by decide +kernel
theorem dX8_isStation_36 : decode cX8_isStation 36 = .ok (.goto (-34), 3) := by decide +kernel
theorem dX8_isStation_39 : decode cX8_isStation 39 = .ok (.iconst 0, 1) := by decide +kernel
theorem dX8_isStation_40 : decode cX8_isStation 40 = .ok (.ireturn, 1) := by decide +kernel
theorem dX8_pickFromServing_0 : decode cX8_pickFromServing 0 = .ok (.iconst 0, 1) := by decide +kernel
theorem dX8_pickFromServing_1 : decode cX8_pickFromServing 1 = .ok (.istore_n 1, 1) := by decide +kernel
theorem dX8_pickFromServing_2 : decode cX8_pickFromServing 2 = .ok (.iload_n 1, 1) := by decide +kernel
theorem dX8_pickFromServing_3 : decode cX8_pickFromServing 3 = .ok (.aload_n 0, 1) := by decide +kernel
theorem dX8_pickFromServing_4 : decode cX8_pickFromServing 4 = .ok (.getfield 10, 3) := by decide +kernel
theorem dX8_pickFromServing_7 : decode cX8_pickFromServing 7 = .ok (.getfield 191, 3) := by decide +kernel
theorem dX8_pickFromServing_10 : decode cX8_pickFromServing 10 = .ok (.invokevirtual 81, 3) := by decide +kernel
theorem dX8_pickFromServing_13 : decode cX8_pickFromServing 13 = .ok (.if_icmp .ge 59, 3) := by decide +kernel
theorem dX8_pickFromServing_16 : decode cX8_pickFromServing 16 = .ok (.aload_n 0, 1) := by decide +kernel
theorem dX8_pickFromServing_17 : decode cX8_pickFromServing 17 = .ok (.getfield 10, 3) := by decide +kernel
theorem dX8_pickFromServing_20 : decode cX8_pickFromServing 20 = .ok (.getfield 191, 3) := by decide +kernel
theorem dX8_pickFromServing_23 : decode cX8_pickFromServing 23 = .ok (.iload_n 1, 1) := by decide +kernel
theorem dX8_pickFromServing_24 : decode cX8_pickFromServing 24 = .ok (.invokevirtual 263, 3) := by decide +kernel
theorem dX8_pickFromServing_27 : decode cX8_pickFromServing 27 = .ok (.checkcast 174, 3) := by decide +kernel
theorem dX8_pickFromServing_30 : decode cX8_pickFromServing 30 = .ok (.astore_n 2, 1) := by decide +kernel
theorem dX8_pickFromServing_31 : decode cX8_pickFromServing 31 = .ok (.aload_n 2, 1) := by decide +kernel
theorem dX8_pickFromServing_32 : decode cX8_pickFromServing 32 = .ok (.getfield 201, 3) := by decide +kernel
theorem dX8_pickFromServing_35 : decode cX8_pickFromServing 35 = .ok (.iconst 3, 1) := by decide +kernel
theorem dX8_pickFromServing_36 : decode cX8_pickFromServing 36 = .ok (.if_icmp .ne 30, 3) := by decide +kernel
theorem dX8_pickFromServing_39 : decode cX8_pickFromServing 39 = .ok (.aload_n 2, 1) := by decide +kernel
theorem dX8_pickFromServing_40 : decode cX8_pickFromServing 40 = .ok (.getfield 212, 3) := by decide +kernel
theorem dX8_pickFromServing_43 : decode cX8_pickFromServing 43 = .ok (.ifnull 23, 3) := by decide +kernel
theorem dX8_pickFromServing_46 : decode cX8_pickFromServing 46 = .ok (.aload_n 2, 1) := by decide +kernel
theorem dX8_pickFromServing_47 : decode cX8_pickFromServing 47 = .ok (.getfield 301, 3) := by decide +kernel
theorem dX8_pickFromServing_50 : decode cX8_pickFromServing 50 = .ok (.ifnull 16, 3) := by decide +kernel
theorem dX8_pickFromServing_53 : decode cX8_pickFromServing 53 = .ok (.aload_n 0, 1) := by decide +kernel
theorem dX8_pickFromServing_54 : decode cX8_pickFromServing 54 = .ok (.aload_n 2, 1) := by decide +kernel
theorem dX8_pickFromServing_55 : decode cX8_pickFromServing 55 = .ok (.aload_n 2, 1) := by decide +kernel
theorem dX8_pickFromServing_56 : decode cX8_pickFromServing 56 = .ok (.getfield 212, 3) := by decide +kernel
theorem dX8_pickFromServing_59 : decode cX8_pickFromServing 59 = .ok (.aload_n 2, 1) := by decide +kernel
theorem dX8_pickFromServing_60 : decode cX8_pickFromServing 60 = .ok (.getfield 301, 3) := by decide +kernel
theorem dX8_pickFromServing_63 : decode cX8_pickFromServing 63 = .ok (.invokevirtual 305, 3) := by decide +kernel
theorem dX8_pickFromServing_66 : decode cX8_pickFromServing 66 = .ok (.iinc 1 1, 3) := by decide +kernel
theorem dX8_pickFromServing_69 : decode cX8_pickFromServing 69 = .ok (.goto (-67), 3) := by decide +kernel
theorem dX8_pickFromServing_72 : decode cX8_pickFromServing 72 = .ok (.return_, 1) := by decide +kernel
theorem dX8_pick_0 : decode cX8_pick 0 = .ok (.aload_n 2, 1) := by decide +kernel
theorem dX8_pick_1 : decode cX8_pick 1 = .ok (.dup, 1) := by decide +kernel
theorem dX8_pick_2 : decode cX8_pick 2 = .ok (.getfield 126, 3) := by decide +kernel
theorem dX8_pick_5 : decode cX8_pick 5 = .ok (.iconst 1, 1) := by decide +kernel
theorem dX8_pick_6 : decode cX8_pick 6 = .ok (.isub, 1) := by decide +kernel
theorem dX8_pick_7 : decode cX8_pick 7 = .ok (.putfield 126, 3) := by decide +kernel
theorem dX8_pick_10 : decode cX8_pick 10 = .ok (.aload_n 3, 1) := by decide +kernel
theorem dX8_pick_11 : decode cX8_pick 11 = .ok (.dup, 1) := by decide +kernel
theorem dX8_pick_12 : decode cX8_pick 12 = .ok (.getfield 182, 3) := by decide +kernel
theorem dX8_pick_15 : decode cX8_pick 15 = .ok (.iconst 1, 1) := by decide +kernel
theorem dX8_pick_16 : decode cX8_pick 16 = .ok (.isub, 1) := by decide +kernel
theorem dX8_pick_17 : decode cX8_pick 17 = .ok (.putfield 182, 3) := by decide +kernel
theorem dX8_pick_20 : decode cX8_pick 20 = .ok (.aload_n 0, 1) := by decide +kernel
theorem dX8_pick_21 : decode cX8_pick 21 = .ok (.getfield 29, 3) := by decide +kernel
theorem dX8_pick_24 : decode cX8_pick 24 = .ok (.new 273, 3) := by decide +kernel
theorem dX8_pick_27 : decode cX8_pick 27 = .ok (.dup, 1) := by decide +kernel
theorem dX8_pick_28 : decode cX8_pick 28 = .ok (.aload_n 2, 1) := by decide +kernel
theorem dX8_pick_29 : decode cX8_pick 29 = .ok (.aload_n 3, 1) := by decide +kernel
theorem dX8_pick_30 : decode cX8_pick 30 = .ok (.getfield 309, 3) := by decide +kernel
theorem dX8_pick_33 : decode cX8_pick 33 = .ok (.aload_n 0, 1) := by decide +kernel
theorem dX8_pick_34 : decode cX8_pick 34 = .ok (.getfield 32, 3) := by decide +kernel
theorem dX8_pick_37 : decode cX8_pick 37 = .ok (.invokespecial 310, 3) := by decide +kernel
theorem dX8_pick_40 : decode cX8_pick 40 = .ok (.invokevirtual 92, 3) := by decide +kernel
theorem dX8_pick_43 : decode cX8_pick 43 = .ok (.pop, 1) := by decide +kernel
theorem dX8_pick_44 : decode cX8_pick 44 = .ok (.aload_n 2, 1) := by decide +kernel
theorem dX8_pick_45 : decode cX8_pick 45 = .ok (.getfield 126, 3) := by decide +kernel
theorem dX8_pick_48 : decode cX8_pick 48 = .ok (.ifCond .eq 10, 3) := by decide +kernel
theorem dX8_pick_51 : decode cX8_pick 51 = .ok (.aload_n 3, 1) := by decide +kernel
theorem dX8_pick_52 : decode cX8_pick 52 = .ok (.getfield 182, 3) := by decide +kernel
theorem dX8_pick_55 : decode cX8_pick 55 = .ok (.ifCond .ne 7, 3) := by decide +kernel
theorem dX8_pick_58 : decode cX8_pick 58 = .ok (.aload_n 1, 1) := by decide +kernel
theorem dX8_pick_59 : decode cX8_pick 59 = .ok (.invokevirtual 173, 3) := by decide +kernel
theorem dX8_pick_62 : decode cX8_pick 62 = .ok (.return_, 1) := by decide +kernel
theorem dX8_sendRobots_0 : decode cX8_sendRobots 0 = .ok (.iconst 0, 1) := by decide +kernel
theorem dX8_sendRobots_1 : decode cX8_sendRobots 1 = .ok (.istore_n 1, 1) := by decide +kernel
theorem dX8_sendRobots_2 : decode cX8_sendRobots 2 = .ok (.iload_n 1, 1) := by decide +kernel
theorem dX8_sendRobots_3 : decode cX8_sendRobots 3 = .ok (.aload_n 0, 1) := by decide +kernel
theorem dX8_sendRobots_4 : decode cX8_sendRobots 4 = .ok (.getfield 19, 3) := by decide +kernel
theorem dX8_sendRobots_7 : decode cX8_sendRobots 7 = .ok (.invokevirtual 81, 3) := by decide +kernel
theorem dX8_sendRobots_10 : decode cX8_sendRobots 10 = .ok (.if_icmp .ge 37, 3) := by decide +kernel
theorem dX8_sendRobots_13 : decode cX8_sendRobots 13 = .ok (.aload_n 0, 1) := by decide +kernel
theorem dX8_sendRobots_14 : decode cX8_sendRobots 14 = .ok (.getfield 19, 3) := by decide +kernel
theorem dX8_sendRobots_17 : decode cX8_sendRobots 17 = .ok (.iload_n 1, 1) := by decide +kernel
theorem dX8_sendRobots_18 : decode cX8_sendRobots 18 = .ok (.invokevirtual 263, 3) := by decide +kernel
theorem dX8_sendRobots_21 : decode cX8_sendRobots 21 = .ok (.checkcast 87, 3) := by decide +kernel
theorem dX8_sendRobots_24 : decode cX8_sendRobots 24 = .ok (.astore_n 2, 1) := by decide +kernel
theorem dX8_sendRobots_25 : decode cX8_sendRobots 25 = .ok (.aload_n 0, 1) := by decide +kernel
theorem dX8_sendRobots_26 : decode cX8_sendRobots 26 = .ok (.getfield 10, 3) := by decide +kernel
theorem dX8_sendRobots_29 : decode cX8_sendRobots 29 = .ok (.aload_n 2, 1) := by decide +kernel
theorem dX8_sendRobots_30 : decode cX8_sendRobots 30 = .ok (.invokevirtual 313, 3) := by decide +kernel
theorem dX8_sendRobots_33 : decode cX8_sendRobots 33 = .ok (.ifCond .ne 8, 3) := by decide +kernel
theorem dX8_sendRobots_36 : decode cX8_sendRobots 36 = .ok (.aload_n 0, 1) := by decide +kernel
theorem dX8_sendRobots_37 : decode cX8_sendRobots 37 = .ok (.aload_n 2, 1) := by decide +kernel
theorem dX8_sendRobots_38 : decode cX8_sendRobots 38 = .ok (.invokevirtual 317, 3) := by decide +kernel
theorem dX8_sendRobots_41 : decode cX8_sendRobots 41 = .ok (.iinc 1 1, 3) := by decide +kernel
theorem dX8_sendRobots_44 : decode cX8_sendRobots 44 = .ok (.goto (-42), 3) := by decide +kernel
theorem dX8_sendRobots_47 : decode cX8_sendRobots 47 = .ok (.return_, 1) := by decide +kernel
theorem dX8_sendRobotFor_0 : decode cX8_sendRobotFor 0 = .ok (.iconst 0, 1) := by decide +kernel
theorem dX8_sendRobotFor_1 : decode cX8_sendRobotFor 1 = .ok (.istore_n 2, 1) := by decide +kernel
theorem dX8_sendRobotFor_2 : decode cX8_sendRobotFor 2 = .ok (.iload_n 2, 1) := by decide +kernel
theorem dX8_sendRobotFor_3 : decode cX8_sendRobotFor 3 = .ok (.aload_n 1, 1) := by decide +kernel
theorem dX8_sendRobotFor_4 : decode cX8_sendRobotFor 4 = .ok (.getfield 164, 3) := by decide +kernel
theorem dX8_sendRobotFor_7 : decode cX8_sendRobotFor 7 = .ok (.invokevirtual 81, 3) := by decide +kernel
theorem dX8_sendRobotFor_10 : decode cX8_sendRobotFor 10 = .ok (.if_icmp .ge 83, 3) := by decide +kernel
theorem dX8_sendRobotFor_13 : decode cX8_sendRobotFor 13 = .ok (.aload_n 1, 1) := by decide +kernel
theorem dX8_sendRobotFor_14 : decode cX8_sendRobotFor 14 = .ok (.getfield 164, 3) := by decide +kernel
theorem dX8_sendRobotFor_17 : decode cX8_sendRobotFor 17 = .ok (.iload_n 2, 1) := by decide +kernel
theorem dX8_sendRobotFor_18 : decode cX8_sendRobotFor 18 = .ok (.invokevirtual 263, 3) := by decide +kernel
theorem dX8_sendRobotFor_21 : decode cX8_sendRobotFor 21 = .ok (.checkcast 145, 3) := by decide +kernel
theorem dX8_sendRobotFor_24 : decode cX8_sendRobotFor 24 = .ok (.astore_n 3, 1) := by decide +kernel
theorem dX8_sendRobotFor_25 : decode cX8_sendRobotFor 25 = .ok (.aload_n 3, 1) := by decide +kernel
theorem dX8_sendRobotFor_26 : decode cX8_sendRobotFor 26 = .ok (.getfield 182, 3) := by decide +kernel
theorem dX8_sendRobotFor_29 : decode cX8_sendRobotFor 29 = .ok (.ifCond .ne 7, 3) := by decide +kernel
theorem dX8_sendRobotFor_32 : decode cX8_sendRobotFor 32 = .ok (.aconst_null, 1) := by decide +kernel
theorem dX8_sendRobotFor_33 : decode cX8_sendRobotFor 33 = .ok (.goto 15, 3) := by decide +kernel
theorem dX8_sendRobotFor_36 : decode cX8_sendRobotFor 36 = .ok (.aload_n 0, 1) := by decide +kernel
theorem dX8_sendRobotFor_37 : decode cX8_sendRobotFor 37 = .ok (.aload_n 1, 1) := by decide +kernel
theorem dX8_sendRobotFor_38 : decode cX8_sendRobotFor 38 = .ok (.getfield 300, 3) := by decide +kernel
theorem dX8_sendRobotFor_41 : decode cX8_sendRobotFor 41 = .ok (.aload_n 3, 1) := by decide +kernel
theorem dX8_sendRobotFor_42 : decode cX8_sendRobotFor 42 = .ok (.getfield 321, 3) := by decide +kernel
theorem dX8_sendRobotFor_45 : decode cX8_sendRobotFor 45 = .ok (.invokevirtual 322, 3) := by decide +kernel
theorem dX8_sendRobotFor_48 : decode cX8_sendRobotFor 48 = .ok (.astore 4, 2) := by decide +kernel
theorem dX8_sendRobotFor_50 : decode cX8_sendRobotFor 50 = .ok (.aload 4, 2) := by decide +kernel
theorem dX8_sendRobotFor_52 : decode cX8_sendRobotFor 52 = .ok (.ifnonnull 7, 3) := by decide +kernel
theorem dX8_sendRobotFor_55 : decode cX8_sendRobotFor 55 = .ok (.aconst_null, 1) := by decide +kernel
theorem dX8_sendRobotFor_56 : decode cX8_sendRobotFor 56 = .ok (.goto 15, 3) := by decide +kernel
theorem dX8_sendRobotFor_59 : decode cX8_sendRobotFor 59 = .ok (.aload_n 0, 1) := by decide +kernel
theorem dX8_sendRobotFor_60 : decode cX8_sendRobotFor 60 = .ok (.getfield 10, 3) := by decide +kernel
theorem dX8_sendRobotFor_63 : decode cX8_sendRobotFor 63 = .ok (.aload 4, 2) := by decide +kernel
theorem dX8_sendRobotFor_65 : decode cX8_sendRobotFor 65 = .ok (.getfield 185, 3) := by decide +kernel
theorem dX8_sendRobotFor_68 : decode cX8_sendRobotFor 68 = .ok (.invokevirtual 326, 3) := by decide +kernel
theorem dX8_sendRobotFor_71 : decode cX8_sendRobotFor 71 = .ok (.astore 5, 2) := by decide +kernel
theorem dX8_sendRobotFor_73 : decode cX8_sendRobotFor 73 = .ok (.aload 5, 2) := by decide +kernel
theorem dX8_sendRobotFor_75 : decode cX8_sendRobotFor 75 = .ok (.ifnull 12, 3) := by decide +kernel
theorem dX8_sendRobotFor_78 : decode cX8_sendRobotFor 78 = .ok (.aload 5, 2) := by decide +kernel
theorem dX8_sendRobotFor_80 : decode cX8_sendRobotFor 80 = .ok (.aload 4, 2) := by decide +kernel
theorem dX8_sendRobotFor_82 : decode cX8_sendRobotFor 82 = .ok (.aload_n 3, 1) := by decide +kernel
theorem dX8_sendRobotFor_83 : decode cX8_sendRobotFor 83 = .ok (.invokevirtual 329, 3) := by decide +kernel
theorem dX8_sendRobotFor_86 : decode cX8_sendRobotFor 86 = .ok (.return_, 1) := by decide +kernel
theorem dX8_sendRobotFor_87 : decode cX8_sendRobotFor 87 = .ok (.iinc 2 1, 3) := by decide +kernel
theorem dX8_sendRobotFor_90 : decode cX8_sendRobotFor 90 = .ok (.goto (-88), 3) := by decide +kernel
theorem dX8_sendRobotFor_93 : decode cX8_sendRobotFor 93 = .ok (.return_, 1) := by decide +kernel
theorem dX8_nearestTray_0 : decode cX8_nearestTray 0 = .ok (.aconst_null, 1) := by decide +kernel
theorem dX8_nearestTray_1 : decode cX8_nearestTray 1 = .ok (.astore_n 3, 1) := by decide +kernel
theorem dX8_nearestTray_2 : decode cX8_nearestTray 2 = .ok (.bipush 64, 2) := by decide +kernel
theorem dX8_nearestTray_4 : decode cX8_nearestTray 4 = .ok (.istore 4, 2) := by decide +kernel
theorem dX8_nearestTray_6 : decode cX8_nearestTray 6 = .ok (.iconst 0, 1) := by decide +kernel
theorem dX8_nearestTray_7 : decode cX8_nearestTray 7 = .ok (.istore 5, 2) := by decide +kernel
theorem dX8_nearestTray_9 : decode cX8_nearestTray 9 = .ok (.iload 5, 2) := by decide +kernel
theorem dX8_nearestTray_11 : decode cX8_nearestTray 11 = .ok (.aload_n 0, 1) := by decide +kernel
theorem dX8_nearestTray_12 : decode cX8_nearestTray 12 = .ok (.getfield 23, 3) := by decide +kernel
theorem dX8_nearestTray_15 : decode cX8_nearestTray 15 = .ok (.invokevirtual 81, 3) := by decide +kernel
theorem dX8_nearestTray_18 : decode cX8_nearestTray 18 = .ok (.if_icmp .ge 91, 3) := by decide +kernel
theorem dX8_nearestTray_21 : decode cX8_nearestTray 21 = .ok (.aload_n 0, 1) := by decide +kernel
theorem dX8_nearestTray_22 : decode cX8_nearestTray 22 = .ok (.getfield 23, 3) := by decide +kernel
theorem dX8_nearestTray_25 : decode cX8_nearestTray 25 = .ok (.iload 5, 2) := by decide +kernel
theorem dX8_nearestTray_27 : decode cX8_nearestTray 27 = .ok (.invokevirtual 263, 3) := by decide +kernel
theorem dX8_nearestTray_30 : decode cX8_nearestTray 30 = .ok (.checkcast 108, 3) := by decide +kernel
theorem dX8_nearestTray_33 : decode cX8_nearestTray 33 = .ok (.astore 6, 2) := by decide +kernel
theorem dX8_nearestTray_35 : decode cX8_nearestTray 35 = .ok (.aload 6, 2) := by decide +kernel
theorem dX8_nearestTray_37 : decode cX8_nearestTray 37 = .ok (.getfield 267, 3) := by decide +kernel
theorem dX8_nearestTray_40 : decode cX8_nearestTray 40 = .ok (.iload_n 2, 1) := by decide +kernel
theorem dX8_nearestTray_41 : decode cX8_nearestTray 41 = .ok (.if_icmp .ne 62, 3) := by decide +kernel
theorem dX8_nearestTray_44 : decode cX8_nearestTray 44 = .ok (.aload 6, 2) := by decide +kernel
theorem dX8_nearestTray_46 : decode cX8_nearestTray 46 = .ok (.getfield 126, 3) := by decide +kernel
theorem dX8_nearestTray_49 : decode cX8_nearestTray 49 = .ok (.ifCond .le 54, 3) := by decide +kernel
theorem dX8_nearestTray_52 : decode cX8_nearestTray 52 = .ok (.aload_n 0, 1) := by decide +kernel
theorem dX8_nearestTray_53 : decode cX8_nearestTray 53 = .ok (.getfield 10, 3) := by decide +kernel
theorem dX8_nearestTray_56 : decode cX8_nearestTray 56 = .ok (.aload 6, 2) := by decide +kernel
theorem dX8_nearestTray_58 : decode cX8_nearestTray 58 = .ok (.invokevirtual 333, 3) := by decide +kernel
theorem dX8_nearestTray_61 : decode cX8_nearestTray 61 = .ok (.ifnonnull 42, 3) := by decide +kernel
theorem dX8_nearestTray_64 : decode cX8_nearestTray 64 = .ok (.aload_n 0, 1) := by decide +kernel
theorem dX8_nearestTray_65 : decode cX8_nearestTray 65 = .ok (.getfield 10, 3) := by decide +kernel
theorem dX8_nearestTray_68 : decode cX8_nearestTray 68 = .ok (.getfield 40, 3) := by decide +kernel
theorem dX8_nearestTray_71 : decode cX8_nearestTray 71 = .ok (.iload_n 1, 1) := by decide +kernel
theorem dX8_nearestTray_72 : decode cX8_nearestTray 72 = .ok (.aload 6, 2) := by decide +kernel
theorem dX8_nearestTray_74 : decode cX8_nearestTray 74 = .ok (.getfield 185, 3) := by decide +kernel
theorem dX8_nearestTray_77 : decode cX8_nearestTray 77 = .ok (.iconst (-1), 1) := by decide +kernel
theorem dX8_nearestTray_78 : decode cX8_nearestTray 78 = .ok (.invokevirtual 77, 3) := by decide +kernel
theorem dX8_nearestTray_81 : decode cX8_nearestTray 81 = .ok (.istore 7, 2) := by decide +kernel
theorem dX8_nearestTray_83 : decode cX8_nearestTray 83 = .ok (.iload 7, 2) := by decide +kernel
theorem dX8_nearestTray_85 : decode cX8_nearestTray 85 = .ok (.iconst (-1), 1) := by decide +kernel
theorem dX8_nearestTray_86 : decode cX8_nearestTray 86 = .ok (.if_icmp .eq 17, 3) := by decide +kernel
theorem dX8_nearestTray_89 : decode cX8_nearestTray 89 = .ok (.iload 7, 2) := by decide +kernel
theorem dX8_nearestTray_91 : decode cX8_nearestTray 91 = .ok (.iload 4, 2) := by decide +kernel
theorem dX8_nearestTray_93 : decode cX8_nearestTray 93 = .ok (.if_icmp .ge 10, 3) := by decide +kernel
theorem dX8_nearestTray_96 : decode cX8_nearestTray 96 = .ok (.aload 6, 2) := by decide +kernel
theorem dX8_nearestTray_98 : decode cX8_nearestTray 98 = .ok (.astore_n 3, 1) := by decide +kernel
theorem dX8_nearestTray_99 : decode cX8_nearestTray 99 = .ok (.iload 7, 2) := by decide +kernel
theorem dX8_nearestTray_101 : decode cX8_nearestTray 101 = .ok (.istore 4, 2) := by decide +kernel
theorem dX8_nearestTray_103 : decode cX8_nearestTray 103 = .ok (.iinc 5 1, 3) := by decide +kernel
theorem dX8_nearestTray_106 : decode cX8_nearestTray 106 = .ok (.goto (-97), 3) := by decide +kernel
theorem dX8_nearestTray_109 : decode cX8_nearestTray 109 = .ok (.aload_n 3, 1) := by decide +kernel
theorem dX8_nearestTray_110 : decode cX8_nearestTray 110 = .ok (.areturn, 1) := by decide +kernel
end
section
theorem dX9_init_0 : decode cX9_init 0 = .ok (.aload_n 0, 1) := by decide +kernel
theorem dX9_init_1 : decode cX9_init 1 = .ok (.invokespecial 1, 3) := by decide +kernel
theorem dX9_init_4 : decode cX9_init 4 = .ok (.aload_n 0, 1) := by decide +kernel
theorem dX9_init_5 : decode cX9_init 5 = .ok (.bipush 64, 2) := by decide +kernel
theorem dX9_init_7 : decode cX9_init 7 = .ok (.newarray .boolean, 2) := by decide +kernel
theorem dX9_init_9 : decode cX9_init 9 = .ok (.putfield 7, 3) := by decide +kernel
theorem dX9_init_12 : decode cX9_init 12 = .ok (.aload_n 0, 1) := by decide +kernel
theorem dX9_init_13 : decode cX9_init 13 = .ok (.bipush 64, 2) := by decide +kernel
theorem dX9_init_15 : decode cX9_init 15 = .ok (.newarray .boolean, 2) := by decide +kernel
theorem dX9_init_17 : decode cX9_init 17 = .ok (.putfield 13, 3) := by decide +kernel
theorem dX9_init_20 : decode cX9_init 20 = .ok (.aload_n 0, 1) := by decide +kernel
theorem dX9_init_21 : decode cX9_init 21 = .ok (.iconst 3, 1) := by decide +kernel
theorem dX9_init_22 : decode cX9_init 22 = .ok (.newarray .int, 2) := by decide +kernel
theorem dX9_init_24 : decode cX9_init 24 = .ok (.putfield 16, 3) := by decide +kernel
theorem dX9_init_27 : decode cX9_init 27 = .ok (.aload_n 0, 1) := by decide +kernel
theorem dX9_init_28 : decode cX9_init 28 = .ok (.bipush 16, 2) := by decide +kernel
theorem dX9_init_30 : decode cX9_init 30 = .ok (.newarray .int, 2) := by decide +kernel
theorem dX9_init_32 : decode cX9_init 32 = .ok (.putfield 20, 3) := by decide +kernel
theorem dX9_init_35 : decode cX9_init 35 = .ok (.aload_n 0, 1) := by decide +kernel
theorem dX9_init_36 : decode cX9_init 36 = .ok (.bipush 16, 2) := by decide +kernel
theorem dX9_init_38 : decode cX9_init 38 = .ok (.newarray .int, 2) := by decide +kernel
theorem dX9_init_40 : decode cX9_init 40 = .ok (.putfield 23, 3) := by decide +kernel
theorem dX9_init_43 : decode cX9_init 43 = .ok (.aload_n 0, 1) := by decide +kernel
theorem dX9_init_44 : decode cX9_init 44 = .ok (.bipush 16, 2) := by decide +kernel
theorem dX9_init_46 : decode cX9_init 46 = .ok (.newarray .int, 2) := by decide +kernel
theorem dX9_init_48 : decode cX9_init 48 = .ok (.putfield 26, 3) := by decide +kernel
theorem dX9_init_51 : decode cX9_init 51 = .ok (.aload_n 0, 1) := by decide +kernel
theorem dX9_init_52 : decode cX9_init 52 = .ok (.bipush 10, 2) := by decide +kernel
theorem dX9_init_54 : decode cX9_init 54 = .ok (.newarray .int, 2) := by decide +kernel
theorem dX9_init_56 : decode cX9_init 56 = .ok (.putfield 29, 3) := by decide +kernel
theorem dX9_init_59 : decode cX9_init 59 = .ok (.aload_n 0, 1) := by decide +kernel
theorem dX9_init_60 : decode cX9_init 60 = .ok (.bipush 30, 2) := by decide +kernel
theorem dX9_init_62 : decode cX9_init 62 = .ok (.newarray .int, 2) := by decide +kernel
theorem dX9_init_64 : decode cX9_init 64 = .ok (.putfield 32, 3) := by decide +kernel
theorem dX9_init_67 : decode cX9_init 67 = .ok (.aload_n 0, 1) := by decide +kernel
theorem dX9_init_68 : decode cX9_init 68 = .ok (.bipush 30, 2) := by decide +kernel
theorem dX9_init_70 : decode cX9_init 70 = .ok (.newarray .int, 2) := by decide +kernel
theorem dX9_init_72 : decode cX9_init 72 = .ok (.putfield 35, 3) := by decide +kernel
theorem dX9_init_75 : decode cX9_init 75 = .ok (.aload_n 0, 1) := by decide +kernel
theorem dX9_init_76 : decode cX9_init 76 = .ok (.bipush 30, 2) := by decide +kernel
theorem dX9_init_78 : decode cX9_init 78 = .ok (.newarray .int, 2) := by decide +kernel
theorem dX9_init_80 : decode cX9_init 80 = .ok (.putfield 38, 3) := by decide +kernel
theorem dX9_init_83 : decode cX9_init 83 = .ok (.aload_n 0, 1) := by decide +kernel
theorem dX9_init_84 : decode cX9_init 84 = .ok (.bipush 30, 2) := by decide +kernel
theorem dX9_init_86 : decode cX9_init 86 = .ok (.newarray .int, 2) := by decide +kernel
theorem dX9_init_88 : decode cX9_init 88 = .ok (.putfield 41, 3) := by decide +kernel
theorem dX9_init_91 : decode cX9_init 91 = .ok (.aload_n 0, 1) := by decide +kernel
theorem dX9_init_92 : decode cX9_init 92 = .ok (.bipush 6, 2) := by decide +kernel
theorem dX9_init_94 : decode cX9_init 94 = .ok (.newarray .int, 2) := by decide +kernel
theorem dX9_init_96 : decode cX9_init 96 = .ok (.putfield 44, 3) := by decide +kernel
theorem dX9_init_99 : decode cX9_init 99 = .ok (.aload_n 0, 1) := by decide +kernel
theorem dX9_init_100 : decode cX9_init 100 = .ok (.bipush 6, 2) := by decide +kernel
theorem dX9_init_102 : decode cX9_init 102 = .ok (.newarray .int, 2) := by decide +kernel
theorem dX9_init_104 : decode cX9_init 104 = .ok (.putfield 47, 3) := by decide +kernel
theorem dX9_init_107 : decode cX9_init 107 = .ok (.aload_n 0, 1) := by decide +kernel
theorem dX9_init_108 : decode cX9_init 108 = .ok (.bipush 6, 2) := by decide +kernel
theorem dX9_init_110 : decode cX9_init 110 = .ok (.newarray .int, 2) := by decide +kernel
theorem dX9_init_112 : decode cX9_init 112 = .ok (.putfield 50, 3) := by decide +kernel
theorem dX9_init_115 : decode cX9_init 115 = .ok (.aload_n 0, 1) := by decide +kernel
theorem dX9_init_116 : decode cX9_init 116 = .ok (.bipush 6, 2) := by decide +kernel
theorem dX9_init_118 : decode cX9_init 118 = .ok (.newarray .int, 2) := by decide +kernel
theorem dX9_init_120 : decode cX9_init 120 = .ok (.putfield 53, 3) := by decide +kernel
theorem dX9_init_123 : decode cX9_init 123 = .ok (.aload_n 0, 1) := by decide +kernel
theorem dX9_init_124 : decode cX9_init 124 = .ok (.bipush 6, 2) := by decide +kernel
theorem dX9_init_126 : decode cX9_init 126 = .ok (.newarray .int, 2) := by decide +kernel
theorem dX9_init_128 : decode cX9_init 128 = .ok (.putfield 56, 3) := by decide +kernel
theorem dX9_init_131 : decode cX9_init 131 = .ok (.aload_n 0, 1) := by decide +kernel
theorem dX9_init_132 : decode cX9_init 132 = .ok (.bipush 6, 2) := by decide +kernel
theorem dX9_init_134 : decode cX9_init 134 = .ok (.newarray .int, 2) := by decide +kernel
theorem dX9_init_136 : decode cX9_init 136 = .ok (.putfield 59, 3) := by decide +kernel
theorem dX9_init_139 : decode cX9_init 139 = .ok (.aload_n 0, 1) := by decide +kernel
theorem dX9_init_140 : decode cX9_init 140 = .ok (.bipush 6, 2) := by decide +kernel
theorem dX9_init_142 : decode cX9_init 142 = .ok (.newarray .int, 2) := by decide +kernel
theorem dX9_init_144 : decode cX9_init 144 = .ok (.putfield 62, 3) := by decide +kernel
theorem dX9_init_147 : decode cX9_init 147 = .ok (.aload_n 0, 1) := by decide +kernel
theorem dX9_init_148 : decode cX9_init 148 = .ok (.bipush 6, 2) := by decide +kernel
theorem dX9_init_150 : decode cX9_init 150 = .ok (.newarray .int, 2) := by decide +kernel
theorem dX9_init_152 : decode cX9_init 152 = .ok (.putfield 65, 3) := by decide +kernel
theorem dX9_init_155 : decode cX9_init 155 = .ok (.aload_n 0, 1) := by decide +kernel
theorem dX9_init_156 : decode cX9_init 156 = .ok (.bipush 6, 2) := by decide +kernel
theorem dX9_init_158 : decode cX9_init 158 = .ok (.newarray .boolean, 2) := by decide +kernel
theorem dX9_init_160 : decode cX9_init 160 = .ok (.putfield 68, 3) := by decide +kernel
theorem dX9_init_163 : decode cX9_init 163 = .ok (.aload_n 0, 1) := by decide +kernel
theorem dX9_init_164 : decode cX9_init 164 = .ok (.bipush 6, 2) := by decide +kernel
theorem dX9_init_166 : decode cX9_init 166 = .ok (.newarray .int, 2) := by decide +kernel
theorem dX9_init_168 : decode cX9_init 168 = .ok (.putfield 71, 3) := by decide +kernel
theorem dX9_init_171 : decode cX9_init 171 = .ok (.aload_n 0, 1) := by decide +kernel
theorem dX9_init_172 : decode cX9_init 172 = .ok (.bipush 6, 2) := by decide +kernel
theorem dX9_init_174 : decode cX9_init 174 = .ok (.newarray .int, 2) := by decide +kernel
theorem dX9_init_176 : decode cX9_init 176 = .ok (.putfield 74, 3) := by decide +kernel
theorem dX9_init_179 : decode cX9_init 179 = .ok (.aload_n 0, 1) := by decide +kernel
theorem dX9_init_180 : decode cX9_init 180 = .ok (.bipush 6, 2) := by decide +kernel
theorem dX9_init_182 : decode cX9_init 182 = .ok (.newarray .int, 2) := by decide +kernel
theorem dX9_init_184 : decode cX9_init 184 = .ok (.putfield 77, 3) := by decide +kernel
theorem dX9_init_187 : decode cX9_init 187 = .ok (.aload_n 0, 1) := by decide +kernel
theorem dX9_init_188 : decode cX9_init 188 = .ok (.sipush 1500, 3) := by decide +kernel
theorem dX9_init_191 : decode cX9_init 191 = .ok (.newarray .int, 2) := by decide +kernel
theorem dX9_init_193 : decode cX9_init 193 = .ok (.putfield 80, 3) := by decide +kernel
theorem dX9_init_196 : decode cX9_init 196 = .ok (.aload_n 0, 1) := by decide +kernel
theorem dX9_init_197 : decode cX9_init 197 = .ok (.sipush 1500, 3) := by decide +kernel
theorem dX9_init_200 : decode cX9_init 200 = .ok (.newarray .int, 2) := by decide +kernel
theorem dX9_init_202 : decode cX9_init 202 = .ok (.putfield 83, 3) := by decide +kernel
theorem dX9_init_205 : decode cX9_init 205 = .ok (.aload_n 0, 1) := by decide +kernel
theorem dX9_init_206 : decode cX9_init 206 = .ok (.sipush 1500, 3) := by decide +kernel
theorem dX9_init_209 : decode cX9_init 209 = .ok (.newarray .int, 2) := by decide +kernel
theorem dX9_init_211 : decode cX9_init 211 = .ok (.putfield 86, 3) := by decide +kernel
theorem dX9_init_214 : decode cX9_init 214 = .ok (.aload_n 0, 1) := by decide +kernel
theorem dX9_init_215 : decode cX9_init 215 = .ok (.bipush 64, 2) := by decide +kernel
theorem dX9_init_217 : decode cX9_init 217 = .ok (.newarray .int, 2) := by decide +kernel
theorem dX9_init_219 : decode cX9_init 219 = .ok (.putfield 89, 3) := by decide +kernel
theorem dX9_init_222 : decode cX9_init 222 = .ok (.aload_n 0, 1) := by decide +kernel
theorem dX9_init_223 : decode cX9_init 223 = .ok (.bipush 64, 2) := by decide +kernel
theorem dX9_init_225 : decode cX9_init 225 = .ok (.newarray .int, 2) := by decide +kernel
theorem dX9_init_227 : decode cX9_init 227 = .ok (.putfield 92, 3) := by decide +kernel
theorem dX9_init_230 : decode cX9_init 230 = .ok (.return_, 1) := by decide +kernel
theorem dX9_thrown_0 : decode cX9_thrown 0 = .ok (.aload_n 0, 1) := by decide +kernel
theorem dX9_thrown_1 : decode cX9_thrown 1 = .ok (.getfield 95, 3) := by decide +kernel
theorem dX9_thrown_4 : decode cX9_thrown 4 = .ok (.ireturn, 1) := by decide +kernel
theorem dX9_holds_0 : decode cX9_holds 0 = .ok (.aload_n 0, 1) := by decide +kernel
theorem dX9_holds_1 : decode cX9_holds 1 = .ok (.iload_n 1, 1) := by decide +kernel
theorem dX9_holds_2 : decode cX9_holds 2 = .ok (.putfield 95, 3) := by decide +kernel
theorem dX9_holds_5 : decode cX9_holds 5 = .ok (.iload_n 1, 1) := by decide +kernel
theorem dX9_holds_6 : decode cX9_holds 6 = .ok (.ifCond .ne 7, 3) := by decide +kernel
theorem dX9_holds_9 : decode cX9_holds 9 = .ok (.iconst 1, 1) := by decide +kernel
theorem dX9_holds_10 : decode cX9_holds 10 = .ok (.goto 4, 3) := by decide +kernel
theorem dX9_holds_13 : decode cX9_holds 13 = .ok (.iconst 0, 1) := by decide +kernel
theorem dX9_holds_14 : decode cX9_holds 14 = .ok (.ireturn, 1) := by decide +kernel
theorem dX9_isIn_0 : decode cX9_isIn 0 = .ok (.iload_n 0, 1) := by decide +kernel
theorem dX9_isIn_1 : decode cX9_isIn 1 = .ok (.ifCond .lt 12, 3) := by decide +kernel
theorem dX9_isIn_4 : decode cX9_isIn 4 = .ok (.iload_n 0, 1) := by decide +kernel
theorem dX9_isIn_5 : decode cX9_isIn 5 = .ok (.iload_n 1, 1) := by decide +kernel
theorem dX9_isIn_6 : decode cX9_isIn 6 = .ok (.if_icmp .ge 7, 3) := by decide +kernel
theorem dX9_isIn_9 : decode cX9_isIn 9 = .ok (.iconst 1, 1) := by decide +kernel
theorem dX9_isIn_10 : decode cX9_isIn 10 = .ok (.goto 4, 3) := by decide +kernel
theorem dX9_isIn_13 : decode cX9_isIn 13 = .ok (.iconst 0, 1) := by decide +kernel
theorem dX9_isIn_14 : decode cX9_isIn 14 = .ok (.ireturn, 1) := by decide +kernel
theorem dX9_isCell_0 : decode cX9_isCell 0 = .ok (.iload_n 0, 1) := by decide +kernel
theorem dX9_isCell_1 : decode cX9_isCell 1 = .ok (.bipush 64, 2) := by decide +kernel
theorem dX9_isCell_3 : decode cX9_isCell 3 = .ok (.invokestatic 99, 3) := by decide +kernel
theorem dX9_isCell_6 : decode cX9_isCell 6 = .ok (.ireturn, 1) := by decide +kernel
theorem dX9_robotAt_0 : decode cX9_robotAt 0 = .ok (.iconst (-1), 1) := by decide +kernel
theorem dX9_robotAt_1 : decode cX9_robotAt 1 = .ok (.istore_n 2, 1) := by decide +kernel
theorem dX9_robotAt_2 : decode cX9_robotAt 2 = .ok (.iconst 0, 1) := by decide +kernel
theorem dX9_robotAt_3 : decode cX9_robotAt 3 = .ok (.istore_n 3, 1) := by decide +kernel
theorem dX9_robotAt_4 : decode cX9_robotAt 4 = .ok (.iload_n 3, 1) := by decide +kernel
theorem dX9_robotAt_5 : decode cX9_robotAt 5 = .ok (.aload_n 0, 1) := by decide +kernel
theorem dX9_robotAt_6 : decode cX9_robotAt 6 = .ok (.getfield 103, 3) := by decide +kernel
theorem dX9_robotAt_9 : decode cX9_robotAt 9 = .ok (.if_icmp .ge 25, 3) := by decide +kernel
theorem dX9_robotAt_12 : decode cX9_robotAt 12 = .ok (.aload_n 0, 1) := by decide +kernel
theorem dX9_robotAt_13 : decode cX9_robotAt 13 = .ok (.getfield 44, 3) := by decide +kernel
theorem dX9_robotAt_16 : decode cX9_robotAt 16 = .ok (.iload_n 3, 1) := by decide +kernel
theorem dX9_robotAt_17 : decode cX9_robotAt 17 = .ok (.iaload, 1) := by decide +kernel
theorem dX9_robotAt_18 : decode cX9_robotAt 18 = .ok (.iload_n 1, 1) := by decide +kernel
theorem dX9_robotAt_19 : decode cX9_robotAt 19 = .ok (.if_icmp .ne 7, 3) := by decide +kernel
theorem dX9_robotAt_22 : decode cX9_robotAt 22 = .ok (.iload_n 3, 1) := by decide +kernel
theorem dX9_robotAt_23 : decode cX9_robotAt 23 = .ok (.goto 4, 3) := by decide +kernel
theorem dX9_robotAt_26 : decode cX9_robotAt 26 = .ok (.iload_n 2, 1) := by decide +kernel
theorem dX9_robotAt_27 : decode cX9_robotAt 27 = .ok (.istore_n 2, 1) := by decide +kernel
theorem dX9_robotAt_28 : decode cX9_robotAt 28 = .ok (.iinc 3 1, 3) := by decide +kernel
theorem dX9_robotAt_31 : decode cX9_robotAt 31 = .ok (.goto (-27), 3) := by decide +kernel
theorem dX9_robotAt_34 : decode cX9_robotAt 34 = .ok (.iload_n 2, 1) := by decide +kernel
theorem dX9_robotAt_35 : decode cX9_robotAt 35 = .ok (.ireturn, 1) := by decide +kernel
theorem dX9_stationAt_0 : decode cX9_stationAt 0 = .ok (.iconst (-1), 1) := by decide +kernel
theorem dX9_stationAt_1 : decode cX9_stationAt 1 = .ok (.istore_n 2, 1) := by decide +kernel
theorem dX9_stationAt_2 : decode cX9_stationAt 2 = .ok (.iconst 0, 1) := by decide +kernel
theorem dX9_stationAt_3 : decode cX9_stationAt 3 = .ok (.istore_n 3, 1) := by decide +kernel
theorem dX9_stationAt_4 : decode cX9_stationAt 4 = .ok (.iload_n 3, 1) := by decide +kernel
theorem dX9_stationAt_5 : decode cX9_stationAt 5 = .ok (.aload_n 0, 1) := by decide +kernel
theorem dX9_stationAt_6 : decode cX9_stationAt 6 = .ok (.getfield 106, 3) := by decide +kernel
theorem dX9_stationAt_9 : decode cX9_stationAt 9 = .ok (.if_icmp .ge 25, 3) := by decide +kernel
theorem dX9_stationAt_12 : decode cX9_stationAt 12 = .ok (.aload_n 0, 1) := by decide +kernel
theorem dX9_stationAt_13 : decode cX9_stationAt 13 = .ok (.getfield 16, 3) := by decide +kernel
theorem dX9_stationAt_16 : decode cX9_stationAt 16 = .ok (.iload_n 3, 1) := by decide +kernel
theorem dX9_stationAt_17 : decode cX9_stationAt 17 = .ok (.iaload, 1) := by decide +kernel
theorem dX9_stationAt_18 : decode cX9_stationAt 18 = .ok (.iload_n 1, 1) := by decide +kernel
theorem dX9_stationAt_19 : decode cX9_stationAt 19 = .ok (.if_icmp .ne 7, 3) := by decide +kernel
theorem dX9_stationAt_22 : decode cX9_stationAt 22 = .ok (.iload_n 3, 1) := by decide +kernel
theorem dX9_stationAt_23 : decode cX9_stationAt 23 = .ok (.goto 4, 3) := by decide +kernel
theorem dX9_stationAt_26 : decode cX9_stationAt 26 = .ok (.iload_n 2, 1) := by decide +kernel
theorem dX9_stationAt_27 : decode cX9_stationAt 27 = .ok (.istore_n 2, 1) := by decide +kernel
theorem dX9_stationAt_28 : decode cX9_stationAt 28 = .ok (.iinc 3 1, 3) := by decide +kernel
theorem dX9_stationAt_31 : decode cX9_stationAt 31 = .ok (.goto (-27), 3) := by decide +kernel
theorem dX9_stationAt_34 : decode cX9_stationAt 34 = .ok (.iload_n 2, 1) := by decide +kernel
theorem dX9_stationAt_35 : decode cX9_stationAt 35 = .ok (.ireturn, 1) := by decide +kernel
theorem dX9_homeOf_0 : decode cX9_homeOf 0 = .ok (.iconst (-1), 1) := by decide +kernel
theorem dX9_homeOf_1 : decode cX9_homeOf 1 = .ok (.istore_n 2, 1) := by decide +kernel
theorem dX9_homeOf_2 : decode cX9_homeOf 2 = .ok (.iconst 0, 1) := by decide +kernel
theorem dX9_homeOf_3 : decode cX9_homeOf 3 = .ok (.istore_n 3, 1) := by decide +kernel
theorem dX9_homeOf_4 : decode cX9_homeOf 4 = .ok (.iload_n 3, 1) := by decide +kernel
theorem dX9_homeOf_5 : decode cX9_homeOf 5 = .ok (.aload_n 0, 1) := by decide +kernel
theorem dX9_homeOf_6 : decode cX9_homeOf 6 = .ok (.getfield 109, 3) := by decide +kernel
theorem dX9_homeOf_9 : decode cX9_homeOf 9 = .ok (.if_icmp .ge 25, 3) := by decide +kernel
theorem dX9_homeOf_12 : decode cX9_homeOf 12 = .ok (.aload_n 0, 1) := by decide +kernel
theorem dX9_homeOf_13 : decode cX9_homeOf 13 = .ok (.getfield 20, 3) := by decide +kernel
theorem dX9_homeOf_16 : decode cX9_homeOf 16 = .ok (.iload_n 3, 1) := by decide +kernel
theorem dX9_homeOf_17 : decode cX9_homeOf 17 = .ok (.iaload, 1) := by decide +kernel
theorem dX9_homeOf_18 : decode cX9_homeOf 18 = .ok (.iload_n 1, 1) := by decide +kernel
theorem dX9_homeOf_19 : decode cX9_homeOf 19 = .ok (.if_icmp .ne 7, 3) := by decide +kernel
theorem dX9_homeOf_22 : decode cX9_homeOf 22 = .ok (.iload_n 3, 1) := by decide +kernel
theorem dX9_homeOf_23 : decode cX9_homeOf 23 = .ok (.goto 4, 3) := by decide +kernel
theorem dX9_homeOf_26 : decode cX9_homeOf 26 = .ok (.iload_n 2, 1) := by decide +kernel
theorem dX9_homeOf_27 : decode cX9_homeOf 27 = .ok (.istore_n 2, 1) := by decide +kernel
theorem dX9_homeOf_28 : decode cX9_homeOf 28 = .ok (.iinc 3 1, 3) := by decide +kernel
theorem dX9_homeOf_31 : decode cX9_homeOf 31 = .ok (.goto (-27), 3) := by decide +kernel
theorem dX9_homeOf_34 : decode cX9_homeOf 34 = .ok (.iload_n 2, 1) := by decide +kernel
theorem dX9_homeOf_35 : decode cX9_homeOf 35 = .ok (.ireturn, 1) := by decide +kernel
theorem dX9_isOpen_0 : decode cX9_isOpen 0 = .ok (.aload_n 0, 1) := by decide +kernel
theorem dX9_isOpen_1 : decode cX9_isOpen 1 = .ok (.iload_n 1, 1) := by decide +kernel
theorem dX9_isOpen_2 : decode cX9_isOpen 2 = .ok (.invokevirtual 112, 3) := by decide +kernel
theorem dX9_isOpen_5 : decode cX9_isOpen 5 = .ok (.istore_n 2, 1) := by decide +kernel
theorem dX9_isOpen_6 : decode cX9_isOpen 6 = .ok (.aload_n 0, 1) := by decide +kernel
theorem dX9_isOpen_7 : decode cX9_isOpen 7 = .ok (.getfield 7, 3) := by decide +kernel
theorem dX9_isOpen_10 : decode cX9_isOpen 10 = .ok (.iload_n 1, 1) := by decide +kernel
theorem dX9_isOpen_11 : decode cX9_isOpen 11 = .ok (.baload, 1) := by decide +kernel
theorem dX9_isOpen_12 : decode cX9_isOpen 12 = .ok (.ifCond .ne 31, 3) := by decide +kernel
theorem dX9_isOpen_15 : decode cX9_isOpen 15 = .ok (.aload_n 0, 1) := by decide +kernel
theorem dX9_isOpen_16 : decode cX9_isOpen 16 = .ok (.getfield 13, 3) := by decide +kernel
theorem dX9_isOpen_19 : decode cX9_isOpen 19 = .ok (.iload_n 1, 1) := by decide +kernel
theorem dX9_isOpen_20 : decode cX9_isOpen 20 = .ok (.baload, 1) := by decide +kernel
theorem dX9_isOpen_21 : decode cX9_isOpen 21 = .ok (.ifCond .ne 22, 3) := by decide +kernel
theorem dX9_isOpen_24 : decode cX9_isOpen 24 = .ok (.iload_n 2, 1) := by decide +kernel
theorem dX9_isOpen_25 : decode cX9_isOpen 25 = .ok (.iconst (-1), 1) := by decide +kernel
theorem dX9_isOpen_26 : decode cX9_isOpen 26 = .ok (.if_icmp .eq 13, 3) := by decide +kernel
theorem dX9_isOpen_29 : decode cX9_isOpen 29 = .ok (.aload_n 0, 1) := by decide +kernel
theorem dX9_isOpen_30 : decode cX9_isOpen 30 = .ok (.getfield 50, 3) := by decide +kernel
theorem dX9_isOpen_33 : decode cX9_isOpen 33 = .ok (.iload_n 2, 1) := by decide +kernel
theorem dX9_isOpen_34 : decode cX9_isOpen 34 = .ok (.iaload, 1) := by decide +kernel
theorem dX9_isOpen_35 : decode cX9_isOpen 35 = .ok (.iconst 5, 1) := by decide +kernel
theorem dX9_isOpen_36 : decode cX9_isOpen 36 = .ok (.if_icmp .eq 7, 3) := by decide +kernel
theorem dX9_isOpen_39 : decode cX9_isOpen 39 = .ok (.iconst 1, 1) := by decide +kernel
theorem dX9_isOpen_40 : decode cX9_isOpen 40 = .ok (.goto 4, 3) := by decide +kernel
theorem dX9_isOpen_43 : decode cX9_isOpen 43 = .ok (.iconst 0, 1) := by decide +kernel
theorem dX9_isOpen_44 : decode cX9_isOpen 44 = .ok (.ireturn, 1) := by decide +kernel
theorem dX9_neighbour_0 : decode cX9_neighbour 0 = .ok (.iload_n 0, 1) := by decide +kernel
theorem dX9_neighbour_1 : decode cX9_neighbour 1 = .ok (.bipush 8, 2) := by decide +kernel
theorem dX9_neighbour_3 : decode cX9_neighbour 3 = .ok (.irem, 1) := by decide +kernel
theorem dX9_neighbour_4 : decode cX9_neighbour 4 = .ok (.iload_n 1, 1) := by decide +kernel
theorem dX9_neighbour_5 : decode cX9_neighbour 5 = .ok (.iconst 1, 1) := by decide +kernel
theorem dX9_neighbour_6 : decode cX9_neighbour 6 = .ok (.if_icmp .ne 7, 3) := by decide +kernel
theorem dX9_neighbour_9 : decode cX9_neighbour 9 = .ok (.iconst (-1), 1) := by decide +kernel
theorem dX9_neighbour_10 : decode cX9_neighbour 10 = .ok (.goto 13, 3) := by decide +kernel
theorem dX9_neighbour_13 : decode cX9_neighbour 13 = .ok (.iload_n 1, 1) := by decide +kernel
theorem dX9_neighbour_14 : decode cX9_neighbour 14 = .ok (.iconst 2, 1) := by decide +kernel
theorem dX9_neighbour_15 : decode cX9_neighbour 15 = .ok (.if_icmp .ne 7, 3) := by decide +kernel
theorem dX9_neighbour_18 : decode cX9_neighbour 18 = .ok (.iconst 1, 1) := by decide +kernel
theorem dX9_neighbour_19 : decode cX9_neighbour 19 = .ok (.goto 4, 3) := by decide +kernel
theorem dX9_neighbour_22 : decode cX9_neighbour 22 = .ok (.iconst 0, 1) := by decide +kernel
theorem dX9_neighbour_23 : decode cX9_neighbour 23 = .ok (.iadd, 1) := by decide +kernel
theorem dX9_neighbour_24 : decode cX9_neighbour 24 = .ok (.istore_n 2, 1) := by decide +kernel
theorem dX9_neighbour_25 : decode cX9_neighbour 25 = .ok (.iload_n 0, 1) := by decide +kernel
theorem dX9_neighbour_26 : decode cX9_neighbour 26 = .ok (.bipush 8, 2) := by decide +kernel
theorem dX9_neighbour_28 : decode cX9_neighbour 28 = .ok (.idiv, 1) := by decide +kernel
theorem dX9_neighbour_29 : decode cX9_neighbour 29 = .ok (.iload_n 1, 1) := by decide +kernel
theorem dX9_neighbour_30 : decode cX9_neighbour 30 = .ok (.ifCond .ne 7, 3) := by decide +kernel
theorem dX9_neighbour_33 : decode cX9_neighbour 33 = .ok (.iconst (-1), 1) := by decide +kernel
theorem dX9_neighbour_34 : decode cX9_neighbour 34 = .ok (.goto 13, 3) := by decide +kernel
theorem dX9_neighbour_37 : decode cX9_neighbour 37 = .ok (.iload_n 1, 1) := by decide +kernel
theorem dX9_neighbour_38 : decode cX9_neighbour 38 = .ok (.iconst 3, 1) := by decide +kernel
theorem dX9_neighbour_39 : decode cX9_neighbour 39 = .ok (.if_icmp .ne 7, 3) := by decide +kernel
theorem dX9_neighbour_42 : decode cX9_neighbour 42 = .ok (.iconst 1, 1) := by decide +kernel
theorem dX9_neighbour_43 : decode cX9_neighbour 43 = .ok (.goto 4, 3) := by decide +kernel
theorem dX9_neighbour_46 : decode cX9_neighbour 46 = .ok (.iconst 0, 1) := by decide +kernel
theorem dX9_neighbour_47 : decode cX9_neighbour 47 = .ok (.iadd, 1) := by decide +kernel
theorem dX9_neighbour_48 : decode cX9_neighbour 48 = .ok (.istore_n 3, 1) := by decide +kernel
theorem dX9_neighbour_49 : decode cX9_neighbour 49 = .ok (.iload_n 2, 1) := by decide +kernel
theorem dX9_neighbour_50 : decode cX9_neighbour 50 = .ok (.bipush 8, 2) := by decide +kernel
theorem dX9_neighbour_52 : decode cX9_neighbour 52 = .ok (.invokestatic 99, 3) := by decide +kernel
theorem dX9_neighbour_55 : decode cX9_neighbour 55 = .ok (.ifCond .eq 21, 3) := by decide +kernel
theorem dX9_neighbour_58 : decode cX9_neighbour 58 = .ok (.iload_n 3, 1) := by decide +kernel
theorem dX9_neighbour_59 : decode cX9_neighbour 59 = .ok (.bipush 8, 2) := by decide +kernel
theorem dX9_neighbour_61 : decode cX9_neighbour 61 = .ok (.invokestatic 99, 3) := by decide +kernel
theorem dX9_neighbour_64 : decode cX9_neighbour 64 = .ok (.ifCond .eq 12, 3) := by decide +kernel
theorem dX9_neighbour_67 : decode cX9_neighbour 67 = .ok (.bipush 8, 2) := by decide +kernel
theorem dX9_neighbour_69 : decode cX9_neighbour 69 = .ok (.iload_n 3, 1) := by decide +kernel
theorem dX9_neighbour_70 : decode cX9_neighbour 70 = .ok (.imul, 1) := by decide +kernel
theorem dX9_neighbour_71 : decode cX9_neighbour 71 = .ok (.iload_n 2, 1) := by decide +kernel
theorem dX9_neighbour_72 : decode cX9_neighbour 72 = .ok (.iadd, 1) := by decide +kernel
theorem dX9_neighbour_73 : decode cX9_neighbour 73 = .ok (.goto 4, 3) := by decide +kernel
theorem dX9_neighbour_76 : decode cX9_neighbour 76 = .ok (.iconst (-1), 1) := by decide +kernel
theorem dX9_neighbour_77 : decode cX9_neighbour 77 = .ok (.ireturn, 1) := by decide +kernel
theorem dX9_lays_0 : decode cX9_lays 0 = .ok (.iconst 0, 1) := by decide +kernel
theorem dX9_lays_1 : decode cX9_lays 1 = .ok (.istore_n 3, 1) := by decide +kernel
theorem dX9_lays_2 : decode cX9_lays 2 = .ok (.iload_n 3, 1) := by decide +kernel
theorem dX9_lays_3 : decode cX9_lays 3 = .ok (.bipush 64, 2) := by decide +kernel
theorem dX9_lays_5 : decode cX9_lays 5 = .ok (.if_icmp .ge 16, 3) := by decide +kernel
theorem dX9_lays_8 : decode cX9_lays 8 = .ok (.aload_n 0, 1) := by decide +kernel
theorem dX9_lays_9 : decode cX9_lays 9 = .ok (.getfield 89, 3) := by decide +kernel
theorem dX9_lays_12 : decode cX9_lays 12 = .ok (.iload_n 3, 1) := by decide +kernel
theorem dX9_lays_13 : decode cX9_lays 13 = .ok (.iconst (-1), 1) := by decide +kernel
theorem dX9_lays_14 : decode cX9_lays 14 = .ok (.iastore, 1) := by decide +kernel
theorem dX9_lays_15 : decode cX9_lays 15 = .ok (.iinc 3 1, 3) := by decide +kernel
theorem dX9_lays_18 : decode cX9_lays 18 = .ok (.goto (-16), 3) := by decide +kernel
theorem dX9_lays_21 : decode cX9_lays 21 = .ok (.iconst 0, 1) := by decide +kernel
theorem dX9_lays_22 : decode cX9_lays 22 = .ok (.istore_n 3, 1) := by decide +kernel
theorem dX9_lays_23 : decode cX9_lays 23 = .ok (.aload_n 0, 1) := by decide +kernel
theorem dX9_lays_24 : decode cX9_lays 24 = .ok (.iload_n 1, 1) := by decide +kernel
theorem dX9_lays_25 : decode cX9_lays 25 = .ok (.invokevirtual 116, 3) := by decide +kernel
theorem dX9_lays_28 : decode cX9_lays 28 = .ok (.ifCond .eq 24, 3) := by decide +kernel
theorem dX9_lays_31 : decode cX9_lays 31 = .ok (.iload_n 1, 1) := by decide +kernel
theorem dX9_lays_32 : decode cX9_lays 32 = .ok (.iload_n 2, 1) := by decide +kernel
theorem dX9_lays_33 : decode cX9_lays 33 = .ok (.if_icmp .eq 19, 3) := by decide +kernel
theorem dX9_lays_36 : decode cX9_lays 36 = .ok (.aload_n 0, 1) := by decide +kernel
theorem dX9_lays_37 : decode cX9_lays 37 = .ok (.getfield 89, 3) := by decide +kernel
theorem dX9_lays_40 : decode cX9_lays 40 = .ok (.iload_n 1, 1) := by decide +kernel
theorem dX9_lays_41 : decode cX9_lays 41 = .ok (.iconst 0, 1) := by decide +kernel
theorem dX9_lays_42 : decode cX9_lays 42 = .ok (.iastore, 1) := by decide +kernel
theorem dX9_lays_43 : decode cX9_lays 43 = .ok (.aload_n 0, 1) := by decide +kernel
theorem dX9_lays_44 : decode cX9_lays 44 = .ok (.getfield 92, 3) := by decide +kernel
theorem dX9_lays_47 : decode cX9_lays 47 = .ok (.iconst 0, 1) := by decide +kernel
theorem dX9_lays_48 : decode cX9_lays 48 = .ok (.iload_n 1, 1) := by decide +kernel
theorem dX9_lays_49 : decode cX9_lays 49 = .ok (.iastore, 1) := by decide +kernel
theorem dX9_lays_50 : decode cX9_lays 50 = .ok (.iconst 1, 1) := by decide +kernel
theorem dX9_lays_51 : decode cX9_lays 51 = .ok (.istore_n 3, 1) := by decide +kernel
theorem dX9_lays_52 : decode cX9_lays 52 = .ok (.iconst 0, 1) := by decide +kernel
theorem dX9_lays_53 : decode cX9_lays 53 = .ok (.istore 4, 2) := by decide +kernel
theorem dX9_lays_55 : decode cX9_lays 55 = .ok (.iload 4, 2) := by decide +kernel
theorem dX9_lays_57 : decode cX9_lays 57 = .ok (.iload_n 3, 1) := by decide +kernel
theorem dX9_lays_58 : decode cX9_lays 58 = .ok (.if_icmp .ge 102, 3) := by decide +kernel
theorem dX9_lays_61 : decode cX9_lays 61 = .ok (.iconst 0, 1) := by decide +kernel
theorem dX9_lays_62 : decode cX9_lays 62 = .ok (.istore 5, 2) := by decide +kernel
theorem dX9_lays_64 : decode cX9_lays 64 = .ok (.iload 5, 2) := by decide +kernel
theorem dX9_lays_66 : decode cX9_lays 66 = .ok (.iconst 4, 1) := by decide +kernel
theorem dX9_lays_67 : decode cX9_lays 67 = .ok (.if_icmp .ge 87, 3) := by decide +kernel
theorem dX9_lays_70 : decode cX9_lays 70 = .ok (.aload_n 0, 1) := by decide +kernel
theorem dX9_lays_71 : decode cX9_lays 71 = .ok (.getfield 92, 3) := by decide +kernel
theorem dX9_lays_74 : decode cX9_lays 74 = .ok (.iload 4, 2) := by decide +kernel
theorem dX9_lays_76 : decode cX9_lays 76 = .ok (.iaload, 1) := by decide +kernel
theorem dX9_lays_77 : decode cX9_lays 77 = .ok (.iload 5, 2) := by decide +kernel
theorem dX9_lays_79 : decode cX9_lays 79 = .ok (.invokestatic 120, 3) := by decide +kernel
theorem dX9_lays_82 : decode cX9_lays 82 = .ok (.istore 6, 2) := by decide +kernel
theorem dX9_lays_84 : decode cX9_lays 84 = .ok (.iload 6, 2) := by decide +kernel
theorem dX9_lays_86 : decode cX9_lays 86 = .ok (.iconst (-1), 1) := by decide +kernel
theorem dX9_lays_87 : decode cX9_lays 87 = .ok (.if_icmp .eq 61, 3) := by decide +kernel
theorem dX9_lays_90 : decode cX9_lays 90 = .ok (.aload_n 0, 1) := by decide +kernel
theorem dX9_lays_91 : decode cX9_lays 91 = .ok (.getfield 89, 3) := by decide +kernel
theorem dX9_lays_94 : decode cX9_lays 94 = .ok (.iload 6, 2) := by decide +kernel
theorem dX9_lays_96 : decode cX9_lays 96 = .ok (.iaload, 1) := by decide +kernel
theorem dX9_lays_97 : decode cX9_lays 97 = .ok (.iconst (-1), 1) := by decide +kernel
theorem dX9_lays_98 : decode cX9_lays 98 = .ok (.if_icmp .ne 50, 3) := by decide +kernel
theorem dX9_lays_101 : decode cX9_lays 101 = .ok (.iload 6, 2) := by decide +kernel
theorem dX9_lays_103 : decode cX9_lays 103 = .ok (.iload_n 2, 1) := by decide +kernel
theorem dX9_lays_104 : decode cX9_lays 104 = .ok (.if_icmp .eq 44, 3) := by decide +kernel
theorem dX9_lays_107 : decode cX9_lays 107 = .ok (.aload_n 0, 1) := by decide +kernel
theorem dX9_lays_108 : decode cX9_lays 108 = .ok (.iload 6, 2) := by decide +kernel
theorem dX9_lays_110 : decode cX9_lays 110 = .ok (.invokevirtual 116, 3) := by decide +kernel
theorem dX9_lays_113 : decode cX9_lays 113 = .ok (.ifCond .eq 35, 3) := by decide +kernel
theorem dX9_lays_116 : decode cX9_lays 116 = .ok (.aload_n 0, 1) := by decide +kernel
theorem dX9_lays_117 : decode cX9_lays 117 = .ok (.getfield 89, 3) := by decide +kernel
theorem dX9_lays_120 : decode cX9_lays 120 = .ok (.iload 6, 2) := by decide +kernel
theorem dX9_lays_122 : decode cX9_lays 122 = .ok (.aload_n 0, 1) := by decide +kernel
theorem dX9_lays_123 : decode cX9_lays 123 = .ok (.getfield 89, 3) := by decide +kernel
theorem dX9_lays_126 : decode cX9_lays 126 = .ok (.aload_n 0, 1) := by decide +kernel
theorem dX9_lays_127 : decode cX9_lays 127 = .ok (.getfield 92, 3) := by decide +kernel
theorem dX9_lays_130 : decode cX9_lays 130 = .ok (.iload 4, 2) := by decide +kernel
theorem dX9_lays_132 : decode cX9_lays 132 = .ok (.iaload, 1) := by decide +kernel
theorem dX9_lays_133 : decode cX9_lays 133 = .ok (.iaload, 1) := by decide +kernel
theorem dX9_lays_134 : decode cX9_lays 134 = .ok (.iconst 1, 1) := by decide +kernel
theorem dX9_lays_135 : decode cX9_lays 135 = .ok (.iadd, 1) := by decide +kernel
theorem dX9_lays_136 : decode cX9_lays 136 = .ok (.iastore, 1) := by decide +kernel
theorem dX9_lays_137 : decode cX9_lays 137 = .ok (.aload_n 0, 1) := by decide +kernel
theorem dX9_lays_138 : decode cX9_lays 138 = .ok (.getfield 92, 3) := by decide +kernel
theorem dX9_lays_141 : decode cX9_lays 141 = .ok (.iload_n 3, 1) := by decide +kernel
theorem dX9_lays_142 : decode cX9_lays 142 = .ok (.iload 6, 2) := by decide +kernel
theorem dX9_lays_144 : decode cX9_lays 144 = .ok (.iastore, 1) := by decide +kernel
theorem dX9_lays_145 : decode cX9_lays 145 = .ok (.iinc 3 1, 3) := by decide +kernel
theorem dX9_lays_148 : decode cX9_lays 148 = .ok (.iinc 5 1, 3) := by decide +kernel
theorem dX9_lays_151 : decode cX9_lays 151 = .ok (.goto (-87), 3) := by decide +kernel
theorem dX9_lays_154 : decode cX9_lays 154 = .ok (.iinc 4 1, 3) := by decide +kernel
theorem dX9_lays_157 : decode cX9_lays 157 = .ok (.goto (-102), 3) := by decide +kernel
theorem dX9_lays_160 : decode cX9_lays 160 = .ok (.return_, 1) := by decide +kernel
theorem dX9_nearest_0 : decode cX9_nearest 0 = .ok (.iconst (-1), 1) := by decide +kernel
theorem dX9_nearest_1 : decode cX9_nearest 1 = .ok (.istore_n 2, 1) := by decide +kernel
theorem dX9_nearest_2 : decode cX9_nearest 2 = .ok (.iconst 0, 1) := by decide +kernel
theorem dX9_nearest_3 : decode cX9_nearest 3 = .ok (.istore_n 3, 1) := by decide +kernel
theorem dX9_nearest_4 : decode cX9_nearest 4 = .ok (.iload_n 3, 1) := by decide +kernel
theorem dX9_nearest_5 : decode cX9_nearest 5 = .ok (.iconst 4, 1) := by decide +kernel
theorem dX9_nearest_6 : decode cX9_nearest 6 = .ok (.if_icmp .ge 73, 3) := by decide +kernel
theorem dX9_nearest_9 : decode cX9_nearest 9 = .ok (.iload_n 1, 1) := by decide +kernel
theorem dX9_nearest_10 : decode cX9_nearest 10 = .ok (.iload_n 3, 1) := by decide +kernel
theorem dX9_nearest_11 : decode cX9_nearest 11 = .ok (.invokestatic 120, 3) := by decide +kernel
theorem dX9_nearest_14 : decode cX9_nearest 14 = .ok (.istore 4, 2) := by decide +kernel
theorem dX9_nearest_16 : decode cX9_nearest 16 = .ok (.iload 4, 2) := by decide +kernel
theorem dX9_nearest_18 : decode cX9_nearest 18 = .ok (.iconst (-1), 1) := by decide +kernel
theorem dX9_nearest_19 : decode cX9_nearest 19 = .ok (.if_icmp .eq 18, 3) := by decide +kernel
theorem dX9_nearest_22 : decode cX9_nearest 22 = .ok (.aload_n 0, 1) := by decide +kernel
theorem dX9_nearest_23 : decode cX9_nearest 23 = .ok (.getfield 89, 3) := by decide +kernel
theorem dX9_nearest_26 : decode cX9_nearest 26 = .ok (.iload 4, 2) := by decide +kernel
theorem dX9_nearest_28 : decode cX9_nearest 28 = .ok (.iaload, 1) := by decide +kernel
theorem dX9_nearest_29 : decode cX9_nearest 29 = .ok (.iconst (-1), 1) := by decide +kernel
theorem dX9_nearest_30 : decode cX9_nearest 30 = .ok (.if_icmp .eq 7, 3) := by decide +kernel
theorem dX9_nearest_33 : decode cX9_nearest 33 = .ok (.iconst 1, 1) := by decide +kernel
theorem dX9_nearest_34 : decode cX9_nearest 34 = .ok (.goto 4, 3) := by decide +kernel
theorem dX9_nearest_37 : decode cX9_nearest 37 = .ok (.iconst 0, 1) := by decide +kernel
theorem dX9_nearest_38 : decode cX9_nearest 38 = .ok (.istore 5, 2) := by decide +kernel
theorem dX9_nearest_40 : decode cX9_nearest 40 = .ok (.iload 5, 2) := by decide +kernel
theorem dX9_nearest_42 : decode cX9_nearest 42 = .ok (.ifCond .eq 29, 3) := by decide +kernel
theorem dX9_nearest_45 : decode cX9_nearest 45 = .ok (.iload_n 2, 1) := by decide +kernel
theorem dX9_nearest_46 : decode cX9_nearest 46 = .ok (.iconst (-1), 1) := by decide +kernel
theorem dX9_nearest_47 : decode cX9_nearest 47 = .ok (.if_icmp .eq 19, 3) := by decide +kernel
theorem dX9_nearest_50 : decode cX9_nearest 50 = .ok (.aload_n 0, 1) := by decide +kernel
theorem dX9_nearest_51 : decode cX9_nearest 51 = .ok (.getfield 89, 3) := by decide +kernel
theorem dX9_nearest_54 : decode cX9_nearest 54 = .ok (.iload 4, 2) := by decide +kernel
theorem dX9_nearest_56 : decode cX9_nearest 56 = .ok (.iaload, 1) := by decide +kernel
theorem dX9_nearest_57 : decode cX9_nearest 57 = .ok (.aload_n 0, 1) := by decide +kernel
theorem dX9_nearest_58 : decode cX9_nearest 58 = .ok (.getfield 89, 3) := by decide +kernel
theorem dX9_nearest_61 : decode cX9_nearest 61 = .ok (.iload_n 2, 1) := by decide +kernel
theorem dX9_nearest_62 : decode cX9_nearest 62 = .ok (.iaload, 1) := by decide +kernel
theorem dX9_nearest_63 : decode cX9_nearest 63 = .ok (.if_icmp .ge 8, 3) := by decide +kernel
theorem dX9_nearest_66 : decode cX9_nearest 66 = .ok (.iload 4, 2) := by decide +kernel
theorem dX9_nearest_68 : decode cX9_nearest 68 = .ok (.goto 4, 3) := by decide +kernel
theorem dX9_nearest_71 : decode cX9_nearest 71 = .ok (.iload_n 2, 1) := by decide +kernel
theorem dX9_nearest_72 : decode cX9_nearest 72 = .ok (.istore_n 2, 1) := by decide +kernel
theorem dX9_nearest_73 : decode cX9_nearest 73 = .ok (.iinc 3 1, 3) := by decide +kernel
theorem dX9_nearest_76 : decode cX9_nearest 76 = .ok (.goto (-72), 3) := by decide +kernel
theorem dX9_nearest_79 : decode cX9_nearest 79 = .ok (.iload_n 2, 1) := by decide +kernel
theorem dX9_nearest_80 : decode cX9_nearest 80 = .ok (.ireturn, 1) := by decide +kernel
theorem dX9_distanceOf_0 : decode cX9_distanceOf 0 = .ok (.iload_n 1, 1) := by decide +kernel
theorem dX9_distanceOf_1 : decode cX9_distanceOf 1 = .ok (.iload_n 2, 1) := by decide +kernel
theorem dX9_distanceOf_2 : decode cX9_distanceOf 2 = .ok (.if_icmp .ne 5, 3) := by decide +kernel
theorem dX9_distanceOf_5 : decode cX9_distanceOf 5 = .ok (.iconst 0, 1) := by decide +kernel
theorem dX9_distanceOf_6 : decode cX9_distanceOf 6 = .ok (.ireturn, 1) := by decide +kernel
theorem dX9_distanceOf_7 : decode cX9_distanceOf 7 = .ok (.aload_n 0, 1) := by decide +kernel
theorem dX9_distanceOf_8 : decode cX9_distanceOf 8 = .ok (.iload_n 2, 1) := by decide +kernel
theorem dX9_distanceOf_9 : decode cX9_distanceOf 9 = .ok (.iconst (-1), 1) := by decide +kernel
theorem dX9_distanceOf_10 : decode cX9_distanceOf 10 = .ok (.invokevirtual 124, 3) := by decide +kernel
theorem dX9_distanceOf_13 : decode cX9_distanceOf 13 = .ok (.aload_n 0, 1) := by decide +kernel
theorem dX9_distanceOf_14 : decode cX9_distanceOf 14 = .ok (.iload_n 1, 1) := by decide +kernel
theorem dX9_distanceOf_15 : decode cX9_distanceOf 15 = .ok (.invokevirtual 128, 3) := by decide +kernel
theorem dX9_distanceOf_18 : decode cX9_distanceOf 18 = .ok (.istore_n 3, 1) := by decide +kernel
theorem dX9_distanceOf_19 : decode cX9_distanceOf 19 = .ok (.iload_n 3, 1) := by decide +kernel
theorem dX9_distanceOf_20 : decode cX9_distanceOf 20 = .ok (.iconst (-1), 1) := by decide +kernel
theorem dX9_distanceOf_21 : decode cX9_distanceOf 21 = .ok (.if_icmp .ne 7, 3) := by decide +kernel
theorem dX9_distanceOf_24 : decode cX9_distanceOf 24 = .ok (.iconst (-1), 1) := by decide +kernel
theorem dX9_distanceOf_25 : decode cX9_distanceOf 25 = .ok (.goto 11, 3) := by decide +kernel
theorem dX9_distanceOf_28 : decode cX9_distanceOf 28 = .ok (.aload_n 0, 1) := by decide +kernel
theorem dX9_distanceOf_29 : decode cX9_distanceOf 29 = .ok (.getfield 89, 3) := by decide +kernel
theorem dX9_distanceOf_32 : decode cX9_distanceOf 32 = .ok (.iload_n 3, 1) := by decide +kernel
theorem dX9_distanceOf_33 : decode cX9_distanceOf 33 = .ok (.iaload, 1) := by decide +kernel
theorem dX9_distanceOf_34 : decode cX9_distanceOf 34 = .ok (.iconst 1, 1) := by decide +kernel
theorem dX9_distanceOf_35 : decode cX9_distanceOf 35 = .ok (.iadd, 1) := by decide +kernel
theorem dX9_distanceOf_36 : decode cX9_distanceOf 36 = .ok (.ireturn, 1) := by decide +kernel
theorem dX9_wall_0 : decode cX9_wall 0 = .ok (.iload_n 1, 1) := by decide +kernel
theorem dX9_wall_1 : decode cX9_wall 1 = .ok (.invokestatic 131, 3) := by decide +kernel
theorem dX9_wall_4 : decode cX9_wall 4 = .ok (.istore_n 2, 1) := by decide +kernel
theorem dX9_wall_5 : decode cX9_wall 5 = .ok (.iload_n 2, 1) := by decide +kernel
theorem dX9_wall_6 : decode cX9_wall 6 = .ok (.ifCond .eq 43, 3) := by decide +kernel
theorem dX9_wall_9 : decode cX9_wall 9 = .ok (.aload_n 0, 1) := by decide +kernel
theorem dX9_wall_10 : decode cX9_wall 10 = .ok (.getfield 7, 3) := by decide +kernel
theorem dX9_wall_13 : decode cX9_wall 13 = .ok (.iload_n 1, 1) := by decide +kernel
theorem dX9_wall_14 : decode cX9_wall 14 = .ok (.baload, 1) := by decide +kernel
theorem dX9_wall_15 : decode cX9_wall 15 = .ok (.ifCond .ne 30, 3) := by decide +kernel
theorem dX9_wall_18 : decode cX9_wall 18 = .ok (.aload_n 0, 1) := by decide +kernel
theorem dX9_wall_19 : decode cX9_wall 19 = .ok (.iload_n 1, 1) := by decide +kernel
theorem dX9_wall_20 : decode cX9_wall 20 = .ok (.invokevirtual 134, 3) := by decide +kernel
theorem dX9_wall_23 : decode cX9_wall 23 = .ok (.iconst (-1), 1) := by decide +kernel
theorem dX9_wall_24 : decode cX9_wall 24 = .ok (.if_icmp .ne 21, 3) := by decide +kernel
theorem dX9_wall_27 : decode cX9_wall 27 = .ok (.aload_n 0, 1) := by decide +kernel
theorem dX9_wall_28 : decode cX9_wall 28 = .ok (.iload_n 1, 1) := by decide +kernel
theorem dX9_wall_29 : decode cX9_wall 29 = .ok (.invokevirtual 137, 3) := by decide +kernel
theorem dX9_wall_32 : decode cX9_wall 32 = .ok (.iconst (-1), 1) := by decide +kernel
theorem dX9_wall_33 : decode cX9_wall 33 = .ok (.if_icmp .ne 12, 3) := by decide +kernel
theorem dX9_wall_36 : decode cX9_wall 36 = .ok (.aload_n 0, 1) := by decide +kernel
theorem dX9_wall_37 : decode cX9_wall 37 = .ok (.iload_n 1, 1) := by decide +kernel
theorem dX9_wall_38 : decode cX9_wall 38 = .ok (.invokevirtual 112, 3) := by decide +kernel
theorem dX9_wall_41 : decode cX9_wall 41 = .ok (.iconst (-1), 1) := by decide +kernel
theorem dX9_wall_42 : decode cX9_wall 42 = .ok (.if_icmp .eq 7, 3) := by decide +kernel
theorem dX9_wall_45 : decode cX9_wall 45 = .ok (.iconst 1, 1) := by decide +kernel
theorem dX9_wall_46 : decode cX9_wall 46 = .ok (.goto 4, 3) := by decide +kernel
theorem dX9_wall_49 : decode cX9_wall 49 = .ok (.iconst 0, 1) := by decide +kernel
theorem dX9_wall_50 : decode cX9_wall 50 = .ok (.istore_n 3, 1) := by decide +kernel
theorem dX9_wall_51 : decode cX9_wall 51 = .ok (.aload_n 0, 1) := by decide +kernel
theorem dX9_wall_52 : decode cX9_wall 52 = .ok (.iload_n 2, 1) := by decide +kernel
theorem dX9_wall_53 : decode cX9_wall 53 = .ok (.ifCond .ne 7, 3) := by decide +kernel
theorem dX9_wall_56 : decode cX9_wall 56 = .ok (.iconst 1, 1) := by decide +kernel
theorem dX9_wall_57 : decode cX9_wall 57 = .ok (.goto 12, 3) := by decide +kernel
theorem dX9_wall_60 : decode cX9_wall 60 = .ok (.iload_n 3, 1) := by decide +kernel
theorem dX9_wall_61 : decode cX9_wall 61 = .ok (.ifCond .eq 7, 3) := by decide +kernel
theorem dX9_wall_64 : decode cX9_wall 64 = .ok (.iconst 2, 1) := by decide +kernel
theorem dX9_wall_65 : decode cX9_wall 65 = .ok (.goto 4, 3) := by decide +kernel
theorem dX9_wall_68 : decode cX9_wall 68 = .ok (.iconst 0, 1) := by decide +kernel
theorem dX9_wall_69 : decode cX9_wall 69 = .ok (.invokevirtual 140, 3) := by decide +kernel
theorem dX9_wall_72 : decode cX9_wall 72 = .ok (.ifCond .eq 10, 3) := by decide +kernel
theorem dX9_wall_75 : decode cX9_wall 75 = .ok (.aload_n 0, 1) := by decide +kernel
theorem dX9_wall_76 : decode cX9_wall 76 = .ok (.getfield 7, 3) := by decide +kernel
theorem dX9_wall_79 : decode cX9_wall 79 = .ok (.iload_n 1, 1) := by decide +kernel
theorem dX9_wall_80 : decode cX9_wall 80 = .ok (.iconst 1, 1) := by decide +kernel
theorem dX9_wall_81 : decode cX9_wall 81 = .ok (.bastore, 1) := by decide +kernel
theorem dX9_wall_82 : decode cX9_wall 82 = .ok (.return_, 1) := by decide +kernel
theorem dX9_setClosed_0 : decode cX9_setClosed 0 = .ok (.aload_n 0, 1) := by decide +kernel
theorem dX9_setClosed_1 : decode cX9_setClosed 1 = .ok (.iload_n 1, 1) := by decide +kernel
theorem dX9_setClosed_2 : decode cX9_setClosed 2 = .ok (.invokestatic 131, 3) := by decide +kernel
theorem dX9_setClosed_5 : decode cX9_setClosed 5 = .ok (.ifCond .eq 7, 3) := by decide +kernel
theorem dX9_setClosed_8 : decode cX9_setClosed 8 = .ok (.iconst 0, 1) := by decide +kernel
theorem dX9_setClosed_9 : decode cX9_setClosed 9 = .ok (.goto 4, 3) := by decide +kernel
theorem dX9_setClosed_12 : decode cX9_setClosed 12 = .ok (.iconst 1, 1) := by decide +kernel
theorem dX9_setClosed_13 : decode cX9_setClosed 13 = .ok (.invokevirtual 140, 3) := by decide +kernel
theorem dX9_setClosed_16 : decode cX9_setClosed 16 = .ok (.ifCond .ne 5, 3) := by decide +kernel
theorem dX9_setClosed_19 : decode cX9_setClosed 19 = .ok (.iconst 0, 1) := by decide +kernel
theorem dX9_setClosed_20 : decode cX9_setClosed 20 = .ok (.ireturn, 1) := by decide +kernel
theorem dX9_setClosed_21 : decode cX9_setClosed 21 = .ok (.aload_n 0, 1) := by decide +kernel
theorem dX9_setClosed_22 : decode cX9_setClosed 22 = .ok (.getfield 13, 3) := by decide +kernel
theorem dX9_setClosed_25 : decode cX9_setClosed 25 = .ok (.iload_n 1, 1) := by decide +kernel
theorem dX9_setClosed_26 : decode cX9_setClosed 26 = .ok (.baload, 1) := by decide +kernel
theorem dX9_setClosed_27 : decode cX9_setClosed 27 = .ok (.istore_n 3, 1) := by decide +kernel
theorem dX9_setClosed_28 : decode cX9_setClosed 28 = .ok (.aload_n 0, 1) := by decide +kernel
theorem dX9_setClosed_29 : decode cX9_setClosed 29 = .ok (.getfield 13, 3) := by decide +kernel
theorem dX9_setClosed_32 : decode cX9_setClosed 32 = .ok (.iload_n 1, 1) := by decide +kernel
theorem dX9_setClosed_33 : decode cX9_setClosed 33 = .ok (.iload_n 2, 1) := by decide +kernel
theorem dX9_setClosed_34 : decode cX9_setClosed 34 = .ok (.bastore, 1) := by decide +kernel
theorem dX9_setClosed_35 : decode cX9_setClosed 35 = .ok (.iload_n 3, 1) := by decide +kernel
theorem dX9_setClosed_36 : decode cX9_setClosed 36 = .ok (.ireturn, 1) := by decide +kernel
theorem dX9_distance_0 : decode cX9_distance 0 = .ok (.aload_n 0, 1) := by decide +kernel
theorem dX9_distance_1 : decode cX9_distance 1 = .ok (.iload_n 1, 1) := by decide +kernel
theorem dX9_distance_2 : decode cX9_distance 2 = .ok (.invokestatic 131, 3) := by decide +kernel
theorem dX9_distance_5 : decode cX9_distance 5 = .ok (.ifCond .eq 14, 3) := by decide +kernel
theorem dX9_distance_8 : decode cX9_distance 8 = .ok (.iload_n 2, 1) := by decide +kernel
theorem dX9_distance_9 : decode cX9_distance 9 = .ok (.invokestatic 131, 3) := by decide +kernel
theorem dX9_distance_12 : decode cX9_distance 12 = .ok (.ifCond .eq 7, 3) := by decide +kernel
theorem dX9_distance_15 : decode cX9_distance 15 = .ok (.iconst 0, 1) := by decide +kernel
theorem dX9_distance_16 : decode cX9_distance 16 = .ok (.goto 4, 3) := by decide +kernel
theorem dX9_distance_19 : decode cX9_distance 19 = .ok (.iconst 1, 1) := by decide +kernel
theorem dX9_distance_20 : decode cX9_distance 20 = .ok (.invokevirtual 140, 3) := by decide +kernel
theorem dX9_distance_23 : decode cX9_distance 23 = .ok (.ifCond .eq 12, 3) := by decide +kernel
theorem dX9_distance_26 : decode cX9_distance 26 = .ok (.aload_n 0, 1) := by decide +kernel
theorem dX9_distance_27 : decode cX9_distance 27 = .ok (.iload_n 1, 1) := by decide +kernel
theorem dX9_distance_28 : decode cX9_distance 28 = .ok (.iload_n 2, 1) := by decide +kernel
theorem dX9_distance_29 : decode cX9_distance 29 = .ok (.invokevirtual 143, 3) := by decide +kernel
theorem dX9_distance_32 : decode cX9_distance 32 = .ok (.goto 4, 3) := by decide +kernel
theorem dX9_distance_35 : decode cX9_distance 35 = .ok (.iconst 0, 1) := by decide +kernel
theorem dX9_distance_36 : decode cX9_distance 36 = .ok (.ireturn, 1) := by decide +kernel
theorem dX9_addStation_0 : decode cX9_addStation 0 = .ok (.iload_n 1, 1) := by decide +kernel
theorem dX9_addStation_1 : decode cX9_addStation 1 = .ok (.invokestatic 131, 3) := by decide +kernel
theorem dX9_addStation_4 : decode cX9_addStation 4 = .ok (.istore_n 2, 1) := by decide +kernel
theorem dX9_addStation_5 : decode cX9_addStation 5 = .ok (.aload_n 0, 1) := by decide +kernel
theorem dX9_addStation_6 : decode cX9_addStation 6 = .ok (.iload_n 2, 1) := by decide +kernel
theorem dX9_addStation_7 : decode cX9_addStation 7 = .ok (.ifCond .ne 7, 3) := by decide +kernel
theorem dX9_addStation_10 : decode cX9_addStation 10 = .ok (.iconst 1, 1) := by decide +kernel
theorem dX9_addStation_11 : decode cX9_addStation 11 = .ok (.goto 34, 3) := by decide +kernel
theorem dX9_addStation_14 : decode cX9_addStation 14 = .ok (.aload_n 0, 1) := by decide +kernel
theorem dX9_addStation_15 : decode cX9_addStation 15 = .ok (.getfield 7, 3) := by decide +kernel
theorem dX9_addStation_18 : decode cX9_addStation 18 = .ok (.iload_n 1, 1) := by decide +kernel
theorem dX9_addStation_19 : decode cX9_addStation 19 = .ok (.baload, 1) := by decide +kernel
theorem dX9_addStation_20 : decode cX9_addStation 20 = .ok (.ifCond .ne 20, 3) := by decide +kernel
theorem dX9_addStation_23 : decode cX9_addStation 23 = .ok (.aload_n 0, 1) := by decide +kernel
theorem dX9_addStation_24 : decode cX9_addStation 24 = .ok (.iload_n 1, 1) := by decide +kernel
theorem dX9_addStation_25 : decode cX9_addStation 25 = .ok (.invokevirtual 137, 3) := by decide +kernel
theorem dX9_addStation_28 : decode cX9_addStation 28 = .ok (.iconst (-1), 1) := by decide +kernel
theorem dX9_addStation_29 : decode cX9_addStation 29 = .ok (.if_icmp .ne 11, 3) := by decide +kernel
theorem dX9_addStation_32 : decode cX9_addStation 32 = .ok (.aload_n 0, 1) := by decide +kernel
theorem dX9_addStation_33 : decode cX9_addStation 33 = .ok (.getfield 106, 3) := by decide +kernel
theorem dX9_addStation_36 : decode cX9_addStation 36 = .ok (.iconst 3, 1) := by decide +kernel
theorem dX9_addStation_37 : decode cX9_addStation 37 = .ok (.if_icmp .ne 7, 3) := by decide +kernel
theorem dX9_addStation_40 : decode cX9_addStation 40 = .ok (.iconst 2, 1) := by decide +kernel
theorem dX9_addStation_41 : decode cX9_addStation 41 = .ok (.goto 4, 3) := by decide +kernel
theorem dX9_addStation_44 : decode cX9_addStation 44 = .ok (.iconst 0, 1) := by decide +kernel
theorem dX9_addStation_45 : decode cX9_addStation 45 = .ok (.invokevirtual 140, 3) := by decide +kernel
theorem dX9_addStation_48 : decode cX9_addStation 48 = .ok (.ifCond .ne 5, 3) := by decide +kernel
theorem dX9_addStation_51 : decode cX9_addStation 51 = .ok (.iconst 0, 1) := by decide +kernel
theorem dX9_addStation_52 : decode cX9_addStation 52 = .ok (.ireturn, 1) := by decide +kernel
theorem dX9_addStation_53 : decode cX9_addStation 53 = .ok (.aload_n 0, 1) := by decide +kernel
theorem dX9_addStation_54 : decode cX9_addStation 54 = .ok (.getfield 16, 3) := by decide +kernel
theorem dX9_addStation_57 : decode cX9_addStation 57 = .ok (.aload_n 0, 1) := by decide +kernel
theorem dX9_addStation_58 : decode cX9_addStation 58 = .ok (.getfield 106, 3) := by decide +kernel
theorem dX9_addStation_61 : decode cX9_addStation 61 = .ok (.iload_n 1, 1) := by decide +kernel
theorem dX9_addStation_62 : decode cX9_addStation 62 = .ok (.iastore, 1) := by decide +kernel
theorem dX9_addStation_63 : decode cX9_addStation 63 = .ok (.aload_n 0, 1) := by decide +kernel
theorem dX9_addStation_64 : decode cX9_addStation 64 = .ok (.dup, 1) := by decide +kernel
theorem dX9_addStation_65 : decode cX9_addStation 65 = .ok (.getfield 106, 3) := by decide +kernel
theorem dX9_addStation_68 : decode cX9_addStation 68 = .ok (.iconst 1, 1) := by decide +kernel
theorem dX9_addStation_69 : decode cX9_addStation 69 = .ok (.iadd, 1) := by decide +kernel
theorem dX9_addStation_70 : decode cX9_addStation 70 = .ok (.putfield 106, 3) := by decide +kernel
theorem dX9_addStation_73 : decode cX9_addStation 73 = .ok (.aload_n 0, 1) := by decide +kernel
theorem dX9_addStation_74 : decode cX9_addStation 74 = .ok (.getfield 106, 3) := by decide +kernel
theorem dX9_addStation_77 : decode cX9_addStation 77 = .ok (.iconst 1, 1) := by decide +kernel
theorem dX9_addStation_78 : decode cX9_addStation 78 = .ok (.isub, 1) := by decide +kernel
theorem dX9_addStation_79 : decode cX9_addStation 79 = .ok (.ireturn, 1) := by decide +kernel
theorem dX9_addTray_0 : decode cX9_addTray 0 = .ok (.iload_n 1, 1) := by decide +kernel
theorem dX9_addTray_1 : decode cX9_addTray 1 = .ok (.invokestatic 131, 3) := by decide +kernel
theorem dX9_addTray_4 : decode cX9_addTray 4 = .ok (.ifCond .eq 25, 3) := by decide +kernel
theorem dX9_addTray_7 : decode cX9_addTray 7 = .ok (.iload_n 2, 1) := by decide +kernel
theorem dX9_addTray_8 : decode cX9_addTray 8 = .ok (.bipush 6, 2) := by decide +kernel
theorem dX9_addTray_10 : decode cX9_addTray 10 = .ok (.invokestatic 99, 3) := by decide +kernel
theorem dX9_addTray_13 : decode cX9_addTray 13 = .ok (.ifCond .eq 16, 3) := by decide +kernel
theorem dX9_addTray_16 : decode cX9_addTray 16 = .ok (.iload_n 3, 1) := by decide +kernel
theorem dX9_addTray_17 : decode cX9_addTray 17 = .ok (.bipush 101, 2) := by decide +kernel
theorem dX9_addTray_19 : decode cX9_addTray 19 = .ok (.invokestatic 99, 3) := by decide +kernel
theorem dX9_addTray_22 : decode cX9_addTray 22 = .ok (.ifCond .eq 7, 3) := by decide +kernel
theorem dX9_addTray_25 : decode cX9_addTray 25 = .ok (.iconst 1, 1) := by decide +kernel
theorem dX9_addTray_26 : decode cX9_addTray 26 = .ok (.goto 4, 3) := by decide +kernel
theorem dX9_addTray_29 : decode cX9_addTray 29 = .ok (.iconst 0, 1) := by decide +kernel
theorem dX9_addTray_30 : decode cX9_addTray 30 = .ok (.istore 4, 2) := by decide +kernel
theorem dX9_addTray_32 : decode cX9_addTray 32 = .ok (.aload_n 0, 1) := by decide +kernel
theorem dX9_addTray_33 : decode cX9_addTray 33 = .ok (.iload 4, 2) := by decide +kernel
theorem dX9_addTray_35 : decode cX9_addTray 35 = .ok (.ifCond .ne 7, 3) := by decide +kernel
theorem dX9_addTray_38 : decode cX9_addTray 38 = .ok (.iconst 1, 1) := by decide +kernel
theorem dX9_addTray_39 : decode cX9_addTray 39 = .ok (.goto 35, 3) := by decide +kernel
theorem dX9_addTray_42 : decode cX9_addTray 42 = .ok (.aload_n 0, 1) := by decide +kernel
theorem dX9_addTray_43 : decode cX9_addTray 43 = .ok (.getfield 7, 3) := by decide +kernel
theorem dX9_addTray_46 : decode cX9_addTray 46 = .ok (.iload_n 1, 1) := by decide +kernel
theorem dX9_addTray_47 : decode cX9_addTray 47 = .ok (.baload, 1) := by decide +kernel
theorem dX9_addTray_48 : decode cX9_addTray 48 = .ok (.ifCond .ne 21, 3) := by decide +kernel
theorem dX9_addTray_51 : decode cX9_addTray 51 = .ok (.aload_n 0, 1) := by decide +kernel
theorem dX9_addTray_52 : decode cX9_addTray 52 = .ok (.iload_n 1, 1) := by decide +kernel
theorem dX9_addTray_53 : decode cX9_addTray 53 = .ok (.invokevirtual 134, 3) := by decide +kernel
theorem dX9_addTray_56 : decode cX9_addTray 56 = .ok (.iconst (-1), 1) := by decide +kernel
theorem dX9_addTray_57 : decode cX9_addTray 57 = .ok (.if_icmp .ne 12, 3) := by decide +kernel
theorem dX9_addTray_60 : decode cX9_addTray 60 = .ok (.aload_n 0, 1) := by decide +kernel
theorem dX9_addTray_61 : decode cX9_addTray 61 = .ok (.getfield 109, 3) := by decide +kernel
theorem dX9_addTray_64 : decode cX9_addTray 64 = .ok (.bipush 16, 2) := by decide +kernel
theorem dX9_addTray_66 : decode cX9_addTray 66 = .ok (.if_icmp .ne 7, 3) := by decide +kernel
theorem dX9_addTray_69 : decode cX9_addTray 69 = .ok (.iconst 2, 1) := by decide +kernel
theorem dX9_addTray_70 : decode cX9_addTray 70 = .ok (.goto 4, 3) := by decide +kernel
theorem dX9_addTray_73 : decode cX9_addTray 73 = .ok (.iconst 0, 1) := by decide +kernel
theorem dX9_addTray_74 : decode cX9_addTray 74 = .ok (.invokevirtual 140, 3) := by decide +kernel
theorem dX9_addTray_77 : decode cX9_addTray 77 = .ok (.ifCond .ne 5, 3) := by decide +kernel
theorem dX9_addTray_80 : decode cX9_addTray 80 = .ok (.iconst 0, 1) := by decide +kernel
theorem dX9_addTray_81 : decode cX9_addTray 81 = .ok (.ireturn, 1) := by decide +kernel
theorem dX9_addTray_82 : decode cX9_addTray 82 = .ok (.aload_n 0, 1) := by decide +kernel
theorem dX9_addTray_83 : decode cX9_addTray 83 = .ok (.getfield 20, 3) := by decide +kernel
theorem dX9_addTray_86 : decode cX9_addTray 86 = .ok (.aload_n 0, 1) := by decide +kernel
theorem dX9_addTray_87 : decode cX9_addTray 87 = .ok (.getfield 109, 3) := by decide +kernel
theorem dX9_addTray_90 : decode cX9_addTray 90 = .ok (.iload_n 1, 1) := by decide +kernel
theorem dX9_addTray_91 : decode cX9_addTray 91 = .ok (.iastore, 1) := by decide +kernel
theorem dX9_addTray_92 : decode cX9_addTray 92 = .ok (.aload_n 0, 1) := by decide +kernel
theorem dX9_addTray_93 : decode cX9_addTray 93 = .ok (.getfield 23, 3) := by decide +kernel
theorem dX9_addTray_96 : decode cX9_addTray 96 = .ok (.aload_n 0, 1) := by decide +kernel
theorem dX9_addTray_97 : decode cX9_addTray 97 = .ok (.getfield 109, 3) := by decide +kernel
theorem dX9_addTray_100 : decode cX9_addTray 100 = .ok (.iload_n 2, 1) := by decide +kernel
theorem dX9_addTray_101 : decode cX9_addTray 101 = .ok (.iastore, 1) := by decide +kernel
theorem dX9_addTray_102 : decode cX9_addTray 102 = .ok (.aload_n 0, 1) := by decide +kernel
theorem dX9_addTray_103 : decode cX9_addTray 103 = .ok (.getfield 26, 3) := by decide +kernel
theorem dX9_addTray_106 : decode cX9_addTray 106 = .ok (.aload_n 0, 1) := by decide +kernel
theorem dX9_addTray_107 : decode cX9_addTray 107 = .ok (.getfield 109, 3) := by decide +kernel
theorem dX9_addTray_110 : decode cX9_addTray 110 = .ok (.iload_n 3, 1) := by decide +kernel
theorem dX9_addTray_111 : decode cX9_addTray 111 = .ok (.iastore, 1) := by decide +kernel
theorem dX9_addTray_112 : decode cX9_addTray 112 = .ok (.aload_n 0, 1) := by decide +kernel
theorem dX9_addTray_113 : decode cX9_addTray 113 = .ok (.getfield 74, 3) := by decide +kernel
theorem dX9_addTray_116 : decode cX9_addTray 116 = .ok (.iload_n 2, 1) := by decide +kernel
theorem dX9_addTray_117 : decode cX9_addTray 117 = .ok (.dup2, 1) := by decide +kernel
theorem dX9_addTray_118 : decode cX9_addTray 118 = .ok (.iaload, 1) := by decide +kernel
theorem dX9_addTray_119 : decode cX9_addTray 119 = .ok (.iload_n 3, 1) := by decide +kernel
theorem dX9_addTray_120 : decode cX9_addTray 120 = .ok (.iadd, 1) := by decide +kernel
theorem dX9_addTray_121 : decode cX9_addTray 121 = .ok (.iastore, 1) := by decide +kernel
theorem dX9_addTray_122 : decode cX9_addTray 122 = .ok (.aload_n 0, 1) := by decide +kernel
theorem dX9_addTray_123 : decode cX9_addTray 123 = .ok (.dup, 1) := by decide +kernel
theorem dX9_addTray_124 : decode cX9_addTray 124 = .ok (.getfield 109, 3) := by decide +kernel
theorem dX9_addTray_127 : decode cX9_addTray 127 = .ok (.iconst 1, 1) := by decide +kernel
theorem dX9_addTray_128 : decode cX9_addTray 128 = .ok (.iadd, 1) := by decide +kernel
theorem dX9_addTray_129 : decode cX9_addTray 129 = .ok (.putfield 109, 3) := by decide +kernel
theorem dX9_addTray_132 : decode cX9_addTray 132 = .ok (.aload_n 0, 1) := by decide +kernel
theorem dX9_addTray_133 : decode cX9_addTray 133 = .ok (.getfield 109, 3) := by decide +kernel
theorem dX9_addTray_136 : decode cX9_addTray 136 = .ok (.iconst 1, 1) := by decide +kernel
theorem dX9_addTray_137 : decode cX9_addTray 137 = .ok (.isub, 1) := by decide +kernel
theorem dX9_addTray_138 : decode cX9_addTray 138 = .ok (.ireturn, 1) := by decide +kernel
theorem dX9_isTray_0 : decode cX9_isTray 0 = .ok (.iload_n 1, 1) := by decide +kernel
theorem dX9_isTray_1 : decode cX9_isTray 1 = .ok (.aload_n 0, 1) := by decide +kernel
theorem dX9_isTray_2 : decode cX9_isTray 2 = .ok (.getfield 109, 3) := by decide +kernel
theorem dX9_isTray_5 : decode cX9_isTray 5 = .ok (.invokestatic 99, 3) := by decide +kernel
theorem dX9_isTray_8 : decode cX9_isTray 8 = .ok (.ireturn, 1) := by decide +kernel
theorem dX9_robotWith_0 : decode cX9_robotWith 0 = .ok (.iconst (-1), 1) := by decide +kernel
theorem dX9_robotWith_1 : decode cX9_robotWith 1 = .ok (.istore_n 3, 1) := by decide +kernel
theorem dX9_robotWith_2 : decode cX9_robotWith 2 = .ok (.iconst 0, 1) := by decide +kernel
theorem dX9_robotWith_3 : decode cX9_robotWith 3 = .ok (.istore 4, 2) := by decide +kernel
theorem dX9_robotWith_5 : decode cX9_robotWith 5 = .ok (.iload 4, 2) := by decide +kernel
theorem dX9_robotWith_7 : decode cX9_robotWith 7 = .ok (.aload_n 0, 1) := by decide +kernel
theorem dX9_robotWith_8 : decode cX9_robotWith 8 = .ok (.getfield 103, 3) := by decide +kernel
theorem dX9_robotWith_11 : decode cX9_robotWith 11 = .ok (.if_icmp .ge 47, 3) := by decide +kernel
theorem dX9_robotWith_14 : decode cX9_robotWith 14 = .ok (.aload_n 0, 1) := by decide +kernel
theorem dX9_robotWith_15 : decode cX9_robotWith 15 = .ok (.getfield 53, 3) := by decide +kernel
theorem dX9_robotWith_18 : decode cX9_robotWith 18 = .ok (.iload 4, 2) := by decide +kernel
theorem dX9_robotWith_20 : decode cX9_robotWith 20 = .ok (.iaload, 1) := by decide +kernel
theorem dX9_robotWith_21 : decode cX9_robotWith 21 = .ok (.iload_n 1, 1) := by decide +kernel
theorem dX9_robotWith_22 : decode cX9_robotWith 22 = .ok (.if_icmp .ne 28, 3) := by decide +kernel
theorem dX9_robotWith_25 : decode cX9_robotWith 25 = .ok (.aload_n 0, 1) := by decide +kernel
theorem dX9_robotWith_26 : decode cX9_robotWith 26 = .ok (.getfield 50, 3) := by decide +kernel
theorem dX9_robotWith_29 : decode cX9_robotWith 29 = .ok (.iload 4, 2) := by decide +kernel
theorem dX9_robotWith_31 : decode cX9_robotWith 31 = .ok (.iaload, 1) := by decide +kernel
theorem dX9_robotWith_32 : decode cX9_robotWith 32 = .ok (.iconst 1, 1) := by decide +kernel
theorem dX9_robotWith_33 : decode cX9_robotWith 33 = .ok (.if_icmp .ne 7, 3) := by decide +kernel
theorem dX9_robotWith_36 : decode cX9_robotWith 36 = .ok (.iconst 1, 1) := by decide +kernel
theorem dX9_robotWith_37 : decode cX9_robotWith 37 = .ok (.goto 4, 3) := by decide +kernel
theorem dX9_robotWith_40 : decode cX9_robotWith 40 = .ok (.iconst 0, 1) := by decide +kernel
theorem dX9_robotWith_41 : decode cX9_robotWith 41 = .ok (.iload_n 2, 1) := by decide +kernel
theorem dX9_robotWith_42 : decode cX9_robotWith 42 = .ok (.if_icmp .ne 8, 3) := by decide +kernel
theorem dX9_robotWith_45 : decode cX9_robotWith 45 = .ok (.iload 4, 2) := by decide +kernel
theorem dX9_robotWith_47 : decode cX9_robotWith 47 = .ok (.goto 4, 3) := by decide +kernel
theorem dX9_robotWith_50 : decode cX9_robotWith 50 = .ok (.iload_n 3, 1) := by decide +kernel
theorem dX9_robotWith_51 : decode cX9_robotWith 51 = .ok (.istore_n 3, 1) := by decide +kernel
theorem dX9_robotWith_52 : decode cX9_robotWith 52 = .ok (.iinc 4 1, 3) := by decide +kernel
theorem dX9_robotWith_55 : decode cX9_robotWith 55 = .ok (.goto (-50), 3) := by decide +kernel
theorem dX9_robotWith_58 : decode cX9_robotWith 58 = .ok (.iload_n 3, 1) := by decide +kernel
theorem dX9_robotWith_59 : decode cX9_robotWith 59 = .ok (.ireturn, 1) := by decide +kernel
theorem dX9_fill_0 : decode cX9_fill 0 = .ok (.aload_n 0, 1) := by decide +kernel
theorem dX9_fill_1 : decode cX9_fill 1 = .ok (.iload_n 1, 1) := by decide +kernel
theorem dX9_fill_2 : decode cX9_fill 2 = .ok (.invokevirtual 146, 3) := by decide +kernel
theorem dX9_fill_5 : decode cX9_fill 5 = .ok (.istore_n 3, 1) := by decide +kernel
theorem dX9_fill_6 : decode cX9_fill 6 = .ok (.aload_n 0, 1) := by decide +kernel
theorem dX9_fill_7 : decode cX9_fill 7 = .ok (.iload_n 3, 1) := by decide +kernel
theorem dX9_fill_8 : decode cX9_fill 8 = .ok (.ifCond .ne 7, 3) := by decide +kernel
theorem dX9_fill_11 : decode cX9_fill 11 = .ok (.iconst 1, 1) := by decide +kernel
theorem dX9_fill_12 : decode cX9_fill 12 = .ok (.goto 33, 3) := by decide +kernel
theorem dX9_fill_15 : decode cX9_fill 15 = .ok (.iload_n 2, 1) := by decide +kernel
theorem dX9_fill_16 : decode cX9_fill 16 = .ok (.iconst 1, 1) := by decide +kernel
theorem dX9_fill_17 : decode cX9_fill 17 = .ok (.if_icmp .lt 9, 3) := by decide +kernel
theorem dX9_fill_20 : decode cX9_fill 20 = .ok (.iload_n 2, 1) := by decide +kernel
theorem dX9_fill_21 : decode cX9_fill 21 = .ok (.bipush 100, 2) := by decide +kernel
theorem dX9_fill_23 : decode cX9_fill 23 = .ok (.if_icmp .le 7, 3) := by decide +kernel
theorem dX9_fill_26 : decode cX9_fill 26 = .ok (.iconst 2, 1) := by decide +kernel
theorem dX9_fill_27 : decode cX9_fill 27 = .ok (.goto 18, 3) := by decide +kernel
theorem dX9_fill_30 : decode cX9_fill 30 = .ok (.aload_n 0, 1) := by decide +kernel
theorem dX9_fill_31 : decode cX9_fill 31 = .ok (.iload_n 1, 1) := by decide +kernel
theorem dX9_fill_32 : decode cX9_fill 32 = .ok (.iconst 0, 1) := by decide +kernel
theorem dX9_fill_33 : decode cX9_fill 33 = .ok (.invokevirtual 149, 3) := by decide +kernel
theorem dX9_fill_36 : decode cX9_fill 36 = .ok (.iconst (-1), 1) := by decide +kernel
theorem dX9_fill_37 : decode cX9_fill 37 = .ok (.if_icmp .eq 7, 3) := by decide +kernel
theorem dX9_fill_40 : decode cX9_fill 40 = .ok (.iconst 3, 1) := by decide +kernel
theorem dX9_fill_41 : decode cX9_fill 41 = .ok (.goto 4, 3) := by decide +kernel
theorem dX9_fill_44 : decode cX9_fill 44 = .ok (.iconst 0, 1) := by decide +kernel
theorem dX9_fill_45 : decode cX9_fill 45 = .ok (.invokevirtual 140, 3) := by decide +kernel
theorem dX9_fill_48 : decode cX9_fill 48 = .ok (.ifCond .ne 5, 3) := by decide +kernel
theorem dX9_fill_51 : decode cX9_fill 51 = .ok (.iconst 0, 1) := by decide +kernel
theorem dX9_fill_52 : decode cX9_fill 52 = .ok (.ireturn, 1) := by decide +kernel
theorem dX9_fill_53 : decode cX9_fill 53 = .ok (.aload_n 0, 1) := by decide +kernel
theorem dX9_fill_54 : decode cX9_fill 54 = .ok (.getfield 26, 3) := by decide +kernel
theorem dX9_fill_57 : decode cX9_fill 57 = .ok (.iload_n 1, 1) := by decide +kernel
theorem dX9_fill_58 : decode cX9_fill 58 = .ok (.dup2, 1) := by decide +kernel
theorem dX9_fill_59 : decode cX9_fill 59 = .ok (.iaload, 1) := by decide +kernel
theorem dX9_fill_60 : decode cX9_fill 60 = .ok (.iload_n 2, 1) := by decide +kernel
theorem dX9_fill_61 : decode cX9_fill 61 = .ok (.iadd, 1) := by decide +kernel
theorem dX9_fill_62 : decode cX9_fill 62 = .ok (.iastore, 1) := by decide +kernel
theorem dX9_fill_63 : decode cX9_fill 63 = .ok (.aload_n 0, 1) := by decide +kernel
theorem dX9_fill_64 : decode cX9_fill 64 = .ok (.getfield 74, 3) := by decide +kernel
theorem dX9_fill_67 : decode cX9_fill 67 = .ok (.aload_n 0, 1) := by decide +kernel
theorem dX9_fill_68 : decode cX9_fill 68 = .ok (.getfield 23, 3) := by decide +kernel
theorem dX9_fill_71 : decode cX9_fill 71 = .ok (.iload_n 1, 1) := by decide +kernel
theorem dX9_fill_72 : decode cX9_fill 72 = .ok (.iaload, 1) := by decide +kernel
theorem dX9_fill_73 : decode cX9_fill 73 = .ok (.dup2, 1) := by decide +kernel
theorem dX9_fill_74 : decode cX9_fill 74 = .ok (.iaload, 1) := by decide +kernel
theorem dX9_fill_75 : decode cX9_fill 75 = .ok (.iload_n 2, 1) := by decide +kernel
theorem dX9_fill_76 : decode cX9_fill 76 = .ok (.iadd, 1) := by decide +kernel
theorem dX9_fill_77 : decode cX9_fill 77 = .ok (.iastore, 1) := by decide +kernel
theorem dX9_fill_78 : decode cX9_fill 78 = .ok (.aload_n 0, 1) := by decide +kernel
theorem dX9_fill_79 : decode cX9_fill 79 = .ok (.getfield 26, 3) := by decide +kernel
theorem dX9_fill_82 : decode cX9_fill 82 = .ok (.iload_n 1, 1) := by decide +kernel
theorem dX9_fill_83 : decode cX9_fill 83 = .ok (.iaload, 1) := by decide +kernel
theorem dX9_fill_84 : decode cX9_fill 84 = .ok (.ireturn, 1) := by decide +kernel
theorem dX9_addOrder_0 : decode cX9_addOrder 0 = .ok (.aload_n 0, 1) := by decide +kernel
theorem dX9_addOrder_1 : decode cX9_addOrder 1 = .ok (.aload_n 0, 1) := by decide +kernel
theorem dX9_addOrder_2 : decode cX9_addOrder 2 = .ok (.getfield 153, 3) := by decide +kernel
theorem dX9_addOrder_5 : decode cX9_addOrder 5 = .ok (.bipush 10, 2) := by decide +kernel
theorem dX9_addOrder_7 : decode cX9_addOrder 7 = .ok (.if_icmp .ne 7, 3) := by decide +kernel
theorem dX9_addOrder_10 : decode cX9_addOrder 10 = .ok (.iconst 1, 1) := by decide +kernel
theorem dX9_addOrder_11 : decode cX9_addOrder 11 = .ok (.goto 4, 3) := by decide +kernel
theorem dX9_addOrder_14 : decode cX9_addOrder 14 = .ok (.iconst 0, 1) := by decide +kernel
theorem dX9_addOrder_15 : decode cX9_addOrder 15 = .ok (.invokevirtual 140, 3) := by decide +kernel
theorem dX9_addOrder_18 : decode cX9_addOrder 18 = .ok (.ifCond .ne 5, 3) := by decide +kernel
theorem dX9_addOrder_21 : decode cX9_addOrder 21 = .ok (.iconst 0, 1) := by decide +kernel
theorem dX9_addOrder_22 : decode cX9_addOrder 22 = .ok (.ireturn, 1) := by decide +kernel
theorem dX9_addOrder_23 : decode cX9_addOrder 23 = .ok (.aload_n 0, 1) := by decide +kernel
theorem dX9_addOrder_24 : decode cX9_addOrder 24 = .ok (.dup, 1) := by decide +kernel
theorem dX9_addOrder_25 : decode cX9_addOrder 25 = .ok (.getfield 153, 3) := by decide +kernel
theorem dX9_addOrder_28 : decode cX9_addOrder 28 = .ok (.iconst 1, 1) := by decide +kernel
theorem dX9_addOrder_29 : decode cX9_addOrder 29 = .ok (.iadd, 1) := by decide +kernel
theorem dX9_addOrder_30 : decode cX9_addOrder 30 = .ok (.putfield 153, 3) := by decide +kernel
theorem dX9_addOrder_33 : decode cX9_addOrder 33 = .ok (.aload_n 0, 1) := by decide +kernel
theorem dX9_addOrder_34 : decode cX9_addOrder 34 = .ok (.getfield 153, 3) := by decide +kernel
theorem dX9_addOrder_37 : decode cX9_addOrder 37 = .ok (.iconst 1, 1) := by decide +kernel
theorem dX9_addOrder_38 : decode cX9_addOrder 38 = .ok (.isub, 1) := by decide +kernel
theorem dX9_addOrder_39 : decode cX9_addOrder 39 = .ok (.ireturn, 1) := by decide +kernel
theorem dX9_addLine_0 : decode cX9_addLine 0 = .ok (.iload_n 1, 1) := by decide +kernel
theorem dX9_addLine_1 : decode cX9_addLine 1 = .ok (.aload_n 0, 1) := by decide +kernel
theorem dX9_addLine_2 : decode cX9_addLine 2 = .ok (.getfield 153, 3) := by decide +kernel
theorem dX9_addLine_5 : decode cX9_addLine 5 = .ok (.invokestatic 99, 3) := by decide +kernel
theorem dX9_addLine_8 : decode cX9_addLine 8 = .ok (.istore 4, 2) := by decide +kernel
theorem dX9_addLine_10 : decode cX9_addLine 10 = .ok (.aload_n 0, 1) := by decide +kernel
theorem dX9_addLine_11 : decode cX9_addLine 11 = .ok (.iload 4, 2) := by decide +kernel
theorem dX9_addLine_13 : decode cX9_addLine 13 = .ok (.ifCond .ne 7, 3) := by decide +kernel
theorem dX9_addLine_16 : decode cX9_addLine 16 = .ok (.iconst 1, 1) := by decide +kernel
theorem dX9_addLine_17 : decode cX9_addLine 17 = .ok (.goto 42, 3) := by decide +kernel
theorem dX9_addLine_20 : decode cX9_addLine 20 = .ok (.iload_n 2, 1) := by decide +kernel
theorem dX9_addLine_21 : decode cX9_addLine 21 = .ok (.bipush 6, 2) := by decide +kernel
theorem dX9_addLine_23 : decode cX9_addLine 23 = .ok (.invokestatic 99, 3) := by decide +kernel
theorem dX9_addLine_26 : decode cX9_addLine 26 = .ok (.ifCond .eq 14, 3) := by decide +kernel
theorem dX9_addLine_29 : decode cX9_addLine 29 = .ok (.iload_n 3, 1) := by decide +kernel
theorem dX9_addLine_30 : decode cX9_addLine 30 = .ok (.iconst 1, 1) := by decide +kernel
theorem dX9_addLine_31 : decode cX9_addLine 31 = .ok (.if_icmp .lt 9, 3) := by decide +kernel
theorem dX9_addLine_34 : decode cX9_addLine 34 = .ok (.iload_n 3, 1) := by decide +kernel
theorem dX9_addLine_35 : decode cX9_addLine 35 = .ok (.bipush 50, 2) := by decide +kernel
theorem dX9_addLine_37 : decode cX9_addLine 37 = .ok (.if_icmp .le 7, 3) := by decide +kernel
theorem dX9_addLine_40 : decode cX9_addLine 40 = .ok (.iconst 2, 1) := by decide +kernel
theorem dX9_addLine_41 : decode cX9_addLine 41 = .ok (.goto 18, 3) := by decide +kernel
theorem dX9_addLine_44 : decode cX9_addLine 44 = .ok (.aload_n 0, 1) := by decide +kernel
theorem dX9_addLine_45 : decode cX9_addLine 45 = .ok (.getfield 29, 3) := by decide +kernel
theorem dX9_addLine_48 : decode cX9_addLine 48 = .ok (.iload_n 1, 1) := by decide +kernel
theorem dX9_addLine_49 : decode cX9_addLine 49 = .ok (.iaload, 1) := by decide +kernel
theorem dX9_addLine_50 : decode cX9_addLine 50 = .ok (.iconst 3, 1) := by decide +kernel
theorem dX9_addLine_51 : decode cX9_addLine 51 = .ok (.if_icmp .ne 7, 3) := by decide +kernel
theorem dX9_addLine_54 : decode cX9_addLine 54 = .ok (.iconst 3, 1) := by decide +kernel
theorem dX9_addLine_55 : decode cX9_addLine 55 = .ok (.goto 4, 3) := by decide +kernel
theorem dX9_addLine_58 : decode cX9_addLine 58 = .ok (.iconst 0, 1) := by decide +kernel
theorem dX9_addLine_59 : decode cX9_addLine 59 = .ok (.invokevirtual 140, 3) := by decide +kernel
theorem dX9_addLine_62 : decode cX9_addLine 62 = .ok (.ifCond .ne 5, 3) := by decide +kernel
theorem dX9_addLine_65 : decode cX9_addLine 65 = .ok (.iconst 0, 1) := by decide +kernel
theorem dX9_addLine_66 : decode cX9_addLine 66 = .ok (.ireturn, 1) := by decide +kernel
theorem dX9_addLine_67 : decode cX9_addLine 67 = .ok (.iconst 3, 1) := by decide +kernel
theorem dX9_addLine_68 : decode cX9_addLine 68 = .ok (.iload_n 1, 1) := by decide +kernel
theorem dX9_addLine_69 : decode cX9_addLine 69 = .ok (.imul, 1) := by decide +kernel
theorem dX9_addLine_70 : decode cX9_addLine 70 = .ok (.aload_n 0, 1) := by decide +kernel
theorem dX9_addLine_71 : decode cX9_addLine 71 = .ok (.getfield 29, 3) := by decide +kernel
theorem dX9_addLine_74 : decode cX9_addLine 74 = .ok (.iload_n 1, 1) := by decide +kernel
theorem dX9_addLine_75 : decode cX9_addLine 75 = .ok (.iaload, 1) := by decide +kernel
theorem dX9_addLine_76 : decode cX9_addLine 76 = .ok (.iadd, 1) := by decide +kernel
theorem dX9_addLine_77 : decode cX9_addLine 77 = .ok (.istore 5, 2) := by decide +kernel
theorem dX9_addLine_79 : decode cX9_addLine 79 = .ok (.aload_n 0, 1) := by decide +kernel
theorem dX9_addLine_80 : decode cX9_addLine 80 = .ok (.getfield 32, 3) := by decide +kernel
theorem dX9_addLine_83 : decode cX9_addLine 83 = .ok (.iload 5, 2) := by decide +kernel
theorem dX9_addLine_85 : decode cX9_addLine 85 = .ok (.iload_n 2, 1) := by decide +kernel
theorem dX9_addLine_86 : decode cX9_addLine 86 = .ok (.iastore, 1) := by decide +kernel
theorem dX9_addLine_87 : decode cX9_addLine 87 = .ok (.aload_n 0, 1) := by decide +kernel
theorem dX9_addLine_88 : decode cX9_addLine 88 = .ok (.getfield 35, 3) := by decide +kernel
theorem dX9_addLine_91 : decode cX9_addLine 91 = .ok (.iload 5, 2) := by decide +kernel
theorem dX9_addLine_93 : decode cX9_addLine 93 = .ok (.iload_n 3, 1) := by decide +kernel
theorem dX9_addLine_94 : decode cX9_addLine 94 = .ok (.iastore, 1) := by decide +kernel
theorem dX9_addLine_95 : decode cX9_addLine 95 = .ok (.aload_n 0, 1) := by decide +kernel
theorem dX9_addLine_96 : decode cX9_addLine 96 = .ok (.getfield 38, 3) := by decide +kernel
theorem dX9_addLine_99 : decode cX9_addLine 99 = .ok (.iload 5, 2) := by decide +kernel
theorem dX9_addLine_101 : decode cX9_addLine 101 = .ok (.iconst (-1), 1) := by decide +kernel
theorem dX9_addLine_102 : decode cX9_addLine 102 = .ok (.iastore, 1) := by decide +kernel
theorem dX9_addLine_103 : decode cX9_addLine 103 = .ok (.aload_n 0, 1) := by decide +kernel
theorem dX9_addLine_104 : decode cX9_addLine 104 = .ok (.getfield 29, 3) := by decide +kernel
theorem dX9_addLine_107 : decode cX9_addLine 107 = .ok (.iload_n 1, 1) := by decide +kernel
theorem dX9_addLine_108 : decode cX9_addLine 108 = .ok (.dup2, 1) := by decide +kernel
theorem dX9_addLine_109 : decode cX9_addLine 109 = .ok (.iaload, 1) := by decide +kernel
theorem dX9_addLine_110 : decode cX9_addLine 110 = .ok (.iconst 1, 1) := by decide +kernel
theorem dX9_addLine_111 : decode cX9_addLine 111 = .ok (.iadd, 1) := by decide +kernel
theorem dX9_addLine_112 : decode cX9_addLine 112 = .ok (.iastore, 1) := by decide +kernel
theorem dX9_addLine_113 : decode cX9_addLine 113 = .ok (.aload_n 0, 1) := by decide +kernel
theorem dX9_addLine_114 : decode cX9_addLine 114 = .ok (.getfield 29, 3) := by decide +kernel
theorem dX9_addLine_117 : decode cX9_addLine 117 = .ok (.iload_n 1, 1) := by decide +kernel
theorem dX9_addLine_118 : decode cX9_addLine 118 = .ok (.iaload, 1) := by decide +kernel
theorem dX9_addLine_119 : decode cX9_addLine 119 = .ok (.iconst 1, 1) := by decide +kernel
theorem dX9_addLine_120 : decode cX9_addLine 120 = .ok (.isub, 1) := by decide +kernel
theorem dX9_addLine_121 : decode cX9_addLine 121 = .ok (.ireturn, 1) := by decide +kernel
theorem dX9_isLine_0 : decode cX9_isLine 0 = .ok (.iload_n 1, 1) := by decide +kernel
theorem dX9_isLine_1 : decode cX9_isLine 1 = .ok (.aload_n 0, 1) := by decide +kernel
theorem dX9_isLine_2 : decode cX9_isLine 2 = .ok (.getfield 153, 3) := by decide +kernel
theorem dX9_isLine_5 : decode cX9_isLine 5 = .ok (.invokestatic 99, 3) := by decide +kernel
theorem dX9_isLine_8 : decode cX9_isLine 8 = .ok (.ifCond .eq 20, 3) := by decide +kernel
theorem dX9_isLine_11 : decode cX9_isLine 11 = .ok (.iload_n 2, 1) := by decide +kernel
theorem dX9_isLine_12 : decode cX9_isLine 12 = .ok (.aload_n 0, 1) := by decide +kernel
theorem dX9_isLine_13 : decode cX9_isLine 13 = .ok (.getfield 29, 3) := by decide +kernel
theorem dX9_isLine_16 : decode cX9_isLine 16 = .ok (.iload_n 1, 1) := by decide +kernel
theorem dX9_isLine_17 : decode cX9_isLine 17 = .ok (.iaload, 1) := by decide +kernel
theorem dX9_isLine_18 : decode cX9_isLine 18 = .ok (.invokestatic 99, 3) := by decide +kernel
theorem dX9_isLine_21 : decode cX9_isLine 21 = .ok (.ifCond .eq 7, 3) := by decide +kernel
theorem dX9_isLine_24 : decode cX9_isLine 24 = .ok (.iconst 1, 1) := by decide +kernel
theorem dX9_isLine_25 : decode cX9_isLine 25 = .ok (.goto 4, 3) := by decide +kernel
theorem dX9_isLine_28 : decode cX9_isLine 28 = .ok (.iconst 0, 1) := by decide +kernel
theorem dX9_isLine_29 : decode cX9_isLine 29 = .ok (.ireturn, 1) := by decide +kernel
theorem dX9_claim_0 : decode cX9_claim 0 = .ok (.iload_n 1, 1) := by decide +kernel
theorem dX9_claim_1 : decode cX9_claim 1 = .ok (.aload_n 0, 1) := by decide +kernel
theorem dX9_claim_2 : decode cX9_claim 2 = .ok (.getfield 106, 3) := by decide +kernel
theorem dX9_claim_5 : decode cX9_claim 5 = .ok (.invokestatic 99, 3) := by decide +kernel
theorem dX9_claim_8 : decode cX9_claim 8 = .ok (.ifCond .eq 16, 3) := by decide +kernel
theorem dX9_claim_11 : decode cX9_claim 11 = .ok (.aload_n 0, 1) := by decide +kernel
theorem dX9_claim_12 : decode cX9_claim 12 = .ok (.iload_n 2, 1) := by decide +kernel
theorem dX9_claim_13 : decode cX9_claim 13 = .ok (.iload_n 3, 1) := by decide +kernel
theorem dX9_claim_14 : decode cX9_claim 14 = .ok (.invokevirtual 156, 3) := by decide +kernel
theorem dX9_claim_17 : decode cX9_claim 17 = .ok (.ifCond .eq 7, 3) := by decide +kernel
theorem dX9_claim_20 : decode cX9_claim 20 = .ok (.iconst 1, 1) := by decide +kernel
theorem dX9_claim_21 : decode cX9_claim 21 = .ok (.goto 4, 3) := by decide +kernel
theorem dX9_claim_24 : decode cX9_claim 24 = .ok (.iconst 0, 1) := by decide +kernel
theorem dX9_claim_25 : decode cX9_claim 25 = .ok (.istore 4, 2) := by decide +kernel
theorem dX9_claim_27 : decode cX9_claim 27 = .ok (.aload_n 0, 1) := by decide +kernel
theorem dX9_claim_28 : decode cX9_claim 28 = .ok (.iload 4, 2) := by decide +kernel
theorem dX9_claim_30 : decode cX9_claim 30 = .ok (.ifCond .ne 7, 3) := by decide +kernel
theorem dX9_claim_33 : decode cX9_claim 33 = .ok (.iconst 1, 1) := by decide +kernel
theorem dX9_claim_34 : decode cX9_claim 34 = .ok (.goto 22, 3) := by decide +kernel
theorem dX9_claim_37 : decode cX9_claim 37 = .ok (.aload_n 0, 1) := by decide +kernel
theorem dX9_claim_38 : decode cX9_claim 38 = .ok (.getfield 38, 3) := by decide +kernel
theorem dX9_claim_41 : decode cX9_claim 41 = .ok (.iconst 3, 1) := by decide +kernel
theorem dX9_claim_42 : decode cX9_claim 42 = .ok (.iload_n 2, 1) := by decide +kernel
theorem dX9_claim_43 : decode cX9_claim 43 = .ok (.imul, 1) := by decide +kernel
theorem dX9_claim_44 : decode cX9_claim 44 = .ok (.iload_n 3, 1) := by decide +kernel
theorem dX9_claim_45 : decode cX9_claim 45 = .ok (.iadd, 1) := by decide +kernel
theorem dX9_claim_46 : decode cX9_claim 46 = .ok (.iaload, 1) := by decide +kernel
theorem dX9_claim_47 : decode cX9_claim 47 = .ok (.iconst (-1), 1) := by decide +kernel
theorem dX9_claim_48 : decode cX9_claim 48 = .ok (.if_icmp .eq 7, 3) := by decide +kernel
theorem dX9_claim_51 : decode cX9_claim 51 = .ok (.iconst 2, 1) := by decide +kernel
theorem dX9_claim_52 : decode cX9_claim 52 = .ok (.goto 4, 3) := by decide +kernel
theorem dX9_claim_55 : decode cX9_claim 55 = .ok (.iconst 0, 1) := by decide +kernel
theorem dX9_claim_56 : decode cX9_claim 56 = .ok (.invokevirtual 140, 3) := by decide +kernel
theorem dX9_claim_59 : decode cX9_claim 59 = .ok (.ifCond .ne 5, 3) := by decide +kernel
theorem dX9_claim_62 : decode cX9_claim 62 = .ok (.iconst 0, 1) := by decide +kernel
theorem dX9_claim_63 : decode cX9_claim 63 = .ok (.ireturn, 1) := by decide +kernel
theorem dX9_claim_64 : decode cX9_claim 64 = .ok (.aload_n 0, 1) := by decide +kernel
theorem dX9_claim_65 : decode cX9_claim 65 = .ok (.dup, 1) := by decide +kernel
theorem dX9_claim_66 : decode cX9_claim 66 = .ok (.getfield 159, 3) := by decide +kernel
theorem dX9_claim_69 : decode cX9_claim 69 = .ok (.iconst 1, 1) := by decide +kernel
theorem dX9_claim_70 : decode cX9_claim 70 = .ok (.iadd, 1) := by decide +kernel
theorem dX9_claim_71 : decode cX9_claim 71 = .ok (.putfield 159, 3) := by decide +kernel
theorem dX9_claim_74 : decode cX9_claim 74 = .ok (.aload_n 0, 1) := by decide +kernel
theorem dX9_claim_75 : decode cX9_claim 75 = .ok (.getfield 38, 3) := by decide +kernel
theorem dX9_claim_78 : decode cX9_claim 78 = .ok (.iconst 3, 1) := by decide +kernel
theorem dX9_claim_79 : decode cX9_claim 79 = .ok (.iload_n 2, 1) := by decide +kernel
theorem dX9_claim_80 : decode cX9_claim 80 = .ok (.imul, 1) := by decide +kernel
theorem dX9_claim_81 : decode cX9_claim 81 = .ok (.iload_n 3, 1) := by decide +kernel
theorem dX9_claim_82 : decode cX9_claim 82 = .ok (.iadd, 1) := by decide +kernel
theorem dX9_claim_83 : decode cX9_claim 83 = .ok (.iload_n 1, 1) := by decide +kernel
theorem dX9_claim_84 : decode cX9_claim 84 = .ok (.iastore, 1) := by decide +kernel
theorem dX9_claim_85 : decode cX9_claim 85 = .ok (.aload_n 0, 1) := by decide +kernel
theorem dX9_claim_86 : decode cX9_claim 86 = .ok (.getfield 41, 3) := by decide +kernel
theorem dX9_claim_89 : decode cX9_claim 89 = .ok (.iconst 3, 1) := by decide +kernel
theorem dX9_claim_90 : decode cX9_claim 90 = .ok (.iload_n 2, 1) := by decide +kernel
theorem dX9_claim_91 : decode cX9_claim 91 = .ok (.imul, 1) := by decide +kernel
theorem dX9_claim_92 : decode cX9_claim 92 = .ok (.iload_n 3, 1) := by decide +kernel
theorem dX9_claim_93 : decode cX9_claim 93 = .ok (.iadd, 1) := by decide +kernel
theorem dX9_claim_94 : decode cX9_claim 94 = .ok (.aload_n 0, 1) := by decide +kernel
theorem dX9_claim_95 : decode cX9_claim 95 = .ok (.getfield 159, 3) := by decide +kernel
theorem dX9_claim_98 : decode cX9_claim 98 = .ok (.iastore, 1) := by decide +kernel
theorem dX9_claim_99 : decode cX9_claim 99 = .ok (.iconst 0, 1) := by decide +kernel
theorem dX9_claim_100 : decode cX9_claim 100 = .ok (.istore 5, 2) := by decide +kernel
theorem dX9_claim_102 : decode cX9_claim 102 = .ok (.iconst 0, 1) := by decide +kernel
theorem dX9_claim_103 : decode cX9_claim 103 = .ok (.istore 6, 2) := by decide +kernel
theorem dX9_claim_105 : decode cX9_claim 105 = .ok (.iload 6, 2) := by decide +kernel
theorem dX9_claim_107 : decode cX9_claim 107 = .ok (.bipush 30, 2) := by decide +kernel
theorem dX9_claim_109 : decode cX9_claim 109 = .ok (.if_icmp .ge 45, 3) := by decide +kernel
theorem dX9_claim_112 : decode cX9_claim 112 = .ok (.iload 5, 2) := by decide +kernel
theorem dX9_claim_114 : decode cX9_claim 114 = .ok (.aload_n 0, 1) := by decide +kernel
theorem dX9_claim_115 : decode cX9_claim 115 = .ok (.iload 6, 2) := by decide +kernel
theorem dX9_claim_117 : decode cX9_claim 117 = .ok (.iconst 3, 1) := by decide +kernel
theorem dX9_claim_118 : decode cX9_claim 118 = .ok (.idiv, 1) := by decide +kernel
theorem dX9_claim_119 : decode cX9_claim 119 = .ok (.iload 6, 2) := by decide +kernel
theorem dX9_claim_121 : decode cX9_claim 121 = .ok (.iconst 3, 1) := by decide +kernel
theorem dX9_claim_122 : decode cX9_claim 122 = .ok (.irem, 1) := by decide +kernel
theorem dX9_claim_123 : decode cX9_claim 123 = .ok (.invokevirtual 156, 3) := by decide +kernel
theorem dX9_claim_126 : decode cX9_claim 126 = .ok (.ifCond .eq 18, 3) := by decide +kernel
theorem dX9_claim_129 : decode cX9_claim 129 = .ok (.aload_n 0, 1) := by decide +kernel
theorem dX9_claim_130 : decode cX9_claim 130 = .ok (.getfield 38, 3) := by decide +kernel
theorem dX9_claim_133 : decode cX9_claim 133 = .ok (.iload 6, 2) := by decide +kernel
theorem dX9_claim_135 : decode cX9_claim 135 = .ok (.iaload, 1) := by decide +kernel
theorem dX9_claim_136 : decode cX9_claim 136 = .ok (.iload_n 1, 1) := by decide +kernel
theorem dX9_claim_137 : decode cX9_claim 137 = .ok (.if_icmp .ne 7, 3) := by decide +kernel
theorem dX9_claim_140 : decode cX9_claim 140 = .ok (.iconst 1, 1) := by decide +kernel
theorem dX9_claim_141 : decode cX9_claim 141 = .ok (.goto 4, 3) := by decide +kernel
theorem dX9_claim_144 : decode cX9_claim 144 = .ok (.iconst 0, 1) := by decide +kernel
theorem dX9_claim_145 : decode cX9_claim 145 = .ok (.iadd, 1) := by decide +kernel
theorem dX9_claim_146 : decode cX9_claim 146 = .ok (.istore 5, 2) := by decide +kernel
theorem dX9_claim_148 : decode cX9_claim 148 = .ok (.iinc 6 1, 3) := by decide +kernel
theorem dX9_claim_151 : decode cX9_claim 151 = .ok (.goto (-46), 3) := by decide +kernel
theorem dX9_claim_154 : decode cX9_claim 154 = .ok (.iload 5, 2) := by decide +kernel
theorem dX9_claim_156 : decode cX9_claim 156 = .ok (.ireturn, 1) := by decide +kernel
theorem dX9_becomes_0 : decode cX9_becomes 0 = .ok (.aload_n 0, 1) := by decide +kernel
theorem dX9_becomes_1 : decode cX9_becomes 1 = .ok (.getfield 50, 3) := by decide +kernel
theorem dX9_becomes_4 : decode cX9_becomes 4 = .ok (.iload_n 1, 1) := by decide +kernel
theorem dX9_becomes_5 : decode cX9_becomes 5 = .ok (.iload_n 2, 1) := by decide +kernel
theorem dX9_becomes_6 : decode cX9_becomes 6 = .ok (.iastore, 1) := by decide +kernel
theorem dX9_becomes_7 : decode cX9_becomes 7 = .ok (.aload_n 0, 1) := by decide +kernel
theorem dX9_becomes_8 : decode cX9_becomes 8 = .ok (.getfield 59, 3) := by decide +kernel
theorem dX9_becomes_11 : decode cX9_becomes 11 = .ok (.iload_n 1, 1) := by decide +kernel
theorem dX9_becomes_12 : decode cX9_becomes 12 = .ok (.iconst (-1), 1) := by decide +kernel
theorem dX9_becomes_13 : decode cX9_becomes 13 = .ok (.iastore, 1) := by decide +kernel
theorem dX9_becomes_14 : decode cX9_becomes 14 = .ok (.aload_n 0, 1) := by decide +kernel
theorem dX9_becomes_15 : decode cX9_becomes 15 = .ok (.getfield 62, 3) := by decide +kernel
theorem dX9_becomes_18 : decode cX9_becomes 18 = .ok (.iload_n 1, 1) := by decide +kernel
theorem dX9_becomes_19 : decode cX9_becomes 19 = .ok (.iconst (-1), 1) := by decide +kernel
theorem dX9_becomes_20 : decode cX9_becomes 20 = .ok (.iastore, 1) := by decide +kernel
theorem dX9_becomes_21 : decode cX9_becomes 21 = .ok (.aload_n 0, 1) := by decide +kernel
theorem dX9_becomes_22 : decode cX9_becomes 22 = .ok (.getfield 56, 3) := by decide +kernel
theorem dX9_becomes_25 : decode cX9_becomes 25 = .ok (.iload_n 1, 1) := by decide +kernel
theorem dX9_becomes_26 : decode cX9_becomes 26 = .ok (.iload_n 2, 1) := by decide +kernel
theorem dX9_becomes_27 : decode cX9_becomes 27 = .ok (.iconst 1, 1) := by decide +kernel
theorem dX9_becomes_28 : decode cX9_becomes 28 = .ok (.if_icmp .eq 13, 3) := by decide +kernel
theorem dX9_becomes_31 : decode cX9_becomes 31 = .ok (.iload_n 2, 1) := by decide +kernel
theorem dX9_becomes_32 : decode cX9_becomes 32 = .ok (.iconst 2, 1) := by decide +kernel
theorem dX9_becomes_33 : decode cX9_becomes 33 = .ok (.if_icmp .eq 8, 3) := by decide +kernel
theorem dX9_becomes_36 : decode cX9_becomes 36 = .ok (.iload_n 2, 1) := by decide +kernel
theorem dX9_becomes_37 : decode cX9_becomes 37 = .ok (.iconst 3, 1) := by decide +kernel
theorem dX9_becomes_38 : decode cX9_becomes 38 = .ok (.if_icmp .ne 12, 3) := by decide +kernel
theorem dX9_becomes_41 : decode cX9_becomes 41 = .ok (.aload_n 0, 1) := by decide +kernel
theorem dX9_becomes_42 : decode cX9_becomes 42 = .ok (.getfield 56, 3) := by decide +kernel
theorem dX9_becomes_45 : decode cX9_becomes 45 = .ok (.iload_n 1, 1) := by decide +kernel
theorem dX9_becomes_46 : decode cX9_becomes 46 = .ok (.iaload, 1) := by decide +kernel
theorem dX9_becomes_47 : decode cX9_becomes 47 = .ok (.goto 4, 3) := by decide +kernel
theorem dX9_becomes_50 : decode cX9_becomes 50 = .ok (.iconst (-1), 1) := by decide +kernel
theorem dX9_becomes_51 : decode cX9_becomes 51 = .ok (.iastore, 1) := by decide +kernel
theorem dX9_becomes_52 : decode cX9_becomes 52 = .ok (.aload_n 0, 1) := by decide +kernel
theorem dX9_becomes_53 : decode cX9_becomes 53 = .ok (.getfield 53, 3) := by decide +kernel
theorem dX9_becomes_56 : decode cX9_becomes 56 = .ok (.iload_n 1, 1) := by decide +kernel
theorem dX9_becomes_57 : decode cX9_becomes 57 = .ok (.iload_n 2, 1) := by decide +kernel
theorem dX9_becomes_58 : decode cX9_becomes 58 = .ok (.ifCond .ne 7, 3) := by decide +kernel
theorem dX9_becomes_61 : decode cX9_becomes 61 = .ok (.iconst (-1), 1) := by decide +kernel
theorem dX9_becomes_62 : decode cX9_becomes 62 = .ok (.goto 9, 3) := by decide +kernel
theorem dX9_becomes_65 : decode cX9_becomes 65 = .ok (.aload_n 0, 1) := by decide +kernel
theorem dX9_becomes_66 : decode cX9_becomes 66 = .ok (.getfield 53, 3) := by decide +kernel
theorem dX9_becomes_69 : decode cX9_becomes 69 = .ok (.iload_n 1, 1) := by decide +kernel
theorem dX9_becomes_70 : decode cX9_becomes 70 = .ok (.iaload, 1) := by decide +kernel
theorem dX9_becomes_71 : decode cX9_becomes 71 = .ok (.iastore, 1) := by decide +kernel
theorem dX9_becomes_72 : decode cX9_becomes 72 = .ok (.return_, 1) := by decide +kernel
theorem dX9_giveUp_0 : decode cX9_giveUp 0 = .ok (.aload_n 0, 1) := by decide +kernel
theorem dX9_giveUp_1 : decode cX9_giveUp 1 = .ok (.iload_n 1, 1) := by decide +kernel
theorem dX9_giveUp_2 : decode cX9_giveUp 2 = .ok (.iload_n 2, 1) := by decide +kernel
theorem dX9_giveUp_3 : decode cX9_giveUp 3 = .ok (.invokevirtual 156, 3) := by decide +kernel
theorem dX9_giveUp_6 : decode cX9_giveUp 6 = .ok (.istore_n 3, 1) := by decide +kernel
theorem dX9_giveUp_7 : decode cX9_giveUp 7 = .ok (.iload_n 3, 1) := by decide +kernel
theorem dX9_giveUp_8 : decode cX9_giveUp 8 = .ok (.ifCond .eq 11, 3) := by decide +kernel
theorem dX9_giveUp_11 : decode cX9_giveUp 11 = .ok (.iconst 3, 1) := by decide +kernel
theorem dX9_giveUp_12 : decode cX9_giveUp 12 = .ok (.iload_n 1, 1) := by decide +kernel
theorem dX9_giveUp_13 : decode cX9_giveUp 13 = .ok (.imul, 1) := by decide +kernel
theorem dX9_giveUp_14 : decode cX9_giveUp 14 = .ok (.iload_n 2, 1) := by decide +kernel
theorem dX9_giveUp_15 : decode cX9_giveUp 15 = .ok (.iadd, 1) := by decide +kernel
theorem dX9_giveUp_16 : decode cX9_giveUp 16 = .ok (.goto 4, 3) := by decide +kernel
theorem dX9_giveUp_19 : decode cX9_giveUp 19 = .ok (.iconst 0, 1) := by decide +kernel
theorem dX9_giveUp_20 : decode cX9_giveUp 20 = .ok (.istore 4, 2) := by decide +kernel
theorem dX9_giveUp_22 : decode cX9_giveUp 22 = .ok (.aload_n 0, 1) := by decide +kernel
theorem dX9_giveUp_23 : decode cX9_giveUp 23 = .ok (.iload_n 3, 1) := by decide +kernel
theorem dX9_giveUp_24 : decode cX9_giveUp 24 = .ok (.ifCond .ne 7, 3) := by decide +kernel
theorem dX9_giveUp_27 : decode cX9_giveUp 27 = .ok (.iconst 1, 1) := by decide +kernel
theorem dX9_giveUp_28 : decode cX9_giveUp 28 = .ok (.goto 19, 3) := by decide +kernel
theorem dX9_giveUp_31 : decode cX9_giveUp 31 = .ok (.aload_n 0, 1) := by decide +kernel
theorem dX9_giveUp_32 : decode cX9_giveUp 32 = .ok (.getfield 38, 3) := by decide +kernel
theorem dX9_giveUp_35 : decode cX9_giveUp 35 = .ok (.iload 4, 2) := by decide +kernel
theorem dX9_giveUp_37 : decode cX9_giveUp 37 = .ok (.iaload, 1) := by decide +kernel
theorem dX9_giveUp_38 : decode cX9_giveUp 38 = .ok (.iconst (-1), 1) := by decide +kernel
theorem dX9_giveUp_39 : decode cX9_giveUp 39 = .ok (.if_icmp .ne 7, 3) := by decide +kernel
theorem dX9_giveUp_42 : decode cX9_giveUp 42 = .ok (.iconst 2, 1) := by decide +kernel
theorem dX9_giveUp_43 : decode cX9_giveUp 43 = .ok (.goto 4, 3) := by decide +kernel
theorem dX9_giveUp_46 : decode cX9_giveUp 46 = .ok (.iconst 0, 1) := by decide +kernel
theorem dX9_giveUp_47 : decode cX9_giveUp 47 = .ok (.invokevirtual 140, 3) := by decide +kernel
theorem dX9_giveUp_50 : decode cX9_giveUp 50 = .ok (.ifCond .ne 5, 3) := by decide +kernel
theorem dX9_giveUp_53 : decode cX9_giveUp 53 = .ok (.iconst 0, 1) := by decide +kernel
theorem dX9_giveUp_54 : decode cX9_giveUp 54 = .ok (.ireturn, 1) := by decide +kernel
theorem dX9_giveUp_55 : decode cX9_giveUp 55 = .ok (.aload_n 0, 1) := by decide +kernel
theorem dX9_giveUp_56 : decode cX9_giveUp 56 = .ok (.getfield 38, 3) := by decide +kernel
theorem dX9_giveUp_59 : decode cX9_giveUp 59 = .ok (.iload 4, 2) := by decide +kernel
theorem dX9_giveUp_61 : decode cX9_giveUp 61 = .ok (.iaload, 1) := by decide +kernel
theorem dX9_giveUp_62 : decode cX9_giveUp 62 = .ok (.istore 5, 2) := by decide +kernel
theorem dX9_giveUp_64 : decode cX9_giveUp 64 = .ok (.aload_n 0, 1) := by decide +kernel
theorem dX9_giveUp_65 : decode cX9_giveUp 65 = .ok (.getfield 38, 3) := by decide +kernel
theorem dX9_giveUp_68 : decode cX9_giveUp 68 = .ok (.iload 4, 2) := by decide +kernel
theorem dX9_giveUp_70 : decode cX9_giveUp 70 = .ok (.iconst (-1), 1) := by decide +kernel
theorem dX9_giveUp_71 : decode cX9_giveUp 71 = .ok (.iastore, 1) := by decide +kernel
theorem dX9_giveUp_72 : decode cX9_giveUp 72 = .ok (.iconst 0, 1) := by decide +kernel
theorem dX9_giveUp_73 : decode cX9_giveUp 73 = .ok (.istore 6, 2) := by decide +kernel
theorem dX9_giveUp_75 : decode cX9_giveUp 75 = .ok (.iload 6, 2) := by decide +kernel
theorem dX9_giveUp_77 : decode cX9_giveUp 77 = .ok (.aload_n 0, 1) := by decide +kernel
theorem dX9_giveUp_78 : decode cX9_giveUp 78 = .ok (.getfield 103, 3) := by decide +kernel
theorem dX9_giveUp_81 : decode cX9_giveUp 81 = .ok (.if_icmp .ge 43, 3) := by decide +kernel
theorem dX9_giveUp_84 : decode cX9_giveUp 84 = .ok (.aload_n 0, 1) := by decide +kernel
theorem dX9_giveUp_85 : decode cX9_giveUp 85 = .ok (.getfield 56, 3) := by decide +kernel
theorem dX9_giveUp_88 : decode cX9_giveUp 88 = .ok (.iload 6, 2) := by decide +kernel
theorem dX9_giveUp_90 : decode cX9_giveUp 90 = .ok (.iaload, 1) := by decide +kernel
theorem dX9_giveUp_91 : decode cX9_giveUp 91 = .ok (.iload 4, 2) := by decide +kernel
theorem dX9_giveUp_93 : decode cX9_giveUp 93 = .ok (.if_icmp .ne 25, 3) := by decide +kernel
theorem dX9_giveUp_96 : decode cX9_giveUp 96 = .ok (.aload_n 0, 1) := by decide +kernel
theorem dX9_giveUp_97 : decode cX9_giveUp 97 = .ok (.iload 6, 2) := by decide +kernel
theorem dX9_giveUp_99 : decode cX9_giveUp 99 = .ok (.aload_n 0, 1) := by decide +kernel
theorem dX9_giveUp_100 : decode cX9_giveUp 100 = .ok (.getfield 50, 3) := by decide +kernel
theorem dX9_giveUp_103 : decode cX9_giveUp 103 = .ok (.iload 6, 2) := by decide +kernel
theorem dX9_giveUp_105 : decode cX9_giveUp 105 = .ok (.iaload, 1) := by decide +kernel
theorem dX9_giveUp_106 : decode cX9_giveUp 106 = .ok (.iconst 1, 1) := by decide +kernel
theorem dX9_giveUp_107 : decode cX9_giveUp 107 = .ok (.if_icmp .ne 7, 3) := by decide +kernel
theorem dX9_giveUp_110 : decode cX9_giveUp 110 = .ok (.iconst 0, 1) := by decide +kernel
theorem dX9_giveUp_111 : decode cX9_giveUp 111 = .ok (.goto 4, 3) := by decide +kernel
theorem dX9_giveUp_114 : decode cX9_giveUp 114 = .ok (.iconst 4, 1) := by decide +kernel
theorem dX9_giveUp_115 : decode cX9_giveUp 115 = .ok (.invokevirtual 162, 3) := by decide +kernel
theorem dX9_giveUp_118 : decode cX9_giveUp 118 = .ok (.iinc 6 1, 3) := by decide +kernel
theorem dX9_giveUp_121 : decode cX9_giveUp 121 = .ok (.goto (-46), 3) := by decide +kernel
theorem dX9_giveUp_124 : decode cX9_giveUp 124 = .ok (.iload 5, 2) := by decide +kernel
theorem dX9_giveUp_126 : decode cX9_giveUp 126 = .ok (.ireturn, 1) := by decide +kernel
theorem dX9_left_0 : decode cX9_left 0 = .ok (.aload_n 0, 1) := by decide +kernel
theorem dX9_left_1 : decode cX9_left 1 = .ok (.aload_n 0, 1) := by decide +kernel
theorem dX9_left_2 : decode cX9_left 2 = .ok (.iload_n 1, 1) := by decide +kernel
theorem dX9_left_3 : decode cX9_left 3 = .ok (.iload_n 2, 1) := by decide +kernel
theorem dX9_left_4 : decode cX9_left 4 = .ok (.invokevirtual 156, 3) := by decide +kernel
theorem dX9_left_7 : decode cX9_left 7 = .ok (.ifCond .eq 7, 3) := by decide +kernel
theorem dX9_left_10 : decode cX9_left 10 = .ok (.iconst 0, 1) := by decide +kernel
theorem dX9_left_11 : decode cX9_left 11 = .ok (.goto 4, 3) := by decide +kernel
theorem dX9_left_14 : decode cX9_left 14 = .ok (.iconst 1, 1) := by decide +kernel
theorem dX9_left_15 : decode cX9_left 15 = .ok (.invokevirtual 140, 3) := by decide +kernel
theorem dX9_left_18 : decode cX9_left 18 = .ok (.ifCond .eq 16, 3) := by decide +kernel
theorem dX9_left_21 : decode cX9_left 21 = .ok (.aload_n 0, 1) := by decide +kernel
theorem dX9_left_22 : decode cX9_left 22 = .ok (.getfield 35, 3) := by decide +kernel
theorem dX9_left_25 : decode cX9_left 25 = .ok (.iconst 3, 1) := by decide +kernel
theorem dX9_left_26 : decode cX9_left 26 = .ok (.iload_n 1, 1) := by decide +kernel
theorem dX9_left_27 : decode cX9_left 27 = .ok (.imul, 1) := by decide +kernel
theorem dX9_left_28 : decode cX9_left 28 = .ok (.iload_n 2, 1) := by decide +kernel
theorem dX9_left_29 : decode cX9_left 29 = .ok (.iadd, 1) := by decide +kernel
theorem dX9_left_30 : decode cX9_left 30 = .ok (.iaload, 1) := by decide +kernel
theorem dX9_left_31 : decode cX9_left 31 = .ok (.goto 4, 3) := by decide +kernel
theorem dX9_left_34 : decode cX9_left 34 = .ok (.iconst 0, 1) := by decide +kernel
theorem dX9_left_35 : decode cX9_left 35 = .ok (.ireturn, 1) := by decide +kernel
theorem dX9_claimant_0 : decode cX9_claimant 0 = .ok (.aload_n 0, 1) := by decide +kernel
theorem dX9_claimant_1 : decode cX9_claimant 1 = .ok (.aload_n 0, 1) := by decide +kernel
theorem dX9_claimant_2 : decode cX9_claimant 2 = .ok (.iload_n 1, 1) := by decide +kernel
theorem dX9_claimant_3 : decode cX9_claimant 3 = .ok (.iload_n 2, 1) := by decide +kernel
theorem dX9_claimant_4 : decode cX9_claimant 4 = .ok (.invokevirtual 156, 3) := by decide +kernel
theorem dX9_claimant_7 : decode cX9_claimant 7 = .ok (.ifCond .eq 7, 3) := by decide +kernel
theorem dX9_claimant_10 : decode cX9_claimant 10 = .ok (.iconst 0, 1) := by decide +kernel
theorem dX9_claimant_11 : decode cX9_claimant 11 = .ok (.goto 4, 3) := by decide +kernel
theorem dX9_claimant_14 : decode cX9_claimant 14 = .ok (.iconst 1, 1) := by decide +kernel
theorem dX9_claimant_15 : decode cX9_claimant 15 = .ok (.invokevirtual 140, 3) := by decide +kernel
theorem dX9_claimant_18 : decode cX9_claimant 18 = .ok (.ifCond .eq 16, 3) := by decide +kernel
theorem dX9_claimant_21 : decode cX9_claimant 21 = .ok (.aload_n 0, 1) := by decide +kernel
theorem dX9_claimant_22 : decode cX9_claimant 22 = .ok (.getfield 38, 3) := by decide +kernel
theorem dX9_claimant_25 : decode cX9_claimant 25 = .ok (.iconst 3, 1) := by decide +kernel
theorem dX9_claimant_26 : decode cX9_claimant 26 = .ok (.iload_n 1, 1) := by decide +kernel
theorem dX9_claimant_27 : decode cX9_claimant 27 = .ok (.imul, 1) := by decide +kernel
theorem dX9_claimant_28 : decode cX9_claimant 28 = .ok (.iload_n 2, 1) := by decide +kernel
theorem dX9_claimant_29 : decode cX9_claimant 29 = .ok (.iadd, 1) := by decide +kernel
theorem dX9_claimant_30 : decode cX9_claimant 30 = .ok (.iaload, 1) := by decide +kernel
theorem dX9_claimant_31 : decode cX9_claimant 31 = .ok (.goto 4, 3) := by decide +kernel
theorem dX9_claimant_34 : decode cX9_claimant 34 = .ok (.iconst 0, 1) := by decide +kernel
theorem dX9_claimant_35 : decode cX9_claimant 35 = .ok (.ireturn, 1) := by decide +kernel
theorem dX9_amount_0 : decode cX9_amount 0 = .ok (.aload_n 0, 1) := by decide +kernel
theorem dX9_amount_1 : decode cX9_amount 1 = .ok (.aload_n 0, 1) := by decide +kernel
theorem dX9_amount_2 : decode cX9_amount 2 = .ok (.iload_n 1, 1) := by decide +kernel
theorem dX9_amount_3 : decode cX9_amount 3 = .ok (.invokevirtual 146, 3) := by decide +kernel
theorem dX9_amount_6 : decode cX9_amount 6 = .ok (.ifCond .eq 7, 3) := by decide +kernel
theorem dX9_amount_9 : decode cX9_amount 9 = .ok (.iconst 0, 1) := by decide +kernel
theorem dX9_amount_10 : decode cX9_amount 10 = .ok (.goto 4, 3) := by decide +kernel
theorem dX9_amount_13 : decode cX9_amount 13 = .ok (.iconst 1, 1) := by decide +kernel
theorem dX9_amount_14 : decode cX9_amount 14 = .ok (.invokevirtual 140, 3) := by decide +kernel
theorem dX9_amount_17 : decode cX9_amount 17 = .ok (.ifCond .eq 12, 3) := by decide +kernel
theorem dX9_amount_20 : decode cX9_amount 20 = .ok (.aload_n 0, 1) := by decide +kernel
theorem dX9_amount_21 : decode cX9_amount 21 = .ok (.getfield 26, 3) := by decide +kernel
theorem dX9_amount_24 : decode cX9_amount 24 = .ok (.iload_n 1, 1) := by decide +kernel
theorem dX9_amount_25 : decode cX9_amount 25 = .ok (.iaload, 1) := by decide +kernel
theorem dX9_amount_26 : decode cX9_amount 26 = .ok (.goto 4, 3) := by decide +kernel
theorem dX9_amount_29 : decode cX9_amount 29 = .ok (.iconst 0, 1) := by decide +kernel
theorem dX9_amount_30 : decode cX9_amount 30 = .ok (.ireturn, 1) := by decide +kernel
theorem dX9_trayCell_0 : decode cX9_trayCell 0 = .ok (.aload_n 0, 1) := by decide +kernel
theorem dX9_trayCell_1 : decode cX9_trayCell 1 = .ok (.aload_n 0, 1) := by decide +kernel
theorem dX9_trayCell_2 : decode cX9_trayCell 2 = .ok (.iload_n 1, 1) := by decide +kernel
theorem dX9_trayCell_3 : decode cX9_trayCell 3 = .ok (.invokevirtual 146, 3) := by decide +kernel
theorem dX9_trayCell_6 : decode cX9_trayCell 6 = .ok (.ifCond .eq 7, 3) := by decide +kernel
theorem dX9_trayCell_9 : decode cX9_trayCell 9 = .ok (.iconst 0, 1) := by decide +kernel
theorem dX9_trayCell_10 : decode cX9_trayCell 10 = .ok (.goto 4, 3) := by decide +kernel
theorem dX9_trayCell_13 : decode cX9_trayCell 13 = .ok (.iconst 1, 1) := by decide +kernel
theorem dX9_trayCell_14 : decode cX9_trayCell 14 = .ok (.invokevirtual 140, 3) := by decide +kernel
theorem dX9_trayCell_17 : decode cX9_trayCell 17 = .ok (.ifCond .ne 5, 3) := by decide +kernel
theorem dX9_trayCell_20 : decode cX9_trayCell 20 = .ok (.iconst 0, 1) := by decide +kernel
theorem dX9_trayCell_21 : decode cX9_trayCell 21 = .ok (.ireturn, 1) := by decide +kernel
theorem dX9_trayCell_22 : decode cX9_trayCell 22 = .ok (.aload_n 0, 1) := by decide +kernel
theorem dX9_trayCell_23 : decode cX9_trayCell 23 = .ok (.iload_n 1, 1) := by decide +kernel
theorem dX9_trayCell_24 : decode cX9_trayCell 24 = .ok (.iconst 0, 1) := by decide +kernel
theorem dX9_trayCell_25 : decode cX9_trayCell 25 = .ok (.invokevirtual 149, 3) := by decide +kernel
theorem dX9_trayCell_28 : decode cX9_trayCell 28 = .ok (.istore_n 2, 1) := by decide +kernel
theorem dX9_trayCell_29 : decode cX9_trayCell 29 = .ok (.iload_n 2, 1) := by decide +kernel
theorem dX9_trayCell_30 : decode cX9_trayCell 30 = .ok (.iconst (-1), 1) := by decide +kernel
theorem dX9_trayCell_31 : decode cX9_trayCell 31 = .ok (.if_icmp .ne 12, 3) := by decide +kernel
theorem dX9_trayCell_34 : decode cX9_trayCell 34 = .ok (.aload_n 0, 1) := by decide +kernel
theorem dX9_trayCell_35 : decode cX9_trayCell 35 = .ok (.getfield 20, 3) := by decide +kernel
theorem dX9_trayCell_38 : decode cX9_trayCell 38 = .ok (.iload_n 1, 1) := by decide +kernel
theorem dX9_trayCell_39 : decode cX9_trayCell 39 = .ok (.iaload, 1) := by decide +kernel
theorem dX9_trayCell_40 : decode cX9_trayCell 40 = .ok (.goto 9, 3) := by decide +kernel
theorem dX9_trayCell_43 : decode cX9_trayCell 43 = .ok (.aload_n 0, 1) := by decide +kernel
theorem dX9_trayCell_44 : decode cX9_trayCell 44 = .ok (.getfield 44, 3) := by decide +kernel
theorem dX9_trayCell_47 : decode cX9_trayCell 47 = .ok (.iload_n 2, 1) := by decide +kernel
theorem dX9_trayCell_48 : decode cX9_trayCell 48 = .ok (.iaload, 1) := by decide +kernel
theorem dX9_trayCell_49 : decode cX9_trayCell 49 = .ok (.ireturn, 1) := by decide +kernel
theorem dX9_addRobot_0 : decode cX9_addRobot 0 = .ok (.iload_n 1, 1) := by decide +kernel
theorem dX9_addRobot_1 : decode cX9_addRobot 1 = .ok (.invokestatic 131, 3) := by decide +kernel
theorem dX9_addRobot_4 : decode cX9_addRobot 4 = .ok (.ifCond .eq 16, 3) := by decide +kernel
theorem dX9_addRobot_7 : decode cX9_addRobot 7 = .ok (.iload_n 2, 1) := by decide +kernel
theorem dX9_addRobot_8 : decode cX9_addRobot 8 = .ok (.bipush 10, 2) := by decide +kernel
theorem dX9_addRobot_10 : decode cX9_addRobot 10 = .ok (.invokestatic 99, 3) := by decide +kernel
theorem dX9_addRobot_13 : decode cX9_addRobot 13 = .ok (.ifCond .eq 7, 3) := by decide +kernel
theorem dX9_addRobot_16 : decode cX9_addRobot 16 = .ok (.iconst 1, 1) := by decide +kernel
theorem dX9_addRobot_17 : decode cX9_addRobot 17 = .ok (.goto 4, 3) := by decide +kernel
theorem dX9_addRobot_20 : decode cX9_addRobot 20 = .ok (.iconst 0, 1) := by decide +kernel
theorem dX9_addRobot_21 : decode cX9_addRobot 21 = .ok (.istore_n 3, 1) := by decide +kernel
theorem dX9_addRobot_22 : decode cX9_addRobot 22 = .ok (.aload_n 0, 1) := by decide +kernel
theorem dX9_addRobot_23 : decode cX9_addRobot 23 = .ok (.iload_n 3, 1) := by decide +kernel
theorem dX9_addRobot_24 : decode cX9_addRobot 24 = .ok (.ifCond .ne 7, 3) := by decide +kernel
theorem dX9_addRobot_27 : decode cX9_addRobot 27 = .ok (.iconst 1, 1) := by decide +kernel
theorem dX9_addRobot_28 : decode cX9_addRobot 28 = .ok (.goto 35, 3) := by decide +kernel
theorem dX9_addRobot_31 : decode cX9_addRobot 31 = .ok (.aload_n 0, 1) := by decide +kernel
theorem dX9_addRobot_32 : decode cX9_addRobot 32 = .ok (.getfield 7, 3) := by decide +kernel
theorem dX9_addRobot_35 : decode cX9_addRobot 35 = .ok (.iload_n 1, 1) := by decide +kernel
theorem dX9_addRobot_36 : decode cX9_addRobot 36 = .ok (.baload, 1) := by decide +kernel
theorem dX9_addRobot_37 : decode cX9_addRobot 37 = .ok (.ifCond .ne 21, 3) := by decide +kernel
theorem dX9_addRobot_40 : decode cX9_addRobot 40 = .ok (.aload_n 0, 1) := by decide +kernel
theorem dX9_addRobot_41 : decode cX9_addRobot 41 = .ok (.iload_n 1, 1) := by decide +kernel
theorem dX9_addRobot_42 : decode cX9_addRobot 42 = .ok (.invokevirtual 112, 3) := by decide +kernel
theorem dX9_addRobot_45 : decode cX9_addRobot 45 = .ok (.iconst (-1), 1) := by decide +kernel
theorem dX9_addRobot_46 : decode cX9_addRobot 46 = .ok (.if_icmp .ne 12, 3) := by decide +kernel
theorem dX9_addRobot_49 : decode cX9_addRobot 49 = .ok (.aload_n 0, 1) := by decide +kernel
theorem dX9_addRobot_50 : decode cX9_addRobot 50 = .ok (.getfield 103, 3) := by decide +kernel
theorem dX9_addRobot_53 : decode cX9_addRobot 53 = .ok (.bipush 6, 2) := by decide +kernel
theorem dX9_addRobot_55 : decode cX9_addRobot 55 = .ok (.if_icmp .ne 7, 3) := by decide +kernel
theorem dX9_addRobot_58 : decode cX9_addRobot 58 = .ok (.iconst 2, 1) := by decide +kernel
theorem dX9_addRobot_59 : decode cX9_addRobot 59 = .ok (.goto 4, 3) := by decide +kernel
theorem dX9_addRobot_62 : decode cX9_addRobot 62 = .ok (.iconst 0, 1) := by decide +kernel
theorem dX9_addRobot_63 : decode cX9_addRobot 63 = .ok (.invokevirtual 140, 3) := by decide +kernel
theorem dX9_addRobot_66 : decode cX9_addRobot 66 = .ok (.ifCond .ne 5, 3) := by decide +kernel
theorem dX9_addRobot_69 : decode cX9_addRobot 69 = .ok (.iconst 0, 1) := by decide +kernel
theorem dX9_addRobot_70 : decode cX9_addRobot 70 = .ok (.ireturn, 1) := by decide +kernel
theorem dX9_addRobot_71 : decode cX9_addRobot 71 = .ok (.aload_n 0, 1) := by decide +kernel
theorem dX9_addRobot_72 : decode cX9_addRobot 72 = .ok (.getfield 103, 3) := by decide +kernel
theorem dX9_addRobot_75 : decode cX9_addRobot 75 = .ok (.istore 4, 2) := by decide +kernel
theorem dX9_addRobot_77 : decode cX9_addRobot 77 = .ok (.aload_n 0, 1) := by decide +kernel
theorem dX9_addRobot_78 : decode cX9_addRobot 78 = .ok (.getfield 44, 3) := by decide +kernel
theorem dX9_addRobot_81 : decode cX9_addRobot 81 = .ok (.iload 4, 2) := by decide +kernel
theorem dX9_addRobot_83 : decode cX9_addRobot 83 = .ok (.iload_n 1, 1) := by decide +kernel
theorem dX9_addRobot_84 : decode cX9_addRobot 84 = .ok (.iastore, 1) := by decide +kernel
theorem dX9_addRobot_85 : decode cX9_addRobot 85 = .ok (.aload_n 0, 1) := by decide +kernel
theorem dX9_addRobot_86 : decode cX9_addRobot 86 = .ok (.getfield 47, 3) := by decide +kernel
theorem dX9_addRobot_89 : decode cX9_addRobot 89 = .ok (.iload 4, 2) := by decide +kernel
theorem dX9_addRobot_91 : decode cX9_addRobot 91 = .ok (.iload_n 2, 1) := by decide +kernel
theorem dX9_addRobot_92 : decode cX9_addRobot 92 = .ok (.iastore, 1) := by decide +kernel
theorem dX9_addRobot_93 : decode cX9_addRobot 93 = .ok (.aload_n 0, 1) := by decide +kernel
theorem dX9_addRobot_94 : decode cX9_addRobot 94 = .ok (.dup, 1) := by decide +kernel
theorem dX9_addRobot_95 : decode cX9_addRobot 95 = .ok (.getfield 103, 3) := by decide +kernel
theorem dX9_addRobot_98 : decode cX9_addRobot 98 = .ok (.iconst 1, 1) := by decide +kernel
theorem dX9_addRobot_99 : decode cX9_addRobot 99 = .ok (.iadd, 1) := by decide +kernel
theorem dX9_addRobot_100 : decode cX9_addRobot 100 = .ok (.putfield 103, 3) := by decide +kernel
theorem dX9_addRobot_103 : decode cX9_addRobot 103 = .ok (.aload_n 0, 1) := by decide +kernel
theorem dX9_addRobot_104 : decode cX9_addRobot 104 = .ok (.iload 4, 2) := by decide +kernel
theorem dX9_addRobot_106 : decode cX9_addRobot 106 = .ok (.iconst 0, 1) := by decide +kernel
theorem dX9_addRobot_107 : decode cX9_addRobot 107 = .ok (.invokevirtual 162, 3) := by decide +kernel
theorem dX9_addRobot_110 : decode cX9_addRobot 110 = .ok (.iload 4, 2) := by decide +kernel
theorem dX9_addRobot_112 : decode cX9_addRobot 112 = .ok (.ireturn, 1) := by decide +kernel
theorem dX9_isRobot_0 : decode cX9_isRobot 0 = .ok (.iload_n 1, 1) := by decide +kernel
theorem dX9_isRobot_1 : decode cX9_isRobot 1 = .ok (.aload_n 0, 1) := by decide +kernel
theorem dX9_isRobot_2 : decode cX9_isRobot 2 = .ok (.getfield 103, 3) := by decide +kernel
theorem dX9_isRobot_5 : decode cX9_isRobot 5 = .ok (.invokestatic 99, 3) := by decide +kernel
theorem dX9_isRobot_8 : decode cX9_isRobot 8 = .ok (.ireturn, 1) := by decide +kernel
theorem dX9_die_0 : decode cX9_die 0 = .ok (.aload_n 0, 1) := by decide +kernel
theorem dX9_die_1 : decode cX9_die 1 = .ok (.iload_n 1, 1) := by decide +kernel
theorem dX9_die_2 : decode cX9_die 2 = .ok (.invokevirtual 165, 3) := by decide +kernel
theorem dX9_die_5 : decode cX9_die 5 = .ok (.istore_n 2, 1) := by decide +kernel
theorem dX9_die_6 : decode cX9_die 6 = .ok (.aload_n 0, 1) := by decide +kernel
theorem dX9_die_7 : decode cX9_die 7 = .ok (.iload_n 2, 1) := by decide +kernel
theorem dX9_die_8 : decode cX9_die 8 = .ok (.ifCond .ne 7, 3) := by decide +kernel
theorem dX9_die_11 : decode cX9_die 11 = .ok (.iconst 1, 1) := by decide +kernel
theorem dX9_die_12 : decode cX9_die 12 = .ok (.goto 18, 3) := by decide +kernel
theorem dX9_die_15 : decode cX9_die 15 = .ok (.aload_n 0, 1) := by decide +kernel
theorem dX9_die_16 : decode cX9_die 16 = .ok (.getfield 50, 3) := by decide +kernel
theorem dX9_die_19 : decode cX9_die 19 = .ok (.iload_n 1, 1) := by decide +kernel
theorem dX9_die_20 : decode cX9_die 20 = .ok (.iaload, 1) := by decide +kernel
theorem dX9_die_21 : decode cX9_die 21 = .ok (.iconst 5, 1) := by decide +kernel
theorem dX9_die_22 : decode cX9_die 22 = .ok (.if_icmp .ne 7, 3) := by decide +kernel
theorem dX9_die_25 : decode cX9_die 25 = .ok (.iconst 2, 1) := by decide +kernel
theorem dX9_die_26 : decode cX9_die 26 = .ok (.goto 4, 3) := by decide +kernel
theorem dX9_die_29 : decode cX9_die 29 = .ok (.iconst 0, 1) := by decide +kernel
theorem dX9_die_30 : decode cX9_die 30 = .ok (.invokevirtual 140, 3) := by decide +kernel
theorem dX9_die_33 : decode cX9_die 33 = .ok (.ifCond .ne 5, 3) := by decide +kernel
theorem dX9_die_36 : decode cX9_die 36 = .ok (.iconst 0, 1) := by decide +kernel
theorem dX9_die_37 : decode cX9_die 37 = .ok (.ireturn, 1) := by decide +kernel
theorem dX9_die_38 : decode cX9_die 38 = .ok (.aload_n 0, 1) := by decide +kernel
theorem dX9_die_39 : decode cX9_die 39 = .ok (.getfield 53, 3) := by decide +kernel
theorem dX9_die_42 : decode cX9_die 42 = .ok (.iload_n 1, 1) := by decide +kernel
theorem dX9_die_43 : decode cX9_die 43 = .ok (.aload_n 0, 1) := by decide +kernel
theorem dX9_die_44 : decode cX9_die 44 = .ok (.getfield 50, 3) := by decide +kernel
theorem dX9_die_47 : decode cX9_die 47 = .ok (.iload_n 1, 1) := by decide +kernel
theorem dX9_die_48 : decode cX9_die 48 = .ok (.iaload, 1) := by decide +kernel
theorem dX9_die_49 : decode cX9_die 49 = .ok (.iconst 1, 1) := by decide +kernel
theorem dX9_die_50 : decode cX9_die 50 = .ok (.if_icmp .ne 7, 3) := by decide +kernel
theorem dX9_die_53 : decode cX9_die 53 = .ok (.iconst (-1), 1) := by decide +kernel
theorem dX9_die_54 : decode cX9_die 54 = .ok (.goto 9, 3) := by decide +kernel
theorem dX9_die_57 : decode cX9_die 57 = .ok (.aload_n 0, 1) := by decide +kernel
theorem dX9_die_58 : decode cX9_die 58 = .ok (.getfield 53, 3) := by decide +kernel
theorem dX9_die_61 : decode cX9_die 61 = .ok (.iload_n 1, 1) := by decide +kernel
theorem dX9_die_62 : decode cX9_die 62 = .ok (.iaload, 1) := by decide +kernel
theorem dX9_die_63 : decode cX9_die 63 = .ok (.iastore, 1) := by decide +kernel
theorem dX9_die_64 : decode cX9_die 64 = .ok (.aload_n 0, 1) := by decide +kernel
theorem dX9_die_65 : decode cX9_die 65 = .ok (.iload_n 1, 1) := by decide +kernel
theorem dX9_die_66 : decode cX9_die 66 = .ok (.iconst 5, 1) := by decide +kernel
theorem dX9_die_67 : decode cX9_die 67 = .ok (.invokevirtual 162, 3) := by decide +kernel
theorem dX9_die_70 : decode cX9_die 70 = .ok (.aload_n 0, 1) := by decide +kernel
theorem dX9_die_71 : decode cX9_die 71 = .ok (.getfield 53, 3) := by decide +kernel
theorem dX9_die_74 : decode cX9_die 74 = .ok (.iload_n 1, 1) := by decide +kernel
theorem dX9_die_75 : decode cX9_die 75 = .ok (.iaload, 1) := by decide +kernel
theorem dX9_die_76 : decode cX9_die 76 = .ok (.ireturn, 1) := by decide +kernel
theorem dX9_repair_0 : decode cX9_repair 0 = .ok (.aload_n 0, 1) := by decide +kernel
theorem dX9_repair_1 : decode cX9_repair 1 = .ok (.iload_n 1, 1) := by decide +kernel
theorem dX9_repair_2 : decode cX9_repair 2 = .ok (.invokevirtual 165, 3) := by decide +kernel
theorem dX9_repair_5 : decode cX9_repair 5 = .ok (.istore_n 2, 1) := by decide +kernel
theorem dX9_repair_6 : decode cX9_repair 6 = .ok (.aload_n 0, 1) := by decide +kernel
theorem dX9_repair_7 : decode cX9_repair 7 = .ok (.iload_n 2, 1) := by decide +kernel
theorem dX9_repair_8 : decode cX9_repair 8 = .ok (.ifCond .ne 7, 3) := by decide +kernel
theorem dX9_repair_11 : decode cX9_repair 11 = .ok (.iconst 1, 1) := by decide +kernel
theorem dX9_repair_12 : decode cX9_repair 12 = .ok (.goto 18, 3) := by decide +kernel
theorem dX9_repair_15 : decode cX9_repair 15 = .ok (.aload_n 0, 1) := by decide +kernel
theorem dX9_repair_16 : decode cX9_repair 16 = .ok (.getfield 50, 3) := by decide +kernel
theorem dX9_repair_19 : decode cX9_repair 19 = .ok (.iload_n 1, 1) := by decide +kernel
theorem dX9_repair_20 : decode cX9_repair 20 = .ok (.iaload, 1) := by decide +kernel
theorem dX9_repair_21 : decode cX9_repair 21 = .ok (.iconst 5, 1) := by decide +kernel
theorem dX9_repair_22 : decode cX9_repair 22 = .ok (.if_icmp .ne 7, 3) := by decide +kernel
theorem dX9_repair_25 : decode cX9_repair 25 = .ok (.iconst 0, 1) := by decide +kernel
theorem dX9_repair_26 : decode cX9_repair 26 = .ok (.goto 4, 3) := by decide +kernel
theorem dX9_repair_29 : decode cX9_repair 29 = .ok (.iconst 2, 1) := by decide +kernel
theorem dX9_repair_30 : decode cX9_repair 30 = .ok (.invokevirtual 140, 3) := by decide +kernel
theorem dX9_repair_33 : decode cX9_repair 33 = .ok (.ifCond .ne 5, 3) := by decide +kernel
theorem dX9_repair_36 : decode cX9_repair 36 = .ok (.iconst 0, 1) := by decide +kernel
theorem dX9_repair_37 : decode cX9_repair 37 = .ok (.ireturn, 1) := by decide +kernel
theorem dX9_repair_38 : decode cX9_repair 38 = .ok (.aload_n 0, 1) := by decide +kernel
theorem dX9_repair_39 : decode cX9_repair 39 = .ok (.iload_n 1, 1) := by decide +kernel
theorem dX9_repair_40 : decode cX9_repair 40 = .ok (.aload_n 0, 1) := by decide +kernel
theorem dX9_repair_41 : decode cX9_repair 41 = .ok (.getfield 53, 3) := by decide +kernel
theorem dX9_repair_44 : decode cX9_repair 44 = .ok (.iload_n 1, 1) := by decide +kernel
theorem dX9_repair_45 : decode cX9_repair 45 = .ok (.iaload, 1) := by decide +kernel
theorem dX9_repair_46 : decode cX9_repair 46 = .ok (.iconst (-1), 1) := by decide +kernel
theorem dX9_repair_47 : decode cX9_repair 47 = .ok (.if_icmp .ne 7, 3) := by decide +kernel
theorem dX9_repair_50 : decode cX9_repair 50 = .ok (.iconst 0, 1) := by decide +kernel
theorem dX9_repair_51 : decode cX9_repair 51 = .ok (.goto 4, 3) := by decide +kernel
theorem dX9_repair_54 : decode cX9_repair 54 = .ok (.iconst 4, 1) := by decide +kernel
theorem dX9_repair_55 : decode cX9_repair 55 = .ok (.invokevirtual 162, 3) := by decide +kernel
theorem dX9_repair_58 : decode cX9_repair 58 = .ok (.aload_n 0, 1) := by decide +kernel
theorem dX9_repair_59 : decode cX9_repair 59 = .ok (.getfield 50, 3) := by decide +kernel
theorem dX9_repair_62 : decode cX9_repair 62 = .ok (.iload_n 1, 1) := by decide +kernel
theorem dX9_repair_63 : decode cX9_repair 63 = .ok (.iaload, 1) := by decide +kernel
theorem dX9_repair_64 : decode cX9_repair 64 = .ok (.ireturn, 1) := by decide +kernel
theorem dX9_robotIn_0 : decode cX9_robotIn 0 = .ok (.aload_n 0, 1) := by decide +kernel
theorem dX9_robotIn_1 : decode cX9_robotIn 1 = .ok (.iload_n 1, 1) := by decide +kernel
theorem dX9_robotIn_2 : decode cX9_robotIn 2 = .ok (.invokestatic 131, 3) := by decide +kernel
theorem dX9_robotIn_5 : decode cX9_robotIn 5 = .ok (.ifCond .eq 7, 3) := by decide +kernel
theorem dX9_robotIn_8 : decode cX9_robotIn 8 = .ok (.iconst 0, 1) := by decide +kernel
theorem dX9_robotIn_9 : decode cX9_robotIn 9 = .ok (.goto 4, 3) := by decide +kernel
theorem dX9_robotIn_12 : decode cX9_robotIn 12 = .ok (.iconst 1, 1) := by decide +kernel
theorem dX9_robotIn_13 : decode cX9_robotIn 13 = .ok (.invokevirtual 140, 3) := by decide +kernel
theorem dX9_robotIn_16 : decode cX9_robotIn 16 = .ok (.ifCond .eq 11, 3) := by decide +kernel
theorem dX9_robotIn_19 : decode cX9_robotIn 19 = .ok (.aload_n 0, 1) := by decide +kernel
theorem dX9_robotIn_20 : decode cX9_robotIn 20 = .ok (.iload_n 1, 1) := by decide +kernel
theorem dX9_robotIn_21 : decode cX9_robotIn 21 = .ok (.invokevirtual 112, 3) := by decide +kernel
theorem dX9_robotIn_24 : decode cX9_robotIn 24 = .ok (.goto 4, 3) := by decide +kernel
theorem dX9_robotIn_27 : decode cX9_robotIn 27 = .ok (.iconst 0, 1) := by decide +kernel
theorem dX9_robotIn_28 : decode cX9_robotIn 28 = .ok (.ireturn, 1) := by decide +kernel
theorem dX9_cellOf_0 : decode cX9_cellOf 0 = .ok (.aload_n 0, 1) := by decide +kernel
theorem dX9_cellOf_1 : decode cX9_cellOf 1 = .ok (.aload_n 0, 1) := by decide +kernel
theorem dX9_cellOf_2 : decode cX9_cellOf 2 = .ok (.iload_n 1, 1) := by decide +kernel
theorem dX9_cellOf_3 : decode cX9_cellOf 3 = .ok (.invokevirtual 165, 3) := by decide +kernel
theorem dX9_cellOf_6 : decode cX9_cellOf 6 = .ok (.ifCond .eq 7, 3) := by decide +kernel
theorem dX9_cellOf_9 : decode cX9_cellOf 9 = .ok (.iconst 0, 1) := by decide +kernel
theorem dX9_cellOf_10 : decode cX9_cellOf 10 = .ok (.goto 4, 3) := by decide +kernel
theorem dX9_cellOf_13 : decode cX9_cellOf 13 = .ok (.iconst 1, 1) := by decide +kernel
theorem dX9_cellOf_14 : decode cX9_cellOf 14 = .ok (.invokevirtual 140, 3) := by decide +kernel
theorem dX9_cellOf_17 : decode cX9_cellOf 17 = .ok (.ifCond .eq 12, 3) := by decide +kernel
theorem dX9_cellOf_20 : decode cX9_cellOf 20 = .ok (.aload_n 0, 1) := by decide +kernel
theorem dX9_cellOf_21 : decode cX9_cellOf 21 = .ok (.getfield 44, 3) := by decide +kernel
theorem dX9_cellOf_24 : decode cX9_cellOf 24 = .ok (.iload_n 1, 1) := by decide +kernel
theorem dX9_cellOf_25 : decode cX9_cellOf 25 = .ok (.iaload, 1) := by decide +kernel
theorem dX9_cellOf_26 : decode cX9_cellOf 26 = .ok (.goto 4, 3) := by decide +kernel
theorem dX9_cellOf_29 : decode cX9_cellOf 29 = .ok (.iconst 0, 1) := by decide +kernel
theorem dX9_cellOf_30 : decode cX9_cellOf 30 = .ok (.ireturn, 1) := by decide +kernel
theorem dX9_state_0 : decode cX9_state 0 = .ok (.aload_n 0, 1) := by decide +kernel
theorem dX9_state_1 : decode cX9_state 1 = .ok (.aload_n 0, 1) := by decide +kernel
theorem dX9_state_2 : decode cX9_state 2 = .ok (.iload_n 1, 1) := by decide +kernel
theorem dX9_state_3 : decode cX9_state 3 = .ok (.invokevirtual 165, 3) := by decide +kernel
theorem dX9_state_6 : decode cX9_state 6 = .ok (.ifCond .eq 7, 3) := by decide +kernel
theorem dX9_state_9 : decode cX9_state 9 = .ok (.iconst 0, 1) := by decide +kernel
theorem dX9_state_10 : decode cX9_state 10 = .ok (.goto 4, 3) := by decide +kernel
theorem dX9_state_13 : decode cX9_state 13 = .ok (.iconst 1, 1) := by decide +kernel
theorem dX9_state_14 : decode cX9_state 14 = .ok (.invokevirtual 140, 3) := by decide +kernel
theorem dX9_state_17 : decode cX9_state 17 = .ok (.ifCond .eq 12, 3) := by decide +kernel
theorem dX9_state_20 : decode cX9_state 20 = .ok (.aload_n 0, 1) := by decide +kernel
theorem dX9_state_21 : decode cX9_state 21 = .ok (.getfield 50, 3) := by decide +kernel
theorem dX9_state_24 : decode cX9_state 24 = .ok (.iload_n 1, 1) := by decide +kernel
theorem dX9_state_25 : decode cX9_state 25 = .ok (.iaload, 1) := by decide +kernel
theorem dX9_state_26 : decode cX9_state 26 = .ok (.goto 4, 3) := by decide +kernel
theorem dX9_state_29 : decode cX9_state 29 = .ok (.iconst 0, 1) := by decide +kernel
theorem dX9_state_30 : decode cX9_state 30 = .ok (.ireturn, 1) := by decide +kernel
theorem dX9_trayOf_0 : decode cX9_trayOf 0 = .ok (.aload_n 0, 1) := by decide +kernel
theorem dX9_trayOf_1 : decode cX9_trayOf 1 = .ok (.aload_n 0, 1) := by decide +kernel
theorem dX9_trayOf_2 : decode cX9_trayOf 2 = .ok (.iload_n 1, 1) := by decide +kernel
theorem dX9_trayOf_3 : decode cX9_trayOf 3 = .ok (.invokevirtual 165, 3) := by decide +kernel
theorem dX9_trayOf_6 : decode cX9_trayOf 6 = .ok (.ifCond .eq 7, 3) := by decide +kernel
theorem dX9_trayOf_9 : decode cX9_trayOf 9 = .ok (.iconst 0, 1) := by decide +kernel
theorem dX9_trayOf_10 : decode cX9_trayOf 10 = .ok (.goto 4, 3) := by decide +kernel
theorem dX9_trayOf_13 : decode cX9_trayOf 13 = .ok (.iconst 1, 1) := by decide +kernel
theorem dX9_trayOf_14 : decode cX9_trayOf 14 = .ok (.invokevirtual 140, 3) := by decide +kernel
theorem dX9_trayOf_17 : decode cX9_trayOf 17 = .ok (.ifCond .eq 12, 3) := by decide +kernel
theorem dX9_trayOf_20 : decode cX9_trayOf 20 = .ok (.aload_n 0, 1) := by decide +kernel
theorem dX9_trayOf_21 : decode cX9_trayOf 21 = .ok (.getfield 53, 3) := by decide +kernel
theorem dX9_trayOf_24 : decode cX9_trayOf 24 = .ok (.iload_n 1, 1) := by decide +kernel
theorem dX9_trayOf_25 : decode cX9_trayOf 25 = .ok (.iaload, 1) := by decide +kernel
theorem dX9_trayOf_26 : decode cX9_trayOf 26 = .ok (.goto 4, 3) := by decide +kernel
theorem dX9_trayOf_29 : decode cX9_trayOf 29 = .ok (.iconst 0, 1) := by decide +kernel
theorem dX9_trayOf_30 : decode cX9_trayOf 30 = .ok (.ireturn, 1) := by decide +kernel
theorem dX9_asked_0 : decode cX9_asked 0 = .ok (.aload_n 0, 1) := by decide +kernel
theorem dX9_asked_1 : decode cX9_asked 1 = .ok (.aload_n 0, 1) := by decide +kernel
theorem dX9_asked_2 : decode cX9_asked 2 = .ok (.iload_n 1, 1) := by decide +kernel
theorem dX9_asked_3 : decode cX9_asked 3 = .ok (.invokevirtual 165, 3) := by decide +kernel
theorem dX9_asked_6 : decode cX9_asked 6 = .ok (.ifCond .eq 7, 3) := by decide +kernel
theorem dX9_asked_9 : decode cX9_asked 9 = .ok (.iconst 0, 1) := by decide +kernel
theorem dX9_asked_10 : decode cX9_asked 10 = .ok (.goto 4, 3) := by decide +kernel
theorem dX9_asked_13 : decode cX9_asked 13 = .ok (.iconst 1, 1) := by decide +kernel
theorem dX9_asked_14 : decode cX9_asked 14 = .ok (.invokevirtual 140, 3) := by decide +kernel
theorem dX9_asked_17 : decode cX9_asked 17 = .ok (.ifCond .eq 12, 3) := by decide +kernel
theorem dX9_asked_20 : decode cX9_asked 20 = .ok (.aload_n 0, 1) := by decide +kernel
theorem dX9_asked_21 : decode cX9_asked 21 = .ok (.getfield 62, 3) := by decide +kernel
theorem dX9_asked_24 : decode cX9_asked 24 = .ok (.iload_n 1, 1) := by decide +kernel
theorem dX9_asked_25 : decode cX9_asked 25 = .ok (.iaload, 1) := by decide +kernel
theorem dX9_asked_26 : decode cX9_asked 26 = .ok (.goto 4, 3) := by decide +kernel
theorem dX9_asked_29 : decode cX9_asked 29 = .ok (.iconst 0, 1) := by decide +kernel
theorem dX9_asked_30 : decode cX9_asked 30 = .ok (.ireturn, 1) := by decide +kernel
theorem dX9_picksFrom_0 : decode cX9_picksFrom 0 = .ok (.aload_n 0, 1) := by decide +kernel
theorem dX9_picksFrom_1 : decode cX9_picksFrom 1 = .ok (.getfield 56, 3) := by decide +kernel
theorem dX9_picksFrom_4 : decode cX9_picksFrom 4 = .ok (.iload_n 1, 1) := by decide +kernel
theorem dX9_picksFrom_5 : decode cX9_picksFrom 5 = .ok (.iaload, 1) := by decide +kernel
theorem dX9_picksFrom_6 : decode cX9_picksFrom 6 = .ok (.istore_n 2, 1) := by decide +kernel
theorem dX9_picksFrom_7 : decode cX9_picksFrom 7 = .ok (.aload_n 0, 1) := by decide +kernel
theorem dX9_picksFrom_8 : decode cX9_picksFrom 8 = .ok (.getfield 53, 3) := by decide +kernel
theorem dX9_picksFrom_11 : decode cX9_picksFrom 11 = .ok (.iload_n 1, 1) := by decide +kernel
theorem dX9_picksFrom_12 : decode cX9_picksFrom 12 = .ok (.iaload, 1) := by decide +kernel
theorem dX9_picksFrom_13 : decode cX9_picksFrom 13 = .ok (.istore_n 3, 1) := by decide +kernel
theorem dX9_picksFrom_14 : decode cX9_picksFrom 14 = .ok (.aload_n 0, 1) := by decide +kernel
theorem dX9_picksFrom_15 : decode cX9_picksFrom 15 = .ok (.getfield 26, 3) := by decide +kernel
theorem dX9_picksFrom_18 : decode cX9_picksFrom 18 = .ok (.iload_n 3, 1) := by decide +kernel
theorem dX9_picksFrom_19 : decode cX9_picksFrom 19 = .ok (.dup2, 1) := by decide +kernel
theorem dX9_picksFrom_20 : decode cX9_picksFrom 20 = .ok (.iaload, 1) := by decide +kernel
theorem dX9_picksFrom_21 : decode cX9_picksFrom 21 = .ok (.iconst 1, 1) := by decide +kernel
theorem dX9_picksFrom_22 : decode cX9_picksFrom 22 = .ok (.isub, 1) := by decide +kernel
theorem dX9_picksFrom_23 : decode cX9_picksFrom 23 = .ok (.iastore, 1) := by decide +kernel
theorem dX9_picksFrom_24 : decode cX9_picksFrom 24 = .ok (.aload_n 0, 1) := by decide +kernel
theorem dX9_picksFrom_25 : decode cX9_picksFrom 25 = .ok (.getfield 35, 3) := by decide +kernel
theorem dX9_picksFrom_28 : decode cX9_picksFrom 28 = .ok (.iload_n 2, 1) := by decide +kernel
theorem dX9_picksFrom_29 : decode cX9_picksFrom 29 = .ok (.dup2, 1) := by decide +kernel
theorem dX9_picksFrom_30 : decode cX9_picksFrom 30 = .ok (.iaload, 1) := by decide +kernel
theorem dX9_picksFrom_31 : decode cX9_picksFrom 31 = .ok (.iconst 1, 1) := by decide +kernel
theorem dX9_picksFrom_32 : decode cX9_picksFrom 32 = .ok (.isub, 1) := by decide +kernel
theorem dX9_picksFrom_33 : decode cX9_picksFrom 33 = .ok (.iastore, 1) := by decide +kernel
theorem dX9_picksFrom_34 : decode cX9_picksFrom 34 = .ok (.aload_n 0, 1) := by decide +kernel
theorem dX9_picksFrom_35 : decode cX9_picksFrom 35 = .ok (.getfield 77, 3) := by decide +kernel
theorem dX9_picksFrom_38 : decode cX9_picksFrom 38 = .ok (.aload_n 0, 1) := by decide +kernel
theorem dX9_picksFrom_39 : decode cX9_picksFrom 39 = .ok (.getfield 23, 3) := by decide +kernel
theorem dX9_picksFrom_42 : decode cX9_picksFrom 42 = .ok (.iload_n 3, 1) := by decide +kernel
theorem dX9_picksFrom_43 : decode cX9_picksFrom 43 = .ok (.iaload, 1) := by decide +kernel
theorem dX9_picksFrom_44 : decode cX9_picksFrom 44 = .ok (.dup2, 1) := by decide +kernel
theorem dX9_picksFrom_45 : decode cX9_picksFrom 45 = .ok (.iaload, 1) := by decide +kernel
theorem dX9_picksFrom_46 : decode cX9_picksFrom 46 = .ok (.iconst 1, 1) := by decide +kernel
theorem dX9_picksFrom_47 : decode cX9_picksFrom 47 = .ok (.iadd, 1) := by decide +kernel
theorem dX9_picksFrom_48 : decode cX9_picksFrom 48 = .ok (.iastore, 1) := by decide +kernel
theorem dX9_picksFrom_49 : decode cX9_picksFrom 49 = .ok (.aload_n 0, 1) := by decide +kernel
theorem dX9_picksFrom_50 : decode cX9_picksFrom 50 = .ok (.getfield 80, 3) := by decide +kernel
theorem dX9_picksFrom_53 : decode cX9_picksFrom 53 = .ok (.aload_n 0, 1) := by decide +kernel
theorem dX9_picksFrom_54 : decode cX9_picksFrom 54 = .ok (.getfield 168, 3) := by decide +kernel
theorem dX9_picksFrom_57 : decode cX9_picksFrom 57 = .ok (.iload_n 3, 1) := by decide +kernel
theorem dX9_picksFrom_58 : decode cX9_picksFrom 58 = .ok (.iastore, 1) := by decide +kernel
theorem dX9_picksFrom_59 : decode cX9_picksFrom 59 = .ok (.aload_n 0, 1) := by decide +kernel
theorem dX9_picksFrom_60 : decode cX9_picksFrom 60 = .ok (.getfield 83, 3) := by decide +kernel
theorem dX9_picksFrom_63 : decode cX9_picksFrom 63 = .ok (.aload_n 0, 1) := by decide +kernel
theorem dX9_picksFrom_64 : decode cX9_picksFrom 64 = .ok (.getfield 168, 3) := by decide +kernel
theorem dX9_picksFrom_67 : decode cX9_picksFrom 67 = .ok (.iload_n 2, 1) := by decide +kernel
theorem dX9_picksFrom_68 : decode cX9_picksFrom 68 = .ok (.iconst 3, 1) := by decide +kernel
theorem dX9_picksFrom_69 : decode cX9_picksFrom 69 = .ok (.idiv, 1) := by decide +kernel
theorem dX9_picksFrom_70 : decode cX9_picksFrom 70 = .ok (.iastore, 1) := by decide +kernel
theorem dX9_picksFrom_71 : decode cX9_picksFrom 71 = .ok (.aload_n 0, 1) := by decide +kernel
theorem dX9_picksFrom_72 : decode cX9_picksFrom 72 = .ok (.getfield 86, 3) := by decide +kernel
theorem dX9_picksFrom_75 : decode cX9_picksFrom 75 = .ok (.aload_n 0, 1) := by decide +kernel
theorem dX9_picksFrom_76 : decode cX9_picksFrom 76 = .ok (.getfield 168, 3) := by decide +kernel
theorem dX9_picksFrom_79 : decode cX9_picksFrom 79 = .ok (.aload_n 0, 1) := by decide +kernel
theorem dX9_picksFrom_80 : decode cX9_picksFrom 80 = .ok (.getfield 171, 3) := by decide +kernel
theorem dX9_picksFrom_83 : decode cX9_picksFrom 83 = .ok (.iastore, 1) := by decide +kernel
theorem dX9_picksFrom_84 : decode cX9_picksFrom 84 = .ok (.aload_n 0, 1) := by decide +kernel
theorem dX9_picksFrom_85 : decode cX9_picksFrom 85 = .ok (.dup, 1) := by decide +kernel
theorem dX9_picksFrom_86 : decode cX9_picksFrom 86 = .ok (.getfield 168, 3) := by decide +kernel
theorem dX9_picksFrom_89 : decode cX9_picksFrom 89 = .ok (.iconst 1, 1) := by decide +kernel
theorem dX9_picksFrom_90 : decode cX9_picksFrom 90 = .ok (.iadd, 1) := by decide +kernel
theorem dX9_picksFrom_91 : decode cX9_picksFrom 91 = .ok (.putfield 168, 3) := by decide +kernel
theorem dX9_picksFrom_94 : decode cX9_picksFrom 94 = .ok (.aload_n 0, 1) := by decide +kernel
theorem dX9_picksFrom_95 : decode cX9_picksFrom 95 = .ok (.getfield 35, 3) := by decide +kernel
theorem dX9_picksFrom_98 : decode cX9_picksFrom 98 = .ok (.iload_n 2, 1) := by decide +kernel
theorem dX9_picksFrom_99 : decode cX9_picksFrom 99 = .ok (.iaload, 1) := by decide +kernel
theorem dX9_picksFrom_100 : decode cX9_picksFrom 100 = .ok (.ifCond .eq 12, 3) := by decide +kernel
theorem dX9_picksFrom_103 : decode cX9_picksFrom 103 = .ok (.aload_n 0, 1) := by decide +kernel
theorem dX9_picksFrom_104 : decode cX9_picksFrom 104 = .ok (.getfield 26, 3) := by decide +kernel
theorem dX9_picksFrom_107 : decode cX9_picksFrom 107 = .ok (.iload_n 3, 1) := by decide +kernel
theorem dX9_picksFrom_108 : decode cX9_picksFrom 108 = .ok (.iaload, 1) := by decide +kernel
theorem dX9_picksFrom_109 : decode cX9_picksFrom 109 = .ok (.ifCond .ne 9, 3) := by decide +kernel
theorem dX9_picksFrom_112 : decode cX9_picksFrom 112 = .ok (.aload_n 0, 1) := by decide +kernel
theorem dX9_picksFrom_113 : decode cX9_picksFrom 113 = .ok (.iload_n 1, 1) := by decide +kernel
theorem dX9_picksFrom_114 : decode cX9_picksFrom 114 = .ok (.iconst 4, 1) := by decide +kernel
theorem dX9_picksFrom_115 : decode cX9_picksFrom 115 = .ok (.invokevirtual 162, 3) := by decide +kernel
theorem dX9_picksFrom_118 : decode cX9_picksFrom 118 = .ok (.return_, 1) := by decide +kernel
theorem dX9_hasRobot_0 : decode cX9_hasRobot 0 = .ok (.iconst 0, 1) := by decide +kernel
theorem dX9_hasRobot_1 : decode cX9_hasRobot 1 = .ok (.istore_n 2, 1) := by decide +kernel
theorem dX9_hasRobot_2 : decode cX9_hasRobot 2 = .ok (.iconst 0, 1) := by decide +kernel
theorem dX9_hasRobot_3 : decode cX9_hasRobot 3 = .ok (.istore_n 3, 1) := by decide +kernel
theorem dX9_hasRobot_4 : decode cX9_hasRobot 4 = .ok (.iload_n 3, 1) := by decide +kernel
theorem dX9_hasRobot_5 : decode cX9_hasRobot 5 = .ok (.aload_n 0, 1) := by decide +kernel
theorem dX9_hasRobot_6 : decode cX9_hasRobot 6 = .ok (.getfield 103, 3) := by decide +kernel
theorem dX9_hasRobot_9 : decode cX9_hasRobot 9 = .ok (.if_icmp .ge 44, 3) := by decide +kernel
theorem dX9_hasRobot_12 : decode cX9_hasRobot 12 = .ok (.iload_n 2, 1) := by decide +kernel
theorem dX9_hasRobot_13 : decode cX9_hasRobot 13 = .ok (.ifCond .ne 28, 3) := by decide +kernel
theorem dX9_hasRobot_16 : decode cX9_hasRobot 16 = .ok (.aload_n 0, 1) := by decide +kernel
theorem dX9_hasRobot_17 : decode cX9_hasRobot 17 = .ok (.getfield 56, 3) := by decide +kernel
theorem dX9_hasRobot_20 : decode cX9_hasRobot 20 = .ok (.iload_n 3, 1) := by decide +kernel
theorem dX9_hasRobot_21 : decode cX9_hasRobot 21 = .ok (.iaload, 1) := by decide +kernel
theorem dX9_hasRobot_22 : decode cX9_hasRobot 22 = .ok (.iconst (-1), 1) := by decide +kernel
theorem dX9_hasRobot_23 : decode cX9_hasRobot 23 = .ok (.if_icmp .eq 22, 3) := by decide +kernel
theorem dX9_hasRobot_26 : decode cX9_hasRobot 26 = .ok (.aload_n 0, 1) := by decide +kernel
theorem dX9_hasRobot_27 : decode cX9_hasRobot 27 = .ok (.getfield 38, 3) := by decide +kernel
theorem dX9_hasRobot_30 : decode cX9_hasRobot 30 = .ok (.aload_n 0, 1) := by decide +kernel
theorem dX9_hasRobot_31 : decode cX9_hasRobot 31 = .ok (.getfield 56, 3) := by decide +kernel
theorem dX9_hasRobot_34 : decode cX9_hasRobot 34 = .ok (.iload_n 3, 1) := by decide +kernel
theorem dX9_hasRobot_35 : decode cX9_hasRobot 35 = .ok (.iaload, 1) := by decide +kernel
theorem dX9_hasRobot_36 : decode cX9_hasRobot 36 = .ok (.iaload, 1) := by decide +kernel
theorem dX9_hasRobot_37 : decode cX9_hasRobot 37 = .ok (.iload_n 1, 1) := by decide +kernel
theorem dX9_hasRobot_38 : decode cX9_hasRobot 38 = .ok (.if_icmp .ne 7, 3) := by decide +kernel
theorem dX9_hasRobot_41 : decode cX9_hasRobot 41 = .ok (.iconst 1, 1) := by decide +kernel
theorem dX9_hasRobot_42 : decode cX9_hasRobot 42 = .ok (.goto 4, 3) := by decide +kernel
theorem dX9_hasRobot_45 : decode cX9_hasRobot 45 = .ok (.iconst 0, 1) := by decide +kernel
theorem dX9_hasRobot_46 : decode cX9_hasRobot 46 = .ok (.istore_n 2, 1) := by decide +kernel
theorem dX9_hasRobot_47 : decode cX9_hasRobot 47 = .ok (.iinc 3 1, 3) := by decide +kernel
theorem dX9_hasRobot_50 : decode cX9_hasRobot 50 = .ok (.goto (-46), 3) := by decide +kernel
theorem dX9_hasRobot_53 : decode cX9_hasRobot 53 = .ok (.iload_n 2, 1) := by decide +kernel
theorem dX9_hasRobot_54 : decode cX9_hasRobot 54 = .ok (.ireturn, 1) := by decide +kernel
theorem dX9_trayFor_0 : decode cX9_trayFor 0 = .ok (.iconst (-1), 1) := by decide +kernel
theorem dX9_trayFor_1 : decode cX9_trayFor 1 = .ok (.istore_n 3, 1) := by decide +kernel
theorem dX9_trayFor_2 : decode cX9_trayFor 2 = .ok (.iconst 0, 1) := by decide +kernel
theorem dX9_trayFor_3 : decode cX9_trayFor 3 = .ok (.istore 4, 2) := by decide +kernel
theorem dX9_trayFor_5 : decode cX9_trayFor 5 = .ok (.iconst 0, 1) := by decide +kernel
theorem dX9_trayFor_6 : decode cX9_trayFor 6 = .ok (.istore 5, 2) := by decide +kernel
theorem dX9_trayFor_8 : decode cX9_trayFor 8 = .ok (.iload 5, 2) := by decide +kernel
theorem dX9_trayFor_10 : decode cX9_trayFor 10 = .ok (.aload_n 0, 1) := by decide +kernel
theorem dX9_trayFor_11 : decode cX9_trayFor 11 = .ok (.getfield 109, 3) := by decide +kernel
theorem dX9_trayFor_14 : decode cX9_trayFor 14 = .ok (.if_icmp .ge 143, 3) := by decide +kernel
theorem dX9_trayFor_17 : decode cX9_trayFor 17 = .ok (.aload_n 0, 1) := by decide +kernel
theorem dX9_trayFor_18 : decode cX9_trayFor 18 = .ok (.getfield 23, 3) := by decide +kernel
theorem dX9_trayFor_21 : decode cX9_trayFor 21 = .ok (.iload 5, 2) := by decide +kernel
theorem dX9_trayFor_23 : decode cX9_trayFor 23 = .ok (.iaload, 1) := by decide +kernel
theorem dX9_trayFor_24 : decode cX9_trayFor 24 = .ok (.aload_n 0, 1) := by decide +kernel
theorem dX9_trayFor_25 : decode cX9_trayFor 25 = .ok (.getfield 32, 3) := by decide +kernel
theorem dX9_trayFor_28 : decode cX9_trayFor 28 = .ok (.iload_n 2, 1) := by decide +kernel
theorem dX9_trayFor_29 : decode cX9_trayFor 29 = .ok (.iaload, 1) := by decide +kernel
theorem dX9_trayFor_30 : decode cX9_trayFor 30 = .ok (.if_icmp .ne 39, 3) := by decide +kernel
theorem dX9_trayFor_33 : decode cX9_trayFor 33 = .ok (.aload_n 0, 1) := by decide +kernel
theorem dX9_trayFor_34 : decode cX9_trayFor 34 = .ok (.getfield 26, 3) := by decide +kernel
theorem dX9_trayFor_37 : decode cX9_trayFor 37 = .ok (.iload 5, 2) := by decide +kernel
theorem dX9_trayFor_39 : decode cX9_trayFor 39 = .ok (.iaload, 1) := by decide +kernel
theorem dX9_trayFor_40 : decode cX9_trayFor 40 = .ok (.ifCond .le 29, 3) := by decide +kernel
theorem dX9_trayFor_43 : decode cX9_trayFor 43 = .ok (.aload_n 0, 1) := by decide +kernel
theorem dX9_trayFor_44 : decode cX9_trayFor 44 = .ok (.iload 5, 2) := by decide +kernel
theorem dX9_trayFor_46 : decode cX9_trayFor 46 = .ok (.iconst 0, 1) := by decide +kernel
theorem dX9_trayFor_47 : decode cX9_trayFor 47 = .ok (.invokevirtual 149, 3) := by decide +kernel
theorem dX9_trayFor_50 : decode cX9_trayFor 50 = .ok (.iconst (-1), 1) := by decide +kernel
theorem dX9_trayFor_51 : decode cX9_trayFor 51 = .ok (.if_icmp .ne 18, 3) := by decide +kernel
theorem dX9_trayFor_54 : decode cX9_trayFor 54 = .ok (.aload_n 0, 1) := by decide +kernel
theorem dX9_trayFor_55 : decode cX9_trayFor 55 = .ok (.iload 5, 2) := by decide +kernel
theorem dX9_trayFor_57 : decode cX9_trayFor 57 = .ok (.iconst 1, 1) := by decide +kernel
theorem dX9_trayFor_58 : decode cX9_trayFor 58 = .ok (.invokevirtual 149, 3) := by decide +kernel
theorem dX9_trayFor_61 : decode cX9_trayFor 61 = .ok (.iconst (-1), 1) := by decide +kernel
theorem dX9_trayFor_62 : decode cX9_trayFor 62 = .ok (.if_icmp .ne 7, 3) := by decide +kernel
theorem dX9_trayFor_65 : decode cX9_trayFor 65 = .ok (.iconst 1, 1) := by decide +kernel
theorem dX9_trayFor_66 : decode cX9_trayFor 66 = .ok (.goto 4, 3) := by decide +kernel
theorem dX9_trayFor_69 : decode cX9_trayFor 69 = .ok (.iconst 0, 1) := by decide +kernel
theorem dX9_trayFor_70 : decode cX9_trayFor 70 = .ok (.istore 6, 2) := by decide +kernel
theorem dX9_trayFor_72 : decode cX9_trayFor 72 = .ok (.iload 6, 2) := by decide +kernel
theorem dX9_trayFor_74 : decode cX9_trayFor 74 = .ok (.ifCond .eq 23, 3) := by decide +kernel
theorem dX9_trayFor_77 : decode cX9_trayFor 77 = .ok (.aload_n 0, 1) := by decide +kernel
theorem dX9_trayFor_78 : decode cX9_trayFor 78 = .ok (.aload_n 0, 1) := by decide +kernel
theorem dX9_trayFor_79 : decode cX9_trayFor 79 = .ok (.getfield 16, 3) := by decide +kernel
theorem dX9_trayFor_82 : decode cX9_trayFor 82 = .ok (.iload_n 1, 1) := by decide +kernel
theorem dX9_trayFor_83 : decode cX9_trayFor 83 = .ok (.iaload, 1) := by decide +kernel
theorem dX9_trayFor_84 : decode cX9_trayFor 84 = .ok (.aload_n 0, 1) := by decide +kernel
theorem dX9_trayFor_85 : decode cX9_trayFor 85 = .ok (.getfield 20, 3) := by decide +kernel
theorem dX9_trayFor_88 : decode cX9_trayFor 88 = .ok (.iload 5, 2) := by decide +kernel
theorem dX9_trayFor_90 : decode cX9_trayFor 90 = .ok (.iaload, 1) := by decide +kernel
theorem dX9_trayFor_91 : decode cX9_trayFor 91 = .ok (.invokevirtual 143, 3) := by decide +kernel
theorem dX9_trayFor_94 : decode cX9_trayFor 94 = .ok (.goto 4, 3) := by decide +kernel
theorem dX9_trayFor_97 : decode cX9_trayFor 97 = .ok (.iconst (-1), 1) := by decide +kernel
theorem dX9_trayFor_98 : decode cX9_trayFor 98 = .ok (.istore 7, 2) := by decide +kernel
theorem dX9_trayFor_100 : decode cX9_trayFor 100 = .ok (.iload 7, 2) := by decide +kernel
theorem dX9_trayFor_102 : decode cX9_trayFor 102 = .ok (.iconst (-1), 1) := by decide +kernel
theorem dX9_trayFor_103 : decode cX9_trayFor 103 = .ok (.if_icmp .eq 19, 3) := by decide +kernel
theorem dX9_trayFor_106 : decode cX9_trayFor 106 = .ok (.iload_n 3, 1) := by decide +kernel
theorem dX9_trayFor_107 : decode cX9_trayFor 107 = .ok (.iconst (-1), 1) := by decide +kernel
theorem dX9_trayFor_108 : decode cX9_trayFor 108 = .ok (.if_icmp .eq 10, 3) := by decide +kernel
theorem dX9_trayFor_111 : decode cX9_trayFor 111 = .ok (.iload 7, 2) := by decide +kernel
theorem dX9_trayFor_113 : decode cX9_trayFor 113 = .ok (.iload 4, 2) := by decide +kernel
theorem dX9_trayFor_115 : decode cX9_trayFor 115 = .ok (.if_icmp .ge 7, 3) := by decide +kernel
theorem dX9_trayFor_118 : decode cX9_trayFor 118 = .ok (.iconst 1, 1) := by decide +kernel
theorem dX9_trayFor_119 : decode cX9_trayFor 119 = .ok (.goto 4, 3) := by decide +kernel
theorem dX9_trayFor_122 : decode cX9_trayFor 122 = .ok (.iconst 0, 1) := by decide +kernel
theorem dX9_trayFor_123 : decode cX9_trayFor 123 = .ok (.istore 8, 2) := by decide +kernel
theorem dX9_trayFor_125 : decode cX9_trayFor 125 = .ok (.iload 8, 2) := by decide +kernel
theorem dX9_trayFor_127 : decode cX9_trayFor 127 = .ok (.ifCond .eq 8, 3) := by decide +kernel
theorem dX9_trayFor_130 : decode cX9_trayFor 130 = .ok (.iload 5, 2) := by decide +kernel
theorem dX9_trayFor_132 : decode cX9_trayFor 132 = .ok (.goto 4, 3) := by decide +kernel
theorem dX9_trayFor_135 : decode cX9_trayFor 135 = .ok (.iload_n 3, 1) := by decide +kernel
theorem dX9_trayFor_136 : decode cX9_trayFor 136 = .ok (.istore_n 3, 1) := by decide +kernel
theorem dX9_trayFor_137 : decode cX9_trayFor 137 = .ok (.iload 8, 2) := by decide +kernel
theorem dX9_trayFor_139 : decode cX9_trayFor 139 = .ok (.ifCond .eq 8, 3) := by decide +kernel
theorem dX9_trayFor_142 : decode cX9_trayFor 142 = .ok (.iload 7, 2) := by decide +kernel
theorem dX9_trayFor_144 : decode cX9_trayFor 144 = .ok (.goto 5, 3) := by decide +kernel
theorem dX9_trayFor_147 : decode cX9_trayFor 147 = .ok (.iload 4, 2) := by decide +kernel
theorem dX9_trayFor_149 : decode cX9_trayFor 149 = .ok (.istore 4, 2) := by decide +kernel
theorem dX9_trayFor_151 : decode cX9_trayFor 151 = .ok (.iinc 5 1, 3) := by decide +kernel
theorem dX9_trayFor_154 : decode cX9_trayFor 154 = .ok (.goto (-146), 3) := by decide +kernel
theorem dX9_trayFor_157 : decode cX9_trayFor 157 = .ok (.iload_n 3, 1) := by decide +kernel
theorem dX9_trayFor_158 : decode cX9_trayFor 158 = .ok (.ireturn, 1) := by decide +kernel
theorem dX9_robotFor_0 : decode cX9_robotFor 0 = .ok (.iconst (-1), 1) := by decide +kernel
theorem dX9_robotFor_1 : decode cX9_robotFor 1 = .ok (.istore_n 2, 1) := by decide +kernel
theorem dX9_robotFor_2 : decode cX9_robotFor 2 = .ok (.iconst 0, 1) := by decide +kernel
theorem dX9_robotFor_3 : decode cX9_robotFor 3 = .ok (.istore_n 3, 1) := by decide +kernel
theorem dX9_robotFor_4 : decode cX9_robotFor 4 = .ok (.iconst 0, 1) := by decide +kernel
theorem dX9_robotFor_5 : decode cX9_robotFor 5 = .ok (.istore 4, 2) := by decide +kernel
theorem dX9_robotFor_7 : decode cX9_robotFor 7 = .ok (.iload 4, 2) := by decide +kernel
theorem dX9_robotFor_9 : decode cX9_robotFor 9 = .ok (.aload_n 0, 1) := by decide +kernel
theorem dX9_robotFor_10 : decode cX9_robotFor 10 = .ok (.getfield 103, 3) := by decide +kernel
theorem dX9_robotFor_13 : decode cX9_robotFor 13 = .ok (.if_icmp .ge 85, 3) := by decide +kernel
theorem dX9_robotFor_16 : decode cX9_robotFor 16 = .ok (.aload_n 0, 1) := by decide +kernel
theorem dX9_robotFor_17 : decode cX9_robotFor 17 = .ok (.getfield 50, 3) := by decide +kernel
theorem dX9_robotFor_20 : decode cX9_robotFor 20 = .ok (.iload 4, 2) := by decide +kernel
theorem dX9_robotFor_22 : decode cX9_robotFor 22 = .ok (.iaload, 1) := by decide +kernel
theorem dX9_robotFor_23 : decode cX9_robotFor 23 = .ok (.ifCond .ne 18, 3) := by decide +kernel
theorem dX9_robotFor_26 : decode cX9_robotFor 26 = .ok (.aload_n 0, 1) := by decide +kernel
theorem dX9_robotFor_27 : decode cX9_robotFor 27 = .ok (.aload_n 0, 1) := by decide +kernel
theorem dX9_robotFor_28 : decode cX9_robotFor 28 = .ok (.getfield 44, 3) := by decide +kernel
theorem dX9_robotFor_31 : decode cX9_robotFor 31 = .ok (.iload 4, 2) := by decide +kernel
theorem dX9_robotFor_33 : decode cX9_robotFor 33 = .ok (.iaload, 1) := by decide +kernel
theorem dX9_robotFor_34 : decode cX9_robotFor 34 = .ok (.iload_n 1, 1) := by decide +kernel
theorem dX9_robotFor_35 : decode cX9_robotFor 35 = .ok (.invokevirtual 143, 3) := by decide +kernel
theorem dX9_robotFor_38 : decode cX9_robotFor 38 = .ok (.goto 4, 3) := by decide +kernel
theorem dX9_robotFor_41 : decode cX9_robotFor 41 = .ok (.iconst (-1), 1) := by decide +kernel
theorem dX9_robotFor_42 : decode cX9_robotFor 42 = .ok (.istore 5, 2) := by decide +kernel
theorem dX9_robotFor_44 : decode cX9_robotFor 44 = .ok (.iload 5, 2) := by decide +kernel
theorem dX9_robotFor_46 : decode cX9_robotFor 46 = .ok (.iconst (-1), 1) := by decide +kernel
theorem dX9_robotFor_47 : decode cX9_robotFor 47 = .ok (.if_icmp .eq 18, 3) := by decide +kernel
theorem dX9_robotFor_50 : decode cX9_robotFor 50 = .ok (.iload_n 2, 1) := by decide +kernel
theorem dX9_robotFor_51 : decode cX9_robotFor 51 = .ok (.iconst (-1), 1) := by decide +kernel
theorem dX9_robotFor_52 : decode cX9_robotFor 52 = .ok (.if_icmp .eq 9, 3) := by decide +kernel
theorem dX9_robotFor_55 : decode cX9_robotFor 55 = .ok (.iload 5, 2) := by decide +kernel
theorem dX9_robotFor_57 : decode cX9_robotFor 57 = .ok (.iload_n 3, 1) := by decide +kernel
theorem dX9_robotFor_58 : decode cX9_robotFor 58 = .ok (.if_icmp .ge 7, 3) := by decide +kernel
theorem dX9_robotFor_61 : decode cX9_robotFor 61 = .ok (.iconst 1, 1) := by decide +kernel
theorem dX9_robotFor_62 : decode cX9_robotFor 62 = .ok (.goto 4, 3) := by decide +kernel
theorem dX9_robotFor_65 : decode cX9_robotFor 65 = .ok (.iconst 0, 1) := by decide +kernel
theorem dX9_robotFor_66 : decode cX9_robotFor 66 = .ok (.istore 6, 2) := by decide +kernel
theorem dX9_robotFor_68 : decode cX9_robotFor 68 = .ok (.iload 6, 2) := by decide +kernel
theorem dX9_robotFor_70 : decode cX9_robotFor 70 = .ok (.ifCond .eq 8, 3) := by decide +kernel
theorem dX9_robotFor_73 : decode cX9_robotFor 73 = .ok (.iload 4, 2) := by decide +kernel
theorem dX9_robotFor_75 : decode cX9_robotFor 75 = .ok (.goto 4, 3) := by decide +kernel
theorem dX9_robotFor_78 : decode cX9_robotFor 78 = .ok (.iload_n 2, 1) := by decide +kernel
theorem dX9_robotFor_79 : decode cX9_robotFor 79 = .ok (.istore_n 2, 1) := by decide +kernel
theorem dX9_robotFor_80 : decode cX9_robotFor 80 = .ok (.iload 6, 2) := by decide +kernel
theorem dX9_robotFor_82 : decode cX9_robotFor 82 = .ok (.ifCond .eq 8, 3) := by decide +kernel
theorem dX9_robotFor_85 : decode cX9_robotFor 85 = .ok (.iload 5, 2) := by decide +kernel
theorem dX9_robotFor_87 : decode cX9_robotFor 87 = .ok (.goto 4, 3) := by decide +kernel
theorem dX9_robotFor_90 : decode cX9_robotFor 90 = .ok (.iload_n 3, 1) := by decide +kernel
theorem dX9_robotFor_91 : decode cX9_robotFor 91 = .ok (.istore_n 3, 1) := by decide +kernel
theorem dX9_robotFor_92 : decode cX9_robotFor 92 = .ok (.iinc 4 1, 3) := by decide +kernel
theorem dX9_robotFor_95 : decode cX9_robotFor 95 = .ok (.goto (-88), 3) := by decide +kernel
theorem dX9_robotFor_98 : decode cX9_robotFor 98 = .ok (.iload_n 2, 1) := by decide +kernel
theorem dX9_robotFor_99 : decode cX9_robotFor 99 = .ok (.ireturn, 1) := by decide +kernel
theorem dX9_sends_0 : decode cX9_sends 0 = .ok (.aload_n 0, 1) := by decide +kernel
theorem dX9_sends_1 : decode cX9_sends 1 = .ok (.iload_n 1, 1) := by decide +kernel
theorem dX9_sends_2 : decode cX9_sends 2 = .ok (.iload_n 2, 1) := by decide +kernel
theorem dX9_sends_3 : decode cX9_sends 3 = .ok (.invokevirtual 174, 3) := by decide +kernel
theorem dX9_sends_6 : decode cX9_sends 6 = .ok (.istore_n 3, 1) := by decide +kernel
theorem dX9_sends_7 : decode cX9_sends 7 = .ok (.iload_n 3, 1) := by decide +kernel
theorem dX9_sends_8 : decode cX9_sends 8 = .ok (.iconst (-1), 1) := by decide +kernel
theorem dX9_sends_9 : decode cX9_sends 9 = .ok (.if_icmp .ne 7, 3) := by decide +kernel
theorem dX9_sends_12 : decode cX9_sends 12 = .ok (.iconst (-1), 1) := by decide +kernel
theorem dX9_sends_13 : decode cX9_sends 13 = .ok (.goto 13, 3) := by decide +kernel
theorem dX9_sends_16 : decode cX9_sends 16 = .ok (.aload_n 0, 1) := by decide +kernel
theorem dX9_sends_17 : decode cX9_sends 17 = .ok (.aload_n 0, 1) := by decide +kernel
theorem dX9_sends_18 : decode cX9_sends 18 = .ok (.getfield 20, 3) := by decide +kernel
theorem dX9_sends_21 : decode cX9_sends 21 = .ok (.iload_n 3, 1) := by decide +kernel
theorem dX9_sends_22 : decode cX9_sends 22 = .ok (.iaload, 1) := by decide +kernel
theorem dX9_sends_23 : decode cX9_sends 23 = .ok (.invokevirtual 177, 3) := by decide +kernel
theorem dX9_sends_26 : decode cX9_sends 26 = .ok (.istore 4, 2) := by decide +kernel
theorem dX9_sends_28 : decode cX9_sends 28 = .ok (.iload 4, 2) := by decide +kernel
theorem dX9_sends_30 : decode cX9_sends 30 = .ok (.iconst (-1), 1) := by decide +kernel
theorem dX9_sends_31 : decode cX9_sends 31 = .ok (.if_icmp .eq 26, 3) := by decide +kernel
theorem dX9_sends_34 : decode cX9_sends 34 = .ok (.aload_n 0, 1) := by decide +kernel
theorem dX9_sends_35 : decode cX9_sends 35 = .ok (.getfield 56, 3) := by decide +kernel
theorem dX9_sends_38 : decode cX9_sends 38 = .ok (.iload 4, 2) := by decide +kernel
theorem dX9_sends_40 : decode cX9_sends 40 = .ok (.iload_n 2, 1) := by decide +kernel
theorem dX9_sends_41 : decode cX9_sends 41 = .ok (.iastore, 1) := by decide +kernel
theorem dX9_sends_42 : decode cX9_sends 42 = .ok (.aload_n 0, 1) := by decide +kernel
theorem dX9_sends_43 : decode cX9_sends 43 = .ok (.getfield 53, 3) := by decide +kernel
theorem dX9_sends_46 : decode cX9_sends 46 = .ok (.iload 4, 2) := by decide +kernel
theorem dX9_sends_48 : decode cX9_sends 48 = .ok (.iload_n 3, 1) := by decide +kernel
theorem dX9_sends_49 : decode cX9_sends 49 = .ok (.iastore, 1) := by decide +kernel
theorem dX9_sends_50 : decode cX9_sends 50 = .ok (.aload_n 0, 1) := by decide +kernel
theorem dX9_sends_51 : decode cX9_sends 51 = .ok (.iload 4, 2) := by decide +kernel
theorem dX9_sends_53 : decode cX9_sends 53 = .ok (.iconst 1, 1) := by decide +kernel
theorem dX9_sends_54 : decode cX9_sends 54 = .ok (.invokevirtual 162, 3) := by decide +kernel
theorem dX9_sends_57 : decode cX9_sends 57 = .ok (.iload 4, 2) := by decide +kernel
theorem dX9_sends_59 : decode cX9_sends 59 = .ok (.iconst (-1), 1) := by decide +kernel
theorem dX9_sends_60 : decode cX9_sends 60 = .ok (.if_icmp .eq 7, 3) := by decide +kernel
theorem dX9_sends_63 : decode cX9_sends 63 = .ok (.iconst 1, 1) := by decide +kernel
theorem dX9_sends_64 : decode cX9_sends 64 = .ok (.goto 4, 3) := by decide +kernel
theorem dX9_sends_67 : decode cX9_sends 67 = .ok (.iconst 0, 1) := by decide +kernel
theorem dX9_sends_68 : decode cX9_sends 68 = .ok (.ireturn, 1) := by decide +kernel
theorem dX9_serves_0 : decode cX9_serves 0 = .ok (.aload_n 0, 1) := by decide +kernel
theorem dX9_serves_1 : decode cX9_serves 1 = .ok (.iload_n 1, 1) := by decide +kernel
theorem dX9_serves_2 : decode cX9_serves 2 = .ok (.invokevirtual 180, 3) := by decide +kernel
theorem dX9_serves_5 : decode cX9_serves 5 = .ok (.istore_n 2, 1) := by decide +kernel
theorem dX9_serves_6 : decode cX9_serves 6 = .ok (.iconst 0, 1) := by decide +kernel
theorem dX9_serves_7 : decode cX9_serves 7 = .ok (.istore_n 3, 1) := by decide +kernel
theorem dX9_serves_8 : decode cX9_serves 8 = .ok (.iconst 0, 1) := by decide +kernel
theorem dX9_serves_9 : decode cX9_serves 9 = .ok (.istore 4, 2) := by decide +kernel
theorem dX9_serves_11 : decode cX9_serves 11 = .ok (.iload_n 2, 1) := by decide +kernel
theorem dX9_serves_12 : decode cX9_serves 12 = .ok (.ifCond .ne 162, 3) := by decide +kernel
theorem dX9_serves_15 : decode cX9_serves 15 = .ok (.iload 4, 2) := by decide +kernel
theorem dX9_serves_17 : decode cX9_serves 17 = .ok (.iconst (-1), 1) := by decide +kernel
theorem dX9_serves_18 : decode cX9_serves 18 = .ok (.if_icmp .eq 156, 3) := by decide +kernel
theorem dX9_serves_21 : decode cX9_serves 21 = .ok (.iconst (-1), 1) := by decide +kernel
theorem dX9_serves_22 : decode cX9_serves 22 = .ok (.istore 4, 2) := by decide +kernel
theorem dX9_serves_24 : decode cX9_serves 24 = .ok (.iconst 0, 1) := by decide +kernel
theorem dX9_serves_25 : decode cX9_serves 25 = .ok (.istore 5, 2) := by decide +kernel
theorem dX9_serves_27 : decode cX9_serves 27 = .ok (.iload 5, 2) := by decide +kernel
theorem dX9_serves_29 : decode cX9_serves 29 = .ok (.bipush 30, 2) := by decide +kernel
theorem dX9_serves_31 : decode cX9_serves 31 = .ok (.if_icmp .ge 90, 3) := by decide +kernel
theorem dX9_serves_34 : decode cX9_serves 34 = .ok (.aload_n 0, 1) := by decide +kernel
theorem dX9_serves_35 : decode cX9_serves 35 = .ok (.iload 5, 2) := by decide +kernel
theorem dX9_serves_37 : decode cX9_serves 37 = .ok (.iconst 3, 1) := by decide +kernel
theorem dX9_serves_38 : decode cX9_serves 38 = .ok (.idiv, 1) := by decide +kernel
theorem dX9_serves_39 : decode cX9_serves 39 = .ok (.iload 5, 2) := by decide +kernel
theorem dX9_serves_41 : decode cX9_serves 41 = .ok (.iconst 3, 1) := by decide +kernel
theorem dX9_serves_42 : decode cX9_serves 42 = .ok (.irem, 1) := by decide +kernel
theorem dX9_serves_43 : decode cX9_serves 43 = .ok (.invokevirtual 156, 3) := by decide +kernel
theorem dX9_serves_46 : decode cX9_serves 46 = .ok (.ifCond .eq 29, 3) := by decide +kernel
theorem dX9_serves_49 : decode cX9_serves 49 = .ok (.aload_n 0, 1) := by decide +kernel
theorem dX9_serves_50 : decode cX9_serves 50 = .ok (.getfield 38, 3) := by decide +kernel
theorem dX9_serves_53 : decode cX9_serves 53 = .ok (.iload 5, 2) := by decide +kernel
theorem dX9_serves_55 : decode cX9_serves 55 = .ok (.iaload, 1) := by decide +kernel
theorem dX9_serves_56 : decode cX9_serves 56 = .ok (.iload_n 1, 1) := by decide +kernel
theorem dX9_serves_57 : decode cX9_serves 57 = .ok (.if_icmp .ne 18, 3) := by decide +kernel
theorem dX9_serves_60 : decode cX9_serves 60 = .ok (.aload_n 0, 1) := by decide +kernel
theorem dX9_serves_61 : decode cX9_serves 61 = .ok (.getfield 41, 3) := by decide +kernel
theorem dX9_serves_64 : decode cX9_serves 64 = .ok (.iload 5, 2) := by decide +kernel
theorem dX9_serves_66 : decode cX9_serves 66 = .ok (.iaload, 1) := by decide +kernel
theorem dX9_serves_67 : decode cX9_serves 67 = .ok (.iload_n 3, 1) := by decide +kernel
theorem dX9_serves_68 : decode cX9_serves 68 = .ok (.if_icmp .le 7, 3) := by decide +kernel
theorem dX9_serves_71 : decode cX9_serves 71 = .ok (.iconst 1, 1) := by decide +kernel
theorem dX9_serves_72 : decode cX9_serves 72 = .ok (.goto 4, 3) := by decide +kernel
theorem dX9_serves_75 : decode cX9_serves 75 = .ok (.iconst 0, 1) := by decide +kernel
theorem dX9_serves_76 : decode cX9_serves 76 = .ok (.istore 6, 2) := by decide +kernel
theorem dX9_serves_78 : decode cX9_serves 78 = .ok (.iload 6, 2) := by decide +kernel
theorem dX9_serves_80 : decode cX9_serves 80 = .ok (.ifCond .eq 31, 3) := by decide +kernel
theorem dX9_serves_83 : decode cX9_serves 83 = .ok (.iload 4, 2) := by decide +kernel
theorem dX9_serves_85 : decode cX9_serves 85 = .ok (.iconst (-1), 1) := by decide +kernel
theorem dX9_serves_86 : decode cX9_serves 86 = .ok (.if_icmp .eq 20, 3) := by decide +kernel
theorem dX9_serves_89 : decode cX9_serves 89 = .ok (.aload_n 0, 1) := by decide +kernel
theorem dX9_serves_90 : decode cX9_serves 90 = .ok (.getfield 41, 3) := by decide +kernel
theorem dX9_serves_93 : decode cX9_serves 93 = .ok (.iload 5, 2) := by decide +kernel
theorem dX9_serves_95 : decode cX9_serves 95 = .ok (.iaload, 1) := by decide +kernel
theorem dX9_serves_96 : decode cX9_serves 96 = .ok (.aload_n 0, 1) := by decide +kernel
theorem dX9_serves_97 : decode cX9_serves 97 = .ok (.getfield 41, 3) := by decide +kernel
theorem dX9_serves_100 : decode cX9_serves 100 = .ok (.iload 4, 2) := by decide +kernel
theorem dX9_serves_102 : decode cX9_serves 102 = .ok (.iaload, 1) := by decide +kernel
theorem dX9_serves_103 : decode cX9_serves 103 = .ok (.if_icmp .ge 8, 3) := by decide +kernel
theorem dX9_serves_106 : decode cX9_serves 106 = .ok (.iload 5, 2) := by decide +kernel
theorem dX9_serves_108 : decode cX9_serves 108 = .ok (.goto 5, 3) := by decide +kernel
theorem dX9_serves_111 : decode cX9_serves 111 = .ok (.iload 4, 2) := by decide +kernel
theorem dX9_serves_113 : decode cX9_serves 113 = .ok (.istore 4, 2) := by decide +kernel
theorem dX9_serves_115 : decode cX9_serves 115 = .ok (.iinc 5 1, 3) := by decide +kernel
theorem dX9_serves_118 : decode cX9_serves 118 = .ok (.goto (-91), 3) := by decide +kernel
theorem dX9_serves_121 : decode cX9_serves 121 = .ok (.iload 4, 2) := by decide +kernel
theorem dX9_serves_123 : decode cX9_serves 123 = .ok (.iconst (-1), 1) := by decide +kernel
theorem dX9_serves_124 : decode cX9_serves 124 = .ok (.if_icmp .ne 7, 3) := by decide +kernel
theorem dX9_serves_127 : decode cX9_serves 127 = .ok (.iload_n 3, 1) := by decide +kernel
theorem dX9_serves_128 : decode cX9_serves 128 = .ok (.goto 10, 3) := by decide +kernel
theorem dX9_serves_131 : decode cX9_serves 131 = .ok (.aload_n 0, 1) := by decide +kernel
theorem dX9_serves_132 : decode cX9_serves 132 = .ok (.getfield 41, 3) := by decide +kernel
theorem dX9_serves_135 : decode cX9_serves 135 = .ok (.iload 4, 2) := by decide +kernel
theorem dX9_serves_137 : decode cX9_serves 137 = .ok (.iaload, 1) := by decide +kernel
theorem dX9_serves_138 : decode cX9_serves 138 = .ok (.istore_n 3, 1) := by decide +kernel
theorem dX9_serves_139 : decode cX9_serves 139 = .ok (.iload 4, 2) := by decide +kernel
theorem dX9_serves_141 : decode cX9_serves 141 = .ok (.iconst (-1), 1) := by decide +kernel
theorem dX9_serves_142 : decode cX9_serves 142 = .ok (.if_icmp .eq 27, 3) := by decide +kernel
theorem dX9_serves_145 : decode cX9_serves 145 = .ok (.aload_n 0, 1) := by decide +kernel
theorem dX9_serves_146 : decode cX9_serves 146 = .ok (.getfield 35, 3) := by decide +kernel
theorem dX9_serves_149 : decode cX9_serves 149 = .ok (.iload 4, 2) := by decide +kernel
theorem dX9_serves_151 : decode cX9_serves 151 = .ok (.iaload, 1) := by decide +kernel
theorem dX9_serves_152 : decode cX9_serves 152 = .ok (.ifCond .le 17, 3) := by decide +kernel
theorem dX9_serves_155 : decode cX9_serves 155 = .ok (.aload_n 0, 1) := by decide +kernel
theorem dX9_serves_156 : decode cX9_serves 156 = .ok (.iload_n 1, 1) := by decide +kernel
theorem dX9_serves_157 : decode cX9_serves 157 = .ok (.iload 4, 2) := by decide +kernel
theorem dX9_serves_159 : decode cX9_serves 159 = .ok (.invokevirtual 183, 3) := by decide +kernel
theorem dX9_serves_162 : decode cX9_serves 162 = .ok (.ifCond .eq 7, 3) := by decide +kernel
theorem dX9_serves_165 : decode cX9_serves 165 = .ok (.iconst 1, 1) := by decide +kernel
theorem dX9_serves_166 : decode cX9_serves 166 = .ok (.goto 4, 3) := by decide +kernel
theorem dX9_serves_169 : decode cX9_serves 169 = .ok (.iconst 0, 1) := by decide +kernel
theorem dX9_serves_170 : decode cX9_serves 170 = .ok (.istore_n 2, 1) := by decide +kernel
theorem dX9_serves_171 : decode cX9_serves 171 = .ok (.goto (-160), 3) := by decide +kernel
theorem dX9_serves_174 : decode cX9_serves 174 = .ok (.return_, 1) := by decide +kernel
theorem dX9_goalOf_0 : decode cX9_goalOf 0 = .ok (.aload_n 0, 1) := by decide +kernel
theorem dX9_goalOf_1 : decode cX9_goalOf 1 = .ok (.getfield 50, 3) := by decide +kernel
theorem dX9_goalOf_4 : decode cX9_goalOf 4 = .ok (.iload_n 1, 1) := by decide +kernel
theorem dX9_goalOf_5 : decode cX9_goalOf 5 = .ok (.iaload, 1) := by decide +kernel
theorem dX9_goalOf_6 : decode cX9_goalOf 6 = .ok (.istore_n 2, 1) := by decide +kernel
theorem dX9_goalOf_7 : decode cX9_goalOf 7 = .ok (.iload_n 2, 1) := by decide +kernel
theorem dX9_goalOf_8 : decode cX9_goalOf 8 = .ok (.iconst 2, 1) := by decide +kernel
theorem dX9_goalOf_9 : decode cX9_goalOf 9 = .ok (.if_icmp .ne 22, 3) := by decide +kernel
theorem dX9_goalOf_12 : decode cX9_goalOf 12 = .ok (.aload_n 0, 1) := by decide +kernel
theorem dX9_goalOf_13 : decode cX9_goalOf 13 = .ok (.getfield 16, 3) := by decide +kernel
theorem dX9_goalOf_16 : decode cX9_goalOf 16 = .ok (.aload_n 0, 1) := by decide +kernel
theorem dX9_goalOf_17 : decode cX9_goalOf 17 = .ok (.getfield 38, 3) := by decide +kernel
theorem dX9_goalOf_20 : decode cX9_goalOf 20 = .ok (.aload_n 0, 1) := by decide +kernel
theorem dX9_goalOf_21 : decode cX9_goalOf 21 = .ok (.getfield 56, 3) := by decide +kernel
theorem dX9_goalOf_24 : decode cX9_goalOf 24 = .ok (.iload_n 1, 1) := by decide +kernel
theorem dX9_goalOf_25 : decode cX9_goalOf 25 = .ok (.iaload, 1) := by decide +kernel
theorem dX9_goalOf_26 : decode cX9_goalOf 26 = .ok (.iaload, 1) := by decide +kernel
theorem dX9_goalOf_27 : decode cX9_goalOf 27 = .ok (.iaload, 1) := by decide +kernel
theorem dX9_goalOf_28 : decode cX9_goalOf 28 = .ok (.goto 28, 3) := by decide +kernel
theorem dX9_goalOf_31 : decode cX9_goalOf 31 = .ok (.iload_n 2, 1) := by decide +kernel
theorem dX9_goalOf_32 : decode cX9_goalOf 32 = .ok (.iconst 1, 1) := by decide +kernel
theorem dX9_goalOf_33 : decode cX9_goalOf 33 = .ok (.if_icmp .eq 8, 3) := by decide +kernel
theorem dX9_goalOf_36 : decode cX9_goalOf 36 = .ok (.iload_n 2, 1) := by decide +kernel
theorem dX9_goalOf_37 : decode cX9_goalOf 37 = .ok (.iconst 4, 1) := by decide +kernel
theorem dX9_goalOf_38 : decode cX9_goalOf 38 = .ok (.if_icmp .ne 17, 3) := by decide +kernel
theorem dX9_goalOf_41 : decode cX9_goalOf 41 = .ok (.aload_n 0, 1) := by decide +kernel
theorem dX9_goalOf_42 : decode cX9_goalOf 42 = .ok (.getfield 20, 3) := by decide +kernel
theorem dX9_goalOf_45 : decode cX9_goalOf 45 = .ok (.aload_n 0, 1) := by decide +kernel
theorem dX9_goalOf_46 : decode cX9_goalOf 46 = .ok (.getfield 53, 3) := by decide +kernel
theorem dX9_goalOf_49 : decode cX9_goalOf 49 = .ok (.iload_n 1, 1) := by decide +kernel
theorem dX9_goalOf_50 : decode cX9_goalOf 50 = .ok (.iaload, 1) := by decide +kernel
theorem dX9_goalOf_51 : decode cX9_goalOf 51 = .ok (.iaload, 1) := by decide +kernel
theorem dX9_goalOf_52 : decode cX9_goalOf 52 = .ok (.goto 4, 3) := by decide +kernel
theorem dX9_goalOf_55 : decode cX9_goalOf 55 = .ok (.iconst (-1), 1) := by decide +kernel
theorem dX9_goalOf_56 : decode cX9_goalOf 56 = .ok (.ireturn, 1) := by decide +kernel
theorem dX9_asksFor_0 : decode cX9_asksFor 0 = .ok (.aload_n 0, 1) := by decide +kernel
theorem dX9_asksFor_1 : decode cX9_asksFor 1 = .ok (.iload_n 1, 1) := by decide +kernel
theorem dX9_asksFor_2 : decode cX9_asksFor 2 = .ok (.invokevirtual 186, 3) := by decide +kernel
theorem dX9_asksFor_5 : decode cX9_asksFor 5 = .ok (.istore_n 2, 1) := by decide +kernel
theorem dX9_asksFor_6 : decode cX9_asksFor 6 = .ok (.aload_n 0, 1) := by decide +kernel
theorem dX9_asksFor_7 : decode cX9_asksFor 7 = .ok (.getfield 62, 3) := by decide +kernel
theorem dX9_asksFor_10 : decode cX9_asksFor 10 = .ok (.iload_n 1, 1) := by decide +kernel
theorem dX9_asksFor_11 : decode cX9_asksFor 11 = .ok (.iaload, 1) := by decide +kernel
theorem dX9_asksFor_12 : decode cX9_asksFor 12 = .ok (.istore_n 3, 1) := by decide +kernel
theorem dX9_asksFor_13 : decode cX9_asksFor 13 = .ok (.aload_n 0, 1) := by decide +kernel
theorem dX9_asksFor_14 : decode cX9_asksFor 14 = .ok (.getfield 62, 3) := by decide +kernel
theorem dX9_asksFor_17 : decode cX9_asksFor 17 = .ok (.iload_n 1, 1) := by decide +kernel
theorem dX9_asksFor_18 : decode cX9_asksFor 18 = .ok (.iconst (-1), 1) := by decide +kernel
theorem dX9_asksFor_19 : decode cX9_asksFor 19 = .ok (.iastore, 1) := by decide +kernel
theorem dX9_asksFor_20 : decode cX9_asksFor 20 = .ok (.iload_n 2, 1) := by decide +kernel
theorem dX9_asksFor_21 : decode cX9_asksFor 21 = .ok (.iconst (-1), 1) := by decide +kernel
theorem dX9_asksFor_22 : decode cX9_asksFor 22 = .ok (.if_icmp .eq 128, 3) := by decide +kernel
theorem dX9_asksFor_25 : decode cX9_asksFor 25 = .ok (.iload_n 2, 1) := by decide +kernel
theorem dX9_asksFor_26 : decode cX9_asksFor 26 = .ok (.aload_n 0, 1) := by decide +kernel
theorem dX9_asksFor_27 : decode cX9_asksFor 27 = .ok (.getfield 44, 3) := by decide +kernel
theorem dX9_asksFor_30 : decode cX9_asksFor 30 = .ok (.iload_n 1, 1) := by decide +kernel
theorem dX9_asksFor_31 : decode cX9_asksFor 31 = .ok (.iaload, 1) := by decide +kernel
theorem dX9_asksFor_32 : decode cX9_asksFor 32 = .ok (.if_icmp .eq 118, 3) := by decide +kernel
theorem dX9_asksFor_35 : decode cX9_asksFor 35 = .ok (.aload_n 0, 1) := by decide +kernel
theorem dX9_asksFor_36 : decode cX9_asksFor 36 = .ok (.iload_n 2, 1) := by decide +kernel
theorem dX9_asksFor_37 : decode cX9_asksFor 37 = .ok (.aload_n 0, 1) := by decide +kernel
theorem dX9_asksFor_38 : decode cX9_asksFor 38 = .ok (.getfield 59, 3) := by decide +kernel
theorem dX9_asksFor_41 : decode cX9_asksFor 41 = .ok (.iload_n 1, 1) := by decide +kernel
theorem dX9_asksFor_42 : decode cX9_asksFor 42 = .ok (.iaload, 1) := by decide +kernel
theorem dX9_asksFor_43 : decode cX9_asksFor 43 = .ok (.invokevirtual 124, 3) := by decide +kernel
theorem dX9_asksFor_46 : decode cX9_asksFor 46 = .ok (.aload_n 0, 1) := by decide +kernel
theorem dX9_asksFor_47 : decode cX9_asksFor 47 = .ok (.getfield 62, 3) := by decide +kernel
theorem dX9_asksFor_50 : decode cX9_asksFor 50 = .ok (.iload_n 1, 1) := by decide +kernel
theorem dX9_asksFor_51 : decode cX9_asksFor 51 = .ok (.aload_n 0, 1) := by decide +kernel
theorem dX9_asksFor_52 : decode cX9_asksFor 52 = .ok (.aload_n 0, 1) := by decide +kernel
theorem dX9_asksFor_53 : decode cX9_asksFor 53 = .ok (.getfield 44, 3) := by decide +kernel
theorem dX9_asksFor_56 : decode cX9_asksFor 56 = .ok (.iload_n 1, 1) := by decide +kernel
theorem dX9_asksFor_57 : decode cX9_asksFor 57 = .ok (.iaload, 1) := by decide +kernel
theorem dX9_asksFor_58 : decode cX9_asksFor 58 = .ok (.invokevirtual 128, 3) := by decide +kernel
theorem dX9_asksFor_61 : decode cX9_asksFor 61 = .ok (.iastore, 1) := by decide +kernel
theorem dX9_asksFor_62 : decode cX9_asksFor 62 = .ok (.aload_n 0, 1) := by decide +kernel
theorem dX9_asksFor_63 : decode cX9_asksFor 63 = .ok (.getfield 62, 3) := by decide +kernel
theorem dX9_asksFor_66 : decode cX9_asksFor 66 = .ok (.iload_n 1, 1) := by decide +kernel
theorem dX9_asksFor_67 : decode cX9_asksFor 67 = .ok (.iaload, 1) := by decide +kernel
theorem dX9_asksFor_68 : decode cX9_asksFor 68 = .ok (.iconst (-1), 1) := by decide +kernel
theorem dX9_asksFor_69 : decode cX9_asksFor 69 = .ok (.if_icmp .ne 42, 3) := by decide +kernel
theorem dX9_asksFor_72 : decode cX9_asksFor 72 = .ok (.aload_n 0, 1) := by decide +kernel
theorem dX9_asksFor_73 : decode cX9_asksFor 73 = .ok (.getfield 59, 3) := by decide +kernel
theorem dX9_asksFor_76 : decode cX9_asksFor 76 = .ok (.iload_n 1, 1) := by decide +kernel
theorem dX9_asksFor_77 : decode cX9_asksFor 77 = .ok (.iaload, 1) := by decide +kernel
theorem dX9_asksFor_78 : decode cX9_asksFor 78 = .ok (.iconst (-1), 1) := by decide +kernel
theorem dX9_asksFor_79 : decode cX9_asksFor 79 = .ok (.if_icmp .eq 32, 3) := by decide +kernel
theorem dX9_asksFor_82 : decode cX9_asksFor 82 = .ok (.aload_n 0, 1) := by decide +kernel
theorem dX9_asksFor_83 : decode cX9_asksFor 83 = .ok (.getfield 59, 3) := by decide +kernel
theorem dX9_asksFor_86 : decode cX9_asksFor 86 = .ok (.iload_n 1, 1) := by decide +kernel
theorem dX9_asksFor_87 : decode cX9_asksFor 87 = .ok (.iconst (-1), 1) := by decide +kernel
theorem dX9_asksFor_88 : decode cX9_asksFor 88 = .ok (.iastore, 1) := by decide +kernel
theorem dX9_asksFor_89 : decode cX9_asksFor 89 = .ok (.aload_n 0, 1) := by decide +kernel
theorem dX9_asksFor_90 : decode cX9_asksFor 90 = .ok (.iload_n 2, 1) := by decide +kernel
theorem dX9_asksFor_91 : decode cX9_asksFor 91 = .ok (.iconst (-1), 1) := by decide +kernel
theorem dX9_asksFor_92 : decode cX9_asksFor 92 = .ok (.invokevirtual 124, 3) := by decide +kernel
theorem dX9_asksFor_95 : decode cX9_asksFor 95 = .ok (.aload_n 0, 1) := by decide +kernel
theorem dX9_asksFor_96 : decode cX9_asksFor 96 = .ok (.getfield 62, 3) := by decide +kernel
theorem dX9_asksFor_99 : decode cX9_asksFor 99 = .ok (.iload_n 1, 1) := by decide +kernel
theorem dX9_asksFor_100 : decode cX9_asksFor 100 = .ok (.aload_n 0, 1) := by decide +kernel
theorem dX9_asksFor_101 : decode cX9_asksFor 101 = .ok (.aload_n 0, 1) := by decide +kernel
theorem dX9_asksFor_102 : decode cX9_asksFor 102 = .ok (.getfield 44, 3) := by decide +kernel
theorem dX9_asksFor_105 : decode cX9_asksFor 105 = .ok (.iload_n 1, 1) := by decide +kernel
theorem dX9_asksFor_106 : decode cX9_asksFor 106 = .ok (.iaload, 1) := by decide +kernel
theorem dX9_asksFor_107 : decode cX9_asksFor 107 = .ok (.invokevirtual 128, 3) := by decide +kernel
theorem dX9_asksFor_110 : decode cX9_asksFor 110 = .ok (.iastore, 1) := by decide +kernel
theorem dX9_asksFor_111 : decode cX9_asksFor 111 = .ok (.aload_n 0, 1) := by decide +kernel
theorem dX9_asksFor_112 : decode cX9_asksFor 112 = .ok (.getfield 65, 3) := by decide +kernel
theorem dX9_asksFor_115 : decode cX9_asksFor 115 = .ok (.iload_n 1, 1) := by decide +kernel
theorem dX9_asksFor_116 : decode cX9_asksFor 116 = .ok (.aload_n 0, 1) := by decide +kernel
theorem dX9_asksFor_117 : decode cX9_asksFor 117 = .ok (.getfield 62, 3) := by decide +kernel
theorem dX9_asksFor_120 : decode cX9_asksFor 120 = .ok (.iload_n 1, 1) := by decide +kernel
theorem dX9_asksFor_121 : decode cX9_asksFor 121 = .ok (.iaload, 1) := by decide +kernel
theorem dX9_asksFor_122 : decode cX9_asksFor 122 = .ok (.iconst (-1), 1) := by decide +kernel
theorem dX9_asksFor_123 : decode cX9_asksFor 123 = .ok (.if_icmp .eq 22, 3) := by decide +kernel
theorem dX9_asksFor_126 : decode cX9_asksFor 126 = .ok (.aload_n 0, 1) := by decide +kernel
theorem dX9_asksFor_127 : decode cX9_asksFor 127 = .ok (.getfield 62, 3) := by decide +kernel
theorem dX9_asksFor_130 : decode cX9_asksFor 130 = .ok (.iload_n 1, 1) := by decide +kernel
theorem dX9_asksFor_131 : decode cX9_asksFor 131 = .ok (.iaload, 1) := by decide +kernel
theorem dX9_asksFor_132 : decode cX9_asksFor 132 = .ok (.iload_n 3, 1) := by decide +kernel
theorem dX9_asksFor_133 : decode cX9_asksFor 133 = .ok (.if_icmp .ne 12, 3) := by decide +kernel
theorem dX9_asksFor_136 : decode cX9_asksFor 136 = .ok (.aload_n 0, 1) := by decide +kernel
theorem dX9_asksFor_137 : decode cX9_asksFor 137 = .ok (.getfield 65, 3) := by decide +kernel
theorem dX9_asksFor_140 : decode cX9_asksFor 140 = .ok (.iload_n 1, 1) := by decide +kernel
theorem dX9_asksFor_141 : decode cX9_asksFor 141 = .ok (.iaload, 1) := by decide +kernel
theorem dX9_asksFor_142 : decode cX9_asksFor 142 = .ok (.goto 7, 3) := by decide +kernel
theorem dX9_asksFor_145 : decode cX9_asksFor 145 = .ok (.aload_n 0, 1) := by decide +kernel
theorem dX9_asksFor_146 : decode cX9_asksFor 146 = .ok (.getfield 171, 3) := by decide +kernel
theorem dX9_asksFor_149 : decode cX9_asksFor 149 = .ok (.iastore, 1) := by decide +kernel
theorem dX9_asksFor_150 : decode cX9_asksFor 150 = .ok (.return_, 1) := by decide +kernel
theorem dX9_moves_0 : decode cX9_moves 0 = .ok (.aload_n 0, 1) := by decide +kernel
theorem dX9_moves_1 : decode cX9_moves 1 = .ok (.getfield 44, 3) := by decide +kernel
theorem dX9_moves_4 : decode cX9_moves 4 = .ok (.iload_n 1, 1) := by decide +kernel
theorem dX9_moves_5 : decode cX9_moves 5 = .ok (.iload_n 2, 1) := by decide +kernel
theorem dX9_moves_6 : decode cX9_moves 6 = .ok (.iastore, 1) := by decide +kernel
theorem dX9_moves_7 : decode cX9_moves 7 = .ok (.aload_n 0, 1) := by decide +kernel
theorem dX9_moves_8 : decode cX9_moves 8 = .ok (.getfield 62, 3) := by decide +kernel
theorem dX9_moves_11 : decode cX9_moves 11 = .ok (.iload_n 1, 1) := by decide +kernel
theorem dX9_moves_12 : decode cX9_moves 12 = .ok (.iconst (-1), 1) := by decide +kernel
theorem dX9_moves_13 : decode cX9_moves 13 = .ok (.iastore, 1) := by decide +kernel
theorem dX9_moves_14 : decode cX9_moves 14 = .ok (.aload_n 0, 1) := by decide +kernel
theorem dX9_moves_15 : decode cX9_moves 15 = .ok (.getfield 59, 3) := by decide +kernel
theorem dX9_moves_18 : decode cX9_moves 18 = .ok (.iload_n 1, 1) := by decide +kernel
theorem dX9_moves_19 : decode cX9_moves 19 = .ok (.iconst (-1), 1) := by decide +kernel
theorem dX9_moves_20 : decode cX9_moves 20 = .ok (.iastore, 1) := by decide +kernel
theorem dX9_moves_21 : decode cX9_moves 21 = .ok (.aload_n 0, 1) := by decide +kernel
theorem dX9_moves_22 : decode cX9_moves 22 = .ok (.dup, 1) := by decide +kernel
theorem dX9_moves_23 : decode cX9_moves 23 = .ok (.getfield 189, 3) := by decide +kernel
theorem dX9_moves_26 : decode cX9_moves 26 = .ok (.iconst 1, 1) := by decide +kernel
theorem dX9_moves_27 : decode cX9_moves 27 = .ok (.iadd, 1) := by decide +kernel
theorem dX9_moves_28 : decode cX9_moves 28 = .ok (.putfield 189, 3) := by decide +kernel
theorem dX9_moves_31 : decode cX9_moves 31 = .ok (.return_, 1) := by decide +kernel
theorem dX9_nextOf_0 : decode cX9_nextOf 0 = .ok (.aload_n 0, 1) := by decide +kernel
theorem dX9_nextOf_1 : decode cX9_nextOf 1 = .ok (.getfield 62, 3) := by decide +kernel
theorem dX9_nextOf_4 : decode cX9_nextOf 4 = .ok (.iload_n 1, 1) := by decide +kernel
theorem dX9_nextOf_5 : decode cX9_nextOf 5 = .ok (.iaload, 1) := by decide +kernel
theorem dX9_nextOf_6 : decode cX9_nextOf 6 = .ok (.iconst (-1), 1) := by decide +kernel
theorem dX9_nextOf_7 : decode cX9_nextOf 7 = .ok (.if_icmp .ne 7, 3) := by decide +kernel
theorem dX9_nextOf_10 : decode cX9_nextOf 10 = .ok (.iconst (-1), 1) := by decide +kernel
theorem dX9_nextOf_11 : decode cX9_nextOf 11 = .ok (.goto 13, 3) := by decide +kernel
theorem dX9_nextOf_14 : decode cX9_nextOf 14 = .ok (.aload_n 0, 1) := by decide +kernel
theorem dX9_nextOf_15 : decode cX9_nextOf 15 = .ok (.aload_n 0, 1) := by decide +kernel
theorem dX9_nextOf_16 : decode cX9_nextOf 16 = .ok (.getfield 62, 3) := by decide +kernel
theorem dX9_nextOf_19 : decode cX9_nextOf 19 = .ok (.iload_n 1, 1) := by decide +kernel
theorem dX9_nextOf_20 : decode cX9_nextOf 20 = .ok (.iaload, 1) := by decide +kernel
theorem dX9_nextOf_21 : decode cX9_nextOf 21 = .ok (.invokevirtual 112, 3) := by decide +kernel
theorem dX9_nextOf_24 : decode cX9_nextOf 24 = .ok (.ireturn, 1) := by decide +kernel
theorem dX9_ringOf_0 : decode cX9_ringOf 0 = .ok (.iconst 1, 1) := by decide +kernel
theorem dX9_ringOf_1 : decode cX9_ringOf 1 = .ok (.istore_n 2, 1) := by decide +kernel
theorem dX9_ringOf_2 : decode cX9_ringOf 2 = .ok (.aload_n 0, 1) := by decide +kernel
theorem dX9_ringOf_3 : decode cX9_ringOf 3 = .ok (.iload_n 1, 1) := by decide +kernel
theorem dX9_ringOf_4 : decode cX9_ringOf 4 = .ok (.invokevirtual 192, 3) := by decide +kernel
theorem dX9_ringOf_7 : decode cX9_ringOf 7 = .ok (.istore_n 3, 1) := by decide +kernel
theorem dX9_ringOf_8 : decode cX9_ringOf 8 = .ok (.iload_n 3, 1) := by decide +kernel
theorem dX9_ringOf_9 : decode cX9_ringOf 9 = .ok (.iload_n 1, 1) := by decide +kernel
theorem dX9_ringOf_10 : decode cX9_ringOf 10 = .ok (.if_icmp .le 21, 3) := by decide +kernel
theorem dX9_ringOf_13 : decode cX9_ringOf 13 = .ok (.iload_n 2, 1) := by decide +kernel
theorem dX9_ringOf_14 : decode cX9_ringOf 14 = .ok (.bipush 6, 2) := by decide +kernel
theorem dX9_ringOf_16 : decode cX9_ringOf 16 = .ok (.if_icmp .ge 15, 3) := by decide +kernel
theorem dX9_ringOf_19 : decode cX9_ringOf 19 = .ok (.aload_n 0, 1) := by decide +kernel
theorem dX9_ringOf_20 : decode cX9_ringOf 20 = .ok (.iload_n 3, 1) := by decide +kernel
theorem dX9_ringOf_21 : decode cX9_ringOf 21 = .ok (.invokevirtual 192, 3) := by decide +kernel
theorem dX9_ringOf_24 : decode cX9_ringOf 24 = .ok (.istore_n 3, 1) := by decide +kernel
theorem dX9_ringOf_25 : decode cX9_ringOf 25 = .ok (.iinc 2 1, 3) := by decide +kernel
theorem dX9_ringOf_28 : decode cX9_ringOf 28 = .ok (.goto (-20), 3) := by decide +kernel
theorem dX9_ringOf_31 : decode cX9_ringOf 31 = .ok (.iload_n 3, 1) := by decide +kernel
theorem dX9_ringOf_32 : decode cX9_ringOf 32 = .ok (.iload_n 1, 1) := by decide +kernel
theorem dX9_ringOf_33 : decode cX9_ringOf 33 = .ok (.if_icmp .ne 7, 3) := by decide +kernel
theorem dX9_ringOf_36 : decode cX9_ringOf 36 = .ok (.iload_n 2, 1) := by decide +kernel
theorem dX9_ringOf_37 : decode cX9_ringOf 37 = .ok (.goto 4, 3) := by decide +kernel
theorem dX9_ringOf_40 : decode cX9_ringOf 40 = .ok (.iconst 0, 1) := by decide +kernel
theorem dX9_ringOf_41 : decode cX9_ringOf 41 = .ok (.ireturn, 1) := by decide +kernel
theorem dX9_isAbove_0 : decode cX9_isAbove 0 = .ok (.aload_n 0, 1) := by decide +kernel
theorem dX9_isAbove_1 : decode cX9_isAbove 1 = .ok (.getfield 47, 3) := by decide +kernel
theorem dX9_isAbove_4 : decode cX9_isAbove 4 = .ok (.iload_n 1, 1) := by decide +kernel
theorem dX9_isAbove_5 : decode cX9_isAbove 5 = .ok (.iaload, 1) := by decide +kernel
theorem dX9_isAbove_6 : decode cX9_isAbove 6 = .ok (.aload_n 0, 1) := by decide +kernel
theorem dX9_isAbove_7 : decode cX9_isAbove 7 = .ok (.getfield 47, 3) := by decide +kernel
theorem dX9_isAbove_10 : decode cX9_isAbove 10 = .ok (.iload_n 2, 1) := by decide +kernel
theorem dX9_isAbove_11 : decode cX9_isAbove 11 = .ok (.iaload, 1) := by decide +kernel
theorem dX9_isAbove_12 : decode cX9_isAbove 12 = .ok (.if_icmp .gt 23, 3) := by decide +kernel
theorem dX9_isAbove_15 : decode cX9_isAbove 15 = .ok (.aload_n 0, 1) := by decide +kernel
theorem dX9_isAbove_16 : decode cX9_isAbove 16 = .ok (.getfield 47, 3) := by decide +kernel
theorem dX9_isAbove_19 : decode cX9_isAbove 19 = .ok (.iload_n 1, 1) := by decide +kernel
theorem dX9_isAbove_20 : decode cX9_isAbove 20 = .ok (.iaload, 1) := by decide +kernel
theorem dX9_isAbove_21 : decode cX9_isAbove 21 = .ok (.aload_n 0, 1) := by decide +kernel
theorem dX9_isAbove_22 : decode cX9_isAbove 22 = .ok (.getfield 47, 3) := by decide +kernel
theorem dX9_isAbove_25 : decode cX9_isAbove 25 = .ok (.iload_n 2, 1) := by decide +kernel
theorem dX9_isAbove_26 : decode cX9_isAbove 26 = .ok (.iaload, 1) := by decide +kernel
theorem dX9_isAbove_27 : decode cX9_isAbove 27 = .ok (.if_icmp .ne 12, 3) := by decide +kernel
theorem dX9_isAbove_30 : decode cX9_isAbove 30 = .ok (.iload_n 1, 1) := by decide +kernel
theorem dX9_isAbove_31 : decode cX9_isAbove 31 = .ok (.iload_n 2, 1) := by decide +kernel
theorem dX9_isAbove_32 : decode cX9_isAbove 32 = .ok (.if_icmp .ge 7, 3) := by decide +kernel
theorem dX9_isAbove_35 : decode cX9_isAbove 35 = .ok (.iconst 1, 1) := by decide +kernel
theorem dX9_isAbove_36 : decode cX9_isAbove 36 = .ok (.goto 4, 3) := by decide +kernel
theorem dX9_isAbove_39 : decode cX9_isAbove 39 = .ok (.iconst 0, 1) := by decide +kernel
theorem dX9_isAbove_40 : decode cX9_isAbove 40 = .ok (.ireturn, 1) := by decide +kernel
theorem dX9_yieldsTo_0 : decode cX9_yieldsTo 0 = .ok (.aload_n 0, 1) := by decide +kernel
theorem dX9_yieldsTo_1 : decode cX9_yieldsTo 1 = .ok (.aload_n 0, 1) := by decide +kernel
theorem dX9_yieldsTo_2 : decode cX9_yieldsTo 2 = .ok (.iload_n 1, 1) := by decide +kernel
theorem dX9_yieldsTo_3 : decode cX9_yieldsTo 3 = .ok (.invokevirtual 186, 3) := by decide +kernel
theorem dX9_yieldsTo_6 : decode cX9_yieldsTo 6 = .ok (.aload_n 0, 1) := by decide +kernel
theorem dX9_yieldsTo_7 : decode cX9_yieldsTo 7 = .ok (.getfield 44, 3) := by decide +kernel
theorem dX9_yieldsTo_10 : decode cX9_yieldsTo 10 = .ok (.iload_n 2, 1) := by decide +kernel
theorem dX9_yieldsTo_11 : decode cX9_yieldsTo 11 = .ok (.iaload, 1) := by decide +kernel
theorem dX9_yieldsTo_12 : decode cX9_yieldsTo 12 = .ok (.invokevirtual 124, 3) := by decide +kernel
theorem dX9_yieldsTo_15 : decode cX9_yieldsTo 15 = .ok (.aload_n 0, 1) := by decide +kernel
theorem dX9_yieldsTo_16 : decode cX9_yieldsTo 16 = .ok (.aload_n 0, 1) := by decide +kernel
theorem dX9_yieldsTo_17 : decode cX9_yieldsTo 17 = .ok (.getfield 44, 3) := by decide +kernel
theorem dX9_yieldsTo_20 : decode cX9_yieldsTo 20 = .ok (.iload_n 1, 1) := by decide +kernel
theorem dX9_yieldsTo_21 : decode cX9_yieldsTo 21 = .ok (.iaload, 1) := by decide +kernel
theorem dX9_yieldsTo_22 : decode cX9_yieldsTo 22 = .ok (.invokevirtual 128, 3) := by decide +kernel
theorem dX9_yieldsTo_25 : decode cX9_yieldsTo 25 = .ok (.iconst (-1), 1) := by decide +kernel
theorem dX9_yieldsTo_26 : decode cX9_yieldsTo 26 = .ok (.if_icmp .eq 7, 3) := by decide +kernel
theorem dX9_yieldsTo_29 : decode cX9_yieldsTo 29 = .ok (.iconst 1, 1) := by decide +kernel
theorem dX9_yieldsTo_30 : decode cX9_yieldsTo 30 = .ok (.goto 4, 3) := by decide +kernel
theorem dX9_yieldsTo_33 : decode cX9_yieldsTo 33 = .ok (.iconst 0, 1) := by decide +kernel
theorem dX9_yieldsTo_34 : decode cX9_yieldsTo 34 = .ok (.istore_n 3, 1) := by decide +kernel
theorem dX9_yieldsTo_35 : decode cX9_yieldsTo 35 = .ok (.iload_n 3, 1) := by decide +kernel
theorem dX9_yieldsTo_36 : decode cX9_yieldsTo 36 = .ok (.ifCond .eq 32, 3) := by decide +kernel
theorem dX9_yieldsTo_39 : decode cX9_yieldsTo 39 = .ok (.aload_n 0, 1) := by decide +kernel
theorem dX9_yieldsTo_40 : decode cX9_yieldsTo 40 = .ok (.getfield 59, 3) := by decide +kernel
theorem dX9_yieldsTo_43 : decode cX9_yieldsTo 43 = .ok (.iload_n 1, 1) := by decide +kernel
theorem dX9_yieldsTo_44 : decode cX9_yieldsTo 44 = .ok (.aload_n 0, 1) := by decide +kernel
theorem dX9_yieldsTo_45 : decode cX9_yieldsTo 45 = .ok (.getfield 44, 3) := by decide +kernel
theorem dX9_yieldsTo_48 : decode cX9_yieldsTo 48 = .ok (.iload_n 2, 1) := by decide +kernel
theorem dX9_yieldsTo_49 : decode cX9_yieldsTo 49 = .ok (.iaload, 1) := by decide +kernel
theorem dX9_yieldsTo_50 : decode cX9_yieldsTo 50 = .ok (.iastore, 1) := by decide +kernel
theorem dX9_yieldsTo_51 : decode cX9_yieldsTo 51 = .ok (.aload_n 0, 1) := by decide +kernel
theorem dX9_yieldsTo_52 : decode cX9_yieldsTo 52 = .ok (.getfield 62, 3) := by decide +kernel
theorem dX9_yieldsTo_55 : decode cX9_yieldsTo 55 = .ok (.iload_n 1, 1) := by decide +kernel
theorem dX9_yieldsTo_56 : decode cX9_yieldsTo 56 = .ok (.iconst (-1), 1) := by decide +kernel
theorem dX9_yieldsTo_57 : decode cX9_yieldsTo 57 = .ok (.iastore, 1) := by decide +kernel
theorem dX9_yieldsTo_58 : decode cX9_yieldsTo 58 = .ok (.aload_n 0, 1) := by decide +kernel
theorem dX9_yieldsTo_59 : decode cX9_yieldsTo 59 = .ok (.dup, 1) := by decide +kernel
theorem dX9_yieldsTo_60 : decode cX9_yieldsTo 60 = .ok (.getfield 195, 3) := by decide +kernel
theorem dX9_yieldsTo_63 : decode cX9_yieldsTo 63 = .ok (.iconst 1, 1) := by decide +kernel
theorem dX9_yieldsTo_64 : decode cX9_yieldsTo 64 = .ok (.iadd, 1) := by decide +kernel
theorem dX9_yieldsTo_65 : decode cX9_yieldsTo 65 = .ok (.putfield 195, 3) := by decide +kernel
theorem dX9_yieldsTo_68 : decode cX9_yieldsTo 68 = .ok (.iload_n 3, 1) := by decide +kernel
theorem dX9_yieldsTo_69 : decode cX9_yieldsTo 69 = .ok (.ireturn, 1) := by decide +kernel
theorem dX9_turns_0 : decode cX9_turns 0 = .ok (.iload_n 1, 1) := by decide +kernel
theorem dX9_turns_1 : decode cX9_turns 1 = .ok (.istore_n 2, 1) := by decide +kernel
theorem dX9_turns_2 : decode cX9_turns 2 = .ok (.iconst 0, 1) := by decide +kernel
theorem dX9_turns_3 : decode cX9_turns 3 = .ok (.istore_n 3, 1) := by decide +kernel
theorem dX9_turns_4 : decode cX9_turns 4 = .ok (.iload_n 3, 1) := by decide +kernel
theorem dX9_turns_5 : decode cX9_turns 5 = .ok (.bipush 6, 2) := by decide +kernel
theorem dX9_turns_7 : decode cX9_turns 7 = .ok (.if_icmp .ge 16, 3) := by decide +kernel
theorem dX9_turns_10 : decode cX9_turns 10 = .ok (.aload_n 0, 1) := by decide +kernel
theorem dX9_turns_11 : decode cX9_turns 11 = .ok (.getfield 68, 3) := by decide +kernel
theorem dX9_turns_14 : decode cX9_turns 14 = .ok (.iload_n 3, 1) := by decide +kernel
theorem dX9_turns_15 : decode cX9_turns 15 = .ok (.iconst 0, 1) := by decide +kernel
theorem dX9_turns_16 : decode cX9_turns 16 = .ok (.bastore, 1) := by decide +kernel
theorem dX9_turns_17 : decode cX9_turns 17 = .ok (.iinc 3 1, 3) := by decide +kernel
theorem dX9_turns_20 : decode cX9_turns 20 = .ok (.goto (-16), 3) := by decide +kernel
theorem dX9_turns_23 : decode cX9_turns 23 = .ok (.aload_n 0, 1) := by decide +kernel
theorem dX9_turns_24 : decode cX9_turns 24 = .ok (.getfield 68, 3) := by decide +kernel
theorem dX9_turns_27 : decode cX9_turns 27 = .ok (.iload_n 2, 1) := by decide +kernel
theorem dX9_turns_28 : decode cX9_turns 28 = .ok (.iconst 1, 1) := by decide +kernel
theorem dX9_turns_29 : decode cX9_turns 29 = .ok (.bastore, 1) := by decide +kernel
theorem dX9_turns_30 : decode cX9_turns 30 = .ok (.aload_n 0, 1) := by decide +kernel
theorem dX9_turns_31 : decode cX9_turns 31 = .ok (.getfield 71, 3) := by decide +kernel
theorem dX9_turns_34 : decode cX9_turns 34 = .ok (.iload_n 2, 1) := by decide +kernel
theorem dX9_turns_35 : decode cX9_turns 35 = .ok (.aload_n 0, 1) := by decide +kernel
theorem dX9_turns_36 : decode cX9_turns 36 = .ok (.getfield 62, 3) := by decide +kernel
theorem dX9_turns_39 : decode cX9_turns 39 = .ok (.iload_n 2, 1) := by decide +kernel
theorem dX9_turns_40 : decode cX9_turns 40 = .ok (.iaload, 1) := by decide +kernel
theorem dX9_turns_41 : decode cX9_turns 41 = .ok (.iastore, 1) := by decide +kernel
theorem dX9_turns_42 : decode cX9_turns 42 = .ok (.aload_n 0, 1) := by decide +kernel
theorem dX9_turns_43 : decode cX9_turns 43 = .ok (.iload_n 2, 1) := by decide +kernel
theorem dX9_turns_44 : decode cX9_turns 44 = .ok (.invokevirtual 192, 3) := by decide +kernel
theorem dX9_turns_47 : decode cX9_turns 47 = .ok (.istore_n 2, 1) := by decide +kernel
theorem dX9_turns_48 : decode cX9_turns 48 = .ok (.iload_n 2, 1) := by decide +kernel
theorem dX9_turns_49 : decode cX9_turns 49 = .ok (.iload_n 1, 1) := by decide +kernel
theorem dX9_turns_50 : decode cX9_turns 50 = .ok (.if_icmp .ne (-27), 3) := by decide +kernel
theorem dX9_turns_53 : decode cX9_turns 53 = .ok (.iconst 0, 1) := by decide +kernel
theorem dX9_turns_54 : decode cX9_turns 54 = .ok (.istore_n 3, 1) := by decide +kernel
theorem dX9_turns_55 : decode cX9_turns 55 = .ok (.iload_n 3, 1) := by decide +kernel
theorem dX9_turns_56 : decode cX9_turns 56 = .ok (.aload_n 0, 1) := by decide +kernel
theorem dX9_turns_57 : decode cX9_turns 57 = .ok (.getfield 103, 3) := by decide +kernel
theorem dX9_turns_60 : decode cX9_turns 60 = .ok (.if_icmp .ge 29, 3) := by decide +kernel
theorem dX9_turns_63 : decode cX9_turns 63 = .ok (.aload_n 0, 1) := by decide +kernel
theorem dX9_turns_64 : decode cX9_turns 64 = .ok (.getfield 68, 3) := by decide +kernel
theorem dX9_turns_67 : decode cX9_turns 67 = .ok (.iload_n 3, 1) := by decide +kernel
theorem dX9_turns_68 : decode cX9_turns 68 = .ok (.baload, 1) := by decide +kernel
theorem dX9_turns_69 : decode cX9_turns 69 = .ok (.ifCond .eq 14, 3) := by decide +kernel
theorem dX9_turns_72 : decode cX9_turns 72 = .ok (.aload_n 0, 1) := by decide +kernel
theorem dX9_turns_73 : decode cX9_turns 73 = .ok (.iload_n 3, 1) := by decide +kernel
theorem dX9_turns_74 : decode cX9_turns 74 = .ok (.aload_n 0, 1) := by decide +kernel
theorem dX9_turns_75 : decode cX9_turns 75 = .ok (.getfield 71, 3) := by decide +kernel
theorem dX9_turns_78 : decode cX9_turns 78 = .ok (.iload_n 3, 1) := by decide +kernel
theorem dX9_turns_79 : decode cX9_turns 79 = .ok (.iaload, 1) := by decide +kernel
theorem dX9_turns_80 : decode cX9_turns 80 = .ok (.invokevirtual 198, 3) := by decide +kernel
theorem dX9_turns_83 : decode cX9_turns 83 = .ok (.iinc 3 1, 3) := by decide +kernel
theorem dX9_turns_86 : decode cX9_turns 86 = .ok (.goto (-31), 3) := by decide +kernel
theorem dX9_turns_89 : decode cX9_turns 89 = .ok (.aload_n 0, 1) := by decide +kernel
theorem dX9_turns_90 : decode cX9_turns 90 = .ok (.dup, 1) := by decide +kernel
theorem dX9_turns_91 : decode cX9_turns 91 = .ok (.getfield 201, 3) := by decide +kernel
theorem dX9_turns_94 : decode cX9_turns 94 = .ok (.iconst 1, 1) := by decide +kernel
theorem dX9_turns_95 : decode cX9_turns 95 = .ok (.iadd, 1) := by decide +kernel
theorem dX9_turns_96 : decode cX9_turns 96 = .ok (.putfield 201, 3) := by decide +kernel
theorem dX9_turns_99 : decode cX9_turns 99 = .ok (.return_, 1) := by decide +kernel
theorem dX9_resolves_0 : decode cX9_resolves 0 = .ok (.iconst 0, 1) := by decide +kernel
theorem dX9_resolves_1 : decode cX9_resolves 1 = .ok (.istore_n 1, 1) := by decide +kernel
theorem dX9_resolves_2 : decode cX9_resolves 2 = .ok (.iload_n 1, 1) := by decide +kernel
theorem dX9_resolves_3 : decode cX9_resolves 3 = .ok (.aload_n 0, 1) := by decide +kernel
theorem dX9_resolves_4 : decode cX9_resolves 4 = .ok (.getfield 103, 3) := by decide +kernel
theorem dX9_resolves_7 : decode cX9_resolves 7 = .ok (.if_icmp .ge 100, 3) := by decide +kernel
theorem dX9_resolves_10 : decode cX9_resolves 10 = .ok (.aload_n 0, 1) := by decide +kernel
theorem dX9_resolves_11 : decode cX9_resolves 11 = .ok (.iload_n 1, 1) := by decide +kernel
theorem dX9_resolves_12 : decode cX9_resolves 12 = .ok (.invokevirtual 204, 3) := by decide +kernel
theorem dX9_resolves_15 : decode cX9_resolves 15 = .ok (.istore_n 2, 1) := by decide +kernel
theorem dX9_resolves_16 : decode cX9_resolves 16 = .ok (.iload_n 2, 1) := by decide +kernel
theorem dX9_resolves_17 : decode cX9_resolves 17 = .ok (.iconst 3, 1) := by decide +kernel
theorem dX9_resolves_18 : decode cX9_resolves 18 = .ok (.if_icmp .lt 11, 3) := by decide +kernel
theorem dX9_resolves_21 : decode cX9_resolves 21 = .ok (.aload_n 0, 1) := by decide +kernel
theorem dX9_resolves_22 : decode cX9_resolves 22 = .ok (.iload_n 1, 1) := by decide +kernel
theorem dX9_resolves_23 : decode cX9_resolves 23 = .ok (.invokevirtual 207, 3) := by decide +kernel
theorem dX9_resolves_26 : decode cX9_resolves 26 = .ok (.goto 75, 3) := by decide +kernel
theorem dX9_resolves_29 : decode cX9_resolves 29 = .ok (.iload_n 2, 1) := by decide +kernel
theorem dX9_resolves_30 : decode cX9_resolves 30 = .ok (.iconst 2, 1) := by decide +kernel
theorem dX9_resolves_31 : decode cX9_resolves 31 = .ok (.if_icmp .ne 70, 3) := by decide +kernel
theorem dX9_resolves_34 : decode cX9_resolves 34 = .ok (.aload_n 0, 1) := by decide +kernel
theorem dX9_resolves_35 : decode cX9_resolves 35 = .ok (.iload_n 1, 1) := by decide +kernel
theorem dX9_resolves_36 : decode cX9_resolves 36 = .ok (.invokevirtual 192, 3) := by decide +kernel
theorem dX9_resolves_39 : decode cX9_resolves 39 = .ok (.istore_n 3, 1) := by decide +kernel
theorem dX9_resolves_40 : decode cX9_resolves 40 = .ok (.aload_n 0, 1) := by decide +kernel
theorem dX9_resolves_41 : decode cX9_resolves 41 = .ok (.iload_n 1, 1) := by decide +kernel
theorem dX9_resolves_42 : decode cX9_resolves 42 = .ok (.iload_n 3, 1) := by decide +kernel
theorem dX9_resolves_43 : decode cX9_resolves 43 = .ok (.invokevirtual 211, 3) := by decide +kernel
theorem dX9_resolves_46 : decode cX9_resolves 46 = .ok (.ifCond .eq 7, 3) := by decide +kernel
theorem dX9_resolves_49 : decode cX9_resolves 49 = .ok (.iload_n 3, 1) := by decide +kernel
theorem dX9_resolves_50 : decode cX9_resolves 50 = .ok (.goto 4, 3) := by decide +kernel
theorem dX9_resolves_53 : decode cX9_resolves 53 = .ok (.iload_n 1, 1) := by decide +kernel
theorem dX9_resolves_54 : decode cX9_resolves 54 = .ok (.istore 4, 2) := by decide +kernel
theorem dX9_resolves_56 : decode cX9_resolves 56 = .ok (.iload 4, 2) := by decide +kernel
theorem dX9_resolves_58 : decode cX9_resolves 58 = .ok (.iload_n 1, 1) := by decide +kernel
theorem dX9_resolves_59 : decode cX9_resolves 59 = .ok (.if_icmp .ne 7, 3) := by decide +kernel
theorem dX9_resolves_62 : decode cX9_resolves 62 = .ok (.iload_n 3, 1) := by decide +kernel
theorem dX9_resolves_63 : decode cX9_resolves 63 = .ok (.goto 4, 3) := by decide +kernel
theorem dX9_resolves_66 : decode cX9_resolves 66 = .ok (.iload_n 1, 1) := by decide +kernel
theorem dX9_resolves_67 : decode cX9_resolves 67 = .ok (.istore 5, 2) := by decide +kernel
theorem dX9_resolves_69 : decode cX9_resolves 69 = .ok (.aload_n 0, 1) := by decide +kernel
theorem dX9_resolves_70 : decode cX9_resolves 70 = .ok (.iload 4, 2) := by decide +kernel
theorem dX9_resolves_72 : decode cX9_resolves 72 = .ok (.iload 5, 2) := by decide +kernel
theorem dX9_resolves_74 : decode cX9_resolves 74 = .ok (.invokevirtual 214, 3) := by decide +kernel
theorem dX9_resolves_77 : decode cX9_resolves 77 = .ok (.ifCond .ne 24, 3) := by decide +kernel
theorem dX9_resolves_80 : decode cX9_resolves 80 = .ok (.aload_n 0, 1) := by decide +kernel
theorem dX9_resolves_81 : decode cX9_resolves 81 = .ok (.iload 5, 2) := by decide +kernel
theorem dX9_resolves_83 : decode cX9_resolves 83 = .ok (.iload 4, 2) := by decide +kernel
theorem dX9_resolves_85 : decode cX9_resolves 85 = .ok (.invokevirtual 214, 3) := by decide +kernel
theorem dX9_resolves_88 : decode cX9_resolves 88 = .ok (.ifCond .ne 13, 3) := by decide +kernel
theorem dX9_resolves_91 : decode cX9_resolves 91 = .ok (.aload_n 0, 1) := by decide +kernel
theorem dX9_resolves_92 : decode cX9_resolves 92 = .ok (.dup, 1) := by decide +kernel
theorem dX9_resolves_93 : decode cX9_resolves 93 = .ok (.getfield 217, 3) := by decide +kernel
theorem dX9_resolves_96 : decode cX9_resolves 96 = .ok (.iconst 1, 1) := by decide +kernel
theorem dX9_resolves_97 : decode cX9_resolves 97 = .ok (.iadd, 1) := by decide +kernel
theorem dX9_resolves_98 : decode cX9_resolves 98 = .ok (.putfield 217, 3) := by decide +kernel
theorem dX9_resolves_101 : decode cX9_resolves 101 = .ok (.iinc 1 1, 3) := by decide +kernel
theorem dX9_resolves_104 : decode cX9_resolves 104 = .ok (.goto (-102), 3) := by decide +kernel
theorem dX9_resolves_107 : decode cX9_resolves 107 = .ok (.return_, 1) := by decide +kernel
theorem dX9_isAsked_0 : decode cX9_isAsked 0 = .ok (.iconst 0, 1) := by decide +kernel
theorem dX9_isAsked_1 : decode cX9_isAsked 1 = .ok (.istore_n 2, 1) := by decide +kernel
theorem dX9_isAsked_2 : decode cX9_isAsked 2 = .ok (.iconst 0, 1) := by decide +kernel
theorem dX9_isAsked_3 : decode cX9_isAsked 3 = .ok (.istore_n 3, 1) := by decide +kernel
theorem dX9_isAsked_4 : decode cX9_isAsked 4 = .ok (.iload_n 3, 1) := by decide +kernel
theorem dX9_isAsked_5 : decode cX9_isAsked 5 = .ok (.aload_n 0, 1) := by decide +kernel
theorem dX9_isAsked_6 : decode cX9_isAsked 6 = .ok (.getfield 103, 3) := by decide +kernel
theorem dX9_isAsked_9 : decode cX9_isAsked 9 = .ok (.if_icmp .ge 29, 3) := by decide +kernel
theorem dX9_isAsked_12 : decode cX9_isAsked 12 = .ok (.iload_n 2, 1) := by decide +kernel
theorem dX9_isAsked_13 : decode cX9_isAsked 13 = .ok (.ifCond .ne 13, 3) := by decide +kernel
theorem dX9_isAsked_16 : decode cX9_isAsked 16 = .ok (.aload_n 0, 1) := by decide +kernel
theorem dX9_isAsked_17 : decode cX9_isAsked 17 = .ok (.getfield 62, 3) := by decide +kernel
theorem dX9_isAsked_20 : decode cX9_isAsked 20 = .ok (.iload_n 3, 1) := by decide +kernel
theorem dX9_isAsked_21 : decode cX9_isAsked 21 = .ok (.iaload, 1) := by decide +kernel
theorem dX9_isAsked_22 : decode cX9_isAsked 22 = .ok (.iload_n 1, 1) := by decide +kernel
theorem dX9_isAsked_23 : decode cX9_isAsked 23 = .ok (.if_icmp .ne 7, 3) := by decide +kernel
theorem dX9_isAsked_26 : decode cX9_isAsked 26 = .ok (.iconst 1, 1) := by decide +kernel
theorem dX9_isAsked_27 : decode cX9_isAsked 27 = .ok (.goto 4, 3) := by decide +kernel
theorem dX9_isAsked_30 : decode cX9_isAsked 30 = .ok (.iconst 0, 1) := by decide +kernel
theorem dX9_isAsked_31 : decode cX9_isAsked 31 = .ok (.istore_n 2, 1) := by decide +kernel
theorem dX9_isAsked_32 : decode cX9_isAsked 32 = .ok (.iinc 3 1, 3) := by decide +kernel
theorem dX9_isAsked_35 : decode cX9_isAsked 35 = .ok (.goto (-31), 3) := by decide +kernel
theorem dX9_isAsked_38 : decode cX9_isAsked 38 = .ok (.iload_n 2, 1) := by decide +kernel
theorem dX9_isAsked_39 : decode cX9_isAsked 39 = .ok (.ireturn, 1) := by decide +kernel
theorem dX9_stepsAside_0 : decode cX9_stepsAside 0 = .ok (.iconst (-1), 1) := by decide +kernel
theorem dX9_stepsAside_1 : decode cX9_stepsAside 1 = .ok (.istore_n 2, 1) := by decide +kernel
theorem dX9_stepsAside_2 : decode cX9_stepsAside 2 = .ok (.iconst 3, 1) := by decide +kernel
theorem dX9_stepsAside_3 : decode cX9_stepsAside 3 = .ok (.istore_n 3, 1) := by decide +kernel
theorem dX9_stepsAside_4 : decode cX9_stepsAside 4 = .ok (.iload_n 3, 1) := by decide +kernel
theorem dX9_stepsAside_5 : decode cX9_stepsAside 5 = .ok (.ifCond .lt 74, 3) := by decide +kernel
theorem dX9_stepsAside_8 : decode cX9_stepsAside 8 = .ok (.aload_n 0, 1) := by decide +kernel
theorem dX9_stepsAside_9 : decode cX9_stepsAside 9 = .ok (.getfield 44, 3) := by decide +kernel
theorem dX9_stepsAside_12 : decode cX9_stepsAside 12 = .ok (.iload_n 1, 1) := by decide +kernel
theorem dX9_stepsAside_13 : decode cX9_stepsAside 13 = .ok (.iaload, 1) := by decide +kernel
theorem dX9_stepsAside_14 : decode cX9_stepsAside 14 = .ok (.iload_n 3, 1) := by decide +kernel
theorem dX9_stepsAside_15 : decode cX9_stepsAside 15 = .ok (.invokestatic 120, 3) := by decide +kernel
theorem dX9_stepsAside_18 : decode cX9_stepsAside 18 = .ok (.istore 4, 2) := by decide +kernel
theorem dX9_stepsAside_20 : decode cX9_stepsAside 20 = .ok (.iload 4, 2) := by decide +kernel
theorem dX9_stepsAside_22 : decode cX9_stepsAside 22 = .ok (.iconst (-1), 1) := by decide +kernel
theorem dX9_stepsAside_23 : decode cX9_stepsAside 23 = .ok (.if_icmp .eq 35, 3) := by decide +kernel
theorem dX9_stepsAside_26 : decode cX9_stepsAside 26 = .ok (.aload_n 0, 1) := by decide +kernel
theorem dX9_stepsAside_27 : decode cX9_stepsAside 27 = .ok (.iload 4, 2) := by decide +kernel
theorem dX9_stepsAside_29 : decode cX9_stepsAside 29 = .ok (.invokevirtual 116, 3) := by decide +kernel
theorem dX9_stepsAside_32 : decode cX9_stepsAside 32 = .ok (.ifCond .eq 26, 3) := by decide +kernel
theorem dX9_stepsAside_35 : decode cX9_stepsAside 35 = .ok (.aload_n 0, 1) := by decide +kernel
theorem dX9_stepsAside_36 : decode cX9_stepsAside 36 = .ok (.iload 4, 2) := by decide +kernel
theorem dX9_stepsAside_38 : decode cX9_stepsAside 38 = .ok (.invokevirtual 112, 3) := by decide +kernel
theorem dX9_stepsAside_41 : decode cX9_stepsAside 41 = .ok (.iconst (-1), 1) := by decide +kernel
theorem dX9_stepsAside_42 : decode cX9_stepsAside 42 = .ok (.if_icmp .ne 16, 3) := by decide +kernel
theorem dX9_stepsAside_45 : decode cX9_stepsAside 45 = .ok (.aload_n 0, 1) := by decide +kernel
theorem dX9_stepsAside_46 : decode cX9_stepsAside 46 = .ok (.iload 4, 2) := by decide +kernel
theorem dX9_stepsAside_48 : decode cX9_stepsAside 48 = .ok (.invokevirtual 220, 3) := by decide +kernel
theorem dX9_stepsAside_51 : decode cX9_stepsAside 51 = .ok (.ifCond .ne 7, 3) := by decide +kernel
theorem dX9_stepsAside_54 : decode cX9_stepsAside 54 = .ok (.iconst 1, 1) := by decide +kernel
theorem dX9_stepsAside_55 : decode cX9_stepsAside 55 = .ok (.goto 4, 3) := by decide +kernel
theorem dX9_stepsAside_58 : decode cX9_stepsAside 58 = .ok (.iconst 0, 1) := by decide +kernel
theorem dX9_stepsAside_59 : decode cX9_stepsAside 59 = .ok (.istore 5, 2) := by decide +kernel
theorem dX9_stepsAside_61 : decode cX9_stepsAside 61 = .ok (.iload 5, 2) := by decide +kernel
theorem dX9_stepsAside_63 : decode cX9_stepsAside 63 = .ok (.ifCond .eq 8, 3) := by decide +kernel
theorem dX9_stepsAside_66 : decode cX9_stepsAside 66 = .ok (.iload 4, 2) := by decide +kernel
theorem dX9_stepsAside_68 : decode cX9_stepsAside 68 = .ok (.goto 4, 3) := by decide +kernel
theorem dX9_stepsAside_71 : decode cX9_stepsAside 71 = .ok (.iload_n 2, 1) := by decide +kernel
theorem dX9_stepsAside_72 : decode cX9_stepsAside 72 = .ok (.istore_n 2, 1) := by decide +kernel
theorem dX9_stepsAside_73 : decode cX9_stepsAside 73 = .ok (.iinc 3 (-1), 3) := by decide +kernel
theorem dX9_stepsAside_76 : decode cX9_stepsAside 76 = .ok (.goto (-72), 3) := by decide +kernel
theorem dX9_stepsAside_79 : decode cX9_stepsAside 79 = .ok (.iload_n 2, 1) := by decide +kernel
theorem dX9_stepsAside_80 : decode cX9_stepsAside 80 = .ok (.iconst (-1), 1) := by decide +kernel
theorem dX9_stepsAside_81 : decode cX9_stepsAside 81 = .ok (.if_icmp .eq 9, 3) := by decide +kernel
theorem dX9_stepsAside_84 : decode cX9_stepsAside 84 = .ok (.aload_n 0, 1) := by decide +kernel
theorem dX9_stepsAside_85 : decode cX9_stepsAside 85 = .ok (.iload_n 1, 1) := by decide +kernel
theorem dX9_stepsAside_86 : decode cX9_stepsAside 86 = .ok (.iload_n 2, 1) := by decide +kernel
theorem dX9_stepsAside_87 : decode cX9_stepsAside 87 = .ok (.invokevirtual 198, 3) := by decide +kernel
theorem dX9_stepsAside_90 : decode cX9_stepsAside 90 = .ok (.return_, 1) := by decide +kernel
theorem dX9_goes_0 : decode cX9_goes 0 = .ok (.iconst 0, 1) := by decide +kernel
theorem dX9_goes_1 : decode cX9_goes 1 = .ok (.istore_n 1, 1) := by decide +kernel
theorem dX9_goes_2 : decode cX9_goes 2 = .ok (.iload_n 1, 1) := by decide +kernel
theorem dX9_goes_3 : decode cX9_goes 3 = .ok (.bipush 6, 2) := by decide +kernel
theorem dX9_goes_5 : decode cX9_goes 5 = .ok (.if_icmp .ge 38, 3) := by decide +kernel
theorem dX9_goes_8 : decode cX9_goes 8 = .ok (.aload_n 0, 1) := by decide +kernel
theorem dX9_goes_9 : decode cX9_goes 9 = .ok (.getfield 68, 3) := by decide +kernel
theorem dX9_goes_12 : decode cX9_goes 12 = .ok (.iload_n 1, 1) := by decide +kernel
theorem dX9_goes_13 : decode cX9_goes 13 = .ok (.iload_n 1, 1) := by decide +kernel
theorem dX9_goes_14 : decode cX9_goes 14 = .ok (.aload_n 0, 1) := by decide +kernel
theorem dX9_goes_15 : decode cX9_goes 15 = .ok (.getfield 103, 3) := by decide +kernel
theorem dX9_goes_18 : decode cX9_goes 18 = .ok (.if_icmp .ge 13, 3) := by decide +kernel
theorem dX9_goes_21 : decode cX9_goes 21 = .ok (.aload_n 0, 1) := by decide +kernel
theorem dX9_goes_22 : decode cX9_goes 22 = .ok (.getfield 62, 3) := by decide +kernel
theorem dX9_goes_25 : decode cX9_goes 25 = .ok (.iload_n 1, 1) := by decide +kernel
theorem dX9_goes_26 : decode cX9_goes 26 = .ok (.iaload, 1) := by decide +kernel
theorem dX9_goes_27 : decode cX9_goes 27 = .ok (.iconst (-1), 1) := by decide +kernel
theorem dX9_goes_28 : decode cX9_goes 28 = .ok (.if_icmp .ne 7, 3) := by decide +kernel
theorem dX9_goes_31 : decode cX9_goes 31 = .ok (.iconst 1, 1) := by decide +kernel
theorem dX9_goes_32 : decode cX9_goes 32 = .ok (.goto 4, 3) := by decide +kernel
theorem dX9_goes_35 : decode cX9_goes 35 = .ok (.iconst 0, 1) := by decide +kernel
theorem dX9_goes_36 : decode cX9_goes 36 = .ok (.bastore, 1) := by decide +kernel
theorem dX9_goes_37 : decode cX9_goes 37 = .ok (.iinc 1 1, 3) := by decide +kernel
theorem dX9_goes_40 : decode cX9_goes 40 = .ok (.goto (-38), 3) := by decide +kernel
theorem dX9_goes_43 : decode cX9_goes 43 = .ok (.iconst 0, 1) := by decide +kernel
theorem dX9_goes_44 : decode cX9_goes 44 = .ok (.istore_n 1, 1) := by decide +kernel
theorem dX9_goes_45 : decode cX9_goes 45 = .ok (.iload_n 1, 1) := by decide +kernel
theorem dX9_goes_46 : decode cX9_goes 46 = .ok (.aload_n 0, 1) := by decide +kernel
theorem dX9_goes_47 : decode cX9_goes 47 = .ok (.getfield 103, 3) := by decide +kernel
theorem dX9_goes_50 : decode cX9_goes 50 = .ok (.if_icmp .ge 135, 3) := by decide +kernel
theorem dX9_goes_53 : decode cX9_goes 53 = .ok (.iconst (-1), 1) := by decide +kernel
theorem dX9_goes_54 : decode cX9_goes 54 = .ok (.istore_n 2, 1) := by decide +kernel
theorem dX9_goes_55 : decode cX9_goes 55 = .ok (.iconst 0, 1) := by decide +kernel
theorem dX9_goes_56 : decode cX9_goes 56 = .ok (.istore_n 3, 1) := by decide +kernel
theorem dX9_goes_57 : decode cX9_goes 57 = .ok (.iload_n 3, 1) := by decide +kernel
theorem dX9_goes_58 : decode cX9_goes 58 = .ok (.aload_n 0, 1) := by decide +kernel
theorem dX9_goes_59 : decode cX9_goes 59 = .ok (.getfield 103, 3) := by decide +kernel
theorem dX9_goes_62 : decode cX9_goes 62 = .ok (.if_icmp .ge 80, 3) := by decide +kernel
theorem dX9_goes_65 : decode cX9_goes 65 = .ok (.iload_n 2, 1) := by decide +kernel
theorem dX9_goes_66 : decode cX9_goes 66 = .ok (.iconst (-1), 1) := by decide +kernel
theorem dX9_goes_67 : decode cX9_goes 67 = .ok (.if_icmp .eq 42, 3) := by decide +kernel
theorem dX9_goes_70 : decode cX9_goes 70 = .ok (.aload_n 0, 1) := by decide +kernel
theorem dX9_goes_71 : decode cX9_goes 71 = .ok (.getfield 65, 3) := by decide +kernel
theorem dX9_goes_74 : decode cX9_goes 74 = .ok (.iload_n 3, 1) := by decide +kernel
theorem dX9_goes_75 : decode cX9_goes 75 = .ok (.iaload, 1) := by decide +kernel
theorem dX9_goes_76 : decode cX9_goes 76 = .ok (.aload_n 0, 1) := by decide +kernel
theorem dX9_goes_77 : decode cX9_goes 77 = .ok (.getfield 65, 3) := by decide +kernel
theorem dX9_goes_80 : decode cX9_goes 80 = .ok (.iload_n 2, 1) := by decide +kernel
theorem dX9_goes_81 : decode cX9_goes 81 = .ok (.iaload, 1) := by decide +kernel
theorem dX9_goes_82 : decode cX9_goes 82 = .ok (.if_icmp .lt 27, 3) := by decide +kernel
theorem dX9_goes_85 : decode cX9_goes 85 = .ok (.aload_n 0, 1) := by decide +kernel
theorem dX9_goes_86 : decode cX9_goes 86 = .ok (.getfield 65, 3) := by decide +kernel
theorem dX9_goes_89 : decode cX9_goes 89 = .ok (.iload_n 3, 1) := by decide +kernel
theorem dX9_goes_90 : decode cX9_goes 90 = .ok (.iaload, 1) := by decide +kernel
theorem dX9_goes_91 : decode cX9_goes 91 = .ok (.aload_n 0, 1) := by decide +kernel
theorem dX9_goes_92 : decode cX9_goes 92 = .ok (.getfield 65, 3) := by decide +kernel
theorem dX9_goes_95 : decode cX9_goes 95 = .ok (.iload_n 2, 1) := by decide +kernel
theorem dX9_goes_96 : decode cX9_goes 96 = .ok (.iaload, 1) := by decide +kernel
theorem dX9_goes_97 : decode cX9_goes 97 = .ok (.if_icmp .ne 16, 3) := by decide +kernel
theorem dX9_goes_100 : decode cX9_goes 100 = .ok (.aload_n 0, 1) := by decide +kernel
theorem dX9_goes_101 : decode cX9_goes 101 = .ok (.iload_n 3, 1) := by decide +kernel
theorem dX9_goes_102 : decode cX9_goes 102 = .ok (.iload_n 2, 1) := by decide +kernel
theorem dX9_goes_103 : decode cX9_goes 103 = .ok (.invokevirtual 211, 3) := by decide +kernel
theorem dX9_goes_106 : decode cX9_goes 106 = .ok (.ifCond .eq 7, 3) := by decide +kernel
theorem dX9_goes_109 : decode cX9_goes 109 = .ok (.iconst 1, 1) := by decide +kernel
theorem dX9_goes_110 : decode cX9_goes 110 = .ok (.goto 4, 3) := by decide +kernel
theorem dX9_goes_113 : decode cX9_goes 113 = .ok (.iconst 0, 1) := by decide +kernel
theorem dX9_goes_114 : decode cX9_goes 114 = .ok (.istore 4, 2) := by decide +kernel
theorem dX9_goes_116 : decode cX9_goes 116 = .ok (.aload_n 0, 1) := by decide +kernel
theorem dX9_goes_117 : decode cX9_goes 117 = .ok (.getfield 68, 3) := by decide +kernel
theorem dX9_goes_120 : decode cX9_goes 120 = .ok (.iload_n 3, 1) := by decide +kernel
theorem dX9_goes_121 : decode cX9_goes 121 = .ok (.baload, 1) := by decide +kernel
theorem dX9_goes_122 : decode cX9_goes 122 = .ok (.ifCond .ne 12, 3) := by decide +kernel
theorem dX9_goes_125 : decode cX9_goes 125 = .ok (.iload 4, 2) := by decide +kernel
theorem dX9_goes_127 : decode cX9_goes 127 = .ok (.ifCond .eq 7, 3) := by decide +kernel
theorem dX9_goes_130 : decode cX9_goes 130 = .ok (.iload_n 3, 1) := by decide +kernel
theorem dX9_goes_131 : decode cX9_goes 131 = .ok (.goto 4, 3) := by decide +kernel
theorem dX9_goes_134 : decode cX9_goes 134 = .ok (.iload_n 2, 1) := by decide +kernel
theorem dX9_goes_135 : decode cX9_goes 135 = .ok (.istore_n 2, 1) := by decide +kernel
theorem dX9_goes_136 : decode cX9_goes 136 = .ok (.iinc 3 1, 3) := by decide +kernel
theorem dX9_goes_139 : decode cX9_goes 139 = .ok (.goto (-82), 3) := by decide +kernel
theorem dX9_goes_142 : decode cX9_goes 142 = .ok (.iload_n 2, 1) := by decide +kernel
theorem dX9_goes_143 : decode cX9_goes 143 = .ok (.iconst (-1), 1) := by decide +kernel
theorem dX9_goes_144 : decode cX9_goes 144 = .ok (.if_icmp .eq 35, 3) := by decide +kernel
theorem dX9_goes_147 : decode cX9_goes 147 = .ok (.aload_n 0, 1) := by decide +kernel
theorem dX9_goes_148 : decode cX9_goes 148 = .ok (.getfield 68, 3) := by decide +kernel
theorem dX9_goes_151 : decode cX9_goes 151 = .ok (.iload_n 2, 1) := by decide +kernel
theorem dX9_goes_152 : decode cX9_goes 152 = .ok (.iconst 1, 1) := by decide +kernel
theorem dX9_goes_153 : decode cX9_goes 153 = .ok (.bastore, 1) := by decide +kernel
theorem dX9_goes_154 : decode cX9_goes 154 = .ok (.aload_n 0, 1) := by decide +kernel
theorem dX9_goes_155 : decode cX9_goes 155 = .ok (.aload_n 0, 1) := by decide +kernel
theorem dX9_goes_156 : decode cX9_goes 156 = .ok (.getfield 62, 3) := by decide +kernel
theorem dX9_goes_159 : decode cX9_goes 159 = .ok (.iload_n 2, 1) := by decide +kernel
theorem dX9_goes_160 : decode cX9_goes 160 = .ok (.iaload, 1) := by decide +kernel
theorem dX9_goes_161 : decode cX9_goes 161 = .ok (.invokevirtual 112, 3) := by decide +kernel
theorem dX9_goes_164 : decode cX9_goes 164 = .ok (.iconst (-1), 1) := by decide +kernel
theorem dX9_goes_165 : decode cX9_goes 165 = .ok (.if_icmp .ne 14, 3) := by decide +kernel
theorem dX9_goes_168 : decode cX9_goes 168 = .ok (.aload_n 0, 1) := by decide +kernel
theorem dX9_goes_169 : decode cX9_goes 169 = .ok (.iload_n 2, 1) := by decide +kernel
theorem dX9_goes_170 : decode cX9_goes 170 = .ok (.aload_n 0, 1) := by decide +kernel
theorem dX9_goes_171 : decode cX9_goes 171 = .ok (.getfield 62, 3) := by decide +kernel
theorem dX9_goes_174 : decode cX9_goes 174 = .ok (.iload_n 2, 1) := by decide +kernel
theorem dX9_goes_175 : decode cX9_goes 175 = .ok (.iaload, 1) := by decide +kernel
theorem dX9_goes_176 : decode cX9_goes 176 = .ok (.invokevirtual 198, 3) := by decide +kernel
theorem dX9_goes_179 : decode cX9_goes 179 = .ok (.iinc 1 1, 3) := by decide +kernel
theorem dX9_goes_182 : decode cX9_goes 182 = .ok (.goto (-137), 3) := by decide +kernel
theorem dX9_goes_185 : decode cX9_goes 185 = .ok (.return_, 1) := by decide +kernel
theorem dX9_arrives_0 : decode cX9_arrives 0 = .ok (.aload_n 0, 1) := by decide +kernel
theorem dX9_arrives_1 : decode cX9_arrives 1 = .ok (.getfield 50, 3) := by decide +kernel
theorem dX9_arrives_4 : decode cX9_arrives 4 = .ok (.iload_n 1, 1) := by decide +kernel
theorem dX9_arrives_5 : decode cX9_arrives 5 = .ok (.iaload, 1) := by decide +kernel
theorem dX9_arrives_6 : decode cX9_arrives 6 = .ok (.istore_n 2, 1) := by decide +kernel
theorem dX9_arrives_7 : decode cX9_arrives 7 = .ok (.aload_n 0, 1) := by decide +kernel
theorem dX9_arrives_8 : decode cX9_arrives 8 = .ok (.iload_n 1, 1) := by decide +kernel
theorem dX9_arrives_9 : decode cX9_arrives 9 = .ok (.invokevirtual 186, 3) := by decide +kernel
theorem dX9_arrives_12 : decode cX9_arrives 12 = .ok (.aload_n 0, 1) := by decide +kernel
theorem dX9_arrives_13 : decode cX9_arrives 13 = .ok (.getfield 44, 3) := by decide +kernel
theorem dX9_arrives_16 : decode cX9_arrives 16 = .ok (.iload_n 1, 1) := by decide +kernel
theorem dX9_arrives_17 : decode cX9_arrives 17 = .ok (.iaload, 1) := by decide +kernel
theorem dX9_arrives_18 : decode cX9_arrives 18 = .ok (.if_icmp .ne 27, 3) := by decide +kernel
theorem dX9_arrives_21 : decode cX9_arrives 21 = .ok (.aload_n 0, 1) := by decide +kernel
theorem dX9_arrives_22 : decode cX9_arrives 22 = .ok (.iload_n 1, 1) := by decide +kernel
theorem dX9_arrives_23 : decode cX9_arrives 23 = .ok (.iload_n 2, 1) := by decide +kernel
theorem dX9_arrives_24 : decode cX9_arrives 24 = .ok (.iconst 1, 1) := by decide +kernel
theorem dX9_arrives_25 : decode cX9_arrives 25 = .ok (.if_icmp .ne 7, 3) := by decide +kernel
theorem dX9_arrives_28 : decode cX9_arrives 28 = .ok (.iconst 2, 1) := by decide +kernel
theorem dX9_arrives_29 : decode cX9_arrives 29 = .ok (.goto 13, 3) := by decide +kernel
theorem dX9_arrives_32 : decode cX9_arrives 32 = .ok (.iload_n 2, 1) := by decide +kernel
theorem dX9_arrives_33 : decode cX9_arrives 33 = .ok (.iconst 2, 1) := by decide +kernel
theorem dX9_arrives_34 : decode cX9_arrives 34 = .ok (.if_icmp .ne 7, 3) := by decide +kernel
theorem dX9_arrives_37 : decode cX9_arrives 37 = .ok (.iconst 3, 1) := by decide +kernel
theorem dX9_arrives_38 : decode cX9_arrives 38 = .ok (.goto 4, 3) := by decide +kernel
theorem dX9_arrives_41 : decode cX9_arrives 41 = .ok (.iconst 0, 1) := by decide +kernel
theorem dX9_arrives_42 : decode cX9_arrives 42 = .ok (.invokevirtual 162, 3) := by decide +kernel
theorem dX9_arrives_45 : decode cX9_arrives 45 = .ok (.return_, 1) := by decide +kernel
theorem dX9_passes_0 : decode cX9_passes 0 = .ok (.aload_n 0, 1) := by decide +kernel
theorem dX9_passes_1 : decode cX9_passes 1 = .ok (.dup, 1) := by decide +kernel
theorem dX9_passes_2 : decode cX9_passes 2 = .ok (.getfield 171, 3) := by decide +kernel
theorem dX9_passes_5 : decode cX9_passes 5 = .ok (.iconst 1, 1) := by decide +kernel
theorem dX9_passes_6 : decode cX9_passes 6 = .ok (.iadd, 1) := by decide +kernel
theorem dX9_passes_7 : decode cX9_passes 7 = .ok (.putfield 171, 3) := by decide +kernel
theorem dX9_passes_10 : decode cX9_passes 10 = .ok (.iconst 0, 1) := by decide +kernel
theorem dX9_passes_11 : decode cX9_passes 11 = .ok (.istore_n 1, 1) := by decide +kernel
theorem dX9_passes_12 : decode cX9_passes 12 = .ok (.iload_n 1, 1) := by decide +kernel
theorem dX9_passes_13 : decode cX9_passes 13 = .ok (.aload_n 0, 1) := by decide +kernel
theorem dX9_passes_14 : decode cX9_passes 14 = .ok (.getfield 103, 3) := by decide +kernel
theorem dX9_passes_17 : decode cX9_passes 17 = .ok (.if_icmp .ge 24, 3) := by decide +kernel
theorem dX9_passes_20 : decode cX9_passes 20 = .ok (.aload_n 0, 1) := by decide +kernel
theorem dX9_passes_21 : decode cX9_passes 21 = .ok (.getfield 50, 3) := by decide +kernel
theorem dX9_passes_24 : decode cX9_passes 24 = .ok (.iload_n 1, 1) := by decide +kernel
theorem dX9_passes_25 : decode cX9_passes 25 = .ok (.iaload, 1) := by decide +kernel
theorem dX9_passes_26 : decode cX9_passes 26 = .ok (.iconst 3, 1) := by decide +kernel
theorem dX9_passes_27 : decode cX9_passes 27 = .ok (.if_icmp .ne 8, 3) := by decide +kernel
theorem dX9_passes_30 : decode cX9_passes 30 = .ok (.aload_n 0, 1) := by decide +kernel
theorem dX9_passes_31 : decode cX9_passes 31 = .ok (.iload_n 1, 1) := by decide +kernel
theorem dX9_passes_32 : decode cX9_passes 32 = .ok (.invokevirtual 223, 3) := by decide +kernel
theorem dX9_passes_35 : decode cX9_passes 35 = .ok (.iinc 1 1, 3) := by decide +kernel
theorem dX9_passes_38 : decode cX9_passes 38 = .ok (.goto (-26), 3) := by decide +kernel
theorem dX9_passes_41 : decode cX9_passes 41 = .ok (.iconst 0, 1) := by decide +kernel
theorem dX9_passes_42 : decode cX9_passes 42 = .ok (.istore_n 1, 1) := by decide +kernel
theorem dX9_passes_43 : decode cX9_passes 43 = .ok (.iload_n 1, 1) := by decide +kernel
theorem dX9_passes_44 : decode cX9_passes 44 = .ok (.aload_n 0, 1) := by decide +kernel
theorem dX9_passes_45 : decode cX9_passes 45 = .ok (.getfield 106, 3) := by decide +kernel
theorem dX9_passes_48 : decode cX9_passes 48 = .ok (.if_icmp .ge 14, 3) := by decide +kernel
theorem dX9_passes_51 : decode cX9_passes 51 = .ok (.aload_n 0, 1) := by decide +kernel
theorem dX9_passes_52 : decode cX9_passes 52 = .ok (.iload_n 1, 1) := by decide +kernel
theorem dX9_passes_53 : decode cX9_passes 53 = .ok (.invokevirtual 226, 3) := by decide +kernel
theorem dX9_passes_56 : decode cX9_passes 56 = .ok (.iinc 1 1, 3) := by decide +kernel
theorem dX9_passes_59 : decode cX9_passes 59 = .ok (.goto (-16), 3) := by decide +kernel
theorem dX9_passes_62 : decode cX9_passes 62 = .ok (.iconst 0, 1) := by decide +kernel
theorem dX9_passes_63 : decode cX9_passes 63 = .ok (.istore_n 1, 1) := by decide +kernel
theorem dX9_passes_64 : decode cX9_passes 64 = .ok (.iload_n 1, 1) := by decide +kernel
theorem dX9_passes_65 : decode cX9_passes 65 = .ok (.aload_n 0, 1) := by decide +kernel
theorem dX9_passes_66 : decode cX9_passes 66 = .ok (.getfield 103, 3) := by decide +kernel
theorem dX9_passes_69 : decode cX9_passes 69 = .ok (.if_icmp .ge 14, 3) := by decide +kernel
theorem dX9_passes_72 : decode cX9_passes 72 = .ok (.aload_n 0, 1) := by decide +kernel
theorem dX9_passes_73 : decode cX9_passes 73 = .ok (.iload_n 1, 1) := by decide +kernel
theorem dX9_passes_74 : decode cX9_passes 74 = .ok (.invokevirtual 229, 3) := by decide +kernel
theorem dX9_passes_77 : decode cX9_passes 77 = .ok (.iinc 1 1, 3) := by decide +kernel
theorem dX9_passes_80 : decode cX9_passes 80 = .ok (.goto (-16), 3) := by decide +kernel
theorem dX9_passes_83 : decode cX9_passes 83 = .ok (.aload_n 0, 1) := by decide +kernel
theorem dX9_passes_84 : decode cX9_passes 84 = .ok (.invokevirtual 232, 3) := by decide +kernel
theorem dX9_passes_87 : decode cX9_passes 87 = .ok (.iconst 0, 1) := by decide +kernel
theorem dX9_passes_88 : decode cX9_passes 88 = .ok (.istore_n 1, 1) := by decide +kernel
theorem dX9_passes_89 : decode cX9_passes 89 = .ok (.iload_n 1, 1) := by decide +kernel
theorem dX9_passes_90 : decode cX9_passes 90 = .ok (.aload_n 0, 1) := by decide +kernel
theorem dX9_passes_91 : decode cX9_passes 91 = .ok (.getfield 103, 3) := by decide +kernel
theorem dX9_passes_94 : decode cX9_passes 94 = .ok (.if_icmp .ge 36, 3) := by decide +kernel
theorem dX9_passes_97 : decode cX9_passes 97 = .ok (.aload_n 0, 1) := by decide +kernel
theorem dX9_passes_98 : decode cX9_passes 98 = .ok (.getfield 50, 3) := by decide +kernel
theorem dX9_passes_101 : decode cX9_passes 101 = .ok (.iload_n 1, 1) := by decide +kernel
theorem dX9_passes_102 : decode cX9_passes 102 = .ok (.iaload, 1) := by decide +kernel
theorem dX9_passes_103 : decode cX9_passes 103 = .ok (.ifCond .ne 21, 3) := by decide +kernel
theorem dX9_passes_106 : decode cX9_passes 106 = .ok (.aload_n 0, 1) := by decide +kernel
theorem dX9_passes_107 : decode cX9_passes 107 = .ok (.aload_n 0, 1) := by decide +kernel
theorem dX9_passes_108 : decode cX9_passes 108 = .ok (.getfield 44, 3) := by decide +kernel
theorem dX9_passes_111 : decode cX9_passes 111 = .ok (.iload_n 1, 1) := by decide +kernel
theorem dX9_passes_112 : decode cX9_passes 112 = .ok (.iaload, 1) := by decide +kernel
theorem dX9_passes_113 : decode cX9_passes 113 = .ok (.invokevirtual 220, 3) := by decide +kernel
theorem dX9_passes_116 : decode cX9_passes 116 = .ok (.ifCond .eq 8, 3) := by decide +kernel
theorem dX9_passes_119 : decode cX9_passes 119 = .ok (.aload_n 0, 1) := by decide +kernel
theorem dX9_passes_120 : decode cX9_passes 120 = .ok (.iload_n 1, 1) := by decide +kernel
theorem dX9_passes_121 : decode cX9_passes 121 = .ok (.invokevirtual 235, 3) := by decide +kernel
theorem dX9_passes_124 : decode cX9_passes 124 = .ok (.iinc 1 1, 3) := by decide +kernel
theorem dX9_passes_127 : decode cX9_passes 127 = .ok (.goto (-38), 3) := by decide +kernel
theorem dX9_passes_130 : decode cX9_passes 130 = .ok (.aload_n 0, 1) := by decide +kernel
theorem dX9_passes_131 : decode cX9_passes 131 = .ok (.invokevirtual 238, 3) := by decide +kernel
theorem dX9_passes_134 : decode cX9_passes 134 = .ok (.iconst 0, 1) := by decide +kernel
theorem dX9_passes_135 : decode cX9_passes 135 = .ok (.istore_n 1, 1) := by decide +kernel
theorem dX9_passes_136 : decode cX9_passes 136 = .ok (.iload_n 1, 1) := by decide +kernel
theorem dX9_passes_137 : decode cX9_passes 137 = .ok (.aload_n 0, 1) := by decide +kernel
theorem dX9_passes_138 : decode cX9_passes 138 = .ok (.getfield 103, 3) := by decide +kernel
theorem dX9_passes_141 : decode cX9_passes 141 = .ok (.if_icmp .ge 14, 3) := by decide +kernel
theorem dX9_passes_144 : decode cX9_passes 144 = .ok (.aload_n 0, 1) := by decide +kernel
theorem dX9_passes_145 : decode cX9_passes 145 = .ok (.iload_n 1, 1) := by decide +kernel
theorem dX9_passes_146 : decode cX9_passes 146 = .ok (.invokevirtual 241, 3) := by decide +kernel
theorem dX9_passes_149 : decode cX9_passes 149 = .ok (.iinc 1 1, 3) := by decide +kernel
theorem dX9_passes_152 : decode cX9_passes 152 = .ok (.goto (-16), 3) := by decide +kernel
theorem dX9_passes_155 : decode cX9_passes 155 = .ok (.return_, 1) := by decide +kernel
theorem dX9_tick_0 : decode cX9_tick 0 = .ok (.aload_n 0, 1) := by decide +kernel
theorem dX9_tick_1 : decode cX9_tick 1 = .ok (.iload_n 1, 1) := by decide +kernel
theorem dX9_tick_2 : decode cX9_tick 2 = .ok (.iconst 1, 1) := by decide +kernel
theorem dX9_tick_3 : decode cX9_tick 3 = .ok (.if_icmp .lt 9, 3) := by decide +kernel
theorem dX9_tick_6 : decode cX9_tick 6 = .ok (.iload_n 1, 1) := by decide +kernel
theorem dX9_tick_7 : decode cX9_tick 7 = .ok (.bipush 50, 2) := by decide +kernel
theorem dX9_tick_9 : decode cX9_tick 9 = .ok (.if_icmp .le 7, 3) := by decide +kernel
theorem dX9_tick_12 : decode cX9_tick 12 = .ok (.iconst 1, 1) := by decide +kernel
theorem dX9_tick_13 : decode cX9_tick 13 = .ok (.goto 20, 3) := by decide +kernel
theorem dX9_tick_16 : decode cX9_tick 16 = .ok (.aload_n 0, 1) := by decide +kernel
theorem dX9_tick_17 : decode cX9_tick 17 = .ok (.getfield 171, 3) := by decide +kernel
theorem dX9_tick_20 : decode cX9_tick 20 = .ok (.iload_n 1, 1) := by decide +kernel
theorem dX9_tick_21 : decode cX9_tick 21 = .ok (.iadd, 1) := by decide +kernel
theorem dX9_tick_22 : decode cX9_tick 22 = .ok (.sipush 3000, 3) := by decide +kernel
theorem dX9_tick_25 : decode cX9_tick 25 = .ok (.if_icmp .le 7, 3) := by decide +kernel
theorem dX9_tick_28 : decode cX9_tick 28 = .ok (.iconst 2, 1) := by decide +kernel
theorem dX9_tick_29 : decode cX9_tick 29 = .ok (.goto 4, 3) := by decide +kernel
theorem dX9_tick_32 : decode cX9_tick 32 = .ok (.iconst 0, 1) := by decide +kernel
theorem dX9_tick_33 : decode cX9_tick 33 = .ok (.invokevirtual 140, 3) := by decide +kernel
theorem dX9_tick_36 : decode cX9_tick 36 = .ok (.ifCond .ne 5, 3) := by decide +kernel
theorem dX9_tick_39 : decode cX9_tick 39 = .ok (.iconst 0, 1) := by decide +kernel
theorem dX9_tick_40 : decode cX9_tick 40 = .ok (.ireturn, 1) := by decide +kernel
theorem dX9_tick_41 : decode cX9_tick 41 = .ok (.aload_n 0, 1) := by decide +kernel
theorem dX9_tick_42 : decode cX9_tick 42 = .ok (.getfield 168, 3) := by decide +kernel
theorem dX9_tick_45 : decode cX9_tick 45 = .ok (.istore_n 2, 1) := by decide +kernel
theorem dX9_tick_46 : decode cX9_tick 46 = .ok (.iconst 0, 1) := by decide +kernel
theorem dX9_tick_47 : decode cX9_tick 47 = .ok (.istore_n 3, 1) := by decide +kernel
theorem dX9_tick_48 : decode cX9_tick 48 = .ok (.iload_n 3, 1) := by decide +kernel
theorem dX9_tick_49 : decode cX9_tick 49 = .ok (.iload_n 1, 1) := by decide +kernel
theorem dX9_tick_50 : decode cX9_tick 50 = .ok (.if_icmp .ge 13, 3) := by decide +kernel
theorem dX9_tick_53 : decode cX9_tick 53 = .ok (.aload_n 0, 1) := by decide +kernel
theorem dX9_tick_54 : decode cX9_tick 54 = .ok (.invokevirtual 244, 3) := by decide +kernel
theorem dX9_tick_57 : decode cX9_tick 57 = .ok (.iinc 3 1, 3) := by decide +kernel
theorem dX9_tick_60 : decode cX9_tick 60 = .ok (.goto (-12), 3) := by decide +kernel
theorem dX9_tick_63 : decode cX9_tick 63 = .ok (.aload_n 0, 1) := by decide +kernel
theorem dX9_tick_64 : decode cX9_tick 64 = .ok (.getfield 168, 3) := by decide +kernel
theorem dX9_tick_67 : decode cX9_tick 67 = .ok (.iload_n 2, 1) := by decide +kernel
theorem dX9_tick_68 : decode cX9_tick 68 = .ok (.isub, 1) := by decide +kernel
theorem dX9_tick_69 : decode cX9_tick 69 = .ok (.ireturn, 1) := by decide +kernel
theorem dX9_time_0 : decode cX9_time 0 = .ok (.aload_n 0, 1) := by decide +kernel
theorem dX9_time_1 : decode cX9_time 1 = .ok (.iconst 0, 1) := by decide +kernel
theorem dX9_time_2 : decode cX9_time 2 = .ok (.putfield 95, 3) := by decide +kernel
theorem dX9_time_5 : decode cX9_time 5 = .ok (.aload_n 0, 1) := by decide +kernel
theorem dX9_time_6 : decode cX9_time 6 = .ok (.getfield 171, 3) := by decide +kernel
theorem dX9_time_9 : decode cX9_time 9 = .ok (.ireturn, 1) := by decide +kernel
theorem dX9_steps_0 : decode cX9_steps 0 = .ok (.aload_n 0, 1) := by decide +kernel
theorem dX9_steps_1 : decode cX9_steps 1 = .ok (.iconst 0, 1) := by decide +kernel
theorem dX9_steps_2 : decode cX9_steps 2 = .ok (.putfield 95, 3) := by decide +kernel
theorem dX9_steps_5 : decode cX9_steps 5 = .ok (.aload_n 0, 1) := by decide +kernel
theorem dX9_steps_6 : decode cX9_steps 6 = .ok (.getfield 189, 3) := by decide +kernel
theorem dX9_steps_9 : decode cX9_steps 9 = .ok (.ireturn, 1) := by decide +kernel
theorem dX9_rings_0 : decode cX9_rings 0 = .ok (.aload_n 0, 1) := by decide +kernel
theorem dX9_rings_1 : decode cX9_rings 1 = .ok (.iconst 0, 1) := by decide +kernel
theorem dX9_rings_2 : decode cX9_rings 2 = .ok (.putfield 95, 3) := by decide +kernel
theorem dX9_rings_5 : decode cX9_rings 5 = .ok (.aload_n 0, 1) := by decide +kernel
theorem dX9_rings_6 : decode cX9_rings 6 = .ok (.getfield 201, 3) := by decide +kernel
theorem dX9_rings_9 : decode cX9_rings 9 = .ok (.ireturn, 1) := by decide +kernel
theorem dX9_yields_0 : decode cX9_yields 0 = .ok (.aload_n 0, 1) := by decide +kernel
theorem dX9_yields_1 : decode cX9_yields 1 = .ok (.iconst 0, 1) := by decide +kernel
theorem dX9_yields_2 : decode cX9_yields 2 = .ok (.putfield 95, 3) := by decide +kernel
theorem dX9_yields_5 : decode cX9_yields 5 = .ok (.aload_n 0, 1) := by decide +kernel
theorem dX9_yields_6 : decode cX9_yields 6 = .ok (.getfield 195, 3) := by decide +kernel
theorem dX9_yields_9 : decode cX9_yields 9 = .ok (.ireturn, 1) := by decide +kernel
theorem dX9_knots_0 : decode cX9_knots 0 = .ok (.aload_n 0, 1) := by decide +kernel
theorem dX9_knots_1 : decode cX9_knots 1 = .ok (.iconst 0, 1) := by decide +kernel
theorem dX9_knots_2 : decode cX9_knots 2 = .ok (.putfield 95, 3) := by decide +kernel
theorem dX9_knots_5 : decode cX9_knots 5 = .ok (.aload_n 0, 1) := by decide +kernel
theorem dX9_knots_6 : decode cX9_knots 6 = .ok (.getfield 217, 3) := by decide +kernel
theorem dX9_knots_9 : decode cX9_knots 9 = .ok (.ireturn, 1) := by decide +kernel
theorem dX9_stock_0 : decode cX9_stock 0 = .ok (.aload_n 0, 1) := by decide +kernel
theorem dX9_stock_1 : decode cX9_stock 1 = .ok (.iload_n 1, 1) := by decide +kernel
theorem dX9_stock_2 : decode cX9_stock 2 = .ok (.bipush 6, 2) := by decide +kernel
theorem dX9_stock_4 : decode cX9_stock 4 = .ok (.invokestatic 99, 3) := by decide +kernel
theorem dX9_stock_7 : decode cX9_stock 7 = .ok (.ifCond .eq 7, 3) := by decide +kernel
theorem dX9_stock_10 : decode cX9_stock 10 = .ok (.iconst 0, 1) := by decide +kernel
theorem dX9_stock_11 : decode cX9_stock 11 = .ok (.goto 4, 3) := by decide +kernel
theorem dX9_stock_14 : decode cX9_stock 14 = .ok (.iconst 1, 1) := by decide +kernel
theorem dX9_stock_15 : decode cX9_stock 15 = .ok (.invokevirtual 140, 3) := by decide +kernel
theorem dX9_stock_18 : decode cX9_stock 18 = .ok (.ifCond .ne 5, 3) := by decide +kernel
theorem dX9_stock_21 : decode cX9_stock 21 = .ok (.iconst 0, 1) := by decide +kernel
theorem dX9_stock_22 : decode cX9_stock 22 = .ok (.ireturn, 1) := by decide +kernel
theorem dX9_stock_23 : decode cX9_stock 23 = .ok (.iconst 0, 1) := by decide +kernel
theorem dX9_stock_24 : decode cX9_stock 24 = .ok (.istore_n 2, 1) := by decide +kernel
theorem dX9_stock_25 : decode cX9_stock 25 = .ok (.iconst 0, 1) := by decide +kernel
theorem dX9_stock_26 : decode cX9_stock 26 = .ok (.istore_n 3, 1) := by decide +kernel
theorem dX9_stock_27 : decode cX9_stock 27 = .ok (.iload_n 3, 1) := by decide +kernel
theorem dX9_stock_28 : decode cX9_stock 28 = .ok (.aload_n 0, 1) := by decide +kernel
theorem dX9_stock_29 : decode cX9_stock 29 = .ok (.getfield 109, 3) := by decide +kernel
theorem dX9_stock_32 : decode cX9_stock 32 = .ok (.if_icmp .ge 32, 3) := by decide +kernel
theorem dX9_stock_35 : decode cX9_stock 35 = .ok (.iload_n 2, 1) := by decide +kernel
theorem dX9_stock_36 : decode cX9_stock 36 = .ok (.aload_n 0, 1) := by decide +kernel
theorem dX9_stock_37 : decode cX9_stock 37 = .ok (.getfield 23, 3) := by decide +kernel
theorem dX9_stock_40 : decode cX9_stock 40 = .ok (.iload_n 3, 1) := by decide +kernel
theorem dX9_stock_41 : decode cX9_stock 41 = .ok (.iaload, 1) := by decide +kernel
theorem dX9_stock_42 : decode cX9_stock 42 = .ok (.iload_n 1, 1) := by decide +kernel
theorem dX9_stock_43 : decode cX9_stock 43 = .ok (.if_icmp .ne 12, 3) := by decide +kernel
theorem dX9_stock_46 : decode cX9_stock 46 = .ok (.aload_n 0, 1) := by decide +kernel
theorem dX9_stock_47 : decode cX9_stock 47 = .ok (.getfield 26, 3) := by decide +kernel
theorem dX9_stock_50 : decode cX9_stock 50 = .ok (.iload_n 3, 1) := by decide +kernel
theorem dX9_stock_51 : decode cX9_stock 51 = .ok (.iaload, 1) := by decide +kernel
theorem dX9_stock_52 : decode cX9_stock 52 = .ok (.goto 4, 3) := by decide +kernel
theorem dX9_stock_55 : decode cX9_stock 55 = .ok (.iconst 0, 1) := by decide +kernel
theorem dX9_stock_56 : decode cX9_stock 56 = .ok (.iadd, 1) := by decide +kernel
theorem dX9_stock_57 : decode cX9_stock 57 = .ok (.istore_n 2, 1) := by decide +kernel
theorem dX9_stock_58 : decode cX9_stock 58 = .ok (.iinc 3 1, 3) := by decide +kernel
theorem dX9_stock_61 : decode cX9_stock 61 = .ok (.goto (-34), 3) := by decide +kernel
theorem dX9_stock_64 : decode cX9_stock 64 = .ok (.iload_n 2, 1) := by decide +kernel
theorem dX9_stock_65 : decode cX9_stock 65 = .ok (.ireturn, 1) := by decide +kernel
theorem dX9_stockByPicks_0 : decode cX9_stockByPicks 0 = .ok (.aload_n 0, 1) := by decide +kernel
theorem dX9_stockByPicks_1 : decode cX9_stockByPicks 1 = .ok (.iload_n 1, 1) := by decide +kernel
theorem dX9_stockByPicks_2 : decode cX9_stockByPicks 2 = .ok (.bipush 6, 2) := by decide +kernel
theorem dX9_stockByPicks_4 : decode cX9_stockByPicks 4 = .ok (.invokestatic 99, 3) := by decide +kernel
theorem dX9_stockByPicks_7 : decode cX9_stockByPicks 7 = .ok (.ifCond .eq 7, 3) := by decide +kernel
theorem dX9_stockByPicks_10 : decode cX9_stockByPicks 10 = .ok (.iconst 0, 1) := by decide +kernel
theorem dX9_stockByPicks_11 : decode cX9_stockByPicks 11 = .ok (.goto 4, 3) := by decide +kernel
theorem dX9_stockByPicks_14 : decode cX9_stockByPicks 14 = .ok (.iconst 1, 1) := by decide +kernel
theorem dX9_stockByPicks_15 : decode cX9_stockByPicks 15 = .ok (.invokevirtual 140, 3) := by decide +kernel
theorem dX9_stockByPicks_18 : decode cX9_stockByPicks 18 = .ok (.ifCond .eq 19, 3) := by decide +kernel
theorem dX9_stockByPicks_21 : decode cX9_stockByPicks 21 = .ok (.aload_n 0, 1) := by decide +kernel
theorem dX9_stockByPicks_22 : decode cX9_stockByPicks 22 = .ok (.getfield 74, 3) := by decide +kernel
theorem dX9_stockByPicks_25 : decode cX9_stockByPicks 25 = .ok (.iload_n 1, 1) := by decide +kernel
theorem dX9_stockByPicks_26 : decode cX9_stockByPicks 26 = .ok (.iaload, 1) := by decide +kernel
theorem dX9_stockByPicks_27 : decode cX9_stockByPicks 27 = .ok (.aload_n 0, 1) := by decide +kernel
theorem dX9_stockByPicks_28 : decode cX9_stockByPicks 28 = .ok (.getfield 77, 3) := by decide +kernel
theorem dX9_stockByPicks_31 : decode cX9_stockByPicks 31 = .ok (.iload_n 1, 1) := by decide +kernel
theorem dX9_stockByPicks_32 : decode cX9_stockByPicks 32 = .ok (.iaload, 1) := by decide +kernel
theorem dX9_stockByPicks_33 : decode cX9_stockByPicks 33 = .ok (.isub, 1) := by decide +kernel
theorem dX9_stockByPicks_34 : decode cX9_stockByPicks 34 = .ok (.goto 4, 3) := by decide +kernel
theorem dX9_stockByPicks_37 : decode cX9_stockByPicks 37 = .ok (.iconst 0, 1) := by decide +kernel
theorem dX9_stockByPicks_38 : decode cX9_stockByPicks 38 = .ok (.ireturn, 1) := by decide +kernel
theorem dX9_picks_0 : decode cX9_picks 0 = .ok (.aload_n 0, 1) := by decide +kernel
theorem dX9_picks_1 : decode cX9_picks 1 = .ok (.iconst 0, 1) := by decide +kernel
theorem dX9_picks_2 : decode cX9_picks 2 = .ok (.putfield 95, 3) := by decide +kernel
theorem dX9_picks_5 : decode cX9_picks 5 = .ok (.aload_n 0, 1) := by decide +kernel
theorem dX9_picks_6 : decode cX9_picks 6 = .ok (.getfield 168, 3) := by decide +kernel
theorem dX9_picks_9 : decode cX9_picks 9 = .ok (.ireturn, 1) := by decide +kernel
theorem dX9_isPick_0 : decode cX9_isPick 0 = .ok (.aload_n 0, 1) := by decide +kernel
theorem dX9_isPick_1 : decode cX9_isPick 1 = .ok (.iload_n 1, 1) := by decide +kernel
theorem dX9_isPick_2 : decode cX9_isPick 2 = .ok (.aload_n 0, 1) := by decide +kernel
theorem dX9_isPick_3 : decode cX9_isPick 3 = .ok (.getfield 168, 3) := by decide +kernel
theorem dX9_isPick_6 : decode cX9_isPick 6 = .ok (.invokestatic 99, 3) := by decide +kernel
theorem dX9_isPick_9 : decode cX9_isPick 9 = .ok (.ifCond .eq 7, 3) := by decide +kernel
theorem dX9_isPick_12 : decode cX9_isPick 12 = .ok (.iconst 0, 1) := by decide +kernel
theorem dX9_isPick_13 : decode cX9_isPick 13 = .ok (.goto 4, 3) := by decide +kernel
theorem dX9_isPick_16 : decode cX9_isPick 16 = .ok (.iconst 1, 1) := by decide +kernel
theorem dX9_isPick_17 : decode cX9_isPick 17 = .ok (.invokevirtual 140, 3) := by decide +kernel
theorem dX9_isPick_20 : decode cX9_isPick 20 = .ok (.ireturn, 1) := by decide +kernel
theorem dX9_pickedFrom_0 : decode cX9_pickedFrom 0 = .ok (.aload_n 0, 1) := by decide +kernel
theorem dX9_pickedFrom_1 : decode cX9_pickedFrom 1 = .ok (.iload_n 1, 1) := by decide +kernel
theorem dX9_pickedFrom_2 : decode cX9_pickedFrom 2 = .ok (.invokevirtual 247, 3) := by decide +kernel
theorem dX9_pickedFrom_5 : decode cX9_pickedFrom 5 = .ok (.ifCond .eq 12, 3) := by decide +kernel
theorem dX9_pickedFrom_8 : decode cX9_pickedFrom 8 = .ok (.aload_n 0, 1) := by decide +kernel
theorem dX9_pickedFrom_9 : decode cX9_pickedFrom 9 = .ok (.getfield 80, 3) := by decide +kernel
theorem dX9_pickedFrom_12 : decode cX9_pickedFrom 12 = .ok (.iload_n 1, 1) := by decide +kernel
theorem dX9_pickedFrom_13 : decode cX9_pickedFrom 13 = .ok (.iaload, 1) := by decide +kernel
theorem dX9_pickedFrom_14 : decode cX9_pickedFrom 14 = .ok (.goto 4, 3) := by decide +kernel
theorem dX9_pickedFrom_17 : decode cX9_pickedFrom 17 = .ok (.iconst 0, 1) := by decide +kernel
theorem dX9_pickedFrom_18 : decode cX9_pickedFrom 18 = .ok (.ireturn, 1) := by decide +kernel
theorem dX9_pickedFor_0 : decode cX9_pickedFor 0 = .ok (.aload_n 0, 1) := by decide +kernel
theorem dX9_pickedFor_1 : decode cX9_pickedFor 1 = .ok (.iload_n 1, 1) := by decide +kernel
theorem dX9_pickedFor_2 : decode cX9_pickedFor 2 = .ok (.invokevirtual 247, 3) := by decide +kernel
theorem dX9_pickedFor_5 : decode cX9_pickedFor 5 = .ok (.ifCond .eq 12, 3) := by decide +kernel
theorem dX9_pickedFor_8 : decode cX9_pickedFor 8 = .ok (.aload_n 0, 1) := by decide +kernel
theorem dX9_pickedFor_9 : decode cX9_pickedFor 9 = .ok (.getfield 83, 3) := by decide +kernel
theorem dX9_pickedFor_12 : decode cX9_pickedFor 12 = .ok (.iload_n 1, 1) := by decide +kernel
theorem dX9_pickedFor_13 : decode cX9_pickedFor 13 = .ok (.iaload, 1) := by decide +kernel
theorem dX9_pickedFor_14 : decode cX9_pickedFor 14 = .ok (.goto 4, 3) := by decide +kernel
theorem dX9_pickedFor_17 : decode cX9_pickedFor 17 = .ok (.iconst 0, 1) := by decide +kernel
theorem dX9_pickedFor_18 : decode cX9_pickedFor 18 = .ok (.ireturn, 1) := by decide +kernel
theorem dX9_pickedIn_0 : decode cX9_pickedIn 0 = .ok (.aload_n 0, 1) := by decide +kernel
theorem dX9_pickedIn_1 : decode cX9_pickedIn 1 = .ok (.iload_n 1, 1) := by decide +kernel
theorem dX9_pickedIn_2 : decode cX9_pickedIn 2 = .ok (.invokevirtual 247, 3) := by decide +kernel
theorem dX9_pickedIn_5 : decode cX9_pickedIn 5 = .ok (.ifCond .eq 12, 3) := by decide +kernel
theorem dX9_pickedIn_8 : decode cX9_pickedIn 8 = .ok (.aload_n 0, 1) := by decide +kernel
theorem dX9_pickedIn_9 : decode cX9_pickedIn 9 = .ok (.getfield 86, 3) := by decide +kernel
theorem dX9_pickedIn_12 : decode cX9_pickedIn 12 = .ok (.iload_n 1, 1) := by decide +kernel
theorem dX9_pickedIn_13 : decode cX9_pickedIn 13 = .ok (.iaload, 1) := by decide +kernel
theorem dX9_pickedIn_14 : decode cX9_pickedIn 14 = .ok (.goto 4, 3) := by decide +kernel
theorem dX9_pickedIn_17 : decode cX9_pickedIn 17 = .ok (.iconst 0, 1) := by decide +kernel
theorem dX9_pickedIn_18 : decode cX9_pickedIn 18 = .ok (.ireturn, 1) := by decide +kernel
end
section
theorem dJx4a65c_init_da8c8_0 : decode cJx4a65c_init_da8c8 0 = .ok (.aload_n 0, 1) := by decide +kernel
theorem dJx4a65c_init_da8c8_1 : decode cJx4a65c_init_da8c8 1 = .ok (.invokespecial 1, 3) := by decide +kernel
theorem dJx4a65c_init_da8c8_4 : decode cJx4a65c_init_da8c8 4 = .ok (.aload_n 0, 1) := by decide +kernel
theorem dJx4a65c_init_da8c8_5 : decode cJx4a65c_init_da8c8 5 = .ok (.getstatic 39, 3) := by decide +kernel
theorem dJx4a65c_init_da8c8_8 : decode cJx4a65c_init_da8c8 8 = .ok (.putfield 9, 3) := by decide +kernel
theorem dJx4a65c_init_da8c8_11 : decode cJx4a65c_init_da8c8 11 = .ok (.return_, 1) := by decide +kernel
theorem dJx4a65c_grow_92f84_0 : decode cJx4a65c_grow_92f84 0 = .ok (.aload_n 0, 1) := by decide +kernel
theorem dJx4a65c_grow_92f84_1 : decode cJx4a65c_grow_92f84 1 = .ok (.getfield 9, 3) := by decide +kernel
theorem dJx4a65c_grow_92f84_4 : decode cJx4a65c_grow_92f84 4 = .ok (.arraylength, 1) := by decide +kernel
theorem dJx4a65c_grow_92f84_5 : decode cJx4a65c_grow_92f84 5 = .ok (.istore_n 2, 1) := by decide +kernel
theorem dJx4a65c_grow_92f84_6 : decode cJx4a65c_grow_92f84 6 = .ok (.iload_n 2, 1) := by decide +kernel
theorem dJx4a65c_grow_92f84_7 : decode cJx4a65c_grow_92f84 7 = .ok (.ifCond .gt 13, 3) := by decide +kernel
theorem dJx4a65c_grow_92f84_10 : decode cJx4a65c_grow_92f84 10 = .ok (.aload_n 0, 1) := by decide +kernel
theorem dJx4a65c_grow_92f84_11 : decode cJx4a65c_grow_92f84 11 = .ok (.getfield 9, 3) := by decide +kernel
theorem dJx4a65c_grow_92f84_14 : decode cJx4a65c_grow_92f84 14 = .ok (.getstatic 39, 3) := by decide +kernel
theorem dJx4a65c_grow_92f84_17 : decode cJx4a65c_grow_92f84 17 = .ok (.if_acmp .eq 28, 3) := by decide +kernel
theorem dJx4a65c_grow_92f84_20 : decode cJx4a65c_grow_92f84 20 = .ok (.iload_n 2, 1) := by decide +kernel
theorem dJx4a65c_grow_92f84_21 : decode cJx4a65c_grow_92f84 21 = .ok (.iload_n 1, 1) := by decide +kernel
theorem dJx4a65c_grow_92f84_22 : decode cJx4a65c_grow_92f84 22 = .ok (.iload_n 2, 1) := by decide +kernel
theorem dJx4a65c_grow_92f84_23 : decode cJx4a65c_grow_92f84 23 = .ok (.isub, 1) := by decide +kernel
theorem dJx4a65c_grow_92f84_24 : decode cJx4a65c_grow_92f84 24 = .ok (.iload_n 2, 1) := by decide +kernel
theorem dJx4a65c_grow_92f84_25 : decode cJx4a65c_grow_92f84 25 = .ok (.iconst 1, 1) := by decide +kernel
theorem dJx4a65c_grow_92f84_26 : decode cJx4a65c_grow_92f84 26 = .ok (.ishr, 1) := by decide +kernel
theorem dJx4a65c_grow_92f84_27 : decode cJx4a65c_grow_92f84 27 = .ok (.invokestatic 73, 3) := by decide +kernel
theorem dJx4a65c_grow_92f84_30 : decode cJx4a65c_grow_92f84 30 = .ok (.istore_n 3, 1) := by decide +kernel
theorem dJx4a65c_grow_92f84_31 : decode cJx4a65c_grow_92f84 31 = .ok (.aload_n 0, 1) := by decide +kernel
theorem dJx4a65c_grow_92f84_32 : decode cJx4a65c_grow_92f84 32 = .ok (.aload_n 0, 1) := by decide +kernel
theorem dJx4a65c_grow_92f84_33 : decode cJx4a65c_grow_92f84 33 = .ok (.getfield 9, 3) := by decide +kernel
theorem dJx4a65c_grow_92f84_36 : decode cJx4a65c_grow_92f84 36 = .ok (.iload_n 3, 1) := by decide +kernel
theorem dJx4a65c_grow_92f84_37 : decode cJx4a65c_grow_92f84 37 = .ok (.invokestatic 66, 3) := by decide +kernel
theorem dJx4a65c_grow_92f84_40 : decode cJx4a65c_grow_92f84 40 = .ok (.dup_x1, 1) := by decide +kernel
theorem dJx4a65c_grow_92f84_41 : decode cJx4a65c_grow_92f84 41 = .ok (.putfield 9, 3) := by decide +kernel
theorem dJx4a65c_grow_92f84_44 : decode cJx4a65c_grow_92f84 44 = .ok (.areturn, 1) := by decide +kernel
theorem dJx4a65c_grow_92f84_45 : decode cJx4a65c_grow_92f84 45 = .ok (.aload_n 0, 1) := by decide +kernel
theorem dJx4a65c_grow_92f84_46 : decode cJx4a65c_grow_92f84 46 = .ok (.bipush 10, 2) := by decide +kernel
theorem dJx4a65c_grow_92f84_48 : decode cJx4a65c_grow_92f84 48 = .ok (.iload_n 1, 1) := by decide +kernel
theorem dJx4a65c_grow_92f84_49 : decode cJx4a65c_grow_92f84 49 = .ok (.invokestatic 79, 3) := by decide +kernel
theorem dJx4a65c_grow_92f84_52 : decode cJx4a65c_grow_92f84 52 = .ok (.anewarray 7, 3) := by decide +kernel
theorem dJx4a65c_grow_92f84_55 : decode cJx4a65c_grow_92f84 55 = .ok (.dup_x1, 1) := by decide +kernel
theorem dJx4a65c_grow_92f84_56 : decode cJx4a65c_grow_92f84 56 = .ok (.putfield 9, 3) := by decide +kernel
theorem dJx4a65c_grow_92f84_59 : decode cJx4a65c_grow_92f84 59 = .ok (.areturn, 1) := by decide +kernel
theorem dJx4a65c_grow_d5877_0 : decode cJx4a65c_grow_d5877 0 = .ok (.aload_n 0, 1) := by decide +kernel
theorem dJx4a65c_grow_d5877_1 : decode cJx4a65c_grow_d5877 1 = .ok (.aload_n 0, 1) := by decide +kernel
theorem dJx4a65c_grow_d5877_2 : decode cJx4a65c_grow_d5877 2 = .ok (.getfield 48, 3) := by decide +kernel
theorem dJx4a65c_grow_d5877_5 : decode cJx4a65c_grow_d5877 5 = .ok (.iconst 1, 1) := by decide +kernel
theorem dJx4a65c_grow_d5877_6 : decode cJx4a65c_grow_d5877 6 = .ok (.iadd, 1) := by decide +kernel
theorem dJx4a65c_grow_d5877_7 : decode cJx4a65c_grow_d5877 7 = .ok (.invokevirtual 69, 3) := by decide +kernel
theorem dJx4a65c_grow_d5877_10 : decode cJx4a65c_grow_d5877 10 = .ok (.areturn, 1) := by decide +kernel
theorem dJx4a65c_size_8abf5_0 : decode cJx4a65c_size_8abf5 0 = .ok (.aload_n 0, 1) := by decide +kernel
theorem dJx4a65c_size_8abf5_1 : decode cJx4a65c_size_8abf5 1 = .ok (.getfield 48, 3) := by decide +kernel
theorem dJx4a65c_size_8abf5_4 : decode cJx4a65c_size_8abf5 4 = .ok (.ireturn, 1) := by decide +kernel
theorem dJx4a65c_elementData_915e3_0 : decode cJx4a65c_elementData_915e3 0 = .ok (.aload_n 0, 1) := by decide +kernel
theorem dJx4a65c_elementData_915e3_1 : decode cJx4a65c_elementData_915e3 1 = .ok (.getfield 9, 3) := by decide +kernel
theorem dJx4a65c_elementData_915e3_4 : decode cJx4a65c_elementData_915e3 4 = .ok (.iload_n 1, 1) := by decide +kernel
theorem dJx4a65c_elementData_915e3_5 : decode cJx4a65c_elementData_915e3 5 = .ok (.aaload, 1) := by decide +kernel
theorem dJx4a65c_elementData_915e3_6 : decode cJx4a65c_elementData_915e3 6 = .ok (.areturn, 1) := by decide +kernel
theorem dJx4a65c_get_915e3_0 : decode cJx4a65c_get_915e3 0 = .ok (.iload_n 1, 1) := by decide +kernel
theorem dJx4a65c_get_915e3_1 : decode cJx4a65c_get_915e3 1 = .ok (.aload_n 0, 1) := by decide +kernel
theorem dJx4a65c_get_915e3_2 : decode cJx4a65c_get_915e3 2 = .ok (.getfield 48, 3) := by decide +kernel
theorem dJx4a65c_get_915e3_5 : decode cJx4a65c_get_915e3 5 = .ok (.invokestatic 118, 3) := by decide +kernel
theorem dJx4a65c_get_915e3_8 : decode cJx4a65c_get_915e3 8 = .ok (.pop, 1) := by decide +kernel
theorem dJx4a65c_get_915e3_9 : decode cJx4a65c_get_915e3 9 = .ok (.aload_n 0, 1) := by decide +kernel
theorem dJx4a65c_get_915e3_10 : decode cJx4a65c_get_915e3 10 = .ok (.iload_n 1, 1) := by decide +kernel
theorem dJx4a65c_get_915e3_11 : decode cJx4a65c_get_915e3 11 = .ok (.invokevirtual 123, 3) := by decide +kernel
theorem dJx4a65c_get_915e3_14 : decode cJx4a65c_get_915e3 14 = .ok (.areturn, 1) := by decide +kernel
theorem dJx4a65c_add_72be8_0 : decode cJx4a65c_add_72be8 0 = .ok (.iload_n 3, 1) := by decide +kernel
theorem dJx4a65c_add_72be8_1 : decode cJx4a65c_add_72be8 1 = .ok (.aload_n 2, 1) := by decide +kernel
theorem dJx4a65c_add_72be8_2 : decode cJx4a65c_add_72be8 2 = .ok (.arraylength, 1) := by decide +kernel
theorem dJx4a65c_add_72be8_3 : decode cJx4a65c_add_72be8 3 = .ok (.if_icmp .ne 8, 3) := by decide +kernel
theorem dJx4a65c_add_72be8_6 : decode cJx4a65c_add_72be8 6 = .ok (.aload_n 0, 1) := by decide +kernel
theorem dJx4a65c_add_72be8_7 : decode cJx4a65c_add_72be8 7 = .ok (.invokevirtual 129, 3) := by decide +kernel
theorem dJx4a65c_add_72be8_10 : decode cJx4a65c_add_72be8 10 = .ok (.astore_n 2, 1) := by decide +kernel
theorem dJx4a65c_add_72be8_11 : decode cJx4a65c_add_72be8 11 = .ok (.aload_n 2, 1) := by decide +kernel
theorem dJx4a65c_add_72be8_12 : decode cJx4a65c_add_72be8 12 = .ok (.iload_n 3, 1) := by decide +kernel
theorem dJx4a65c_add_72be8_13 : decode cJx4a65c_add_72be8 13 = .ok (.aload_n 1, 1) := by decide +kernel
theorem dJx4a65c_add_72be8_14 : decode cJx4a65c_add_72be8 14 = .ok (.aastore, 1) := by decide +kernel
theorem dJx4a65c_add_72be8_15 : decode cJx4a65c_add_72be8 15 = .ok (.aload_n 0, 1) := by decide +kernel
theorem dJx4a65c_add_72be8_16 : decode cJx4a65c_add_72be8 16 = .ok (.iload_n 3, 1) := by decide +kernel
theorem dJx4a65c_add_72be8_17 : decode cJx4a65c_add_72be8 17 = .ok (.iconst 1, 1) := by decide +kernel
theorem dJx4a65c_add_72be8_18 : decode cJx4a65c_add_72be8 18 = .ok (.iadd, 1) := by decide +kernel
theorem dJx4a65c_add_72be8_19 : decode cJx4a65c_add_72be8 19 = .ok (.putfield 48, 3) := by decide +kernel
theorem dJx4a65c_add_72be8_22 : decode cJx4a65c_add_72be8 22 = .ok (.return_, 1) := by decide +kernel
theorem dJx4a65c_add_9ea2d_0 : decode cJx4a65c_add_9ea2d 0 = .ok (.aload_n 0, 1) := by decide +kernel
theorem dJx4a65c_add_9ea2d_1 : decode cJx4a65c_add_9ea2d 1 = .ok (.dup, 1) := by decide +kernel
theorem dJx4a65c_add_9ea2d_2 : decode cJx4a65c_add_9ea2d 2 = .ok (.getfield 63, 3) := by decide +kernel
theorem dJx4a65c_add_9ea2d_5 : decode cJx4a65c_add_9ea2d 5 = .ok (.iconst 1, 1) := by decide +kernel
theorem dJx4a65c_add_9ea2d_6 : decode cJx4a65c_add_9ea2d 6 = .ok (.iadd, 1) := by decide +kernel
theorem dJx4a65c_add_9ea2d_7 : decode cJx4a65c_add_9ea2d 7 = .ok (.putfield 63, 3) := by decide +kernel
theorem dJx4a65c_add_9ea2d_10 : decode cJx4a65c_add_9ea2d 10 = .ok (.aload_n 0, 1) := by decide +kernel
theorem dJx4a65c_add_9ea2d_11 : decode cJx4a65c_add_9ea2d 11 = .ok (.aload_n 1, 1) := by decide +kernel
theorem dJx4a65c_add_9ea2d_12 : decode cJx4a65c_add_9ea2d 12 = .ok (.aload_n 0, 1) := by decide +kernel
theorem dJx4a65c_add_9ea2d_13 : decode cJx4a65c_add_9ea2d 13 = .ok (.getfield 9, 3) := by decide +kernel
theorem dJx4a65c_add_9ea2d_16 : decode cJx4a65c_add_9ea2d 16 = .ok (.aload_n 0, 1) := by decide +kernel
theorem dJx4a65c_add_9ea2d_17 : decode cJx4a65c_add_9ea2d 17 = .ok (.getfield 48, 3) := by decide +kernel
theorem dJx4a65c_add_9ea2d_20 : decode cJx4a65c_add_9ea2d 20 = .ok (.invokevirtual 131, 3) := by decide +kernel
theorem dJx4a65c_add_9ea2d_23 : decode cJx4a65c_add_9ea2d 23 = .ok (.iconst 1, 1) := by decide +kernel
theorem dJx4a65c_add_9ea2d_24 : decode cJx4a65c_add_9ea2d 24 = .ok (.ireturn, 1) := by decide +kernel
theorem dJx4a65c_add_7a177_0 : decode cJx4a65c_add_7a177 0 = .ok (.aload_n 0, 1) := by decide +kernel
theorem dJx4a65c_add_7a177_1 : decode cJx4a65c_add_7a177 1 = .ok (.iload_n 1, 1) := by decide +kernel
theorem dJx4a65c_add_7a177_2 : decode cJx4a65c_add_7a177 2 = .ok (.invokevirtual 135, 3) := by decide +kernel
theorem dJx4a65c_add_7a177_5 : decode cJx4a65c_add_7a177 5 = .ok (.aload_n 0, 1) := by decide +kernel
theorem dJx4a65c_add_7a177_6 : decode cJx4a65c_add_7a177 6 = .ok (.dup, 1) := by decide +kernel
theorem dJx4a65c_add_7a177_7 : decode cJx4a65c_add_7a177 7 = .ok (.getfield 63, 3) := by decide +kernel
theorem dJx4a65c_add_7a177_10 : decode cJx4a65c_add_7a177 10 = .ok (.iconst 1, 1) := by decide +kernel
theorem dJx4a65c_add_7a177_11 : decode cJx4a65c_add_7a177 11 = .ok (.iadd, 1) := by decide +kernel
theorem dJx4a65c_add_7a177_12 : decode cJx4a65c_add_7a177 12 = .ok (.putfield 63, 3) := by decide +kernel
theorem dJx4a65c_add_7a177_15 : decode cJx4a65c_add_7a177 15 = .ok (.aload_n 0, 1) := by decide +kernel
theorem dJx4a65c_add_7a177_16 : decode cJx4a65c_add_7a177 16 = .ok (.getfield 48, 3) := by decide +kernel
theorem dJx4a65c_add_7a177_19 : decode cJx4a65c_add_7a177 19 = .ok (.dup, 1) := by decide +kernel
theorem dJx4a65c_add_7a177_20 : decode cJx4a65c_add_7a177 20 = .ok (.istore_n 3, 1) := by decide +kernel
theorem dJx4a65c_add_7a177_21 : decode cJx4a65c_add_7a177 21 = .ok (.aload_n 0, 1) := by decide +kernel
theorem dJx4a65c_add_7a177_22 : decode cJx4a65c_add_7a177 22 = .ok (.getfield 9, 3) := by decide +kernel
theorem dJx4a65c_add_7a177_25 : decode cJx4a65c_add_7a177 25 = .ok (.dup, 1) := by decide +kernel
theorem dJx4a65c_add_7a177_26 : decode cJx4a65c_add_7a177 26 = .ok (.astore 4, 2) := by decide +kernel
theorem dJx4a65c_add_7a177_28 : decode cJx4a65c_add_7a177 28 = .ok (.arraylength, 1) := by decide +kernel
theorem dJx4a65c_add_7a177_29 : decode cJx4a65c_add_7a177 29 = .ok (.if_icmp .ne 9, 3) := by decide +kernel
theorem dJx4a65c_add_7a177_32 : decode cJx4a65c_add_7a177 32 = .ok (.aload_n 0, 1) := by decide +kernel
theorem dJx4a65c_add_7a177_33 : decode cJx4a65c_add_7a177 33 = .ok (.invokevirtual 129, 3) := by decide +kernel
theorem dJx4a65c_add_7a177_36 : decode cJx4a65c_add_7a177 36 = .ok (.astore 4, 2) := by decide +kernel
theorem dJx4a65c_add_7a177_38 : decode cJx4a65c_add_7a177 38 = .ok (.aload 4, 2) := by decide +kernel
theorem dJx4a65c_add_7a177_40 : decode cJx4a65c_add_7a177 40 = .ok (.iload_n 1, 1) := by decide +kernel
theorem dJx4a65c_add_7a177_41 : decode cJx4a65c_add_7a177 41 = .ok (.aload 4, 2) := by decide +kernel
theorem dJx4a65c_add_7a177_43 : decode cJx4a65c_add_7a177 43 = .ok (.iload_n 1, 1) := by decide +kernel
theorem dJx4a65c_add_7a177_44 : decode cJx4a65c_add_7a177 44 = .ok (.iconst 1, 1) := by decide +kernel
theorem dJx4a65c_add_7a177_45 : decode cJx4a65c_add_7a177 45 = .ok (.iadd, 1) := by decide +kernel
theorem dJx4a65c_add_7a177_46 : decode cJx4a65c_add_7a177 46 = .ok (.iload_n 3, 1) := by decide +kernel
theorem dJx4a65c_add_7a177_47 : decode cJx4a65c_add_7a177 47 = .ok (.iload_n 1, 1) := by decide +kernel
theorem dJx4a65c_add_7a177_48 : decode cJx4a65c_add_7a177 48 = .ok (.isub, 1) := by decide +kernel
theorem dJx4a65c_add_7a177_49 : decode cJx4a65c_add_7a177 49 = .ok (.invokestatic 112, 3) := by decide +kernel
theorem dJx4a65c_add_7a177_52 : decode cJx4a65c_add_7a177 52 = .ok (.aload 4, 2) := by decide +kernel
theorem dJx4a65c_add_7a177_54 : decode cJx4a65c_add_7a177 54 = .ok (.iload_n 1, 1) := by decide +kernel
theorem dJx4a65c_add_7a177_55 : decode cJx4a65c_add_7a177 55 = .ok (.aload_n 2, 1) := by decide +kernel
theorem dJx4a65c_add_7a177_56 : decode cJx4a65c_add_7a177 56 = .ok (.aastore, 1) := by decide +kernel
theorem dJx4a65c_add_7a177_57 : decode cJx4a65c_add_7a177 57 = .ok (.aload_n 0, 1) := by decide +kernel
theorem dJx4a65c_add_7a177_58 : decode cJx4a65c_add_7a177 58 = .ok (.iload_n 3, 1) := by decide +kernel
theorem dJx4a65c_add_7a177_59 : decode cJx4a65c_add_7a177 59 = .ok (.iconst 1, 1) := by decide +kernel
theorem dJx4a65c_add_7a177_60 : decode cJx4a65c_add_7a177 60 = .ok (.iadd, 1) := by decide +kernel
theorem dJx4a65c_add_7a177_61 : decode cJx4a65c_add_7a177 61 = .ok (.putfield 48, 3) := by decide +kernel
theorem dJx4a65c_add_7a177_64 : decode cJx4a65c_add_7a177 64 = .ok (.return_, 1) := by decide +kernel
theorem dJx4a65c_remove_915e3_0 : decode cJx4a65c_remove_915e3 0 = .ok (.iload_n 1, 1) := by decide +kernel
theorem dJx4a65c_remove_915e3_1 : decode cJx4a65c_remove_915e3 1 = .ok (.aload_n 0, 1) := by decide +kernel
theorem dJx4a65c_remove_915e3_2 : decode cJx4a65c_remove_915e3 2 = .ok (.getfield 48, 3) := by decide +kernel
theorem dJx4a65c_remove_915e3_5 : decode cJx4a65c_remove_915e3 5 = .ok (.invokestatic 118, 3) := by decide +kernel
theorem dJx4a65c_remove_915e3_8 : decode cJx4a65c_remove_915e3 8 = .ok (.pop, 1) := by decide +kernel
theorem dJx4a65c_remove_915e3_9 : decode cJx4a65c_remove_915e3 9 = .ok (.aload_n 0, 1) := by decide +kernel
theorem dJx4a65c_remove_915e3_10 : decode cJx4a65c_remove_915e3 10 = .ok (.getfield 9, 3) := by decide +kernel
theorem dJx4a65c_remove_915e3_13 : decode cJx4a65c_remove_915e3 13 = .ok (.astore_n 2, 1) := by decide +kernel
theorem dJx4a65c_remove_915e3_14 : decode cJx4a65c_remove_915e3 14 = .ok (.aload_n 2, 1) := by decide +kernel
theorem dJx4a65c_remove_915e3_15 : decode cJx4a65c_remove_915e3 15 = .ok (.iload_n 1, 1) := by decide +kernel
theorem dJx4a65c_remove_915e3_16 : decode cJx4a65c_remove_915e3 16 = .ok (.aaload, 1) := by decide +kernel
theorem dJx4a65c_remove_915e3_17 : decode cJx4a65c_remove_915e3 17 = .ok (.astore_n 3, 1) := by decide +kernel
theorem dJx4a65c_remove_915e3_18 : decode cJx4a65c_remove_915e3 18 = .ok (.aload_n 0, 1) := by decide +kernel
theorem dJx4a65c_remove_915e3_19 : decode cJx4a65c_remove_915e3 19 = .ok (.aload_n 2, 1) := by decide +kernel
theorem dJx4a65c_remove_915e3_20 : decode cJx4a65c_remove_915e3 20 = .ok (.iload_n 1, 1) := by decide +kernel
theorem dJx4a65c_remove_915e3_21 : decode cJx4a65c_remove_915e3 21 = .ok (.invokevirtual 144, 3) := by decide +kernel
theorem dJx4a65c_remove_915e3_24 : decode cJx4a65c_remove_915e3 24 = .ok (.aload_n 3, 1) := by decide +kernel
theorem dJx4a65c_remove_915e3_25 : decode cJx4a65c_remove_915e3 25 = .ok (.areturn, 1) := by decide +kernel
theorem dJx4a65c_fastRemove_b59b0_0 : decode cJx4a65c_fastRemove_b59b0 0 = .ok (.aload_n 0, 1) := by decide +kernel
theorem dJx4a65c_fastRemove_b59b0_1 : decode cJx4a65c_fastRemove_b59b0 1 = .ok (.dup, 1) := by decide +kernel
theorem dJx4a65c_fastRemove_b59b0_2 : decode cJx4a65c_fastRemove_b59b0 2 = .ok (.getfield 63, 3) := by decide +kernel
theorem dJx4a65c_fastRemove_b59b0_5 : decode cJx4a65c_fastRemove_b59b0 5 = .ok (.iconst 1, 1) := by decide +kernel
theorem dJx4a65c_fastRemove_b59b0_6 : decode cJx4a65c_fastRemove_b59b0 6 = .ok (.iadd, 1) := by decide +kernel
theorem dJx4a65c_fastRemove_b59b0_7 : decode cJx4a65c_fastRemove_b59b0 7 = .ok (.putfield 63, 3) := by decide +kernel
theorem dJx4a65c_fastRemove_b59b0_10 : decode cJx4a65c_fastRemove_b59b0 10 = .ok (.aload_n 0, 1) := by decide +kernel
theorem dJx4a65c_fastRemove_b59b0_11 : decode cJx4a65c_fastRemove_b59b0 11 = .ok (.getfield 48, 3) := by decide +kernel
theorem dJx4a65c_fastRemove_b59b0_14 : decode cJx4a65c_fastRemove_b59b0 14 = .ok (.iconst 1, 1) := by decide +kernel
theorem dJx4a65c_fastRemove_b59b0_15 : decode cJx4a65c_fastRemove_b59b0 15 = .ok (.isub, 1) := by decide +kernel
theorem dJx4a65c_fastRemove_b59b0_16 : decode cJx4a65c_fastRemove_b59b0 16 = .ok (.dup, 1) := by decide +kernel
theorem dJx4a65c_fastRemove_b59b0_17 : decode cJx4a65c_fastRemove_b59b0 17 = .ok (.istore_n 3, 1) := by decide +kernel
theorem dJx4a65c_fastRemove_b59b0_18 : decode cJx4a65c_fastRemove_b59b0 18 = .ok (.iload_n 2, 1) := by decide +kernel
theorem dJx4a65c_fastRemove_b59b0_19 : decode cJx4a65c_fastRemove_b59b0 19 = .ok (.if_icmp .le 15, 3) := by decide +kernel
theorem dJx4a65c_fastRemove_b59b0_22 : decode cJx4a65c_fastRemove_b59b0 22 = .ok (.aload_n 1, 1) := by decide +kernel
theorem dJx4a65c_fastRemove_b59b0_23 : decode cJx4a65c_fastRemove_b59b0 23 = .ok (.iload_n 2, 1) := by decide +kernel
theorem dJx4a65c_fastRemove_b59b0_24 : decode cJx4a65c_fastRemove_b59b0 24 = .ok (.iconst 1, 1) := by decide +kernel
theorem dJx4a65c_fastRemove_b59b0_25 : decode cJx4a65c_fastRemove_b59b0 25 = .ok (.iadd, 1) := by decide +kernel
theorem dJx4a65c_fastRemove_b59b0_26 : decode cJx4a65c_fastRemove_b59b0 26 = .ok (.aload_n 1, 1) := by decide +kernel
theorem dJx4a65c_fastRemove_b59b0_27 : decode cJx4a65c_fastRemove_b59b0 27 = .ok (.iload_n 2, 1) := by decide +kernel
theorem dJx4a65c_fastRemove_b59b0_28 : decode cJx4a65c_fastRemove_b59b0 28 = .ok (.iload_n 3, 1) := by decide +kernel
theorem dJx4a65c_fastRemove_b59b0_29 : decode cJx4a65c_fastRemove_b59b0 29 = .ok (.iload_n 2, 1) := by decide +kernel
theorem dJx4a65c_fastRemove_b59b0_30 : decode cJx4a65c_fastRemove_b59b0 30 = .ok (.isub, 1) := by decide +kernel
theorem dJx4a65c_fastRemove_b59b0_31 : decode cJx4a65c_fastRemove_b59b0 31 = .ok (.invokestatic 112, 3) := by decide +kernel
theorem dJx4a65c_fastRemove_b59b0_34 : decode cJx4a65c_fastRemove_b59b0 34 = .ok (.aload_n 1, 1) := by decide +kernel
theorem dJx4a65c_fastRemove_b59b0_35 : decode cJx4a65c_fastRemove_b59b0 35 = .ok (.aload_n 0, 1) := by decide +kernel
theorem dJx4a65c_fastRemove_b59b0_36 : decode cJx4a65c_fastRemove_b59b0 36 = .ok (.iload_n 3, 1) := by decide +kernel
theorem dJx4a65c_fastRemove_b59b0_37 : decode cJx4a65c_fastRemove_b59b0 37 = .ok (.dup_x1, 1) := by decide +kernel
theorem dJx4a65c_fastRemove_b59b0_38 : decode cJx4a65c_fastRemove_b59b0 38 = .ok (.putfield 48, 3) := by decide +kernel
theorem dJx4a65c_fastRemove_b59b0_41 : decode cJx4a65c_fastRemove_b59b0 41 = .ok (.aconst_null, 1) := by decide +kernel
theorem dJx4a65c_fastRemove_b59b0_42 : decode cJx4a65c_fastRemove_b59b0 42 = .ok (.aastore, 1) := by decide +kernel
theorem dJx4a65c_fastRemove_b59b0_43 : decode cJx4a65c_fastRemove_b59b0 43 = .ok (.return_, 1) := by decide +kernel
theorem dJx4a65c_clear_da8c8_0 : decode cJx4a65c_clear_da8c8 0 = .ok (.aload_n 0, 1) := by decide +kernel
theorem dJx4a65c_clear_da8c8_1 : decode cJx4a65c_clear_da8c8 1 = .ok (.dup, 1) := by decide +kernel
theorem dJx4a65c_clear_da8c8_2 : decode cJx4a65c_clear_da8c8 2 = .ok (.getfield 63, 3) := by decide +kernel
theorem dJx4a65c_clear_da8c8_5 : decode cJx4a65c_clear_da8c8 5 = .ok (.iconst 1, 1) := by decide +kernel
theorem dJx4a65c_clear_da8c8_6 : decode cJx4a65c_clear_da8c8 6 = .ok (.iadd, 1) := by decide +kernel
theorem dJx4a65c_clear_da8c8_7 : decode cJx4a65c_clear_da8c8 7 = .ok (.putfield 63, 3) := by decide +kernel
theorem dJx4a65c_clear_da8c8_10 : decode cJx4a65c_clear_da8c8 10 = .ok (.aload_n 0, 1) := by decide +kernel
theorem dJx4a65c_clear_da8c8_11 : decode cJx4a65c_clear_da8c8 11 = .ok (.getfield 9, 3) := by decide +kernel
theorem dJx4a65c_clear_da8c8_14 : decode cJx4a65c_clear_da8c8 14 = .ok (.astore_n 1, 1) := by decide +kernel
theorem dJx4a65c_clear_da8c8_15 : decode cJx4a65c_clear_da8c8 15 = .ok (.aload_n 0, 1) := by decide +kernel
theorem dJx4a65c_clear_da8c8_16 : decode cJx4a65c_clear_da8c8 16 = .ok (.getfield 48, 3) := by decide +kernel
theorem dJx4a65c_clear_da8c8_19 : decode cJx4a65c_clear_da8c8 19 = .ok (.istore_n 2, 1) := by decide +kernel
theorem dJx4a65c_clear_da8c8_20 : decode cJx4a65c_clear_da8c8 20 = .ok (.aload_n 0, 1) := by decide +kernel
theorem dJx4a65c_clear_da8c8_21 : decode cJx4a65c_clear_da8c8 21 = .ok (.iconst 0, 1) := by decide +kernel
theorem dJx4a65c_clear_da8c8_22 : decode cJx4a65c_clear_da8c8 22 = .ok (.dup_x1, 1) := by decide +kernel
theorem dJx4a65c_clear_da8c8_23 : decode cJx4a65c_clear_da8c8 23 = .ok (.putfield 48, 3) := by decide +kernel
theorem dJx4a65c_clear_da8c8_26 : decode cJx4a65c_clear_da8c8 26 = .ok (.istore_n 3, 1) := by decide +kernel
theorem dJx4a65c_clear_da8c8_27 : decode cJx4a65c_clear_da8c8 27 = .ok (.iload_n 3, 1) := by decide +kernel
theorem dJx4a65c_clear_da8c8_28 : decode cJx4a65c_clear_da8c8 28 = .ok (.iload_n 2, 1) := by decide +kernel
theorem dJx4a65c_clear_da8c8_29 : decode cJx4a65c_clear_da8c8 29 = .ok (.if_icmp .ge 13, 3) := by decide +kernel
theorem dJx4a65c_clear_da8c8_32 : decode cJx4a65c_clear_da8c8 32 = .ok (.aload_n 1, 1) := by decide +kernel
theorem dJx4a65c_clear_da8c8_33 : decode cJx4a65c_clear_da8c8 33 = .ok (.iload_n 3, 1) := by decide +kernel
theorem dJx4a65c_clear_da8c8_34 : decode cJx4a65c_clear_da8c8 34 = .ok (.aconst_null, 1) := by decide +kernel
theorem dJx4a65c_clear_da8c8_35 : decode cJx4a65c_clear_da8c8 35 = .ok (.aastore, 1) := by decide +kernel
theorem dJx4a65c_clear_da8c8_36 : decode cJx4a65c_clear_da8c8 36 = .ok (.iinc 3 1, 3) := by decide +kernel
theorem dJx4a65c_clear_da8c8_39 : decode cJx4a65c_clear_da8c8 39 = .ok (.goto (-12), 3) := by decide +kernel
theorem dJx4a65c_clear_da8c8_42 : decode cJx4a65c_clear_da8c8 42 = .ok (.return_, 1) := by decide +kernel
theorem dJx4a65c_rangeCheckForAdd_d00df_0 : decode cJx4a65c_rangeCheckForAdd_d00df 0 = .ok (.iload_n 1, 1) := by decide +kernel
theorem dJx4a65c_rangeCheckForAdd_d00df_1 : decode cJx4a65c_rangeCheckForAdd_d00df 1 = .ok (.aload_n 0, 1) := by decide +kernel
theorem dJx4a65c_rangeCheckForAdd_d00df_2 : decode cJx4a65c_rangeCheckForAdd_d00df 2 = .ok (.getfield 48, 3) := by decide +kernel
theorem dJx4a65c_rangeCheckForAdd_d00df_5 : decode cJx4a65c_rangeCheckForAdd_d00df 5 = .ok (.if_icmp .gt 7, 3) := by decide +kernel
theorem dJx4a65c_rangeCheckForAdd_d00df_8 : decode cJx4a65c_rangeCheckForAdd_d00df 8 = .ok (.iload_n 1, 1) := by decide +kernel
theorem dJx4a65c_rangeCheckForAdd_d00df_9 : decode cJx4a65c_rangeCheckForAdd_d00df 9 = .ok (.ifCond .ge 16, 3) := by decide +kernel
theorem dJx4a65c_rangeCheckForAdd_d00df_12 : decode cJx4a65c_rangeCheckForAdd_d00df 12 = .ok (.new 187, 3) := by decide +kernel
theorem dJx4a65c_rangeCheckForAdd_d00df_15 : decode cJx4a65c_rangeCheckForAdd_d00df 15 = .ok (.dup, 1) := by decide +kernel
theorem dJx4a65c_rangeCheckForAdd_d00df_16 : decode cJx4a65c_rangeCheckForAdd_d00df 16 = .ok (.aload_n 0, 1) := by decide +kernel
theorem dJx4a65c_rangeCheckForAdd_d00df_17 : decode cJx4a65c_rangeCheckForAdd_d00df 17 = .ok (.iload_n 1, 1) := by decide +kernel
theorem dJx4a65c_rangeCheckForAdd_d00df_18 : decode cJx4a65c_rangeCheckForAdd_d00df 18 = .ok (.invokevirtual 198, 3) := by decide +kernel
theorem dJx4a65c_rangeCheckForAdd_d00df_21 : decode cJx4a65c_rangeCheckForAdd_d00df 21 = .ok (.invokespecial 193, 3) := by decide +kernel
theorem dJx4a65c_rangeCheckForAdd_d00df_24 : decode cJx4a65c_rangeCheckForAdd_d00df 24 = .ok (.athrow, 1) := by decide +kernel
theorem dJx4a65c_rangeCheckForAdd_d00df_25 : decode cJx4a65c_rangeCheckForAdd_d00df 25 = .ok (.return_, 1) := by decide +kernel
theorem dJxc12de_init_da8c8_0 : decode cJxc12de_init_da8c8 0 = .ok (.aload_n 0, 1) := by decide +kernel
theorem dJxc12de_init_da8c8_1 : decode cJxc12de_init_da8c8 1 = .ok (.invokespecial 1, 3) := by decide +kernel
theorem dJxc12de_init_da8c8_4 : decode cJxc12de_init_da8c8 4 = .ok (.aload_n 0, 1) := by decide +kernel
theorem dJxc12de_init_da8c8_5 : decode cJxc12de_init_da8c8 5 = .ok (.iconst 0, 1) := by decide +kernel
theorem dJxc12de_init_da8c8_6 : decode cJxc12de_init_da8c8 6 = .ok (.putfield 7, 3) := by decide +kernel
theorem dJxc12de_init_da8c8_9 : decode cJxc12de_init_da8c8 9 = .ok (.return_, 1) := by decide +kernel
theorem dJxa1e45_init_da8c8_0 : decode cJxa1e45_init_da8c8 0 = .ok (.aload_n 0, 1) := by decide +kernel
theorem dJxa1e45_init_da8c8_1 : decode cJxa1e45_init_da8c8 1 = .ok (.invokespecial 1, 3) := by decide +kernel
theorem dJxa1e45_init_da8c8_4 : decode cJxa1e45_init_da8c8 4 = .ok (.return_, 1) := by decide +kernel
theorem dJ7_copyOf_1904c_0 : decode cJ7_copyOf_1904c 0 = .ok (.aload_n 0, 1) := by decide +kernel
theorem dJ7_copyOf_1904c_1 : decode cJ7_copyOf_1904c 1 = .ok (.iload_n 1, 1) := by decide +kernel
theorem dJ7_copyOf_1904c_2 : decode cJ7_copyOf_1904c 2 = .ok (.aload_n 0, 1) := by decide +kernel
theorem dJ7_copyOf_1904c_3 : decode cJ7_copyOf_1904c 3 = .ok (.invokevirtual 86, 3) := by decide +kernel
theorem dJ7_copyOf_1904c_6 : decode cJ7_copyOf_1904c 6 = .ok (.invokestatic 300, 3) := by decide +kernel
theorem dJ7_copyOf_1904c_9 : decode cJ7_copyOf_1904c 9 = .ok (.areturn, 1) := by decide +kernel
theorem dJ7_copyOf_6403c_0 : decode cJ7_copyOf_6403c 0 = .ok (.aload_n 2, 1) := by decide +kernel
theorem dJ7_copyOf_6403c_1 : decode cJ7_copyOf_6403c 1 = .ok (.ldc 110, 2) := by decide +kernel
theorem dJ7_copyOf_6403c_3 : decode cJ7_copyOf_6403c 3 = .ok (.if_acmp .ne 10, 3) := by decide +kernel
theorem dJ7_copyOf_6403c_6 : decode cJ7_copyOf_6403c 6 = .ok (.iload_n 1, 1) := by decide +kernel
theorem dJ7_copyOf_6403c_7 : decode cJ7_copyOf_6403c 7 = .ok (.anewarray 2, 3) := by decide +kernel
theorem dJ7_copyOf_6403c_10 : decode cJ7_copyOf_6403c 10 = .ok (.goto 14, 3) := by decide +kernel
theorem dJ7_copyOf_6403c_13 : decode cJ7_copyOf_6403c 13 = .ok (.aload_n 2, 1) := by decide +kernel
theorem dJ7_copyOf_6403c_14 : decode cJ7_copyOf_6403c 14 = .ok (.invokevirtual 90, 3) := by decide +kernel
theorem dJ7_copyOf_6403c_17 : decode cJ7_copyOf_6403c 17 = .ok (.iload_n 1, 1) := by decide +kernel
theorem dJ7_copyOf_6403c_18 : decode cJ7_copyOf_6403c 18 = .ok (.invokestatic 95, 3) := by decide +kernel
theorem dJ7_copyOf_6403c_21 : decode cJ7_copyOf_6403c 21 = .ok (.checkcast 110, 3) := by decide +kernel
theorem dJ7_copyOf_6403c_24 : decode cJ7_copyOf_6403c 24 = .ok (.astore_n 3, 1) := by decide +kernel
theorem dJ7_copyOf_6403c_25 : decode cJ7_copyOf_6403c 25 = .ok (.aload_n 0, 1) := by decide +kernel
theorem dJ7_copyOf_6403c_26 : decode cJ7_copyOf_6403c 26 = .ok (.iconst 0, 1) := by decide +kernel
theorem dJ7_copyOf_6403c_27 : decode cJ7_copyOf_6403c 27 = .ok (.aload_n 3, 1) := by decide +kernel
theorem dJ7_copyOf_6403c_28 : decode cJ7_copyOf_6403c 28 = .ok (.iconst 0, 1) := by decide +kernel
theorem dJ7_copyOf_6403c_29 : decode cJ7_copyOf_6403c 29 = .ok (.aload_n 0, 1) := by decide +kernel
theorem dJ7_copyOf_6403c_30 : decode cJ7_copyOf_6403c 30 = .ok (.arraylength, 1) := by decide +kernel
theorem dJ7_copyOf_6403c_31 : decode cJ7_copyOf_6403c 31 = .ok (.iload_n 1, 1) := by decide +kernel
theorem dJ7_copyOf_6403c_32 : decode cJ7_copyOf_6403c 32 = .ok (.invokestatic 304, 3) := by decide +kernel
theorem dJ7_copyOf_6403c_35 : decode cJ7_copyOf_6403c 35 = .ok (.invokestatic 150, 3) := by decide +kernel
theorem dJ7_copyOf_6403c_38 : decode cJ7_copyOf_6403c 38 = .ok (.aload_n 3, 1) := by decide +kernel
theorem dJ7_copyOf_6403c_39 : decode cJ7_copyOf_6403c 39 = .ok (.areturn, 1) := by decide +kernel
theorem dJ15_checkIndex_7cf53_0 : decode cJ15_checkIndex_7cf53 0 = .ok (.iload_n 0, 1) := by decide +kernel
theorem dJ15_checkIndex_7cf53_1 : decode cJ15_checkIndex_7cf53 1 = .ok (.iload_n 1, 1) := by decide +kernel
theorem dJ15_checkIndex_7cf53_2 : decode cJ15_checkIndex_7cf53 2 = .ok (.aconst_null, 1) := by decide +kernel
theorem dJ15_checkIndex_7cf53_3 : decode cJ15_checkIndex_7cf53 3 = .ok (.invokestatic 105, 3) := by decide +kernel
theorem dJ15_checkIndex_7cf53_6 : decode cJ15_checkIndex_7cf53 6 = .ok (.ireturn, 1) := by decide +kernel
theorem dJ3_checkIndex_8e157_0 : decode cJ3_checkIndex_8e157 0 = .ok (.iload_n 0, 1) := by decide +kernel
theorem dJ3_checkIndex_8e157_1 : decode cJ3_checkIndex_8e157 1 = .ok (.ifCond .lt 8, 3) := by decide +kernel
theorem dJ3_checkIndex_8e157_4 : decode cJ3_checkIndex_8e157 4 = .ok (.iload_n 0, 1) := by decide +kernel
theorem dJ3_checkIndex_8e157_5 : decode cJ3_checkIndex_8e157 5 = .ok (.iload_n 1, 1) := by decide +kernel
theorem dJ3_checkIndex_8e157_6 : decode cJ3_checkIndex_8e157 6 = .ok (.if_icmp .lt 10, 3) := by decide +kernel
theorem dJ3_checkIndex_8e157_9 : decode cJ3_checkIndex_8e157 9 = .ok (.aload_n 2, 1) := by decide +kernel
theorem dJ3_checkIndex_8e157_10 : decode cJ3_checkIndex_8e157 10 = .ok (.iload_n 0, 1) := by decide +kernel
theorem dJ3_checkIndex_8e157_11 : decode cJ3_checkIndex_8e157 11 = .ok (.iload_n 1, 1) := by decide +kernel
theorem dJ3_checkIndex_8e157_12 : decode cJ3_checkIndex_8e157 12 = .ok (.invokestatic 95, 3) := by decide +kernel
theorem dJ3_checkIndex_8e157_15 : decode cJ3_checkIndex_8e157 15 = .ok (.athrow, 1) := by decide +kernel
theorem dJ3_checkIndex_8e157_16 : decode cJ3_checkIndex_8e157 16 = .ok (.iload_n 0, 1) := by decide +kernel
theorem dJ3_checkIndex_8e157_17 : decode cJ3_checkIndex_8e157 17 = .ok (.ireturn, 1) := by decide +kernel
theorem dJ8_newLength_cabcc_0 : decode cJ8_newLength_cabcc 0 = .ok (.iload_n 0, 1) := by decide +kernel
theorem dJ8_newLength_cabcc_1 : decode cJ8_newLength_cabcc 1 = .ok (.iload_n 1, 1) := by decide +kernel
theorem dJ8_newLength_cabcc_2 : decode cJ8_newLength_cabcc 2 = .ok (.iload_n 2, 1) := by decide +kernel
theorem dJ8_newLength_cabcc_3 : decode cJ8_newLength_cabcc 3 = .ok (.invokestatic 194, 3) := by decide +kernel
theorem dJ8_newLength_cabcc_6 : decode cJ8_newLength_cabcc 6 = .ok (.iadd, 1) := by decide +kernel
theorem dJ8_newLength_cabcc_7 : decode cJ8_newLength_cabcc 7 = .ok (.istore_n 3, 1) := by decide +kernel
theorem dJ8_newLength_cabcc_8 : decode cJ8_newLength_cabcc 8 = .ok (.iconst 0, 1) := by decide +kernel
theorem dJ8_newLength_cabcc_9 : decode cJ8_newLength_cabcc 9 = .ok (.iload_n 3, 1) := by decide +kernel
theorem dJ8_newLength_cabcc_10 : decode cJ8_newLength_cabcc 10 = .ok (.if_icmp .ge 11, 3) := by decide +kernel
theorem dJ8_newLength_cabcc_13 : decode cJ8_newLength_cabcc 13 = .ok (.iload_n 3, 1) := by decide +kernel
theorem dJ8_newLength_cabcc_14 : decode cJ8_newLength_cabcc 14 = .ok (.ldc 200, 2) := by decide +kernel
theorem dJ8_newLength_cabcc_16 : decode cJ8_newLength_cabcc 16 = .ok (.if_icmp .gt 5, 3) := by decide +kernel
theorem dJ8_newLength_cabcc_19 : decode cJ8_newLength_cabcc 19 = .ok (.iload_n 3, 1) := by decide +kernel
theorem dJ8_newLength_cabcc_20 : decode cJ8_newLength_cabcc 20 = .ok (.ireturn, 1) := by decide +kernel
theorem dJ8_newLength_cabcc_21 : decode cJ8_newLength_cabcc 21 = .ok (.iload_n 0, 1) := by decide +kernel
theorem dJ8_newLength_cabcc_22 : decode cJ8_newLength_cabcc 22 = .ok (.iload_n 1, 1) := by decide +kernel
theorem dJ8_newLength_cabcc_23 : decode cJ8_newLength_cabcc 23 = .ok (.invokestatic 201, 3) := by decide +kernel
theorem dJ8_newLength_cabcc_26 : decode cJ8_newLength_cabcc 26 = .ok (.ireturn, 1) := by decide +kernel
theorem dJ9_max_7cf53_0 : decode cJ9_max_7cf53 0 = .ok (.iload_n 0, 1) := by decide +kernel
theorem dJ9_max_7cf53_1 : decode cJ9_max_7cf53 1 = .ok (.iload_n 1, 1) := by decide +kernel
theorem dJ9_max_7cf53_2 : decode cJ9_max_7cf53 2 = .ok (.if_icmp .lt 7, 3) := by decide +kernel
theorem dJ9_max_7cf53_5 : decode cJ9_max_7cf53 5 = .ok (.iload_n 0, 1) := by decide +kernel
theorem dJ9_max_7cf53_6 : decode cJ9_max_7cf53 6 = .ok (.goto 4, 3) := by decide +kernel
theorem dJ9_max_7cf53_9 : decode cJ9_max_7cf53 9 = .ok (.iload_n 1, 1) := by decide +kernel
theorem dJ9_max_7cf53_10 : decode cJ9_max_7cf53 10 = .ok (.ireturn, 1) := by decide +kernel
theorem dJ9_min_7cf53_0 : decode cJ9_min_7cf53 0 = .ok (.iload_n 0, 1) := by decide +kernel
theorem dJ9_min_7cf53_1 : decode cJ9_min_7cf53 1 = .ok (.iload_n 1, 1) := by decide +kernel
theorem dJ9_min_7cf53_2 : decode cJ9_min_7cf53 2 = .ok (.if_icmp .gt 7, 3) := by decide +kernel
theorem dJ9_min_7cf53_5 : decode cJ9_min_7cf53 5 = .ok (.iload_n 0, 1) := by decide +kernel
theorem dJ9_min_7cf53_6 : decode cJ9_min_7cf53 6 = .ok (.goto 4, 3) := by decide +kernel
theorem dJ9_min_7cf53_9 : decode cJ9_min_7cf53 9 = .ok (.iload_n 1, 1) := by decide +kernel
theorem dJ9_min_7cf53_10 : decode cJ9_min_7cf53 10 = .ok (.ireturn, 1) := by decide +kernel
end
section
theorem dL_wall_0 : decode cL_wall 0 = .ok (.aload_n 0, 1) := by decide +kernel
theorem dL_wall_1 : decode cL_wall 1 = .ok (.iload_n 1, 1) := by decide +kernel
theorem dL_wall_2 : decode cL_wall 2 = .ok (.invokevirtual 7, 3) := by decide +kernel
theorem dL_wall_5 : decode cL_wall 5 = .ok (.goto 9, 3) := by decide +kernel
theorem dL_wall_8 : decode cL_wall 8 = .ok (.astore_n 2, 1) := by decide +kernel
theorem dL_wall_9 : decode cL_wall 9 = .ok (.iconst 1, 1) := by decide +kernel
theorem dL_wall_10 : decode cL_wall 10 = .ok (.ireturn, 1) := by decide +kernel
theorem dL_wall_11 : decode cL_wall 11 = .ok (.astore_n 2, 1) := by decide +kernel
theorem dL_wall_12 : decode cL_wall 12 = .ok (.iconst 2, 1) := by decide +kernel
theorem dL_wall_13 : decode cL_wall 13 = .ok (.ireturn, 1) := by decide +kernel
theorem dL_wall_14 : decode cL_wall 14 = .ok (.iconst 0, 1) := by decide +kernel
theorem dL_wall_15 : decode cL_wall 15 = .ok (.ireturn, 1) := by decide +kernel
theorem dL_setClosed_0 : decode cL_setClosed 0 = .ok (.aload_n 3, 1) := by decide +kernel
theorem dL_setClosed_1 : decode cL_setClosed 1 = .ok (.iconst 0, 1) := by decide +kernel
theorem dL_setClosed_2 : decode cL_setClosed 2 = .ok (.aload_n 0, 1) := by decide +kernel
theorem dL_setClosed_3 : decode cL_setClosed 3 = .ok (.iload_n 1, 1) := by decide +kernel
theorem dL_setClosed_4 : decode cL_setClosed 4 = .ok (.iload_n 2, 1) := by decide +kernel
theorem dL_setClosed_5 : decode cL_setClosed 5 = .ok (.invokevirtual 17, 3) := by decide +kernel
theorem dL_setClosed_8 : decode cL_setClosed 8 = .ok (.ifCond .eq 7, 3) := by decide +kernel
theorem dL_setClosed_11 : decode cL_setClosed 11 = .ok (.lconst 1, 1) := by decide +kernel
theorem dL_setClosed_12 : decode cL_setClosed 12 = .ok (.goto 4, 3) := by decide +kernel
theorem dL_setClosed_15 : decode cL_setClosed 15 = .ok (.lconst 0, 1) := by decide +kernel
theorem dL_setClosed_16 : decode cL_setClosed 16 = .ok (.lastore, 1) := by decide +kernel
theorem dL_setClosed_17 : decode cL_setClosed 17 = .ok (.goto 7, 3) := by decide +kernel
theorem dL_setClosed_20 : decode cL_setClosed 20 = .ok (.astore 4, 2) := by decide +kernel
theorem dL_setClosed_22 : decode cL_setClosed 22 = .ok (.iconst 1, 1) := by decide +kernel
theorem dL_setClosed_23 : decode cL_setClosed 23 = .ok (.ireturn, 1) := by decide +kernel
theorem dL_setClosed_24 : decode cL_setClosed 24 = .ok (.iconst 0, 1) := by decide +kernel
theorem dL_setClosed_25 : decode cL_setClosed 25 = .ok (.ireturn, 1) := by decide +kernel
theorem dL_distance_0 : decode cL_distance 0 = .ok (.aload_n 3, 1) := by decide +kernel
theorem dL_distance_1 : decode cL_distance 1 = .ok (.iconst 0, 1) := by decide +kernel
theorem dL_distance_2 : decode cL_distance 2 = .ok (.aload_n 0, 1) := by decide +kernel
theorem dL_distance_3 : decode cL_distance 3 = .ok (.iload_n 1, 1) := by decide +kernel
theorem dL_distance_4 : decode cL_distance 4 = .ok (.iload_n 2, 1) := by decide +kernel
theorem dL_distance_5 : decode cL_distance 5 = .ok (.invokevirtual 21, 3) := by decide +kernel
theorem dL_distance_8 : decode cL_distance 8 = .ok (.i2l, 1) := by decide +kernel
theorem dL_distance_9 : decode cL_distance 9 = .ok (.lastore, 1) := by decide +kernel
theorem dL_distance_10 : decode cL_distance 10 = .ok (.goto 7, 3) := by decide +kernel
theorem dL_distance_13 : decode cL_distance 13 = .ok (.astore 4, 2) := by decide +kernel
theorem dL_distance_15 : decode cL_distance 15 = .ok (.iconst 1, 1) := by decide +kernel
theorem dL_distance_16 : decode cL_distance 16 = .ok (.ireturn, 1) := by decide +kernel
theorem dL_distance_17 : decode cL_distance 17 = .ok (.iconst 0, 1) := by decide +kernel
theorem dL_distance_18 : decode cL_distance 18 = .ok (.ireturn, 1) := by decide +kernel
theorem dL_addStation_0 : decode cL_addStation 0 = .ok (.aload_n 2, 1) := by decide +kernel
theorem dL_addStation_1 : decode cL_addStation 1 = .ok (.iconst 0, 1) := by decide +kernel
theorem dL_addStation_2 : decode cL_addStation 2 = .ok (.aload_n 0, 1) := by decide +kernel
theorem dL_addStation_3 : decode cL_addStation 3 = .ok (.iload_n 1, 1) := by decide +kernel
theorem dL_addStation_4 : decode cL_addStation 4 = .ok (.invokevirtual 25, 3) := by decide +kernel
theorem dL_addStation_7 : decode cL_addStation 7 = .ok (.i2l, 1) := by decide +kernel
theorem dL_addStation_8 : decode cL_addStation 8 = .ok (.lastore, 1) := by decide +kernel
theorem dL_addStation_9 : decode cL_addStation 9 = .ok (.goto 9, 3) := by decide +kernel
theorem dL_addStation_12 : decode cL_addStation 12 = .ok (.astore_n 3, 1) := by decide +kernel
theorem dL_addStation_13 : decode cL_addStation 13 = .ok (.iconst 1, 1) := by decide +kernel
theorem dL_addStation_14 : decode cL_addStation 14 = .ok (.ireturn, 1) := by decide +kernel
theorem dL_addStation_15 : decode cL_addStation 15 = .ok (.astore_n 3, 1) := by decide +kernel
theorem dL_addStation_16 : decode cL_addStation 16 = .ok (.iconst 2, 1) := by decide +kernel
theorem dL_addStation_17 : decode cL_addStation 17 = .ok (.ireturn, 1) := by decide +kernel
theorem dL_addStation_18 : decode cL_addStation 18 = .ok (.iconst 0, 1) := by decide +kernel
theorem dL_addStation_19 : decode cL_addStation 19 = .ok (.ireturn, 1) := by decide +kernel
theorem dL_addTray_0 : decode cL_addTray 0 = .ok (.aload 4, 2) := by decide +kernel
theorem dL_addTray_2 : decode cL_addTray 2 = .ok (.iconst 0, 1) := by decide +kernel
theorem dL_addTray_3 : decode cL_addTray 3 = .ok (.aload_n 0, 1) := by decide +kernel
theorem dL_addTray_4 : decode cL_addTray 4 = .ok (.iload_n 1, 1) := by decide +kernel
theorem dL_addTray_5 : decode cL_addTray 5 = .ok (.iload_n 2, 1) := by decide +kernel
theorem dL_addTray_6 : decode cL_addTray 6 = .ok (.iload_n 3, 1) := by decide +kernel
theorem dL_addTray_7 : decode cL_addTray 7 = .ok (.invokevirtual 29, 3) := by decide +kernel
theorem dL_addTray_10 : decode cL_addTray 10 = .ok (.i2l, 1) := by decide +kernel
theorem dL_addTray_11 : decode cL_addTray 11 = .ok (.lastore, 1) := by decide +kernel
theorem dL_addTray_12 : decode cL_addTray 12 = .ok (.goto 11, 3) := by decide +kernel
theorem dL_addTray_15 : decode cL_addTray 15 = .ok (.astore 5, 2) := by decide +kernel
theorem dL_addTray_17 : decode cL_addTray 17 = .ok (.iconst 1, 1) := by decide +kernel
theorem dL_addTray_18 : decode cL_addTray 18 = .ok (.ireturn, 1) := by decide +kernel
theorem dL_addTray_19 : decode cL_addTray 19 = .ok (.astore 5, 2) := by decide +kernel
theorem dL_addTray_21 : decode cL_addTray 21 = .ok (.iconst 2, 1) := by decide +kernel
theorem dL_addTray_22 : decode cL_addTray 22 = .ok (.ireturn, 1) := by decide +kernel
theorem dL_addTray_23 : decode cL_addTray 23 = .ok (.iconst 0, 1) := by decide +kernel
theorem dL_addTray_24 : decode cL_addTray 24 = .ok (.ireturn, 1) := by decide +kernel
theorem dL_fill_0 : decode cL_fill 0 = .ok (.aload_n 3, 1) := by decide +kernel
theorem dL_fill_1 : decode cL_fill 1 = .ok (.iconst 0, 1) := by decide +kernel
theorem dL_fill_2 : decode cL_fill 2 = .ok (.aload_n 0, 1) := by decide +kernel
theorem dL_fill_3 : decode cL_fill 3 = .ok (.iload_n 1, 1) := by decide +kernel
theorem dL_fill_4 : decode cL_fill 4 = .ok (.iload_n 2, 1) := by decide +kernel
theorem dL_fill_5 : decode cL_fill 5 = .ok (.invokevirtual 33, 3) := by decide +kernel
theorem dL_fill_8 : decode cL_fill 8 = .ok (.i2l, 1) := by decide +kernel
theorem dL_fill_9 : decode cL_fill 9 = .ok (.lastore, 1) := by decide +kernel
theorem dL_fill_10 : decode cL_fill 10 = .ok (.goto 15, 3) := by decide +kernel
theorem dL_fill_13 : decode cL_fill 13 = .ok (.astore 4, 2) := by decide +kernel
theorem dL_fill_15 : decode cL_fill 15 = .ok (.iconst 1, 1) := by decide +kernel
theorem dL_fill_16 : decode cL_fill 16 = .ok (.ireturn, 1) := by decide +kernel
theorem dL_fill_17 : decode cL_fill 17 = .ok (.astore 4, 2) := by decide +kernel
theorem dL_fill_19 : decode cL_fill 19 = .ok (.iconst 2, 1) := by decide +kernel
theorem dL_fill_20 : decode cL_fill 20 = .ok (.ireturn, 1) := by decide +kernel
theorem dL_fill_21 : decode cL_fill 21 = .ok (.astore 4, 2) := by decide +kernel
theorem dL_fill_23 : decode cL_fill 23 = .ok (.iconst 3, 1) := by decide +kernel
theorem dL_fill_24 : decode cL_fill 24 = .ok (.ireturn, 1) := by decide +kernel
theorem dL_fill_25 : decode cL_fill 25 = .ok (.iconst 0, 1) := by decide +kernel
theorem dL_fill_26 : decode cL_fill 26 = .ok (.ireturn, 1) := by decide +kernel
theorem dL_addOrder_0 : decode cL_addOrder 0 = .ok (.aload_n 1, 1) := by decide +kernel
theorem dL_addOrder_1 : decode cL_addOrder 1 = .ok (.iconst 0, 1) := by decide +kernel
theorem dL_addOrder_2 : decode cL_addOrder 2 = .ok (.aload_n 0, 1) := by decide +kernel
theorem dL_addOrder_3 : decode cL_addOrder 3 = .ok (.invokevirtual 38, 3) := by decide +kernel
theorem dL_addOrder_6 : decode cL_addOrder 6 = .ok (.i2l, 1) := by decide +kernel
theorem dL_addOrder_7 : decode cL_addOrder 7 = .ok (.lastore, 1) := by decide +kernel
theorem dL_addOrder_8 : decode cL_addOrder 8 = .ok (.goto 6, 3) := by decide +kernel
theorem dL_addOrder_11 : decode cL_addOrder 11 = .ok (.astore_n 2, 1) := by decide +kernel
theorem dL_addOrder_12 : decode cL_addOrder 12 = .ok (.iconst 1, 1) := by decide +kernel
theorem dL_addOrder_13 : decode cL_addOrder 13 = .ok (.ireturn, 1) := by decide +kernel
theorem dL_addOrder_14 : decode cL_addOrder 14 = .ok (.iconst 0, 1) := by decide +kernel
theorem dL_addOrder_15 : decode cL_addOrder 15 = .ok (.ireturn, 1) := by decide +kernel
theorem dL_addLine_0 : decode cL_addLine 0 = .ok (.aload 4, 2) := by decide +kernel
theorem dL_addLine_2 : decode cL_addLine 2 = .ok (.iconst 0, 1) := by decide +kernel
theorem dL_addLine_3 : decode cL_addLine 3 = .ok (.aload_n 0, 1) := by decide +kernel
theorem dL_addLine_4 : decode cL_addLine 4 = .ok (.iload_n 1, 1) := by decide +kernel
theorem dL_addLine_5 : decode cL_addLine 5 = .ok (.iload_n 2, 1) := by decide +kernel
theorem dL_addLine_6 : decode cL_addLine 6 = .ok (.iload_n 3, 1) := by decide +kernel
theorem dL_addLine_7 : decode cL_addLine 7 = .ok (.invokevirtual 42, 3) := by decide +kernel
theorem dL_addLine_10 : decode cL_addLine 10 = .ok (.i2l, 1) := by decide +kernel
theorem dL_addLine_11 : decode cL_addLine 11 = .ok (.lastore, 1) := by decide +kernel
theorem dL_addLine_12 : decode cL_addLine 12 = .ok (.goto 15, 3) := by decide +kernel
theorem dL_addLine_15 : decode cL_addLine 15 = .ok (.astore 5, 2) := by decide +kernel
theorem dL_addLine_17 : decode cL_addLine 17 = .ok (.iconst 1, 1) := by decide +kernel
theorem dL_addLine_18 : decode cL_addLine 18 = .ok (.ireturn, 1) := by decide +kernel
theorem dL_addLine_19 : decode cL_addLine 19 = .ok (.astore 5, 2) := by decide +kernel
theorem dL_addLine_21 : decode cL_addLine 21 = .ok (.iconst 2, 1) := by decide +kernel
theorem dL_addLine_22 : decode cL_addLine 22 = .ok (.ireturn, 1) := by decide +kernel
theorem dL_addLine_23 : decode cL_addLine 23 = .ok (.astore 5, 2) := by decide +kernel
theorem dL_addLine_25 : decode cL_addLine 25 = .ok (.iconst 3, 1) := by decide +kernel
theorem dL_addLine_26 : decode cL_addLine 26 = .ok (.ireturn, 1) := by decide +kernel
theorem dL_addLine_27 : decode cL_addLine 27 = .ok (.iconst 0, 1) := by decide +kernel
theorem dL_addLine_28 : decode cL_addLine 28 = .ok (.ireturn, 1) := by decide +kernel
theorem dL_claim_0 : decode cL_claim 0 = .ok (.aload 4, 2) := by decide +kernel
theorem dL_claim_2 : decode cL_claim 2 = .ok (.iconst 0, 1) := by decide +kernel
theorem dL_claim_3 : decode cL_claim 3 = .ok (.aload_n 0, 1) := by decide +kernel
theorem dL_claim_4 : decode cL_claim 4 = .ok (.iload_n 1, 1) := by decide +kernel
theorem dL_claim_5 : decode cL_claim 5 = .ok (.iload_n 2, 1) := by decide +kernel
theorem dL_claim_6 : decode cL_claim 6 = .ok (.iload_n 3, 1) := by decide +kernel
theorem dL_claim_7 : decode cL_claim 7 = .ok (.invokevirtual 45, 3) := by decide +kernel
theorem dL_claim_10 : decode cL_claim 10 = .ok (.i2l, 1) := by decide +kernel
theorem dL_claim_11 : decode cL_claim 11 = .ok (.lastore, 1) := by decide +kernel
theorem dL_claim_12 : decode cL_claim 12 = .ok (.goto 11, 3) := by decide +kernel
theorem dL_claim_15 : decode cL_claim 15 = .ok (.astore 5, 2) := by decide +kernel
theorem dL_claim_17 : decode cL_claim 17 = .ok (.iconst 1, 1) := by decide +kernel
theorem dL_claim_18 : decode cL_claim 18 = .ok (.ireturn, 1) := by decide +kernel
theorem dL_claim_19 : decode cL_claim 19 = .ok (.astore 5, 2) := by decide +kernel
theorem dL_claim_21 : decode cL_claim 21 = .ok (.iconst 2, 1) := by decide +kernel
theorem dL_claim_22 : decode cL_claim 22 = .ok (.ireturn, 1) := by decide +kernel
theorem dL_claim_23 : decode cL_claim 23 = .ok (.iconst 0, 1) := by decide +kernel
theorem dL_claim_24 : decode cL_claim 24 = .ok (.ireturn, 1) := by decide +kernel
theorem dL_giveUp_0 : decode cL_giveUp 0 = .ok (.aload_n 3, 1) := by decide +kernel
theorem dL_giveUp_1 : decode cL_giveUp 1 = .ok (.iconst 0, 1) := by decide +kernel
theorem dL_giveUp_2 : decode cL_giveUp 2 = .ok (.aload_n 0, 1) := by decide +kernel
theorem dL_giveUp_3 : decode cL_giveUp 3 = .ok (.iload_n 1, 1) := by decide +kernel
theorem dL_giveUp_4 : decode cL_giveUp 4 = .ok (.iload_n 2, 1) := by decide +kernel
theorem dL_giveUp_5 : decode cL_giveUp 5 = .ok (.invokevirtual 48, 3) := by decide +kernel
theorem dL_giveUp_8 : decode cL_giveUp 8 = .ok (.i2l, 1) := by decide +kernel
theorem dL_giveUp_9 : decode cL_giveUp 9 = .ok (.lastore, 1) := by decide +kernel
theorem dL_giveUp_10 : decode cL_giveUp 10 = .ok (.goto 11, 3) := by decide +kernel
theorem dL_giveUp_13 : decode cL_giveUp 13 = .ok (.astore 4, 2) := by decide +kernel
theorem dL_giveUp_15 : decode cL_giveUp 15 = .ok (.iconst 1, 1) := by decide +kernel
theorem dL_giveUp_16 : decode cL_giveUp 16 = .ok (.ireturn, 1) := by decide +kernel
theorem dL_giveUp_17 : decode cL_giveUp 17 = .ok (.astore 4, 2) := by decide +kernel
theorem dL_giveUp_19 : decode cL_giveUp 19 = .ok (.iconst 2, 1) := by decide +kernel
theorem dL_giveUp_20 : decode cL_giveUp 20 = .ok (.ireturn, 1) := by decide +kernel
theorem dL_giveUp_21 : decode cL_giveUp 21 = .ok (.iconst 0, 1) := by decide +kernel
theorem dL_giveUp_22 : decode cL_giveUp 22 = .ok (.ireturn, 1) := by decide +kernel
theorem dL_left_0 : decode cL_left 0 = .ok (.aload_n 3, 1) := by decide +kernel
theorem dL_left_1 : decode cL_left 1 = .ok (.iconst 0, 1) := by decide +kernel
theorem dL_left_2 : decode cL_left 2 = .ok (.aload_n 0, 1) := by decide +kernel
theorem dL_left_3 : decode cL_left 3 = .ok (.iload_n 1, 1) := by decide +kernel
theorem dL_left_4 : decode cL_left 4 = .ok (.iload_n 2, 1) := by decide +kernel
theorem dL_left_5 : decode cL_left 5 = .ok (.invokevirtual 51, 3) := by decide +kernel
theorem dL_left_8 : decode cL_left 8 = .ok (.i2l, 1) := by decide +kernel
theorem dL_left_9 : decode cL_left 9 = .ok (.lastore, 1) := by decide +kernel
theorem dL_left_10 : decode cL_left 10 = .ok (.goto 7, 3) := by decide +kernel
theorem dL_left_13 : decode cL_left 13 = .ok (.astore 4, 2) := by decide +kernel
theorem dL_left_15 : decode cL_left 15 = .ok (.iconst 1, 1) := by decide +kernel
theorem dL_left_16 : decode cL_left 16 = .ok (.ireturn, 1) := by decide +kernel
theorem dL_left_17 : decode cL_left 17 = .ok (.iconst 0, 1) := by decide +kernel
theorem dL_left_18 : decode cL_left 18 = .ok (.ireturn, 1) := by decide +kernel
theorem dL_claimant_0 : decode cL_claimant 0 = .ok (.aload_n 3, 1) := by decide +kernel
theorem dL_claimant_1 : decode cL_claimant 1 = .ok (.iconst 0, 1) := by decide +kernel
theorem dL_claimant_2 : decode cL_claimant 2 = .ok (.aload_n 0, 1) := by decide +kernel
theorem dL_claimant_3 : decode cL_claimant 3 = .ok (.iload_n 1, 1) := by decide +kernel
theorem dL_claimant_4 : decode cL_claimant 4 = .ok (.iload_n 2, 1) := by decide +kernel
theorem dL_claimant_5 : decode cL_claimant 5 = .ok (.invokevirtual 54, 3) := by decide +kernel
theorem dL_claimant_8 : decode cL_claimant 8 = .ok (.i2l, 1) := by decide +kernel
theorem dL_claimant_9 : decode cL_claimant 9 = .ok (.lastore, 1) := by decide +kernel
theorem dL_claimant_10 : decode cL_claimant 10 = .ok (.goto 7, 3) := by decide +kernel
theorem dL_claimant_13 : decode cL_claimant 13 = .ok (.astore 4, 2) := by decide +kernel
theorem dL_claimant_15 : decode cL_claimant 15 = .ok (.iconst 1, 1) := by decide +kernel
theorem dL_claimant_16 : decode cL_claimant 16 = .ok (.ireturn, 1) := by decide +kernel
theorem dL_claimant_17 : decode cL_claimant 17 = .ok (.iconst 0, 1) := by decide +kernel
theorem dL_claimant_18 : decode cL_claimant 18 = .ok (.ireturn, 1) := by decide +kernel
theorem dL_amount_0 : decode cL_amount 0 = .ok (.aload_n 2, 1) := by decide +kernel
theorem dL_amount_1 : decode cL_amount 1 = .ok (.iconst 0, 1) := by decide +kernel
theorem dL_amount_2 : decode cL_amount 2 = .ok (.aload_n 0, 1) := by decide +kernel
theorem dL_amount_3 : decode cL_amount 3 = .ok (.iload_n 1, 1) := by decide +kernel
theorem dL_amount_4 : decode cL_amount 4 = .ok (.invokevirtual 57, 3) := by decide +kernel
theorem dL_amount_7 : decode cL_amount 7 = .ok (.i2l, 1) := by decide +kernel
theorem dL_amount_8 : decode cL_amount 8 = .ok (.lastore, 1) := by decide +kernel
theorem dL_amount_9 : decode cL_amount 9 = .ok (.goto 6, 3) := by decide +kernel
theorem dL_amount_12 : decode cL_amount 12 = .ok (.astore_n 3, 1) := by decide +kernel
theorem dL_amount_13 : decode cL_amount 13 = .ok (.iconst 1, 1) := by decide +kernel
theorem dL_amount_14 : decode cL_amount 14 = .ok (.ireturn, 1) := by decide +kernel
theorem dL_amount_15 : decode cL_amount 15 = .ok (.iconst 0, 1) := by decide +kernel
theorem dL_amount_16 : decode cL_amount 16 = .ok (.ireturn, 1) := by decide +kernel
theorem dL_trayCell_0 : decode cL_trayCell 0 = .ok (.aload_n 2, 1) := by decide +kernel
theorem dL_trayCell_1 : decode cL_trayCell 1 = .ok (.iconst 0, 1) := by decide +kernel
theorem dL_trayCell_2 : decode cL_trayCell 2 = .ok (.aload_n 0, 1) := by decide +kernel
theorem dL_trayCell_3 : decode cL_trayCell 3 = .ok (.iload_n 1, 1) := by decide +kernel
theorem dL_trayCell_4 : decode cL_trayCell 4 = .ok (.invokevirtual 60, 3) := by decide +kernel
theorem dL_trayCell_7 : decode cL_trayCell 7 = .ok (.i2l, 1) := by decide +kernel
theorem dL_trayCell_8 : decode cL_trayCell 8 = .ok (.lastore, 1) := by decide +kernel
theorem dL_trayCell_9 : decode cL_trayCell 9 = .ok (.goto 6, 3) := by decide +kernel
theorem dL_trayCell_12 : decode cL_trayCell 12 = .ok (.astore_n 3, 1) := by decide +kernel
theorem dL_trayCell_13 : decode cL_trayCell 13 = .ok (.iconst 1, 1) := by decide +kernel
theorem dL_trayCell_14 : decode cL_trayCell 14 = .ok (.ireturn, 1) := by decide +kernel
theorem dL_trayCell_15 : decode cL_trayCell 15 = .ok (.iconst 0, 1) := by decide +kernel
theorem dL_trayCell_16 : decode cL_trayCell 16 = .ok (.ireturn, 1) := by decide +kernel
theorem dL_addRobot_0 : decode cL_addRobot 0 = .ok (.aload_n 3, 1) := by decide +kernel
theorem dL_addRobot_1 : decode cL_addRobot 1 = .ok (.iconst 0, 1) := by decide +kernel
theorem dL_addRobot_2 : decode cL_addRobot 2 = .ok (.aload_n 0, 1) := by decide +kernel
theorem dL_addRobot_3 : decode cL_addRobot 3 = .ok (.iload_n 1, 1) := by decide +kernel
theorem dL_addRobot_4 : decode cL_addRobot 4 = .ok (.iload_n 2, 1) := by decide +kernel
theorem dL_addRobot_5 : decode cL_addRobot 5 = .ok (.invokevirtual 63, 3) := by decide +kernel
theorem dL_addRobot_8 : decode cL_addRobot 8 = .ok (.i2l, 1) := by decide +kernel
theorem dL_addRobot_9 : decode cL_addRobot 9 = .ok (.lastore, 1) := by decide +kernel
theorem dL_addRobot_10 : decode cL_addRobot 10 = .ok (.goto 11, 3) := by decide +kernel
theorem dL_addRobot_13 : decode cL_addRobot 13 = .ok (.astore 4, 2) := by decide +kernel
theorem dL_addRobot_15 : decode cL_addRobot 15 = .ok (.iconst 1, 1) := by decide +kernel
theorem dL_addRobot_16 : decode cL_addRobot 16 = .ok (.ireturn, 1) := by decide +kernel
theorem dL_addRobot_17 : decode cL_addRobot 17 = .ok (.astore 4, 2) := by decide +kernel
theorem dL_addRobot_19 : decode cL_addRobot 19 = .ok (.iconst 2, 1) := by decide +kernel
theorem dL_addRobot_20 : decode cL_addRobot 20 = .ok (.ireturn, 1) := by decide +kernel
theorem dL_addRobot_21 : decode cL_addRobot 21 = .ok (.iconst 0, 1) := by decide +kernel
theorem dL_addRobot_22 : decode cL_addRobot 22 = .ok (.ireturn, 1) := by decide +kernel
theorem dL_die_0 : decode cL_die 0 = .ok (.aload_n 2, 1) := by decide +kernel
theorem dL_die_1 : decode cL_die 1 = .ok (.iconst 0, 1) := by decide +kernel
theorem dL_die_2 : decode cL_die 2 = .ok (.aload_n 0, 1) := by decide +kernel
theorem dL_die_3 : decode cL_die 3 = .ok (.iload_n 1, 1) := by decide +kernel
theorem dL_die_4 : decode cL_die 4 = .ok (.invokevirtual 66, 3) := by decide +kernel
theorem dL_die_7 : decode cL_die 7 = .ok (.i2l, 1) := by decide +kernel
theorem dL_die_8 : decode cL_die 8 = .ok (.lastore, 1) := by decide +kernel
theorem dL_die_9 : decode cL_die 9 = .ok (.goto 9, 3) := by decide +kernel
theorem dL_die_12 : decode cL_die 12 = .ok (.astore_n 3, 1) := by decide +kernel
theorem dL_die_13 : decode cL_die 13 = .ok (.iconst 1, 1) := by decide +kernel
theorem dL_die_14 : decode cL_die 14 = .ok (.ireturn, 1) := by decide +kernel
theorem dL_die_15 : decode cL_die 15 = .ok (.astore_n 3, 1) := by decide +kernel
theorem dL_die_16 : decode cL_die 16 = .ok (.iconst 2, 1) := by decide +kernel
theorem dL_die_17 : decode cL_die 17 = .ok (.ireturn, 1) := by decide +kernel
theorem dL_die_18 : decode cL_die 18 = .ok (.iconst 0, 1) := by decide +kernel
theorem dL_die_19 : decode cL_die 19 = .ok (.ireturn, 1) := by decide +kernel
theorem dL_repair_0 : decode cL_repair 0 = .ok (.aload_n 2, 1) := by decide +kernel
theorem dL_repair_1 : decode cL_repair 1 = .ok (.iconst 0, 1) := by decide +kernel
theorem dL_repair_2 : decode cL_repair 2 = .ok (.aload_n 0, 1) := by decide +kernel
theorem dL_repair_3 : decode cL_repair 3 = .ok (.iload_n 1, 1) := by decide +kernel
theorem dL_repair_4 : decode cL_repair 4 = .ok (.invokevirtual 69, 3) := by decide +kernel
theorem dL_repair_7 : decode cL_repair 7 = .ok (.i2l, 1) := by decide +kernel
theorem dL_repair_8 : decode cL_repair 8 = .ok (.lastore, 1) := by decide +kernel
theorem dL_repair_9 : decode cL_repair 9 = .ok (.goto 9, 3) := by decide +kernel
theorem dL_repair_12 : decode cL_repair 12 = .ok (.astore_n 3, 1) := by decide +kernel
theorem dL_repair_13 : decode cL_repair 13 = .ok (.iconst 1, 1) := by decide +kernel
theorem dL_repair_14 : decode cL_repair 14 = .ok (.ireturn, 1) := by decide +kernel
theorem dL_repair_15 : decode cL_repair 15 = .ok (.astore_n 3, 1) := by decide +kernel
theorem dL_repair_16 : decode cL_repair 16 = .ok (.iconst 2, 1) := by decide +kernel
theorem dL_repair_17 : decode cL_repair 17 = .ok (.ireturn, 1) := by decide +kernel
theorem dL_repair_18 : decode cL_repair 18 = .ok (.iconst 0, 1) := by decide +kernel
theorem dL_repair_19 : decode cL_repair 19 = .ok (.ireturn, 1) := by decide +kernel
theorem dL_robotIn_0 : decode cL_robotIn 0 = .ok (.aload_n 2, 1) := by decide +kernel
theorem dL_robotIn_1 : decode cL_robotIn 1 = .ok (.iconst 0, 1) := by decide +kernel
theorem dL_robotIn_2 : decode cL_robotIn 2 = .ok (.aload_n 0, 1) := by decide +kernel
theorem dL_robotIn_3 : decode cL_robotIn 3 = .ok (.iload_n 1, 1) := by decide +kernel
theorem dL_robotIn_4 : decode cL_robotIn 4 = .ok (.invokevirtual 72, 3) := by decide +kernel
theorem dL_robotIn_7 : decode cL_robotIn 7 = .ok (.i2l, 1) := by decide +kernel
theorem dL_robotIn_8 : decode cL_robotIn 8 = .ok (.lastore, 1) := by decide +kernel
theorem dL_robotIn_9 : decode cL_robotIn 9 = .ok (.goto 6, 3) := by decide +kernel
theorem dL_robotIn_12 : decode cL_robotIn 12 = .ok (.astore_n 3, 1) := by decide +kernel
theorem dL_robotIn_13 : decode cL_robotIn 13 = .ok (.iconst 1, 1) := by decide +kernel
theorem dL_robotIn_14 : decode cL_robotIn 14 = .ok (.ireturn, 1) := by decide +kernel
theorem dL_robotIn_15 : decode cL_robotIn 15 = .ok (.iconst 0, 1) := by decide +kernel
theorem dL_robotIn_16 : decode cL_robotIn 16 = .ok (.ireturn, 1) := by decide +kernel
theorem dL_cellOf_0 : decode cL_cellOf 0 = .ok (.aload_n 2, 1) := by decide +kernel
theorem dL_cellOf_1 : decode cL_cellOf 1 = .ok (.iconst 0, 1) := by decide +kernel
theorem dL_cellOf_2 : decode cL_cellOf 2 = .ok (.aload_n 0, 1) := by decide +kernel
theorem dL_cellOf_3 : decode cL_cellOf 3 = .ok (.iload_n 1, 1) := by decide +kernel
theorem dL_cellOf_4 : decode cL_cellOf 4 = .ok (.invokevirtual 75, 3) := by decide +kernel
theorem dL_cellOf_7 : decode cL_cellOf 7 = .ok (.i2l, 1) := by decide +kernel
theorem dL_cellOf_8 : decode cL_cellOf 8 = .ok (.lastore, 1) := by decide +kernel
theorem dL_cellOf_9 : decode cL_cellOf 9 = .ok (.goto 6, 3) := by decide +kernel
theorem dL_cellOf_12 : decode cL_cellOf 12 = .ok (.astore_n 3, 1) := by decide +kernel
theorem dL_cellOf_13 : decode cL_cellOf 13 = .ok (.iconst 1, 1) := by decide +kernel
theorem dL_cellOf_14 : decode cL_cellOf 14 = .ok (.ireturn, 1) := by decide +kernel
theorem dL_cellOf_15 : decode cL_cellOf 15 = .ok (.iconst 0, 1) := by decide +kernel
theorem dL_cellOf_16 : decode cL_cellOf 16 = .ok (.ireturn, 1) := by decide +kernel
theorem dL_state_0 : decode cL_state 0 = .ok (.aload_n 2, 1) := by decide +kernel
theorem dL_state_1 : decode cL_state 1 = .ok (.iconst 0, 1) := by decide +kernel
theorem dL_state_2 : decode cL_state 2 = .ok (.aload_n 0, 1) := by decide +kernel
theorem dL_state_3 : decode cL_state 3 = .ok (.iload_n 1, 1) := by decide +kernel
theorem dL_state_4 : decode cL_state 4 = .ok (.invokevirtual 78, 3) := by decide +kernel
theorem dL_state_7 : decode cL_state 7 = .ok (.i2l, 1) := by decide +kernel
theorem dL_state_8 : decode cL_state 8 = .ok (.lastore, 1) := by decide +kernel
theorem dL_state_9 : decode cL_state 9 = .ok (.goto 6, 3) := by decide +kernel
theorem dL_state_12 : decode cL_state 12 = .ok (.astore_n 3, 1) := by decide +kernel
theorem dL_state_13 : decode cL_state 13 = .ok (.iconst 1, 1) := by decide +kernel
theorem dL_state_14 : decode cL_state 14 = .ok (.ireturn, 1) := by decide +kernel
theorem dL_state_15 : decode cL_state 15 = .ok (.iconst 0, 1) := by decide +kernel
theorem dL_state_16 : decode cL_state 16 = .ok (.ireturn, 1) := by decide +kernel
theorem dL_trayOf_0 : decode cL_trayOf 0 = .ok (.aload_n 2, 1) := by decide +kernel
theorem dL_trayOf_1 : decode cL_trayOf 1 = .ok (.iconst 0, 1) := by decide +kernel
theorem dL_trayOf_2 : decode cL_trayOf 2 = .ok (.aload_n 0, 1) := by decide +kernel
theorem dL_trayOf_3 : decode cL_trayOf 3 = .ok (.iload_n 1, 1) := by decide +kernel
theorem dL_trayOf_4 : decode cL_trayOf 4 = .ok (.invokevirtual 81, 3) := by decide +kernel
theorem dL_trayOf_7 : decode cL_trayOf 7 = .ok (.i2l, 1) := by decide +kernel
theorem dL_trayOf_8 : decode cL_trayOf 8 = .ok (.lastore, 1) := by decide +kernel
theorem dL_trayOf_9 : decode cL_trayOf 9 = .ok (.goto 6, 3) := by decide +kernel
theorem dL_trayOf_12 : decode cL_trayOf 12 = .ok (.astore_n 3, 1) := by decide +kernel
theorem dL_trayOf_13 : decode cL_trayOf 13 = .ok (.iconst 1, 1) := by decide +kernel
theorem dL_trayOf_14 : decode cL_trayOf 14 = .ok (.ireturn, 1) := by decide +kernel
theorem dL_trayOf_15 : decode cL_trayOf 15 = .ok (.iconst 0, 1) := by decide +kernel
theorem dL_trayOf_16 : decode cL_trayOf 16 = .ok (.ireturn, 1) := by decide +kernel
theorem dL_asked_0 : decode cL_asked 0 = .ok (.aload_n 2, 1) := by decide +kernel
theorem dL_asked_1 : decode cL_asked 1 = .ok (.iconst 0, 1) := by decide +kernel
theorem dL_asked_2 : decode cL_asked 2 = .ok (.aload_n 0, 1) := by decide +kernel
theorem dL_asked_3 : decode cL_asked 3 = .ok (.iload_n 1, 1) := by decide +kernel
theorem dL_asked_4 : decode cL_asked 4 = .ok (.invokevirtual 84, 3) := by decide +kernel
theorem dL_asked_7 : decode cL_asked 7 = .ok (.i2l, 1) := by decide +kernel
theorem dL_asked_8 : decode cL_asked 8 = .ok (.lastore, 1) := by decide +kernel
theorem dL_asked_9 : decode cL_asked 9 = .ok (.goto 6, 3) := by decide +kernel
theorem dL_asked_12 : decode cL_asked 12 = .ok (.astore_n 3, 1) := by decide +kernel
theorem dL_asked_13 : decode cL_asked 13 = .ok (.iconst 1, 1) := by decide +kernel
theorem dL_asked_14 : decode cL_asked 14 = .ok (.ireturn, 1) := by decide +kernel
theorem dL_asked_15 : decode cL_asked 15 = .ok (.iconst 0, 1) := by decide +kernel
theorem dL_asked_16 : decode cL_asked 16 = .ok (.ireturn, 1) := by decide +kernel
theorem dL_tick_0 : decode cL_tick 0 = .ok (.aload_n 2, 1) := by decide +kernel
theorem dL_tick_1 : decode cL_tick 1 = .ok (.iconst 0, 1) := by decide +kernel
theorem dL_tick_2 : decode cL_tick 2 = .ok (.aload_n 0, 1) := by decide +kernel
theorem dL_tick_3 : decode cL_tick 3 = .ok (.iload_n 1, 1) := by decide +kernel
theorem dL_tick_4 : decode cL_tick 4 = .ok (.invokevirtual 87, 3) := by decide +kernel
theorem dL_tick_7 : decode cL_tick 7 = .ok (.i2l, 1) := by decide +kernel
theorem dL_tick_8 : decode cL_tick 8 = .ok (.lastore, 1) := by decide +kernel
theorem dL_tick_9 : decode cL_tick 9 = .ok (.goto 9, 3) := by decide +kernel
theorem dL_tick_12 : decode cL_tick 12 = .ok (.astore_n 3, 1) := by decide +kernel
theorem dL_tick_13 : decode cL_tick 13 = .ok (.iconst 1, 1) := by decide +kernel
theorem dL_tick_14 : decode cL_tick 14 = .ok (.ireturn, 1) := by decide +kernel
theorem dL_tick_15 : decode cL_tick 15 = .ok (.astore_n 3, 1) := by decide +kernel
theorem dL_tick_16 : decode cL_tick 16 = .ok (.iconst 2, 1) := by decide +kernel
theorem dL_tick_17 : decode cL_tick 17 = .ok (.ireturn, 1) := by decide +kernel
theorem dL_tick_18 : decode cL_tick 18 = .ok (.iconst 0, 1) := by decide +kernel
theorem dL_tick_19 : decode cL_tick 19 = .ok (.ireturn, 1) := by decide +kernel
theorem dL_stock_0 : decode cL_stock 0 = .ok (.aload_n 2, 1) := by decide +kernel
theorem dL_stock_1 : decode cL_stock 1 = .ok (.iconst 0, 1) := by decide +kernel
theorem dL_stock_2 : decode cL_stock 2 = .ok (.aload_n 0, 1) := by decide +kernel
theorem dL_stock_3 : decode cL_stock 3 = .ok (.iload_n 1, 1) := by decide +kernel
theorem dL_stock_4 : decode cL_stock 4 = .ok (.invokevirtual 90, 3) := by decide +kernel
theorem dL_stock_7 : decode cL_stock 7 = .ok (.i2l, 1) := by decide +kernel
theorem dL_stock_8 : decode cL_stock 8 = .ok (.lastore, 1) := by decide +kernel
theorem dL_stock_9 : decode cL_stock 9 = .ok (.goto 6, 3) := by decide +kernel
theorem dL_stock_12 : decode cL_stock 12 = .ok (.astore_n 3, 1) := by decide +kernel
theorem dL_stock_13 : decode cL_stock 13 = .ok (.iconst 1, 1) := by decide +kernel
theorem dL_stock_14 : decode cL_stock 14 = .ok (.ireturn, 1) := by decide +kernel
theorem dL_stock_15 : decode cL_stock 15 = .ok (.iconst 0, 1) := by decide +kernel
theorem dL_stock_16 : decode cL_stock 16 = .ok (.ireturn, 1) := by decide +kernel
theorem dL_stockByPicks_0 : decode cL_stockByPicks 0 = .ok (.aload_n 2, 1) := by decide +kernel
theorem dL_stockByPicks_1 : decode cL_stockByPicks 1 = .ok (.iconst 0, 1) := by decide +kernel
theorem dL_stockByPicks_2 : decode cL_stockByPicks 2 = .ok (.aload_n 0, 1) := by decide +kernel
theorem dL_stockByPicks_3 : decode cL_stockByPicks 3 = .ok (.iload_n 1, 1) := by decide +kernel
theorem dL_stockByPicks_4 : decode cL_stockByPicks 4 = .ok (.invokevirtual 93, 3) := by decide +kernel
theorem dL_stockByPicks_7 : decode cL_stockByPicks 7 = .ok (.i2l, 1) := by decide +kernel
theorem dL_stockByPicks_8 : decode cL_stockByPicks 8 = .ok (.lastore, 1) := by decide +kernel
theorem dL_stockByPicks_9 : decode cL_stockByPicks 9 = .ok (.goto 6, 3) := by decide +kernel
theorem dL_stockByPicks_12 : decode cL_stockByPicks 12 = .ok (.astore_n 3, 1) := by decide +kernel
theorem dL_stockByPicks_13 : decode cL_stockByPicks 13 = .ok (.iconst 1, 1) := by decide +kernel
theorem dL_stockByPicks_14 : decode cL_stockByPicks 14 = .ok (.ireturn, 1) := by decide +kernel
theorem dL_stockByPicks_15 : decode cL_stockByPicks 15 = .ok (.iconst 0, 1) := by decide +kernel
theorem dL_stockByPicks_16 : decode cL_stockByPicks 16 = .ok (.ireturn, 1) := by decide +kernel
theorem dL_pickedFrom_0 : decode cL_pickedFrom 0 = .ok (.aload_n 2, 1) := by decide +kernel
theorem dL_pickedFrom_1 : decode cL_pickedFrom 1 = .ok (.iconst 0, 1) := by decide +kernel
theorem dL_pickedFrom_2 : decode cL_pickedFrom 2 = .ok (.aload_n 0, 1) := by decide +kernel
theorem dL_pickedFrom_3 : decode cL_pickedFrom 3 = .ok (.iload_n 1, 1) := by decide +kernel
theorem dL_pickedFrom_4 : decode cL_pickedFrom 4 = .ok (.invokevirtual 96, 3) := by decide +kernel
theorem dL_pickedFrom_7 : decode cL_pickedFrom 7 = .ok (.i2l, 1) := by decide +kernel
theorem dL_pickedFrom_8 : decode cL_pickedFrom 8 = .ok (.lastore, 1) := by decide +kernel
theorem dL_pickedFrom_9 : decode cL_pickedFrom 9 = .ok (.goto 6, 3) := by decide +kernel
theorem dL_pickedFrom_12 : decode cL_pickedFrom 12 = .ok (.astore_n 3, 1) := by decide +kernel
theorem dL_pickedFrom_13 : decode cL_pickedFrom 13 = .ok (.iconst 1, 1) := by decide +kernel
theorem dL_pickedFrom_14 : decode cL_pickedFrom 14 = .ok (.ireturn, 1) := by decide +kernel
theorem dL_pickedFrom_15 : decode cL_pickedFrom 15 = .ok (.iconst 0, 1) := by decide +kernel
theorem dL_pickedFrom_16 : decode cL_pickedFrom 16 = .ok (.ireturn, 1) := by decide +kernel
theorem dL_pickedFor_0 : decode cL_pickedFor 0 = .ok (.aload_n 2, 1) := by decide +kernel
theorem dL_pickedFor_1 : decode cL_pickedFor 1 = .ok (.iconst 0, 1) := by decide +kernel
theorem dL_pickedFor_2 : decode cL_pickedFor 2 = .ok (.aload_n 0, 1) := by decide +kernel
theorem dL_pickedFor_3 : decode cL_pickedFor 3 = .ok (.iload_n 1, 1) := by decide +kernel
theorem dL_pickedFor_4 : decode cL_pickedFor 4 = .ok (.invokevirtual 99, 3) := by decide +kernel
theorem dL_pickedFor_7 : decode cL_pickedFor 7 = .ok (.i2l, 1) := by decide +kernel
theorem dL_pickedFor_8 : decode cL_pickedFor 8 = .ok (.lastore, 1) := by decide +kernel
theorem dL_pickedFor_9 : decode cL_pickedFor 9 = .ok (.goto 6, 3) := by decide +kernel
theorem dL_pickedFor_12 : decode cL_pickedFor 12 = .ok (.astore_n 3, 1) := by decide +kernel
theorem dL_pickedFor_13 : decode cL_pickedFor 13 = .ok (.iconst 1, 1) := by decide +kernel
theorem dL_pickedFor_14 : decode cL_pickedFor 14 = .ok (.ireturn, 1) := by decide +kernel
theorem dL_pickedFor_15 : decode cL_pickedFor 15 = .ok (.iconst 0, 1) := by decide +kernel
theorem dL_pickedFor_16 : decode cL_pickedFor 16 = .ok (.ireturn, 1) := by decide +kernel
theorem dL_pickedIn_0 : decode cL_pickedIn 0 = .ok (.aload_n 2, 1) := by decide +kernel
theorem dL_pickedIn_1 : decode cL_pickedIn 1 = .ok (.iconst 0, 1) := by decide +kernel
theorem dL_pickedIn_2 : decode cL_pickedIn 2 = .ok (.aload_n 0, 1) := by decide +kernel
theorem dL_pickedIn_3 : decode cL_pickedIn 3 = .ok (.iload_n 1, 1) := by decide +kernel
theorem dL_pickedIn_4 : decode cL_pickedIn 4 = .ok (.invokevirtual 102, 3) := by decide +kernel
theorem dL_pickedIn_7 : decode cL_pickedIn 7 = .ok (.i2l, 1) := by decide +kernel
theorem dL_pickedIn_8 : decode cL_pickedIn 8 = .ok (.lastore, 1) := by decide +kernel
theorem dL_pickedIn_9 : decode cL_pickedIn 9 = .ok (.goto 6, 3) := by decide +kernel
theorem dL_pickedIn_12 : decode cL_pickedIn 12 = .ok (.astore_n 3, 1) := by decide +kernel
theorem dL_pickedIn_13 : decode cL_pickedIn 13 = .ok (.iconst 1, 1) := by decide +kernel
theorem dL_pickedIn_14 : decode cL_pickedIn 14 = .ok (.ireturn, 1) := by decide +kernel
theorem dL_pickedIn_15 : decode cL_pickedIn 15 = .ok (.iconst 0, 1) := by decide +kernel
theorem dL_pickedIn_16 : decode cL_pickedIn 16 = .ok (.ireturn, 1) := by decide +kernel
theorem dL_law_0 : decode cL_law 0 = .ok (.new 8, 3) := by decide +kernel
theorem dL_law_3 : decode cL_law 3 = .ok (.dup, 1) := by decide +kernel
theorem dL_law_4 : decode cL_law 4 = .ok (.invokespecial 105, 3) := by decide +kernel
theorem dL_law_7 : decode cL_law 7 = .ok (.astore_n 1, 1) := by decide +kernel
theorem dL_law_8 : decode cL_law 8 = .ok (.new 106, 3) := by decide +kernel
theorem dL_law_11 : decode cL_law 11 = .ok (.dup, 1) := by decide +kernel
theorem dL_law_12 : decode cL_law 12 = .ok (.invokespecial 108, 3) := by decide +kernel
theorem dL_law_15 : decode cL_law 15 = .ok (.astore_n 2, 1) := by decide +kernel
theorem dL_law_16 : decode cL_law 16 = .ok (.iconst 1, 1) := by decide +kernel
theorem dL_law_17 : decode cL_law 17 = .ok (.newarray .long, 2) := by decide +kernel
theorem dL_law_19 : decode cL_law 19 = .ok (.astore_n 3, 1) := by decide +kernel
theorem dL_law_20 : decode cL_law 20 = .ok (.iconst 0, 1) := by decide +kernel
theorem dL_law_21 : decode cL_law 21 = .ok (.istore 4, 2) := by decide +kernel
theorem dL_law_23 : decode cL_law 23 = .ok (.iload 4, 2) := by decide +kernel
theorem dL_law_25 : decode cL_law 25 = .ok (.aload_n 0, 1) := by decide +kernel
theorem dL_law_26 : decode cL_law 26 = .ok (.arraylength, 1) := by decide +kernel
theorem dL_law_27 : decode cL_law 27 = .ok (.iconst 4, 1) := by decide +kernel
theorem dL_law_28 : decode cL_law 28 = .ok (.isub, 1) := by decide +kernel
theorem dL_law_29 : decode cL_law 29 = .ok (.if_icmp .gt 1958, 3) := by decide +kernel
theorem dL_law_32 : decode cL_law 32 = .ok (.aload_n 0, 1) := by decide +kernel
theorem dL_law_33 : decode cL_law 33 = .ok (.iload 4, 2) := by decide +kernel
theorem dL_law_35 : decode cL_law 35 = .ok (.iaload, 1) := by decide +kernel
theorem dL_law_36 : decode cL_law 36 = .ok (.bipush 63, 2) := by decide +kernel
theorem dL_law_38 : decode cL_law 38 = .ok (.iand, 1) := by decide +kernel
theorem dL_law_39 : decode cL_law 39 = .ok (.tableswitch 1942 0 33 #[149, 185, 276, 344, 400, 480, 548, 592, 672, 752, 820, 888, 956, 1012, 1068, 1136, 1192, 1248, 1304, 1360, 1416, 1472, 1528, 1584, 1597, 1610, 1623, 1636, 1649, 1705, 1761, 1774, 1830, 1886], 149) := by decide +kernel
theorem dL_law_188 : decode cL_law 188 = .ok (.aload_n 1, 1) := by decide +kernel
theorem dL_law_189 : decode cL_law 189 = .ok (.aload_n 0, 1) := by decide +kernel
theorem dL_law_190 : decode cL_law 190 = .ok (.iload 4, 2) := by decide +kernel
theorem dL_law_192 : decode cL_law 192 = .ok (.iconst 1, 1) := by decide +kernel
theorem dL_law_193 : decode cL_law 193 = .ok (.iadd, 1) := by decide +kernel
theorem dL_law_194 : decode cL_law 194 = .ok (.iaload, 1) := by decide +kernel
theorem dL_law_195 : decode cL_law 195 = .ok (.invokestatic 109, 3) := by decide +kernel
theorem dL_law_198 : decode cL_law 198 = .ok (.istore 5, 2) := by decide +kernel
theorem dL_law_200 : decode cL_law 200 = .ok (.aload_n 2, 1) := by decide +kernel
theorem dL_law_201 : decode cL_law 201 = .ok (.aload_n 0, 1) := by decide +kernel
theorem dL_law_202 : decode cL_law 202 = .ok (.iload 4, 2) := by decide +kernel
theorem dL_law_204 : decode cL_law 204 = .ok (.iconst 1, 1) := by decide +kernel
theorem dL_law_205 : decode cL_law 205 = .ok (.iadd, 1) := by decide +kernel
theorem dL_law_206 : decode cL_law 206 = .ok (.iaload, 1) := by decide +kernel
theorem dL_law_207 : decode cL_law 207 = .ok (.invokevirtual 114, 3) := by decide +kernel
theorem dL_law_210 : decode cL_law 210 = .ok (.aload_n 2, 1) := by decide +kernel
theorem dL_law_211 : decode cL_law 211 = .ok (.invokevirtual 115, 3) := by decide +kernel
theorem dL_law_214 : decode cL_law 214 = .ok (.iload 5, 2) := by decide +kernel
theorem dL_law_216 : decode cL_law 216 = .ok (.if_icmp .eq 5, 3) := by decide +kernel
theorem dL_law_219 : decode cL_law 219 = .ok (.iconst 0, 1) := by decide +kernel
theorem dL_law_220 : decode cL_law 220 = .ok (.ireturn, 1) := by decide +kernel
theorem dL_law_221 : decode cL_law 221 = .ok (.goto 1760, 3) := by decide +kernel
theorem dL_law_224 : decode cL_law 224 = .ok (.aload_n 1, 1) := by decide +kernel
theorem dL_law_225 : decode cL_law 225 = .ok (.aload_n 0, 1) := by decide +kernel
theorem dL_law_226 : decode cL_law 226 = .ok (.iload 4, 2) := by decide +kernel
theorem dL_law_228 : decode cL_law 228 = .ok (.iconst 1, 1) := by decide +kernel
theorem dL_law_229 : decode cL_law 229 = .ok (.iadd, 1) := by decide +kernel
theorem dL_law_230 : decode cL_law 230 = .ok (.iaload, 1) := by decide +kernel
theorem dL_law_231 : decode cL_law 231 = .ok (.aload_n 0, 1) := by decide +kernel
theorem dL_law_232 : decode cL_law 232 = .ok (.iload 4, 2) := by decide +kernel
theorem dL_law_234 : decode cL_law 234 = .ok (.iconst 2, 1) := by decide +kernel
theorem dL_law_235 : decode cL_law 235 = .ok (.iadd, 1) := by decide +kernel
theorem dL_law_236 : decode cL_law 236 = .ok (.iaload, 1) := by decide +kernel
theorem dL_law_237 : decode cL_law 237 = .ok (.ifCond .eq 7, 3) := by decide +kernel
theorem dL_law_240 : decode cL_law 240 = .ok (.iconst 1, 1) := by decide +kernel
theorem dL_law_241 : decode cL_law 241 = .ok (.goto 4, 3) := by decide +kernel
theorem dL_law_244 : decode cL_law 244 = .ok (.iconst 0, 1) := by decide +kernel
theorem dL_law_245 : decode cL_law 245 = .ok (.aload_n 3, 1) := by decide +kernel
theorem dL_law_246 : decode cL_law 246 = .ok (.invokestatic 118, 3) := by decide +kernel
theorem dL_law_249 : decode cL_law 249 = .ok (.istore 5, 2) := by decide +kernel
theorem dL_law_251 : decode cL_law 251 = .ok (.aload_n 2, 1) := by decide +kernel
theorem dL_law_252 : decode cL_law 252 = .ok (.aload_n 0, 1) := by decide +kernel
theorem dL_law_253 : decode cL_law 253 = .ok (.iload 4, 2) := by decide +kernel
theorem dL_law_255 : decode cL_law 255 = .ok (.iconst 1, 1) := by decide +kernel
theorem dL_law_256 : decode cL_law 256 = .ok (.iadd, 1) := by decide +kernel
theorem dL_law_257 : decode cL_law 257 = .ok (.iaload, 1) := by decide +kernel
theorem dL_law_258 : decode cL_law 258 = .ok (.aload_n 0, 1) := by decide +kernel
theorem dL_law_259 : decode cL_law 259 = .ok (.iload 4, 2) := by decide +kernel
theorem dL_law_261 : decode cL_law 261 = .ok (.iconst 2, 1) := by decide +kernel
theorem dL_law_262 : decode cL_law 262 = .ok (.iadd, 1) := by decide +kernel
theorem dL_law_263 : decode cL_law 263 = .ok (.iaload, 1) := by decide +kernel
theorem dL_law_264 : decode cL_law 264 = .ok (.ifCond .eq 7, 3) := by decide +kernel
theorem dL_law_267 : decode cL_law 267 = .ok (.iconst 1, 1) := by decide +kernel
theorem dL_law_268 : decode cL_law 268 = .ok (.goto 4, 3) := by decide +kernel
theorem dL_law_271 : decode cL_law 271 = .ok (.iconst 0, 1) := by decide +kernel
theorem dL_law_272 : decode cL_law 272 = .ok (.invokevirtual 121, 3) := by decide +kernel
theorem dL_law_275 : decode cL_law 275 = .ok (.istore 6, 2) := by decide +kernel
theorem dL_law_277 : decode cL_law 277 = .ok (.aload_n 2, 1) := by decide +kernel
theorem dL_law_278 : decode cL_law 278 = .ok (.invokevirtual 115, 3) := by decide +kernel
theorem dL_law_281 : decode cL_law 281 = .ok (.iload 5, 2) := by decide +kernel
theorem dL_law_283 : decode cL_law 283 = .ok (.if_icmp .eq 5, 3) := by decide +kernel
theorem dL_law_286 : decode cL_law 286 = .ok (.iconst 0, 1) := by decide +kernel
theorem dL_law_287 : decode cL_law 287 = .ok (.ireturn, 1) := by decide +kernel
theorem dL_law_288 : decode cL_law 288 = .ok (.iload 5, 2) := by decide +kernel
theorem dL_law_290 : decode cL_law 290 = .ok (.ifCond .ne 22, 3) := by decide +kernel
theorem dL_law_293 : decode cL_law 293 = .ok (.aload_n 3, 1) := by decide +kernel
theorem dL_law_294 : decode cL_law 294 = .ok (.iconst 0, 1) := by decide +kernel
theorem dL_law_295 : decode cL_law 295 = .ok (.laload, 1) := by decide +kernel
theorem dL_law_296 : decode cL_law 296 = .ok (.iload 6, 2) := by decide +kernel
theorem dL_law_298 : decode cL_law 298 = .ok (.ifCond .eq 7, 3) := by decide +kernel
theorem dL_law_301 : decode cL_law 301 = .ok (.lconst 1, 1) := by decide +kernel
theorem dL_law_302 : decode cL_law 302 = .ok (.goto 4, 3) := by decide +kernel
theorem dL_law_305 : decode cL_law 305 = .ok (.lconst 0, 1) := by decide +kernel
theorem dL_law_306 : decode cL_law 306 = .ok (.lcmp, 1) := by decide +kernel
theorem dL_law_307 : decode cL_law 307 = .ok (.ifCond .eq 5, 3) := by decide +kernel
theorem dL_law_310 : decode cL_law 310 = .ok (.iconst 0, 1) := by decide +kernel
theorem dL_law_311 : decode cL_law 311 = .ok (.ireturn, 1) := by decide +kernel
theorem dL_law_312 : decode cL_law 312 = .ok (.goto 1669, 3) := by decide +kernel
theorem dL_law_315 : decode cL_law 315 = .ok (.aload_n 1, 1) := by decide +kernel
theorem dL_law_316 : decode cL_law 316 = .ok (.aload_n 0, 1) := by decide +kernel
theorem dL_law_317 : decode cL_law 317 = .ok (.iload 4, 2) := by decide +kernel
theorem dL_law_319 : decode cL_law 319 = .ok (.iconst 1, 1) := by decide +kernel
theorem dL_law_320 : decode cL_law 320 = .ok (.iadd, 1) := by decide +kernel
theorem dL_law_321 : decode cL_law 321 = .ok (.iaload, 1) := by decide +kernel
theorem dL_law_322 : decode cL_law 322 = .ok (.aload_n 0, 1) := by decide +kernel
theorem dL_law_323 : decode cL_law 323 = .ok (.iload 4, 2) := by decide +kernel
theorem dL_law_325 : decode cL_law 325 = .ok (.iconst 2, 1) := by decide +kernel
theorem dL_law_326 : decode cL_law 326 = .ok (.iadd, 1) := by decide +kernel
theorem dL_law_327 : decode cL_law 327 = .ok (.iaload, 1) := by decide +kernel
theorem dL_law_328 : decode cL_law 328 = .ok (.aload_n 3, 1) := by decide +kernel
theorem dL_law_329 : decode cL_law 329 = .ok (.invokestatic 122, 3) := by decide +kernel
theorem dL_law_332 : decode cL_law 332 = .ok (.istore 5, 2) := by decide +kernel
theorem dL_law_334 : decode cL_law 334 = .ok (.aload_n 2, 1) := by decide +kernel
theorem dL_law_335 : decode cL_law 335 = .ok (.aload_n 0, 1) := by decide +kernel
theorem dL_law_336 : decode cL_law 336 = .ok (.iload 4, 2) := by decide +kernel
theorem dL_law_338 : decode cL_law 338 = .ok (.iconst 1, 1) := by decide +kernel
theorem dL_law_339 : decode cL_law 339 = .ok (.iadd, 1) := by decide +kernel
theorem dL_law_340 : decode cL_law 340 = .ok (.iaload, 1) := by decide +kernel
theorem dL_law_341 : decode cL_law 341 = .ok (.aload_n 0, 1) := by decide +kernel
theorem dL_law_342 : decode cL_law 342 = .ok (.iload 4, 2) := by decide +kernel
theorem dL_law_344 : decode cL_law 344 = .ok (.iconst 2, 1) := by decide +kernel
theorem dL_law_345 : decode cL_law 345 = .ok (.iadd, 1) := by decide +kernel
theorem dL_law_346 : decode cL_law 346 = .ok (.iaload, 1) := by decide +kernel
theorem dL_law_347 : decode cL_law 347 = .ok (.invokevirtual 125, 3) := by decide +kernel
theorem dL_law_350 : decode cL_law 350 = .ok (.istore 6, 2) := by decide +kernel
theorem dL_law_352 : decode cL_law 352 = .ok (.aload_n 2, 1) := by decide +kernel
theorem dL_law_353 : decode cL_law 353 = .ok (.invokevirtual 115, 3) := by decide +kernel
theorem dL_law_356 : decode cL_law 356 = .ok (.iload 5, 2) := by decide +kernel
theorem dL_law_358 : decode cL_law 358 = .ok (.if_icmp .eq 5, 3) := by decide +kernel
theorem dL_law_361 : decode cL_law 361 = .ok (.iconst 0, 1) := by decide +kernel
theorem dL_law_362 : decode cL_law 362 = .ok (.ireturn, 1) := by decide +kernel
theorem dL_law_363 : decode cL_law 363 = .ok (.iload 5, 2) := by decide +kernel
theorem dL_law_365 : decode cL_law 365 = .ok (.ifCond .ne 15, 3) := by decide +kernel
theorem dL_law_368 : decode cL_law 368 = .ok (.aload_n 3, 1) := by decide +kernel
theorem dL_law_369 : decode cL_law 369 = .ok (.iconst 0, 1) := by decide +kernel
theorem dL_law_370 : decode cL_law 370 = .ok (.laload, 1) := by decide +kernel
theorem dL_law_371 : decode cL_law 371 = .ok (.iload 6, 2) := by decide +kernel
theorem dL_law_373 : decode cL_law 373 = .ok (.i2l, 1) := by decide +kernel
theorem dL_law_374 : decode cL_law 374 = .ok (.lcmp, 1) := by decide +kernel
theorem dL_law_375 : decode cL_law 375 = .ok (.ifCond .eq 5, 3) := by decide +kernel
theorem dL_law_378 : decode cL_law 378 = .ok (.iconst 0, 1) := by decide +kernel
theorem dL_law_379 : decode cL_law 379 = .ok (.ireturn, 1) := by decide +kernel
theorem dL_law_380 : decode cL_law 380 = .ok (.goto 1601, 3) := by decide +kernel
theorem dL_law_383 : decode cL_law 383 = .ok (.aload_n 1, 1) := by decide +kernel
theorem dL_law_384 : decode cL_law 384 = .ok (.aload_n 0, 1) := by decide +kernel
theorem dL_law_385 : decode cL_law 385 = .ok (.iload 4, 2) := by decide +kernel
theorem dL_law_387 : decode cL_law 387 = .ok (.iconst 1, 1) := by decide +kernel
theorem dL_law_388 : decode cL_law 388 = .ok (.iadd, 1) := by decide +kernel
theorem dL_law_389 : decode cL_law 389 = .ok (.iaload, 1) := by decide +kernel
theorem dL_law_390 : decode cL_law 390 = .ok (.aload_n 3, 1) := by decide +kernel
theorem dL_law_391 : decode cL_law 391 = .ok (.invokestatic 126, 3) := by decide +kernel
theorem dL_law_394 : decode cL_law 394 = .ok (.istore 5, 2) := by decide +kernel
theorem dL_law_396 : decode cL_law 396 = .ok (.aload_n 2, 1) := by decide +kernel
theorem dL_law_397 : decode cL_law 397 = .ok (.aload_n 0, 1) := by decide +kernel
theorem dL_law_398 : decode cL_law 398 = .ok (.iload 4, 2) := by decide +kernel
theorem dL_law_400 : decode cL_law 400 = .ok (.iconst 1, 1) := by decide +kernel
theorem dL_law_401 : decode cL_law 401 = .ok (.iadd, 1) := by decide +kernel
theorem dL_law_402 : decode cL_law 402 = .ok (.iaload, 1) := by decide +kernel
theorem dL_law_403 : decode cL_law 403 = .ok (.invokevirtual 129, 3) := by decide +kernel
theorem dL_law_406 : decode cL_law 406 = .ok (.istore 6, 2) := by decide +kernel
theorem dL_law_408 : decode cL_law 408 = .ok (.aload_n 2, 1) := by decide +kernel
theorem dL_law_409 : decode cL_law 409 = .ok (.invokevirtual 115, 3) := by decide +kernel
theorem dL_law_412 : decode cL_law 412 = .ok (.iload 5, 2) := by decide +kernel
theorem dL_law_414 : decode cL_law 414 = .ok (.if_icmp .eq 5, 3) := by decide +kernel
theorem dL_law_417 : decode cL_law 417 = .ok (.iconst 0, 1) := by decide +kernel
theorem dL_law_418 : decode cL_law 418 = .ok (.ireturn, 1) := by decide +kernel
theorem dL_law_419 : decode cL_law 419 = .ok (.iload 5, 2) := by decide +kernel
theorem dL_law_421 : decode cL_law 421 = .ok (.ifCond .ne 15, 3) := by decide +kernel
theorem dL_law_424 : decode cL_law 424 = .ok (.aload_n 3, 1) := by decide +kernel
theorem dL_law_425 : decode cL_law 425 = .ok (.iconst 0, 1) := by decide +kernel
theorem dL_law_426 : decode cL_law 426 = .ok (.laload, 1) := by decide +kernel
theorem dL_law_427 : decode cL_law 427 = .ok (.iload 6, 2) := by decide +kernel
theorem dL_law_429 : decode cL_law 429 = .ok (.i2l, 1) := by decide +kernel
theorem dL_law_430 : decode cL_law 430 = .ok (.lcmp, 1) := by decide +kernel
theorem dL_law_431 : decode cL_law 431 = .ok (.ifCond .eq 5, 3) := by decide +kernel
theorem dL_law_434 : decode cL_law 434 = .ok (.iconst 0, 1) := by decide +kernel
theorem dL_law_435 : decode cL_law 435 = .ok (.ireturn, 1) := by decide +kernel
theorem dL_law_436 : decode cL_law 436 = .ok (.goto 1545, 3) := by decide +kernel
theorem dL_law_439 : decode cL_law 439 = .ok (.aload_n 1, 1) := by decide +kernel
theorem dL_law_440 : decode cL_law 440 = .ok (.aload_n 0, 1) := by decide +kernel
theorem dL_law_441 : decode cL_law 441 = .ok (.iload 4, 2) := by decide +kernel
theorem dL_law_443 : decode cL_law 443 = .ok (.iconst 1, 1) := by decide +kernel
theorem dL_law_444 : decode cL_law 444 = .ok (.iadd, 1) := by decide +kernel
theorem dL_law_445 : decode cL_law 445 = .ok (.iaload, 1) := by decide +kernel
theorem dL_law_446 : decode cL_law 446 = .ok (.aload_n 0, 1) := by decide +kernel
theorem dL_law_447 : decode cL_law 447 = .ok (.iload 4, 2) := by decide +kernel
theorem dL_law_449 : decode cL_law 449 = .ok (.iconst 2, 1) := by decide +kernel
theorem dL_law_450 : decode cL_law 450 = .ok (.iadd, 1) := by decide +kernel
theorem dL_law_451 : decode cL_law 451 = .ok (.iaload, 1) := by decide +kernel
theorem dL_law_452 : decode cL_law 452 = .ok (.aload_n 0, 1) := by decide +kernel
theorem dL_law_453 : decode cL_law 453 = .ok (.iload 4, 2) := by decide +kernel
theorem dL_law_455 : decode cL_law 455 = .ok (.iconst 3, 1) := by decide +kernel
theorem dL_law_456 : decode cL_law 456 = .ok (.iadd, 1) := by decide +kernel
theorem dL_law_457 : decode cL_law 457 = .ok (.iaload, 1) := by decide +kernel
theorem dL_law_458 : decode cL_law 458 = .ok (.aload_n 3, 1) := by decide +kernel
theorem dL_law_459 : decode cL_law 459 = .ok (.invokestatic 130, 3) := by decide +kernel
theorem dL_law_462 : decode cL_law 462 = .ok (.istore 5, 2) := by decide +kernel
theorem dL_law_464 : decode cL_law 464 = .ok (.aload_n 2, 1) := by decide +kernel
theorem dL_law_465 : decode cL_law 465 = .ok (.aload_n 0, 1) := by decide +kernel
theorem dL_law_466 : decode cL_law 466 = .ok (.iload 4, 2) := by decide +kernel
theorem dL_law_468 : decode cL_law 468 = .ok (.iconst 1, 1) := by decide +kernel
theorem dL_law_469 : decode cL_law 469 = .ok (.iadd, 1) := by decide +kernel
theorem dL_law_470 : decode cL_law 470 = .ok (.iaload, 1) := by decide +kernel
theorem dL_law_471 : decode cL_law 471 = .ok (.aload_n 0, 1) := by decide +kernel
theorem dL_law_472 : decode cL_law 472 = .ok (.iload 4, 2) := by decide +kernel
theorem dL_law_474 : decode cL_law 474 = .ok (.iconst 2, 1) := by decide +kernel
theorem dL_law_475 : decode cL_law 475 = .ok (.iadd, 1) := by decide +kernel
theorem dL_law_476 : decode cL_law 476 = .ok (.iaload, 1) := by decide +kernel
theorem dL_law_477 : decode cL_law 477 = .ok (.aload_n 0, 1) := by decide +kernel
theorem dL_law_478 : decode cL_law 478 = .ok (.iload 4, 2) := by decide +kernel
theorem dL_law_480 : decode cL_law 480 = .ok (.iconst 3, 1) := by decide +kernel
theorem dL_law_481 : decode cL_law 481 = .ok (.iadd, 1) := by decide +kernel
theorem dL_law_482 : decode cL_law 482 = .ok (.iaload, 1) := by decide +kernel
theorem dL_law_483 : decode cL_law 483 = .ok (.invokevirtual 133, 3) := by decide +kernel
theorem dL_law_486 : decode cL_law 486 = .ok (.istore 6, 2) := by decide +kernel
theorem dL_law_488 : decode cL_law 488 = .ok (.aload_n 2, 1) := by decide +kernel
theorem dL_law_489 : decode cL_law 489 = .ok (.invokevirtual 115, 3) := by decide +kernel
theorem dL_law_492 : decode cL_law 492 = .ok (.iload 5, 2) := by decide +kernel
theorem dL_law_494 : decode cL_law 494 = .ok (.if_icmp .eq 5, 3) := by decide +kernel
theorem dL_law_497 : decode cL_law 497 = .ok (.iconst 0, 1) := by decide +kernel
theorem dL_law_498 : decode cL_law 498 = .ok (.ireturn, 1) := by decide +kernel
theorem dL_law_499 : decode cL_law 499 = .ok (.iload 5, 2) := by decide +kernel
theorem dL_law_501 : decode cL_law 501 = .ok (.ifCond .ne 15, 3) := by decide +kernel
theorem dL_law_504 : decode cL_law 504 = .ok (.aload_n 3, 1) := by decide +kernel
theorem dL_law_505 : decode cL_law 505 = .ok (.iconst 0, 1) := by decide +kernel
theorem dL_law_506 : decode cL_law 506 = .ok (.laload, 1) := by decide +kernel
theorem dL_law_507 : decode cL_law 507 = .ok (.iload 6, 2) := by decide +kernel
theorem dL_law_509 : decode cL_law 509 = .ok (.i2l, 1) := by decide +kernel
theorem dL_law_510 : decode cL_law 510 = .ok (.lcmp, 1) := by decide +kernel
theorem dL_law_511 : decode cL_law 511 = .ok (.ifCond .eq 5, 3) := by decide +kernel
theorem dL_law_514 : decode cL_law 514 = .ok (.iconst 0, 1) := by decide +kernel
theorem dL_law_515 : decode cL_law 515 = .ok (.ireturn, 1) := by decide +kernel
theorem dL_law_516 : decode cL_law 516 = .ok (.goto 1465, 3) := by decide +kernel
theorem dL_law_519 : decode cL_law 519 = .ok (.aload_n 1, 1) := by decide +kernel
theorem dL_law_520 : decode cL_law 520 = .ok (.aload_n 0, 1) := by decide +kernel
theorem dL_law_521 : decode cL_law 521 = .ok (.iload 4, 2) := by decide +kernel
theorem dL_law_523 : decode cL_law 523 = .ok (.iconst 1, 1) := by decide +kernel
theorem dL_law_524 : decode cL_law 524 = .ok (.iadd, 1) := by decide +kernel
theorem dL_law_525 : decode cL_law 525 = .ok (.iaload, 1) := by decide +kernel
theorem dL_law_526 : decode cL_law 526 = .ok (.aload_n 0, 1) := by decide +kernel
theorem dL_law_527 : decode cL_law 527 = .ok (.iload 4, 2) := by decide +kernel
theorem dL_law_529 : decode cL_law 529 = .ok (.iconst 2, 1) := by decide +kernel
theorem dL_law_530 : decode cL_law 530 = .ok (.iadd, 1) := by decide +kernel
theorem dL_law_531 : decode cL_law 531 = .ok (.iaload, 1) := by decide +kernel
theorem dL_law_532 : decode cL_law 532 = .ok (.aload_n 3, 1) := by decide +kernel
theorem dL_law_533 : decode cL_law 533 = .ok (.invokestatic 134, 3) := by decide +kernel
theorem dL_law_536 : decode cL_law 536 = .ok (.istore 5, 2) := by decide +kernel
theorem dL_law_538 : decode cL_law 538 = .ok (.aload_n 2, 1) := by decide +kernel
theorem dL_law_539 : decode cL_law 539 = .ok (.aload_n 0, 1) := by decide +kernel
theorem dL_law_540 : decode cL_law 540 = .ok (.iload 4, 2) := by decide +kernel
theorem dL_law_542 : decode cL_law 542 = .ok (.iconst 1, 1) := by decide +kernel
theorem dL_law_543 : decode cL_law 543 = .ok (.iadd, 1) := by decide +kernel
theorem dL_law_544 : decode cL_law 544 = .ok (.iaload, 1) := by decide +kernel
theorem dL_law_545 : decode cL_law 545 = .ok (.aload_n 0, 1) := by decide +kernel
theorem dL_law_546 : decode cL_law 546 = .ok (.iload 4, 2) := by decide +kernel
theorem dL_law_548 : decode cL_law 548 = .ok (.iconst 2, 1) := by decide +kernel
theorem dL_law_549 : decode cL_law 549 = .ok (.iadd, 1) := by decide +kernel
theorem dL_law_550 : decode cL_law 550 = .ok (.iaload, 1) := by decide +kernel
theorem dL_law_551 : decode cL_law 551 = .ok (.invokevirtual 136, 3) := by decide +kernel
theorem dL_law_554 : decode cL_law 554 = .ok (.istore 6, 2) := by decide +kernel
theorem dL_law_556 : decode cL_law 556 = .ok (.aload_n 2, 1) := by decide +kernel
theorem dL_law_557 : decode cL_law 557 = .ok (.invokevirtual 115, 3) := by decide +kernel
theorem dL_law_560 : decode cL_law 560 = .ok (.iload 5, 2) := by decide +kernel
theorem dL_law_562 : decode cL_law 562 = .ok (.if_icmp .eq 5, 3) := by decide +kernel
theorem dL_law_565 : decode cL_law 565 = .ok (.iconst 0, 1) := by decide +kernel
theorem dL_law_566 : decode cL_law 566 = .ok (.ireturn, 1) := by decide +kernel
theorem dL_law_567 : decode cL_law 567 = .ok (.iload 5, 2) := by decide +kernel
theorem dL_law_569 : decode cL_law 569 = .ok (.ifCond .ne 15, 3) := by decide +kernel
theorem dL_law_572 : decode cL_law 572 = .ok (.aload_n 3, 1) := by decide +kernel
theorem dL_law_573 : decode cL_law 573 = .ok (.iconst 0, 1) := by decide +kernel
theorem dL_law_574 : decode cL_law 574 = .ok (.laload, 1) := by decide +kernel
theorem dL_law_575 : decode cL_law 575 = .ok (.iload 6, 2) := by decide +kernel
theorem dL_law_577 : decode cL_law 577 = .ok (.i2l, 1) := by decide +kernel
theorem dL_law_578 : decode cL_law 578 = .ok (.lcmp, 1) := by decide +kernel
theorem dL_law_579 : decode cL_law 579 = .ok (.ifCond .eq 5, 3) := by decide +kernel
theorem dL_law_582 : decode cL_law 582 = .ok (.iconst 0, 1) := by decide +kernel
theorem dL_law_583 : decode cL_law 583 = .ok (.ireturn, 1) := by decide +kernel
theorem dL_law_584 : decode cL_law 584 = .ok (.goto 1397, 3) := by decide +kernel
theorem dL_law_587 : decode cL_law 587 = .ok (.aload_n 1, 1) := by decide +kernel
theorem dL_law_588 : decode cL_law 588 = .ok (.aload_n 3, 1) := by decide +kernel
theorem dL_law_589 : decode cL_law 589 = .ok (.invokestatic 137, 3) := by decide +kernel
theorem dL_law_592 : decode cL_law 592 = .ok (.istore 5, 2) := by decide +kernel
theorem dL_law_594 : decode cL_law 594 = .ok (.aload_n 2, 1) := by decide +kernel
theorem dL_law_595 : decode cL_law 595 = .ok (.invokevirtual 140, 3) := by decide +kernel
theorem dL_law_598 : decode cL_law 598 = .ok (.istore 6, 2) := by decide +kernel
theorem dL_law_600 : decode cL_law 600 = .ok (.aload_n 2, 1) := by decide +kernel
theorem dL_law_601 : decode cL_law 601 = .ok (.invokevirtual 115, 3) := by decide +kernel
theorem dL_law_604 : decode cL_law 604 = .ok (.iload 5, 2) := by decide +kernel
theorem dL_law_606 : decode cL_law 606 = .ok (.if_icmp .eq 5, 3) := by decide +kernel
theorem dL_law_609 : decode cL_law 609 = .ok (.iconst 0, 1) := by decide +kernel
theorem dL_law_610 : decode cL_law 610 = .ok (.ireturn, 1) := by decide +kernel
theorem dL_law_611 : decode cL_law 611 = .ok (.iload 5, 2) := by decide +kernel
theorem dL_law_613 : decode cL_law 613 = .ok (.ifCond .ne 15, 3) := by decide +kernel
theorem dL_law_616 : decode cL_law 616 = .ok (.aload_n 3, 1) := by decide +kernel
theorem dL_law_617 : decode cL_law 617 = .ok (.iconst 0, 1) := by decide +kernel
theorem dL_law_618 : decode cL_law 618 = .ok (.laload, 1) := by decide +kernel
theorem dL_law_619 : decode cL_law 619 = .ok (.iload 6, 2) := by decide +kernel
theorem dL_law_621 : decode cL_law 621 = .ok (.i2l, 1) := by decide +kernel
theorem dL_law_622 : decode cL_law 622 = .ok (.lcmp, 1) := by decide +kernel
theorem dL_law_623 : decode cL_law 623 = .ok (.ifCond .eq 5, 3) := by decide +kernel
theorem dL_law_626 : decode cL_law 626 = .ok (.iconst 0, 1) := by decide +kernel
theorem dL_law_627 : decode cL_law 627 = .ok (.ireturn, 1) := by decide +kernel
theorem dL_law_628 : decode cL_law 628 = .ok (.goto 1353, 3) := by decide +kernel
theorem dL_law_631 : decode cL_law 631 = .ok (.aload_n 1, 1) := by decide +kernel
theorem dL_law_632 : decode cL_law 632 = .ok (.aload_n 0, 1) := by decide +kernel
theorem dL_law_633 : decode cL_law 633 = .ok (.iload 4, 2) := by decide +kernel
theorem dL_law_635 : decode cL_law 635 = .ok (.iconst 1, 1) := by decide +kernel
theorem dL_law_636 : decode cL_law 636 = .ok (.iadd, 1) := by decide +kernel
theorem dL_law_637 : decode cL_law 637 = .ok (.iaload, 1) := by decide +kernel
theorem dL_law_638 : decode cL_law 638 = .ok (.aload_n 0, 1) := by decide +kernel
theorem dL_law_639 : decode cL_law 639 = .ok (.iload 4, 2) := by decide +kernel
theorem dL_law_641 : decode cL_law 641 = .ok (.iconst 2, 1) := by decide +kernel
theorem dL_law_642 : decode cL_law 642 = .ok (.iadd, 1) := by decide +kernel
theorem dL_law_643 : decode cL_law 643 = .ok (.iaload, 1) := by decide +kernel
theorem dL_law_644 : decode cL_law 644 = .ok (.aload_n 0, 1) := by decide +kernel
theorem dL_law_645 : decode cL_law 645 = .ok (.iload 4, 2) := by decide +kernel
theorem dL_law_647 : decode cL_law 647 = .ok (.iconst 3, 1) := by decide +kernel
theorem dL_law_648 : decode cL_law 648 = .ok (.iadd, 1) := by decide +kernel
theorem dL_law_649 : decode cL_law 649 = .ok (.iaload, 1) := by decide +kernel
theorem dL_law_650 : decode cL_law 650 = .ok (.aload_n 3, 1) := by decide +kernel
theorem dL_law_651 : decode cL_law 651 = .ok (.invokestatic 141, 3) := by decide +kernel
theorem dL_law_654 : decode cL_law 654 = .ok (.istore 5, 2) := by decide +kernel
theorem dL_law_656 : decode cL_law 656 = .ok (.aload_n 2, 1) := by decide +kernel
theorem dL_law_657 : decode cL_law 657 = .ok (.aload_n 0, 1) := by decide +kernel
theorem dL_law_658 : decode cL_law 658 = .ok (.iload 4, 2) := by decide +kernel
theorem dL_law_660 : decode cL_law 660 = .ok (.iconst 1, 1) := by decide +kernel
theorem dL_law_661 : decode cL_law 661 = .ok (.iadd, 1) := by decide +kernel
theorem dL_law_662 : decode cL_law 662 = .ok (.iaload, 1) := by decide +kernel
theorem dL_law_663 : decode cL_law 663 = .ok (.aload_n 0, 1) := by decide +kernel
theorem dL_law_664 : decode cL_law 664 = .ok (.iload 4, 2) := by decide +kernel
theorem dL_law_666 : decode cL_law 666 = .ok (.iconst 2, 1) := by decide +kernel
theorem dL_law_667 : decode cL_law 667 = .ok (.iadd, 1) := by decide +kernel
theorem dL_law_668 : decode cL_law 668 = .ok (.iaload, 1) := by decide +kernel
theorem dL_law_669 : decode cL_law 669 = .ok (.aload_n 0, 1) := by decide +kernel
theorem dL_law_670 : decode cL_law 670 = .ok (.iload 4, 2) := by decide +kernel
theorem dL_law_672 : decode cL_law 672 = .ok (.iconst 3, 1) := by decide +kernel
theorem dL_law_673 : decode cL_law 673 = .ok (.iadd, 1) := by decide +kernel
theorem dL_law_674 : decode cL_law 674 = .ok (.iaload, 1) := by decide +kernel
theorem dL_law_675 : decode cL_law 675 = .ok (.invokevirtual 143, 3) := by decide +kernel
theorem dL_law_678 : decode cL_law 678 = .ok (.istore 6, 2) := by decide +kernel
theorem dL_law_680 : decode cL_law 680 = .ok (.aload_n 2, 1) := by decide +kernel
theorem dL_law_681 : decode cL_law 681 = .ok (.invokevirtual 115, 3) := by decide +kernel
theorem dL_law_684 : decode cL_law 684 = .ok (.iload 5, 2) := by decide +kernel
theorem dL_law_686 : decode cL_law 686 = .ok (.if_icmp .eq 5, 3) := by decide +kernel
theorem dL_law_689 : decode cL_law 689 = .ok (.iconst 0, 1) := by decide +kernel
theorem dL_law_690 : decode cL_law 690 = .ok (.ireturn, 1) := by decide +kernel
theorem dL_law_691 : decode cL_law 691 = .ok (.iload 5, 2) := by decide +kernel
theorem dL_law_693 : decode cL_law 693 = .ok (.ifCond .ne 15, 3) := by decide +kernel
theorem dL_law_696 : decode cL_law 696 = .ok (.aload_n 3, 1) := by decide +kernel
theorem dL_law_697 : decode cL_law 697 = .ok (.iconst 0, 1) := by decide +kernel
theorem dL_law_698 : decode cL_law 698 = .ok (.laload, 1) := by decide +kernel
theorem dL_law_699 : decode cL_law 699 = .ok (.iload 6, 2) := by decide +kernel
theorem dL_law_701 : decode cL_law 701 = .ok (.i2l, 1) := by decide +kernel
theorem dL_law_702 : decode cL_law 702 = .ok (.lcmp, 1) := by decide +kernel
theorem dL_law_703 : decode cL_law 703 = .ok (.ifCond .eq 5, 3) := by decide +kernel
theorem dL_law_706 : decode cL_law 706 = .ok (.iconst 0, 1) := by decide +kernel
theorem dL_law_707 : decode cL_law 707 = .ok (.ireturn, 1) := by decide +kernel
theorem dL_law_708 : decode cL_law 708 = .ok (.goto 1273, 3) := by decide +kernel
theorem dL_law_711 : decode cL_law 711 = .ok (.aload_n 1, 1) := by decide +kernel
theorem dL_law_712 : decode cL_law 712 = .ok (.aload_n 0, 1) := by decide +kernel
theorem dL_law_713 : decode cL_law 713 = .ok (.iload 4, 2) := by decide +kernel
theorem dL_law_715 : decode cL_law 715 = .ok (.iconst 1, 1) := by decide +kernel
theorem dL_law_716 : decode cL_law 716 = .ok (.iadd, 1) := by decide +kernel
theorem dL_law_717 : decode cL_law 717 = .ok (.iaload, 1) := by decide +kernel
theorem dL_law_718 : decode cL_law 718 = .ok (.aload_n 0, 1) := by decide +kernel
theorem dL_law_719 : decode cL_law 719 = .ok (.iload 4, 2) := by decide +kernel
theorem dL_law_721 : decode cL_law 721 = .ok (.iconst 2, 1) := by decide +kernel
theorem dL_law_722 : decode cL_law 722 = .ok (.iadd, 1) := by decide +kernel
theorem dL_law_723 : decode cL_law 723 = .ok (.iaload, 1) := by decide +kernel
theorem dL_law_724 : decode cL_law 724 = .ok (.aload_n 0, 1) := by decide +kernel
theorem dL_law_725 : decode cL_law 725 = .ok (.iload 4, 2) := by decide +kernel
theorem dL_law_727 : decode cL_law 727 = .ok (.iconst 3, 1) := by decide +kernel
theorem dL_law_728 : decode cL_law 728 = .ok (.iadd, 1) := by decide +kernel
theorem dL_law_729 : decode cL_law 729 = .ok (.iaload, 1) := by decide +kernel
theorem dL_law_730 : decode cL_law 730 = .ok (.aload_n 3, 1) := by decide +kernel
theorem dL_law_731 : decode cL_law 731 = .ok (.invokestatic 144, 3) := by decide +kernel
theorem dL_law_734 : decode cL_law 734 = .ok (.istore 5, 2) := by decide +kernel
theorem dL_law_736 : decode cL_law 736 = .ok (.aload_n 2, 1) := by decide +kernel
theorem dL_law_737 : decode cL_law 737 = .ok (.aload_n 0, 1) := by decide +kernel
theorem dL_law_738 : decode cL_law 738 = .ok (.iload 4, 2) := by decide +kernel
theorem dL_law_740 : decode cL_law 740 = .ok (.iconst 1, 1) := by decide +kernel
theorem dL_law_741 : decode cL_law 741 = .ok (.iadd, 1) := by decide +kernel
theorem dL_law_742 : decode cL_law 742 = .ok (.iaload, 1) := by decide +kernel
theorem dL_law_743 : decode cL_law 743 = .ok (.aload_n 0, 1) := by decide +kernel
theorem dL_law_744 : decode cL_law 744 = .ok (.iload 4, 2) := by decide +kernel
theorem dL_law_746 : decode cL_law 746 = .ok (.iconst 2, 1) := by decide +kernel
theorem dL_law_747 : decode cL_law 747 = .ok (.iadd, 1) := by decide +kernel
theorem dL_law_748 : decode cL_law 748 = .ok (.iaload, 1) := by decide +kernel
theorem dL_law_749 : decode cL_law 749 = .ok (.aload_n 0, 1) := by decide +kernel
theorem dL_law_750 : decode cL_law 750 = .ok (.iload 4, 2) := by decide +kernel
theorem dL_law_752 : decode cL_law 752 = .ok (.iconst 3, 1) := by decide +kernel
theorem dL_law_753 : decode cL_law 753 = .ok (.iadd, 1) := by decide +kernel
theorem dL_law_754 : decode cL_law 754 = .ok (.iaload, 1) := by decide +kernel
theorem dL_law_755 : decode cL_law 755 = .ok (.invokevirtual 146, 3) := by decide +kernel
theorem dL_law_758 : decode cL_law 758 = .ok (.istore 6, 2) := by decide +kernel
theorem dL_law_760 : decode cL_law 760 = .ok (.aload_n 2, 1) := by decide +kernel
theorem dL_law_761 : decode cL_law 761 = .ok (.invokevirtual 115, 3) := by decide +kernel
theorem dL_law_764 : decode cL_law 764 = .ok (.iload 5, 2) := by decide +kernel
theorem dL_law_766 : decode cL_law 766 = .ok (.if_icmp .eq 5, 3) := by decide +kernel
theorem dL_law_769 : decode cL_law 769 = .ok (.iconst 0, 1) := by decide +kernel
theorem dL_law_770 : decode cL_law 770 = .ok (.ireturn, 1) := by decide +kernel
theorem dL_law_771 : decode cL_law 771 = .ok (.iload 5, 2) := by decide +kernel
theorem dL_law_773 : decode cL_law 773 = .ok (.ifCond .ne 15, 3) := by decide +kernel
theorem dL_law_776 : decode cL_law 776 = .ok (.aload_n 3, 1) := by decide +kernel
theorem dL_law_777 : decode cL_law 777 = .ok (.iconst 0, 1) := by decide +kernel
theorem dL_law_778 : decode cL_law 778 = .ok (.laload, 1) := by decide +kernel
theorem dL_law_779 : decode cL_law 779 = .ok (.iload 6, 2) := by decide +kernel
theorem dL_law_781 : decode cL_law 781 = .ok (.i2l, 1) := by decide +kernel
theorem dL_law_782 : decode cL_law 782 = .ok (.lcmp, 1) := by decide +kernel
theorem dL_law_783 : decode cL_law 783 = .ok (.ifCond .eq 5, 3) := by decide +kernel
theorem dL_law_786 : decode cL_law 786 = .ok (.iconst 0, 1) := by decide +kernel
theorem dL_law_787 : decode cL_law 787 = .ok (.ireturn, 1) := by decide +kernel
theorem dL_law_788 : decode cL_law 788 = .ok (.goto 1193, 3) := by decide +kernel
theorem dL_law_791 : decode cL_law 791 = .ok (.aload_n 1, 1) := by decide +kernel
theorem dL_law_792 : decode cL_law 792 = .ok (.aload_n 0, 1) := by decide +kernel
theorem dL_law_793 : decode cL_law 793 = .ok (.iload 4, 2) := by decide +kernel
theorem dL_law_795 : decode cL_law 795 = .ok (.iconst 1, 1) := by decide +kernel
theorem dL_law_796 : decode cL_law 796 = .ok (.iadd, 1) := by decide +kernel
theorem dL_law_797 : decode cL_law 797 = .ok (.iaload, 1) := by decide +kernel
theorem dL_law_798 : decode cL_law 798 = .ok (.aload_n 0, 1) := by decide +kernel
theorem dL_law_799 : decode cL_law 799 = .ok (.iload 4, 2) := by decide +kernel
theorem dL_law_801 : decode cL_law 801 = .ok (.iconst 2, 1) := by decide +kernel
theorem dL_law_802 : decode cL_law 802 = .ok (.iadd, 1) := by decide +kernel
theorem dL_law_803 : decode cL_law 803 = .ok (.iaload, 1) := by decide +kernel
theorem dL_law_804 : decode cL_law 804 = .ok (.aload_n 3, 1) := by decide +kernel
theorem dL_law_805 : decode cL_law 805 = .ok (.invokestatic 147, 3) := by decide +kernel
theorem dL_law_808 : decode cL_law 808 = .ok (.istore 5, 2) := by decide +kernel
theorem dL_law_810 : decode cL_law 810 = .ok (.aload_n 2, 1) := by decide +kernel
theorem dL_law_811 : decode cL_law 811 = .ok (.aload_n 0, 1) := by decide +kernel
theorem dL_law_812 : decode cL_law 812 = .ok (.iload 4, 2) := by decide +kernel
theorem dL_law_814 : decode cL_law 814 = .ok (.iconst 1, 1) := by decide +kernel
theorem dL_law_815 : decode cL_law 815 = .ok (.iadd, 1) := by decide +kernel
theorem dL_law_816 : decode cL_law 816 = .ok (.iaload, 1) := by decide +kernel
theorem dL_law_817 : decode cL_law 817 = .ok (.aload_n 0, 1) := by decide +kernel
theorem dL_law_818 : decode cL_law 818 = .ok (.iload 4, 2) := by decide +kernel
theorem dL_law_820 : decode cL_law 820 = .ok (.iconst 2, 1) := by decide +kernel
theorem dL_law_821 : decode cL_law 821 = .ok (.iadd, 1) := by decide +kernel
theorem dL_law_822 : decode cL_law 822 = .ok (.iaload, 1) := by decide +kernel
theorem dL_law_823 : decode cL_law 823 = .ok (.invokevirtual 149, 3) := by decide +kernel
theorem dL_law_826 : decode cL_law 826 = .ok (.istore 6, 2) := by decide +kernel
theorem dL_law_828 : decode cL_law 828 = .ok (.aload_n 2, 1) := by decide +kernel
theorem dL_law_829 : decode cL_law 829 = .ok (.invokevirtual 115, 3) := by decide +kernel
theorem dL_law_832 : decode cL_law 832 = .ok (.iload 5, 2) := by decide +kernel
theorem dL_law_834 : decode cL_law 834 = .ok (.if_icmp .eq 5, 3) := by decide +kernel
theorem dL_law_837 : decode cL_law 837 = .ok (.iconst 0, 1) := by decide +kernel
theorem dL_law_838 : decode cL_law 838 = .ok (.ireturn, 1) := by decide +kernel
theorem dL_law_839 : decode cL_law 839 = .ok (.iload 5, 2) := by decide +kernel
theorem dL_law_841 : decode cL_law 841 = .ok (.ifCond .ne 15, 3) := by decide +kernel
theorem dL_law_844 : decode cL_law 844 = .ok (.aload_n 3, 1) := by decide +kernel
theorem dL_law_845 : decode cL_law 845 = .ok (.iconst 0, 1) := by decide +kernel
theorem dL_law_846 : decode cL_law 846 = .ok (.laload, 1) := by decide +kernel
theorem dL_law_847 : decode cL_law 847 = .ok (.iload 6, 2) := by decide +kernel
theorem dL_law_849 : decode cL_law 849 = .ok (.i2l, 1) := by decide +kernel
theorem dL_law_850 : decode cL_law 850 = .ok (.lcmp, 1) := by decide +kernel
theorem dL_law_851 : decode cL_law 851 = .ok (.ifCond .eq 5, 3) := by decide +kernel
theorem dL_law_854 : decode cL_law 854 = .ok (.iconst 0, 1) := by decide +kernel
theorem dL_law_855 : decode cL_law 855 = .ok (.ireturn, 1) := by decide +kernel
theorem dL_law_856 : decode cL_law 856 = .ok (.goto 1125, 3) := by decide +kernel
theorem dL_law_859 : decode cL_law 859 = .ok (.aload_n 1, 1) := by decide +kernel
theorem dL_law_860 : decode cL_law 860 = .ok (.aload_n 0, 1) := by decide +kernel
theorem dL_law_861 : decode cL_law 861 = .ok (.iload 4, 2) := by decide +kernel
theorem dL_law_863 : decode cL_law 863 = .ok (.iconst 1, 1) := by decide +kernel
theorem dL_law_864 : decode cL_law 864 = .ok (.iadd, 1) := by decide +kernel
theorem dL_law_865 : decode cL_law 865 = .ok (.iaload, 1) := by decide +kernel
theorem dL_law_866 : decode cL_law 866 = .ok (.aload_n 0, 1) := by decide +kernel
theorem dL_law_867 : decode cL_law 867 = .ok (.iload 4, 2) := by decide +kernel
theorem dL_law_869 : decode cL_law 869 = .ok (.iconst 2, 1) := by decide +kernel
theorem dL_law_870 : decode cL_law 870 = .ok (.iadd, 1) := by decide +kernel
theorem dL_law_871 : decode cL_law 871 = .ok (.iaload, 1) := by decide +kernel
theorem dL_law_872 : decode cL_law 872 = .ok (.aload_n 3, 1) := by decide +kernel
theorem dL_law_873 : decode cL_law 873 = .ok (.invokestatic 150, 3) := by decide +kernel
theorem dL_law_876 : decode cL_law 876 = .ok (.istore 5, 2) := by decide +kernel
theorem dL_law_878 : decode cL_law 878 = .ok (.aload_n 2, 1) := by decide +kernel
theorem dL_law_879 : decode cL_law 879 = .ok (.aload_n 0, 1) := by decide +kernel
theorem dL_law_880 : decode cL_law 880 = .ok (.iload 4, 2) := by decide +kernel
theorem dL_law_882 : decode cL_law 882 = .ok (.iconst 1, 1) := by decide +kernel
theorem dL_law_883 : decode cL_law 883 = .ok (.iadd, 1) := by decide +kernel
theorem dL_law_884 : decode cL_law 884 = .ok (.iaload, 1) := by decide +kernel
theorem dL_law_885 : decode cL_law 885 = .ok (.aload_n 0, 1) := by decide +kernel
theorem dL_law_886 : decode cL_law 886 = .ok (.iload 4, 2) := by decide +kernel
theorem dL_law_888 : decode cL_law 888 = .ok (.iconst 2, 1) := by decide +kernel
theorem dL_law_889 : decode cL_law 889 = .ok (.iadd, 1) := by decide +kernel
theorem dL_law_890 : decode cL_law 890 = .ok (.iaload, 1) := by decide +kernel
theorem dL_law_891 : decode cL_law 891 = .ok (.invokevirtual 152, 3) := by decide +kernel
theorem dL_law_894 : decode cL_law 894 = .ok (.istore 6, 2) := by decide +kernel
theorem dL_law_896 : decode cL_law 896 = .ok (.aload_n 2, 1) := by decide +kernel
theorem dL_law_897 : decode cL_law 897 = .ok (.invokevirtual 115, 3) := by decide +kernel
theorem dL_law_900 : decode cL_law 900 = .ok (.iload 5, 2) := by decide +kernel
theorem dL_law_902 : decode cL_law 902 = .ok (.if_icmp .eq 5, 3) := by decide +kernel
theorem dL_law_905 : decode cL_law 905 = .ok (.iconst 0, 1) := by decide +kernel
theorem dL_law_906 : decode cL_law 906 = .ok (.ireturn, 1) := by decide +kernel
theorem dL_law_907 : decode cL_law 907 = .ok (.iload 5, 2) := by decide +kernel
theorem dL_law_909 : decode cL_law 909 = .ok (.ifCond .ne 15, 3) := by decide +kernel
theorem dL_law_912 : decode cL_law 912 = .ok (.aload_n 3, 1) := by decide +kernel
theorem dL_law_913 : decode cL_law 913 = .ok (.iconst 0, 1) := by decide +kernel
theorem dL_law_914 : decode cL_law 914 = .ok (.laload, 1) := by decide +kernel
theorem dL_law_915 : decode cL_law 915 = .ok (.iload 6, 2) := by decide +kernel
theorem dL_law_917 : decode cL_law 917 = .ok (.i2l, 1) := by decide +kernel
theorem dL_law_918 : decode cL_law 918 = .ok (.lcmp, 1) := by decide +kernel
theorem dL_law_919 : decode cL_law 919 = .ok (.ifCond .eq 5, 3) := by decide +kernel
theorem dL_law_922 : decode cL_law 922 = .ok (.iconst 0, 1) := by decide +kernel
theorem dL_law_923 : decode cL_law 923 = .ok (.ireturn, 1) := by decide +kernel
theorem dL_law_924 : decode cL_law 924 = .ok (.goto 1057, 3) := by decide +kernel
theorem dL_law_927 : decode cL_law 927 = .ok (.aload_n 1, 1) := by decide +kernel
theorem dL_law_928 : decode cL_law 928 = .ok (.aload_n 0, 1) := by decide +kernel
theorem dL_law_929 : decode cL_law 929 = .ok (.iload 4, 2) := by decide +kernel
theorem dL_law_931 : decode cL_law 931 = .ok (.iconst 1, 1) := by decide +kernel
theorem dL_law_932 : decode cL_law 932 = .ok (.iadd, 1) := by decide +kernel
theorem dL_law_933 : decode cL_law 933 = .ok (.iaload, 1) := by decide +kernel
theorem dL_law_934 : decode cL_law 934 = .ok (.aload_n 0, 1) := by decide +kernel
theorem dL_law_935 : decode cL_law 935 = .ok (.iload 4, 2) := by decide +kernel
theorem dL_law_937 : decode cL_law 937 = .ok (.iconst 2, 1) := by decide +kernel
theorem dL_law_938 : decode cL_law 938 = .ok (.iadd, 1) := by decide +kernel
theorem dL_law_939 : decode cL_law 939 = .ok (.iaload, 1) := by decide +kernel
theorem dL_law_940 : decode cL_law 940 = .ok (.aload_n 3, 1) := by decide +kernel
theorem dL_law_941 : decode cL_law 941 = .ok (.invokestatic 153, 3) := by decide +kernel
theorem dL_law_944 : decode cL_law 944 = .ok (.istore 5, 2) := by decide +kernel
theorem dL_law_946 : decode cL_law 946 = .ok (.aload_n 2, 1) := by decide +kernel
theorem dL_law_947 : decode cL_law 947 = .ok (.aload_n 0, 1) := by decide +kernel
theorem dL_law_948 : decode cL_law 948 = .ok (.iload 4, 2) := by decide +kernel
theorem dL_law_950 : decode cL_law 950 = .ok (.iconst 1, 1) := by decide +kernel
theorem dL_law_951 : decode cL_law 951 = .ok (.iadd, 1) := by decide +kernel
theorem dL_law_952 : decode cL_law 952 = .ok (.iaload, 1) := by decide +kernel
theorem dL_law_953 : decode cL_law 953 = .ok (.aload_n 0, 1) := by decide +kernel
theorem dL_law_954 : decode cL_law 954 = .ok (.iload 4, 2) := by decide +kernel
theorem dL_law_956 : decode cL_law 956 = .ok (.iconst 2, 1) := by decide +kernel
theorem dL_law_957 : decode cL_law 957 = .ok (.iadd, 1) := by decide +kernel
theorem dL_law_958 : decode cL_law 958 = .ok (.iaload, 1) := by decide +kernel
theorem dL_law_959 : decode cL_law 959 = .ok (.invokevirtual 155, 3) := by decide +kernel
theorem dL_law_962 : decode cL_law 962 = .ok (.istore 6, 2) := by decide +kernel
theorem dL_law_964 : decode cL_law 964 = .ok (.aload_n 2, 1) := by decide +kernel
theorem dL_law_965 : decode cL_law 965 = .ok (.invokevirtual 115, 3) := by decide +kernel
theorem dL_law_968 : decode cL_law 968 = .ok (.iload 5, 2) := by decide +kernel
theorem dL_law_970 : decode cL_law 970 = .ok (.if_icmp .eq 5, 3) := by decide +kernel
theorem dL_law_973 : decode cL_law 973 = .ok (.iconst 0, 1) := by decide +kernel
theorem dL_law_974 : decode cL_law 974 = .ok (.ireturn, 1) := by decide +kernel
theorem dL_law_975 : decode cL_law 975 = .ok (.iload 5, 2) := by decide +kernel
theorem dL_law_977 : decode cL_law 977 = .ok (.ifCond .ne 15, 3) := by decide +kernel
theorem dL_law_980 : decode cL_law 980 = .ok (.aload_n 3, 1) := by decide +kernel
theorem dL_law_981 : decode cL_law 981 = .ok (.iconst 0, 1) := by decide +kernel
theorem dL_law_982 : decode cL_law 982 = .ok (.laload, 1) := by decide +kernel
theorem dL_law_983 : decode cL_law 983 = .ok (.iload 6, 2) := by decide +kernel
theorem dL_law_985 : decode cL_law 985 = .ok (.i2l, 1) := by decide +kernel
theorem dL_law_986 : decode cL_law 986 = .ok (.lcmp, 1) := by decide +kernel
theorem dL_law_987 : decode cL_law 987 = .ok (.ifCond .eq 5, 3) := by decide +kernel
theorem dL_law_990 : decode cL_law 990 = .ok (.iconst 0, 1) := by decide +kernel
theorem dL_law_991 : decode cL_law 991 = .ok (.ireturn, 1) := by decide +kernel
theorem dL_law_992 : decode cL_law 992 = .ok (.goto 989, 3) := by decide +kernel
theorem dL_law_995 : decode cL_law 995 = .ok (.aload_n 1, 1) := by decide +kernel
theorem dL_law_996 : decode cL_law 996 = .ok (.aload_n 0, 1) := by decide +kernel
theorem dL_law_997 : decode cL_law 997 = .ok (.iload 4, 2) := by decide +kernel
theorem dL_law_999 : decode cL_law 999 = .ok (.iconst 1, 1) := by decide +kernel
theorem dL_law_1000 : decode cL_law 1000 = .ok (.iadd, 1) := by decide +kernel
theorem dL_law_1001 : decode cL_law 1001 = .ok (.iaload, 1) := by decide +kernel
theorem dL_law_1002 : decode cL_law 1002 = .ok (.aload_n 3, 1) := by decide +kernel
theorem dL_law_1003 : decode cL_law 1003 = .ok (.invokestatic 156, 3) := by decide +kernel
theorem dL_law_1006 : decode cL_law 1006 = .ok (.istore 5, 2) := by decide +kernel
theorem dL_law_1008 : decode cL_law 1008 = .ok (.aload_n 2, 1) := by decide +kernel
theorem dL_law_1009 : decode cL_law 1009 = .ok (.aload_n 0, 1) := by decide +kernel
theorem dL_law_1010 : decode cL_law 1010 = .ok (.iload 4, 2) := by decide +kernel
theorem dL_law_1012 : decode cL_law 1012 = .ok (.iconst 1, 1) := by decide +kernel
theorem dL_law_1013 : decode cL_law 1013 = .ok (.iadd, 1) := by decide +kernel
theorem dL_law_1014 : decode cL_law 1014 = .ok (.iaload, 1) := by decide +kernel
theorem dL_law_1015 : decode cL_law 1015 = .ok (.invokevirtual 158, 3) := by decide +kernel
theorem dL_law_1018 : decode cL_law 1018 = .ok (.istore 6, 2) := by decide +kernel
theorem dL_law_1020 : decode cL_law 1020 = .ok (.aload_n 2, 1) := by decide +kernel
theorem dL_law_1021 : decode cL_law 1021 = .ok (.invokevirtual 115, 3) := by decide +kernel
theorem dL_law_1024 : decode cL_law 1024 = .ok (.iload 5, 2) := by decide +kernel
theorem dL_law_1026 : decode cL_law 1026 = .ok (.if_icmp .eq 5, 3) := by decide +kernel
theorem dL_law_1029 : decode cL_law 1029 = .ok (.iconst 0, 1) := by decide +kernel
theorem dL_law_1030 : decode cL_law 1030 = .ok (.ireturn, 1) := by decide +kernel
theorem dL_law_1031 : decode cL_law 1031 = .ok (.iload 5, 2) := by decide +kernel
theorem dL_law_1033 : decode cL_law 1033 = .ok (.ifCond .ne 15, 3) := by decide +kernel
theorem dL_law_1036 : decode cL_law 1036 = .ok (.aload_n 3, 1) := by decide +kernel
theorem dL_law_1037 : decode cL_law 1037 = .ok (.iconst 0, 1) := by decide +kernel
theorem dL_law_1038 : decode cL_law 1038 = .ok (.laload, 1) := by decide +kernel
theorem dL_law_1039 : decode cL_law 1039 = .ok (.iload 6, 2) := by decide +kernel
theorem dL_law_1041 : decode cL_law 1041 = .ok (.i2l, 1) := by decide +kernel
theorem dL_law_1042 : decode cL_law 1042 = .ok (.lcmp, 1) := by decide +kernel
theorem dL_law_1043 : decode cL_law 1043 = .ok (.ifCond .eq 5, 3) := by decide +kernel
theorem dL_law_1046 : decode cL_law 1046 = .ok (.iconst 0, 1) := by decide +kernel
theorem dL_law_1047 : decode cL_law 1047 = .ok (.ireturn, 1) := by decide +kernel
theorem dL_law_1048 : decode cL_law 1048 = .ok (.goto 933, 3) := by decide +kernel
theorem dL_law_1051 : decode cL_law 1051 = .ok (.aload_n 1, 1) := by decide +kernel
theorem dL_law_1052 : decode cL_law 1052 = .ok (.aload_n 0, 1) := by decide +kernel
theorem dL_law_1053 : decode cL_law 1053 = .ok (.iload 4, 2) := by decide +kernel
theorem dL_law_1055 : decode cL_law 1055 = .ok (.iconst 1, 1) := by decide +kernel
theorem dL_law_1056 : decode cL_law 1056 = .ok (.iadd, 1) := by decide +kernel
theorem dL_law_1057 : decode cL_law 1057 = .ok (.iaload, 1) := by decide +kernel
theorem dL_law_1058 : decode cL_law 1058 = .ok (.aload_n 3, 1) := by decide +kernel
theorem dL_law_1059 : decode cL_law 1059 = .ok (.invokestatic 159, 3) := by decide +kernel
theorem dL_law_1062 : decode cL_law 1062 = .ok (.istore 5, 2) := by decide +kernel
theorem dL_law_1064 : decode cL_law 1064 = .ok (.aload_n 2, 1) := by decide +kernel
theorem dL_law_1065 : decode cL_law 1065 = .ok (.aload_n 0, 1) := by decide +kernel
theorem dL_law_1066 : decode cL_law 1066 = .ok (.iload 4, 2) := by decide +kernel
theorem dL_law_1068 : decode cL_law 1068 = .ok (.iconst 1, 1) := by decide +kernel
theorem dL_law_1069 : decode cL_law 1069 = .ok (.iadd, 1) := by decide +kernel
theorem dL_law_1070 : decode cL_law 1070 = .ok (.iaload, 1) := by decide +kernel
theorem dL_law_1071 : decode cL_law 1071 = .ok (.invokevirtual 161, 3) := by decide +kernel
theorem dL_law_1074 : decode cL_law 1074 = .ok (.istore 6, 2) := by decide +kernel
theorem dL_law_1076 : decode cL_law 1076 = .ok (.aload_n 2, 1) := by decide +kernel
theorem dL_law_1077 : decode cL_law 1077 = .ok (.invokevirtual 115, 3) := by decide +kernel
theorem dL_law_1080 : decode cL_law 1080 = .ok (.iload 5, 2) := by decide +kernel
theorem dL_law_1082 : decode cL_law 1082 = .ok (.if_icmp .eq 5, 3) := by decide +kernel
theorem dL_law_1085 : decode cL_law 1085 = .ok (.iconst 0, 1) := by decide +kernel
theorem dL_law_1086 : decode cL_law 1086 = .ok (.ireturn, 1) := by decide +kernel
theorem dL_law_1087 : decode cL_law 1087 = .ok (.iload 5, 2) := by decide +kernel
theorem dL_law_1089 : decode cL_law 1089 = .ok (.ifCond .ne 15, 3) := by decide +kernel
theorem dL_law_1092 : decode cL_law 1092 = .ok (.aload_n 3, 1) := by decide +kernel
theorem dL_law_1093 : decode cL_law 1093 = .ok (.iconst 0, 1) := by decide +kernel
theorem dL_law_1094 : decode cL_law 1094 = .ok (.laload, 1) := by decide +kernel
theorem dL_law_1095 : decode cL_law 1095 = .ok (.iload 6, 2) := by decide +kernel
theorem dL_law_1097 : decode cL_law 1097 = .ok (.i2l, 1) := by decide +kernel
theorem dL_law_1098 : decode cL_law 1098 = .ok (.lcmp, 1) := by decide +kernel
theorem dL_law_1099 : decode cL_law 1099 = .ok (.ifCond .eq 5, 3) := by decide +kernel
theorem dL_law_1102 : decode cL_law 1102 = .ok (.iconst 0, 1) := by decide +kernel
theorem dL_law_1103 : decode cL_law 1103 = .ok (.ireturn, 1) := by decide +kernel
theorem dL_law_1104 : decode cL_law 1104 = .ok (.goto 877, 3) := by decide +kernel
theorem dL_law_1107 : decode cL_law 1107 = .ok (.aload_n 1, 1) := by decide +kernel
theorem dL_law_1108 : decode cL_law 1108 = .ok (.aload_n 0, 1) := by decide +kernel
theorem dL_law_1109 : decode cL_law 1109 = .ok (.iload 4, 2) := by decide +kernel
theorem dL_law_1111 : decode cL_law 1111 = .ok (.iconst 1, 1) := by decide +kernel
theorem dL_law_1112 : decode cL_law 1112 = .ok (.iadd, 1) := by decide +kernel
theorem dL_law_1113 : decode cL_law 1113 = .ok (.iaload, 1) := by decide +kernel
theorem dL_law_1114 : decode cL_law 1114 = .ok (.aload_n 0, 1) := by decide +kernel
theorem dL_law_1115 : decode cL_law 1115 = .ok (.iload 4, 2) := by decide +kernel
theorem dL_law_1117 : decode cL_law 1117 = .ok (.iconst 2, 1) := by decide +kernel
theorem dL_law_1118 : decode cL_law 1118 = .ok (.iadd, 1) := by decide +kernel
theorem dL_law_1119 : decode cL_law 1119 = .ok (.iaload, 1) := by decide +kernel
theorem dL_law_1120 : decode cL_law 1120 = .ok (.aload_n 3, 1) := by decide +kernel
theorem dL_law_1121 : decode cL_law 1121 = .ok (.invokestatic 162, 3) := by decide +kernel
theorem dL_law_1124 : decode cL_law 1124 = .ok (.istore 5, 2) := by decide +kernel
theorem dL_law_1126 : decode cL_law 1126 = .ok (.aload_n 2, 1) := by decide +kernel
theorem dL_law_1127 : decode cL_law 1127 = .ok (.aload_n 0, 1) := by decide +kernel
theorem dL_law_1128 : decode cL_law 1128 = .ok (.iload 4, 2) := by decide +kernel
theorem dL_law_1130 : decode cL_law 1130 = .ok (.iconst 1, 1) := by decide +kernel
theorem dL_law_1131 : decode cL_law 1131 = .ok (.iadd, 1) := by decide +kernel
theorem dL_law_1132 : decode cL_law 1132 = .ok (.iaload, 1) := by decide +kernel
theorem dL_law_1133 : decode cL_law 1133 = .ok (.aload_n 0, 1) := by decide +kernel
theorem dL_law_1134 : decode cL_law 1134 = .ok (.iload 4, 2) := by decide +kernel
theorem dL_law_1136 : decode cL_law 1136 = .ok (.iconst 2, 1) := by decide +kernel
theorem dL_law_1137 : decode cL_law 1137 = .ok (.iadd, 1) := by decide +kernel
theorem dL_law_1138 : decode cL_law 1138 = .ok (.iaload, 1) := by decide +kernel
theorem dL_law_1139 : decode cL_law 1139 = .ok (.invokevirtual 164, 3) := by decide +kernel
theorem dL_law_1142 : decode cL_law 1142 = .ok (.istore 6, 2) := by decide +kernel
theorem dL_law_1144 : decode cL_law 1144 = .ok (.aload_n 2, 1) := by decide +kernel
theorem dL_law_1145 : decode cL_law 1145 = .ok (.invokevirtual 115, 3) := by decide +kernel
theorem dL_law_1148 : decode cL_law 1148 = .ok (.iload 5, 2) := by decide +kernel
theorem dL_law_1150 : decode cL_law 1150 = .ok (.if_icmp .eq 5, 3) := by decide +kernel
theorem dL_law_1153 : decode cL_law 1153 = .ok (.iconst 0, 1) := by decide +kernel
theorem dL_law_1154 : decode cL_law 1154 = .ok (.ireturn, 1) := by decide +kernel
theorem dL_law_1155 : decode cL_law 1155 = .ok (.iload 5, 2) := by decide +kernel
theorem dL_law_1157 : decode cL_law 1157 = .ok (.ifCond .ne 15, 3) := by decide +kernel
theorem dL_law_1160 : decode cL_law 1160 = .ok (.aload_n 3, 1) := by decide +kernel
theorem dL_law_1161 : decode cL_law 1161 = .ok (.iconst 0, 1) := by decide +kernel
theorem dL_law_1162 : decode cL_law 1162 = .ok (.laload, 1) := by decide +kernel
theorem dL_law_1163 : decode cL_law 1163 = .ok (.iload 6, 2) := by decide +kernel
theorem dL_law_1165 : decode cL_law 1165 = .ok (.i2l, 1) := by decide +kernel
theorem dL_law_1166 : decode cL_law 1166 = .ok (.lcmp, 1) := by decide +kernel
theorem dL_law_1167 : decode cL_law 1167 = .ok (.ifCond .eq 5, 3) := by decide +kernel
theorem dL_law_1170 : decode cL_law 1170 = .ok (.iconst 0, 1) := by decide +kernel
theorem dL_law_1171 : decode cL_law 1171 = .ok (.ireturn, 1) := by decide +kernel
theorem dL_law_1172 : decode cL_law 1172 = .ok (.goto 809, 3) := by decide +kernel
theorem dL_law_1175 : decode cL_law 1175 = .ok (.aload_n 1, 1) := by decide +kernel
theorem dL_law_1176 : decode cL_law 1176 = .ok (.aload_n 0, 1) := by decide +kernel
theorem dL_law_1177 : decode cL_law 1177 = .ok (.iload 4, 2) := by decide +kernel
theorem dL_law_1179 : decode cL_law 1179 = .ok (.iconst 1, 1) := by decide +kernel
theorem dL_law_1180 : decode cL_law 1180 = .ok (.iadd, 1) := by decide +kernel
theorem dL_law_1181 : decode cL_law 1181 = .ok (.iaload, 1) := by decide +kernel
theorem dL_law_1182 : decode cL_law 1182 = .ok (.aload_n 3, 1) := by decide +kernel
theorem dL_law_1183 : decode cL_law 1183 = .ok (.invokestatic 165, 3) := by decide +kernel
theorem dL_law_1186 : decode cL_law 1186 = .ok (.istore 5, 2) := by decide +kernel
theorem dL_law_1188 : decode cL_law 1188 = .ok (.aload_n 2, 1) := by decide +kernel
theorem dL_law_1189 : decode cL_law 1189 = .ok (.aload_n 0, 1) := by decide +kernel
theorem dL_law_1190 : decode cL_law 1190 = .ok (.iload 4, 2) := by decide +kernel
theorem dL_law_1192 : decode cL_law 1192 = .ok (.iconst 1, 1) := by decide +kernel
theorem dL_law_1193 : decode cL_law 1193 = .ok (.iadd, 1) := by decide +kernel
theorem dL_law_1194 : decode cL_law 1194 = .ok (.iaload, 1) := by decide +kernel
theorem dL_law_1195 : decode cL_law 1195 = .ok (.invokevirtual 167, 3) := by decide +kernel
theorem dL_law_1198 : decode cL_law 1198 = .ok (.istore 6, 2) := by decide +kernel
theorem dL_law_1200 : decode cL_law 1200 = .ok (.aload_n 2, 1) := by decide +kernel
theorem dL_law_1201 : decode cL_law 1201 = .ok (.invokevirtual 115, 3) := by decide +kernel
theorem dL_law_1204 : decode cL_law 1204 = .ok (.iload 5, 2) := by decide +kernel
theorem dL_law_1206 : decode cL_law 1206 = .ok (.if_icmp .eq 5, 3) := by decide +kernel
theorem dL_law_1209 : decode cL_law 1209 = .ok (.iconst 0, 1) := by decide +kernel
theorem dL_law_1210 : decode cL_law 1210 = .ok (.ireturn, 1) := by decide +kernel
theorem dL_law_1211 : decode cL_law 1211 = .ok (.iload 5, 2) := by decide +kernel
theorem dL_law_1213 : decode cL_law 1213 = .ok (.ifCond .ne 15, 3) := by decide +kernel
theorem dL_law_1216 : decode cL_law 1216 = .ok (.aload_n 3, 1) := by decide +kernel
theorem dL_law_1217 : decode cL_law 1217 = .ok (.iconst 0, 1) := by decide +kernel
theorem dL_law_1218 : decode cL_law 1218 = .ok (.laload, 1) := by decide +kernel
theorem dL_law_1219 : decode cL_law 1219 = .ok (.iload 6, 2) := by decide +kernel
theorem dL_law_1221 : decode cL_law 1221 = .ok (.i2l, 1) := by decide +kernel
theorem dL_law_1222 : decode cL_law 1222 = .ok (.lcmp, 1) := by decide +kernel
theorem dL_law_1223 : decode cL_law 1223 = .ok (.ifCond .eq 5, 3) := by decide +kernel
theorem dL_law_1226 : decode cL_law 1226 = .ok (.iconst 0, 1) := by decide +kernel
theorem dL_law_1227 : decode cL_law 1227 = .ok (.ireturn, 1) := by decide +kernel
theorem dL_law_1228 : decode cL_law 1228 = .ok (.goto 753, 3) := by decide +kernel
theorem dL_law_1231 : decode cL_law 1231 = .ok (.aload_n 1, 1) := by decide +kernel
theorem dL_law_1232 : decode cL_law 1232 = .ok (.aload_n 0, 1) := by decide +kernel
theorem dL_law_1233 : decode cL_law 1233 = .ok (.iload 4, 2) := by decide +kernel
theorem dL_law_1235 : decode cL_law 1235 = .ok (.iconst 1, 1) := by decide +kernel
theorem dL_law_1236 : decode cL_law 1236 = .ok (.iadd, 1) := by decide +kernel
theorem dL_law_1237 : decode cL_law 1237 = .ok (.iaload, 1) := by decide +kernel
theorem dL_law_1238 : decode cL_law 1238 = .ok (.aload_n 3, 1) := by decide +kernel
theorem dL_law_1239 : decode cL_law 1239 = .ok (.invokestatic 168, 3) := by decide +kernel
theorem dL_law_1242 : decode cL_law 1242 = .ok (.istore 5, 2) := by decide +kernel
theorem dL_law_1244 : decode cL_law 1244 = .ok (.aload_n 2, 1) := by decide +kernel
theorem dL_law_1245 : decode cL_law 1245 = .ok (.aload_n 0, 1) := by decide +kernel
theorem dL_law_1246 : decode cL_law 1246 = .ok (.iload 4, 2) := by decide +kernel
theorem dL_law_1248 : decode cL_law 1248 = .ok (.iconst 1, 1) := by decide +kernel
theorem dL_law_1249 : decode cL_law 1249 = .ok (.iadd, 1) := by decide +kernel
theorem dL_law_1250 : decode cL_law 1250 = .ok (.iaload, 1) := by decide +kernel
theorem dL_law_1251 : decode cL_law 1251 = .ok (.invokevirtual 170, 3) := by decide +kernel
theorem dL_law_1254 : decode cL_law 1254 = .ok (.istore 6, 2) := by decide +kernel
theorem dL_law_1256 : decode cL_law 1256 = .ok (.aload_n 2, 1) := by decide +kernel
theorem dL_law_1257 : decode cL_law 1257 = .ok (.invokevirtual 115, 3) := by decide +kernel
theorem dL_law_1260 : decode cL_law 1260 = .ok (.iload 5, 2) := by decide +kernel
theorem dL_law_1262 : decode cL_law 1262 = .ok (.if_icmp .eq 5, 3) := by decide +kernel
theorem dL_law_1265 : decode cL_law 1265 = .ok (.iconst 0, 1) := by decide +kernel
theorem dL_law_1266 : decode cL_law 1266 = .ok (.ireturn, 1) := by decide +kernel
theorem dL_law_1267 : decode cL_law 1267 = .ok (.iload 5, 2) := by decide +kernel
theorem dL_law_1269 : decode cL_law 1269 = .ok (.ifCond .ne 15, 3) := by decide +kernel
theorem dL_law_1272 : decode cL_law 1272 = .ok (.aload_n 3, 1) := by decide +kernel
theorem dL_law_1273 : decode cL_law 1273 = .ok (.iconst 0, 1) := by decide +kernel
theorem dL_law_1274 : decode cL_law 1274 = .ok (.laload, 1) := by decide +kernel
theorem dL_law_1275 : decode cL_law 1275 = .ok (.iload 6, 2) := by decide +kernel
theorem dL_law_1277 : decode cL_law 1277 = .ok (.i2l, 1) := by decide +kernel
theorem dL_law_1278 : decode cL_law 1278 = .ok (.lcmp, 1) := by decide +kernel
theorem dL_law_1279 : decode cL_law 1279 = .ok (.ifCond .eq 5, 3) := by decide +kernel
theorem dL_law_1282 : decode cL_law 1282 = .ok (.iconst 0, 1) := by decide +kernel
theorem dL_law_1283 : decode cL_law 1283 = .ok (.ireturn, 1) := by decide +kernel
theorem dL_law_1284 : decode cL_law 1284 = .ok (.goto 697, 3) := by decide +kernel
theorem dL_law_1287 : decode cL_law 1287 = .ok (.aload_n 1, 1) := by decide +kernel
theorem dL_law_1288 : decode cL_law 1288 = .ok (.aload_n 0, 1) := by decide +kernel
theorem dL_law_1289 : decode cL_law 1289 = .ok (.iload 4, 2) := by decide +kernel
theorem dL_law_1291 : decode cL_law 1291 = .ok (.iconst 1, 1) := by decide +kernel
theorem dL_law_1292 : decode cL_law 1292 = .ok (.iadd, 1) := by decide +kernel
theorem dL_law_1293 : decode cL_law 1293 = .ok (.iaload, 1) := by decide +kernel
theorem dL_law_1294 : decode cL_law 1294 = .ok (.aload_n 3, 1) := by decide +kernel
theorem dL_law_1295 : decode cL_law 1295 = .ok (.invokestatic 171, 3) := by decide +kernel
theorem dL_law_1298 : decode cL_law 1298 = .ok (.istore 5, 2) := by decide +kernel
theorem dL_law_1300 : decode cL_law 1300 = .ok (.aload_n 2, 1) := by decide +kernel
theorem dL_law_1301 : decode cL_law 1301 = .ok (.aload_n 0, 1) := by decide +kernel
theorem dL_law_1302 : decode cL_law 1302 = .ok (.iload 4, 2) := by decide +kernel
theorem dL_law_1304 : decode cL_law 1304 = .ok (.iconst 1, 1) := by decide +kernel
theorem dL_law_1305 : decode cL_law 1305 = .ok (.iadd, 1) := by decide +kernel
theorem dL_law_1306 : decode cL_law 1306 = .ok (.iaload, 1) := by decide +kernel
theorem dL_law_1307 : decode cL_law 1307 = .ok (.invokevirtual 173, 3) := by decide +kernel
theorem dL_law_1310 : decode cL_law 1310 = .ok (.istore 6, 2) := by decide +kernel
theorem dL_law_1312 : decode cL_law 1312 = .ok (.aload_n 2, 1) := by decide +kernel
theorem dL_law_1313 : decode cL_law 1313 = .ok (.invokevirtual 115, 3) := by decide +kernel
theorem dL_law_1316 : decode cL_law 1316 = .ok (.iload 5, 2) := by decide +kernel
theorem dL_law_1318 : decode cL_law 1318 = .ok (.if_icmp .eq 5, 3) := by decide +kernel
theorem dL_law_1321 : decode cL_law 1321 = .ok (.iconst 0, 1) := by decide +kernel
theorem dL_law_1322 : decode cL_law 1322 = .ok (.ireturn, 1) := by decide +kernel
theorem dL_law_1323 : decode cL_law 1323 = .ok (.iload 5, 2) := by decide +kernel
theorem dL_law_1325 : decode cL_law 1325 = .ok (.ifCond .ne 15, 3) := by decide +kernel
theorem dL_law_1328 : decode cL_law 1328 = .ok (.aload_n 3, 1) := by decide +kernel
theorem dL_law_1329 : decode cL_law 1329 = .ok (.iconst 0, 1) := by decide +kernel
theorem dL_law_1330 : decode cL_law 1330 = .ok (.laload, 1) := by decide +kernel
theorem dL_law_1331 : decode cL_law 1331 = .ok (.iload 6, 2) := by decide +kernel
theorem dL_law_1333 : decode cL_law 1333 = .ok (.i2l, 1) := by decide +kernel
theorem dL_law_1334 : decode cL_law 1334 = .ok (.lcmp, 1) := by decide +kernel
theorem dL_law_1335 : decode cL_law 1335 = .ok (.ifCond .eq 5, 3) := by decide +kernel
theorem dL_law_1338 : decode cL_law 1338 = .ok (.iconst 0, 1) := by decide +kernel
theorem dL_law_1339 : decode cL_law 1339 = .ok (.ireturn, 1) := by decide +kernel
theorem dL_law_1340 : decode cL_law 1340 = .ok (.goto 641, 3) := by decide +kernel
theorem dL_law_1343 : decode cL_law 1343 = .ok (.aload_n 1, 1) := by decide +kernel
theorem dL_law_1344 : decode cL_law 1344 = .ok (.aload_n 0, 1) := by decide +kernel
theorem dL_law_1345 : decode cL_law 1345 = .ok (.iload 4, 2) := by decide +kernel
theorem dL_law_1347 : decode cL_law 1347 = .ok (.iconst 1, 1) := by decide +kernel
theorem dL_law_1348 : decode cL_law 1348 = .ok (.iadd, 1) := by decide +kernel
theorem dL_law_1349 : decode cL_law 1349 = .ok (.iaload, 1) := by decide +kernel
theorem dL_law_1350 : decode cL_law 1350 = .ok (.aload_n 3, 1) := by decide +kernel
theorem dL_law_1351 : decode cL_law 1351 = .ok (.invokestatic 174, 3) := by decide +kernel
theorem dL_law_1354 : decode cL_law 1354 = .ok (.istore 5, 2) := by decide +kernel
theorem dL_law_1356 : decode cL_law 1356 = .ok (.aload_n 2, 1) := by decide +kernel
theorem dL_law_1357 : decode cL_law 1357 = .ok (.aload_n 0, 1) := by decide +kernel
theorem dL_law_1358 : decode cL_law 1358 = .ok (.iload 4, 2) := by decide +kernel
theorem dL_law_1360 : decode cL_law 1360 = .ok (.iconst 1, 1) := by decide +kernel
theorem dL_law_1361 : decode cL_law 1361 = .ok (.iadd, 1) := by decide +kernel
theorem dL_law_1362 : decode cL_law 1362 = .ok (.iaload, 1) := by decide +kernel
theorem dL_law_1363 : decode cL_law 1363 = .ok (.invokevirtual 176, 3) := by decide +kernel
theorem dL_law_1366 : decode cL_law 1366 = .ok (.istore 6, 2) := by decide +kernel
theorem dL_law_1368 : decode cL_law 1368 = .ok (.aload_n 2, 1) := by decide +kernel
theorem dL_law_1369 : decode cL_law 1369 = .ok (.invokevirtual 115, 3) := by decide +kernel
theorem dL_law_1372 : decode cL_law 1372 = .ok (.iload 5, 2) := by decide +kernel
theorem dL_law_1374 : decode cL_law 1374 = .ok (.if_icmp .eq 5, 3) := by decide +kernel
theorem dL_law_1377 : decode cL_law 1377 = .ok (.iconst 0, 1) := by decide +kernel
theorem dL_law_1378 : decode cL_law 1378 = .ok (.ireturn, 1) := by decide +kernel
theorem dL_law_1379 : decode cL_law 1379 = .ok (.iload 5, 2) := by decide +kernel
theorem dL_law_1381 : decode cL_law 1381 = .ok (.ifCond .ne 15, 3) := by decide +kernel
theorem dL_law_1384 : decode cL_law 1384 = .ok (.aload_n 3, 1) := by decide +kernel
theorem dL_law_1385 : decode cL_law 1385 = .ok (.iconst 0, 1) := by decide +kernel
theorem dL_law_1386 : decode cL_law 1386 = .ok (.laload, 1) := by decide +kernel
theorem dL_law_1387 : decode cL_law 1387 = .ok (.iload 6, 2) := by decide +kernel
theorem dL_law_1389 : decode cL_law 1389 = .ok (.i2l, 1) := by decide +kernel
theorem dL_law_1390 : decode cL_law 1390 = .ok (.lcmp, 1) := by decide +kernel
theorem dL_law_1391 : decode cL_law 1391 = .ok (.ifCond .eq 5, 3) := by decide +kernel
theorem dL_law_1394 : decode cL_law 1394 = .ok (.iconst 0, 1) := by decide +kernel
theorem dL_law_1395 : decode cL_law 1395 = .ok (.ireturn, 1) := by decide +kernel
theorem dL_law_1396 : decode cL_law 1396 = .ok (.goto 585, 3) := by decide +kernel
theorem dL_law_1399 : decode cL_law 1399 = .ok (.aload_n 1, 1) := by decide +kernel
theorem dL_law_1400 : decode cL_law 1400 = .ok (.aload_n 0, 1) := by decide +kernel
theorem dL_law_1401 : decode cL_law 1401 = .ok (.iload 4, 2) := by decide +kernel
theorem dL_law_1403 : decode cL_law 1403 = .ok (.iconst 1, 1) := by decide +kernel
theorem dL_law_1404 : decode cL_law 1404 = .ok (.iadd, 1) := by decide +kernel
theorem dL_law_1405 : decode cL_law 1405 = .ok (.iaload, 1) := by decide +kernel
theorem dL_law_1406 : decode cL_law 1406 = .ok (.aload_n 3, 1) := by decide +kernel
theorem dL_law_1407 : decode cL_law 1407 = .ok (.invokestatic 177, 3) := by decide +kernel
theorem dL_law_1410 : decode cL_law 1410 = .ok (.istore 5, 2) := by decide +kernel
theorem dL_law_1412 : decode cL_law 1412 = .ok (.aload_n 2, 1) := by decide +kernel
theorem dL_law_1413 : decode cL_law 1413 = .ok (.aload_n 0, 1) := by decide +kernel
theorem dL_law_1414 : decode cL_law 1414 = .ok (.iload 4, 2) := by decide +kernel
theorem dL_law_1416 : decode cL_law 1416 = .ok (.iconst 1, 1) := by decide +kernel
theorem dL_law_1417 : decode cL_law 1417 = .ok (.iadd, 1) := by decide +kernel
theorem dL_law_1418 : decode cL_law 1418 = .ok (.iaload, 1) := by decide +kernel
theorem dL_law_1419 : decode cL_law 1419 = .ok (.invokevirtual 179, 3) := by decide +kernel
theorem dL_law_1422 : decode cL_law 1422 = .ok (.istore 6, 2) := by decide +kernel
theorem dL_law_1424 : decode cL_law 1424 = .ok (.aload_n 2, 1) := by decide +kernel
theorem dL_law_1425 : decode cL_law 1425 = .ok (.invokevirtual 115, 3) := by decide +kernel
theorem dL_law_1428 : decode cL_law 1428 = .ok (.iload 5, 2) := by decide +kernel
theorem dL_law_1430 : decode cL_law 1430 = .ok (.if_icmp .eq 5, 3) := by decide +kernel
theorem dL_law_1433 : decode cL_law 1433 = .ok (.iconst 0, 1) := by decide +kernel
theorem dL_law_1434 : decode cL_law 1434 = .ok (.ireturn, 1) := by decide +kernel
theorem dL_law_1435 : decode cL_law 1435 = .ok (.iload 5, 2) := by decide +kernel
theorem dL_law_1437 : decode cL_law 1437 = .ok (.ifCond .ne 15, 3) := by decide +kernel
theorem dL_law_1440 : decode cL_law 1440 = .ok (.aload_n 3, 1) := by decide +kernel
theorem dL_law_1441 : decode cL_law 1441 = .ok (.iconst 0, 1) := by decide +kernel
theorem dL_law_1442 : decode cL_law 1442 = .ok (.laload, 1) := by decide +kernel
theorem dL_law_1443 : decode cL_law 1443 = .ok (.iload 6, 2) := by decide +kernel
theorem dL_law_1445 : decode cL_law 1445 = .ok (.i2l, 1) := by decide +kernel
theorem dL_law_1446 : decode cL_law 1446 = .ok (.lcmp, 1) := by decide +kernel
theorem dL_law_1447 : decode cL_law 1447 = .ok (.ifCond .eq 5, 3) := by decide +kernel
theorem dL_law_1450 : decode cL_law 1450 = .ok (.iconst 0, 1) := by decide +kernel
theorem dL_law_1451 : decode cL_law 1451 = .ok (.ireturn, 1) := by decide +kernel
theorem dL_law_1452 : decode cL_law 1452 = .ok (.goto 529, 3) := by decide +kernel
theorem dL_law_1455 : decode cL_law 1455 = .ok (.aload_n 1, 1) := by decide +kernel
theorem dL_law_1456 : decode cL_law 1456 = .ok (.aload_n 0, 1) := by decide +kernel
theorem dL_law_1457 : decode cL_law 1457 = .ok (.iload 4, 2) := by decide +kernel
theorem dL_law_1459 : decode cL_law 1459 = .ok (.iconst 1, 1) := by decide +kernel
theorem dL_law_1460 : decode cL_law 1460 = .ok (.iadd, 1) := by decide +kernel
theorem dL_law_1461 : decode cL_law 1461 = .ok (.iaload, 1) := by decide +kernel
theorem dL_law_1462 : decode cL_law 1462 = .ok (.aload_n 3, 1) := by decide +kernel
theorem dL_law_1463 : decode cL_law 1463 = .ok (.invokestatic 180, 3) := by decide +kernel
theorem dL_law_1466 : decode cL_law 1466 = .ok (.istore 5, 2) := by decide +kernel
theorem dL_law_1468 : decode cL_law 1468 = .ok (.aload_n 2, 1) := by decide +kernel
theorem dL_law_1469 : decode cL_law 1469 = .ok (.aload_n 0, 1) := by decide +kernel
theorem dL_law_1470 : decode cL_law 1470 = .ok (.iload 4, 2) := by decide +kernel
theorem dL_law_1472 : decode cL_law 1472 = .ok (.iconst 1, 1) := by decide +kernel
theorem dL_law_1473 : decode cL_law 1473 = .ok (.iadd, 1) := by decide +kernel
theorem dL_law_1474 : decode cL_law 1474 = .ok (.iaload, 1) := by decide +kernel
theorem dL_law_1475 : decode cL_law 1475 = .ok (.invokevirtual 182, 3) := by decide +kernel
theorem dL_law_1478 : decode cL_law 1478 = .ok (.istore 6, 2) := by decide +kernel
theorem dL_law_1480 : decode cL_law 1480 = .ok (.aload_n 2, 1) := by decide +kernel
theorem dL_law_1481 : decode cL_law 1481 = .ok (.invokevirtual 115, 3) := by decide +kernel
theorem dL_law_1484 : decode cL_law 1484 = .ok (.iload 5, 2) := by decide +kernel
theorem dL_law_1486 : decode cL_law 1486 = .ok (.if_icmp .eq 5, 3) := by decide +kernel
theorem dL_law_1489 : decode cL_law 1489 = .ok (.iconst 0, 1) := by decide +kernel
theorem dL_law_1490 : decode cL_law 1490 = .ok (.ireturn, 1) := by decide +kernel
theorem dL_law_1491 : decode cL_law 1491 = .ok (.iload 5, 2) := by decide +kernel
theorem dL_law_1493 : decode cL_law 1493 = .ok (.ifCond .ne 15, 3) := by decide +kernel
theorem dL_law_1496 : decode cL_law 1496 = .ok (.aload_n 3, 1) := by decide +kernel
theorem dL_law_1497 : decode cL_law 1497 = .ok (.iconst 0, 1) := by decide +kernel
theorem dL_law_1498 : decode cL_law 1498 = .ok (.laload, 1) := by decide +kernel
theorem dL_law_1499 : decode cL_law 1499 = .ok (.iload 6, 2) := by decide +kernel
theorem dL_law_1501 : decode cL_law 1501 = .ok (.i2l, 1) := by decide +kernel
theorem dL_law_1502 : decode cL_law 1502 = .ok (.lcmp, 1) := by decide +kernel
theorem dL_law_1503 : decode cL_law 1503 = .ok (.ifCond .eq 5, 3) := by decide +kernel
theorem dL_law_1506 : decode cL_law 1506 = .ok (.iconst 0, 1) := by decide +kernel
theorem dL_law_1507 : decode cL_law 1507 = .ok (.ireturn, 1) := by decide +kernel
theorem dL_law_1508 : decode cL_law 1508 = .ok (.goto 473, 3) := by decide +kernel
theorem dL_law_1511 : decode cL_law 1511 = .ok (.aload_n 1, 1) := by decide +kernel
theorem dL_law_1512 : decode cL_law 1512 = .ok (.aload_n 0, 1) := by decide +kernel
theorem dL_law_1513 : decode cL_law 1513 = .ok (.iload 4, 2) := by decide +kernel
theorem dL_law_1515 : decode cL_law 1515 = .ok (.iconst 1, 1) := by decide +kernel
theorem dL_law_1516 : decode cL_law 1516 = .ok (.iadd, 1) := by decide +kernel
theorem dL_law_1517 : decode cL_law 1517 = .ok (.iaload, 1) := by decide +kernel
theorem dL_law_1518 : decode cL_law 1518 = .ok (.aload_n 3, 1) := by decide +kernel
theorem dL_law_1519 : decode cL_law 1519 = .ok (.invokestatic 183, 3) := by decide +kernel
theorem dL_law_1522 : decode cL_law 1522 = .ok (.istore 5, 2) := by decide +kernel
theorem dL_law_1524 : decode cL_law 1524 = .ok (.aload_n 2, 1) := by decide +kernel
theorem dL_law_1525 : decode cL_law 1525 = .ok (.aload_n 0, 1) := by decide +kernel
theorem dL_law_1526 : decode cL_law 1526 = .ok (.iload 4, 2) := by decide +kernel
theorem dL_law_1528 : decode cL_law 1528 = .ok (.iconst 1, 1) := by decide +kernel
theorem dL_law_1529 : decode cL_law 1529 = .ok (.iadd, 1) := by decide +kernel
theorem dL_law_1530 : decode cL_law 1530 = .ok (.iaload, 1) := by decide +kernel
theorem dL_law_1531 : decode cL_law 1531 = .ok (.invokevirtual 185, 3) := by decide +kernel
theorem dL_law_1534 : decode cL_law 1534 = .ok (.istore 6, 2) := by decide +kernel
theorem dL_law_1536 : decode cL_law 1536 = .ok (.aload_n 2, 1) := by decide +kernel
theorem dL_law_1537 : decode cL_law 1537 = .ok (.invokevirtual 115, 3) := by decide +kernel
theorem dL_law_1540 : decode cL_law 1540 = .ok (.iload 5, 2) := by decide +kernel
theorem dL_law_1542 : decode cL_law 1542 = .ok (.if_icmp .eq 5, 3) := by decide +kernel
theorem dL_law_1545 : decode cL_law 1545 = .ok (.iconst 0, 1) := by decide +kernel
theorem dL_law_1546 : decode cL_law 1546 = .ok (.ireturn, 1) := by decide +kernel
theorem dL_law_1547 : decode cL_law 1547 = .ok (.iload 5, 2) := by decide +kernel
theorem dL_law_1549 : decode cL_law 1549 = .ok (.ifCond .ne 15, 3) := by decide +kernel
theorem dL_law_1552 : decode cL_law 1552 = .ok (.aload_n 3, 1) := by decide +kernel
theorem dL_law_1553 : decode cL_law 1553 = .ok (.iconst 0, 1) := by decide +kernel
theorem dL_law_1554 : decode cL_law 1554 = .ok (.laload, 1) := by decide +kernel
theorem dL_law_1555 : decode cL_law 1555 = .ok (.iload 6, 2) := by decide +kernel
theorem dL_law_1557 : decode cL_law 1557 = .ok (.i2l, 1) := by decide +kernel
theorem dL_law_1558 : decode cL_law 1558 = .ok (.lcmp, 1) := by decide +kernel
theorem dL_law_1559 : decode cL_law 1559 = .ok (.ifCond .eq 5, 3) := by decide +kernel
theorem dL_law_1562 : decode cL_law 1562 = .ok (.iconst 0, 1) := by decide +kernel
theorem dL_law_1563 : decode cL_law 1563 = .ok (.ireturn, 1) := by decide +kernel
theorem dL_law_1564 : decode cL_law 1564 = .ok (.goto 417, 3) := by decide +kernel
theorem dL_law_1567 : decode cL_law 1567 = .ok (.aload_n 1, 1) := by decide +kernel
theorem dL_law_1568 : decode cL_law 1568 = .ok (.aload_n 0, 1) := by decide +kernel
theorem dL_law_1569 : decode cL_law 1569 = .ok (.iload 4, 2) := by decide +kernel
theorem dL_law_1571 : decode cL_law 1571 = .ok (.iconst 1, 1) := by decide +kernel
theorem dL_law_1572 : decode cL_law 1572 = .ok (.iadd, 1) := by decide +kernel
theorem dL_law_1573 : decode cL_law 1573 = .ok (.iaload, 1) := by decide +kernel
theorem dL_law_1574 : decode cL_law 1574 = .ok (.aload_n 3, 1) := by decide +kernel
theorem dL_law_1575 : decode cL_law 1575 = .ok (.invokestatic 186, 3) := by decide +kernel
theorem dL_law_1578 : decode cL_law 1578 = .ok (.istore 5, 2) := by decide +kernel
theorem dL_law_1580 : decode cL_law 1580 = .ok (.aload_n 2, 1) := by decide +kernel
theorem dL_law_1581 : decode cL_law 1581 = .ok (.aload_n 0, 1) := by decide +kernel
theorem dL_law_1582 : decode cL_law 1582 = .ok (.iload 4, 2) := by decide +kernel
theorem dL_law_1584 : decode cL_law 1584 = .ok (.iconst 1, 1) := by decide +kernel
theorem dL_law_1585 : decode cL_law 1585 = .ok (.iadd, 1) := by decide +kernel
theorem dL_law_1586 : decode cL_law 1586 = .ok (.iaload, 1) := by decide +kernel
theorem dL_law_1587 : decode cL_law 1587 = .ok (.invokevirtual 188, 3) := by decide +kernel
theorem dL_law_1590 : decode cL_law 1590 = .ok (.istore 6, 2) := by decide +kernel
theorem dL_law_1592 : decode cL_law 1592 = .ok (.aload_n 2, 1) := by decide +kernel
theorem dL_law_1593 : decode cL_law 1593 = .ok (.invokevirtual 115, 3) := by decide +kernel
theorem dL_law_1596 : decode cL_law 1596 = .ok (.iload 5, 2) := by decide +kernel
theorem dL_law_1598 : decode cL_law 1598 = .ok (.if_icmp .eq 5, 3) := by decide +kernel
theorem dL_law_1601 : decode cL_law 1601 = .ok (.iconst 0, 1) := by decide +kernel
theorem dL_law_1602 : decode cL_law 1602 = .ok (.ireturn, 1) := by decide +kernel
theorem dL_law_1603 : decode cL_law 1603 = .ok (.iload 5, 2) := by decide +kernel
theorem dL_law_1605 : decode cL_law 1605 = .ok (.ifCond .ne 15, 3) := by decide +kernel
theorem dL_law_1608 : decode cL_law 1608 = .ok (.aload_n 3, 1) := by decide +kernel
theorem dL_law_1609 : decode cL_law 1609 = .ok (.iconst 0, 1) := by decide +kernel
theorem dL_law_1610 : decode cL_law 1610 = .ok (.laload, 1) := by decide +kernel
theorem dL_law_1611 : decode cL_law 1611 = .ok (.iload 6, 2) := by decide +kernel
theorem dL_law_1613 : decode cL_law 1613 = .ok (.i2l, 1) := by decide +kernel
theorem dL_law_1614 : decode cL_law 1614 = .ok (.lcmp, 1) := by decide +kernel
theorem dL_law_1615 : decode cL_law 1615 = .ok (.ifCond .eq 5, 3) := by decide +kernel
theorem dL_law_1618 : decode cL_law 1618 = .ok (.iconst 0, 1) := by decide +kernel
theorem dL_law_1619 : decode cL_law 1619 = .ok (.ireturn, 1) := by decide +kernel
theorem dL_law_1620 : decode cL_law 1620 = .ok (.goto 361, 3) := by decide +kernel
theorem dL_law_1623 : decode cL_law 1623 = .ok (.aload_n 1, 1) := by decide +kernel
theorem dL_law_1624 : decode cL_law 1624 = .ok (.invokevirtual 189, 3) := by decide +kernel
theorem dL_law_1627 : decode cL_law 1627 = .ok (.aload_n 2, 1) := by decide +kernel
theorem dL_law_1628 : decode cL_law 1628 = .ok (.invokevirtual 192, 3) := by decide +kernel
theorem dL_law_1631 : decode cL_law 1631 = .ok (.if_icmp .eq 350, 3) := by decide +kernel
theorem dL_law_1634 : decode cL_law 1634 = .ok (.iconst 0, 1) := by decide +kernel
theorem dL_law_1635 : decode cL_law 1635 = .ok (.ireturn, 1) := by decide +kernel
theorem dL_law_1636 : decode cL_law 1636 = .ok (.aload_n 1, 1) := by decide +kernel
theorem dL_law_1637 : decode cL_law 1637 = .ok (.invokevirtual 193, 3) := by decide +kernel
theorem dL_law_1640 : decode cL_law 1640 = .ok (.aload_n 2, 1) := by decide +kernel
theorem dL_law_1641 : decode cL_law 1641 = .ok (.invokevirtual 196, 3) := by decide +kernel
theorem dL_law_1644 : decode cL_law 1644 = .ok (.if_icmp .eq 337, 3) := by decide +kernel
theorem dL_law_1647 : decode cL_law 1647 = .ok (.iconst 0, 1) := by decide +kernel
theorem dL_law_1648 : decode cL_law 1648 = .ok (.ireturn, 1) := by decide +kernel
theorem dL_law_1649 : decode cL_law 1649 = .ok (.aload_n 1, 1) := by decide +kernel
theorem dL_law_1650 : decode cL_law 1650 = .ok (.invokevirtual 197, 3) := by decide +kernel
theorem dL_law_1653 : decode cL_law 1653 = .ok (.aload_n 2, 1) := by decide +kernel
theorem dL_law_1654 : decode cL_law 1654 = .ok (.invokevirtual 200, 3) := by decide +kernel
theorem dL_law_1657 : decode cL_law 1657 = .ok (.if_icmp .eq 324, 3) := by decide +kernel
theorem dL_law_1660 : decode cL_law 1660 = .ok (.iconst 0, 1) := by decide +kernel
theorem dL_law_1661 : decode cL_law 1661 = .ok (.ireturn, 1) := by decide +kernel
theorem dL_law_1662 : decode cL_law 1662 = .ok (.aload_n 1, 1) := by decide +kernel
theorem dL_law_1663 : decode cL_law 1663 = .ok (.invokevirtual 201, 3) := by decide +kernel
theorem dL_law_1666 : decode cL_law 1666 = .ok (.aload_n 2, 1) := by decide +kernel
theorem dL_law_1667 : decode cL_law 1667 = .ok (.invokevirtual 204, 3) := by decide +kernel
theorem dL_law_1670 : decode cL_law 1670 = .ok (.if_icmp .eq 311, 3) := by decide +kernel
theorem dL_law_1673 : decode cL_law 1673 = .ok (.iconst 0, 1) := by decide +kernel
theorem dL_law_1674 : decode cL_law 1674 = .ok (.ireturn, 1) := by decide +kernel
theorem dL_law_1675 : decode cL_law 1675 = .ok (.aload_n 1, 1) := by decide +kernel
theorem dL_law_1676 : decode cL_law 1676 = .ok (.invokevirtual 205, 3) := by decide +kernel
theorem dL_law_1679 : decode cL_law 1679 = .ok (.aload_n 2, 1) := by decide +kernel
theorem dL_law_1680 : decode cL_law 1680 = .ok (.invokevirtual 208, 3) := by decide +kernel
theorem dL_law_1683 : decode cL_law 1683 = .ok (.if_icmp .eq 298, 3) := by decide +kernel
theorem dL_law_1686 : decode cL_law 1686 = .ok (.iconst 0, 1) := by decide +kernel
theorem dL_law_1687 : decode cL_law 1687 = .ok (.ireturn, 1) := by decide +kernel
theorem dL_law_1688 : decode cL_law 1688 = .ok (.aload_n 1, 1) := by decide +kernel
theorem dL_law_1689 : decode cL_law 1689 = .ok (.aload_n 0, 1) := by decide +kernel
theorem dL_law_1690 : decode cL_law 1690 = .ok (.iload 4, 2) := by decide +kernel
theorem dL_law_1692 : decode cL_law 1692 = .ok (.iconst 1, 1) := by decide +kernel
theorem dL_law_1693 : decode cL_law 1693 = .ok (.iadd, 1) := by decide +kernel
theorem dL_law_1694 : decode cL_law 1694 = .ok (.iaload, 1) := by decide +kernel
theorem dL_law_1695 : decode cL_law 1695 = .ok (.aload_n 3, 1) := by decide +kernel
theorem dL_law_1696 : decode cL_law 1696 = .ok (.invokestatic 209, 3) := by decide +kernel
theorem dL_law_1699 : decode cL_law 1699 = .ok (.istore 5, 2) := by decide +kernel
theorem dL_law_1701 : decode cL_law 1701 = .ok (.aload_n 2, 1) := by decide +kernel
theorem dL_law_1702 : decode cL_law 1702 = .ok (.aload_n 0, 1) := by decide +kernel
theorem dL_law_1703 : decode cL_law 1703 = .ok (.iload 4, 2) := by decide +kernel
theorem dL_law_1705 : decode cL_law 1705 = .ok (.iconst 1, 1) := by decide +kernel
theorem dL_law_1706 : decode cL_law 1706 = .ok (.iadd, 1) := by decide +kernel
theorem dL_law_1707 : decode cL_law 1707 = .ok (.iaload, 1) := by decide +kernel
theorem dL_law_1708 : decode cL_law 1708 = .ok (.invokevirtual 211, 3) := by decide +kernel
theorem dL_law_1711 : decode cL_law 1711 = .ok (.istore 6, 2) := by decide +kernel
theorem dL_law_1713 : decode cL_law 1713 = .ok (.aload_n 2, 1) := by decide +kernel
theorem dL_law_1714 : decode cL_law 1714 = .ok (.invokevirtual 115, 3) := by decide +kernel
theorem dL_law_1717 : decode cL_law 1717 = .ok (.iload 5, 2) := by decide +kernel
theorem dL_law_1719 : decode cL_law 1719 = .ok (.if_icmp .eq 5, 3) := by decide +kernel
theorem dL_law_1722 : decode cL_law 1722 = .ok (.iconst 0, 1) := by decide +kernel
theorem dL_law_1723 : decode cL_law 1723 = .ok (.ireturn, 1) := by decide +kernel
theorem dL_law_1724 : decode cL_law 1724 = .ok (.iload 5, 2) := by decide +kernel
theorem dL_law_1726 : decode cL_law 1726 = .ok (.ifCond .ne 15, 3) := by decide +kernel
theorem dL_law_1729 : decode cL_law 1729 = .ok (.aload_n 3, 1) := by decide +kernel
theorem dL_law_1730 : decode cL_law 1730 = .ok (.iconst 0, 1) := by decide +kernel
theorem dL_law_1731 : decode cL_law 1731 = .ok (.laload, 1) := by decide +kernel
theorem dL_law_1732 : decode cL_law 1732 = .ok (.iload 6, 2) := by decide +kernel
theorem dL_law_1734 : decode cL_law 1734 = .ok (.i2l, 1) := by decide +kernel
theorem dL_law_1735 : decode cL_law 1735 = .ok (.lcmp, 1) := by decide +kernel
theorem dL_law_1736 : decode cL_law 1736 = .ok (.ifCond .eq 5, 3) := by decide +kernel
theorem dL_law_1739 : decode cL_law 1739 = .ok (.iconst 0, 1) := by decide +kernel
theorem dL_law_1740 : decode cL_law 1740 = .ok (.ireturn, 1) := by decide +kernel
theorem dL_law_1741 : decode cL_law 1741 = .ok (.goto 240, 3) := by decide +kernel
theorem dL_law_1744 : decode cL_law 1744 = .ok (.aload_n 1, 1) := by decide +kernel
theorem dL_law_1745 : decode cL_law 1745 = .ok (.aload_n 0, 1) := by decide +kernel
theorem dL_law_1746 : decode cL_law 1746 = .ok (.iload 4, 2) := by decide +kernel
theorem dL_law_1748 : decode cL_law 1748 = .ok (.iconst 1, 1) := by decide +kernel
theorem dL_law_1749 : decode cL_law 1749 = .ok (.iadd, 1) := by decide +kernel
theorem dL_law_1750 : decode cL_law 1750 = .ok (.iaload, 1) := by decide +kernel
theorem dL_law_1751 : decode cL_law 1751 = .ok (.aload_n 3, 1) := by decide +kernel
theorem dL_law_1752 : decode cL_law 1752 = .ok (.invokestatic 212, 3) := by decide +kernel
theorem dL_law_1755 : decode cL_law 1755 = .ok (.istore 5, 2) := by decide +kernel
theorem dL_law_1757 : decode cL_law 1757 = .ok (.aload_n 2, 1) := by decide +kernel
theorem dL_law_1758 : decode cL_law 1758 = .ok (.aload_n 0, 1) := by decide +kernel
theorem dL_law_1759 : decode cL_law 1759 = .ok (.iload 4, 2) := by decide +kernel
theorem dL_law_1761 : decode cL_law 1761 = .ok (.iconst 1, 1) := by decide +kernel
theorem dL_law_1762 : decode cL_law 1762 = .ok (.iadd, 1) := by decide +kernel
theorem dL_law_1763 : decode cL_law 1763 = .ok (.iaload, 1) := by decide +kernel
theorem dL_law_1764 : decode cL_law 1764 = .ok (.invokevirtual 214, 3) := by decide +kernel
theorem dL_law_1767 : decode cL_law 1767 = .ok (.istore 6, 2) := by decide +kernel
theorem dL_law_1769 : decode cL_law 1769 = .ok (.aload_n 2, 1) := by decide +kernel
theorem dL_law_1770 : decode cL_law 1770 = .ok (.invokevirtual 115, 3) := by decide +kernel
theorem dL_law_1773 : decode cL_law 1773 = .ok (.iload 5, 2) := by decide +kernel
theorem dL_law_1775 : decode cL_law 1775 = .ok (.if_icmp .eq 5, 3) := by decide +kernel
theorem dL_law_1778 : decode cL_law 1778 = .ok (.iconst 0, 1) := by decide +kernel
theorem dL_law_1779 : decode cL_law 1779 = .ok (.ireturn, 1) := by decide +kernel
theorem dL_law_1780 : decode cL_law 1780 = .ok (.iload 5, 2) := by decide +kernel
theorem dL_law_1782 : decode cL_law 1782 = .ok (.ifCond .ne 15, 3) := by decide +kernel
theorem dL_law_1785 : decode cL_law 1785 = .ok (.aload_n 3, 1) := by decide +kernel
theorem dL_law_1786 : decode cL_law 1786 = .ok (.iconst 0, 1) := by decide +kernel
theorem dL_law_1787 : decode cL_law 1787 = .ok (.laload, 1) := by decide +kernel
theorem dL_law_1788 : decode cL_law 1788 = .ok (.iload 6, 2) := by decide +kernel
theorem dL_law_1790 : decode cL_law 1790 = .ok (.i2l, 1) := by decide +kernel
theorem dL_law_1791 : decode cL_law 1791 = .ok (.lcmp, 1) := by decide +kernel
theorem dL_law_1792 : decode cL_law 1792 = .ok (.ifCond .eq 5, 3) := by decide +kernel
theorem dL_law_1795 : decode cL_law 1795 = .ok (.iconst 0, 1) := by decide +kernel
theorem dL_law_1796 : decode cL_law 1796 = .ok (.ireturn, 1) := by decide +kernel
theorem dL_law_1797 : decode cL_law 1797 = .ok (.goto 184, 3) := by decide +kernel
theorem dL_law_1800 : decode cL_law 1800 = .ok (.aload_n 1, 1) := by decide +kernel
theorem dL_law_1801 : decode cL_law 1801 = .ok (.invokevirtual 215, 3) := by decide +kernel
theorem dL_law_1804 : decode cL_law 1804 = .ok (.aload_n 2, 1) := by decide +kernel
theorem dL_law_1805 : decode cL_law 1805 = .ok (.invokevirtual 218, 3) := by decide +kernel
theorem dL_law_1808 : decode cL_law 1808 = .ok (.if_icmp .eq 173, 3) := by decide +kernel
theorem dL_law_1811 : decode cL_law 1811 = .ok (.iconst 0, 1) := by decide +kernel
theorem dL_law_1812 : decode cL_law 1812 = .ok (.ireturn, 1) := by decide +kernel
theorem dL_law_1813 : decode cL_law 1813 = .ok (.aload_n 1, 1) := by decide +kernel
theorem dL_law_1814 : decode cL_law 1814 = .ok (.aload_n 0, 1) := by decide +kernel
theorem dL_law_1815 : decode cL_law 1815 = .ok (.iload 4, 2) := by decide +kernel
theorem dL_law_1817 : decode cL_law 1817 = .ok (.iconst 1, 1) := by decide +kernel
theorem dL_law_1818 : decode cL_law 1818 = .ok (.iadd, 1) := by decide +kernel
theorem dL_law_1819 : decode cL_law 1819 = .ok (.iaload, 1) := by decide +kernel
theorem dL_law_1820 : decode cL_law 1820 = .ok (.aload_n 3, 1) := by decide +kernel
theorem dL_law_1821 : decode cL_law 1821 = .ok (.invokestatic 219, 3) := by decide +kernel
theorem dL_law_1824 : decode cL_law 1824 = .ok (.istore 5, 2) := by decide +kernel
theorem dL_law_1826 : decode cL_law 1826 = .ok (.aload_n 2, 1) := by decide +kernel
theorem dL_law_1827 : decode cL_law 1827 = .ok (.aload_n 0, 1) := by decide +kernel
theorem dL_law_1828 : decode cL_law 1828 = .ok (.iload 4, 2) := by decide +kernel
theorem dL_law_1830 : decode cL_law 1830 = .ok (.iconst 1, 1) := by decide +kernel
theorem dL_law_1831 : decode cL_law 1831 = .ok (.iadd, 1) := by decide +kernel
theorem dL_law_1832 : decode cL_law 1832 = .ok (.iaload, 1) := by decide +kernel
theorem dL_law_1833 : decode cL_law 1833 = .ok (.invokevirtual 221, 3) := by decide +kernel
theorem dL_law_1836 : decode cL_law 1836 = .ok (.istore 6, 2) := by decide +kernel
theorem dL_law_1838 : decode cL_law 1838 = .ok (.aload_n 2, 1) := by decide +kernel
theorem dL_law_1839 : decode cL_law 1839 = .ok (.invokevirtual 115, 3) := by decide +kernel
theorem dL_law_1842 : decode cL_law 1842 = .ok (.iload 5, 2) := by decide +kernel
theorem dL_law_1844 : decode cL_law 1844 = .ok (.if_icmp .eq 5, 3) := by decide +kernel
theorem dL_law_1847 : decode cL_law 1847 = .ok (.iconst 0, 1) := by decide +kernel
theorem dL_law_1848 : decode cL_law 1848 = .ok (.ireturn, 1) := by decide +kernel
theorem dL_law_1849 : decode cL_law 1849 = .ok (.iload 5, 2) := by decide +kernel
theorem dL_law_1851 : decode cL_law 1851 = .ok (.ifCond .ne 15, 3) := by decide +kernel
theorem dL_law_1854 : decode cL_law 1854 = .ok (.aload_n 3, 1) := by decide +kernel
theorem dL_law_1855 : decode cL_law 1855 = .ok (.iconst 0, 1) := by decide +kernel
theorem dL_law_1856 : decode cL_law 1856 = .ok (.laload, 1) := by decide +kernel
theorem dL_law_1857 : decode cL_law 1857 = .ok (.iload 6, 2) := by decide +kernel
theorem dL_law_1859 : decode cL_law 1859 = .ok (.i2l, 1) := by decide +kernel
theorem dL_law_1860 : decode cL_law 1860 = .ok (.lcmp, 1) := by decide +kernel
theorem dL_law_1861 : decode cL_law 1861 = .ok (.ifCond .eq 5, 3) := by decide +kernel
theorem dL_law_1864 : decode cL_law 1864 = .ok (.iconst 0, 1) := by decide +kernel
theorem dL_law_1865 : decode cL_law 1865 = .ok (.ireturn, 1) := by decide +kernel
theorem dL_law_1866 : decode cL_law 1866 = .ok (.goto 115, 3) := by decide +kernel
theorem dL_law_1869 : decode cL_law 1869 = .ok (.aload_n 1, 1) := by decide +kernel
theorem dL_law_1870 : decode cL_law 1870 = .ok (.aload_n 0, 1) := by decide +kernel
theorem dL_law_1871 : decode cL_law 1871 = .ok (.iload 4, 2) := by decide +kernel
theorem dL_law_1873 : decode cL_law 1873 = .ok (.iconst 1, 1) := by decide +kernel
theorem dL_law_1874 : decode cL_law 1874 = .ok (.iadd, 1) := by decide +kernel
theorem dL_law_1875 : decode cL_law 1875 = .ok (.iaload, 1) := by decide +kernel
theorem dL_law_1876 : decode cL_law 1876 = .ok (.aload_n 3, 1) := by decide +kernel
theorem dL_law_1877 : decode cL_law 1877 = .ok (.invokestatic 222, 3) := by decide +kernel
theorem dL_law_1880 : decode cL_law 1880 = .ok (.istore 5, 2) := by decide +kernel
theorem dL_law_1882 : decode cL_law 1882 = .ok (.aload_n 2, 1) := by decide +kernel
theorem dL_law_1883 : decode cL_law 1883 = .ok (.aload_n 0, 1) := by decide +kernel
theorem dL_law_1884 : decode cL_law 1884 = .ok (.iload 4, 2) := by decide +kernel
theorem dL_law_1886 : decode cL_law 1886 = .ok (.iconst 1, 1) := by decide +kernel
theorem dL_law_1887 : decode cL_law 1887 = .ok (.iadd, 1) := by decide +kernel
theorem dL_law_1888 : decode cL_law 1888 = .ok (.iaload, 1) := by decide +kernel
theorem dL_law_1889 : decode cL_law 1889 = .ok (.invokevirtual 224, 3) := by decide +kernel
theorem dL_law_1892 : decode cL_law 1892 = .ok (.istore 6, 2) := by decide +kernel
theorem dL_law_1894 : decode cL_law 1894 = .ok (.aload_n 2, 1) := by decide +kernel
theorem dL_law_1895 : decode cL_law 1895 = .ok (.invokevirtual 115, 3) := by decide +kernel
theorem dL_law_1898 : decode cL_law 1898 = .ok (.iload 5, 2) := by decide +kernel
theorem dL_law_1900 : decode cL_law 1900 = .ok (.if_icmp .eq 5, 3) := by decide +kernel
theorem dL_law_1903 : decode cL_law 1903 = .ok (.iconst 0, 1) := by decide +kernel
theorem dL_law_1904 : decode cL_law 1904 = .ok (.ireturn, 1) := by decide +kernel
theorem dL_law_1905 : decode cL_law 1905 = .ok (.iload 5, 2) := by decide +kernel
theorem dL_law_1907 : decode cL_law 1907 = .ok (.ifCond .ne 15, 3) := by decide +kernel
theorem dL_law_1910 : decode cL_law 1910 = .ok (.aload_n 3, 1) := by decide +kernel
theorem dL_law_1911 : decode cL_law 1911 = .ok (.iconst 0, 1) := by decide +kernel
theorem dL_law_1912 : decode cL_law 1912 = .ok (.laload, 1) := by decide +kernel
theorem dL_law_1913 : decode cL_law 1913 = .ok (.iload 6, 2) := by decide +kernel
theorem dL_law_1915 : decode cL_law 1915 = .ok (.i2l, 1) := by decide +kernel
theorem dL_law_1916 : decode cL_law 1916 = .ok (.lcmp, 1) := by decide +kernel
theorem dL_law_1917 : decode cL_law 1917 = .ok (.ifCond .eq 5, 3) := by decide +kernel
theorem dL_law_1920 : decode cL_law 1920 = .ok (.iconst 0, 1) := by decide +kernel
theorem dL_law_1921 : decode cL_law 1921 = .ok (.ireturn, 1) := by decide +kernel
theorem dL_law_1922 : decode cL_law 1922 = .ok (.goto 59, 3) := by decide +kernel
theorem dL_law_1925 : decode cL_law 1925 = .ok (.aload_n 1, 1) := by decide +kernel
theorem dL_law_1926 : decode cL_law 1926 = .ok (.aload_n 0, 1) := by decide +kernel
theorem dL_law_1927 : decode cL_law 1927 = .ok (.iload 4, 2) := by decide +kernel
theorem dL_law_1929 : decode cL_law 1929 = .ok (.iconst 1, 1) := by decide +kernel
theorem dL_law_1930 : decode cL_law 1930 = .ok (.iadd, 1) := by decide +kernel
theorem dL_law_1931 : decode cL_law 1931 = .ok (.iaload, 1) := by decide +kernel
theorem dL_law_1932 : decode cL_law 1932 = .ok (.aload_n 3, 1) := by decide +kernel
theorem dL_law_1933 : decode cL_law 1933 = .ok (.invokestatic 225, 3) := by decide +kernel
theorem dL_law_1936 : decode cL_law 1936 = .ok (.istore 5, 2) := by decide +kernel
theorem dL_law_1938 : decode cL_law 1938 = .ok (.aload_n 2, 1) := by decide +kernel
theorem dL_law_1939 : decode cL_law 1939 = .ok (.aload_n 0, 1) := by decide +kernel
theorem dL_law_1940 : decode cL_law 1940 = .ok (.iload 4, 2) := by decide +kernel
theorem dL_law_1942 : decode cL_law 1942 = .ok (.iconst 1, 1) := by decide +kernel
theorem dL_law_1943 : decode cL_law 1943 = .ok (.iadd, 1) := by decide +kernel
theorem dL_law_1944 : decode cL_law 1944 = .ok (.iaload, 1) := by decide +kernel
theorem dL_law_1945 : decode cL_law 1945 = .ok (.invokevirtual 227, 3) := by decide +kernel
theorem dL_law_1948 : decode cL_law 1948 = .ok (.istore 6, 2) := by decide +kernel
theorem dL_law_1950 : decode cL_law 1950 = .ok (.aload_n 2, 1) := by decide +kernel
theorem dL_law_1951 : decode cL_law 1951 = .ok (.invokevirtual 115, 3) := by decide +kernel
theorem dL_law_1954 : decode cL_law 1954 = .ok (.iload 5, 2) := by decide +kernel
theorem dL_law_1956 : decode cL_law 1956 = .ok (.if_icmp .eq 5, 3) := by decide +kernel
theorem dL_law_1959 : decode cL_law 1959 = .ok (.iconst 0, 1) := by decide +kernel
theorem dL_law_1960 : decode cL_law 1960 = .ok (.ireturn, 1) := by decide +kernel
theorem dL_law_1961 : decode cL_law 1961 = .ok (.iload 5, 2) := by decide +kernel
theorem dL_law_1963 : decode cL_law 1963 = .ok (.ifCond .ne 15, 3) := by decide +kernel
theorem dL_law_1966 : decode cL_law 1966 = .ok (.aload_n 3, 1) := by decide +kernel
theorem dL_law_1967 : decode cL_law 1967 = .ok (.iconst 0, 1) := by decide +kernel
theorem dL_law_1968 : decode cL_law 1968 = .ok (.laload, 1) := by decide +kernel
theorem dL_law_1969 : decode cL_law 1969 = .ok (.iload 6, 2) := by decide +kernel
theorem dL_law_1971 : decode cL_law 1971 = .ok (.i2l, 1) := by decide +kernel
theorem dL_law_1972 : decode cL_law 1972 = .ok (.lcmp, 1) := by decide +kernel
theorem dL_law_1973 : decode cL_law 1973 = .ok (.ifCond .eq 5, 3) := by decide +kernel
theorem dL_law_1976 : decode cL_law 1976 = .ok (.iconst 0, 1) := by decide +kernel
theorem dL_law_1977 : decode cL_law 1977 = .ok (.ireturn, 1) := by decide +kernel
theorem dL_law_1978 : decode cL_law 1978 = .ok (.goto 3, 3) := by decide +kernel
theorem dL_law_1981 : decode cL_law 1981 = .ok (.iinc 4 4, 3) := by decide +kernel
theorem dL_law_1984 : decode cL_law 1984 = .ok (.goto (-1961), 3) := by decide +kernel
theorem dL_law_1987 : decode cL_law 1987 = .ok (.iconst 1, 1) := by decide +kernel
theorem dL_law_1988 : decode cL_law 1988 = .ok (.ireturn, 1) := by decide +kernel
end
section
/-! BASE: one list of words for every method; the start and the end of a method; rows for single cells -/
def BIG : List Cond := lw_tbl.filter goodWord
theorem BIG_in {w : Cond} (h : w ∈ BIG) : w ∈ lw_tbl := (List.mem_filter.mp h).1
theorem BIG_good {w : Cond} (h : w ∈ BIG) : goodWord w = true := (List.mem_filter.mp h).2
theorem bwi {w : Cond} (i : Nat) (h : lw_tbl[i]? = some w) (g : goodWord w = true) : w ∈ BIG := List.mem_filter.mpr ⟨List.mem_of_getElem? h, g⟩
abbrev wB (y : MethodName) (cc : ByteArray) (n : Nat) (r : Option FieldType) : List Cond := Cond.code y cc n r :: BIG
theorem gB {c0 : Cond} {y : MethodName} {cc : ByteArray} {n : Nat} {r : Option FieldType} (h : Cond.code y cc n r ∈ BIG) : GoodIn (c0 :: BIG) (wB y cc n r) := by
  intro w hw
  rcases List.mem_cons.mp hw with rfl | h1
  · exact ⟨List.mem_cons_of_mem _ h, good_of_word (BIG_good h)⟩
  · exact ⟨List.mem_cons_of_mem _ h1, good_of_word (BIG_good h1)⟩
theorem gB0 {y : MethodName} {cc : ByteArray} {n : Nat} {r : Option FieldType} (h : Cond.code y cc n r ∈ BIG) : GoodIn BIG (wB y cc n r) := by
  intro w hw
  rcases List.mem_cons.mp hw with rfl | h1
  · exact ⟨h, good_of_word (BIG_good h)⟩
  · exact ⟨h1, good_of_word (BIG_good h1)⟩
abbrev rmL (d mc ms : Nat) : Room := { frames := 12 + d, cells := mc, slots := ms, locals := 300 + 40 * d }
/-- a method's start -/
theorem st_M {l : Launch} {y : MethodName} {cc : ByteArray} {maxL : Nat} {ret : Option FieldType} {rm : Room} {av : List Value} {B : State → Prop} {Qc : Array Value → State → Outcome → State → Prop} {mc ms : Nat} {free : Addr → Prop} {own : String} (hy : plainName y.cls = true) (hyo : y.cls = own) (hn : (lg_sl av).length ≤ maxL)
    (body : ∀ (p : Program) (e : Env) (s : State) (m : MethodId) (below : List Frame) (meth : Method) (c : Code) (ls : Array Slot), p.tables.exec = Jvm.exec → c.code = cc → meth.sig.returnType = ret → (∀ w ∈ BIG, w.before av.toArray s = true) → s.vm.findClass own = some m.cls → c.maxLocals = maxL → meth.locks = false → meth.name = y.name → lv_has ls maxL (lv_args 0 av) → B s →
      W p l e rm s m av.toArray below meth c s.heap [] 0 0 (MQ below Qc av.toArray s mc ms free) (F0 m 0 ls [])) : Met l y (wB y cc maxL ret) rm (va_Pc av B) Qc mc ms free := by
  refine Met.ofW (cc := cc) (maxL := maxL) (ret := ret) hy rfl ?_
  intro p e s m args below meth c s₁ B0 hml hv
  obtain ⟨rfl, hB⟩ := hv
  have hts := atoms_spec (ws := wB y cc maxL ret) B0.pre
  have hown : s.vm.findClass own = some m.cls := by rw [← hyo]; exact findClass_of_methodNamed B0.named
  have hin : meth.name = y.name := (name_of_methodNamed B0.named B0.method).1
  have h := body p e s m below meth c _ B0.exec B0.bytes B0.returns (fun w hw => hts w (List.mem_cons_of_mem _ hw)) hown hml B0.notSynchronized hin (lv_entry av hn) hB
  rw [lg_entry_eq]
  exact h
/-- a pure method's end: an answer, nothing written -/
def fN : Addr → Prop := fun _ => False
section RT
variable {p : Program} {l : Launch} {e : Env} {R : Room} {s : State} {m : MethodId} {args : Array Value} {below : List Frame} {meth : Method} {c : Code} {H : Heap} {locs : List Loc} {cells slots : Nat} {Q : State → Prop}
variable {cc : ByteArray} {pc : Nat} {ls : Array Slot} {rest st0 : List Value}
def bI (b : Bool) : Int32 := if b then 1 else 0
theorem bI_t : bI true = 1 := rfl
theorem bI_f : bI false = 0 := rfl
theorem bI_nar (b : Bool) : narrow .boolean (.int (bI b)) = .int (bI b) := by cases b <;> rfl
theorem rt_i {x y : Int32} (hx : p.tables.exec = Jvm.exec) (hb : c.code = cc) (hr : meth.sig.returnType = some .int) (hlk : meth.locks = false) (h : x = y) (hdg : decode cc pc = .ok (.ireturn, 1)) : W p l e R s m args below meth c s.heap [] 0 0 (MQ below (k2_QcV (.int y)) args s 0 0 fN) (F0 m pc ls [.int x]) := by
  subst h
  exact W.iret hx hb hr (fun t ht _ => ⟨rfl, ht⟩) (fun q hq => nomatch hq) hdg hlk
theorem rt_z {x : Int32} {b : Bool} (hx : p.tables.exec = Jvm.exec) (hb : c.code = cc) (hr : meth.sig.returnType = some .boolean) (hlk : meth.locks = false) (h : x = bI b) (hdg : decode cc pc = .ok (.ireturn, 1)) : W p l e R s m args below meth c s.heap [] 0 0 (MQ below (k2_QcV (.int (bI b))) args s 0 0 fN) (F0 m pc ls [.int x]) := by
  subst h
  exact W.zret hx hb hr (bI_nar b) (fun t ht _ => ⟨rfl, ht⟩) (fun q hq => nomatch hq) hdg hlk
theorem rt_l {x y : Int64} (hx : p.tables.exec = Jvm.exec) (hb : c.code = cc) (hr : meth.sig.returnType = some .long) (hlk : meth.locks = false) (h : x = y) (hdg : decode cc pc = .ok (.lreturn, 1)) : W p l e R s m args below meth c s.heap [] 0 0 (MQ below (k2_QcV (.long y)) args s 0 0 fN) (F0 m pc ls [.long x]) := by
  subst h
  exact W.lret hx hb hr (fun t ht _ => ⟨rfl, ht⟩) (fun q hq => nomatch hq) hdg hlk
theorem rt_a {v : Value} {r r' : Option Nat} {rt : FieldType} (hx : p.tables.exec = Jvm.exec) (hb : c.code = cc) (hr : meth.sig.returnType = some rt) (hrt : (∃ n, rt = .object n) ∨ ∃ t, rt = .array t) (hlk : meth.locks = false) (hv : v = va_rf r) (h : r = r') (hdg : decode cc pc = .ok (.areturn, 1)) : W p l e R s m args below meth c s.heap [] 0 0 (MQ below (k2_QcV (va_rf r')) args s 0 0 fN) (F0 m pc ls [v]) := by
  subst h; subst hv
  exact W.aret hx hb hr hrt (by cases r <;> simp [va_rf]) (fun t ht _ => ⟨rfl, ht⟩) (fun q hq => nomatch hq) hdg hlk
theorem rt_v (hx : p.tables.exec = Jvm.exec) (hb : c.code = cc) (hr : meth.sig.returnType = none) (hlk : meth.locks = false) (hdg : decode cc pc = .ok (.return_, 1)) {Qc : Array Value → State → Outcome → State → Prop} {free : Addr → Prop} {mc ms : Nat} (h1 : cells ≤ mc) (h2 : slots ≤ ms) (hq : ∀ t : State, t.heap = H → s.WarmedH t.vm → Qc args s (.returned none) t) (hf : ∀ q ∈ locs, free q.base) : W p l e R s m args below meth c H locs cells slots (MQ below Qc args s mc ms free) (F0 m pc ls []) :=
  W.widen (k := mc) (n := ms) h1 h2 (W.vret hx hb hr hq hf hdg hlk)
/-- a call of a pure method: the world stays -/
theorem cl_p {r : Value} {a : Array Value} (hr : va_Run p l e R s m args below meth c H locs cells slots 0 0 (F0 m pc ls st0) rest (k2_QcV r a) fN) (kk : W p l e R s m args below meth c H locs cells slots Q (F0 m (pc + 3) ls (r :: rest))) : W p l e R s m args below meth c H locs cells slots Q (F0 m pc ls st0) := by
  intro T hT X
  obtain ⟨v, st₀, t, T', L, h0, X', hL, e1, e2, ⟨hv, hh⟩, st⟩ := hr T hT X
  cases hv
  have hLn : L = [] := by
    cases L with
    | nil => rfl
    | cons q _ => exact (hL q List.mem_cons_self).elim
  subst hLn
  rw [List.append_nil] at X'
  obtain ⟨t2, a1, b1⟩ := kk T' (by rw [e1, hh, h0]) X'
  exact ⟨t2, st t2 a1, b1⟩
end RT
end
section
theorem BIG_ws (ws : List Cond) (ps : List Nat) (hp : ws = ps.filterMap (fun i => lw_tbl[i]?)) (h : ws.all goodWord = true) : ∀ w ∈ ws, w ∈ BIG := by
  intro w hw
  have h1 := List.all_eq_true.mp h w hw
  rw [hp] at hw
  obtain ⟨i, -, hi⟩ := List.mem_filterMap.mp hw
  exact List.mem_filter.mpr ⟨List.mem_of_getElem? hi, h1⟩
theorem se_X8_isHome : Cond.selects RX8 yX8_isHome yX8_isHome ∈ BIG := bwi 1 (by decide +kernel) (by decide)
theorem se_X8_isStation : Cond.selects RX8 yX8_isStation yX8_isStation ∈ BIG := bwi 2 (by decide +kernel) (by decide)
theorem se_X1_openCells : Cond.selects RX1 yX1_openCells yX1_openCells ∈ BIG := bwi 3 (by decide +kernel) (by decide)
theorem se_Jx4a65c_add_72be8 : Cond.selects RJx4a65c yJx4a65c_add_72be8 yJx4a65c_add_72be8 ∈ BIG := bwi 4 (by decide +kernel) (by decide)
theorem se_Jx4a65c_grow_d5877 : Cond.selects RJx4a65c yJx4a65c_grow_d5877 yJx4a65c_grow_d5877 ∈ BIG := bwi 5 (by decide +kernel) (by decide)
theorem se_Jx4a65c_grow_92f84 : Cond.selects RJx4a65c yJx4a65c_grow_92f84 yJx4a65c_grow_92f84 ∈ BIG := bwi 6 (by decide +kernel) (by decide)
theorem se_X8_findTray : Cond.selects RX8 yX8_findTray yX8_findTray ∈ BIG := bwi 7 (by decide +kernel) (by decide)
theorem se_X8_findOrder : Cond.selects RX8 yX8_findOrder yX8_findOrder ∈ BIG := bwi 8 (by decide +kernel) (by decide)
theorem se_X8_findStation : Cond.selects RX8 yX8_findStation yX8_findStation ∈ BIG := bwi 9 (by decide +kernel) (by decide)
theorem se_X8_findLine : Cond.selects RX8 yX8_findLine yX8_findLine ∈ BIG := bwi 10 (by decide +kernel) (by decide)
theorem se_X5_forgetAsking : Cond.selects RX5 yX5_forgetAsking yX5_forgetAsking ∈ BIG := bwi 11 (by decide +kernel) (by decide)
theorem se_Jx4a65c_fastRemove_b59b0 : Cond.selects RJx4a65c yJx4a65c_fastRemove_b59b0 yJx4a65c_fastRemove_b59b0 ∈ BIG := bwi 12 (by decide +kernel) (by decide)
theorem se_X8_findRobot : Cond.selects RX8 yX8_findRobot yX8_findRobot ∈ BIG := bwi 13 (by decide +kernel) (by decide)
theorem se_X8_pickFromServing : Cond.selects RX8 yX8_pickFromServing yX8_pickFromServing ∈ BIG := bwi 14 (by decide +kernel) (by decide)
theorem se_X8_pick : Cond.selects RX8 yX8_pick yX8_pick ∈ BIG := bwi 15 (by decide +kernel) (by decide)
theorem se_X8_sendRobots : Cond.selects RX8 yX8_sendRobots yX8_sendRobots ∈ BIG := bwi 16 (by decide +kernel) (by decide)
theorem se_X8_sendRobotFor : Cond.selects RX8 yX8_sendRobotFor yX8_sendRobotFor ∈ BIG := bwi 17 (by decide +kernel) (by decide)
theorem se_X8_nearestTray : Cond.selects RX8 yX8_nearestTray yX8_nearestTray ∈ BIG := bwi 18 (by decide +kernel) (by decide)
theorem se_X0_wantedCell : Cond.selects RX0 yX0_wantedCell yX0_wantedCell ∈ BIG := bwi 19 (by decide +kernel) (by decide)
theorem se_X0_gatherRing : Cond.selects RX0 yX0_gatherRing yX0_gatherRing ∈ BIG := bwi 20 (by decide +kernel) (by decide)
theorem se_X0_turnRing : Cond.selects RX0 yX0_turnRing yX0_turnRing ∈ BIG := bwi 21 (by decide +kernel) (by decide)
theorem se_X0_moveRobot : Cond.selects RX0 yX0_moveRobot yX0_moveRobot ∈ BIG := bwi 22 (by decide +kernel) (by decide)
theorem se_X0_breakRing : Cond.selects RX0 yX0_breakRing yX0_breakRing ∈ BIG := bwi 23 (by decide +kernel) (by decide)
theorem se_X0_canYieldTo : Cond.selects RX0 yX0_canYieldTo yX0_canYieldTo ∈ BIG := bwi 24 (by decide +kernel) (by decide)
theorem se_X0_isAskedFor : Cond.selects RX0 yX0_isAskedFor yX0_isAskedFor ∈ BIG := bwi 25 (by decide +kernel) (by decide)
theorem se_X0_cellAside : Cond.selects RX0 yX0_cellAside yX0_cellAside ∈ BIG := bwi 26 (by decide +kernel) (by decide)
theorem se_X0_lineUpAskers : Cond.selects RX0 yX0_lineUpAskers yX0_lineUpAskers ∈ BIG := bwi 27 (by decide +kernel) (by decide)
theorem se_X0_placeInQueue : Cond.selects RX0 yX0_placeInQueue yX0_placeInQueue ∈ BIG := bwi 28 (by decide +kernel) (by decide)
theorem se_Jx4a65c_rangeCheckForAdd_d00df : Cond.selects RJx4a65c yJx4a65c_rangeCheckForAdd_d00df yJx4a65c_rangeCheckForAdd_d00df ∈ BIG := bwi 29 (by decide +kernel) (by decide)
theorem se_Jx4a65c_outOfBoundsMsg_b52d3 : Cond.selects RJx4a65c yJx4a65c_outOfBoundsMsg_b52d3 yJx4a65c_outOfBoundsMsg_b52d3 ∈ BIG := bwi 30 (by decide +kernel) (by decide)
theorem se_X8_findPick : Cond.selects RX8 yX8_findPick yX8_findPick ∈ BIG := bwi 31 (by decide +kernel) (by decide)
theorem se_X9_homeOf : Cond.selects RX9 yX9_homeOf yX9_homeOf ∈ BIG := bwi 32 (by decide +kernel) (by decide)
theorem se_X9_stationAt : Cond.selects RX9 yX9_stationAt yX9_stationAt ∈ BIG := bwi 33 (by decide +kernel) (by decide)
theorem se_X9_robotAt : Cond.selects RX9 yX9_robotAt yX9_robotAt ∈ BIG := bwi 34 (by decide +kernel) (by decide)
theorem se_X9_holds : Cond.selects RX9 yX9_holds yX9_holds ∈ BIG := bwi 35 (by decide +kernel) (by decide)
theorem se_X9_distanceOf : Cond.selects RX9 yX9_distanceOf yX9_distanceOf ∈ BIG := bwi 36 (by decide +kernel) (by decide)
theorem se_X9_lays : Cond.selects RX9 yX9_lays yX9_lays ∈ BIG := bwi 37 (by decide +kernel) (by decide)
theorem se_X9_isOpen : Cond.selects RX9 yX9_isOpen yX9_isOpen ∈ BIG := bwi 38 (by decide +kernel) (by decide)
theorem se_X9_nearest : Cond.selects RX9 yX9_nearest yX9_nearest ∈ BIG := bwi 39 (by decide +kernel) (by decide)
theorem se_X9_isTray : Cond.selects RX9 yX9_isTray yX9_isTray ∈ BIG := bwi 40 (by decide +kernel) (by decide)
theorem se_X9_robotWith : Cond.selects RX9 yX9_robotWith yX9_robotWith ∈ BIG := bwi 41 (by decide +kernel) (by decide)
theorem se_X9_isLine : Cond.selects RX9 yX9_isLine yX9_isLine ∈ BIG := bwi 42 (by decide +kernel) (by decide)
theorem se_X9_becomes : Cond.selects RX9 yX9_becomes yX9_becomes ∈ BIG := bwi 43 (by decide +kernel) (by decide)
theorem se_X9_isRobot : Cond.selects RX9 yX9_isRobot yX9_isRobot ∈ BIG := bwi 44 (by decide +kernel) (by decide)
theorem se_X9_passes : Cond.selects RX9 yX9_passes yX9_passes ∈ BIG := bwi 45 (by decide +kernel) (by decide)
theorem se_X9_picksFrom : Cond.selects RX9 yX9_picksFrom yX9_picksFrom ∈ BIG := bwi 46 (by decide +kernel) (by decide)
theorem se_X9_serves : Cond.selects RX9 yX9_serves yX9_serves ∈ BIG := bwi 47 (by decide +kernel) (by decide)
theorem se_X9_hasRobot : Cond.selects RX9 yX9_hasRobot yX9_hasRobot ∈ BIG := bwi 48 (by decide +kernel) (by decide)
theorem se_X9_sends : Cond.selects RX9 yX9_sends yX9_sends ∈ BIG := bwi 49 (by decide +kernel) (by decide)
theorem se_X9_trayFor : Cond.selects RX9 yX9_trayFor yX9_trayFor ∈ BIG := bwi 50 (by decide +kernel) (by decide)
theorem se_X9_robotFor : Cond.selects RX9 yX9_robotFor yX9_robotFor ∈ BIG := bwi 51 (by decide +kernel) (by decide)
theorem se_X9_asksFor : Cond.selects RX9 yX9_asksFor yX9_asksFor ∈ BIG := bwi 52 (by decide +kernel) (by decide)
theorem se_X9_goalOf : Cond.selects RX9 yX9_goalOf yX9_goalOf ∈ BIG := bwi 53 (by decide +kernel) (by decide)
theorem se_X9_resolves : Cond.selects RX9 yX9_resolves yX9_resolves ∈ BIG := bwi 54 (by decide +kernel) (by decide)
theorem se_X9_ringOf : Cond.selects RX9 yX9_ringOf yX9_ringOf ∈ BIG := bwi 55 (by decide +kernel) (by decide)
theorem se_X9_nextOf : Cond.selects RX9 yX9_nextOf yX9_nextOf ∈ BIG := bwi 56 (by decide +kernel) (by decide)
theorem se_X9_turns : Cond.selects RX9 yX9_turns yX9_turns ∈ BIG := bwi 57 (by decide +kernel) (by decide)
theorem se_X9_moves : Cond.selects RX9 yX9_moves yX9_moves ∈ BIG := bwi 58 (by decide +kernel) (by decide)
theorem se_X9_isAbove : Cond.selects RX9 yX9_isAbove yX9_isAbove ∈ BIG := bwi 59 (by decide +kernel) (by decide)
theorem se_X9_yieldsTo : Cond.selects RX9 yX9_yieldsTo yX9_yieldsTo ∈ BIG := bwi 60 (by decide +kernel) (by decide)
theorem se_X9_isAsked : Cond.selects RX9 yX9_isAsked yX9_isAsked ∈ BIG := bwi 61 (by decide +kernel) (by decide)
theorem se_X9_stepsAside : Cond.selects RX9 yX9_stepsAside yX9_stepsAside ∈ BIG := bwi 62 (by decide +kernel) (by decide)
theorem se_X9_goes : Cond.selects RX9 yX9_goes yX9_goes ∈ BIG := bwi 63 (by decide +kernel) (by decide)
theorem se_X9_arrives : Cond.selects RX9 yX9_arrives yX9_arrives ∈ BIG := bwi 64 (by decide +kernel) (by decide)
theorem se_X9_isPick : Cond.selects RX9 yX9_isPick yX9_isPick ∈ BIG := bwi 65 (by decide +kernel) (by decide)
theorem ini_L : Cond.initialized RL ∈ BIG := bwi 66 (by decide +kernel) (by decide)
theorem ini_X8 : Cond.initialized RX8 ∈ BIG := bwi 67 (by decide +kernel) (by decide)
theorem ini_X0 : Cond.initialized RX0 ∈ BIG := bwi 68 (by decide +kernel) (by decide)
theorem ini_X1 : Cond.initialized RX1 ∈ BIG := bwi 69 (by decide +kernel) (by decide)
theorem ini_Jxa1e45 : Cond.initialized RJxa1e45 ∈ BIG := bwi 70 (by decide +kernel) (by decide)
theorem ini_Jxc12de : Cond.initialized RJxc12de ∈ BIG := bwi 71 (by decide +kernel) (by decide)
theorem ini_Jx4a65c : Cond.initialized RJx4a65c ∈ BIG := bwi 72 (by decide +kernel) (by decide)
theorem ini_X9 : Cond.initialized RX9 ∈ BIG := bwi 73 (by decide +kernel) (by decide)
theorem ini_Throwable : Cond.initialized "java/lang/Throwable" ∈ BIG := bwi 74 (by decide +kernel) (by decide)
theorem ini_Exception : Cond.initialized "java/lang/Exception" ∈ BIG := bwi 75 (by decide +kernel) (by decide)
theorem ini_RuntimeException : Cond.initialized "java/lang/RuntimeException" ∈ BIG := bwi 76 (by decide +kernel) (by decide)
theorem ini_IllegalArgumentException : Cond.initialized "java/lang/IllegalArgumentException" ∈ BIG := bwi 77 (by decide +kernel) (by decide)
theorem ini_J15 : Cond.initialized RJ15 ∈ BIG := bwi 78 (by decide +kernel) (by decide)
theorem ini_J3 : Cond.initialized RJ3 ∈ BIG := bwi 79 (by decide +kernel) (by decide)
theorem ini_IllegalStateException : Cond.initialized "java/lang/IllegalStateException" ∈ BIG := bwi 80 (by decide +kernel) (by decide)
theorem ini_X6 : Cond.initialized RX6 ∈ BIG := bwi 81 (by decide +kernel) (by decide)
theorem ini_J8 : Cond.initialized RJ8 ∈ BIG := bwi 82 (by decide +kernel) (by decide)
theorem ini_J9 : Cond.initialized RJ9 ∈ BIG := bwi 83 (by decide +kernel) (by decide)
theorem ini_J7 : Cond.initialized RJ7 ∈ BIG := bwi 84 (by decide +kernel) (by decide)
theorem ini_System : Cond.initialized "java/lang/System" ∈ BIG := bwi 85 (by decide +kernel) (by decide)
theorem ini_X7 : Cond.initialized RX7 ∈ BIG := bwi 86 (by decide +kernel) (by decide)
theorem ini_IndexOutOfBoundsException : Cond.initialized "java/lang/IndexOutOfBoundsException" ∈ BIG := bwi 87 (by decide +kernel) (by decide)
theorem ini_X3 : Cond.initialized RX3 ∈ BIG := bwi 88 (by decide +kernel) (by decide)
theorem ini_X2 : Cond.initialized RX2 ∈ BIG := bwi 89 (by decide +kernel) (by decide)
theorem ini_X5 : Cond.initialized RX5 ∈ BIG := bwi 90 (by decide +kernel) (by decide)
theorem ini_X4 : Cond.initialized RX4 ∈ BIG := bwi 91 (by decide +kernel) (by decide)
theorem ini_AbstractStringBuilder : Cond.initialized "java/lang/AbstractStringBuilder" ∈ BIG := bwi 92 (by decide +kernel) (by decide)
theorem ini_StringBuilder : Cond.initialized "java/lang/StringBuilder" ∈ BIG := bwi 93 (by decide +kernel) (by decide)
theorem ini_String : Cond.initialized "java/lang/String" ∈ BIG := bwi 94 (by decide +kernel) (by decide)
theorem ini_StringUTF16 : Cond.initialized "java/lang/StringUTF16" ∈ BIG := bwi 95 (by decide +kernel) (by decide)
theorem ini_StringLatin1 : Cond.initialized "java/lang/StringLatin1" ∈ BIG := bwi 96 (by decide +kernel) (by decide)
theorem ini_Number : Cond.initialized "java/lang/Number" ∈ BIG := bwi 97 (by decide +kernel) (by decide)
theorem ini_Integer : Cond.initialized "java/lang/Integer" ∈ BIG := bwi 98 (by decide +kernel) (by decide)
theorem cl_L_8 : Cond.classLink RL 8 RX8 ∈ BIG := bwi 99 (by decide +kernel) (by decide)
theorem is_X8 : Cond.instantiable RX8 6 ∈ BIG := bwi 100 (by decide +kernel) (by decide)
theorem ml_L_105 : Cond.methodLink RL 105 yX8_init ∈ BIG := bwi 101 (by decide +kernel) (by decide)
theorem im_X8_init : Cond.instanceMethod yX8_init ∈ BIG := bwi 102 (by decide +kernel) (by decide)
theorem cd_X8_init : Cond.code yX8_init cX8_init 1 none ∈ BIG := bwi 103 (by decide +kernel) (by decide)
theorem ml_X8_1 : Cond.methodLink RX8 1 objectInit ∈ BIG := bwi 104 (by decide +kernel) (by decide)
theorem im_objectInit : Cond.instanceMethod objectInit ∈ BIG := bwi 105 (by decide +kernel) (by decide)
theorem cd_objectInit : Cond.code objectInit ⟨#[0xb1]⟩ 1 none ∈ BIG := bwi 106 (by decide +kernel) (by decide)
theorem cl_X8_7 : Cond.classLink RX8 7 RX0 ∈ BIG := bwi 107 (by decide +kernel) (by decide)
theorem is_X0 : Cond.instantiable RX0 8 ∈ BIG := bwi 108 (by decide +kernel) (by decide)
theorem im_X0_init : Cond.instanceMethod yX0_init ∈ BIG := bwi 110 (by decide +kernel) (by decide)
theorem cd_X0_init : Cond.code yX0_init cX0_init 1 none ∈ BIG := bwi 111 (by decide +kernel) (by decide)
theorem ml_X0_3 : Cond.methodLink RX0 3 objectInit ∈ BIG := bwi 112 (by decide +kernel) (by decide)
theorem cl_X0_9 : Cond.classLink RX0 9 RX1 ∈ BIG := bwi 113 (by decide +kernel) (by decide)
theorem is_X1 : Cond.instantiable RX1 3 ∈ BIG := bwi 114 (by decide +kernel) (by decide)
theorem im_X1_init : Cond.instanceMethod yX1_init ∈ BIG := bwi 116 (by decide +kernel) (by decide)
theorem cd_X1_init : Cond.code yX1_init cX1_init 1 none ∈ BIG := bwi 117 (by decide +kernel) (by decide)
theorem ml_X1_5 : Cond.methodLink RX1 5 objectInit ∈ BIG := bwi 118 (by decide +kernel) (by decide)
theorem fl_X1_11 : Cond.fieldLink RX1 11 "ShelfSwarm$Floor" "walls" "J" ∈ BIG := bwi 119 (by decide +kernel) (by decide)
theorem fl_X1_15 : Cond.fieldLink RX1 15 "ShelfSwarm$Floor" "closed" "J" ∈ BIG := bwi 120 (by decide +kernel) (by decide)
theorem fl_X1_18 : Cond.fieldLink RX1 18 "ShelfSwarm$Floor" "dead" "J" ∈ BIG := bwi 121 (by decide +kernel) (by decide)
theorem cl_X0_18 : Cond.classLink RX0 18 RJx4a65c ∈ BIG := bwi 129 (by decide +kernel) (by decide)
theorem is_Jx4a65c : Cond.instantiable RJx4a65c 3 ∈ BIG := bwi 130 (by decide +kernel) (by decide)
theorem ml_X0_20 : Cond.methodLink RX0 20 yJx4a65c_init_da8c8 ∈ BIG := bwi 131 (by decide +kernel) (by decide)
theorem im_Jx4a65c_init_da8c8 : Cond.instanceMethod yJx4a65c_init_da8c8 ∈ BIG := bwi 132 (by decide +kernel) (by decide)
theorem cd_Jx4a65c_init_da8c8 : Cond.code yJx4a65c_init_da8c8 cJx4a65c_init_da8c8 1 none ∈ BIG := bwi 133 (by decide +kernel) (by decide)
theorem ml_Jx4a65c_1 : Cond.methodLink RJx4a65c 1 yJxc12de_init_da8c8 ∈ BIG := bwi 134 (by decide +kernel) (by decide)
theorem im_Jxc12de_init_da8c8 : Cond.instanceMethod yJxc12de_init_da8c8 ∈ BIG := bwi 135 (by decide +kernel) (by decide)
theorem cd_Jxc12de_init_da8c8 : Cond.code yJxc12de_init_da8c8 cJxc12de_init_da8c8 1 none ∈ BIG := bwi 136 (by decide +kernel) (by decide)
theorem ml_Jxc12de_1 : Cond.methodLink RJxc12de 1 yJxa1e45_init_da8c8 ∈ BIG := bwi 137 (by decide +kernel) (by decide)
theorem im_Jxa1e45_init_da8c8 : Cond.instanceMethod yJxa1e45_init_da8c8 ∈ BIG := bwi 138 (by decide +kernel) (by decide)
theorem cd_Jxa1e45_init_da8c8 : Cond.code yJxa1e45_init_da8c8 cJxa1e45_init_da8c8 1 none ∈ BIG := bwi 139 (by decide +kernel) (by decide)
theorem ml_Jxa1e45_1 : Cond.methodLink RJxa1e45 1 objectInit ∈ BIG := bwi 140 (by decide +kernel) (by decide)
theorem fl_Jx4a65c_39 : Cond.fieldLink RJx4a65c 39 "java/util/ArrayList" "DEFAULTCAPACITY_EMPTY_ELEMENTDATA" "[Ljava/lang/Object;" ∈ BIG := bwi 141 (by decide +kernel) (by decide)
theorem fl_Jx4a65c_9 : Cond.fieldLink RJx4a65c 9 "java/util/ArrayList" "elementData" "[Ljava/lang/Object;" ∈ BIG := bwi 143 (by decide +kernel) (by decide)
theorem fl_Jx4a65c_48 : Cond.fieldLink RJx4a65c 48 "java/util/ArrayList" "size" "I" ∈ BIG := bwi 144 (by decide +kernel) (by decide)
theorem fl_Jxc12de_7 : Cond.fieldLink RJxc12de 7 "java/util/AbstractList" "modCount" "I" ∈ BIG := bwi 145 (by decide +kernel) (by decide)
theorem fl_Jx4a65c_63 : Cond.fieldLink RJx4a65c 63 "java/util/ArrayList" "modCount" "I" ∈ BIG := bwi 146 (by decide +kernel) (by decide)
theorem fl_X0_12 : Cond.fieldLink RX0 12 "ShelfSwarm$Fleet" "floor" "LShelfSwarm$Floor;" ∈ BIG := bwi 155 (by decide +kernel) (by decide)
theorem fl_X8_40 : Cond.fieldLink RX8 40 "ShelfSwarm$Fleet" "floor" "LShelfSwarm$Floor;" ∈ BIG := bwi 156 (by decide +kernel) (by decide)
theorem fl_X0_21 : Cond.fieldLink RX0 21 "ShelfSwarm$Fleet" "robots" "Ljava/util/ArrayList;" ∈ BIG := bwi 157 (by decide +kernel) (by decide)
theorem fl_X8_191 : Cond.fieldLink RX8 191 "ShelfSwarm$Fleet" "robots" "Ljava/util/ArrayList;" ∈ BIG := bwi 158 (by decide +kernel) (by decide)
theorem fl_X0_25 : Cond.fieldLink RX0 25 "ShelfSwarm$Fleet" "steps" "I" ∈ BIG := bwi 159 (by decide +kernel) (by decide)
theorem fl_X8_251 : Cond.fieldLink RX8 251 "ShelfSwarm$Fleet" "steps" "I" ∈ BIG := bwi 160 (by decide +kernel) (by decide)
theorem fl_X0_29 : Cond.fieldLink RX0 29 "ShelfSwarm$Fleet" "rings" "I" ∈ BIG := bwi 161 (by decide +kernel) (by decide)
theorem fl_X8_254 : Cond.fieldLink RX8 254 "ShelfSwarm$Fleet" "rings" "I" ∈ BIG := bwi 162 (by decide +kernel) (by decide)
theorem fl_X0_32 : Cond.fieldLink RX0 32 "ShelfSwarm$Fleet" "yields" "I" ∈ BIG := bwi 163 (by decide +kernel) (by decide)
theorem fl_X8_257 : Cond.fieldLink RX8 257 "ShelfSwarm$Fleet" "yields" "I" ∈ BIG := bwi 164 (by decide +kernel) (by decide)
theorem fl_X0_35 : Cond.fieldLink RX0 35 "ShelfSwarm$Fleet" "knots" "I" ∈ BIG := bwi 165 (by decide +kernel) (by decide)
theorem fl_X8_260 : Cond.fieldLink RX8 260 "ShelfSwarm$Fleet" "knots" "I" ∈ BIG := bwi 166 (by decide +kernel) (by decide)
theorem fl_X0_38 : Cond.fieldLink RX0 38 "ShelfSwarm$Fleet" "ring" "Ljava/util/ArrayList;" ∈ BIG := bwi 167 (by decide +kernel) (by decide)
theorem fl_X0_41 : Cond.fieldLink RX0 41 "ShelfSwarm$Fleet" "queue" "Ljava/util/ArrayList;" ∈ BIG := bwi 168 (by decide +kernel) (by decide)
theorem cl_X8_16 : Cond.classLink RX8 16 RJx4a65c ∈ BIG := bwi 186 (by decide +kernel) (by decide)
theorem ml_X8_18 : Cond.methodLink RX8 18 yJx4a65c_init_da8c8 ∈ BIG := bwi 187 (by decide +kernel) (by decide)
theorem fl_X8_10 : Cond.fieldLink RX8 10 "ShelfSwarm" "fleet" "LShelfSwarm$Fleet;" ∈ BIG := bwi 188 (by decide +kernel) (by decide)
theorem fl_X8_19 : Cond.fieldLink RX8 19 "ShelfSwarm" "stations" "Ljava/util/ArrayList;" ∈ BIG := bwi 189 (by decide +kernel) (by decide)
theorem fl_X8_23 : Cond.fieldLink RX8 23 "ShelfSwarm" "trays" "Ljava/util/ArrayList;" ∈ BIG := bwi 190 (by decide +kernel) (by decide)
theorem fl_X8_26 : Cond.fieldLink RX8 26 "ShelfSwarm" "orders" "Ljava/util/ArrayList;" ∈ BIG := bwi 191 (by decide +kernel) (by decide)
theorem fl_X8_29 : Cond.fieldLink RX8 29 "ShelfSwarm" "picks" "Ljava/util/ArrayList;" ∈ BIG := bwi 192 (by decide +kernel) (by decide)
theorem fl_X8_32 : Cond.fieldLink RX8 32 "ShelfSwarm" "time" "I" ∈ BIG := bwi 193 (by decide +kernel) (by decide)
theorem ml_L_189 : Cond.methodLink RL 189 yX8_time ∈ BIG := bwi 207 (by decide +kernel) (by decide)
theorem im_X8_time : Cond.instanceMethod yX8_time ∈ BIG := bwi 208 (by decide +kernel) (by decide)
theorem se_X8_time : Cond.selects RX8 yX8_time yX8_time ∈ BIG := bwi 209 (by decide +kernel) (by decide)
theorem cd_X8_time : Cond.code yX8_time cX8_time 1 (some .int) ∈ BIG := bwi 210 (by decide +kernel) (by decide)
theorem ml_L_193 : Cond.methodLink RL 193 yX8_steps ∈ BIG := bwi 211 (by decide +kernel) (by decide)
theorem im_X8_steps : Cond.instanceMethod yX8_steps ∈ BIG := bwi 212 (by decide +kernel) (by decide)
theorem se_X8_steps : Cond.selects RX8 yX8_steps yX8_steps ∈ BIG := bwi 213 (by decide +kernel) (by decide)
theorem cd_X8_steps : Cond.code yX8_steps cX8_steps 1 (some .int) ∈ BIG := bwi 214 (by decide +kernel) (by decide)
theorem ml_L_197 : Cond.methodLink RL 197 yX8_rings ∈ BIG := bwi 215 (by decide +kernel) (by decide)
theorem im_X8_rings : Cond.instanceMethod yX8_rings ∈ BIG := bwi 216 (by decide +kernel) (by decide)
theorem se_X8_rings : Cond.selects RX8 yX8_rings yX8_rings ∈ BIG := bwi 217 (by decide +kernel) (by decide)
theorem cd_X8_rings : Cond.code yX8_rings cX8_rings 1 (some .int) ∈ BIG := bwi 218 (by decide +kernel) (by decide)
theorem ml_L_201 : Cond.methodLink RL 201 yX8_yields ∈ BIG := bwi 219 (by decide +kernel) (by decide)
theorem im_X8_yields : Cond.instanceMethod yX8_yields ∈ BIG := bwi 220 (by decide +kernel) (by decide)
theorem se_X8_yields : Cond.selects RX8 yX8_yields yX8_yields ∈ BIG := bwi 221 (by decide +kernel) (by decide)
theorem cd_X8_yields : Cond.code yX8_yields cX8_yields 1 (some .int) ∈ BIG := bwi 222 (by decide +kernel) (by decide)
theorem ml_L_205 : Cond.methodLink RL 205 yX8_knots ∈ BIG := bwi 223 (by decide +kernel) (by decide)
theorem im_X8_knots : Cond.instanceMethod yX8_knots ∈ BIG := bwi 224 (by decide +kernel) (by decide)
theorem se_X8_knots : Cond.selects RX8 yX8_knots yX8_knots ∈ BIG := bwi 225 (by decide +kernel) (by decide)
theorem cd_X8_knots : Cond.code yX8_knots cX8_knots 1 (some .int) ∈ BIG := bwi 226 (by decide +kernel) (by decide)
theorem ml_L_215 : Cond.methodLink RL 215 yX8_picks ∈ BIG := bwi 227 (by decide +kernel) (by decide)
theorem im_X8_picks : Cond.instanceMethod yX8_picks ∈ BIG := bwi 228 (by decide +kernel) (by decide)
theorem se_X8_picks : Cond.selects RX8 yX8_picks yX8_picks ∈ BIG := bwi 229 (by decide +kernel) (by decide)
theorem cd_X8_picks : Cond.code yX8_picks cX8_picks 1 (some .int) ∈ BIG := bwi 230 (by decide +kernel) (by decide)
theorem ml_X8_81 : Cond.methodLink RX8 81 yJx4a65c_size_8abf5 ∈ BIG := bwi 231 (by decide +kernel) (by decide)
theorem im_Jx4a65c_size_8abf5 : Cond.instanceMethod yJx4a65c_size_8abf5 ∈ BIG := bwi 232 (by decide +kernel) (by decide)
theorem se_Jx4a65c_size_8abf5 : Cond.selects RJx4a65c yJx4a65c_size_8abf5 yJx4a65c_size_8abf5 ∈ BIG := bwi 233 (by decide +kernel) (by decide)
theorem cd_Jx4a65c_size_8abf5 : Cond.code yJx4a65c_size_8abf5 cJx4a65c_size_8abf5 1 (some .int) ∈ BIG := bwi 234 (by decide +kernel) (by decide)
theorem ml_L_109 : Cond.methodLink RL 109 yL_wall ∈ BIG := bwi 235 (by decide +kernel) (by decide)
theorem sm_L_wall : Cond.static yL_wall ∈ BIG := bwi 236 (by decide +kernel) (by decide)
theorem cw_L_wall : Cond.codeWith yL_wall cL_wall 3 (some .int) [(0, 5, 8, 13), (0, 5, 11, 15)] ∈ BIG := bwi 237 (by decide +kernel) (by decide)
theorem cl_L_13 : Cond.classLink RL 13 "java/lang/IllegalArgumentException" ∈ BIG := bwi 238 (by decide +kernel) (by decide)
theorem cl_L_15 : Cond.classLink RL 15 "java/lang/IllegalStateException" ∈ BIG := bwi 239 (by decide +kernel) (by decide)
theorem ml_L_7 : Cond.methodLink RL 7 yX8_wall ∈ BIG := bwi 240 (by decide +kernel) (by decide)
theorem im_X8_wall : Cond.instanceMethod yX8_wall ∈ BIG := bwi 241 (by decide +kernel) (by decide)
theorem se_X8_wall : Cond.selects RX8 yX8_wall yX8_wall ∈ BIG := bwi 242 (by decide +kernel) (by decide)
theorem cd_X8_wall : Cond.code yX8_wall cX8_wall 2 none ∈ BIG := bwi 243 (by decide +kernel) (by decide)
theorem ml_X8_36 : Cond.methodLink RX8 36 yX8_requireCell ∈ BIG := bwi 244 (by decide +kernel) (by decide)
theorem sm_X8_requireCell : Cond.static yX8_requireCell ∈ BIG := bwi 245 (by decide +kernel) (by decide)
theorem cd_X8_requireCell : Cond.code yX8_requireCell cX8_requireCell 1 none ∈ BIG := bwi 246 (by decide +kernel) (by decide)
theorem ml_X8_102 : Cond.methodLink RX8 102 yX8_requireRange ∈ BIG := bwi 247 (by decide +kernel) (by decide)
theorem sm_X8_requireRange : Cond.static yX8_requireRange ∈ BIG := bwi 248 (by decide +kernel) (by decide)
theorem cd_X8_requireRange : Cond.code yX8_requireRange cX8_requireRange 3 none ∈ BIG := bwi 249 (by decide +kernel) (by decide)
theorem cl_X8_287 : Cond.classLink RX8 287 "java/lang/IllegalArgumentException" ∈ BIG := bwi 250 (by decide +kernel) (by decide)
theorem ml_X8_291 : Cond.methodLink RX8 291 ⟨"java/lang/IllegalArgumentException", "<init>", "(Ljava/lang/String;)V"⟩ ∈ BIG := bwi 292 (by decide +kernel) (by decide)
theorem ml_X8_44 : Cond.methodLink RX8 44 yX1_isWall ∈ BIG := bwi 318 (by decide +kernel) (by decide)
theorem im_X1_isWall : Cond.instanceMethod yX1_isWall ∈ BIG := bwi 319 (by decide +kernel) (by decide)
theorem se_X1_isWall : Cond.selects RX1 yX1_isWall yX1_isWall ∈ BIG := bwi 320 (by decide +kernel) (by decide)
theorem cd_X1_isWall : Cond.code yX1_isWall cX1_isWall 2 (some .boolean) ∈ BIG := bwi 321 (by decide +kernel) (by decide)
theorem ml_X1_21 : Cond.methodLink RX1 21 yX1_setOf ∈ BIG := bwi 322 (by decide +kernel) (by decide)
theorem sm_X1_setOf : Cond.static yX1_setOf ∈ BIG := bwi 323 (by decide +kernel) (by decide)
theorem cd_X1_setOf : Cond.code yX1_setOf cX1_setOf 1 (some .long) ∈ BIG := bwi 324 (by decide +kernel) (by decide)
theorem ml_X8_50 : Cond.methodLink RX8 50 yX8_isHome ∈ BIG := bwi 325 (by decide +kernel) (by decide)
theorem im_X8_isHome : Cond.instanceMethod yX8_isHome ∈ BIG := bwi 327 (by decide +kernel) (by decide)
theorem cd_X8_isHome : Cond.code yX8_isHome cX8_isHome 3 (some .boolean) ∈ BIG := bwi 328 (by decide +kernel) (by decide)
theorem ml_X8_263 : Cond.methodLink RX8 263 yJx4a65c_get_915e3 ∈ BIG := bwi 329 (by decide +kernel) (by decide)
theorem im_Jx4a65c_get_915e3 : Cond.instanceMethod yJx4a65c_get_915e3 ∈ BIG := bwi 330 (by decide +kernel) (by decide)
theorem se_Jx4a65c_get_915e3 : Cond.selects RJx4a65c yJx4a65c_get_915e3 yJx4a65c_get_915e3 ∈ BIG := bwi 331 (by decide +kernel) (by decide)
theorem cd_Jx4a65c_get_915e3 : Cond.code yJx4a65c_get_915e3 cJx4a65c_get_915e3 2 (some (.object "java/lang/Object")) ∈ BIG := bwi 332 (by decide +kernel) (by decide)
theorem ml_Jx4a65c_118 : Cond.methodLink RJx4a65c 118 yJ15_checkIndex_7cf53 ∈ BIG := bwi 333 (by decide +kernel) (by decide)
theorem sm_J15_checkIndex_7cf53 : Cond.static yJ15_checkIndex_7cf53 ∈ BIG := bwi 334 (by decide +kernel) (by decide)
theorem cd_J15_checkIndex_7cf53 : Cond.code yJ15_checkIndex_7cf53 cJ15_checkIndex_7cf53 2 (some .int) ∈ BIG := bwi 335 (by decide +kernel) (by decide)
theorem ml_J15_105 : Cond.methodLink RJ15 105 yJ3_checkIndex_8e157 ∈ BIG := bwi 336 (by decide +kernel) (by decide)
theorem sm_J3_checkIndex_8e157 : Cond.static yJ3_checkIndex_8e157 ∈ BIG := bwi 337 (by decide +kernel) (by decide)
theorem cd_J3_checkIndex_8e157 : Cond.code yJ3_checkIndex_8e157 cJ3_checkIndex_8e157 3 (some .int) ∈ BIG := bwi 338 (by decide +kernel) (by decide)
theorem ml_Jx4a65c_123 : Cond.methodLink RJx4a65c 123 yJx4a65c_elementData_915e3 ∈ BIG := bwi 339 (by decide +kernel) (by decide)
theorem im_Jx4a65c_elementData_915e3 : Cond.instanceMethod yJx4a65c_elementData_915e3 ∈ BIG := bwi 340 (by decide +kernel) (by decide)
theorem se_Jx4a65c_elementData_915e3 : Cond.selects RJx4a65c yJx4a65c_elementData_915e3 yJx4a65c_elementData_915e3 ∈ BIG := bwi 341 (by decide +kernel) (by decide)
theorem cd_Jx4a65c_elementData_915e3 : Cond.code yJx4a65c_elementData_915e3 cJx4a65c_elementData_915e3 2 (some (.object "java/lang/Object")) ∈ BIG := bwi 342 (by decide +kernel) (by decide)
theorem cl_X8_108 : Cond.classLink RX8 108 RX7 ∈ BIG := bwi 343 (by decide +kernel) (by decide)
theorem ml_X8_53 : Cond.methodLink RX8 53 yX8_isStation ∈ BIG := bwi 344 (by decide +kernel) (by decide)
theorem im_X8_isStation : Cond.instanceMethod yX8_isStation ∈ BIG := bwi 346 (by decide +kernel) (by decide)
theorem cd_X8_isStation : Cond.code yX8_isStation cX8_isStation 3 (some .boolean) ∈ BIG := bwi 347 (by decide +kernel) (by decide)
theorem cl_X8_87 : Cond.classLink RX8 87 RX6 ∈ BIG := bwi 348 (by decide +kernel) (by decide)
theorem ml_X8_56 : Cond.methodLink RX8 56 yX0_robotAt ∈ BIG := bwi 349 (by decide +kernel) (by decide)
theorem im_X0_robotAt : Cond.instanceMethod yX0_robotAt ∈ BIG := bwi 350 (by decide +kernel) (by decide)
theorem se_X0_robotAt : Cond.selects RX0 yX0_robotAt yX0_robotAt ∈ BIG := bwi 351 (by decide +kernel) (by decide)
theorem cd_X0_robotAt : Cond.code yX0_robotAt cX0_robotAt 4 (some (.object "ShelfSwarm$Robot")) ∈ BIG := bwi 352 (by decide +kernel) (by decide)
theorem ml_X0_44 : Cond.methodLink RX0 44 yJx4a65c_size_8abf5 ∈ BIG := bwi 353 (by decide +kernel) (by decide)
theorem ml_X0_48 : Cond.methodLink RX0 48 yJx4a65c_get_915e3 ∈ BIG := bwi 354 (by decide +kernel) (by decide)
theorem cl_X0_52 : Cond.classLink RX0 52 RX5 ∈ BIG := bwi 355 (by decide +kernel) (by decide)
theorem cl_X8_60 : Cond.classLink RX8 60 "java/lang/IllegalStateException" ∈ BIG := bwi 356 (by decide +kernel) (by decide)
theorem ml_X8_64 : Cond.methodLink RX8 64 ⟨"java/lang/IllegalStateException", "<init>", "(Ljava/lang/String;)V"⟩ ∈ BIG := bwi 366 (by decide +kernel) (by decide)
theorem ml_X8_67 : Cond.methodLink RX8 67 yX1_buildWall ∈ BIG := bwi 372 (by decide +kernel) (by decide)
theorem im_X1_buildWall : Cond.instanceMethod yX1_buildWall ∈ BIG := bwi 373 (by decide +kernel) (by decide)
theorem se_X1_buildWall : Cond.selects RX1 yX1_buildWall yX1_buildWall ∈ BIG := bwi 374 (by decide +kernel) (by decide)
theorem cd_X1_buildWall : Cond.code yX1_buildWall cX1_buildWall 2 none ∈ BIG := bwi 375 (by decide +kernel) (by decide)
theorem ml_L_118 : Cond.methodLink RL 118 yL_setClosed ∈ BIG := bwi 376 (by decide +kernel) (by decide)
theorem sm_L_setClosed : Cond.static yL_setClosed ∈ BIG := bwi 377 (by decide +kernel) (by decide)
theorem cw_L_setClosed : Cond.codeWith yL_setClosed cL_setClosed 5 (some .int) [(0, 17, 20, 13)] ∈ BIG := bwi 378 (by decide +kernel) (by decide)
theorem ml_L_17 : Cond.methodLink RL 17 yX8_setClosed ∈ BIG := bwi 379 (by decide +kernel) (by decide)
theorem im_X8_setClosed : Cond.instanceMethod yX8_setClosed ∈ BIG := bwi 380 (by decide +kernel) (by decide)
theorem se_X8_setClosed : Cond.selects RX8 yX8_setClosed yX8_setClosed ∈ BIG := bwi 381 (by decide +kernel) (by decide)
theorem cd_X8_setClosed : Cond.code yX8_setClosed cX8_setClosed 4 (some .boolean) ∈ BIG := bwi 382 (by decide +kernel) (by decide)
theorem ml_X8_70 : Cond.methodLink RX8 70 yX1_isClosed ∈ BIG := bwi 383 (by decide +kernel) (by decide)
theorem im_X1_isClosed : Cond.instanceMethod yX1_isClosed ∈ BIG := bwi 384 (by decide +kernel) (by decide)
theorem se_X1_isClosed : Cond.selects RX1 yX1_isClosed yX1_isClosed ∈ BIG := bwi 385 (by decide +kernel) (by decide)
theorem cd_X1_isClosed : Cond.code yX1_isClosed cX1_isClosed 2 (some .boolean) ∈ BIG := bwi 386 (by decide +kernel) (by decide)
theorem ml_X8_73 : Cond.methodLink RX8 73 yX1_markClosed ∈ BIG := bwi 387 (by decide +kernel) (by decide)
theorem im_X1_markClosed : Cond.instanceMethod yX1_markClosed ∈ BIG := bwi 388 (by decide +kernel) (by decide)
theorem se_X1_markClosed : Cond.selects RX1 yX1_markClosed yX1_markClosed ∈ BIG := bwi 389 (by decide +kernel) (by decide)
theorem cd_X1_markClosed : Cond.code yX1_markClosed cX1_markClosed 3 none ∈ BIG := bwi 390 (by decide +kernel) (by decide)
theorem k_X1_25 : Cond.constantLong RX1 25 (-1 : Int64) ∈ BIG := bwi 391 (by decide +kernel) (by decide)
theorem ml_L_122 : Cond.methodLink RL 122 yL_distance ∈ BIG := bwi 392 (by decide +kernel) (by decide)
theorem sm_L_distance : Cond.static yL_distance ∈ BIG := bwi 393 (by decide +kernel) (by decide)
theorem cw_L_distance : Cond.codeWith yL_distance cL_distance 5 (some .int) [(0, 10, 13, 13)] ∈ BIG := bwi 394 (by decide +kernel) (by decide)
theorem ml_L_21 : Cond.methodLink RL 21 yX8_distance ∈ BIG := bwi 395 (by decide +kernel) (by decide)
theorem im_X8_distance : Cond.instanceMethod yX8_distance ∈ BIG := bwi 396 (by decide +kernel) (by decide)
theorem se_X8_distance : Cond.selects RX8 yX8_distance yX8_distance ∈ BIG := bwi 397 (by decide +kernel) (by decide)
theorem cd_X8_distance : Cond.code yX8_distance cX8_distance 3 (some .int) ∈ BIG := bwi 398 (by decide +kernel) (by decide)
theorem ml_X8_77 : Cond.methodLink RX8 77 yX1_stepsBetween ∈ BIG := bwi 399 (by decide +kernel) (by decide)
theorem im_X1_stepsBetween : Cond.instanceMethod yX1_stepsBetween ∈ BIG := bwi 400 (by decide +kernel) (by decide)
theorem se_X1_stepsBetween : Cond.selects RX1 yX1_stepsBetween yX1_stepsBetween ∈ BIG := bwi 401 (by decide +kernel) (by decide)
theorem cd_X1_stepsBetween : Cond.code yX1_stepsBetween cX1_stepsBetween 13 (some .int) ∈ BIG := bwi 402 (by decide +kernel) (by decide)
theorem ml_X1_27 : Cond.methodLink RX1 27 yX1_openCells ∈ BIG := bwi 403 (by decide +kernel) (by decide)
theorem im_X1_openCells : Cond.instanceMethod yX1_openCells ∈ BIG := bwi 405 (by decide +kernel) (by decide)
theorem cd_X1_openCells : Cond.code yX1_openCells cX1_openCells 1 (some .long) ∈ BIG := bwi 406 (by decide +kernel) (by decide)
theorem ml_X1_35 : Cond.methodLink RX1 35 yX1_neighboursOf ∈ BIG := bwi 407 (by decide +kernel) (by decide)
theorem sm_X1_neighboursOf : Cond.static yX1_neighboursOf ∈ BIG := bwi 408 (by decide +kernel) (by decide)
theorem cd_X1_neighboursOf : Cond.code yX1_neighboursOf cX1_neighboursOf 2 (some .long) ∈ BIG := bwi 409 (by decide +kernel) (by decide)
theorem k_X1_31 : Cond.constantLong RX1 31 (9187201950435737471 : Int64) ∈ BIG := bwi 410 (by decide +kernel) (by decide)
theorem k_X1_33 : Cond.constantLong RX1 33 (-72340172838076674 : Int64) ∈ BIG := bwi 411 (by decide +kernel) (by decide)
theorem ml_L_126 : Cond.methodLink RL 126 yL_addStation ∈ BIG := bwi 412 (by decide +kernel) (by decide)
theorem sm_L_addStation : Cond.static yL_addStation ∈ BIG := bwi 413 (by decide +kernel) (by decide)
theorem cw_L_addStation : Cond.codeWith yL_addStation cL_addStation 4 (some .int) [(0, 9, 12, 13), (0, 9, 15, 15)] ∈ BIG := bwi 414 (by decide +kernel) (by decide)
theorem ml_L_25 : Cond.methodLink RL 25 yX8_addStation ∈ BIG := bwi 415 (by decide +kernel) (by decide)
theorem im_X8_addStation : Cond.instanceMethod yX8_addStation ∈ BIG := bwi 416 (by decide +kernel) (by decide)
theorem se_X8_addStation : Cond.selects RX8 yX8_addStation yX8_addStation ∈ BIG := bwi 417 (by decide +kernel) (by decide)
theorem cd_X8_addStation : Cond.code yX8_addStation cX8_addStation 3 (some .int) ∈ BIG := bwi 418 (by decide +kernel) (by decide)
theorem is_X6 : Cond.instantiable RX6 3 ∈ BIG := bwi 420 (by decide +kernel) (by decide)
theorem ml_X8_89 : Cond.methodLink RX8 89 yX6_init ∈ BIG := bwi 421 (by decide +kernel) (by decide)
theorem im_X6_init : Cond.instanceMethod yX6_init ∈ BIG := bwi 422 (by decide +kernel) (by decide)
theorem cd_X6_init : Cond.code yX6_init cX6_init 3 none ∈ BIG := bwi 423 (by decide +kernel) (by decide)
theorem ml_X6_1 : Cond.methodLink RX6 1 objectInit ∈ BIG := bwi 424 (by decide +kernel) (by decide)
theorem cl_X6_7 : Cond.classLink RX6 7 RJx4a65c ∈ BIG := bwi 425 (by decide +kernel) (by decide)
theorem ml_X6_9 : Cond.methodLink RX6 9 yJx4a65c_init_da8c8 ∈ BIG := bwi 426 (by decide +kernel) (by decide)
theorem fl_X6_16 : Cond.fieldLink RX6 16 "ShelfSwarm$Station" "number" "I" ∈ BIG := bwi 427 (by decide +kernel) (by decide)
theorem fl_X8_96 : Cond.fieldLink RX8 96 "ShelfSwarm$Station" "number" "I" ∈ BIG := bwi 428 (by decide +kernel) (by decide)
theorem fl_X6_20 : Cond.fieldLink RX6 20 "ShelfSwarm$Station" "cell" "I" ∈ BIG := bwi 429 (by decide +kernel) (by decide)
theorem fl_X5_56 : Cond.fieldLink RX5 56 "ShelfSwarm$Station" "cell" "I" ∈ BIG := bwi 430 (by decide +kernel) (by decide)
theorem fl_X8_300 : Cond.fieldLink RX8 300 "ShelfSwarm$Station" "cell" "I" ∈ BIG := bwi 431 (by decide +kernel) (by decide)
theorem fl_X6_10 : Cond.fieldLink RX6 10 "ShelfSwarm$Station" "claims" "Ljava/util/ArrayList;" ∈ BIG := bwi 432 (by decide +kernel) (by decide)
theorem fl_X8_164 : Cond.fieldLink RX8 164 "ShelfSwarm$Station" "claims" "Ljava/util/ArrayList;" ∈ BIG := bwi 433 (by decide +kernel) (by decide)
theorem ml_X8_92 : Cond.methodLink RX8 92 yJx4a65c_add_9ea2d ∈ BIG := bwi 441 (by decide +kernel) (by decide)
theorem im_Jx4a65c_add_9ea2d : Cond.instanceMethod yJx4a65c_add_9ea2d ∈ BIG := bwi 442 (by decide +kernel) (by decide)
theorem se_Jx4a65c_add_9ea2d : Cond.selects RJx4a65c yJx4a65c_add_9ea2d yJx4a65c_add_9ea2d ∈ BIG := bwi 443 (by decide +kernel) (by decide)
theorem cd_Jx4a65c_add_9ea2d : Cond.code yJx4a65c_add_9ea2d cJx4a65c_add_9ea2d 2 (some .boolean) ∈ BIG := bwi 444 (by decide +kernel) (by decide)
theorem ml_Jx4a65c_131 : Cond.methodLink RJx4a65c 131 yJx4a65c_add_72be8 ∈ BIG := bwi 445 (by decide +kernel) (by decide)
theorem im_Jx4a65c_add_72be8 : Cond.instanceMethod yJx4a65c_add_72be8 ∈ BIG := bwi 447 (by decide +kernel) (by decide)
theorem cd_Jx4a65c_add_72be8 : Cond.code yJx4a65c_add_72be8 cJx4a65c_add_72be8 4 none ∈ BIG := bwi 448 (by decide +kernel) (by decide)
theorem ml_Jx4a65c_129 : Cond.methodLink RJx4a65c 129 yJx4a65c_grow_d5877 ∈ BIG := bwi 449 (by decide +kernel) (by decide)
theorem im_Jx4a65c_grow_d5877 : Cond.instanceMethod yJx4a65c_grow_d5877 ∈ BIG := bwi 451 (by decide +kernel) (by decide)
theorem cd_Jx4a65c_grow_d5877 : Cond.code yJx4a65c_grow_d5877 cJx4a65c_grow_d5877 1 (some (.array (.object "java/lang/Object"))) ∈ BIG := bwi 452 (by decide +kernel) (by decide)
theorem ml_Jx4a65c_69 : Cond.methodLink RJx4a65c 69 yJx4a65c_grow_92f84 ∈ BIG := bwi 453 (by decide +kernel) (by decide)
theorem im_Jx4a65c_grow_92f84 : Cond.instanceMethod yJx4a65c_grow_92f84 ∈ BIG := bwi 455 (by decide +kernel) (by decide)
theorem cd_Jx4a65c_grow_92f84 : Cond.code yJx4a65c_grow_92f84 cJx4a65c_grow_92f84 4 (some (.array (.object "java/lang/Object"))) ∈ BIG := bwi 456 (by decide +kernel) (by decide)
theorem ml_Jx4a65c_73 : Cond.methodLink RJx4a65c 73 yJ8_newLength_cabcc ∈ BIG := bwi 457 (by decide +kernel) (by decide)
theorem sm_J8_newLength_cabcc : Cond.static yJ8_newLength_cabcc ∈ BIG := bwi 458 (by decide +kernel) (by decide)
theorem cd_J8_newLength_cabcc : Cond.code yJ8_newLength_cabcc cJ8_newLength_cabcc 4 (some .int) ∈ BIG := bwi 459 (by decide +kernel) (by decide)
theorem ml_J8_194 : Cond.methodLink RJ8 194 yJ9_max_7cf53 ∈ BIG := bwi 460 (by decide +kernel) (by decide)
theorem sm_J9_max_7cf53 : Cond.static yJ9_max_7cf53 ∈ BIG := bwi 461 (by decide +kernel) (by decide)
theorem cd_J9_max_7cf53 : Cond.code yJ9_max_7cf53 cJ9_max_7cf53 2 (some .int) ∈ BIG := bwi 462 (by decide +kernel) (by decide)
theorem k_J8_200 : Cond.constant RJ8 200 (2147483639 : Int32) ∈ BIG := bwi 463 (by decide +kernel) (by decide)
theorem ml_J8_201 : Cond.methodLink RJ8 201 yJ8_hugeLength_7cf53 ∈ BIG := bwi 464 (by decide +kernel) (by decide)
theorem sm_J8_hugeLength_7cf53 : Cond.static yJ8_hugeLength_7cf53 ∈ BIG := bwi 465 (by decide +kernel) (by decide)
theorem cd_J8_hugeLength_7cf53 : Cond.code yJ8_hugeLength_7cf53 cJ8_hugeLength_7cf53 3 (some .int) ∈ BIG := bwi 466 (by decide +kernel) (by decide)
theorem ml_Jx4a65c_66 : Cond.methodLink RJx4a65c 66 yJ7_copyOf_1904c ∈ BIG := bwi 467 (by decide +kernel) (by decide)
theorem sm_J7_copyOf_1904c : Cond.static yJ7_copyOf_1904c ∈ BIG := bwi 468 (by decide +kernel) (by decide)
theorem cd_J7_copyOf_1904c : Cond.code yJ7_copyOf_1904c cJ7_copyOf_1904c 2 (some (.array (.object "java/lang/Object"))) ∈ BIG := bwi 469 (by decide +kernel) (by decide)
theorem ml_J7_86 : Cond.methodLink RJ7 86 ⟨"java/lang/Object", "getClass", "()Ljava/lang/Class;"⟩ ∈ BIG := bwi 470 (by decide +kernel) (by decide)
theorem ml_J7_300 : Cond.methodLink RJ7 300 yJ7_copyOf_6403c ∈ BIG := bwi 490 (by decide +kernel) (by decide)
theorem sm_J7_copyOf_6403c : Cond.static yJ7_copyOf_6403c ∈ BIG := bwi 491 (by decide +kernel) (by decide)
theorem cd_J7_copyOf_6403c : Cond.code yJ7_copyOf_6403c cJ7_copyOf_6403c 4 (some (.array (.object "java/lang/Object"))) ∈ BIG := bwi 492 (by decide +kernel) (by decide)
theorem cl_J7_110 : Cond.classLink RJ7 110 "[Ljava/lang/Object;" ∈ BIG := bwi 493 (by decide +kernel) (by decide)
theorem cl_J7_2 : Cond.classLink RJ7 2 "java/lang/Object" ∈ BIG := bwi 495 (by decide +kernel) (by decide)
theorem ml_J7_304 : Cond.methodLink RJ7 304 yJ9_min_7cf53 ∈ BIG := bwi 496 (by decide +kernel) (by decide)
theorem sm_J9_min_7cf53 : Cond.static yJ9_min_7cf53 ∈ BIG := bwi 497 (by decide +kernel) (by decide)
theorem cd_J9_min_7cf53 : Cond.code yJ9_min_7cf53 cJ9_min_7cf53 2 (some .int) ∈ BIG := bwi 498 (by decide +kernel) (by decide)
theorem ml_J7_150 : Cond.methodLink RJ7 150 ⟨"java/lang/System", "arraycopy", "(Ljava/lang/Object;ILjava/lang/Object;II)V"⟩ ∈ BIG := bwi 499 (by decide +kernel) (by decide)
theorem ml_Jx4a65c_79 : Cond.methodLink RJx4a65c 79 yJ9_max_7cf53 ∈ BIG := bwi 502 (by decide +kernel) (by decide)
theorem cl_Jx4a65c_7 : Cond.classLink RJx4a65c 7 "java/lang/Object" ∈ BIG := bwi 503 (by decide +kernel) (by decide)
theorem ml_L_130 : Cond.methodLink RL 130 yL_addTray ∈ BIG := bwi 504 (by decide +kernel) (by decide)
theorem sm_L_addTray : Cond.static yL_addTray ∈ BIG := bwi 505 (by decide +kernel) (by decide)
theorem cw_L_addTray : Cond.codeWith yL_addTray cL_addTray 6 (some .int) [(0, 12, 15, 13), (0, 12, 19, 15)] ∈ BIG := bwi 506 (by decide +kernel) (by decide)
theorem ml_L_29 : Cond.methodLink RL 29 yX8_addTray ∈ BIG := bwi 507 (by decide +kernel) (by decide)
theorem im_X8_addTray : Cond.instanceMethod yX8_addTray ∈ BIG := bwi 508 (by decide +kernel) (by decide)
theorem se_X8_addTray : Cond.selects RX8 yX8_addTray yX8_addTray ∈ BIG := bwi 509 (by decide +kernel) (by decide)
theorem cd_X8_addTray : Cond.code yX8_addTray cX8_addTray 5 (some .int) ∈ BIG := bwi 510 (by decide +kernel) (by decide)
theorem ml_X8_99 : Cond.methodLink RX8 99 yX8_requireGood ∈ BIG := bwi 511 (by decide +kernel) (by decide)
theorem sm_X8_requireGood : Cond.static yX8_requireGood ∈ BIG := bwi 512 (by decide +kernel) (by decide)
theorem cd_X8_requireGood : Cond.code yX8_requireGood cX8_requireGood 1 none ∈ BIG := bwi 513 (by decide +kernel) (by decide)
theorem is_X7 : Cond.instantiable RX7 5 ∈ BIG := bwi 515 (by decide +kernel) (by decide)
theorem ml_X8_110 : Cond.methodLink RX8 110 yX7_init ∈ BIG := bwi 516 (by decide +kernel) (by decide)
theorem im_X7_init : Cond.instanceMethod yX7_init ∈ BIG := bwi 517 (by decide +kernel) (by decide)
theorem cd_X7_init : Cond.code yX7_init cX7_init 4 none ∈ BIG := bwi 518 (by decide +kernel) (by decide)
theorem ml_X7_1 : Cond.methodLink RX7 1 objectInit ∈ BIG := bwi 519 (by decide +kernel) (by decide)
theorem fl_X7_16 : Cond.fieldLink RX7 16 "ShelfSwarm$Tray" "number" "I" ∈ BIG := bwi 520 (by decide +kernel) (by decide)
theorem fl_X8_115 : Cond.fieldLink RX8 115 "ShelfSwarm$Tray" "number" "I" ∈ BIG := bwi 521 (by decide +kernel) (by decide)
theorem fl_X7_19 : Cond.fieldLink RX7 19 "ShelfSwarm$Tray" "home" "I" ∈ BIG := bwi 522 (by decide +kernel) (by decide)
theorem fl_X5_45 : Cond.fieldLink RX5 45 "ShelfSwarm$Tray" "home" "I" ∈ BIG := bwi 523 (by decide +kernel) (by decide)
theorem fl_X8_185 : Cond.fieldLink RX8 185 "ShelfSwarm$Tray" "home" "I" ∈ BIG := bwi 524 (by decide +kernel) (by decide)
theorem fl_X7_22 : Cond.fieldLink RX7 22 "ShelfSwarm$Tray" "good" "I" ∈ BIG := bwi 525 (by decide +kernel) (by decide)
theorem fl_X8_267 : Cond.fieldLink RX8 267 "ShelfSwarm$Tray" "good" "I" ∈ BIG := bwi 526 (by decide +kernel) (by decide)
theorem fl_X7_7 : Cond.fieldLink RX7 7 "ShelfSwarm$Tray" "amount" "I" ∈ BIG := bwi 527 (by decide +kernel) (by decide)
theorem fl_X8_126 : Cond.fieldLink RX8 126 "ShelfSwarm$Tray" "amount" "I" ∈ BIG := bwi 528 (by decide +kernel) (by decide)
theorem fl_X7_13 : Cond.fieldLink RX7 13 "ShelfSwarm$Tray" "received" "I" ∈ BIG := bwi 529 (by decide +kernel) (by decide)
theorem fl_X8_270 : Cond.fieldLink RX8 270 "ShelfSwarm$Tray" "received" "I" ∈ BIG := bwi 530 (by decide +kernel) (by decide)
theorem ml_X8_112 : Cond.methodLink RX8 112 yX7_put ∈ BIG := bwi 542 (by decide +kernel) (by decide)
theorem im_X7_put : Cond.instanceMethod yX7_put ∈ BIG := bwi 543 (by decide +kernel) (by decide)
theorem se_X7_put : Cond.selects RX7 yX7_put yX7_put ∈ BIG := bwi 544 (by decide +kernel) (by decide)
theorem cd_X7_put : Cond.code yX7_put cX7_put 2 none ∈ BIG := bwi 545 (by decide +kernel) (by decide)
theorem ml_L_134 : Cond.methodLink RL 134 yL_fill ∈ BIG := bwi 546 (by decide +kernel) (by decide)
theorem sm_L_fill : Cond.static yL_fill ∈ BIG := bwi 547 (by decide +kernel) (by decide)
theorem cw_L_fill : Cond.codeWith yL_fill cL_fill 5 (some .int) [(0, 10, 13, 36), (0, 10, 17, 13), (0, 10, 21, 15)] ∈ BIG := bwi 548 (by decide +kernel) (by decide)
theorem cl_L_36 : Cond.classLink RL 36 "java/lang/IndexOutOfBoundsException" ∈ BIG := bwi 549 (by decide +kernel) (by decide)
theorem ml_L_33 : Cond.methodLink RL 33 yX8_fill ∈ BIG := bwi 550 (by decide +kernel) (by decide)
theorem im_X8_fill : Cond.instanceMethod yX8_fill ∈ BIG := bwi 551 (by decide +kernel) (by decide)
theorem se_X8_fill : Cond.selects RX8 yX8_fill yX8_fill ∈ BIG := bwi 552 (by decide +kernel) (by decide)
theorem cd_X8_fill : Cond.code yX8_fill cX8_fill 4 (some .int) ∈ BIG := bwi 553 (by decide +kernel) (by decide)
theorem ml_X8_116 : Cond.methodLink RX8 116 yX8_findTray ∈ BIG := bwi 554 (by decide +kernel) (by decide)
theorem im_X8_findTray : Cond.instanceMethod yX8_findTray ∈ BIG := bwi 556 (by decide +kernel) (by decide)
theorem cd_X8_findTray : Cond.code yX8_findTray cX8_findTray 2 (some (.object "ShelfSwarm$Tray")) ∈ BIG := bwi 557 (by decide +kernel) (by decide)
theorem ml_X8_297 : Cond.methodLink RX8 297 yX8_requireNumber ∈ BIG := bwi 558 (by decide +kernel) (by decide)
theorem sm_X8_requireNumber : Cond.static yX8_requireNumber ∈ BIG := bwi 559 (by decide +kernel) (by decide)
theorem cd_X8_requireNumber : Cond.code yX8_requireNumber cX8_requireNumber 2 none ∈ BIG := bwi 560 (by decide +kernel) (by decide)
theorem cl_X8_292 : Cond.classLink RX8 292 "java/lang/IndexOutOfBoundsException" ∈ BIG := bwi 561 (by decide +kernel) (by decide)
theorem ml_X8_296 : Cond.methodLink RX8 296 ⟨"java/lang/IndexOutOfBoundsException", "<init>", "(Ljava/lang/String;)V"⟩ ∈ BIG := bwi 571 (by decide +kernel) (by decide)
theorem ml_X8_120 : Cond.methodLink RX8 120 yX0_carrierOf ∈ BIG := bwi 577 (by decide +kernel) (by decide)
theorem im_X0_carrierOf : Cond.instanceMethod yX0_carrierOf ∈ BIG := bwi 578 (by decide +kernel) (by decide)
theorem se_X0_carrierOf : Cond.selects RX0 yX0_carrierOf yX0_carrierOf ∈ BIG := bwi 579 (by decide +kernel) (by decide)
theorem cd_X0_carrierOf : Cond.code yX0_carrierOf cX0_carrierOf 3 (some (.object "ShelfSwarm$Robot")) ∈ BIG := bwi 580 (by decide +kernel) (by decide)
theorem ml_X0_61 : Cond.methodLink RX0 61 yX0_robotWith ∈ BIG := bwi 581 (by decide +kernel) (by decide)
theorem im_X0_robotWith : Cond.instanceMethod yX0_robotWith ∈ BIG := bwi 582 (by decide +kernel) (by decide)
theorem se_X0_robotWith : Cond.selects RX0 yX0_robotWith yX0_robotWith ∈ BIG := bwi 583 (by decide +kernel) (by decide)
theorem cd_X0_robotWith : Cond.code yX0_robotWith cX0_robotWith 4 (some (.object "ShelfSwarm$Robot")) ∈ BIG := bwi 584 (by decide +kernel) (by decide)
theorem ml_L_137 : Cond.methodLink RL 137 yL_addOrder ∈ BIG := bwi 586 (by decide +kernel) (by decide)
theorem sm_L_addOrder : Cond.static yL_addOrder ∈ BIG := bwi 587 (by decide +kernel) (by decide)
theorem cw_L_addOrder : Cond.codeWith yL_addOrder cL_addOrder 3 (some .int) [(0, 8, 11, 15)] ∈ BIG := bwi 588 (by decide +kernel) (by decide)
theorem ml_L_38 : Cond.methodLink RL 38 yX8_addOrder ∈ BIG := bwi 589 (by decide +kernel) (by decide)
theorem im_X8_addOrder : Cond.instanceMethod yX8_addOrder ∈ BIG := bwi 590 (by decide +kernel) (by decide)
theorem se_X8_addOrder : Cond.selects RX8 yX8_addOrder yX8_addOrder ∈ BIG := bwi 591 (by decide +kernel) (by decide)
theorem cd_X8_addOrder : Cond.code yX8_addOrder cX8_addOrder 2 (some .int) ∈ BIG := bwi 592 (by decide +kernel) (by decide)
theorem cl_X8_131 : Cond.classLink RX8 131 RX3 ∈ BIG := bwi 594 (by decide +kernel) (by decide)
theorem is_X3 : Cond.instantiable RX3 2 ∈ BIG := bwi 595 (by decide +kernel) (by decide)
theorem ml_X8_133 : Cond.methodLink RX8 133 yX3_init ∈ BIG := bwi 596 (by decide +kernel) (by decide)
theorem im_X3_init : Cond.instanceMethod yX3_init ∈ BIG := bwi 597 (by decide +kernel) (by decide)
theorem cd_X3_init : Cond.code yX3_init cX3_init 2 none ∈ BIG := bwi 598 (by decide +kernel) (by decide)
theorem ml_X3_1 : Cond.methodLink RX3 1 objectInit ∈ BIG := bwi 599 (by decide +kernel) (by decide)
theorem cl_X3_7 : Cond.classLink RX3 7 RJx4a65c ∈ BIG := bwi 600 (by decide +kernel) (by decide)
theorem ml_X3_9 : Cond.methodLink RX3 9 yJx4a65c_init_da8c8 ∈ BIG := bwi 601 (by decide +kernel) (by decide)
theorem fl_X3_16 : Cond.fieldLink RX3 16 "ShelfSwarm$Order" "number" "I" ∈ BIG := bwi 602 (by decide +kernel) (by decide)
theorem fl_X8_135 : Cond.fieldLink RX8 135 "ShelfSwarm$Order" "number" "I" ∈ BIG := bwi 603 (by decide +kernel) (by decide)
theorem fl_X3_10 : Cond.fieldLink RX3 10 "ShelfSwarm$Order" "lines" "Ljava/util/ArrayList;" ∈ BIG := bwi 604 (by decide +kernel) (by decide)
theorem fl_X8_140 : Cond.fieldLink RX8 140 "ShelfSwarm$Order" "lines" "Ljava/util/ArrayList;" ∈ BIG := bwi 605 (by decide +kernel) (by decide)
theorem ml_L_141 : Cond.methodLink RL 141 yL_addLine ∈ BIG := bwi 611 (by decide +kernel) (by decide)
theorem sm_L_addLine : Cond.static yL_addLine ∈ BIG := bwi 612 (by decide +kernel) (by decide)
theorem cw_L_addLine : Cond.codeWith yL_addLine cL_addLine 6 (some .int) [(0, 12, 15, 36), (0, 12, 19, 13), (0, 12, 23, 15)] ∈ BIG := bwi 613 (by decide +kernel) (by decide)
theorem ml_L_42 : Cond.methodLink RL 42 yX8_addLine ∈ BIG := bwi 614 (by decide +kernel) (by decide)
theorem im_X8_addLine : Cond.instanceMethod yX8_addLine ∈ BIG := bwi 615 (by decide +kernel) (by decide)
theorem se_X8_addLine : Cond.selects RX8 yX8_addLine yX8_addLine ∈ BIG := bwi 616 (by decide +kernel) (by decide)
theorem cd_X8_addLine : Cond.code yX8_addLine cX8_addLine 5 (some .int) ∈ BIG := bwi 617 (by decide +kernel) (by decide)
theorem ml_X8_136 : Cond.methodLink RX8 136 yX8_findOrder ∈ BIG := bwi 618 (by decide +kernel) (by decide)
theorem im_X8_findOrder : Cond.instanceMethod yX8_findOrder ∈ BIG := bwi 620 (by decide +kernel) (by decide)
theorem cd_X8_findOrder : Cond.code yX8_findOrder cX8_findOrder 2 (some (.object "ShelfSwarm$Order")) ∈ BIG := bwi 621 (by decide +kernel) (by decide)
theorem cl_X8_145 : Cond.classLink RX8 145 RX2 ∈ BIG := bwi 623 (by decide +kernel) (by decide)
theorem is_X2 : Cond.instantiable RX2 4 ∈ BIG := bwi 624 (by decide +kernel) (by decide)
theorem ml_X8_147 : Cond.methodLink RX8 147 yX2_init ∈ BIG := bwi 625 (by decide +kernel) (by decide)
theorem im_X2_init : Cond.instanceMethod yX2_init ∈ BIG := bwi 626 (by decide +kernel) (by decide)
theorem cd_X2_init : Cond.code yX2_init cX2_init 4 none ∈ BIG := bwi 627 (by decide +kernel) (by decide)
theorem ml_X2_1 : Cond.methodLink RX2 1 objectInit ∈ BIG := bwi 628 (by decide +kernel) (by decide)
theorem fl_X2_13 : Cond.fieldLink RX2 13 "ShelfSwarm$Line" "order" "LShelfSwarm$Order;" ∈ BIG := bwi 629 (by decide +kernel) (by decide)
theorem fl_X8_309 : Cond.fieldLink RX8 309 "ShelfSwarm$Line" "order" "LShelfSwarm$Order;" ∈ BIG := bwi 630 (by decide +kernel) (by decide)
theorem fl_X2_17 : Cond.fieldLink RX2 17 "ShelfSwarm$Line" "good" "I" ∈ BIG := bwi 631 (by decide +kernel) (by decide)
theorem fl_X8_321 : Cond.fieldLink RX8 321 "ShelfSwarm$Line" "good" "I" ∈ BIG := bwi 632 (by decide +kernel) (by decide)
theorem fl_X2_21 : Cond.fieldLink RX2 21 "ShelfSwarm$Line" "left" "I" ∈ BIG := bwi 633 (by decide +kernel) (by decide)
theorem fl_X8_182 : Cond.fieldLink RX8 182 "ShelfSwarm$Line" "left" "I" ∈ BIG := bwi 634 (by decide +kernel) (by decide)
theorem fl_X2_7 : Cond.fieldLink RX2 7 "ShelfSwarm$Line" "station" "LShelfSwarm$Station;" ∈ BIG := bwi 635 (by decide +kernel) (by decide)
theorem fl_X5_50 : Cond.fieldLink RX5 50 "ShelfSwarm$Line" "station" "LShelfSwarm$Station;" ∈ BIG := bwi 636 (by decide +kernel) (by decide)
theorem fl_X0_72 : Cond.fieldLink RX0 72 "ShelfSwarm$Line" "station" "LShelfSwarm$Station;" ∈ BIG := bwi 637 (by decide +kernel) (by decide)
theorem fl_X8_158 : Cond.fieldLink RX8 158 "ShelfSwarm$Line" "station" "LShelfSwarm$Station;" ∈ BIG := bwi 638 (by decide +kernel) (by decide)
theorem ml_L_144 : Cond.methodLink RL 144 yL_claim ∈ BIG := bwi 648 (by decide +kernel) (by decide)
theorem sm_L_claim : Cond.static yL_claim ∈ BIG := bwi 649 (by decide +kernel) (by decide)
theorem cw_L_claim : Cond.codeWith yL_claim cL_claim 6 (some .int) [(0, 12, 15, 36), (0, 12, 19, 15)] ∈ BIG := bwi 650 (by decide +kernel) (by decide)
theorem ml_L_45 : Cond.methodLink RL 45 yX8_claim ∈ BIG := bwi 651 (by decide +kernel) (by decide)
theorem im_X8_claim : Cond.instanceMethod yX8_claim ∈ BIG := bwi 652 (by decide +kernel) (by decide)
theorem se_X8_claim : Cond.selects RX8 yX8_claim yX8_claim ∈ BIG := bwi 653 (by decide +kernel) (by decide)
theorem cd_X8_claim : Cond.code yX8_claim cX8_claim 6 (some .int) ∈ BIG := bwi 654 (by decide +kernel) (by decide)
theorem ml_X8_150 : Cond.methodLink RX8 150 yX8_findStation ∈ BIG := bwi 655 (by decide +kernel) (by decide)
theorem im_X8_findStation : Cond.instanceMethod yX8_findStation ∈ BIG := bwi 657 (by decide +kernel) (by decide)
theorem cd_X8_findStation : Cond.code yX8_findStation cX8_findStation 2 (some (.object "ShelfSwarm$Station")) ∈ BIG := bwi 658 (by decide +kernel) (by decide)
theorem ml_X8_154 : Cond.methodLink RX8 154 yX8_findLine ∈ BIG := bwi 659 (by decide +kernel) (by decide)
theorem im_X8_findLine : Cond.instanceMethod yX8_findLine ∈ BIG := bwi 661 (by decide +kernel) (by decide)
theorem cd_X8_findLine : Cond.code yX8_findLine cX8_findLine 4 (some (.object "ShelfSwarm$Line")) ∈ BIG := bwi 662 (by decide +kernel) (by decide)
theorem ml_L_147 : Cond.methodLink RL 147 yL_giveUp ∈ BIG := bwi 664 (by decide +kernel) (by decide)
theorem sm_L_giveUp : Cond.static yL_giveUp ∈ BIG := bwi 665 (by decide +kernel) (by decide)
theorem cw_L_giveUp : Cond.codeWith yL_giveUp cL_giveUp 5 (some .int) [(0, 10, 13, 36), (0, 10, 17, 15)] ∈ BIG := bwi 666 (by decide +kernel) (by decide)
theorem ml_L_48 : Cond.methodLink RL 48 yX8_giveUp ∈ BIG := bwi 667 (by decide +kernel) (by decide)
theorem im_X8_giveUp : Cond.instanceMethod yX8_giveUp ∈ BIG := bwi 668 (by decide +kernel) (by decide)
theorem se_X8_giveUp : Cond.selects RX8 yX8_giveUp yX8_giveUp ∈ BIG := bwi 669 (by decide +kernel) (by decide)
theorem cd_X8_giveUp : Cond.code yX8_giveUp cX8_giveUp 6 (some .int) ∈ BIG := bwi 670 (by decide +kernel) (by decide)
theorem ml_X8_169 : Cond.methodLink RX8 169 yX0_workerFor ∈ BIG := bwi 672 (by decide +kernel) (by decide)
theorem im_X0_workerFor : Cond.instanceMethod yX0_workerFor ∈ BIG := bwi 673 (by decide +kernel) (by decide)
theorem se_X0_workerFor : Cond.selects RX0 yX0_workerFor yX0_workerFor ∈ BIG := bwi 674 (by decide +kernel) (by decide)
theorem cd_X0_workerFor : Cond.code yX0_workerFor cX0_workerFor 4 (some (.object "ShelfSwarm$Robot")) ∈ BIG := bwi 675 (by decide +kernel) (by decide)
theorem ml_X8_173 : Cond.methodLink RX8 173 yX5_leaveLine ∈ BIG := bwi 676 (by decide +kernel) (by decide)
theorem im_X5_leaveLine : Cond.instanceMethod yX5_leaveLine ∈ BIG := bwi 677 (by decide +kernel) (by decide)
theorem se_X5_leaveLine : Cond.selects RX5 yX5_leaveLine yX5_leaveLine ∈ BIG := bwi 678 (by decide +kernel) (by decide)
theorem cd_X5_leaveLine : Cond.code yX5_leaveLine cX5_leaveLine 1 none ∈ BIG := bwi 679 (by decide +kernel) (by decide)
theorem ml_X5_62 : Cond.methodLink RX5 62 yX5_become ∈ BIG := bwi 680 (by decide +kernel) (by decide)
theorem im_X5_become : Cond.instanceMethod yX5_become ∈ BIG := bwi 681 (by decide +kernel) (by decide)
theorem se_X5_become : Cond.selects RX5 yX5_become yX5_become ∈ BIG := bwi 682 (by decide +kernel) (by decide)
theorem cd_X5_become : Cond.code yX5_become cX5_become 2 none ∈ BIG := bwi 683 (by decide +kernel) (by decide)
theorem ml_X5_59 : Cond.methodLink RX5 59 yX5_forgetAsking ∈ BIG := bwi 684 (by decide +kernel) (by decide)
theorem im_X5_forgetAsking : Cond.instanceMethod yX5_forgetAsking ∈ BIG := bwi 686 (by decide +kernel) (by decide)
theorem is_X5 : Cond.instantiable RX5 9 ∈ BIG := bwi 687 (by decide +kernel) (by decide)
theorem cd_X5_forgetAsking : Cond.code yX5_forgetAsking cX5_forgetAsking 1 none ∈ BIG := bwi 688 (by decide +kernel) (by decide)
theorem ml_X8_178 : Cond.methodLink RX8 178 yX6_forget ∈ BIG := bwi 689 (by decide +kernel) (by decide)
theorem im_X6_forget : Cond.instanceMethod yX6_forget ∈ BIG := bwi 690 (by decide +kernel) (by decide)
theorem se_X6_forget : Cond.selects RX6 yX6_forget yX6_forget ∈ BIG := bwi 691 (by decide +kernel) (by decide)
theorem cd_X6_forget : Cond.code yX6_forget cX6_forget 3 none ∈ BIG := bwi 692 (by decide +kernel) (by decide)
theorem ml_X6_23 : Cond.methodLink RX6 23 yJx4a65c_size_8abf5 ∈ BIG := bwi 693 (by decide +kernel) (by decide)
theorem ml_X6_27 : Cond.methodLink RX6 27 yJx4a65c_get_915e3 ∈ BIG := bwi 694 (by decide +kernel) (by decide)
theorem ml_X6_31 : Cond.methodLink RX6 31 yJx4a65c_remove_915e3 ∈ BIG := bwi 695 (by decide +kernel) (by decide)
theorem im_Jx4a65c_remove_915e3 : Cond.instanceMethod yJx4a65c_remove_915e3 ∈ BIG := bwi 696 (by decide +kernel) (by decide)
theorem se_Jx4a65c_remove_915e3 : Cond.selects RJx4a65c yJx4a65c_remove_915e3 yJx4a65c_remove_915e3 ∈ BIG := bwi 697 (by decide +kernel) (by decide)
theorem cd_Jx4a65c_remove_915e3 : Cond.code yJx4a65c_remove_915e3 cJx4a65c_remove_915e3 4 (some (.object "java/lang/Object")) ∈ BIG := bwi 698 (by decide +kernel) (by decide)
theorem ml_Jx4a65c_144 : Cond.methodLink RJx4a65c 144 yJx4a65c_fastRemove_b59b0 ∈ BIG := bwi 699 (by decide +kernel) (by decide)
theorem im_Jx4a65c_fastRemove_b59b0 : Cond.instanceMethod yJx4a65c_fastRemove_b59b0 ∈ BIG := bwi 701 (by decide +kernel) (by decide)
theorem cd_Jx4a65c_fastRemove_b59b0 : Cond.code yJx4a65c_fastRemove_b59b0 cJx4a65c_fastRemove_b59b0 4 none ∈ BIG := bwi 702 (by decide +kernel) (by decide)
theorem ml_Jx4a65c_112 : Cond.methodLink RJx4a65c 112 ⟨"java/lang/System", "arraycopy", "(Ljava/lang/Object;ILjava/lang/Object;II)V"⟩ ∈ BIG := bwi 703 (by decide +kernel) (by decide)
theorem ml_L_150 : Cond.methodLink RL 150 yL_left ∈ BIG := bwi 704 (by decide +kernel) (by decide)
theorem sm_L_left : Cond.static yL_left ∈ BIG := bwi 705 (by decide +kernel) (by decide)
theorem cw_L_left : Cond.codeWith yL_left cL_left 5 (some .int) [(0, 10, 13, 36)] ∈ BIG := bwi 706 (by decide +kernel) (by decide)
theorem ml_L_51 : Cond.methodLink RL 51 yX8_left ∈ BIG := bwi 707 (by decide +kernel) (by decide)
theorem im_X8_left : Cond.instanceMethod yX8_left ∈ BIG := bwi 708 (by decide +kernel) (by decide)
theorem se_X8_left : Cond.selects RX8 yX8_left yX8_left ∈ BIG := bwi 709 (by decide +kernel) (by decide)
theorem cd_X8_left : Cond.code yX8_left cX8_left 3 (some .int) ∈ BIG := bwi 710 (by decide +kernel) (by decide)
theorem ml_L_153 : Cond.methodLink RL 153 yL_claimant ∈ BIG := bwi 711 (by decide +kernel) (by decide)
theorem sm_L_claimant : Cond.static yL_claimant ∈ BIG := bwi 712 (by decide +kernel) (by decide)
theorem cw_L_claimant : Cond.codeWith yL_claimant cL_claimant 5 (some .int) [(0, 10, 13, 36)] ∈ BIG := bwi 713 (by decide +kernel) (by decide)
theorem ml_L_54 : Cond.methodLink RL 54 yX8_claimant ∈ BIG := bwi 714 (by decide +kernel) (by decide)
theorem im_X8_claimant : Cond.instanceMethod yX8_claimant ∈ BIG := bwi 715 (by decide +kernel) (by decide)
theorem se_X8_claimant : Cond.selects RX8 yX8_claimant yX8_claimant ∈ BIG := bwi 716 (by decide +kernel) (by decide)
theorem cd_X8_claimant : Cond.code yX8_claimant cX8_claimant 4 (some .int) ∈ BIG := bwi 717 (by decide +kernel) (by decide)
theorem ml_L_156 : Cond.methodLink RL 156 yL_amount ∈ BIG := bwi 718 (by decide +kernel) (by decide)
theorem sm_L_amount : Cond.static yL_amount ∈ BIG := bwi 719 (by decide +kernel) (by decide)
theorem cw_L_amount : Cond.codeWith yL_amount cL_amount 4 (some .int) [(0, 9, 12, 36)] ∈ BIG := bwi 720 (by decide +kernel) (by decide)
theorem ml_L_57 : Cond.methodLink RL 57 yX8_amount ∈ BIG := bwi 721 (by decide +kernel) (by decide)
theorem im_X8_amount : Cond.instanceMethod yX8_amount ∈ BIG := bwi 722 (by decide +kernel) (by decide)
theorem se_X8_amount : Cond.selects RX8 yX8_amount yX8_amount ∈ BIG := bwi 723 (by decide +kernel) (by decide)
theorem cd_X8_amount : Cond.code yX8_amount cX8_amount 2 (some .int) ∈ BIG := bwi 724 (by decide +kernel) (by decide)
theorem ml_L_159 : Cond.methodLink RL 159 yL_trayCell ∈ BIG := bwi 725 (by decide +kernel) (by decide)
theorem sm_L_trayCell : Cond.static yL_trayCell ∈ BIG := bwi 726 (by decide +kernel) (by decide)
theorem cw_L_trayCell : Cond.codeWith yL_trayCell cL_trayCell 4 (some .int) [(0, 9, 12, 36)] ∈ BIG := bwi 727 (by decide +kernel) (by decide)
theorem ml_L_60 : Cond.methodLink RL 60 yX8_trayCell ∈ BIG := bwi 728 (by decide +kernel) (by decide)
theorem im_X8_trayCell : Cond.instanceMethod yX8_trayCell ∈ BIG := bwi 729 (by decide +kernel) (by decide)
theorem se_X8_trayCell : Cond.selects RX8 yX8_trayCell yX8_trayCell ∈ BIG := bwi 730 (by decide +kernel) (by decide)
theorem cd_X8_trayCell : Cond.code yX8_trayCell cX8_trayCell 4 (some .int) ∈ BIG := bwi 731 (by decide +kernel) (by decide)
theorem ml_L_162 : Cond.methodLink RL 162 yL_addRobot ∈ BIG := bwi 732 (by decide +kernel) (by decide)
theorem sm_L_addRobot : Cond.static yL_addRobot ∈ BIG := bwi 733 (by decide +kernel) (by decide)
theorem cw_L_addRobot : Cond.codeWith yL_addRobot cL_addRobot 5 (some .int) [(0, 10, 13, 13), (0, 10, 17, 15)] ∈ BIG := bwi 734 (by decide +kernel) (by decide)
theorem ml_L_63 : Cond.methodLink RL 63 yX8_addRobot ∈ BIG := bwi 735 (by decide +kernel) (by decide)
theorem im_X8_addRobot : Cond.instanceMethod yX8_addRobot ∈ BIG := bwi 736 (by decide +kernel) (by decide)
theorem se_X8_addRobot : Cond.selects RX8 yX8_addRobot yX8_addRobot ∈ BIG := bwi 737 (by decide +kernel) (by decide)
theorem cd_X8_addRobot : Cond.code yX8_addRobot cX8_addRobot 4 (some .int) ∈ BIG := bwi 738 (by decide +kernel) (by decide)
theorem cl_X8_174 : Cond.classLink RX8 174 RX5 ∈ BIG := bwi 740 (by decide +kernel) (by decide)
theorem ml_X8_196 : Cond.methodLink RX8 196 yX5_init ∈ BIG := bwi 741 (by decide +kernel) (by decide)
theorem im_X5_init : Cond.instanceMethod yX5_init ∈ BIG := bwi 742 (by decide +kernel) (by decide)
theorem cd_X5_init : Cond.code yX5_init cX5_init 4 none ∈ BIG := bwi 743 (by decide +kernel) (by decide)
theorem ml_X5_3 : Cond.methodLink RX5 3 objectInit ∈ BIG := bwi 744 (by decide +kernel) (by decide)
theorem fl_X5_32 : Cond.fieldLink RX5 32 "ShelfSwarm$Robot" "number" "I" ∈ BIG := bwi 745 (by decide +kernel) (by decide)
theorem fl_X0_132 : Cond.fieldLink RX0 132 "ShelfSwarm$Robot" "number" "I" ∈ BIG := bwi 746 (by decide +kernel) (by decide)
theorem fl_X8_197 : Cond.fieldLink RX8 197 "ShelfSwarm$Robot" "number" "I" ∈ BIG := bwi 747 (by decide +kernel) (by decide)
theorem fl_X5_38 : Cond.fieldLink RX5 38 "ShelfSwarm$Robot" "rank" "I" ∈ BIG := bwi 748 (by decide +kernel) (by decide)
theorem fl_X5_35 : Cond.fieldLink RX5 35 "ShelfSwarm$Robot" "cell" "I" ∈ BIG := bwi 749 (by decide +kernel) (by decide)
theorem fl_X0_54 : Cond.fieldLink RX0 54 "ShelfSwarm$Robot" "cell" "I" ∈ BIG := bwi 750 (by decide +kernel) (by decide)
theorem fl_X8_188 : Cond.fieldLink RX8 188 "ShelfSwarm$Robot" "cell" "I" ∈ BIG := bwi 751 (by decide +kernel) (by decide)
theorem fl_X5_9 : Cond.fieldLink RX5 9 "ShelfSwarm$Robot" "state" "I" ∈ BIG := bwi 752 (by decide +kernel) (by decide)
theorem fl_X0_65 : Cond.fieldLink RX0 65 "ShelfSwarm$Robot" "state" "I" ∈ BIG := bwi 753 (by decide +kernel) (by decide)
theorem fl_X8_201 : Cond.fieldLink RX8 201 "ShelfSwarm$Robot" "state" "I" ∈ BIG := bwi 754 (by decide +kernel) (by decide)
theorem fl_X5_15 : Cond.fieldLink RX5 15 "ShelfSwarm$Robot" "tray" "LShelfSwarm$Tray;" ∈ BIG := bwi 755 (by decide +kernel) (by decide)
theorem fl_X0_57 : Cond.fieldLink RX0 57 "ShelfSwarm$Robot" "tray" "LShelfSwarm$Tray;" ∈ BIG := bwi 756 (by decide +kernel) (by decide)
theorem fl_X8_212 : Cond.fieldLink RX8 212 "ShelfSwarm$Robot" "tray" "LShelfSwarm$Tray;" ∈ BIG := bwi 757 (by decide +kernel) (by decide)
theorem fl_X5_19 : Cond.fieldLink RX5 19 "ShelfSwarm$Robot" "line" "LShelfSwarm$Line;" ∈ BIG := bwi 758 (by decide +kernel) (by decide)
theorem fl_X0_68 : Cond.fieldLink RX0 68 "ShelfSwarm$Robot" "line" "LShelfSwarm$Line;" ∈ BIG := bwi 759 (by decide +kernel) (by decide)
theorem fl_X8_301 : Cond.fieldLink RX8 301 "ShelfSwarm$Robot" "line" "LShelfSwarm$Line;" ∈ BIG := bwi 760 (by decide +kernel) (by decide)
theorem fl_X5_23 : Cond.fieldLink RX5 23 "ShelfSwarm$Robot" "asks" "I" ∈ BIG := bwi 761 (by decide +kernel) (by decide)
theorem fl_X0_125 : Cond.fieldLink RX0 125 "ShelfSwarm$Robot" "asks" "I" ∈ BIG := bwi 762 (by decide +kernel) (by decide)
theorem fl_X8_225 : Cond.fieldLink RX8 225 "ShelfSwarm$Robot" "asks" "I" ∈ BIG := bwi 763 (by decide +kernel) (by decide)
theorem fl_X5_26 : Cond.fieldLink RX5 26 "ShelfSwarm$Robot" "asksSince" "I" ∈ BIG := bwi 764 (by decide +kernel) (by decide)
theorem fl_X5_29 : Cond.fieldLink RX5 29 "ShelfSwarm$Robot" "avoids" "I" ∈ BIG := bwi 765 (by decide +kernel) (by decide)
theorem fl_X0_101 : Cond.fieldLink RX0 101 "ShelfSwarm$Robot" "avoids" "I" ∈ BIG := bwi 766 (by decide +kernel) (by decide)
theorem ml_L_165 : Cond.methodLink RL 165 yL_die ∈ BIG := bwi 786 (by decide +kernel) (by decide)
theorem sm_L_die : Cond.static yL_die ∈ BIG := bwi 787 (by decide +kernel) (by decide)
theorem cw_L_die : Cond.codeWith yL_die cL_die 4 (some .int) [(0, 9, 12, 36), (0, 9, 15, 15)] ∈ BIG := bwi 788 (by decide +kernel) (by decide)
theorem ml_L_66 : Cond.methodLink RL 66 yX8_die ∈ BIG := bwi 789 (by decide +kernel) (by decide)
theorem im_X8_die : Cond.instanceMethod yX8_die ∈ BIG := bwi 790 (by decide +kernel) (by decide)
theorem se_X8_die : Cond.selects RX8 yX8_die yX8_die ∈ BIG := bwi 791 (by decide +kernel) (by decide)
theorem cd_X8_die : Cond.code yX8_die cX8_die 3 (some .int) ∈ BIG := bwi 792 (by decide +kernel) (by decide)
theorem ml_X8_198 : Cond.methodLink RX8 198 yX8_findRobot ∈ BIG := bwi 793 (by decide +kernel) (by decide)
theorem im_X8_findRobot : Cond.instanceMethod yX8_findRobot ∈ BIG := bwi 795 (by decide +kernel) (by decide)
theorem cd_X8_findRobot : Cond.code yX8_findRobot cX8_findRobot 2 (some (.object "ShelfSwarm$Robot")) ∈ BIG := bwi 796 (by decide +kernel) (by decide)
theorem ml_X8_206 : Cond.methodLink RX8 206 yX5_breakDown ∈ BIG := bwi 798 (by decide +kernel) (by decide)
theorem im_X5_breakDown : Cond.instanceMethod yX5_breakDown ∈ BIG := bwi 799 (by decide +kernel) (by decide)
theorem se_X5_breakDown : Cond.selects RX5 yX5_breakDown yX5_breakDown ∈ BIG := bwi 800 (by decide +kernel) (by decide)
theorem cd_X5_breakDown : Cond.code yX5_breakDown cX5_breakDown 1 none ∈ BIG := bwi 801 (by decide +kernel) (by decide)
theorem ml_X8_209 : Cond.methodLink RX8 209 yX1_markDead ∈ BIG := bwi 802 (by decide +kernel) (by decide)
theorem im_X1_markDead : Cond.instanceMethod yX1_markDead ∈ BIG := bwi 803 (by decide +kernel) (by decide)
theorem se_X1_markDead : Cond.selects RX1 yX1_markDead yX1_markDead ∈ BIG := bwi 804 (by decide +kernel) (by decide)
theorem cd_X1_markDead : Cond.code yX1_markDead cX1_markDead 3 none ∈ BIG := bwi 805 (by decide +kernel) (by decide)
theorem ml_X8_216 : Cond.methodLink RX8 216 yX8_numberOf ∈ BIG := bwi 806 (by decide +kernel) (by decide)
theorem sm_X8_numberOf : Cond.static yX8_numberOf ∈ BIG := bwi 807 (by decide +kernel) (by decide)
theorem cd_X8_numberOf : Cond.code yX8_numberOf cX8_numberOf 1 (some .int) ∈ BIG := bwi 808 (by decide +kernel) (by decide)
theorem ml_L_168 : Cond.methodLink RL 168 yL_repair ∈ BIG := bwi 809 (by decide +kernel) (by decide)
theorem sm_L_repair : Cond.static yL_repair ∈ BIG := bwi 810 (by decide +kernel) (by decide)
theorem cw_L_repair : Cond.codeWith yL_repair cL_repair 4 (some .int) [(0, 9, 12, 36), (0, 9, 15, 15)] ∈ BIG := bwi 811 (by decide +kernel) (by decide)
theorem ml_L_69 : Cond.methodLink RL 69 yX8_repair ∈ BIG := bwi 812 (by decide +kernel) (by decide)
theorem im_X8_repair : Cond.instanceMethod yX8_repair ∈ BIG := bwi 813 (by decide +kernel) (by decide)
theorem se_X8_repair : Cond.selects RX8 yX8_repair yX8_repair ∈ BIG := bwi 814 (by decide +kernel) (by decide)
theorem cd_X8_repair : Cond.code yX8_repair cX8_repair 3 (some .int) ∈ BIG := bwi 815 (by decide +kernel) (by decide)
theorem ml_X8_222 : Cond.methodLink RX8 222 yX5_become ∈ BIG := bwi 817 (by decide +kernel) (by decide)
theorem ml_L_171 : Cond.methodLink RL 171 yL_robotIn ∈ BIG := bwi 818 (by decide +kernel) (by decide)
theorem sm_L_robotIn : Cond.static yL_robotIn ∈ BIG := bwi 819 (by decide +kernel) (by decide)
theorem cw_L_robotIn : Cond.codeWith yL_robotIn cL_robotIn 4 (some .int) [(0, 9, 12, 13)] ∈ BIG := bwi 820 (by decide +kernel) (by decide)
theorem ml_L_72 : Cond.methodLink RL 72 yX8_robotIn ∈ BIG := bwi 821 (by decide +kernel) (by decide)
theorem im_X8_robotIn : Cond.instanceMethod yX8_robotIn ∈ BIG := bwi 822 (by decide +kernel) (by decide)
theorem se_X8_robotIn : Cond.selects RX8 yX8_robotIn yX8_robotIn ∈ BIG := bwi 823 (by decide +kernel) (by decide)
theorem cd_X8_robotIn : Cond.code yX8_robotIn cX8_robotIn 3 (some .int) ∈ BIG := bwi 824 (by decide +kernel) (by decide)
theorem ml_L_174 : Cond.methodLink RL 174 yL_cellOf ∈ BIG := bwi 825 (by decide +kernel) (by decide)
theorem sm_L_cellOf : Cond.static yL_cellOf ∈ BIG := bwi 826 (by decide +kernel) (by decide)
theorem cw_L_cellOf : Cond.codeWith yL_cellOf cL_cellOf 4 (some .int) [(0, 9, 12, 36)] ∈ BIG := bwi 827 (by decide +kernel) (by decide)
theorem ml_L_75 : Cond.methodLink RL 75 yX8_cellOf ∈ BIG := bwi 828 (by decide +kernel) (by decide)
theorem im_X8_cellOf : Cond.instanceMethod yX8_cellOf ∈ BIG := bwi 829 (by decide +kernel) (by decide)
theorem se_X8_cellOf : Cond.selects RX8 yX8_cellOf yX8_cellOf ∈ BIG := bwi 830 (by decide +kernel) (by decide)
theorem cd_X8_cellOf : Cond.code yX8_cellOf cX8_cellOf 2 (some .int) ∈ BIG := bwi 831 (by decide +kernel) (by decide)
theorem ml_L_177 : Cond.methodLink RL 177 yL_state ∈ BIG := bwi 832 (by decide +kernel) (by decide)
theorem sm_L_state : Cond.static yL_state ∈ BIG := bwi 833 (by decide +kernel) (by decide)
theorem cw_L_state : Cond.codeWith yL_state cL_state 4 (some .int) [(0, 9, 12, 36)] ∈ BIG := bwi 834 (by decide +kernel) (by decide)
theorem ml_L_78 : Cond.methodLink RL 78 yX8_state ∈ BIG := bwi 835 (by decide +kernel) (by decide)
theorem im_X8_state : Cond.instanceMethod yX8_state ∈ BIG := bwi 836 (by decide +kernel) (by decide)
theorem se_X8_state : Cond.selects RX8 yX8_state yX8_state ∈ BIG := bwi 837 (by decide +kernel) (by decide)
theorem cd_X8_state : Cond.code yX8_state cX8_state 2 (some .int) ∈ BIG := bwi 838 (by decide +kernel) (by decide)
theorem ml_L_180 : Cond.methodLink RL 180 yL_trayOf ∈ BIG := bwi 839 (by decide +kernel) (by decide)
theorem sm_L_trayOf : Cond.static yL_trayOf ∈ BIG := bwi 840 (by decide +kernel) (by decide)
theorem cw_L_trayOf : Cond.codeWith yL_trayOf cL_trayOf 4 (some .int) [(0, 9, 12, 36)] ∈ BIG := bwi 841 (by decide +kernel) (by decide)
theorem ml_L_81 : Cond.methodLink RL 81 yX8_trayOf ∈ BIG := bwi 842 (by decide +kernel) (by decide)
theorem im_X8_trayOf : Cond.instanceMethod yX8_trayOf ∈ BIG := bwi 843 (by decide +kernel) (by decide)
theorem se_X8_trayOf : Cond.selects RX8 yX8_trayOf yX8_trayOf ∈ BIG := bwi 844 (by decide +kernel) (by decide)
theorem cd_X8_trayOf : Cond.code yX8_trayOf cX8_trayOf 2 (some .int) ∈ BIG := bwi 845 (by decide +kernel) (by decide)
theorem ml_L_183 : Cond.methodLink RL 183 yL_asked ∈ BIG := bwi 846 (by decide +kernel) (by decide)
theorem sm_L_asked : Cond.static yL_asked ∈ BIG := bwi 847 (by decide +kernel) (by decide)
theorem cw_L_asked : Cond.codeWith yL_asked cL_asked 4 (some .int) [(0, 9, 12, 36)] ∈ BIG := bwi 848 (by decide +kernel) (by decide)
theorem ml_L_84 : Cond.methodLink RL 84 yX8_asked ∈ BIG := bwi 849 (by decide +kernel) (by decide)
theorem im_X8_asked : Cond.instanceMethod yX8_asked ∈ BIG := bwi 850 (by decide +kernel) (by decide)
theorem se_X8_asked : Cond.selects RX8 yX8_asked yX8_asked ∈ BIG := bwi 851 (by decide +kernel) (by decide)
theorem cd_X8_asked : Cond.code yX8_asked cX8_asked 2 (some .int) ∈ BIG := bwi 852 (by decide +kernel) (by decide)
theorem ml_L_186 : Cond.methodLink RL 186 yL_tick ∈ BIG := bwi 853 (by decide +kernel) (by decide)
theorem sm_L_tick : Cond.static yL_tick ∈ BIG := bwi 854 (by decide +kernel) (by decide)
theorem cw_L_tick : Cond.codeWith yL_tick cL_tick 4 (some .int) [(0, 9, 12, 13), (0, 9, 15, 15)] ∈ BIG := bwi 855 (by decide +kernel) (by decide)
theorem ml_L_87 : Cond.methodLink RL 87 yX8_tick ∈ BIG := bwi 856 (by decide +kernel) (by decide)
theorem im_X8_tick : Cond.instanceMethod yX8_tick ∈ BIG := bwi 857 (by decide +kernel) (by decide)
theorem se_X8_tick : Cond.selects RX8 yX8_tick yX8_tick ∈ BIG := bwi 858 (by decide +kernel) (by decide)
theorem cd_X8_tick : Cond.code yX8_tick cX8_tick 4 (some .int) ∈ BIG := bwi 859 (by decide +kernel) (by decide)
theorem ml_X8_230 : Cond.methodLink RX8 230 yX8_pickFromServing ∈ BIG := bwi 861 (by decide +kernel) (by decide)
theorem im_X8_pickFromServing : Cond.instanceMethod yX8_pickFromServing ∈ BIG := bwi 863 (by decide +kernel) (by decide)
theorem cd_X8_pickFromServing : Cond.code yX8_pickFromServing cX8_pickFromServing 3 none ∈ BIG := bwi 864 (by decide +kernel) (by decide)
theorem ml_X8_305 : Cond.methodLink RX8 305 yX8_pick ∈ BIG := bwi 865 (by decide +kernel) (by decide)
theorem im_X8_pick : Cond.instanceMethod yX8_pick ∈ BIG := bwi 867 (by decide +kernel) (by decide)
theorem cd_X8_pick : Cond.code yX8_pick cX8_pick 4 none ∈ BIG := bwi 868 (by decide +kernel) (by decide)
theorem cl_X8_273 : Cond.classLink RX8 273 RX4 ∈ BIG := bwi 869 (by decide +kernel) (by decide)
theorem is_X4 : Cond.instantiable RX4 3 ∈ BIG := bwi 870 (by decide +kernel) (by decide)
theorem ml_X8_310 : Cond.methodLink RX8 310 yX4_init ∈ BIG := bwi 871 (by decide +kernel) (by decide)
theorem im_X4_init : Cond.instanceMethod yX4_init ∈ BIG := bwi 872 (by decide +kernel) (by decide)
theorem cd_X4_init : Cond.code yX4_init cX4_init 4 none ∈ BIG := bwi 873 (by decide +kernel) (by decide)
theorem ml_X4_1 : Cond.methodLink RX4 1 objectInit ∈ BIG := bwi 874 (by decide +kernel) (by decide)
theorem fl_X4_7 : Cond.fieldLink RX4 7 "ShelfSwarm$Pick" "tray" "LShelfSwarm$Tray;" ∈ BIG := bwi 875 (by decide +kernel) (by decide)
theorem fl_X8_275 : Cond.fieldLink RX8 275 "ShelfSwarm$Pick" "tray" "LShelfSwarm$Tray;" ∈ BIG := bwi 876 (by decide +kernel) (by decide)
theorem fl_X4_13 : Cond.fieldLink RX4 13 "ShelfSwarm$Pick" "order" "LShelfSwarm$Order;" ∈ BIG := bwi 877 (by decide +kernel) (by decide)
theorem fl_X8_280 : Cond.fieldLink RX8 280 "ShelfSwarm$Pick" "order" "LShelfSwarm$Order;" ∈ BIG := bwi 878 (by decide +kernel) (by decide)
theorem fl_X4_17 : Cond.fieldLink RX4 17 "ShelfSwarm$Pick" "tick" "I" ∈ BIG := bwi 879 (by decide +kernel) (by decide)
theorem fl_X8_284 : Cond.fieldLink RX8 284 "ShelfSwarm$Pick" "tick" "I" ∈ BIG := bwi 880 (by decide +kernel) (by decide)
theorem ml_X8_233 : Cond.methodLink RX8 233 yX8_sendRobots ∈ BIG := bwi 888 (by decide +kernel) (by decide)
theorem im_X8_sendRobots : Cond.instanceMethod yX8_sendRobots ∈ BIG := bwi 890 (by decide +kernel) (by decide)
theorem cd_X8_sendRobots : Cond.code yX8_sendRobots cX8_sendRobots 3 none ∈ BIG := bwi 891 (by decide +kernel) (by decide)
theorem ml_X8_313 : Cond.methodLink RX8 313 yX0_worksFor ∈ BIG := bwi 892 (by decide +kernel) (by decide)
theorem im_X0_worksFor : Cond.instanceMethod yX0_worksFor ∈ BIG := bwi 893 (by decide +kernel) (by decide)
theorem se_X0_worksFor : Cond.selects RX0 yX0_worksFor yX0_worksFor ∈ BIG := bwi 894 (by decide +kernel) (by decide)
theorem cd_X0_worksFor : Cond.code yX0_worksFor cX0_worksFor 4 (some .boolean) ∈ BIG := bwi 895 (by decide +kernel) (by decide)
theorem ml_X8_317 : Cond.methodLink RX8 317 yX8_sendRobotFor ∈ BIG := bwi 896 (by decide +kernel) (by decide)
theorem im_X8_sendRobotFor : Cond.instanceMethod yX8_sendRobotFor ∈ BIG := bwi 898 (by decide +kernel) (by decide)
theorem cd_X8_sendRobotFor : Cond.code yX8_sendRobotFor cX8_sendRobotFor 6 none ∈ BIG := bwi 899 (by decide +kernel) (by decide)
theorem ml_X8_322 : Cond.methodLink RX8 322 yX8_nearestTray ∈ BIG := bwi 900 (by decide +kernel) (by decide)
theorem im_X8_nearestTray : Cond.instanceMethod yX8_nearestTray ∈ BIG := bwi 902 (by decide +kernel) (by decide)
theorem cd_X8_nearestTray : Cond.code yX8_nearestTray cX8_nearestTray 8 (some (.object "ShelfSwarm$Tray")) ∈ BIG := bwi 903 (by decide +kernel) (by decide)
theorem ml_X8_333 : Cond.methodLink RX8 333 yX0_robotWith ∈ BIG := bwi 904 (by decide +kernel) (by decide)
theorem ml_X8_326 : Cond.methodLink RX8 326 yX0_nearestIdle ∈ BIG := bwi 905 (by decide +kernel) (by decide)
theorem im_X0_nearestIdle : Cond.instanceMethod yX0_nearestIdle ∈ BIG := bwi 906 (by decide +kernel) (by decide)
theorem se_X0_nearestIdle : Cond.selects RX0 yX0_nearestIdle yX0_nearestIdle ∈ BIG := bwi 907 (by decide +kernel) (by decide)
theorem cd_X0_nearestIdle : Cond.code yX0_nearestIdle cX0_nearestIdle 7 (some (.object "ShelfSwarm$Robot")) ∈ BIG := bwi 908 (by decide +kernel) (by decide)
theorem ml_X0_78 : Cond.methodLink RX0 78 yX1_stepsBetween ∈ BIG := bwi 909 (by decide +kernel) (by decide)
theorem ml_X8_329 : Cond.methodLink RX8 329 yX5_fetch ∈ BIG := bwi 910 (by decide +kernel) (by decide)
theorem im_X5_fetch : Cond.instanceMethod yX5_fetch ∈ BIG := bwi 911 (by decide +kernel) (by decide)
theorem se_X5_fetch : Cond.selects RX5 yX5_fetch yX5_fetch ∈ BIG := bwi 912 (by decide +kernel) (by decide)
theorem cd_X5_fetch : Cond.code yX5_fetch cX5_fetch 3 none ∈ BIG := bwi 913 (by decide +kernel) (by decide)
theorem ml_X8_236 : Cond.methodLink RX8 236 yX0_askForCells ∈ BIG := bwi 914 (by decide +kernel) (by decide)
theorem im_X0_askForCells : Cond.instanceMethod yX0_askForCells ∈ BIG := bwi 915 (by decide +kernel) (by decide)
theorem se_X0_askForCells : Cond.selects RX0 yX0_askForCells yX0_askForCells ∈ BIG := bwi 916 (by decide +kernel) (by decide)
theorem cd_X0_askForCells : Cond.code yX0_askForCells cX0_askForCells 4 none ∈ BIG := bwi 917 (by decide +kernel) (by decide)
theorem ml_X0_86 : Cond.methodLink RX0 86 yX0_wantedCell ∈ BIG := bwi 918 (by decide +kernel) (by decide)
theorem im_X0_wantedCell : Cond.instanceMethod yX0_wantedCell ∈ BIG := bwi 920 (by decide +kernel) (by decide)
theorem cd_X0_wantedCell : Cond.code yX0_wantedCell cX0_wantedCell 4 (some .int) ∈ BIG := bwi 921 (by decide +kernel) (by decide)
theorem ml_X0_94 : Cond.methodLink RX0 94 yX5_goal ∈ BIG := bwi 922 (by decide +kernel) (by decide)
theorem im_X5_goal : Cond.instanceMethod yX5_goal ∈ BIG := bwi 923 (by decide +kernel) (by decide)
theorem se_X5_goal : Cond.selects RX5 yX5_goal yX5_goal ∈ BIG := bwi 924 (by decide +kernel) (by decide)
theorem cd_X5_goal : Cond.code yX5_goal cX5_goal 1 (some .int) ∈ BIG := bwi 925 (by decide +kernel) (by decide)
theorem ml_X0_97 : Cond.methodLink RX0 97 yX5_isOnItsWay ∈ BIG := bwi 926 (by decide +kernel) (by decide)
theorem im_X5_isOnItsWay : Cond.instanceMethod yX5_isOnItsWay ∈ BIG := bwi 927 (by decide +kernel) (by decide)
theorem se_X5_isOnItsWay : Cond.selects RX5 yX5_isOnItsWay yX5_isOnItsWay ∈ BIG := bwi 928 (by decide +kernel) (by decide)
theorem cd_X5_isOnItsWay : Cond.code yX5_isOnItsWay cX5_isOnItsWay 1 (some .boolean) ∈ BIG := bwi 929 (by decide +kernel) (by decide)
theorem ml_X0_104 : Cond.methodLink RX0 104 yX1_nextCell ∈ BIG := bwi 930 (by decide +kernel) (by decide)
theorem im_X1_nextCell : Cond.instanceMethod yX1_nextCell ∈ BIG := bwi 931 (by decide +kernel) (by decide)
theorem se_X1_nextCell : Cond.selects RX1 yX1_nextCell yX1_nextCell ∈ BIG := bwi 932 (by decide +kernel) (by decide)
theorem cd_X1_nextCell : Cond.code yX1_nextCell cX1_nextCell 9 (some .int) ∈ BIG := bwi 933 (by decide +kernel) (by decide)
theorem ml_X1_39 : Cond.methodLink RX1 39 yX1_neighbour ∈ BIG := bwi 934 (by decide +kernel) (by decide)
theorem sm_X1_neighbour : Cond.static yX1_neighbour ∈ BIG := bwi 935 (by decide +kernel) (by decide)
theorem cd_X1_neighbour : Cond.code yX1_neighbour cX1_neighbour 3 (some .int) ∈ BIG := bwi 936 (by decide +kernel) (by decide)
theorem ml_X1_43 : Cond.methodLink RX1 43 yX1_isOpen ∈ BIG := bwi 937 (by decide +kernel) (by decide)
theorem im_X1_isOpen : Cond.instanceMethod yX1_isOpen ∈ BIG := bwi 938 (by decide +kernel) (by decide)
theorem se_X1_isOpen : Cond.selects RX1 yX1_isOpen yX1_isOpen ∈ BIG := bwi 939 (by decide +kernel) (by decide)
theorem cd_X1_isOpen : Cond.code yX1_isOpen cX1_isOpen 2 (some .boolean) ∈ BIG := bwi 940 (by decide +kernel) (by decide)
theorem ml_X1_47 : Cond.methodLink RX1 47 yX1_stepsBetween ∈ BIG := bwi 941 (by decide +kernel) (by decide)
theorem ml_X0_90 : Cond.methodLink RX0 90 yX5_askFor ∈ BIG := bwi 942 (by decide +kernel) (by decide)
theorem im_X5_askFor : Cond.instanceMethod yX5_askFor ∈ BIG := bwi 943 (by decide +kernel) (by decide)
theorem se_X5_askFor : Cond.selects RX5 yX5_askFor yX5_askFor ∈ BIG := bwi 944 (by decide +kernel) (by decide)
theorem cd_X5_askFor : Cond.code yX5_askFor cX5_askFor 3 none ∈ BIG := bwi 945 (by decide +kernel) (by decide)
theorem ml_X8_239 : Cond.methodLink RX8 239 yX0_settleRings ∈ BIG := bwi 946 (by decide +kernel) (by decide)
theorem im_X0_settleRings : Cond.instanceMethod yX0_settleRings ∈ BIG := bwi 947 (by decide +kernel) (by decide)
theorem se_X0_settleRings : Cond.selects RX0 yX0_settleRings yX0_settleRings ∈ BIG := bwi 948 (by decide +kernel) (by decide)
theorem cd_X0_settleRings : Cond.code yX0_settleRings cX0_settleRings 2 none ∈ BIG := bwi 949 (by decide +kernel) (by decide)
theorem ml_X0_107 : Cond.methodLink RX0 107 yX0_gatherRing ∈ BIG := bwi 950 (by decide +kernel) (by decide)
theorem im_X0_gatherRing : Cond.instanceMethod yX0_gatherRing ∈ BIG := bwi 952 (by decide +kernel) (by decide)
theorem cd_X0_gatherRing : Cond.code yX0_gatherRing cX0_gatherRing 4 none ∈ BIG := bwi 953 (by decide +kernel) (by decide)
theorem ml_X0_118 : Cond.methodLink RX0 118 yJx4a65c_clear_da8c8 ∈ BIG := bwi 954 (by decide +kernel) (by decide)
theorem im_Jx4a65c_clear_da8c8 : Cond.instanceMethod yJx4a65c_clear_da8c8 ∈ BIG := bwi 955 (by decide +kernel) (by decide)
theorem se_Jx4a65c_clear_da8c8 : Cond.selects RJx4a65c yJx4a65c_clear_da8c8 yJx4a65c_clear_da8c8 ∈ BIG := bwi 956 (by decide +kernel) (by decide)
theorem cd_Jx4a65c_clear_da8c8 : Cond.code yJx4a65c_clear_da8c8 cJx4a65c_clear_da8c8 4 none ∈ BIG := bwi 957 (by decide +kernel) (by decide)
theorem ml_X0_121 : Cond.methodLink RX0 121 yJx4a65c_add_9ea2d ∈ BIG := bwi 958 (by decide +kernel) (by decide)
theorem ml_X0_128 : Cond.methodLink RX0 128 yX0_robotAt ∈ BIG := bwi 959 (by decide +kernel) (by decide)
theorem ml_X0_111 : Cond.methodLink RX0 111 yX0_turnRing ∈ BIG := bwi 960 (by decide +kernel) (by decide)
theorem im_X0_turnRing : Cond.instanceMethod yX0_turnRing ∈ BIG := bwi 962 (by decide +kernel) (by decide)
theorem cd_X0_turnRing : Cond.code yX0_turnRing cX0_turnRing 3 none ∈ BIG := bwi 963 (by decide +kernel) (by decide)
theorem ml_X0_135 : Cond.methodLink RX0 135 yX0_moveRobot ∈ BIG := bwi 964 (by decide +kernel) (by decide)
theorem im_X0_moveRobot : Cond.instanceMethod yX0_moveRobot ∈ BIG := bwi 966 (by decide +kernel) (by decide)
theorem cd_X0_moveRobot : Cond.code yX0_moveRobot cX0_moveRobot 3 none ∈ BIG := bwi 967 (by decide +kernel) (by decide)
theorem ml_X0_82 : Cond.methodLink RX0 82 yX5_moveTo ∈ BIG := bwi 968 (by decide +kernel) (by decide)
theorem im_X5_moveTo : Cond.instanceMethod yX5_moveTo ∈ BIG := bwi 969 (by decide +kernel) (by decide)
theorem se_X5_moveTo : Cond.selects RX5 yX5_moveTo yX5_moveTo ∈ BIG := bwi 970 (by decide +kernel) (by decide)
theorem cd_X5_moveTo : Cond.code yX5_moveTo cX5_moveTo 2 none ∈ BIG := bwi 971 (by decide +kernel) (by decide)
theorem ml_X0_114 : Cond.methodLink RX0 114 yX0_breakRing ∈ BIG := bwi 972 (by decide +kernel) (by decide)
theorem im_X0_breakRing : Cond.instanceMethod yX0_breakRing ∈ BIG := bwi 974 (by decide +kernel) (by decide)
theorem cd_X0_breakRing : Cond.code yX0_breakRing cX0_breakRing 5 none ∈ BIG := bwi 975 (by decide +kernel) (by decide)
theorem ml_X0_139 : Cond.methodLink RX0 139 yX5_isAbove ∈ BIG := bwi 976 (by decide +kernel) (by decide)
theorem im_X5_isAbove : Cond.instanceMethod yX5_isAbove ∈ BIG := bwi 977 (by decide +kernel) (by decide)
theorem se_X5_isAbove : Cond.selects RX5 yX5_isAbove yX5_isAbove ∈ BIG := bwi 978 (by decide +kernel) (by decide)
theorem cd_X5_isAbove : Cond.code yX5_isAbove cX5_isAbove 2 (some .boolean) ∈ BIG := bwi 979 (by decide +kernel) (by decide)
theorem ml_X0_143 : Cond.methodLink RX0 143 yX0_canYieldTo ∈ BIG := bwi 980 (by decide +kernel) (by decide)
theorem im_X0_canYieldTo : Cond.instanceMethod yX0_canYieldTo ∈ BIG := bwi 982 (by decide +kernel) (by decide)
theorem cd_X0_canYieldTo : Cond.code yX0_canYieldTo cX0_canYieldTo 3 (some .boolean) ∈ BIG := bwi 983 (by decide +kernel) (by decide)
theorem ml_X0_147 : Cond.methodLink RX0 147 yX5_yieldTo ∈ BIG := bwi 984 (by decide +kernel) (by decide)
theorem im_X5_yieldTo : Cond.instanceMethod yX5_yieldTo ∈ BIG := bwi 985 (by decide +kernel) (by decide)
theorem se_X5_yieldTo : Cond.selects RX5 yX5_yieldTo yX5_yieldTo ∈ BIG := bwi 986 (by decide +kernel) (by decide)
theorem cd_X5_yieldTo : Cond.code yX5_yieldTo cX5_yieldTo 2 none ∈ BIG := bwi 987 (by decide +kernel) (by decide)
theorem ml_X8_242 : Cond.methodLink RX8 242 yX0_stepAside ∈ BIG := bwi 988 (by decide +kernel) (by decide)
theorem im_X0_stepAside : Cond.instanceMethod yX0_stepAside ∈ BIG := bwi 989 (by decide +kernel) (by decide)
theorem se_X0_stepAside : Cond.selects RX0 yX0_stepAside yX0_stepAside ∈ BIG := bwi 990 (by decide +kernel) (by decide)
theorem cd_X0_stepAside : Cond.code yX0_stepAside cX0_stepAside 4 none ∈ BIG := bwi 991 (by decide +kernel) (by decide)
theorem ml_X0_150 : Cond.methodLink RX0 150 yX0_isAskedFor ∈ BIG := bwi 992 (by decide +kernel) (by decide)
theorem im_X0_isAskedFor : Cond.instanceMethod yX0_isAskedFor ∈ BIG := bwi 994 (by decide +kernel) (by decide)
theorem cd_X0_isAskedFor : Cond.code yX0_isAskedFor cX0_isAskedFor 3 (some .boolean) ∈ BIG := bwi 995 (by decide +kernel) (by decide)
theorem ml_X0_154 : Cond.methodLink RX0 154 yX0_cellAside ∈ BIG := bwi 996 (by decide +kernel) (by decide)
theorem im_X0_cellAside : Cond.instanceMethod yX0_cellAside ∈ BIG := bwi 998 (by decide +kernel) (by decide)
theorem cd_X0_cellAside : Cond.code yX0_cellAside cX0_cellAside 4 (some .int) ∈ BIG := bwi 999 (by decide +kernel) (by decide)
theorem ml_X0_158 : Cond.methodLink RX0 158 yX1_neighbour ∈ BIG := bwi 1000 (by decide +kernel) (by decide)
theorem ml_X0_162 : Cond.methodLink RX0 162 yX1_isOpen ∈ BIG := bwi 1001 (by decide +kernel) (by decide)
theorem ml_X8_245 : Cond.methodLink RX8 245 yX0_moveOn ∈ BIG := bwi 1002 (by decide +kernel) (by decide)
theorem im_X0_moveOn : Cond.instanceMethod yX0_moveOn ∈ BIG := bwi 1003 (by decide +kernel) (by decide)
theorem se_X0_moveOn : Cond.selects RX0 yX0_moveOn yX0_moveOn ∈ BIG := bwi 1004 (by decide +kernel) (by decide)
theorem cd_X0_moveOn : Cond.code yX0_moveOn cX0_moveOn 3 none ∈ BIG := bwi 1005 (by decide +kernel) (by decide)
theorem ml_X0_165 : Cond.methodLink RX0 165 yX0_lineUpAskers ∈ BIG := bwi 1006 (by decide +kernel) (by decide)
theorem im_X0_lineUpAskers : Cond.instanceMethod yX0_lineUpAskers ∈ BIG := bwi 1008 (by decide +kernel) (by decide)
theorem cd_X0_lineUpAskers : Cond.code yX0_lineUpAskers cX0_lineUpAskers 3 none ∈ BIG := bwi 1009 (by decide +kernel) (by decide)
theorem ml_X0_168 : Cond.methodLink RX0 168 yX0_placeInQueue ∈ BIG := bwi 1010 (by decide +kernel) (by decide)
theorem im_X0_placeInQueue : Cond.instanceMethod yX0_placeInQueue ∈ BIG := bwi 1012 (by decide +kernel) (by decide)
theorem cd_X0_placeInQueue : Cond.code yX0_placeInQueue cX0_placeInQueue 3 (some .int) ∈ BIG := bwi 1013 (by decide +kernel) (by decide)
theorem ml_X0_174 : Cond.methodLink RX0 174 yX5_goesBefore ∈ BIG := bwi 1014 (by decide +kernel) (by decide)
theorem im_X5_goesBefore : Cond.instanceMethod yX5_goesBefore ∈ BIG := bwi 1015 (by decide +kernel) (by decide)
theorem se_X5_goesBefore : Cond.selects RX5 yX5_goesBefore yX5_goesBefore ∈ BIG := bwi 1016 (by decide +kernel) (by decide)
theorem cd_X5_goesBefore : Cond.code yX5_goesBefore cX5_goesBefore 2 (some .boolean) ∈ BIG := bwi 1017 (by decide +kernel) (by decide)
theorem ml_X5_41 : Cond.methodLink RX5 41 yX5_isAbove ∈ BIG := bwi 1018 (by decide +kernel) (by decide)
theorem ml_X0_171 : Cond.methodLink RX0 171 yJx4a65c_add_7a177 ∈ BIG := bwi 1019 (by decide +kernel) (by decide)
theorem im_Jx4a65c_add_7a177 : Cond.instanceMethod yJx4a65c_add_7a177 ∈ BIG := bwi 1020 (by decide +kernel) (by decide)
theorem se_Jx4a65c_add_7a177 : Cond.selects RJx4a65c yJx4a65c_add_7a177 yJx4a65c_add_7a177 ∈ BIG := bwi 1021 (by decide +kernel) (by decide)
theorem cd_Jx4a65c_add_7a177 : Cond.code yJx4a65c_add_7a177 cJx4a65c_add_7a177 5 none ∈ BIG := bwi 1022 (by decide +kernel) (by decide)
theorem ml_Jx4a65c_135 : Cond.methodLink RJx4a65c 135 yJx4a65c_rangeCheckForAdd_d00df ∈ BIG := bwi 1023 (by decide +kernel) (by decide)
theorem im_Jx4a65c_rangeCheckForAdd_d00df : Cond.instanceMethod yJx4a65c_rangeCheckForAdd_d00df ∈ BIG := bwi 1025 (by decide +kernel) (by decide)
theorem cd_Jx4a65c_rangeCheckForAdd_d00df : Cond.code yJx4a65c_rangeCheckForAdd_d00df cJx4a65c_rangeCheckForAdd_d00df 2 none ∈ BIG := bwi 1026 (by decide +kernel) (by decide)
theorem cl_Jx4a65c_187 : Cond.classLink RJx4a65c 187 "java/lang/IndexOutOfBoundsException" ∈ BIG := bwi 1027 (by decide +kernel) (by decide)
theorem ml_Jx4a65c_198 : Cond.methodLink RJx4a65c 198 yJx4a65c_outOfBoundsMsg_b52d3 ∈ BIG := bwi 1028 (by decide +kernel) (by decide)
theorem im_Jx4a65c_outOfBoundsMsg_b52d3 : Cond.instanceMethod yJx4a65c_outOfBoundsMsg_b52d3 ∈ BIG := bwi 1030 (by decide +kernel) (by decide)
theorem cd_Jx4a65c_outOfBoundsMsg_b52d3 : Cond.code yJx4a65c_outOfBoundsMsg_b52d3 cJx4a65c_outOfBoundsMsg_b52d3 2 (some (.object "java/lang/String")) ∈ BIG := bwi 1031 (by decide +kernel) (by decide)
theorem cl_Jx4a65c_20 : Cond.classLink RJx4a65c 20 "java/lang/StringBuilder" ∈ BIG := bwi 1032 (by decide +kernel) (by decide)
theorem ml_Jx4a65c_22 : Cond.methodLink RJx4a65c 22 ⟨"java/lang/StringBuilder", "<init>", "()V"⟩ ∈ BIG := bwi 1034 (by decide +kernel) (by decide)
theorem ml_Jx4a65c_25 : Cond.methodLink RJx4a65c 25 ⟨"java/lang/StringBuilder", "append", "(Ljava/lang/String;)Ljava/lang/StringBuilder;"⟩ ∈ BIG := bwi 1064 (by decide +kernel) (by decide)
theorem sm_J7_copyOf_9075b : Cond.static yJ7_copyOf_9075b ∈ BIG := bwi 1086 (by decide +kernel) (by decide)
theorem cd_J7_copyOf_9075b : Cond.code yJ7_copyOf_9075b cJ7_copyOf_9075b 3 (some (.array .byte)) ∈ BIG := bwi 1087 (by decide +kernel) (by decide)
theorem ml_J7_310 : Cond.methodLink RJ7 310 ⟨"[B", "clone", "()Ljava/lang/Object;"⟩ ∈ BIG := bwi 1088 (by decide +kernel) (by decide)
theorem cl_J7_311 : Cond.classLink RJ7 311 "[B" ∈ BIG := bwi 1094 (by decide +kernel) (by decide)
theorem sm_J3_checkFromToIndex_8c36e : Cond.static yJ3_checkFromToIndex_8c36e ∈ BIG := bwi 1115 (by decide +kernel) (by decide)
theorem cd_J3_checkFromToIndex_8c36e : Cond.code yJ3_checkFromToIndex_8c36e cJ3_checkFromToIndex_8c36e 4 (some .int) ∈ BIG := bwi 1116 (by decide +kernel) (by decide)
theorem sm_J3_checkFromIndexSize_8c36e : Cond.static yJ3_checkFromIndexSize_8c36e ∈ BIG := bwi 1161 (by decide +kernel) (by decide)
theorem cd_J3_checkFromIndexSize_8c36e : Cond.code yJ3_checkFromIndexSize_8c36e cJ3_checkFromIndexSize_8c36e 4 (some .int) ∈ BIG := bwi 1162 (by decide +kernel) (by decide)
theorem ml_Jx4a65c_29 : Cond.methodLink RJx4a65c 29 ⟨"java/lang/StringBuilder", "append", "(I)Ljava/lang/StringBuilder;"⟩ ∈ BIG := bwi 1169 (by decide +kernel) (by decide)
theorem ml_Jx4a65c_32 : Cond.methodLink RJx4a65c 32 ⟨"java/lang/StringBuilder", "toString", "()Ljava/lang/String;"⟩ ∈ BIG := bwi 1195 (by decide +kernel) (by decide)
theorem sm_J7_copyOfRange_39247 : Cond.static yJ7_copyOfRange_39247 ∈ BIG := bwi 1223 (by decide +kernel) (by decide)
theorem cd_J7_copyOfRange_39247 : Cond.code yJ7_copyOfRange_39247 cJ7_copyOfRange_39247 3 (some (.array .byte)) ∈ BIG := bwi 1224 (by decide +kernel) (by decide)
theorem ml_J7_339 : Cond.methodLink RJ7 339 yJ7_copyOfRangeByte_39247 ∈ BIG := bwi 1225 (by decide +kernel) (by decide)
theorem sm_J7_copyOfRangeByte_39247 : Cond.static yJ7_copyOfRangeByte_39247 ∈ BIG := bwi 1226 (by decide +kernel) (by decide)
theorem cd_J7_copyOfRangeByte_39247 : Cond.code yJ7_copyOfRangeByte_39247 cJ7_copyOfRangeByte_39247 5 (some (.array .byte)) ∈ BIG := bwi 1227 (by decide +kernel) (by decide)
theorem ml_J7_343 : Cond.methodLink RJ7 343 yJ7_checkLength_df160 ∈ BIG := bwi 1228 (by decide +kernel) (by decide)
theorem sm_J7_checkLength_df160 : Cond.static yJ7_checkLength_df160 ∈ BIG := bwi 1229 (by decide +kernel) (by decide)
theorem cd_J7_checkLength_df160 : Cond.code yJ7_checkLength_df160 cJ7_checkLength_df160 2 none ∈ BIG := bwi 1230 (by decide +kernel) (by decide)
theorem cl_J7_43 : Cond.classLink RJ7 43 "java/lang/IllegalArgumentException" ∈ BIG := bwi 1231 (by decide +kernel) (by decide)
theorem cl_J7_45 : Cond.classLink RJ7 45 "java/lang/StringBuilder" ∈ BIG := bwi 1232 (by decide +kernel) (by decide)
theorem ml_J7_47 : Cond.methodLink RJ7 47 ⟨"java/lang/StringBuilder", "<init>", "()V"⟩ ∈ BIG := bwi 1233 (by decide +kernel) (by decide)
theorem ml_J7_54 : Cond.methodLink RJ7 54 ⟨"java/lang/StringBuilder", "append", "(I)Ljava/lang/StringBuilder;"⟩ ∈ BIG := bwi 1234 (by decide +kernel) (by decide)
theorem ml_J7_50 : Cond.methodLink RJ7 50 ⟨"java/lang/StringBuilder", "append", "(Ljava/lang/String;)Ljava/lang/StringBuilder;"⟩ ∈ BIG := bwi 1236 (by decide +kernel) (by decide)
theorem ml_J7_61 : Cond.methodLink RJ7 61 ⟨"java/lang/StringBuilder", "toString", "()Ljava/lang/String;"⟩ ∈ BIG := bwi 1237 (by decide +kernel) (by decide)
theorem ml_J7_65 : Cond.methodLink RJ7 65 ⟨"java/lang/IllegalArgumentException", "<init>", "(Ljava/lang/String;)V"⟩ ∈ BIG := bwi 1238 (by decide +kernel) (by decide)
theorem ml_Jx4a65c_193 : Cond.methodLink RJx4a65c 193 ⟨"java/lang/IndexOutOfBoundsException", "<init>", "(Ljava/lang/String;)V"⟩ ∈ BIG := bwi 1263 (by decide +kernel) (by decide)
theorem ml_X8_248 : Cond.methodLink RX8 248 yX0_arrive ∈ BIG := bwi 1264 (by decide +kernel) (by decide)
theorem im_X0_arrive : Cond.instanceMethod yX0_arrive ∈ BIG := bwi 1265 (by decide +kernel) (by decide)
theorem se_X0_arrive : Cond.selects RX0 yX0_arrive yX0_arrive ∈ BIG := bwi 1266 (by decide +kernel) (by decide)
theorem cd_X0_arrive : Cond.code yX0_arrive cX0_arrive 3 none ∈ BIG := bwi 1267 (by decide +kernel) (by decide)
theorem ml_X0_177 : Cond.methodLink RX0 177 yX5_reachGoal ∈ BIG := bwi 1268 (by decide +kernel) (by decide)
theorem im_X5_reachGoal : Cond.instanceMethod yX5_reachGoal ∈ BIG := bwi 1269 (by decide +kernel) (by decide)
theorem se_X5_reachGoal : Cond.selects RX5 yX5_reachGoal yX5_reachGoal ∈ BIG := bwi 1270 (by decide +kernel) (by decide)
theorem cd_X5_reachGoal : Cond.code yX5_reachGoal cX5_reachGoal 1 none ∈ BIG := bwi 1271 (by decide +kernel) (by decide)
theorem ml_L_209 : Cond.methodLink RL 209 yL_stock ∈ BIG := bwi 1272 (by decide +kernel) (by decide)
theorem sm_L_stock : Cond.static yL_stock ∈ BIG := bwi 1273 (by decide +kernel) (by decide)
theorem cw_L_stock : Cond.codeWith yL_stock cL_stock 4 (some .int) [(0, 9, 12, 13)] ∈ BIG := bwi 1274 (by decide +kernel) (by decide)
theorem ml_L_90 : Cond.methodLink RL 90 yX8_stock ∈ BIG := bwi 1275 (by decide +kernel) (by decide)
theorem im_X8_stock : Cond.instanceMethod yX8_stock ∈ BIG := bwi 1276 (by decide +kernel) (by decide)
theorem se_X8_stock : Cond.selects RX8 yX8_stock yX8_stock ∈ BIG := bwi 1277 (by decide +kernel) (by decide)
theorem cd_X8_stock : Cond.code yX8_stock cX8_stock 5 (some .int) ∈ BIG := bwi 1278 (by decide +kernel) (by decide)
theorem ml_L_212 : Cond.methodLink RL 212 yL_stockByPicks ∈ BIG := bwi 1279 (by decide +kernel) (by decide)
theorem sm_L_stockByPicks : Cond.static yL_stockByPicks ∈ BIG := bwi 1280 (by decide +kernel) (by decide)
theorem cw_L_stockByPicks : Cond.codeWith yL_stockByPicks cL_stockByPicks 4 (some .int) [(0, 9, 12, 13)] ∈ BIG := bwi 1281 (by decide +kernel) (by decide)
theorem ml_L_93 : Cond.methodLink RL 93 yX8_stockByPicks ∈ BIG := bwi 1282 (by decide +kernel) (by decide)
theorem im_X8_stockByPicks : Cond.instanceMethod yX8_stockByPicks ∈ BIG := bwi 1283 (by decide +kernel) (by decide)
theorem se_X8_stockByPicks : Cond.selects RX8 yX8_stockByPicks yX8_stockByPicks ∈ BIG := bwi 1284 (by decide +kernel) (by decide)
theorem cd_X8_stockByPicks : Cond.code yX8_stockByPicks cX8_stockByPicks 5 (some .int) ∈ BIG := bwi 1285 (by decide +kernel) (by decide)
theorem ml_L_219 : Cond.methodLink RL 219 yL_pickedFrom ∈ BIG := bwi 1286 (by decide +kernel) (by decide)
theorem sm_L_pickedFrom : Cond.static yL_pickedFrom ∈ BIG := bwi 1287 (by decide +kernel) (by decide)
theorem cw_L_pickedFrom : Cond.codeWith yL_pickedFrom cL_pickedFrom 4 (some .int) [(0, 9, 12, 36)] ∈ BIG := bwi 1288 (by decide +kernel) (by decide)
theorem ml_L_96 : Cond.methodLink RL 96 yX8_pickedFrom ∈ BIG := bwi 1289 (by decide +kernel) (by decide)
theorem im_X8_pickedFrom : Cond.instanceMethod yX8_pickedFrom ∈ BIG := bwi 1290 (by decide +kernel) (by decide)
theorem se_X8_pickedFrom : Cond.selects RX8 yX8_pickedFrom yX8_pickedFrom ∈ BIG := bwi 1291 (by decide +kernel) (by decide)
theorem cd_X8_pickedFrom : Cond.code yX8_pickedFrom cX8_pickedFrom 2 (some .int) ∈ BIG := bwi 1292 (by decide +kernel) (by decide)
theorem ml_X8_276 : Cond.methodLink RX8 276 yX8_findPick ∈ BIG := bwi 1293 (by decide +kernel) (by decide)
theorem im_X8_findPick : Cond.instanceMethod yX8_findPick ∈ BIG := bwi 1295 (by decide +kernel) (by decide)
theorem cd_X8_findPick : Cond.code yX8_findPick cX8_findPick 2 (some (.object "ShelfSwarm$Pick")) ∈ BIG := bwi 1296 (by decide +kernel) (by decide)
theorem ml_L_222 : Cond.methodLink RL 222 yL_pickedFor ∈ BIG := bwi 1297 (by decide +kernel) (by decide)
theorem sm_L_pickedFor : Cond.static yL_pickedFor ∈ BIG := bwi 1298 (by decide +kernel) (by decide)
theorem cw_L_pickedFor : Cond.codeWith yL_pickedFor cL_pickedFor 4 (some .int) [(0, 9, 12, 36)] ∈ BIG := bwi 1299 (by decide +kernel) (by decide)
theorem ml_L_99 : Cond.methodLink RL 99 yX8_pickedFor ∈ BIG := bwi 1300 (by decide +kernel) (by decide)
theorem im_X8_pickedFor : Cond.instanceMethod yX8_pickedFor ∈ BIG := bwi 1301 (by decide +kernel) (by decide)
theorem se_X8_pickedFor : Cond.selects RX8 yX8_pickedFor yX8_pickedFor ∈ BIG := bwi 1302 (by decide +kernel) (by decide)
theorem cd_X8_pickedFor : Cond.code yX8_pickedFor cX8_pickedFor 2 (some .int) ∈ BIG := bwi 1303 (by decide +kernel) (by decide)
theorem ml_L_225 : Cond.methodLink RL 225 yL_pickedIn ∈ BIG := bwi 1304 (by decide +kernel) (by decide)
theorem sm_L_pickedIn : Cond.static yL_pickedIn ∈ BIG := bwi 1305 (by decide +kernel) (by decide)
theorem cw_L_pickedIn : Cond.codeWith yL_pickedIn cL_pickedIn 4 (some .int) [(0, 9, 12, 36)] ∈ BIG := bwi 1306 (by decide +kernel) (by decide)
theorem ml_L_102 : Cond.methodLink RL 102 yX8_pickedIn ∈ BIG := bwi 1307 (by decide +kernel) (by decide)
theorem im_X8_pickedIn : Cond.instanceMethod yX8_pickedIn ∈ BIG := bwi 1308 (by decide +kernel) (by decide)
theorem se_X8_pickedIn : Cond.selects RX8 yX8_pickedIn yX8_pickedIn ∈ BIG := bwi 1309 (by decide +kernel) (by decide)
theorem cd_X8_pickedIn : Cond.code yX8_pickedIn cX8_pickedIn 2 (some .int) ∈ BIG := bwi 1310 (by decide +kernel) (by decide)
theorem cl_L_106 : Cond.classLink RL 106 RX9 ∈ BIG := bwi 1311 (by decide +kernel) (by decide)
theorem is_X9 : Cond.instantiable RX9 40 ∈ BIG := bwi 1312 (by decide +kernel) (by decide)
theorem ml_L_108 : Cond.methodLink RL 108 yX9_init ∈ BIG := bwi 1313 (by decide +kernel) (by decide)
theorem im_X9_init : Cond.instanceMethod yX9_init ∈ BIG := bwi 1314 (by decide +kernel) (by decide)
theorem cd_X9_init : Cond.code yX9_init cX9_init 1 none ∈ BIG := bwi 1315 (by decide +kernel) (by decide)
theorem ml_X9_1 : Cond.methodLink RX9 1 objectInit ∈ BIG := bwi 1316 (by decide +kernel) (by decide)
theorem fl_X9_95 : Cond.fieldLink RX9 95 "ShelfSwarmModel" "thrown" "I" ∈ BIG := bwi 1317 (by decide +kernel) (by decide)
theorem fl_X9_171 : Cond.fieldLink RX9 171 "ShelfSwarmModel" "time" "I" ∈ BIG := bwi 1318 (by decide +kernel) (by decide)
theorem fl_X9_7 : Cond.fieldLink RX9 7 "ShelfSwarmModel" "isWall" "[Z" ∈ BIG := bwi 1319 (by decide +kernel) (by decide)
theorem fl_X9_13 : Cond.fieldLink RX9 13 "ShelfSwarmModel" "isClosed" "[Z" ∈ BIG := bwi 1320 (by decide +kernel) (by decide)
theorem fl_X9_106 : Cond.fieldLink RX9 106 "ShelfSwarmModel" "stations" "I" ∈ BIG := bwi 1321 (by decide +kernel) (by decide)
theorem fl_X9_16 : Cond.fieldLink RX9 16 "ShelfSwarmModel" "stationCells" "[I" ∈ BIG := bwi 1322 (by decide +kernel) (by decide)
theorem fl_X9_109 : Cond.fieldLink RX9 109 "ShelfSwarmModel" "trays" "I" ∈ BIG := bwi 1323 (by decide +kernel) (by decide)
theorem fl_X9_20 : Cond.fieldLink RX9 20 "ShelfSwarmModel" "homes" "[I" ∈ BIG := bwi 1324 (by decide +kernel) (by decide)
theorem fl_X9_23 : Cond.fieldLink RX9 23 "ShelfSwarmModel" "goods" "[I" ∈ BIG := bwi 1325 (by decide +kernel) (by decide)
theorem fl_X9_26 : Cond.fieldLink RX9 26 "ShelfSwarmModel" "amounts" "[I" ∈ BIG := bwi 1326 (by decide +kernel) (by decide)
theorem fl_X9_153 : Cond.fieldLink RX9 153 "ShelfSwarmModel" "orders" "I" ∈ BIG := bwi 1327 (by decide +kernel) (by decide)
theorem fl_X9_29 : Cond.fieldLink RX9 29 "ShelfSwarmModel" "lines" "[I" ∈ BIG := bwi 1328 (by decide +kernel) (by decide)
theorem fl_X9_32 : Cond.fieldLink RX9 32 "ShelfSwarmModel" "lineGoods" "[I" ∈ BIG := bwi 1329 (by decide +kernel) (by decide)
theorem fl_X9_35 : Cond.fieldLink RX9 35 "ShelfSwarmModel" "lefts" "[I" ∈ BIG := bwi 1330 (by decide +kernel) (by decide)
theorem fl_X9_38 : Cond.fieldLink RX9 38 "ShelfSwarmModel" "claimants" "[I" ∈ BIG := bwi 1331 (by decide +kernel) (by decide)
theorem fl_X9_41 : Cond.fieldLink RX9 41 "ShelfSwarmModel" "claimedAt" "[I" ∈ BIG := bwi 1332 (by decide +kernel) (by decide)
theorem fl_X9_159 : Cond.fieldLink RX9 159 "ShelfSwarmModel" "claims" "I" ∈ BIG := bwi 1333 (by decide +kernel) (by decide)
theorem fl_X9_103 : Cond.fieldLink RX9 103 "ShelfSwarmModel" "robots" "I" ∈ BIG := bwi 1334 (by decide +kernel) (by decide)
theorem fl_X9_44 : Cond.fieldLink RX9 44 "ShelfSwarmModel" "cells" "[I" ∈ BIG := bwi 1335 (by decide +kernel) (by decide)
theorem fl_X9_47 : Cond.fieldLink RX9 47 "ShelfSwarmModel" "ranks" "[I" ∈ BIG := bwi 1336 (by decide +kernel) (by decide)
theorem fl_X9_50 : Cond.fieldLink RX9 50 "ShelfSwarmModel" "states" "[I" ∈ BIG := bwi 1337 (by decide +kernel) (by decide)
theorem fl_X9_53 : Cond.fieldLink RX9 53 "ShelfSwarmModel" "loads" "[I" ∈ BIG := bwi 1338 (by decide +kernel) (by decide)
theorem fl_X9_56 : Cond.fieldLink RX9 56 "ShelfSwarmModel" "worksFor" "[I" ∈ BIG := bwi 1339 (by decide +kernel) (by decide)
theorem fl_X9_59 : Cond.fieldLink RX9 59 "ShelfSwarmModel" "avoids" "[I" ∈ BIG := bwi 1340 (by decide +kernel) (by decide)
theorem fl_X9_62 : Cond.fieldLink RX9 62 "ShelfSwarmModel" "asks" "[I" ∈ BIG := bwi 1341 (by decide +kernel) (by decide)
theorem fl_X9_65 : Cond.fieldLink RX9 65 "ShelfSwarmModel" "sinces" "[I" ∈ BIG := bwi 1342 (by decide +kernel) (by decide)
theorem fl_X9_68 : Cond.fieldLink RX9 68 "ShelfSwarmModel" "isDone" "[Z" ∈ BIG := bwi 1343 (by decide +kernel) (by decide)
theorem fl_X9_71 : Cond.fieldLink RX9 71 "ShelfSwarmModel" "nextCells" "[I" ∈ BIG := bwi 1344 (by decide +kernel) (by decide)
theorem fl_X9_189 : Cond.fieldLink RX9 189 "ShelfSwarmModel" "steps" "I" ∈ BIG := bwi 1345 (by decide +kernel) (by decide)
theorem fl_X9_201 : Cond.fieldLink RX9 201 "ShelfSwarmModel" "rings" "I" ∈ BIG := bwi 1346 (by decide +kernel) (by decide)
theorem fl_X9_195 : Cond.fieldLink RX9 195 "ShelfSwarmModel" "yields" "I" ∈ BIG := bwi 1347 (by decide +kernel) (by decide)
theorem fl_X9_217 : Cond.fieldLink RX9 217 "ShelfSwarmModel" "knots" "I" ∈ BIG := bwi 1348 (by decide +kernel) (by decide)
theorem fl_X9_74 : Cond.fieldLink RX9 74 "ShelfSwarmModel" "came" "[I" ∈ BIG := bwi 1349 (by decide +kernel) (by decide)
theorem fl_X9_77 : Cond.fieldLink RX9 77 "ShelfSwarmModel" "gone" "[I" ∈ BIG := bwi 1350 (by decide +kernel) (by decide)
theorem fl_X9_168 : Cond.fieldLink RX9 168 "ShelfSwarmModel" "picks" "I" ∈ BIG := bwi 1351 (by decide +kernel) (by decide)
theorem fl_X9_80 : Cond.fieldLink RX9 80 "ShelfSwarmModel" "pickTrays" "[I" ∈ BIG := bwi 1352 (by decide +kernel) (by decide)
theorem fl_X9_83 : Cond.fieldLink RX9 83 "ShelfSwarmModel" "pickOrders" "[I" ∈ BIG := bwi 1353 (by decide +kernel) (by decide)
theorem fl_X9_86 : Cond.fieldLink RX9 86 "ShelfSwarmModel" "pickTicks" "[I" ∈ BIG := bwi 1354 (by decide +kernel) (by decide)
theorem fl_X9_89 : Cond.fieldLink RX9 89 "ShelfSwarmModel" "far" "[I" ∈ BIG := bwi 1355 (by decide +kernel) (by decide)
theorem fl_X9_92 : Cond.fieldLink RX9 92 "ShelfSwarmModel" "found" "[I" ∈ BIG := bwi 1356 (by decide +kernel) (by decide)
theorem ml_L_115 : Cond.methodLink RL 115 yX9_thrown ∈ BIG := bwi 1440 (by decide +kernel) (by decide)
theorem im_X9_thrown : Cond.instanceMethod yX9_thrown ∈ BIG := bwi 1441 (by decide +kernel) (by decide)
theorem se_X9_thrown : Cond.selects RX9 yX9_thrown yX9_thrown ∈ BIG := bwi 1442 (by decide +kernel) (by decide)
theorem cd_X9_thrown : Cond.code yX9_thrown cX9_thrown 1 (some .int) ∈ BIG := bwi 1443 (by decide +kernel) (by decide)
theorem ml_L_114 : Cond.methodLink RL 114 yX9_wall ∈ BIG := bwi 1444 (by decide +kernel) (by decide)
theorem im_X9_wall : Cond.instanceMethod yX9_wall ∈ BIG := bwi 1445 (by decide +kernel) (by decide)
theorem se_X9_wall : Cond.selects RX9 yX9_wall yX9_wall ∈ BIG := bwi 1446 (by decide +kernel) (by decide)
theorem cd_X9_wall : Cond.code yX9_wall cX9_wall 4 none ∈ BIG := bwi 1447 (by decide +kernel) (by decide)
theorem ml_X9_131 : Cond.methodLink RX9 131 yX9_isCell ∈ BIG := bwi 1448 (by decide +kernel) (by decide)
theorem sm_X9_isCell : Cond.static yX9_isCell ∈ BIG := bwi 1449 (by decide +kernel) (by decide)
theorem cd_X9_isCell : Cond.code yX9_isCell cX9_isCell 1 (some .boolean) ∈ BIG := bwi 1450 (by decide +kernel) (by decide)
theorem ml_X9_99 : Cond.methodLink RX9 99 yX9_isIn ∈ BIG := bwi 1451 (by decide +kernel) (by decide)
theorem sm_X9_isIn : Cond.static yX9_isIn ∈ BIG := bwi 1452 (by decide +kernel) (by decide)
theorem cd_X9_isIn : Cond.code yX9_isIn cX9_isIn 2 (some .boolean) ∈ BIG := bwi 1453 (by decide +kernel) (by decide)
theorem ml_X9_134 : Cond.methodLink RX9 134 yX9_homeOf ∈ BIG := bwi 1454 (by decide +kernel) (by decide)
theorem im_X9_homeOf : Cond.instanceMethod yX9_homeOf ∈ BIG := bwi 1456 (by decide +kernel) (by decide)
theorem cd_X9_homeOf : Cond.code yX9_homeOf cX9_homeOf 4 (some .int) ∈ BIG := bwi 1457 (by decide +kernel) (by decide)
theorem ml_X9_137 : Cond.methodLink RX9 137 yX9_stationAt ∈ BIG := bwi 1458 (by decide +kernel) (by decide)
theorem im_X9_stationAt : Cond.instanceMethod yX9_stationAt ∈ BIG := bwi 1460 (by decide +kernel) (by decide)
theorem cd_X9_stationAt : Cond.code yX9_stationAt cX9_stationAt 4 (some .int) ∈ BIG := bwi 1461 (by decide +kernel) (by decide)
theorem ml_X9_112 : Cond.methodLink RX9 112 yX9_robotAt ∈ BIG := bwi 1462 (by decide +kernel) (by decide)
theorem im_X9_robotAt : Cond.instanceMethod yX9_robotAt ∈ BIG := bwi 1464 (by decide +kernel) (by decide)
theorem cd_X9_robotAt : Cond.code yX9_robotAt cX9_robotAt 4 (some .int) ∈ BIG := bwi 1465 (by decide +kernel) (by decide)
theorem ml_X9_140 : Cond.methodLink RX9 140 yX9_holds ∈ BIG := bwi 1466 (by decide +kernel) (by decide)
theorem im_X9_holds : Cond.instanceMethod yX9_holds ∈ BIG := bwi 1468 (by decide +kernel) (by decide)
theorem cd_X9_holds : Cond.code yX9_holds cX9_holds 2 (some .boolean) ∈ BIG := bwi 1469 (by decide +kernel) (by decide)
theorem ml_L_121 : Cond.methodLink RL 121 yX9_setClosed ∈ BIG := bwi 1470 (by decide +kernel) (by decide)
theorem im_X9_setClosed : Cond.instanceMethod yX9_setClosed ∈ BIG := bwi 1471 (by decide +kernel) (by decide)
theorem se_X9_setClosed : Cond.selects RX9 yX9_setClosed yX9_setClosed ∈ BIG := bwi 1472 (by decide +kernel) (by decide)
theorem cd_X9_setClosed : Cond.code yX9_setClosed cX9_setClosed 4 (some .boolean) ∈ BIG := bwi 1473 (by decide +kernel) (by decide)
theorem ml_L_125 : Cond.methodLink RL 125 yX9_distance ∈ BIG := bwi 1474 (by decide +kernel) (by decide)
theorem im_X9_distance : Cond.instanceMethod yX9_distance ∈ BIG := bwi 1475 (by decide +kernel) (by decide)
theorem se_X9_distance : Cond.selects RX9 yX9_distance yX9_distance ∈ BIG := bwi 1476 (by decide +kernel) (by decide)
theorem cd_X9_distance : Cond.code yX9_distance cX9_distance 3 (some .int) ∈ BIG := bwi 1477 (by decide +kernel) (by decide)
theorem ml_X9_143 : Cond.methodLink RX9 143 yX9_distanceOf ∈ BIG := bwi 1478 (by decide +kernel) (by decide)
theorem im_X9_distanceOf : Cond.instanceMethod yX9_distanceOf ∈ BIG := bwi 1480 (by decide +kernel) (by decide)
theorem cd_X9_distanceOf : Cond.code yX9_distanceOf cX9_distanceOf 4 (some .int) ∈ BIG := bwi 1481 (by decide +kernel) (by decide)
theorem ml_X9_124 : Cond.methodLink RX9 124 yX9_lays ∈ BIG := bwi 1482 (by decide +kernel) (by decide)
theorem im_X9_lays : Cond.instanceMethod yX9_lays ∈ BIG := bwi 1484 (by decide +kernel) (by decide)
theorem cd_X9_lays : Cond.code yX9_lays cX9_lays 7 none ∈ BIG := bwi 1485 (by decide +kernel) (by decide)
theorem ml_X9_116 : Cond.methodLink RX9 116 yX9_isOpen ∈ BIG := bwi 1486 (by decide +kernel) (by decide)
theorem im_X9_isOpen : Cond.instanceMethod yX9_isOpen ∈ BIG := bwi 1488 (by decide +kernel) (by decide)
theorem cd_X9_isOpen : Cond.code yX9_isOpen cX9_isOpen 3 (some .boolean) ∈ BIG := bwi 1489 (by decide +kernel) (by decide)
theorem ml_X9_120 : Cond.methodLink RX9 120 yX9_neighbour ∈ BIG := bwi 1490 (by decide +kernel) (by decide)
theorem sm_X9_neighbour : Cond.static yX9_neighbour ∈ BIG := bwi 1491 (by decide +kernel) (by decide)
theorem cd_X9_neighbour : Cond.code yX9_neighbour cX9_neighbour 4 (some .int) ∈ BIG := bwi 1492 (by decide +kernel) (by decide)
theorem ml_X9_128 : Cond.methodLink RX9 128 yX9_nearest ∈ BIG := bwi 1493 (by decide +kernel) (by decide)
theorem im_X9_nearest : Cond.instanceMethod yX9_nearest ∈ BIG := bwi 1495 (by decide +kernel) (by decide)
theorem cd_X9_nearest : Cond.code yX9_nearest cX9_nearest 6 (some .int) ∈ BIG := bwi 1496 (by decide +kernel) (by decide)
theorem ml_L_129 : Cond.methodLink RL 129 yX9_addStation ∈ BIG := bwi 1497 (by decide +kernel) (by decide)
theorem im_X9_addStation : Cond.instanceMethod yX9_addStation ∈ BIG := bwi 1498 (by decide +kernel) (by decide)
theorem se_X9_addStation : Cond.selects RX9 yX9_addStation yX9_addStation ∈ BIG := bwi 1499 (by decide +kernel) (by decide)
theorem cd_X9_addStation : Cond.code yX9_addStation cX9_addStation 3 (some .int) ∈ BIG := bwi 1500 (by decide +kernel) (by decide)
theorem ml_L_133 : Cond.methodLink RL 133 yX9_addTray ∈ BIG := bwi 1501 (by decide +kernel) (by decide)
theorem im_X9_addTray : Cond.instanceMethod yX9_addTray ∈ BIG := bwi 1502 (by decide +kernel) (by decide)
theorem se_X9_addTray : Cond.selects RX9 yX9_addTray yX9_addTray ∈ BIG := bwi 1503 (by decide +kernel) (by decide)
theorem cd_X9_addTray : Cond.code yX9_addTray cX9_addTray 5 (some .int) ∈ BIG := bwi 1504 (by decide +kernel) (by decide)
theorem ml_L_136 : Cond.methodLink RL 136 yX9_fill ∈ BIG := bwi 1505 (by decide +kernel) (by decide)
theorem im_X9_fill : Cond.instanceMethod yX9_fill ∈ BIG := bwi 1506 (by decide +kernel) (by decide)
theorem se_X9_fill : Cond.selects RX9 yX9_fill yX9_fill ∈ BIG := bwi 1507 (by decide +kernel) (by decide)
theorem cd_X9_fill : Cond.code yX9_fill cX9_fill 4 (some .int) ∈ BIG := bwi 1508 (by decide +kernel) (by decide)
theorem ml_X9_146 : Cond.methodLink RX9 146 yX9_isTray ∈ BIG := bwi 1509 (by decide +kernel) (by decide)
theorem im_X9_isTray : Cond.instanceMethod yX9_isTray ∈ BIG := bwi 1511 (by decide +kernel) (by decide)
theorem cd_X9_isTray : Cond.code yX9_isTray cX9_isTray 2 (some .boolean) ∈ BIG := bwi 1512 (by decide +kernel) (by decide)
theorem ml_X9_149 : Cond.methodLink RX9 149 yX9_robotWith ∈ BIG := bwi 1513 (by decide +kernel) (by decide)
theorem im_X9_robotWith : Cond.instanceMethod yX9_robotWith ∈ BIG := bwi 1515 (by decide +kernel) (by decide)
theorem cd_X9_robotWith : Cond.code yX9_robotWith cX9_robotWith 5 (some .int) ∈ BIG := bwi 1516 (by decide +kernel) (by decide)
theorem ml_L_140 : Cond.methodLink RL 140 yX9_addOrder ∈ BIG := bwi 1517 (by decide +kernel) (by decide)
theorem im_X9_addOrder : Cond.instanceMethod yX9_addOrder ∈ BIG := bwi 1518 (by decide +kernel) (by decide)
theorem se_X9_addOrder : Cond.selects RX9 yX9_addOrder yX9_addOrder ∈ BIG := bwi 1519 (by decide +kernel) (by decide)
theorem cd_X9_addOrder : Cond.code yX9_addOrder cX9_addOrder 1 (some .int) ∈ BIG := bwi 1520 (by decide +kernel) (by decide)
theorem ml_L_143 : Cond.methodLink RL 143 yX9_addLine ∈ BIG := bwi 1521 (by decide +kernel) (by decide)
theorem im_X9_addLine : Cond.instanceMethod yX9_addLine ∈ BIG := bwi 1522 (by decide +kernel) (by decide)
theorem se_X9_addLine : Cond.selects RX9 yX9_addLine yX9_addLine ∈ BIG := bwi 1523 (by decide +kernel) (by decide)
theorem cd_X9_addLine : Cond.code yX9_addLine cX9_addLine 6 (some .int) ∈ BIG := bwi 1524 (by decide +kernel) (by decide)
theorem ml_L_146 : Cond.methodLink RL 146 yX9_claim ∈ BIG := bwi 1525 (by decide +kernel) (by decide)
theorem im_X9_claim : Cond.instanceMethod yX9_claim ∈ BIG := bwi 1526 (by decide +kernel) (by decide)
theorem se_X9_claim : Cond.selects RX9 yX9_claim yX9_claim ∈ BIG := bwi 1527 (by decide +kernel) (by decide)
theorem cd_X9_claim : Cond.code yX9_claim cX9_claim 7 (some .int) ∈ BIG := bwi 1528 (by decide +kernel) (by decide)
theorem ml_X9_156 : Cond.methodLink RX9 156 yX9_isLine ∈ BIG := bwi 1529 (by decide +kernel) (by decide)
theorem im_X9_isLine : Cond.instanceMethod yX9_isLine ∈ BIG := bwi 1531 (by decide +kernel) (by decide)
theorem cd_X9_isLine : Cond.code yX9_isLine cX9_isLine 3 (some .boolean) ∈ BIG := bwi 1532 (by decide +kernel) (by decide)
theorem ml_L_149 : Cond.methodLink RL 149 yX9_giveUp ∈ BIG := bwi 1533 (by decide +kernel) (by decide)
theorem im_X9_giveUp : Cond.instanceMethod yX9_giveUp ∈ BIG := bwi 1534 (by decide +kernel) (by decide)
theorem se_X9_giveUp : Cond.selects RX9 yX9_giveUp yX9_giveUp ∈ BIG := bwi 1535 (by decide +kernel) (by decide)
theorem cd_X9_giveUp : Cond.code yX9_giveUp cX9_giveUp 7 (some .int) ∈ BIG := bwi 1536 (by decide +kernel) (by decide)
theorem ml_X9_162 : Cond.methodLink RX9 162 yX9_becomes ∈ BIG := bwi 1537 (by decide +kernel) (by decide)
theorem im_X9_becomes : Cond.instanceMethod yX9_becomes ∈ BIG := bwi 1539 (by decide +kernel) (by decide)
theorem cd_X9_becomes : Cond.code yX9_becomes cX9_becomes 3 none ∈ BIG := bwi 1540 (by decide +kernel) (by decide)
theorem ml_L_152 : Cond.methodLink RL 152 yX9_left ∈ BIG := bwi 1541 (by decide +kernel) (by decide)
theorem im_X9_left : Cond.instanceMethod yX9_left ∈ BIG := bwi 1542 (by decide +kernel) (by decide)
theorem se_X9_left : Cond.selects RX9 yX9_left yX9_left ∈ BIG := bwi 1543 (by decide +kernel) (by decide)
theorem cd_X9_left : Cond.code yX9_left cX9_left 3 (some .int) ∈ BIG := bwi 1544 (by decide +kernel) (by decide)
theorem ml_L_155 : Cond.methodLink RL 155 yX9_claimant ∈ BIG := bwi 1545 (by decide +kernel) (by decide)
theorem im_X9_claimant : Cond.instanceMethod yX9_claimant ∈ BIG := bwi 1546 (by decide +kernel) (by decide)
theorem se_X9_claimant : Cond.selects RX9 yX9_claimant yX9_claimant ∈ BIG := bwi 1547 (by decide +kernel) (by decide)
theorem cd_X9_claimant : Cond.code yX9_claimant cX9_claimant 3 (some .int) ∈ BIG := bwi 1548 (by decide +kernel) (by decide)
theorem ml_L_158 : Cond.methodLink RL 158 yX9_amount ∈ BIG := bwi 1549 (by decide +kernel) (by decide)
theorem im_X9_amount : Cond.instanceMethod yX9_amount ∈ BIG := bwi 1550 (by decide +kernel) (by decide)
theorem se_X9_amount : Cond.selects RX9 yX9_amount yX9_amount ∈ BIG := bwi 1551 (by decide +kernel) (by decide)
theorem cd_X9_amount : Cond.code yX9_amount cX9_amount 2 (some .int) ∈ BIG := bwi 1552 (by decide +kernel) (by decide)
theorem ml_L_161 : Cond.methodLink RL 161 yX9_trayCell ∈ BIG := bwi 1553 (by decide +kernel) (by decide)
theorem im_X9_trayCell : Cond.instanceMethod yX9_trayCell ∈ BIG := bwi 1554 (by decide +kernel) (by decide)
theorem se_X9_trayCell : Cond.selects RX9 yX9_trayCell yX9_trayCell ∈ BIG := bwi 1555 (by decide +kernel) (by decide)
theorem cd_X9_trayCell : Cond.code yX9_trayCell cX9_trayCell 3 (some .int) ∈ BIG := bwi 1556 (by decide +kernel) (by decide)
theorem ml_L_164 : Cond.methodLink RL 164 yX9_addRobot ∈ BIG := bwi 1557 (by decide +kernel) (by decide)
theorem im_X9_addRobot : Cond.instanceMethod yX9_addRobot ∈ BIG := bwi 1558 (by decide +kernel) (by decide)
theorem se_X9_addRobot : Cond.selects RX9 yX9_addRobot yX9_addRobot ∈ BIG := bwi 1559 (by decide +kernel) (by decide)
theorem cd_X9_addRobot : Cond.code yX9_addRobot cX9_addRobot 5 (some .int) ∈ BIG := bwi 1560 (by decide +kernel) (by decide)
theorem ml_L_167 : Cond.methodLink RL 167 yX9_die ∈ BIG := bwi 1561 (by decide +kernel) (by decide)
theorem im_X9_die : Cond.instanceMethod yX9_die ∈ BIG := bwi 1562 (by decide +kernel) (by decide)
theorem se_X9_die : Cond.selects RX9 yX9_die yX9_die ∈ BIG := bwi 1563 (by decide +kernel) (by decide)
theorem cd_X9_die : Cond.code yX9_die cX9_die 3 (some .int) ∈ BIG := bwi 1564 (by decide +kernel) (by decide)
theorem ml_X9_165 : Cond.methodLink RX9 165 yX9_isRobot ∈ BIG := bwi 1565 (by decide +kernel) (by decide)
theorem im_X9_isRobot : Cond.instanceMethod yX9_isRobot ∈ BIG := bwi 1567 (by decide +kernel) (by decide)
theorem cd_X9_isRobot : Cond.code yX9_isRobot cX9_isRobot 2 (some .boolean) ∈ BIG := bwi 1568 (by decide +kernel) (by decide)
theorem ml_L_170 : Cond.methodLink RL 170 yX9_repair ∈ BIG := bwi 1569 (by decide +kernel) (by decide)
theorem im_X9_repair : Cond.instanceMethod yX9_repair ∈ BIG := bwi 1570 (by decide +kernel) (by decide)
theorem se_X9_repair : Cond.selects RX9 yX9_repair yX9_repair ∈ BIG := bwi 1571 (by decide +kernel) (by decide)
theorem cd_X9_repair : Cond.code yX9_repair cX9_repair 3 (some .int) ∈ BIG := bwi 1572 (by decide +kernel) (by decide)
theorem ml_L_173 : Cond.methodLink RL 173 yX9_robotIn ∈ BIG := bwi 1573 (by decide +kernel) (by decide)
theorem im_X9_robotIn : Cond.instanceMethod yX9_robotIn ∈ BIG := bwi 1574 (by decide +kernel) (by decide)
theorem se_X9_robotIn : Cond.selects RX9 yX9_robotIn yX9_robotIn ∈ BIG := bwi 1575 (by decide +kernel) (by decide)
theorem cd_X9_robotIn : Cond.code yX9_robotIn cX9_robotIn 2 (some .int) ∈ BIG := bwi 1576 (by decide +kernel) (by decide)
theorem ml_L_176 : Cond.methodLink RL 176 yX9_cellOf ∈ BIG := bwi 1577 (by decide +kernel) (by decide)
theorem im_X9_cellOf : Cond.instanceMethod yX9_cellOf ∈ BIG := bwi 1578 (by decide +kernel) (by decide)
theorem se_X9_cellOf : Cond.selects RX9 yX9_cellOf yX9_cellOf ∈ BIG := bwi 1579 (by decide +kernel) (by decide)
theorem cd_X9_cellOf : Cond.code yX9_cellOf cX9_cellOf 2 (some .int) ∈ BIG := bwi 1580 (by decide +kernel) (by decide)
theorem ml_L_179 : Cond.methodLink RL 179 yX9_state ∈ BIG := bwi 1581 (by decide +kernel) (by decide)
theorem im_X9_state : Cond.instanceMethod yX9_state ∈ BIG := bwi 1582 (by decide +kernel) (by decide)
theorem se_X9_state : Cond.selects RX9 yX9_state yX9_state ∈ BIG := bwi 1583 (by decide +kernel) (by decide)
theorem cd_X9_state : Cond.code yX9_state cX9_state 2 (some .int) ∈ BIG := bwi 1584 (by decide +kernel) (by decide)
theorem ml_L_182 : Cond.methodLink RL 182 yX9_trayOf ∈ BIG := bwi 1585 (by decide +kernel) (by decide)
theorem im_X9_trayOf : Cond.instanceMethod yX9_trayOf ∈ BIG := bwi 1586 (by decide +kernel) (by decide)
theorem se_X9_trayOf : Cond.selects RX9 yX9_trayOf yX9_trayOf ∈ BIG := bwi 1587 (by decide +kernel) (by decide)
theorem cd_X9_trayOf : Cond.code yX9_trayOf cX9_trayOf 2 (some .int) ∈ BIG := bwi 1588 (by decide +kernel) (by decide)
theorem ml_L_185 : Cond.methodLink RL 185 yX9_asked ∈ BIG := bwi 1589 (by decide +kernel) (by decide)
theorem im_X9_asked : Cond.instanceMethod yX9_asked ∈ BIG := bwi 1590 (by decide +kernel) (by decide)
theorem se_X9_asked : Cond.selects RX9 yX9_asked yX9_asked ∈ BIG := bwi 1591 (by decide +kernel) (by decide)
theorem cd_X9_asked : Cond.code yX9_asked cX9_asked 2 (some .int) ∈ BIG := bwi 1592 (by decide +kernel) (by decide)
theorem ml_L_188 : Cond.methodLink RL 188 yX9_tick ∈ BIG := bwi 1593 (by decide +kernel) (by decide)
theorem im_X9_tick : Cond.instanceMethod yX9_tick ∈ BIG := bwi 1594 (by decide +kernel) (by decide)
theorem se_X9_tick : Cond.selects RX9 yX9_tick yX9_tick ∈ BIG := bwi 1595 (by decide +kernel) (by decide)
theorem cd_X9_tick : Cond.code yX9_tick cX9_tick 4 (some .int) ∈ BIG := bwi 1596 (by decide +kernel) (by decide)
theorem ml_X9_244 : Cond.methodLink RX9 244 yX9_passes ∈ BIG := bwi 1597 (by decide +kernel) (by decide)
theorem im_X9_passes : Cond.instanceMethod yX9_passes ∈ BIG := bwi 1599 (by decide +kernel) (by decide)
theorem cd_X9_passes : Cond.code yX9_passes cX9_passes 2 none ∈ BIG := bwi 1600 (by decide +kernel) (by decide)
theorem ml_X9_223 : Cond.methodLink RX9 223 yX9_picksFrom ∈ BIG := bwi 1601 (by decide +kernel) (by decide)
theorem im_X9_picksFrom : Cond.instanceMethod yX9_picksFrom ∈ BIG := bwi 1603 (by decide +kernel) (by decide)
theorem cd_X9_picksFrom : Cond.code yX9_picksFrom cX9_picksFrom 4 none ∈ BIG := bwi 1604 (by decide +kernel) (by decide)
theorem ml_X9_226 : Cond.methodLink RX9 226 yX9_serves ∈ BIG := bwi 1605 (by decide +kernel) (by decide)
theorem im_X9_serves : Cond.instanceMethod yX9_serves ∈ BIG := bwi 1607 (by decide +kernel) (by decide)
theorem cd_X9_serves : Cond.code yX9_serves cX9_serves 7 none ∈ BIG := bwi 1608 (by decide +kernel) (by decide)
theorem ml_X9_180 : Cond.methodLink RX9 180 yX9_hasRobot ∈ BIG := bwi 1609 (by decide +kernel) (by decide)
theorem im_X9_hasRobot : Cond.instanceMethod yX9_hasRobot ∈ BIG := bwi 1611 (by decide +kernel) (by decide)
theorem cd_X9_hasRobot : Cond.code yX9_hasRobot cX9_hasRobot 4 (some .boolean) ∈ BIG := bwi 1612 (by decide +kernel) (by decide)
theorem ml_X9_183 : Cond.methodLink RX9 183 yX9_sends ∈ BIG := bwi 1613 (by decide +kernel) (by decide)
theorem im_X9_sends : Cond.instanceMethod yX9_sends ∈ BIG := bwi 1615 (by decide +kernel) (by decide)
theorem cd_X9_sends : Cond.code yX9_sends cX9_sends 5 (some .boolean) ∈ BIG := bwi 1616 (by decide +kernel) (by decide)
theorem ml_X9_174 : Cond.methodLink RX9 174 yX9_trayFor ∈ BIG := bwi 1617 (by decide +kernel) (by decide)
theorem im_X9_trayFor : Cond.instanceMethod yX9_trayFor ∈ BIG := bwi 1619 (by decide +kernel) (by decide)
theorem cd_X9_trayFor : Cond.code yX9_trayFor cX9_trayFor 9 (some .int) ∈ BIG := bwi 1620 (by decide +kernel) (by decide)
theorem ml_X9_177 : Cond.methodLink RX9 177 yX9_robotFor ∈ BIG := bwi 1621 (by decide +kernel) (by decide)
theorem im_X9_robotFor : Cond.instanceMethod yX9_robotFor ∈ BIG := bwi 1623 (by decide +kernel) (by decide)
theorem cd_X9_robotFor : Cond.code yX9_robotFor cX9_robotFor 7 (some .int) ∈ BIG := bwi 1624 (by decide +kernel) (by decide)
theorem ml_X9_229 : Cond.methodLink RX9 229 yX9_asksFor ∈ BIG := bwi 1625 (by decide +kernel) (by decide)
theorem im_X9_asksFor : Cond.instanceMethod yX9_asksFor ∈ BIG := bwi 1627 (by decide +kernel) (by decide)
theorem cd_X9_asksFor : Cond.code yX9_asksFor cX9_asksFor 4 none ∈ BIG := bwi 1628 (by decide +kernel) (by decide)
theorem ml_X9_186 : Cond.methodLink RX9 186 yX9_goalOf ∈ BIG := bwi 1629 (by decide +kernel) (by decide)
theorem im_X9_goalOf : Cond.instanceMethod yX9_goalOf ∈ BIG := bwi 1631 (by decide +kernel) (by decide)
theorem cd_X9_goalOf : Cond.code yX9_goalOf cX9_goalOf 3 (some .int) ∈ BIG := bwi 1632 (by decide +kernel) (by decide)
theorem ml_X9_232 : Cond.methodLink RX9 232 yX9_resolves ∈ BIG := bwi 1633 (by decide +kernel) (by decide)
theorem im_X9_resolves : Cond.instanceMethod yX9_resolves ∈ BIG := bwi 1635 (by decide +kernel) (by decide)
theorem cd_X9_resolves : Cond.code yX9_resolves cX9_resolves 6 none ∈ BIG := bwi 1636 (by decide +kernel) (by decide)
theorem ml_X9_204 : Cond.methodLink RX9 204 yX9_ringOf ∈ BIG := bwi 1637 (by decide +kernel) (by decide)
theorem im_X9_ringOf : Cond.instanceMethod yX9_ringOf ∈ BIG := bwi 1639 (by decide +kernel) (by decide)
theorem cd_X9_ringOf : Cond.code yX9_ringOf cX9_ringOf 4 (some .int) ∈ BIG := bwi 1640 (by decide +kernel) (by decide)
theorem ml_X9_192 : Cond.methodLink RX9 192 yX9_nextOf ∈ BIG := bwi 1641 (by decide +kernel) (by decide)
theorem im_X9_nextOf : Cond.instanceMethod yX9_nextOf ∈ BIG := bwi 1643 (by decide +kernel) (by decide)
theorem cd_X9_nextOf : Cond.code yX9_nextOf cX9_nextOf 2 (some .int) ∈ BIG := bwi 1644 (by decide +kernel) (by decide)
theorem ml_X9_207 : Cond.methodLink RX9 207 yX9_turns ∈ BIG := bwi 1645 (by decide +kernel) (by decide)
theorem im_X9_turns : Cond.instanceMethod yX9_turns ∈ BIG := bwi 1647 (by decide +kernel) (by decide)
theorem cd_X9_turns : Cond.code yX9_turns cX9_turns 4 none ∈ BIG := bwi 1648 (by decide +kernel) (by decide)
theorem ml_X9_198 : Cond.methodLink RX9 198 yX9_moves ∈ BIG := bwi 1649 (by decide +kernel) (by decide)
theorem im_X9_moves : Cond.instanceMethod yX9_moves ∈ BIG := bwi 1651 (by decide +kernel) (by decide)
theorem cd_X9_moves : Cond.code yX9_moves cX9_moves 3 none ∈ BIG := bwi 1652 (by decide +kernel) (by decide)
theorem ml_X9_211 : Cond.methodLink RX9 211 yX9_isAbove ∈ BIG := bwi 1653 (by decide +kernel) (by decide)
theorem im_X9_isAbove : Cond.instanceMethod yX9_isAbove ∈ BIG := bwi 1655 (by decide +kernel) (by decide)
theorem cd_X9_isAbove : Cond.code yX9_isAbove cX9_isAbove 3 (some .boolean) ∈ BIG := bwi 1656 (by decide +kernel) (by decide)
theorem ml_X9_214 : Cond.methodLink RX9 214 yX9_yieldsTo ∈ BIG := bwi 1657 (by decide +kernel) (by decide)
theorem im_X9_yieldsTo : Cond.instanceMethod yX9_yieldsTo ∈ BIG := bwi 1659 (by decide +kernel) (by decide)
theorem cd_X9_yieldsTo : Cond.code yX9_yieldsTo cX9_yieldsTo 4 (some .boolean) ∈ BIG := bwi 1660 (by decide +kernel) (by decide)
theorem ml_X9_220 : Cond.methodLink RX9 220 yX9_isAsked ∈ BIG := bwi 1661 (by decide +kernel) (by decide)
theorem im_X9_isAsked : Cond.instanceMethod yX9_isAsked ∈ BIG := bwi 1663 (by decide +kernel) (by decide)
theorem cd_X9_isAsked : Cond.code yX9_isAsked cX9_isAsked 4 (some .boolean) ∈ BIG := bwi 1664 (by decide +kernel) (by decide)
theorem ml_X9_235 : Cond.methodLink RX9 235 yX9_stepsAside ∈ BIG := bwi 1665 (by decide +kernel) (by decide)
theorem im_X9_stepsAside : Cond.instanceMethod yX9_stepsAside ∈ BIG := bwi 1667 (by decide +kernel) (by decide)
theorem cd_X9_stepsAside : Cond.code yX9_stepsAside cX9_stepsAside 6 none ∈ BIG := bwi 1668 (by decide +kernel) (by decide)
theorem ml_X9_238 : Cond.methodLink RX9 238 yX9_goes ∈ BIG := bwi 1669 (by decide +kernel) (by decide)
theorem im_X9_goes : Cond.instanceMethod yX9_goes ∈ BIG := bwi 1671 (by decide +kernel) (by decide)
theorem cd_X9_goes : Cond.code yX9_goes cX9_goes 5 none ∈ BIG := bwi 1672 (by decide +kernel) (by decide)
theorem ml_X9_241 : Cond.methodLink RX9 241 yX9_arrives ∈ BIG := bwi 1673 (by decide +kernel) (by decide)
theorem im_X9_arrives : Cond.instanceMethod yX9_arrives ∈ BIG := bwi 1675 (by decide +kernel) (by decide)
theorem cd_X9_arrives : Cond.code yX9_arrives cX9_arrives 3 none ∈ BIG := bwi 1676 (by decide +kernel) (by decide)
theorem ml_L_192 : Cond.methodLink RL 192 yX9_time ∈ BIG := bwi 1677 (by decide +kernel) (by decide)
theorem im_X9_time : Cond.instanceMethod yX9_time ∈ BIG := bwi 1678 (by decide +kernel) (by decide)
theorem se_X9_time : Cond.selects RX9 yX9_time yX9_time ∈ BIG := bwi 1679 (by decide +kernel) (by decide)
theorem cd_X9_time : Cond.code yX9_time cX9_time 1 (some .int) ∈ BIG := bwi 1680 (by decide +kernel) (by decide)
theorem ml_L_196 : Cond.methodLink RL 196 yX9_steps ∈ BIG := bwi 1681 (by decide +kernel) (by decide)
theorem im_X9_steps : Cond.instanceMethod yX9_steps ∈ BIG := bwi 1682 (by decide +kernel) (by decide)
theorem se_X9_steps : Cond.selects RX9 yX9_steps yX9_steps ∈ BIG := bwi 1683 (by decide +kernel) (by decide)
theorem cd_X9_steps : Cond.code yX9_steps cX9_steps 1 (some .int) ∈ BIG := bwi 1684 (by decide +kernel) (by decide)
theorem ml_L_200 : Cond.methodLink RL 200 yX9_rings ∈ BIG := bwi 1685 (by decide +kernel) (by decide)
theorem im_X9_rings : Cond.instanceMethod yX9_rings ∈ BIG := bwi 1686 (by decide +kernel) (by decide)
theorem se_X9_rings : Cond.selects RX9 yX9_rings yX9_rings ∈ BIG := bwi 1687 (by decide +kernel) (by decide)
theorem cd_X9_rings : Cond.code yX9_rings cX9_rings 1 (some .int) ∈ BIG := bwi 1688 (by decide +kernel) (by decide)
theorem ml_L_204 : Cond.methodLink RL 204 yX9_yields ∈ BIG := bwi 1689 (by decide +kernel) (by decide)
theorem im_X9_yields : Cond.instanceMethod yX9_yields ∈ BIG := bwi 1690 (by decide +kernel) (by decide)
theorem se_X9_yields : Cond.selects RX9 yX9_yields yX9_yields ∈ BIG := bwi 1691 (by decide +kernel) (by decide)
theorem cd_X9_yields : Cond.code yX9_yields cX9_yields 1 (some .int) ∈ BIG := bwi 1692 (by decide +kernel) (by decide)
theorem ml_L_208 : Cond.methodLink RL 208 yX9_knots ∈ BIG := bwi 1693 (by decide +kernel) (by decide)
theorem im_X9_knots : Cond.instanceMethod yX9_knots ∈ BIG := bwi 1694 (by decide +kernel) (by decide)
theorem se_X9_knots : Cond.selects RX9 yX9_knots yX9_knots ∈ BIG := bwi 1695 (by decide +kernel) (by decide)
theorem cd_X9_knots : Cond.code yX9_knots cX9_knots 1 (some .int) ∈ BIG := bwi 1696 (by decide +kernel) (by decide)
theorem ml_L_211 : Cond.methodLink RL 211 yX9_stock ∈ BIG := bwi 1697 (by decide +kernel) (by decide)
theorem im_X9_stock : Cond.instanceMethod yX9_stock ∈ BIG := bwi 1698 (by decide +kernel) (by decide)
theorem se_X9_stock : Cond.selects RX9 yX9_stock yX9_stock ∈ BIG := bwi 1699 (by decide +kernel) (by decide)
theorem cd_X9_stock : Cond.code yX9_stock cX9_stock 4 (some .int) ∈ BIG := bwi 1700 (by decide +kernel) (by decide)
theorem ml_L_214 : Cond.methodLink RL 214 yX9_stockByPicks ∈ BIG := bwi 1701 (by decide +kernel) (by decide)
theorem im_X9_stockByPicks : Cond.instanceMethod yX9_stockByPicks ∈ BIG := bwi 1702 (by decide +kernel) (by decide)
theorem se_X9_stockByPicks : Cond.selects RX9 yX9_stockByPicks yX9_stockByPicks ∈ BIG := bwi 1703 (by decide +kernel) (by decide)
theorem cd_X9_stockByPicks : Cond.code yX9_stockByPicks cX9_stockByPicks 2 (some .int) ∈ BIG := bwi 1704 (by decide +kernel) (by decide)
theorem ml_L_218 : Cond.methodLink RL 218 yX9_picks ∈ BIG := bwi 1705 (by decide +kernel) (by decide)
theorem im_X9_picks : Cond.instanceMethod yX9_picks ∈ BIG := bwi 1706 (by decide +kernel) (by decide)
theorem se_X9_picks : Cond.selects RX9 yX9_picks yX9_picks ∈ BIG := bwi 1707 (by decide +kernel) (by decide)
theorem cd_X9_picks : Cond.code yX9_picks cX9_picks 1 (some .int) ∈ BIG := bwi 1708 (by decide +kernel) (by decide)
theorem ml_L_221 : Cond.methodLink RL 221 yX9_pickedFrom ∈ BIG := bwi 1709 (by decide +kernel) (by decide)
theorem im_X9_pickedFrom : Cond.instanceMethod yX9_pickedFrom ∈ BIG := bwi 1710 (by decide +kernel) (by decide)
theorem se_X9_pickedFrom : Cond.selects RX9 yX9_pickedFrom yX9_pickedFrom ∈ BIG := bwi 1711 (by decide +kernel) (by decide)
theorem cd_X9_pickedFrom : Cond.code yX9_pickedFrom cX9_pickedFrom 2 (some .int) ∈ BIG := bwi 1712 (by decide +kernel) (by decide)
theorem ml_X9_247 : Cond.methodLink RX9 247 yX9_isPick ∈ BIG := bwi 1713 (by decide +kernel) (by decide)
theorem im_X9_isPick : Cond.instanceMethod yX9_isPick ∈ BIG := bwi 1715 (by decide +kernel) (by decide)
theorem cd_X9_isPick : Cond.code yX9_isPick cX9_isPick 2 (some .boolean) ∈ BIG := bwi 1716 (by decide +kernel) (by decide)
theorem ml_L_224 : Cond.methodLink RL 224 yX9_pickedFor ∈ BIG := bwi 1717 (by decide +kernel) (by decide)
theorem im_X9_pickedFor : Cond.instanceMethod yX9_pickedFor ∈ BIG := bwi 1718 (by decide +kernel) (by decide)
theorem se_X9_pickedFor : Cond.selects RX9 yX9_pickedFor yX9_pickedFor ∈ BIG := bwi 1719 (by decide +kernel) (by decide)
theorem cd_X9_pickedFor : Cond.code yX9_pickedFor cX9_pickedFor 2 (some .int) ∈ BIG := bwi 1720 (by decide +kernel) (by decide)
theorem ml_L_227 : Cond.methodLink RL 227 yX9_pickedIn ∈ BIG := bwi 1721 (by decide +kernel) (by decide)
theorem im_X9_pickedIn : Cond.instanceMethod yX9_pickedIn ∈ BIG := bwi 1722 (by decide +kernel) (by decide)
theorem se_X9_pickedIn : Cond.selects RX9 yX9_pickedIn yX9_pickedIn ∈ BIG := bwi 1723 (by decide +kernel) (by decide)
theorem cd_X9_pickedIn : Cond.code yX9_pickedIn cX9_pickedIn 2 (some .int) ∈ BIG := bwi 1724 (by decide +kernel) (by decide)
theorem lay_Jx4a65c : ∀ w ∈ wsJx4a65c0, w ∈ BIG := BIG_ws _ [152, 148, 150] (by decide +kernel) (by decide +kernel)
theorem lay_X0 : ∀ w ∈ wsX00, w ∈ BIG := BIG_ws _ [169, 171, 173, 175, 177, 179, 181, 183] (by decide +kernel) (by decide +kernel)
theorem lay_X1 : ∀ w ∈ wsX10, w ∈ BIG := BIG_ws _ [122, 124, 126] (by decide +kernel) (by decide +kernel)
theorem lay_X2 : ∀ w ∈ wsX20, w ∈ BIG := BIG_ws _ [639, 641, 643, 645] (by decide +kernel) (by decide +kernel)
theorem lay_X3 : ∀ w ∈ wsX30, w ∈ BIG := BIG_ws _ [606, 608] (by decide +kernel) (by decide +kernel)
theorem lay_X4 : ∀ w ∈ wsX40, w ∈ BIG := BIG_ws _ [881, 883, 885] (by decide +kernel) (by decide +kernel)
theorem lay_X5 : ∀ w ∈ wsX50, w ∈ BIG := BIG_ws _ [767, 769, 771, 773, 775, 777, 779, 781, 783] (by decide +kernel) (by decide +kernel)
theorem lay_X6 : ∀ w ∈ wsX60, w ∈ BIG := BIG_ws _ [434, 436, 438] (by decide +kernel) (by decide +kernel)
theorem lay_X7 : ∀ w ∈ wsX70, w ∈ BIG := BIG_ws _ [531, 533, 535, 537, 539] (by decide +kernel) (by decide +kernel)
theorem lay_X8 : ∀ w ∈ wsX80, w ∈ BIG := BIG_ws _ [194, 196, 198, 200, 202, 204] (by decide +kernel) (by decide +kernel)
theorem lay_X9 : ∀ w ∈ wsX90, w ∈ BIG := BIG_ws _ [1357, 1359, 1361, 1363, 1365, 1367, 1369, 1371, 1373, 1375, 1377, 1379, 1381, 1383, 1385, 1387, 1389, 1391, 1393, 1395, 1397, 1399, 1401, 1403, 1405, 1407, 1409, 1411, 1413, 1415, 1417, 1419, 1421, 1423, 1425, 1427, 1429, 1431, 1433, 1435] (by decide +kernel) (by decide +kernel)
end
section
/-! ROWS FOR ONE CELL: an object's field, an array's place; what the machine knows all along (gK) -/
abbrev gCl : List vw_C := [(RX0, TX0, 8), (RX1, TX1, 3), (RX2, TX2, 4), (RX3, TX3, 2), (RX4, TX4, 3), (RX5, TX5, 9), (RX6, TX6, 3), (RX7, TX7, 5), (RX8, TX8, 6), (RX9, TX9, 40), (RJx4a65c, TJx4a65c, 3)]
abbrev gG : Type := va_G × ClassId × ClassId × ClassId × ClassId
abbrev gTys (G : gG) : List (ClassId × FieldType) := [(G.2.1, .int), (G.2.2.1, .boolean), (G.2.2.2.1, .object "java/lang/Object"), (G.2.2.2.2, .long)]
def gK (G : gG) (U : State) : Prop := va_K G.1 gCl (gTys G) U ∧ (va_Nw (.castable RX2 "java/lang/Object") U ∧ va_Nw (.castable RX3 "java/lang/Object") U ∧ va_Nw (.castable RX4 "java/lang/Object") U ∧ va_Nw (.castable RX5 "java/lang/Object") U ∧ va_Nw (.castable RX6 "java/lang/Object") U ∧ va_Nw (.castable RX7 "java/lang/Object") U) ∧ va_Nw (.methodLinkNest RX8 9 yX0_init RX8) U ∧ va_Nw (.methodLinkNest RX0 11 yX1_init RX8) U
theorem gK.warm {G : gG} {s U : State} (hW : s.WarmedH U.vm) (h : gK G s) : gK G U := by
  obtain ⟨h1, ⟨a1, a2, a3, a4, a5, a6⟩, b1, b2⟩ := h
  exact ⟨va_K.moved hW.alike h1, ⟨va_Nw.warmC hW a1, va_Nw.warmC hW a2, va_Nw.warmC hW a3, va_Nw.warmC hW a4, va_Nw.warmC hW a5, va_Nw.warmC hW a6⟩, va_Nw.warmM hW b1, va_Nw.warmM hW b2⟩
theorem gK.blind {G : gG} {U : State} {g : JFrame} {mk : MethodId} {a : Array Value} (h : gK G U) : gK G (U.calling g mk a) := by
  obtain ⟨h1, ⟨a1, a2, a3, a4, a5, a6⟩, b1, b2⟩ := h
  have e : (U.calling g mk a).vm = U.vm := rfl
  exact ⟨va_K.moved (u := U) (U := U.calling g mk a) (Vm.Alike.refl U.vm) h1, ⟨va_Nw.same rfl e.symm a1, va_Nw.same rfl e.symm a2, va_Nw.same rfl e.symm a3, va_Nw.same rfl e.symm a4, va_Nw.same rfl e.symm a5, va_Nw.same rfl e.symm a6⟩, va_Nw.same rfl e.symm b1, va_Nw.same rfl e.symm b2⟩
theorem va_P1 {D : va_G} {cl : List vw_C} {q : Nat × va_E} {H : Heap} (h : va_at D cl q H) : va_P D cl [q] H := by
  intro k x hk
  match k, hk with
  | 0, hk => cases hk; exact h
  | k + 1, hk => simp at hk
theorem va_at_cell {D : va_G} {cl : List vw_C} {tys : List (ClassId × FieldType)} {s : State} {H : Heap} {a ci : Nat} {q : vw_C} {fs : List Value} (hK : va_K D cl tys s) (h : va_at D cl (a, .inr (ci, fs)) H) (hc : cl[ci]? = some q) : ∃ cell : Cell, H[a]? = some cell ∧ cell.vm.isStatics = false ∧ s.vm.findClass q.1 = some cell.cls :=
  va_recv hK (va_P1 h) hc (q0 := 0) rfl
section R1
variable {p : Program} {l : Launch} {e : Env} {R : Room} {s : State} {m : MethodId} {args : Array Value} {below : List Frame} {meth : Method} {c : Code} {H : Heap} {locs : List Loc} {cells slots : Nat} {Q : State → Prop}
variable {cc : ByteArray} {pc nL : Nat} {ls : Array Slot} {rest : List Value} {D : va_G} {a : Nat} {tys : List (ClassId × FieldType)} {own : String}
theorem r1_get (hC : CallFix p m c cc nL s args BIG own) (hK : va_K D gCl tys s) {C ref : String} {T : u_T} {N ci index : Nat} {fs : List Value} (hat : va_at D gCl (a, .inr (ci, fs)) H) (hin : ∀ w ∈ u_ws C T N, w ∈ BIG) (hc : gCl[ci]? = some (C, T, N)) (k : Nat) (hk : k < N) (hlink : Cond.fieldLink own index ref (T k).2.1 (T k).2.2.1 ∈ BIG) (hsame : ∀ x, s.fieldFound? (T k).1 (T k).2.1 (T k).2.2.1 = some x → s.fieldFound? ref (T k).2.1 (T k).2.2.1 = some x) {v : Value} (hv : fs[k]? = some v) (hdg : decode cc pc = .ok (.getfield index, 3))
    (kk : W p l e R s m args below meth c H locs cells slots Q (F0 m (pc + 3) ls (v :: rest))) : W p l e R s m args below meth c H locs cells slots Q (F0 m pc ls (.ref a :: rest)) :=
  va_get hC.1 hC.2.1 hC.2.2.2.2 hin hC.2.2.2.1 hK (va_P1 hat) 0 rfl hc k hk (hC.2.2.2.2 _ hlink) hsame hv hdg kk
theorem r1_put (hC : CallFix p m c cc nL s args BIG own) (hK : va_K D gCl tys s) {C ref : String} {T : u_T} {N ci index : Nat} {fs : List Value} (hat : va_at D gCl (a, .inr (ci, fs)) H) (hin : ∀ w ∈ u_ws C T N, w ∈ BIG) (ty0 : Nat → FieldType) (hty : ∀ k, k < N → parseFieldDescriptor (T k).2.2.1 = some (ty0 k)) (hnm : ∀ a, a < N → ∀ b, b < N → a ≠ b → (T a).2.1 ≠ (T b).2.1) (hc : gCl[ci]? = some (C, T, N)) (k : Nat) (hk : k < N) (hlink : Cond.fieldLink own index ref (T k).2.1 (T k).2.2.1 ∈ BIG) (hsame : ∀ x, s.fieldFound? (T k).1 (T k).2.1 (T k).2.2.1 = some x → s.fieldFound? ref (T k).2.1 (T k).2.2.1 = some x) (hfin : (T k).2.2.2 = false) {v : Value} (hn : narrow (ty0 k) v = v) (hfit : fits (ty0 k) v = true) (hl : k < fs.length) (hdg : decode cc pc = .ok (.putfield index, 3))
    (kk : ∀ (H1 : Heap) (i : Nat), va_at D gCl (a, .inr (ci, fs.set k v)) H1 → H1.size = H.size → (∀ q : Nat, q ≠ a → H1[q]? = H[q]?) → W p l e R s m args below meth c H1 (locs ++ [⟨a, i⟩]) cells slots Q (F0 m (pc + 3) ls rest)) : W p l e R s m args below meth c H locs cells slots Q (F0 m pc ls (v :: .ref a :: rest)) := by
  obtain ⟨hx, hb, -, hown, hts⟩ := hC
  have hap := va_apart (own := own) hts hin ty0 hty hnm hK hc
  obtain ⟨r, h1, cell, q1, q2, q3, q4⟩ := hat
  have hr : r = (C, T, N) := Option.some.inj (h1.symm.trans hc)
  subst hr
  obtain ⟨hS, hfc, kC, hkC, hkind⟩ := hK.1 ci _ hc
  obtain ⟨cf, kf, fi, f, hi, hsl⟩ := hS k hk
  have hlay := hts _ (hin _ (u_in_lay hk))
  unfold u_lay at hlay
  rw [if_neg (by rw [hfin]; decide)] at hlay
  have hst := (u_facts hfc hkC (u_lays hts hin hk) hi).1
  have h6 := u_store hfc hkC hkind hlay hi (hty k hk) hn hfit
  refine W.putK hx hb (f := f) ⟨hown, hts _ hlink, ⟨_, _, _, hsame _ hi⟩, hst⟩ (by rw [q2]; exact h6) q1 q3 (by rw [hsl]; exact k2_hasslot (q4 k hk)) rfl rfl hdg fun H' e1 e2 e3 => ?_
  rw [hsl] at e1 ⊢
  exact kk H' _ ⟨_, hc, t_OB.to (V := updV (vp_V fs) k v) ⟨_, e1, q2, q3, t_set q4 hap hk v⟩ (fun j _ => vp_updV_set hl v j)⟩ e2 e3
theorem r1_putF (hC : CallFix p m c cc nL s args BIG own) (hK : va_K D gCl tys s) {C ref : String} {T : u_T} {N ci index : Nat} {fs : List Value} (hat : va_at D gCl (a, .inr (ci, fs)) H) (hin : ∀ w ∈ u_ws C T N, w ∈ BIG) (ty0 : Nat → FieldType) (hty : ∀ k, k < N → parseFieldDescriptor (T k).2.2.1 = some (ty0 k)) (hnm : ∀ a, a < N → ∀ b, b < N → a ≠ b → (T a).2.1 ≠ (T b).2.1) (hc : gCl[ci]? = some (C, T, N)) (k : Nat) (hk : k < N) (hlink : Cond.fieldLink own index ref (T k).2.1 (T k).2.2.1 ∈ BIG) (hsame : ∀ x, s.fieldFound? (T k).1 (T k).2.1 (T k).2.2.1 = some x → s.fieldFound? ref (T k).2.1 (T k).2.2.1 = some x) (hfin : (T k).2.2.2 = true) (hin2 : meth.name = "<init>") (hdecl : (T k).1 = own) {v : Value} (hn : narrow (ty0 k) v = v) (hfit : fits (ty0 k) v = true) (hl : k < fs.length) (hdg : decode cc pc = .ok (.putfield index, 3))
    (kk : ∀ (H1 : Heap) (i : Nat), va_at D gCl (a, .inr (ci, fs.set k v)) H1 → H1.size = H.size → (∀ q : Nat, q ≠ a → H1[q]? = H[q]?) → W p l e R s m args below meth c H1 (locs ++ [⟨a, i⟩]) cells slots Q (F0 m (pc + 3) ls rest)) : W p l e R s m args below meth c H locs cells slots Q (F0 m pc ls (v :: .ref a :: rest)) := by
  obtain ⟨hx, hb, -, hown, hts⟩ := hC
  have hap := va_apart (own := own) hts hin ty0 hty hnm hK hc
  obtain ⟨r, h1, cell, q1, q2, q3, q4⟩ := hat
  have hr : r = (C, T, N) := Option.some.inj (h1.symm.trans hc)
  subst hr
  obtain ⟨hS, hfc, kC, hkC, hkind⟩ := hK.1 ci _ hc
  obtain ⟨cf, kf, fi, f, hi, hsl⟩ := hS k hk
  have hlay := hts _ (hin _ (u_in_lay hk))
  unfold u_lay at hlay
  rw [if_pos hfin] at hlay
  have hst := (u_facts hfc hkC (u_lays hts hin hk) hi).1
  have hcf : m.cls = cf := by
    obtain ⟨_, _, c', _, _, _, -, -, hf', -, -, -, hown2, -⟩ := Cond.laysFinal_spec hlay
    have e1 : c' = cf := by have := hi.symm.trans hf'; simp at this; exact this.1.symm
    rw [hdecl] at hown2
    rw [← e1]; exact Option.some.inj (hown.symm.trans hown2)
  have h6 := u_fits hfc hkC hkind (Or.inr hlay) hi (hty k hk) hn hfit
  refine W.putFinK hx hb hown (hts _ hlink) (hsame _ hi) hst hcf hin2 (by rw [q2]; exact h6) q1 q3 (by rw [hsl]; exact k2_hasslot (q4 k hk)) rfl rfl hdg fun H' e1 e2 e3 => ?_
  rw [hsl] at e1 ⊢
  exact kk H' _ ⟨_, hc, t_OB.to (V := updV (vp_V fs) k v) ⟨_, e1, q2, q3, t_set q4 hap hk v⟩ (fun j _ => vp_updV_set hl v j)⟩ e2 e3
theorem r1_in {i n : Nat} (h : i < n) (hn : n < 2 ^ 31) : vp_in (nI i) n := vp_in_nI h hn
theorem r1_ild (hC : CallFix p m c cc nL s args BIG own) {cI : ClassId} (hK : va_K D gCl tys s) (t0 : Nat) (ht : tys[t0]? = some (cI, .int)) {n i : Nat} {f : Nat → Int32} (hat : va_at D gCl (a, .inl (cI, (n, .inl f))) H) (hi : i < n) (hn : n < 2 ^ 31) {v : Int32} (hv : f i = v) (hdg : decode cc pc = .ok (.iaload, 1))
    (kk : W p l e R s m args below meth c H locs cells slots Q (F0 m (pc + 1) ls (.int v :: rest))) : W p l e R s m args below meth c H locs cells slots Q (F0 m pc ls (.int (nI i) :: .ref a :: rest)) := by
  refine va_iald hC.1 hC.2.1 hK (va_P1 hat) 0 t0 rfl ht (vp_in_nI hi hn) hdg ?_
  rw [nI_clamp (by omega), hv]
  exact kk
theorem r1_zld (hC : CallFix p m c cc nL s args BIG own) {cI : ClassId} (hK : va_K D gCl tys s) (t0 : Nat) (ht : tys[t0]? = some (cI, .boolean)) {n i : Nat} {f : Nat → Int32} (hat : va_at D gCl (a, .inl (cI, (n, .inl f))) H) (hi : i < n) (hn : n < 2 ^ 31) {v : Int32} (hv : f i = v) (hdg : decode cc pc = .ok (.baload, 1))
    (kk : W p l e R s m args below meth c H locs cells slots Q (F0 m (pc + 1) ls (.int v :: rest))) : W p l e R s m args below meth c H locs cells slots Q (F0 m pc ls (.int (nI i) :: .ref a :: rest)) := by
  refine va_zald hC.1 hC.2.1 hK (va_P1 hat) 0 t0 rfl ht (vp_in_nI hi hn) hdg ?_
  rw [nI_clamp (by omega), hv]
  exact kk
theorem r1_ist (hC : CallFix p m c cc nL s args BIG own) {cI : ClassId} (hK : va_K D gCl tys s) (t0 : Nat) (ht : tys[t0]? = some (cI, .int)) {n i : Nat} {f : Nat → Int32} {x : Int32} (hat : va_at D gCl (a, .inl (cI, (n, .inl f))) H) (hi : i < n) (hn : n < 2 ^ 31) (hdg : decode cc pc = .ok (.iastore, 1))
    (kk : ∀ (H1 : Heap) (j : Nat), va_at D gCl (a, .inl (cI, (n, .inl (upd f i x)))) H1 → H1.size = H.size → (∀ q : Nat, q ≠ a → H1[q]? = H[q]?) → W p l e R s m args below meth c H1 (locs ++ [⟨a, j⟩]) cells slots Q (F0 m (pc + 1) ls rest)) : W p l e R s m args below meth c H locs cells slots Q (F0 m pc ls (.int x :: .int (nI i) :: .ref a :: rest)) := by
  refine W.iast hC.1 hC.2.1 (show H[a]? = some (vp_cell cI (n, .inl f)) from hat) ((hK.2 t0 _ ht).1 n (fun j => .int (f j))) (fun q => by cases q) (by show ¬ (nI i < 0 ∨ (arrV _ _ _).slots.size ≤ _); rw [arrV_size]; exact vp_in_nI hi hn) rfl rfl hdg fun H1 e z oq => ?_
  rw [nI_clamp (by omega)] at e ⊢
  refine kk H1 _ ?_ z oq
  show H1[a]? = some (vp_cell _ _)
  rw [e]
  rw [vp_cell_i, vp_cell_i, arrV_store]
  congr 2
  funext q
  by_cases hq : q = i
  · subst hq
    simp [updV, upd]
  · simp [updV, upd, hq]
theorem r1_zst (hC : CallFix p m c cc nL s args BIG own) {cI : ClassId} (hK : va_K D gCl tys s) (t0 : Nat) (ht : tys[t0]? = some (cI, .boolean)) {n i : Nat} {f : Nat → Int32} {b : Bool} (hat : va_at D gCl (a, .inl (cI, (n, .inl f))) H) (hi : i < n) (hn : n < 2 ^ 31) (hdg : decode cc pc = .ok (.bastore, 1))
    (kk : ∀ (H1 : Heap) (j : Nat), va_at D gCl (a, .inl (cI, (n, .inl (upd f i (bI b))))) H1 → H1.size = H.size → (∀ q : Nat, q ≠ a → H1[q]? = H[q]?) → W p l e R s m args below meth c H1 (locs ++ [⟨a, j⟩]) cells slots Q (F0 m (pc + 1) ls rest)) : W p l e R s m args below meth c H locs cells slots Q (F0 m pc ls (.int (bI b) :: .int (nI i) :: .ref a :: rest)) := by
  refine W.zast hC.1 hC.2.1 (show H[a]? = some (vp_cell cI (n, .inl f)) from hat) ((hK.2 t0 _ ht).1 n (fun j => .int (f j))) (fun q => by cases q) (by show ¬ (nI i < 0 ∨ (arrV _ _ _).slots.size ≤ _); rw [arrV_size]; exact vp_in_nI hi hn) rfl rfl hdg fun H1 e z oq => ?_
  rw [nI_clamp (by omega), bI_nar] at e
  rw [nI_clamp (by omega)]
  refine kk H1 _ ?_ z oq
  show H1[a]? = some (vp_cell _ _)
  rw [e]
  rw [vp_cell_i, vp_cell_i, arrV_store]
  congr 2
  funext q
  by_cases hq : q = i
  · subst hq
    simp [updV, upd]
  · simp [updV, upd, hq]
end R1
theorem va_S.put1 {A : Nat → Prop} {H0 H H1 : Heap} {locs : List Loc} {a i : Nat} (h : va_S A H0 H locs) (z : H1.size = H.size) (oq : ∀ q : Nat, q ≠ a → H1[q]? = H[q]?) (ha : A a) : va_S A H0 H1 (locs ++ [⟨a, i⟩]) := va_S.put h z oq ha
end
section
/-! THE REFERENCE'S WORLD: its fields and arrays by rows: M k i; scalars at M k 0 -/
abbrev MS : Type := Nat → Nat → Int32
def mLen : Nat → Nat := fun k => match k with
  | 2 => 64 | 3 => 64 | 5 => 3 | 7 => 16 | 8 => 16 | 9 => 16 | 11 => 10 | 12 => 30 | 13 => 30 | 14 => 30 | 15 => 30
  | 18 => 6 | 19 => 6 | 20 => 6 | 21 => 6 | 22 => 6 | 23 => 6 | 24 => 6 | 25 => 6 | 26 => 6 | 27 => 6 | 32 => 6 | 33 => 6
  | 35 => 1500 | 36 => 1500 | 37 => 1500 | 38 => 64 | 39 => 64 | _ => 0
def mZ : Nat → Bool := fun k => match k with
  | 2 => true | 3 => true | 26 => true | _ => false
theorem mLen_lt (k : Nat) : mLen k < 2 ^ 31 := by unfold mLen; split <;> decide
def mset (M : MS) (k j : Nat) (v : Int32) : MS := fun k' => if k' = k then upd (M k') j v else M k'
theorem mset_s (M : MS) (k j : Nat) (v : Int32) : mset M k j v k = upd (M k) j v := if_pos rfl
theorem mset_n (M : MS) {k k' : Nat} (j : Nat) (v : Int32) (h : k' ≠ k) : mset M k j v k' = M k' := if_neg h
def mFv (ma : Nat → Nat) (M : MS) (k : Nat) : Value := match mLen k with
  | 0 => .int (M k 0)
  | _ => .ref (ma k)
def mFs (ma : Nat → Nat) (M : MS) : List Value := (List.range 40).map (mFv ma M)
theorem mFs_len (ma : Nat → Nat) (M : MS) : (mFs ma M).length = 40 := by simp [mFs]
theorem mFs_get (ma : Nat → Nat) (M : MS) {k : Nat} (hk : k < 40) : (mFs ma M)[k]? = some (mFv ma M k) := by simp [mFs, hk]
theorem mFs_set (ma : Nat → Nat) (M : MS) {k : Nat} (hk : k < 40) (h0 : mLen k = 0) (x : Int32) : (mFs ma M).set k (.int x) = mFs ma (mset M k 0 x) := by
  apply List.ext_getElem?
  intro j
  rw [List.getElem?_set]
  by_cases hj : j < 40
  · by_cases e : k = j
    · subst e
      rw [if_pos rfl, if_pos (by rw [mFs_len]; exact hk), mFs_get _ _ hk]
      simp [mFv, h0, mset_s, upd]
    · rw [if_neg e, mFs_get _ _ hj, mFs_get _ _ hj]
      unfold mFv
      rw [mset_n M 0 x (Ne.symm e)]
  · rw [if_neg (by omega)]
    simp [mFs, hj]
abbrev mCls (G : gG) (k : Nat) : ClassId := if mZ k = true then G.2.2.1 else G.2.1
def WM (G : gG) (ma : Nat → Nat) (M : MS) (H : Heap) : Prop := va_at G.1 gCl (ma 0, .inr (9, mFs ma M)) H ∧ ∀ k, 0 < mLen k → va_at G.1 gCl (ma k, .inl (mCls G k, (mLen k, .inl (M k)))) H
def mI (ma : Nat → Nat) : Prop := (∀ k, 0 < mLen k → ma k ≠ ma 0) ∧ ∀ j k, 0 < mLen j → 0 < mLen k → ma j = ma k → j = k
def mA (ma : Nat → Nat) : Nat → Prop := fun q => q = ma 0 ∨ ∃ k, 0 < mLen k ∧ q = ma k
def mB (G : gG) (ma : Nat → Nat) (M : MS) : State → Prop := fun U => WM G ma M U.heap ∧ gK G U
theorem mB_blind {G : gG} {ma : Nat → Nat} {M : MS} {av : List Value} : FrameBlind (va_Pc av (mB G ma M)) := fun _ _ _ _ h => ⟨h.1, h.2.1, h.2.2.blind⟩
/-- the end of a method that changes the world -/
abbrev mQi (G : gG) (ma : Nat → Nat) (post : Int32 → MS → Prop) : Array Value → State → Outcome → State → Prop := va_Qi (S := MS) post (fun M' t => WM G ma M' t.heap) (mA ma)
abbrev mQv (G : gG) (ma : Nat → Nat) (post : MS → Prop) : Array Value → State → Outcome → State → Prop := va_Qv (S := MS) post (fun M' t => WM G ma M' t.heap) (mA ma)
section MR
variable {p : Program} {l : Launch} {e : Env} {R : Room} {s : State} {m : MethodId} {args : Array Value} {below : List Frame} {meth : Method} {c : Code} {H : Heap} {locs : List Loc} {cells slots : Nat} {Q : State → Prop}
variable {cc : ByteArray} {pc nL : Nat} {ls : Array Slot} {rest : List Value} {G : gG} {ma : Nat → Nat} {M : MS}
theorem mr_get (hC : CallFix p m c cc nL s args BIG RX9) (hK : gK G s) (hM : WM G ma M H) (k : Nat) {index : Nat} (hk : k < 40) (hlink : Cond.fieldLink RX9 index "ShelfSwarmModel" (TX9 k).2.1 (TX9 k).2.2.1 ∈ BIG) (h1 : (TX9 k).1 = "ShelfSwarmModel") {v : Value} (hv : mFv ma M k = v) (hdg : decode cc pc = .ok (.getfield index, 3))
    (kk : W p l e R s m args below meth c H locs cells slots Q (F0 m (pc + 3) ls (v :: rest))) : W p l e R s m args below meth c H locs cells slots Q (F0 m pc ls (.ref (ma 0) :: rest)) :=
  r1_get hC hK.1 hM.1 lay_X9 rfl k hk hlink (fun x hx => by rw [h1] at hx; exact hx) (by rw [mFs_get _ _ hk, hv]) hdg kk
theorem mr_put (hC : CallFix p m c cc nL s args BIG RX9) (hK : gK G s) (hI : mI ma) (hM : WM G ma M H) {A : Nat → Prop} (hS : va_S A s.heap H locs) (hA0 : A (ma 0)) (k : Nat) {index : Nat} (hk : k < 40) (h0 : mLen k = 0) (hlink : Cond.fieldLink RX9 index "ShelfSwarmModel" (TX9 k).2.1 (TX9 k).2.2.1 ∈ BIG) (h1 : (TX9 k).1 = "ShelfSwarmModel") (hfin : (TX9 k).2.2.2 = false) (hty : tyX9 k = .int) {x : Int32} (hdg : decode cc pc = .ok (.putfield index, 3))
    (kk : ∀ (H1 : Heap) (locs1 : List Loc), WM G ma (mset M k 0 x) H1 → va_S A s.heap H1 locs1 → W p l e R s m args below meth c H1 locs1 cells slots Q (F0 m (pc + 3) ls rest)) : W p l e R s m args below meth c H locs cells slots Q (F0 m pc ls (.int x :: .ref (ma 0) :: rest)) := by
  refine r1_put hC hK.1 hM.1 lay_X9 tyX9 tyX9_ok nmX9 rfl k hk hlink (fun x hx => by rw [h1] at hx; exact hx) hfin (by rw [hty]; rfl) (by rw [hty]; rfl) (by rw [mFs_len]; exact hk) hdg (fun H1 i e1 z oq => ?_)
  refine kk H1 _ ⟨?_, fun j hj => ?_⟩ (hS.put z oq hA0)
  · rw [← mFs_set ma M hk h0]; exact e1
  · have hjk : j ≠ k := fun q => by rw [q, h0] at hj; omega
    rw [mset_n M 0 x hjk]
    exact (hM.2 j hj).kept (oq _ (hI.1 j hj))
theorem mr_ild (hC : CallFix p m c cc nL s args BIG RX9) (hK : gK G s) (hM : WM G ma M H) (k : Nat) {i : Nat} (hi : i < mLen k) (hz : mZ k = false) {v : Int32} (hv : M k i = v) (hdg : decode cc pc = .ok (.iaload, 1))
    (kk : W p l e R s m args below meth c H locs cells slots Q (F0 m (pc + 1) ls (.int v :: rest))) : W p l e R s m args below meth c H locs cells slots Q (F0 m pc ls (.int (nI i) :: .ref (ma k) :: rest)) := by
  have h := hM.2 k (by omega)
  simp only [mCls, hz] at h
  exact r1_ild hC hK.1 0 rfl h hi (mLen_lt k) hv hdg kk
theorem mr_zld (hC : CallFix p m c cc nL s args BIG RX9) (hK : gK G s) (hM : WM G ma M H) (k : Nat) {i : Nat} (hi : i < mLen k) (hz : mZ k = true) {v : Int32} (hv : M k i = v) (hdg : decode cc pc = .ok (.baload, 1))
    (kk : W p l e R s m args below meth c H locs cells slots Q (F0 m (pc + 1) ls (.int v :: rest))) : W p l e R s m args below meth c H locs cells slots Q (F0 m pc ls (.int (nI i) :: .ref (ma k) :: rest)) := by
  have h := hM.2 k (by omega)
  simp only [mCls, hz] at h
  exact r1_zld hC hK.1 1 rfl h hi (mLen_lt k) hv hdg kk
theorem WM_row (hI : mI ma) (hM : WM G ma M H) {k i : Nat} {x : Int32} (hk : 0 < mLen k) {H1 : Heap} (h : va_at G.1 gCl (ma k, .inl (mCls G k, (mLen k, .inl (upd (M k) i x)))) H1) (oq : ∀ q : Nat, q ≠ ma k → H1[q]? = H[q]?) : WM G ma (mset M k i x) H1 := by
  refine ⟨?_, fun j hj => ?_⟩
  · have e : mFs ma (mset M k i x) = mFs ma M := by
      unfold mFs
      apply List.map_congr_left
      intro j _
      unfold mFv
      by_cases hjk : j = k
      · subst hjk
        cases hl : mLen j with
        | zero => omega
        | succ n => rfl
      · rw [mset_n M i x hjk]
    rw [e]
    exact hM.1.kept (oq _ (fun q => hI.1 k hk q.symm))
  · by_cases hjk : j = k
    · subst hjk
      rw [mset_s]
      exact h
    · rw [mset_n M i x hjk]
      exact (hM.2 j hj).kept (oq _ (fun q => hjk (hI.2 j k hj hk q)))
theorem mr_ist (hC : CallFix p m c cc nL s args BIG RX9) (hK : gK G s) (hI : mI ma) (hM : WM G ma M H) {A : Nat → Prop} (hS : va_S A s.heap H locs) (k : Nat) (hA0 : A (ma k)) {i : Nat} (hi : i < mLen k) (hz : mZ k = false) {x : Int32} (hdg : decode cc pc = .ok (.iastore, 1))
    (kk : ∀ (H1 : Heap) (locs1 : List Loc), WM G ma (mset M k i x) H1 → va_S A s.heap H1 locs1 → W p l e R s m args below meth c H1 locs1 cells slots Q (F0 m (pc + 1) ls rest)) : W p l e R s m args below meth c H locs cells slots Q (F0 m pc ls (.int x :: .int (nI i) :: .ref (ma k) :: rest)) := by
  have h := hM.2 k (by omega)
  have hc : mCls G k = G.2.1 := by simp [mCls, hz]
  rw [hc] at h
  refine r1_ist hC hK.1 0 rfl h hi (mLen_lt k) hdg (fun H1 j e1 z oq => ?_)
  exact kk H1 _ (WM_row hI hM (by omega) (by rw [hc]; exact e1) oq) (hS.put z oq hA0)
theorem mr_zst (hC : CallFix p m c cc nL s args BIG RX9) (hK : gK G s) (hI : mI ma) (hM : WM G ma M H) {A : Nat → Prop} (hS : va_S A s.heap H locs) (k : Nat) (hA0 : A (ma k)) {i : Nat} (hi : i < mLen k) (hz : mZ k = true) {x : Int32} (b : Bool) (hx : x = bI b) (hdg : decode cc pc = .ok (.bastore, 1))
    (kk : ∀ (H1 : Heap) (locs1 : List Loc), WM G ma (mset M k i (bI b)) H1 → va_S A s.heap H1 locs1 → W p l e R s m args below meth c H1 locs1 cells slots Q (F0 m (pc + 1) ls rest)) : W p l e R s m args below meth c H locs cells slots Q (F0 m pc ls (.int x :: .int (nI i) :: .ref (ma k) :: rest)) := by
  subst hx
  have h := hM.2 k (by omega)
  have hc : mCls G k = G.2.2.1 := by simp [mCls, hz]
  rw [hc] at h
  refine r1_zst hC hK.1 1 rfl h hi (mLen_lt k) hdg (fun H1 j e1 z oq => ?_)
  exact kk H1 _ (WM_row hI hM (by omega) (by rw [hc]; exact e1) oq) (hS.put z oq hA0)
theorem mA_0 : mA ma (ma 0) := Or.inl rfl
theorem mA_k {k : Nat} (h : 0 < mLen k) : mA ma (ma k) := Or.inr ⟨k, h, rfl⟩
theorem mr_recv (hK : gK G s) (hM : WM G ma M H) : ∃ cell : Cell, H[ma 0]? = some cell ∧ cell.vm.isStatics = false ∧ s.vm.findClass RX9 = some cell.cls := va_at_cell hK.1 hM.1 rfl
theorem mr_B (hK : gK G s) (hM : WM G ma M H) : ∀ U : State, U.heap = H → s.WarmedH U.vm → mB G ma M U := fun U h hW => ⟨by rw [h]; exact hM, hK.warm hW⟩
end MR

/-! CALLS AND ENDS, in one line each -/
section CL
variable {p : Program} {l : Launch} {e : Env} {R : Room} {s : State} {m : MethodId} {args : Array Value} {below : List Frame} {meth : Method} {c : Code} {H : Heap} {locs : List Loc} {cells slots : Nat} {Q : State → Prop}
variable {cc : ByteArray} {pc nL : Nat} {ls : Array Slot} {rest st0 : List Value} {own : String}
theorem gBV {C : String} {y : MethodName} {bytes : ByteArray} {maxL index : Nat} {ret : Option FieldType} (w1 : Cond.methodLink own index y ∈ BIG) (w2 : Cond.instanceMethod y ∈ BIG) (w3 : Cond.selects C y y ∈ BIG) (w4 : Cond.initialized C ∈ BIG) (w5 : Cond.code y bytes maxL ret ∈ BIG) : GoodIn BIG (wsV own index C y (wB y bytes maxL ret)) := by
  have g : ∀ {w : Cond}, w ∈ BIG → w ∈ BIG ∧ ((w.onTables && w.keeps) = true ∨ ∃ ty, w = .arrayClass ty) := fun h => ⟨h, good_of_word (BIG_good h)⟩
  intro w hw
  unfold wsV at hw
  rcases List.mem_append.mp hw with h | h
  · simp only [List.mem_cons, List.not_mem_nil, or_false] at h
    rcases h with rfl | rfl | rfl | rfl
    · exact g w1
    · exact g w2
    · exact g w3
    · exact g w4
  · exact gB0 w5 w h
theorem gBS {y : MethodName} {bytes : ByteArray} {maxL index : Nat} {ret : Option FieldType} (w1 : Cond.methodLink own index y ∈ BIG) (w2 : Cond.static y ∈ BIG) (w4 : Cond.initialized y.cls ∈ BIG) (w5 : Cond.code y bytes maxL ret ∈ BIG) : GoodIn BIG (va_wsS own index y (wB y bytes maxL ret)) := by
  have g : ∀ {w : Cond}, w ∈ BIG → w ∈ BIG ∧ ((w.onTables && w.keeps) = true ∨ ∃ ty, w = .arrayClass ty) := fun h => ⟨h, good_of_word (BIG_good h)⟩
  intro w hw
  unfold va_wsS at hw
  rcases List.mem_append.mp hw with h | h
  · simp only [List.mem_cons, List.not_mem_nil, or_false] at h
    rcases h with rfl | rfl | rfl
    · exact g w1
    · exact g w2
    · exact g w4
  · exact gB0 w5 w h
abbrev nArgs (y : MethodName) (n : Nat) : Prop := y.cls ≠ "java/lang/invoke/MethodHandle" ∧ y.cls ≠ "java/lang/invoke/VarHandle" ∧ (parseMethodDescriptor y.desc).map (fun d => d.parameters.length) = some n
theorem run_V (hC : CallFix p m c cc nL s args BIG own) {C : String} {y : MethodName} {bytes : ByteArray} {maxL index b mc ms : Nat} {ret : Option FieldType} {rm : Room} {As : List Value} {B : State → Prop} {Qc : Array Value → State → Outcome → State → Prop} {free : Addr → Prop}
    (hM : Met l y (wB y bytes maxL ret) rm (va_Pc (.ref b :: As) B) Qc mc ms free) (hrc : rm.cells = mc) (hrs : rm.slots = ms)
    (w1 : Cond.methodLink own index y ∈ BIG) (w2 : Cond.instanceMethod y ∈ BIG) (w3 : Cond.selects C y y ∈ BIG) (w4 : Cond.initialized C ∈ BIG) (w5 : Cond.code y bytes maxL ret ∈ BIG) (hd : y.cls = C ∧ nArgs y As.length)
    (hbl : FrameBlind (va_Pc (.ref b :: As) B)) (hrecv : ∃ cell : Cell, H[b]? = some cell ∧ cell.vm.isStatics = false ∧ s.vm.findClass C = some cell.cls) (hP : ∀ U : State, U.heap = H → s.WarmedH U.vm → B U)
    (hsz : ls.size = nL) (hW : (rest.map fun v => v.category).sum ≤ 8) (hR : rm.frames + 1 ≤ R.frames ∧ 8 + (maxL + 11) + rm.locals ≤ R.locals) (hf : cells + mc ≤ R.cells ∧ slots + ms ≤ R.slots) (hst : st0 = As.reverse ++ .ref b :: rest) (hdg : decode cc pc = .ok (.invokevirtual index, 3)) :
    va_Run p l e R s m args below meth c H locs cells slots mc ms (F0 m pc ls st0) rest (Qc (.ref b :: As).toArray) free :=
  va_runV (C := C) hC hM (cwV As.length hC.2.2.2.2 (gBV w1 w2 w3 w4 w5) rfl hrc hrs hd hR) ⟨hbl, hrecv, fun U hU hW => ⟨rfl, hP U hU hW⟩⟩ rfl rfl hsz hst (lv_room hW) hdg hf
theorem run_S (hC : CallFix p m c cc nL s args BIG own) {y : MethodName} {bytes : ByteArray} {maxL index mc ms : Nat} {ret : Option FieldType} {rm : Room} {As : List Value} {B : State → Prop} {Qc : Array Value → State → Outcome → State → Prop} {free : Addr → Prop}
    (hM : Met l y (wB y bytes maxL ret) rm (va_Pc As B) Qc mc ms free) (hrc : rm.cells = mc) (hrs : rm.slots = ms)
    (w1 : Cond.methodLink own index y ∈ BIG) (w2 : Cond.static y ∈ BIG) (w4 : Cond.initialized y.cls ∈ BIG) (w5 : Cond.code y bytes maxL ret ∈ BIG) (hd : nArgs y As.length)
    (hbl : FrameBlind (va_Pc As B)) (hP : ∀ U : State, U.heap = H → s.WarmedH U.vm → B U)
    (hsz : ls.size = nL) (hW : (rest.map fun v => v.category).sum ≤ 8) (hR : rm.frames + 1 ≤ R.frames ∧ 8 + (maxL + 11) + rm.locals ≤ R.locals) (hf : cells + mc ≤ R.cells ∧ slots + ms ≤ R.slots) (hst : st0 = As.reverse ++ rest) (hdg : decode cc pc = .ok (.invokestatic index, 3)) :
    va_Run p l e R s m args below meth c H locs cells slots mc ms (F0 m pc ls st0) rest (Qc As.toArray) free :=
  va_runS hC hM (va_cwS As.length hC.2.2.2.2 (gBS w1 w2 w4 w5) rfl hrc hrs hd hR) ⟨hbl, fun U hU hW => ⟨rfl, hP U hU hW⟩⟩ rfl rfl hsz hst (lv_room hW) hdg hf
theorem tB_blind {av : List Value} : FrameBlind (va_Pc av (fun _ => True)) := fun _ _ _ _ h => ⟨h.1, trivial⟩
/-- calls of the reference's methods that write -/
theorem mcl_i {G : gG} {ma : Nat → Nat} {A : Nat → Prop} {post : Int32 → MS → Prop} {a : Array Value} (hr : va_Run p l e R s m args below meth c H locs cells slots 0 0 (F0 m pc ls st0) rest (mQi G ma post a) (mA ma)) (hS : va_S A s.heap H locs) (hAA : ∀ q, mA ma q → A q)
    (kk : ∀ (r : Int32) (M' : MS) (H1 : Heap) (locs1 : List Loc), post r M' → WM G ma M' H1 → va_S A s.heap H1 locs1 → W p l e R s m args below meth c H1 locs1 cells slots Q (F0 m (pc + 3) ls (.int r :: rest))) : W p l e R s m args below meth c H locs cells slots Q (F0 m pc ls st0) :=
  va_calli hr hS (fun q _ h => hAA q h) hAA (fun r u t H1 locs1 ht _ hp hB _ _ hS1 => kk r u H1 locs1 hp (by rw [← ht]; exact hB) hS1)
theorem mcl_v {G : gG} {ma : Nat → Nat} {A : Nat → Prop} {post : MS → Prop} {a : Array Value} (hr : va_Run p l e R s m args below meth c H locs cells slots 0 0 (F0 m pc ls st0) rest (mQv G ma post a) (mA ma)) (hS : va_S A s.heap H locs) (hAA : ∀ q, mA ma q → A q)
    (kk : ∀ (M' : MS) (H1 : Heap) (locs1 : List Loc), post M' → WM G ma M' H1 → va_S A s.heap H1 locs1 → W p l e R s m args below meth c H1 locs1 cells slots Q (F0 m (pc + 3) ls rest)) : W p l e R s m args below meth c H locs cells slots Q (F0 m pc ls st0) :=
  va_callv hr hS (fun q _ h => hAA q h) hAA (fun u t H1 locs1 ht _ hp hB _ _ hS1 => kk u H1 locs1 hp (by rw [← ht]; exact hB) hS1)
/-- ends of the reference's methods that write -/
theorem rt_mi {G : gG} {ma : Nat → Nat} {M : MS} {post : Int32 → MS → Prop} {x : Int32} (hx : p.tables.exec = Jvm.exec) (hb : c.code = cc) (hr : meth.sig.returnType = some .int) (hlk : meth.locks = false) (hM : WM G ma M H) (hS : va_S (mA ma) s.heap H locs) (h : post x M) (hdg : decode cc pc = .ok (.ireturn, 1)) : W p l e R s m args below meth c H locs cells slots (MQ below (mQi G ma post) args s cells slots (mA ma)) (F0 m pc ls [.int x]) :=
  W.iret hx hb hr (fun t ht _ => ⟨⟨x, M, rfl, h, by show WM G ma M t.heap; rw [ht]; exact hM⟩, hS.F ht⟩) hS.2.2 hdg hlk
theorem rt_mz {G : gG} {ma : Nat → Nat} {M : MS} {post : Int32 → MS → Prop} {x : Int32} (b : Bool) (hx : p.tables.exec = Jvm.exec) (hb : c.code = cc) (hr : meth.sig.returnType = some .boolean) (hlk : meth.locks = false) (hM : WM G ma M H) (hS : va_S (mA ma) s.heap H locs) (he : x = bI b) (h : post (bI b) M) (hdg : decode cc pc = .ok (.ireturn, 1)) : W p l e R s m args below meth c H locs cells slots (MQ below (mQi G ma post) args s cells slots (mA ma)) (F0 m pc ls [.int x]) := by
  subst he
  exact W.zret hx hb hr (bI_nar b) (fun t ht _ => ⟨⟨bI b, M, rfl, h, by show WM G ma M t.heap; rw [ht]; exact hM⟩, hS.F ht⟩) hS.2.2 hdg hlk
theorem rt_mv {G : gG} {ma : Nat → Nat} {M : MS} {post : MS → Prop} (hx : p.tables.exec = Jvm.exec) (hb : c.code = cc) (hr : meth.sig.returnType = none) (hlk : meth.locks = false) (hM : WM G ma M H) (hS : va_S (mA ma) s.heap H locs) (h : post M) (hdg : decode cc pc = .ok (.return_, 1)) : W p l e R s m args below meth c H locs cells slots (MQ below (mQv G ma post) args s cells slots (mA ma)) (F0 m pc ls []) :=
  W.vret hx hb hr (fun t ht _ => ⟨⟨M, rfl, h, by show WM G ma M t.heap; rw [ht]; exact hM⟩, hS.F ht⟩) hS.2.2 hdg hlk
/-- a pure call, its answer under another name -/
theorem cl_pi {r x : Int32} {a : Array Value} (hr : va_Run p l e R s m args below meth c H locs cells slots 0 0 (F0 m pc ls st0) rest (k2_QcV (.int r) a) fN) (h : r = x) (kk : W p l e R s m args below meth c H locs cells slots Q (F0 m (pc + 3) ls (.int x :: rest))) : W p l e R s m args below meth c H locs cells slots Q (F0 m pc ls st0) := by
  subst h
  exact cl_p hr kk
theorem top_i {x y : Int32} (h : x = y) (k : W p l e R s m args below meth c H locs cells slots Q (F0 m pc ls (.int y :: rest))) : W p l e R s m args below meth c H locs cells slots Q (F0 m pc ls (.int x :: rest)) := h ▸ k
/-! comparisons of counters -/
theorem nI_eqI {a b : Nat} (ha : a < 2147483648) (hb : b < 2147483648) : nI a = nI b ↔ a = b := nI_eq ha hb
theorem ln_eq (hx : p.tables.exec = Jvm.exec) (hb : c.code = cc) {x y : Int32} {off : Int} {tgt a b : Nat} (hdg : decode cc pc = .ok (.if_icmp .eq off, 3)) (ht : (pc : Int) + off = (tgt : Int)) (ea : x = nI a) (eb : y = nI b) (ha : a < 2147483648) (hb2 : b < 2147483648)
    (kt : a = b → W p l e R s m args below meth c H locs cells slots Q (F0 m tgt ls rest)) (kf : ¬ a = b → W p l e R s m args below meth c H locs cells slots Q (F0 m (pc + 3) ls rest)) : W p l e R s m args below meth c H locs cells slots Q (F0 m pc ls (.int y :: .int x :: rest)) := by
  subst ea; subst eb
  exact lv_icmp_eq hx hb hdg ht (fun h => kt ((nI_eq ha hb2).mp h)) (fun h => kf (fun q => h ((nI_eq ha hb2).mpr q)))
theorem ln_ne (hx : p.tables.exec = Jvm.exec) (hb : c.code = cc) {x y : Int32} {off : Int} {tgt a b : Nat} (hdg : decode cc pc = .ok (.if_icmp .ne off, 3)) (ht : (pc : Int) + off = (tgt : Int)) (ea : x = nI a) (eb : y = nI b) (ha : a < 2147483648) (hb2 : b < 2147483648)
    (kt : ¬ a = b → W p l e R s m args below meth c H locs cells slots Q (F0 m tgt ls rest)) (kf : a = b → W p l e R s m args below meth c H locs cells slots Q (F0 m (pc + 3) ls rest)) : W p l e R s m args below meth c H locs cells slots Q (F0 m pc ls (.int y :: .int x :: rest)) := by
  subst ea; subst eb
  exact lv_icmp_ne hx hb hdg ht (fun h => kt (fun q => h ((nI_eq ha hb2).mpr q))) (fun h => kf ((nI_eq ha hb2).mp h))
theorem ln_lt (hx : p.tables.exec = Jvm.exec) (hb : c.code = cc) {x y : Int32} {off : Int} {tgt a b : Nat} (hdg : decode cc pc = .ok (.if_icmp .lt off, 3)) (ht : (pc : Int) + off = (tgt : Int)) (ea : x = nI a) (eb : y = nI b) (ha : a < 2147483648) (hb2 : b < 2147483648)
    (kt : a < b → W p l e R s m args below meth c H locs cells slots Q (F0 m tgt ls rest)) (kf : ¬ a < b → W p l e R s m args below meth c H locs cells slots Q (F0 m (pc + 3) ls rest)) : W p l e R s m args below meth c H locs cells slots Q (F0 m pc ls (.int y :: .int x :: rest)) := by
  subst ea; subst eb
  exact lv_icmp_lt hx hb hdg ht (fun h => kt ((nI_ltI ha hb2).mp h)) (fun h => kf (fun q => h ((nI_ltI ha hb2).mpr q)))
theorem ln_ge (hx : p.tables.exec = Jvm.exec) (hb : c.code = cc) {x y : Int32} {off : Int} {tgt a b : Nat} (hdg : decode cc pc = .ok (.if_icmp .ge off, 3)) (ht : (pc : Int) + off = (tgt : Int)) (ea : x = nI a) (eb : y = nI b) (ha : a < 2147483648) (hb2 : b < 2147483648)
    (kt : b ≤ a → W p l e R s m args below meth c H locs cells slots Q (F0 m tgt ls rest)) (kf : ¬ b ≤ a → W p l e R s m args below meth c H locs cells slots Q (F0 m (pc + 3) ls rest)) : W p l e R s m args below meth c H locs cells slots Q (F0 m pc ls (.int y :: .int x :: rest)) := by
  subst ea; subst eb
  exact lv_icmp_ge hx hb hdg ht (fun h => kt ((nI_leI hb2 ha).mp h)) (fun h => kf (fun q => h ((nI_leI hb2 ha).mpr q)))
theorem ln_gt (hx : p.tables.exec = Jvm.exec) (hb : c.code = cc) {x y : Int32} {off : Int} {tgt a b : Nat} (hdg : decode cc pc = .ok (.if_icmp .gt off, 3)) (ht : (pc : Int) + off = (tgt : Int)) (ea : x = nI a) (eb : y = nI b) (ha : a < 2147483648) (hb2 : b < 2147483648)
    (kt : b < a → W p l e R s m args below meth c H locs cells slots Q (F0 m tgt ls rest)) (kf : ¬ b < a → W p l e R s m args below meth c H locs cells slots Q (F0 m (pc + 3) ls rest)) : W p l e R s m args below meth c H locs cells slots Q (F0 m pc ls (.int y :: .int x :: rest)) := by
  subst ea; subst eb
  exact lv_icmp_gt hx hb hdg ht (fun h => kt ((nI_ltI hb2 ha).mp h)) (fun h => kf (fun q => h ((nI_ltI hb2 ha).mpr q)))
theorem ln_le (hx : p.tables.exec = Jvm.exec) (hb : c.code = cc) {x y : Int32} {off : Int} {tgt a b : Nat} (hdg : decode cc pc = .ok (.if_icmp .le off, 3)) (ht : (pc : Int) + off = (tgt : Int)) (ea : x = nI a) (eb : y = nI b) (ha : a < 2147483648) (hb2 : b < 2147483648)
    (kt : a ≤ b → W p l e R s m args below meth c H locs cells slots Q (F0 m tgt ls rest)) (kf : ¬ a ≤ b → W p l e R s m args below meth c H locs cells slots Q (F0 m (pc + 3) ls rest)) : W p l e R s m args below meth c H locs cells slots Q (F0 m pc ls (.int y :: .int x :: rest)) := by
  subst ea; subst eb
  exact lv_icmp_le hx hb hdg ht (fun h => kt ((nI_leI ha hb2).mp h)) (fun h => kf (fun q => h ((nI_leI ha hb2).mpr q)))
theorem lb_eq (hx : p.tables.exec = Jvm.exec) (hb : c.code = cc) {b : Bool} {off : Int} {tgt : Nat} (hdg : decode cc pc = .ok (.ifCond .eq off, 3)) (ht : (pc : Int) + off = (tgt : Int))
    (kt : b = false → W p l e R s m args below meth c H locs cells slots Q (F0 m tgt ls rest)) (kf : b = true → W p l e R s m args below meth c H locs cells slots Q (F0 m (pc + 3) ls rest)) : W p l e R s m args below meth c H locs cells slots Q (F0 m pc ls (.int (bI b) :: rest)) :=
  lv_if_eq hx hb hdg ht (fun h => kt (by cases b <;> simp_all [bI])) (fun h => kf (by cases b <;> simp_all [bI]))
theorem lb_ne (hx : p.tables.exec = Jvm.exec) (hb : c.code = cc) {b : Bool} {off : Int} {tgt : Nat} (hdg : decode cc pc = .ok (.ifCond .ne off, 3)) (ht : (pc : Int) + off = (tgt : Int))
    (kt : b = true → W p l e R s m args below meth c H locs cells slots Q (F0 m tgt ls rest)) (kf : b = false → W p l e R s m args below meth c H locs cells slots Q (F0 m (pc + 3) ls rest)) : W p l e R s m args below meth c H locs cells slots Q (F0 m pc ls (.int (bI b) :: rest)) :=
  lv_if_ne hx hb hdg ht (fun h => kt (by cases b <;> simp_all [bI])) (fun h => kf (by cases b <;> simp_all [bI]))
end CL
theorem nI_inc (k : Nat) : nI k + Int32.ofInt 1 = nI (k + 1) := nI_1 k
theorem nI_dec (k : Nat) : nI (k + 1) + Int32.ofInt (-1) = nI k := by rw [show Int32.ofInt (-1) = -1 from by decide]; exact pk_m1 k
/-- a method's start, args and end named -/
theorem st_N {l : Launch} {y : MethodName} {cc : ByteArray} {maxL : Nat} {ret : Option FieldType} {rm : Room} {av : List Value} {B : State → Prop} {Qc : Array Value → State → Outcome → State → Prop} {mc ms : Nat} {free : Addr → Prop} {own : String} (hy : plainName y.cls = true) (hyo : y.cls = own) (hn : (lg_sl av).length ≤ maxL)
    (body : ∀ (p : Program) (e : Env) (s : State) (m : MethodId) (below : List Frame) (meth : Method) (c : Code) (ls : Array Slot) (args : Array Value) (Q : State → Prop), MQ below Qc args s mc ms free = Q → CallFix p m c cc maxL s args BIG own → meth.sig.returnType = ret → meth.locks = false → meth.name = y.name → lv_has ls maxL (lv_args 0 av) → B s →
      W p l e rm s m args below meth c s.heap [] 0 0 Q (F0 m 0 ls [])) : Met l y (wB y cc maxL ret) rm (va_Pc av B) Qc mc ms free :=
  st_M hy hyo hn (fun p e s m below meth c ls hx hb hr hB hown hml hlk hnm hl hP => body p e s m below meth c ls _ _ rfl ⟨hx, hb, hml, hown, hB⟩ hr hlk hnm hl hP)
theorem nI_m1 {k : Nat} (h : k < 2147483648) : ¬ nI k = -1 := by
  intro q
  have h1 := nI_toInt (n := k) h
  rw [q] at h1
  have h2 : (-1 : Int32).toInt = -1 := by decide
  omega
end
section
/-! THE REFERENCE'S METHODS AS FUNCTIONS -/
def oI (o : Option Nat) : Int32 := match o with
  | none => -1
  | some k => nI k
theorem oI_none : oI none = -1 := rfl
theorem oI_some (k : Nat) : oI (some k) = nI k := rfl
def nR (M : MS) : Nat := (M 17 0).toNatClampNeg
def nS (M : MS) : Nat := (M 4 0).toNatClampNeg
def nT (M : MS) : Nat := (M 6 0).toNatClampNeg
def nO (M : MS) : Nat := (M 10 0).toNatClampNeg
def nL (M : MS) (o : Nat) : Nat := (M 11 o).toNatClampNeg
def nP (M : MS) : Nat := (M 34 0).toNatClampNeg
/-- the counts -/
def CNT (M : MS) : Prop := (M 17 0 = nI (nR M) ∧ nR M ≤ 6) ∧ (M 4 0 = nI (nS M) ∧ nS M ≤ 3) ∧ (M 6 0 = nI (nT M) ∧ nT M ≤ 16) ∧ (M 10 0 = nI (nO M) ∧ nO M ≤ 10) ∧ ∀ o, o < 10 → M 11 o = nI (nL M o) ∧ nL M o ≤ 3
theorem CNT.R {M : MS} (h : CNT M) : M 17 0 = nI (nR M) := h.1.1
theorem CNT.R6 {M : MS} (h : CNT M) : nR M ≤ 6 := h.1.2
theorem CNT.S {M : MS} (h : CNT M) : M 4 0 = nI (nS M) := h.2.1.1
theorem CNT.S3 {M : MS} (h : CNT M) : nS M ≤ 3 := h.2.1.2
theorem CNT.T {M : MS} (h : CNT M) : M 6 0 = nI (nT M) := h.2.2.1.1
theorem CNT.T16 {M : MS} (h : CNT M) : nT M ≤ 16 := h.2.2.1.2
theorem CNT.O {M : MS} (h : CNT M) : M 10 0 = nI (nO M) := h.2.2.2.1.1
theorem CNT.O10 {M : MS} (h : CNT M) : nO M ≤ 10 := h.2.2.2.1.2
theorem CNT.L {M : MS} (h : CNT M) {o : Nat} (ho : o < 10) : M 11 o = nI (nL M o) := (h.2.2.2.2 o ho).1
theorem CNT.L3 {M : MS} (h : CNT M) {o : Nat} (ho : o < 10) : nL M o ≤ 3 := (h.2.2.2.2 o ho).2
def cntRow (k : Nat) : Bool := k == 17 || k == 4 || k == 6 || k == 10 || k == 11
theorem CNT.congr {M M' : MS} (h : CNT M) (e : ∀ k, cntRow k = true → M' k = M k) : CNT M' := by
  have e1 := e 17 rfl
  have e2 := e 4 rfl
  have e3 := e 6 rfl
  have e4 := e 10 rfl
  have e5 := e 11 rfl
  unfold CNT nR nS nT nO nL at *
  rw [e1, e2, e3, e4, e5]
  exact h
theorem CNT.set {M : MS} (h : CNT M) {k j : Nat} {v : Int32} (hk : cntRow k = false) : CNT (mset M k j v) :=
  h.congr (fun k' hk' => mset_n M j v (fun e => by rw [e, hk] at hk'; cases hk'))
/-- the last index below n at which f is x -/
def lastE (f : Nat → Int32) (x : Int32) : Nat → Option Nat
  | 0 => none
  | n + 1 => if f n = x then some n else lastE f x n
def rbA (M : MS) (x : Int32) : Option Nat := lastE (M 18) x (nR M)
def stA (M : MS) (x : Int32) : Option Nat := lastE (M 5) x (nS M)
def hmA (M : MS) (x : Int32) : Option Nat := lastE (M 7) x (nT M)
theorem lastE_lt {f : Nat → Int32} {x : Int32} : ∀ {n k : Nat}, lastE f x n = some k → k < n ∧ f k = x
  | 0, k, h => by simp [lastE] at h
  | n + 1, k, h => by
    unfold lastE at h
    split at h
    · cases h; exact ⟨Nat.lt_succ_self _, by assumption⟩
    · have := lastE_lt h; exact ⟨by omega, this.2⟩
theorem lastE_none {f : Nat → Int32} {x : Int32} : ∀ {n : Nat}, lastE f x n = none ↔ ∀ k, k < n → f k ≠ x
  | 0 => by simp [lastE]
  | n + 1 => by
    unfold lastE
    split
    · rename_i h
      simp only [reduceCtorEq, false_iff]
      exact fun q => q n (Nat.lt_succ_self n) h
    · rename_i h
      rw [lastE_none]
      exact ⟨fun q k hk => if e : k = n then by rw [e]; exact h else q k (by omega), fun q k hk => q k (by omega)⟩
theorem lastE_step_t {f : Nat → Int32} {x : Int32} {n : Nat} (h : f n = x) : lastE f x (n + 1) = some n := by rw [lastE, if_pos h]
theorem lastE_step_f {f : Nat → Int32} {x : Int32} {n : Nat} (h : ¬ f n = x) : lastE f x (n + 1) = lastE f x n := by rw [lastE, if_neg h]
def inB (v n : Int32) : Bool := !decide (v < 0) && !decide (n ≤ v)
/-- a cell is open -/
def opnB (M : MS) (j : Nat) : Bool := decide (M 2 j = 0) && (decide (M 3 j = 0) && (match rbA M (nI j) with | none => true | some r => decide (¬ M 20 r = 5)))
/-- neighbours: 0 above, 1 left, 2 right, 3 below -/
def nbr (j way : Nat) : Option Nat := match way with
  | 0 => if 8 ≤ j then some (j - 8) else none
  | 1 => if j % 8 = 0 then none else some (j - 1)
  | 2 => if j % 8 = 7 then none else some (j + 1)
  | _ => if j < 56 then some (j + 8) else none
end
section
theorem na_X9_init : nArgs yX9_init 0 := ⟨by decide, by decide, by decide +kernel⟩
theorem na_X9_thrown : nArgs yX9_thrown 0 := ⟨by decide, by decide, by decide +kernel⟩
theorem na_X9_wall : nArgs yX9_wall 1 := ⟨by decide, by decide, by decide +kernel⟩
theorem na_X9_isCell : nArgs yX9_isCell 1 := ⟨by decide, by decide, by decide +kernel⟩
theorem na_X9_isIn : nArgs yX9_isIn 2 := ⟨by decide, by decide, by decide +kernel⟩
theorem na_X9_homeOf : nArgs yX9_homeOf 1 := ⟨by decide, by decide, by decide +kernel⟩
theorem na_X9_stationAt : nArgs yX9_stationAt 1 := ⟨by decide, by decide, by decide +kernel⟩
theorem na_X9_robotAt : nArgs yX9_robotAt 1 := ⟨by decide, by decide, by decide +kernel⟩
theorem na_X9_holds : nArgs yX9_holds 1 := ⟨by decide, by decide, by decide +kernel⟩
theorem na_X9_setClosed : nArgs yX9_setClosed 2 := ⟨by decide, by decide, by decide +kernel⟩
theorem na_X9_distance : nArgs yX9_distance 2 := ⟨by decide, by decide, by decide +kernel⟩
theorem na_X9_distanceOf : nArgs yX9_distanceOf 2 := ⟨by decide, by decide, by decide +kernel⟩
theorem na_X9_lays : nArgs yX9_lays 2 := ⟨by decide, by decide, by decide +kernel⟩
theorem na_X9_isOpen : nArgs yX9_isOpen 1 := ⟨by decide, by decide, by decide +kernel⟩
theorem na_X9_neighbour : nArgs yX9_neighbour 2 := ⟨by decide, by decide, by decide +kernel⟩
theorem na_X9_nearest : nArgs yX9_nearest 1 := ⟨by decide, by decide, by decide +kernel⟩
theorem na_X9_addStation : nArgs yX9_addStation 1 := ⟨by decide, by decide, by decide +kernel⟩
theorem na_X9_addTray : nArgs yX9_addTray 3 := ⟨by decide, by decide, by decide +kernel⟩
theorem na_X9_fill : nArgs yX9_fill 2 := ⟨by decide, by decide, by decide +kernel⟩
theorem na_X9_isTray : nArgs yX9_isTray 1 := ⟨by decide, by decide, by decide +kernel⟩
theorem na_X9_robotWith : nArgs yX9_robotWith 2 := ⟨by decide, by decide, by decide +kernel⟩
theorem na_X9_addOrder : nArgs yX9_addOrder 0 := ⟨by decide, by decide, by decide +kernel⟩
theorem na_X9_addLine : nArgs yX9_addLine 3 := ⟨by decide, by decide, by decide +kernel⟩
theorem na_X9_claim : nArgs yX9_claim 3 := ⟨by decide, by decide, by decide +kernel⟩
theorem na_X9_isLine : nArgs yX9_isLine 2 := ⟨by decide, by decide, by decide +kernel⟩
theorem na_X9_giveUp : nArgs yX9_giveUp 2 := ⟨by decide, by decide, by decide +kernel⟩
theorem na_X9_becomes : nArgs yX9_becomes 2 := ⟨by decide, by decide, by decide +kernel⟩
theorem na_X9_left : nArgs yX9_left 2 := ⟨by decide, by decide, by decide +kernel⟩
theorem na_X9_claimant : nArgs yX9_claimant 2 := ⟨by decide, by decide, by decide +kernel⟩
theorem na_X9_amount : nArgs yX9_amount 1 := ⟨by decide, by decide, by decide +kernel⟩
theorem na_X9_trayCell : nArgs yX9_trayCell 1 := ⟨by decide, by decide, by decide +kernel⟩
theorem na_X9_addRobot : nArgs yX9_addRobot 2 := ⟨by decide, by decide, by decide +kernel⟩
theorem na_X9_die : nArgs yX9_die 1 := ⟨by decide, by decide, by decide +kernel⟩
theorem na_X9_isRobot : nArgs yX9_isRobot 1 := ⟨by decide, by decide, by decide +kernel⟩
theorem na_X9_repair : nArgs yX9_repair 1 := ⟨by decide, by decide, by decide +kernel⟩
theorem na_X9_robotIn : nArgs yX9_robotIn 1 := ⟨by decide, by decide, by decide +kernel⟩
theorem na_X9_cellOf : nArgs yX9_cellOf 1 := ⟨by decide, by decide, by decide +kernel⟩
theorem na_X9_state : nArgs yX9_state 1 := ⟨by decide, by decide, by decide +kernel⟩
theorem na_X9_trayOf : nArgs yX9_trayOf 1 := ⟨by decide, by decide, by decide +kernel⟩
theorem na_X9_asked : nArgs yX9_asked 1 := ⟨by decide, by decide, by decide +kernel⟩
theorem na_X9_tick : nArgs yX9_tick 1 := ⟨by decide, by decide, by decide +kernel⟩
theorem na_X9_passes : nArgs yX9_passes 0 := ⟨by decide, by decide, by decide +kernel⟩
theorem na_X9_picksFrom : nArgs yX9_picksFrom 1 := ⟨by decide, by decide, by decide +kernel⟩
theorem na_X9_serves : nArgs yX9_serves 1 := ⟨by decide, by decide, by decide +kernel⟩
theorem na_X9_hasRobot : nArgs yX9_hasRobot 1 := ⟨by decide, by decide, by decide +kernel⟩
theorem na_X9_sends : nArgs yX9_sends 2 := ⟨by decide, by decide, by decide +kernel⟩
theorem na_X9_trayFor : nArgs yX9_trayFor 2 := ⟨by decide, by decide, by decide +kernel⟩
theorem na_X9_robotFor : nArgs yX9_robotFor 1 := ⟨by decide, by decide, by decide +kernel⟩
theorem na_X9_asksFor : nArgs yX9_asksFor 1 := ⟨by decide, by decide, by decide +kernel⟩
theorem na_X9_goalOf : nArgs yX9_goalOf 1 := ⟨by decide, by decide, by decide +kernel⟩
theorem na_X9_resolves : nArgs yX9_resolves 0 := ⟨by decide, by decide, by decide +kernel⟩
theorem na_X9_ringOf : nArgs yX9_ringOf 1 := ⟨by decide, by decide, by decide +kernel⟩
theorem na_X9_nextOf : nArgs yX9_nextOf 1 := ⟨by decide, by decide, by decide +kernel⟩
theorem na_X9_turns : nArgs yX9_turns 1 := ⟨by decide, by decide, by decide +kernel⟩
theorem na_X9_moves : nArgs yX9_moves 2 := ⟨by decide, by decide, by decide +kernel⟩
theorem na_X9_isAbove : nArgs yX9_isAbove 2 := ⟨by decide, by decide, by decide +kernel⟩
theorem na_X9_yieldsTo : nArgs yX9_yieldsTo 2 := ⟨by decide, by decide, by decide +kernel⟩
theorem na_X9_isAsked : nArgs yX9_isAsked 1 := ⟨by decide, by decide, by decide +kernel⟩
theorem na_X9_stepsAside : nArgs yX9_stepsAside 1 := ⟨by decide, by decide, by decide +kernel⟩
theorem na_X9_goes : nArgs yX9_goes 0 := ⟨by decide, by decide, by decide +kernel⟩
theorem na_X9_arrives : nArgs yX9_arrives 1 := ⟨by decide, by decide, by decide +kernel⟩
theorem na_X9_time : nArgs yX9_time 0 := ⟨by decide, by decide, by decide +kernel⟩
theorem na_X9_steps : nArgs yX9_steps 0 := ⟨by decide, by decide, by decide +kernel⟩
theorem na_X9_rings : nArgs yX9_rings 0 := ⟨by decide, by decide, by decide +kernel⟩
theorem na_X9_yields : nArgs yX9_yields 0 := ⟨by decide, by decide, by decide +kernel⟩
theorem na_X9_knots : nArgs yX9_knots 0 := ⟨by decide, by decide, by decide +kernel⟩
theorem na_X9_stock : nArgs yX9_stock 1 := ⟨by decide, by decide, by decide +kernel⟩
theorem na_X9_stockByPicks : nArgs yX9_stockByPicks 1 := ⟨by decide, by decide, by decide +kernel⟩
theorem na_X9_picks : nArgs yX9_picks 0 := ⟨by decide, by decide, by decide +kernel⟩
theorem na_X9_pickedFrom : nArgs yX9_pickedFrom 1 := ⟨by decide, by decide, by decide +kernel⟩
theorem na_X9_isPick : nArgs yX9_isPick 1 := ⟨by decide, by decide, by decide +kernel⟩
theorem na_X9_pickedFor : nArgs yX9_pickedFor 1 := ⟨by decide, by decide, by decide +kernel⟩
theorem na_X9_pickedIn : nArgs yX9_pickedIn 1 := ⟨by decide, by decide, by decide +kernel⟩
set_option maxHeartbeats 4000000 in
set_option maxRecDepth 100000 in
theorem c9_thrown (l : Launch) (G : gG) (ma : Nat → Nat) (M : MS) : Met l yX9_thrown (wB yX9_thrown cX9_thrown 1 (some .int)) (rmL 0 0 0) (va_Pc [.ref (ma 0)] (mB G ma M)) (k2_QcV (.int (M 0 0))) 0 0 fN := by
  refine st_N (own := RX9) (by decide +kernel) rfl (Nat.le_of_ble_eq_true rfl) ?_
  intro p e s m below meth c ls args Q hQ hC hr hlk hnm hl hP
  obtain ⟨hM, hK⟩ := hP
  have hx := hC.1
  have hb := hC.2.1
  have hl : lv_has ls 1 [(0, .ref (ma 0))] := hl
  refine lv_aload_n hx hb dX9_thrown_0 rfl (lv_at hl 0 rfl) ?_
  refine mr_get hC hK hM 0 (by decide) fl_X9_95 rfl (v := .int (M 0 0)) rfl dX9_thrown_1 ?_
  subst hQ
  exact rt_i hx hb hr hlk (rfl) dX9_thrown_4
set_option maxHeartbeats 4000000 in
set_option maxRecDepth 100000 in
theorem c9_isIn (l : Launch) (v : Int32) (many : Int32) : Met l yX9_isIn (wB yX9_isIn cX9_isIn 2 (some .boolean)) (rmL 0 0 0) (va_Pc [.int v, .int many] (fun _ => True)) (k2_QcV (.int (bI (inB v many)))) 0 0 fN := by
  refine st_N (own := RX9) (by decide +kernel) rfl (Nat.le_of_ble_eq_true rfl) ?_
  intro p e s m below meth c ls args Q hQ hC hr hlk hnm hl hP
  have hx := hC.1
  have hb := hC.2.1
  have hl : lv_has ls 2 [(0, .int v), (1, .int many)] := hl
  refine lv_iload_n hx hb dX9_isIn_0 rfl (lv_at hl 0 rfl) ?_
  refine lv_if_lt (tgt := 13) hx hb dX9_isIn_1 (by decide) (fun c_1t => ?_) (fun c_1f => ?_)
  · refine lv_iconst (v := 0) hx hb dX9_isIn_13 (by decide) ?_
    subst hQ
    exact rt_z hx hb hr hlk (by simp [inB, bI, c_1t]) dX9_isIn_14
  · refine lv_iload_n hx hb dX9_isIn_4 rfl (lv_at hl 0 rfl) ?_
    refine lv_iload_n hx hb dX9_isIn_5 rfl (lv_at hl 1 rfl) ?_
    refine lv_icmp_ge (tgt := 13) hx hb dX9_isIn_6 (by decide) (fun c_2t => ?_) (fun c_2f => ?_)
    · refine lv_iconst (v := 0) hx hb dX9_isIn_13 (by decide) ?_
      subst hQ
      exact rt_z hx hb hr hlk (by simp [inB, bI, c_1f, c_2t]) dX9_isIn_14
    · refine lv_iconst (v := 1) hx hb dX9_isIn_9 (by decide) ?_
      refine lv_goto (tgt := 14) hx hb dX9_isIn_10 (by decide) ?_
      subst hQ
      exact rt_z hx hb hr hlk (by simp [inB, bI, c_1f, c_2f]) dX9_isIn_14
set_option maxHeartbeats 4000000 in
set_option maxRecDepth 100000 in
theorem c9_isCell (l : Launch) (v : Int32) : Met l yX9_isCell (wB yX9_isCell cX9_isCell 1 (some .boolean)) (rmL 1 0 0) (va_Pc [.int v] (fun _ => True)) (k2_QcV (.int (bI (inB v 64)))) 0 0 fN := by
  refine st_N (own := RX9) (by decide +kernel) rfl (Nat.le_of_ble_eq_true rfl) ?_
  intro p e s m below meth c ls args Q hQ hC hr hlk hnm hl hP
  have hx := hC.1
  have hb := hC.2.1
  have hl : lv_has ls 1 [(0, .int v)] := hl
  refine lv_iload_n hx hb dX9_isCell_0 rfl (lv_at hl 0 rfl) ?_
  refine lv_bipush (v := 64) hx hb dX9_isCell_1 (by decide) ?_
  refine cl_p (run_S hC (c9_isIn l v 64) (As := [.int v, .int 64]) (rest := []) rfl rfl ml_X9_99 sm_X9_isIn ini_X9 cd_X9_isIn na_X9_isIn tB_blind (fun _ _ _ => trivial) hl.1 (Nat.le_of_ble_eq_true rfl) ⟨Nat.le_of_ble_eq_true rfl, Nat.le_of_ble_eq_true rfl⟩ ⟨Nat.le_refl _, Nat.le_refl _⟩ rfl dX9_isCell_3) ?_
  subst hQ
  exact rt_z hx hb hr hlk (rfl) dX9_isCell_6
set_option maxHeartbeats 4000000 in
set_option maxRecDepth 100000 in
theorem c9_holds (l : Launch) (G : gG) (ma : Nat → Nat) (M : MS) (place : Int32) (hI : mI ma) : Met l yX9_holds (wB yX9_holds cX9_holds 2 (some .boolean)) (rmL 0 0 0) (va_Pc [.ref (ma 0), .int place] (mB G ma M)) (mQi G ma (fun r M' => r = bI (decide (place = 0)) ∧ M' = mset M 0 0 place)) 0 0 (mA ma) := by
  refine st_N (own := RX9) (by decide +kernel) rfl (Nat.le_of_ble_eq_true rfl) ?_
  intro p e s m below meth c ls args Q hQ hC hr hlk hnm hl hP
  obtain ⟨hM, hK⟩ := hP
  have hx := hC.1
  have hb := hC.2.1
  have hl : lv_has ls 2 [(0, .ref (ma 0)), (1, .int place)] := hl
  have hS : va_S (mA ma) s.heap s.heap [] := va_S.rf
  obtain ⟨H, locs, hHe, hLe⟩ : ∃ (H : Heap) (locs : List Loc), H = s.heap ∧ locs = [] := ⟨_, _, rfl, rfl⟩
  rw [← hHe] at hM
  have hS : va_S (mA ma) s.heap H locs := by rw [hHe, hLe]; exact va_S.rf
  suffices hgo : W p l e (rmL 0 0 0) s m args below meth c H locs 0 0 Q (F0 m 0 ls []) by
    rw [hHe, hLe] at hgo
    exact hgo
  clear hHe hLe
  refine lv_aload_n hx hb dX9_holds_0 rfl (lv_at hl 0 rfl) ?_
  refine lv_iload_n hx hb dX9_holds_1 rfl (lv_at hl 1 rfl) ?_
  refine mr_put hC hK hI hM hS mA_0 0 (by decide) rfl fl_X9_95 rfl rfl rfl dX9_holds_2 (fun H locs hM hS => ?_)
  refine lv_iload_n hx hb dX9_holds_5 rfl (lv_at hl 1 rfl) ?_
  refine lv_if_ne (tgt := 13) hx hb dX9_holds_6 (by decide) (fun c_1t => ?_) (fun c_1f => ?_)
  · refine lv_iconst (v := 0) hx hb dX9_holds_13 (by decide) ?_
    subst hQ
    exact rt_mz false hx hb hr hlk hM hS rfl (⟨by simp [bI, c_1t], rfl⟩) dX9_holds_14
  · refine lv_iconst (v := 1) hx hb dX9_holds_9 (by decide) ?_
    refine lv_goto (tgt := 14) hx hb dX9_holds_10 (by decide) ?_
    subst hQ
    exact rt_mz true hx hb hr hlk hM hS rfl (⟨by simp [bI, c_1f], rfl⟩) dX9_holds_14
set_option maxHeartbeats 4000000 in
set_option maxRecDepth 100000 in
theorem c9_robotAt (l : Launch) (G : gG) (ma : Nat → Nat) (M : MS) (x : Int32) (hcnt : CNT M) : Met l yX9_robotAt (wB yX9_robotAt cX9_robotAt 4 (some .int)) (rmL 0 0 0) (va_Pc [.ref (ma 0), .int x] (mB G ma M)) (k2_QcV (.int (oI (rbA M x)))) 0 0 fN := by
  refine st_N (own := RX9) (by decide +kernel) rfl (Nat.le_of_ble_eq_true rfl) ?_
  intro p e s m below meth c ls args Q hQ hC hr hlk hnm hl hP
  obtain ⟨hM, hK⟩ := hP
  have hx := hC.1
  have hb := hC.2.1
  have hl : lv_has ls 4 [(0, .ref (ma 0)), (1, .int x)] := hl
  have h6 := hcnt.R6
  refine lv_iconst (v := (-1)) hx hb dX9_robotAt_0 (by decide) ?_
  refine lv_istore_n (lv' := [(2, .int (-1)), (0, .ref (ma 0)), (1, .int x)]) hx hb dX9_robotAt_1 rfl hl (by decide) rfl (fun ls hl => ?_)
  refine lv_iconst (v := 0) hx hb dX9_robotAt_2 (by decide) ?_
  refine lv_istore_n (lv' := [(3, .int 0), (2, .int (-1)), (0, .ref (ma 0)), (1, .int x)]) hx hb dX9_robotAt_3 rfl hl (by decide) rfl (fun ls hl => ?_)
  have loop1 : ∀ (n : Nat) (k : Nat) (r : Option Nat) (ls : Array Slot) (hk : k ≤ nR M) (hrr : r = lastE (M 18) x k), nR M - k < n → lv_has ls 4 [(3, .int (nI k)), (2, .int (oI r)), (0, .ref (ma 0)), (1, .int x)] → W p l e (rmL 0 0 0) s m args below meth c s.heap [] 0 0 Q (F0 m 4 ls []) := by
    intro n
    induction n with
    | zero => intro k r ls hk hrr hm hl; omega
    | succ n ih1 =>
      intro k r ls hk hrr hm hl
      refine lv_iload_n hx hb dX9_robotAt_4 rfl (lv_at hl 0 rfl) ?_
      refine lv_aload_n hx hb dX9_robotAt_5 rfl (lv_at hl 2 rfl) ?_
      refine mr_get hC hK hM 17 (by decide) fl_X9_103 rfl (v := .int (nI (nR M))) (congrArg Value.int (show M 17 0 = (nI (nR M)) from hcnt.R)) dX9_robotAt_6 ?_
      refine ln_ge (tgt := 34) (a := k) (b := (nR M)) hx hb dX9_robotAt_9 (by decide) rfl rfl (by omega) (by omega) (fun c_2t => ?_) (fun c_2f => ?_)
      · refine lv_iload_n hx hb dX9_robotAt_34 rfl (lv_at hl 1 rfl) ?_
        subst hQ
        exact rt_i hx hb hr hlk (by rw [hrr, show k = nR M by omega]; rfl) dX9_robotAt_35
      · refine lv_aload_n hx hb dX9_robotAt_12 rfl (lv_at hl 2 rfl) ?_
        refine mr_get hC hK hM 18 (by decide) fl_X9_44 rfl (v := .ref (ma 18)) rfl dX9_robotAt_13 ?_
        refine lv_iload_n hx hb dX9_robotAt_16 rfl (lv_at hl 0 rfl) ?_
        refine mr_ild hC hK hM 18 (i := k) (show k < 6 from by omega) rfl (v := M 18 k) rfl dX9_robotAt_17 ?_
        refine lv_iload_n hx hb dX9_robotAt_18 rfl (lv_at hl 3 rfl) ?_
        refine lv_icmp_ne (tgt := 26) hx hb dX9_robotAt_19 (by decide) (fun c_3t => ?_) (fun c_3f => ?_)
        · refine lv_iload_n hx hb dX9_robotAt_26 rfl (lv_at hl 1 rfl) ?_
          refine lv_istore_n (lv' := [(2, .int (oI r)), (3, .int (nI k)), (0, .ref (ma 0)), (1, .int x)]) hx hb dX9_robotAt_27 rfl hl (by decide) rfl (fun ls hl => ?_)
          refine lv_iinc (v := nI (k + 1)) (lv' := [(3, .int (nI (k + 1))), (2, .int (oI r)), (0, .ref (ma 0)), (1, .int x)]) hx hb dX9_robotAt_28 hl (k := 1) rfl (nI_inc _) (by decide) rfl (fun ls hl => ?_)
          refine lv_goto (tgt := 4) hx hb dX9_robotAt_31 (by decide) ?_
          exact ih1 (k + 1) r ls (by omega) (hrr.trans (lastE_step_f c_3t).symm) (by omega) (lv_sub hl [0, 1, 2, 3] rfl)
        · refine lv_iload_n hx hb dX9_robotAt_22 rfl (lv_at hl 0 rfl) ?_
          refine lv_goto (tgt := 27) hx hb dX9_robotAt_23 (by decide) ?_
          refine lv_istore_n (lv' := [(2, .int (nI k)), (3, .int (nI k)), (0, .ref (ma 0)), (1, .int x)]) hx hb dX9_robotAt_27 rfl hl (by decide) rfl (fun ls hl => ?_)
          refine lv_iinc (v := nI (k + 1)) (lv' := [(3, .int (nI (k + 1))), (2, .int (nI k)), (0, .ref (ma 0)), (1, .int x)]) hx hb dX9_robotAt_28 hl (k := 1) rfl (nI_inc _) (by decide) rfl (fun ls hl => ?_)
          refine lv_goto (tgt := 4) hx hb dX9_robotAt_31 (by decide) ?_
          exact ih1 (k + 1) (some k) ls (by omega) ((lastE_step_t c_3f).symm) (by omega) (lv_sub hl [0, 1, 2, 3] rfl)
  exact loop1 ((nR M - 0) + 1) 0 none ls (Nat.zero_le _) rfl (by omega) (lv_sub hl [0, 1, 2, 3] rfl)
set_option maxHeartbeats 4000000 in
set_option maxRecDepth 100000 in
theorem c9_stationAt (l : Launch) (G : gG) (ma : Nat → Nat) (M : MS) (x : Int32) (hcnt : CNT M) : Met l yX9_stationAt (wB yX9_stationAt cX9_stationAt 4 (some .int)) (rmL 0 0 0) (va_Pc [.ref (ma 0), .int x] (mB G ma M)) (k2_QcV (.int (oI (stA M x)))) 0 0 fN := by
  refine st_N (own := RX9) (by decide +kernel) rfl (Nat.le_of_ble_eq_true rfl) ?_
  intro p e s m below meth c ls args Q hQ hC hr hlk hnm hl hP
  obtain ⟨hM, hK⟩ := hP
  have hx := hC.1
  have hb := hC.2.1
  have hl : lv_has ls 4 [(0, .ref (ma 0)), (1, .int x)] := hl
  have h6 := hcnt.S3
  refine lv_iconst (v := (-1)) hx hb dX9_stationAt_0 (by decide) ?_
  refine lv_istore_n (lv' := [(2, .int (-1)), (0, .ref (ma 0)), (1, .int x)]) hx hb dX9_stationAt_1 rfl hl (by decide) rfl (fun ls hl => ?_)
  refine lv_iconst (v := 0) hx hb dX9_stationAt_2 (by decide) ?_
  refine lv_istore_n (lv' := [(3, .int 0), (2, .int (-1)), (0, .ref (ma 0)), (1, .int x)]) hx hb dX9_stationAt_3 rfl hl (by decide) rfl (fun ls hl => ?_)
  have loop1 : ∀ (n : Nat) (k : Nat) (r : Option Nat) (ls : Array Slot) (hk : k ≤ nS M) (hrr : r = lastE (M 5) x k), nS M - k < n → lv_has ls 4 [(3, .int (nI k)), (2, .int (oI r)), (0, .ref (ma 0)), (1, .int x)] → W p l e (rmL 0 0 0) s m args below meth c s.heap [] 0 0 Q (F0 m 4 ls []) := by
    intro n
    induction n with
    | zero => intro k r ls hk hrr hm hl; omega
    | succ n ih1 =>
      intro k r ls hk hrr hm hl
      refine lv_iload_n hx hb dX9_stationAt_4 rfl (lv_at hl 0 rfl) ?_
      refine lv_aload_n hx hb dX9_stationAt_5 rfl (lv_at hl 2 rfl) ?_
      refine mr_get hC hK hM 4 (by decide) fl_X9_106 rfl (v := .int (nI (nS M))) (congrArg Value.int (show M 4 0 = (nI (nS M)) from hcnt.S)) dX9_stationAt_6 ?_
      refine ln_ge (tgt := 34) (a := k) (b := (nS M)) hx hb dX9_stationAt_9 (by decide) rfl rfl (by omega) (by omega) (fun c_2t => ?_) (fun c_2f => ?_)
      · refine lv_iload_n hx hb dX9_stationAt_34 rfl (lv_at hl 1 rfl) ?_
        subst hQ
        exact rt_i hx hb hr hlk (by rw [hrr, show k = nS M by omega]; rfl) dX9_stationAt_35
      · refine lv_aload_n hx hb dX9_stationAt_12 rfl (lv_at hl 2 rfl) ?_
        refine mr_get hC hK hM 5 (by decide) fl_X9_16 rfl (v := .ref (ma 5)) rfl dX9_stationAt_13 ?_
        refine lv_iload_n hx hb dX9_stationAt_16 rfl (lv_at hl 0 rfl) ?_
        refine mr_ild hC hK hM 5 (i := k) (show k < 3 from by omega) rfl (v := M 5 k) rfl dX9_stationAt_17 ?_
        refine lv_iload_n hx hb dX9_stationAt_18 rfl (lv_at hl 3 rfl) ?_
        refine lv_icmp_ne (tgt := 26) hx hb dX9_stationAt_19 (by decide) (fun c_3t => ?_) (fun c_3f => ?_)
        · refine lv_iload_n hx hb dX9_stationAt_26 rfl (lv_at hl 1 rfl) ?_
          refine lv_istore_n (lv' := [(2, .int (oI r)), (3, .int (nI k)), (0, .ref (ma 0)), (1, .int x)]) hx hb dX9_stationAt_27 rfl hl (by decide) rfl (fun ls hl => ?_)
          refine lv_iinc (v := nI (k + 1)) (lv' := [(3, .int (nI (k + 1))), (2, .int (oI r)), (0, .ref (ma 0)), (1, .int x)]) hx hb dX9_stationAt_28 hl (k := 1) rfl (nI_inc _) (by decide) rfl (fun ls hl => ?_)
          refine lv_goto (tgt := 4) hx hb dX9_stationAt_31 (by decide) ?_
          exact ih1 (k + 1) r ls (by omega) (hrr.trans (lastE_step_f c_3t).symm) (by omega) (lv_sub hl [0, 1, 2, 3] rfl)
        · refine lv_iload_n hx hb dX9_stationAt_22 rfl (lv_at hl 0 rfl) ?_
          refine lv_goto (tgt := 27) hx hb dX9_stationAt_23 (by decide) ?_
          refine lv_istore_n (lv' := [(2, .int (nI k)), (3, .int (nI k)), (0, .ref (ma 0)), (1, .int x)]) hx hb dX9_stationAt_27 rfl hl (by decide) rfl (fun ls hl => ?_)
          refine lv_iinc (v := nI (k + 1)) (lv' := [(3, .int (nI (k + 1))), (2, .int (nI k)), (0, .ref (ma 0)), (1, .int x)]) hx hb dX9_stationAt_28 hl (k := 1) rfl (nI_inc _) (by decide) rfl (fun ls hl => ?_)
          refine lv_goto (tgt := 4) hx hb dX9_stationAt_31 (by decide) ?_
          exact ih1 (k + 1) (some k) ls (by omega) ((lastE_step_t c_3f).symm) (by omega) (lv_sub hl [0, 1, 2, 3] rfl)
  exact loop1 ((nS M - 0) + 1) 0 none ls (Nat.zero_le _) rfl (by omega) (lv_sub hl [0, 1, 2, 3] rfl)
set_option maxHeartbeats 4000000 in
set_option maxRecDepth 100000 in
theorem c9_homeOf (l : Launch) (G : gG) (ma : Nat → Nat) (M : MS) (x : Int32) (hcnt : CNT M) : Met l yX9_homeOf (wB yX9_homeOf cX9_homeOf 4 (some .int)) (rmL 0 0 0) (va_Pc [.ref (ma 0), .int x] (mB G ma M)) (k2_QcV (.int (oI (hmA M x)))) 0 0 fN := by
  refine st_N (own := RX9) (by decide +kernel) rfl (Nat.le_of_ble_eq_true rfl) ?_
  intro p e s m below meth c ls args Q hQ hC hr hlk hnm hl hP
  obtain ⟨hM, hK⟩ := hP
  have hx := hC.1
  have hb := hC.2.1
  have hl : lv_has ls 4 [(0, .ref (ma 0)), (1, .int x)] := hl
  have h6 := hcnt.T16
  refine lv_iconst (v := (-1)) hx hb dX9_homeOf_0 (by decide) ?_
  refine lv_istore_n (lv' := [(2, .int (-1)), (0, .ref (ma 0)), (1, .int x)]) hx hb dX9_homeOf_1 rfl hl (by decide) rfl (fun ls hl => ?_)
  refine lv_iconst (v := 0) hx hb dX9_homeOf_2 (by decide) ?_
  refine lv_istore_n (lv' := [(3, .int 0), (2, .int (-1)), (0, .ref (ma 0)), (1, .int x)]) hx hb dX9_homeOf_3 rfl hl (by decide) rfl (fun ls hl => ?_)
  have loop1 : ∀ (n : Nat) (k : Nat) (r : Option Nat) (ls : Array Slot) (hk : k ≤ nT M) (hrr : r = lastE (M 7) x k), nT M - k < n → lv_has ls 4 [(3, .int (nI k)), (2, .int (oI r)), (0, .ref (ma 0)), (1, .int x)] → W p l e (rmL 0 0 0) s m args below meth c s.heap [] 0 0 Q (F0 m 4 ls []) := by
    intro n
    induction n with
    | zero => intro k r ls hk hrr hm hl; omega
    | succ n ih1 =>
      intro k r ls hk hrr hm hl
      refine lv_iload_n hx hb dX9_homeOf_4 rfl (lv_at hl 0 rfl) ?_
      refine lv_aload_n hx hb dX9_homeOf_5 rfl (lv_at hl 2 rfl) ?_
      refine mr_get hC hK hM 6 (by decide) fl_X9_109 rfl (v := .int (nI (nT M))) (congrArg Value.int (show M 6 0 = (nI (nT M)) from hcnt.T)) dX9_homeOf_6 ?_
      refine ln_ge (tgt := 34) (a := k) (b := (nT M)) hx hb dX9_homeOf_9 (by decide) rfl rfl (by omega) (by omega) (fun c_2t => ?_) (fun c_2f => ?_)
      · refine lv_iload_n hx hb dX9_homeOf_34 rfl (lv_at hl 1 rfl) ?_
        subst hQ
        exact rt_i hx hb hr hlk (by rw [hrr, show k = nT M by omega]; rfl) dX9_homeOf_35
      · refine lv_aload_n hx hb dX9_homeOf_12 rfl (lv_at hl 2 rfl) ?_
        refine mr_get hC hK hM 7 (by decide) fl_X9_20 rfl (v := .ref (ma 7)) rfl dX9_homeOf_13 ?_
        refine lv_iload_n hx hb dX9_homeOf_16 rfl (lv_at hl 0 rfl) ?_
        refine mr_ild hC hK hM 7 (i := k) (show k < 16 from by omega) rfl (v := M 7 k) rfl dX9_homeOf_17 ?_
        refine lv_iload_n hx hb dX9_homeOf_18 rfl (lv_at hl 3 rfl) ?_
        refine lv_icmp_ne (tgt := 26) hx hb dX9_homeOf_19 (by decide) (fun c_3t => ?_) (fun c_3f => ?_)
        · refine lv_iload_n hx hb dX9_homeOf_26 rfl (lv_at hl 1 rfl) ?_
          refine lv_istore_n (lv' := [(2, .int (oI r)), (3, .int (nI k)), (0, .ref (ma 0)), (1, .int x)]) hx hb dX9_homeOf_27 rfl hl (by decide) rfl (fun ls hl => ?_)
          refine lv_iinc (v := nI (k + 1)) (lv' := [(3, .int (nI (k + 1))), (2, .int (oI r)), (0, .ref (ma 0)), (1, .int x)]) hx hb dX9_homeOf_28 hl (k := 1) rfl (nI_inc _) (by decide) rfl (fun ls hl => ?_)
          refine lv_goto (tgt := 4) hx hb dX9_homeOf_31 (by decide) ?_
          exact ih1 (k + 1) r ls (by omega) (hrr.trans (lastE_step_f c_3t).symm) (by omega) (lv_sub hl [0, 1, 2, 3] rfl)
        · refine lv_iload_n hx hb dX9_homeOf_22 rfl (lv_at hl 0 rfl) ?_
          refine lv_goto (tgt := 27) hx hb dX9_homeOf_23 (by decide) ?_
          refine lv_istore_n (lv' := [(2, .int (nI k)), (3, .int (nI k)), (0, .ref (ma 0)), (1, .int x)]) hx hb dX9_homeOf_27 rfl hl (by decide) rfl (fun ls hl => ?_)
          refine lv_iinc (v := nI (k + 1)) (lv' := [(3, .int (nI (k + 1))), (2, .int (nI k)), (0, .ref (ma 0)), (1, .int x)]) hx hb dX9_homeOf_28 hl (k := 1) rfl (nI_inc _) (by decide) rfl (fun ls hl => ?_)
          refine lv_goto (tgt := 4) hx hb dX9_homeOf_31 (by decide) ?_
          exact ih1 (k + 1) (some k) ls (by omega) ((lastE_step_t c_3f).symm) (by omega) (lv_sub hl [0, 1, 2, 3] rfl)
  exact loop1 ((nT M - 0) + 1) 0 none ls (Nat.zero_le _) rfl (by omega) (lv_sub hl [0, 1, 2, 3] rfl)
set_option maxHeartbeats 4000000 in
set_option maxRecDepth 100000 in
theorem c9_isOpen (l : Launch) (G : gG) (ma : Nat → Nat) (M : MS) (j : Nat) (hcnt : CNT M) (hj : j < 64) : Met l yX9_isOpen (wB yX9_isOpen cX9_isOpen 3 (some .boolean)) (rmL 1 0 0) (va_Pc [.ref (ma 0), .int (nI j)] (mB G ma M)) (k2_QcV (.int (bI (opnB M j)))) 0 0 fN := by
  refine st_N (own := RX9) (by decide +kernel) rfl (Nat.le_of_ble_eq_true rfl) ?_
  intro p e s m below meth c ls args Q hQ hC hr hlk hnm hl hP
  obtain ⟨hM, hK⟩ := hP
  have hx := hC.1
  have hb := hC.2.1
  have hl : lv_has ls 3 [(0, .ref (ma 0)), (1, .int (nI j))] := hl
  refine lv_aload_n hx hb dX9_isOpen_0 rfl (lv_at hl 0 rfl) ?_
  refine lv_iload_n hx hb dX9_isOpen_1 rfl (lv_at hl 1 rfl) ?_
  refine cl_p (run_V hC (c9_robotAt l G ma M (nI j) hcnt) (As := [.int (nI j)]) (rest := []) rfl rfl ml_X9_112 im_X9_robotAt se_X9_robotAt ini_X9 cd_X9_robotAt ⟨rfl, na_X9_robotAt⟩ mB_blind (mr_recv hK hM) (mr_B hK hM) hl.1 (Nat.le_of_ble_eq_true rfl) ⟨Nat.le_of_ble_eq_true rfl, Nat.le_of_ble_eq_true rfl⟩ ⟨Nat.le_refl _, Nat.le_refl _⟩ rfl dX9_isOpen_2) ?_
  rcases ho1 : rbA M (nI j) with _ | k1
  · refine top_i (y := -1) rfl ?_
    refine lv_istore_n (lv' := [(2, .int (-1)), (0, .ref (ma 0)), (1, .int (nI j))]) hx hb dX9_isOpen_5 rfl hl (by decide) rfl (fun ls hl => ?_)
    refine lv_aload_n hx hb dX9_isOpen_6 rfl (lv_at hl 1 rfl) ?_
    refine mr_get hC hK hM 2 (by decide) fl_X9_7 rfl (v := .ref (ma 2)) rfl dX9_isOpen_7 ?_
    refine lv_iload_n hx hb dX9_isOpen_10 rfl (lv_at hl 2 rfl) ?_
    refine mr_zld hC hK hM 2 (i := j) (show j < 64 from by omega) rfl (v := M 2 j) rfl dX9_isOpen_11 ?_
    refine lv_if_ne (tgt := 43) hx hb dX9_isOpen_12 (by decide) (fun c_2t => ?_) (fun c_2f => ?_)
    · refine lv_iconst (v := 0) hx hb dX9_isOpen_43 (by decide) ?_
      subst hQ
      exact rt_z hx hb hr hlk (by simp [opnB, bI, ho1, c_2t]) dX9_isOpen_44
    · refine lv_aload_n hx hb dX9_isOpen_15 rfl (lv_at hl 1 rfl) ?_
      refine mr_get hC hK hM 3 (by decide) fl_X9_13 rfl (v := .ref (ma 3)) rfl dX9_isOpen_16 ?_
      refine lv_iload_n hx hb dX9_isOpen_19 rfl (lv_at hl 2 rfl) ?_
      refine mr_zld hC hK hM 3 (i := j) (show j < 64 from by omega) rfl (v := M 3 j) rfl dX9_isOpen_20 ?_
      refine lv_if_ne (tgt := 43) hx hb dX9_isOpen_21 (by decide) (fun c_3t => ?_) (fun c_3f => ?_)
      · refine lv_iconst (v := 0) hx hb dX9_isOpen_43 (by decide) ?_
        subst hQ
        exact rt_z hx hb hr hlk (by simp [opnB, bI, ho1, c_2f, c_3t]) dX9_isOpen_44
      · refine lv_iload_n hx hb dX9_isOpen_24 rfl (lv_at hl 0 rfl) ?_
        refine lv_iconst (v := (-1)) hx hb dX9_isOpen_25 (by decide) ?_
        refine lv_icmp_eq (tgt := 39) hx hb dX9_isOpen_26 (by decide) (fun _ => ?_) (fun c => absurd c (by decide))
        refine lv_iconst (v := 1) hx hb dX9_isOpen_39 (by decide) ?_
        refine lv_goto (tgt := 44) hx hb dX9_isOpen_40 (by decide) ?_
        subst hQ
        exact rt_z hx hb hr hlk (by simp [opnB, bI, ho1, c_2f, c_3f]) dX9_isOpen_44
  · refine top_i (y := nI k1) rfl ?_
    have hk := (lastE_lt ho1).1
    have h6 := hcnt.R6
    refine lv_istore_n (lv' := [(2, .int (nI k1)), (0, .ref (ma 0)), (1, .int (nI j))]) hx hb dX9_isOpen_5 rfl hl (by decide) rfl (fun ls hl => ?_)
    refine lv_aload_n hx hb dX9_isOpen_6 rfl (lv_at hl 1 rfl) ?_
    refine mr_get hC hK hM 2 (by decide) fl_X9_7 rfl (v := .ref (ma 2)) rfl dX9_isOpen_7 ?_
    refine lv_iload_n hx hb dX9_isOpen_10 rfl (lv_at hl 2 rfl) ?_
    refine mr_zld hC hK hM 2 (i := j) (show j < 64 from by omega) rfl (v := M 2 j) rfl dX9_isOpen_11 ?_
    refine lv_if_ne (tgt := 43) hx hb dX9_isOpen_12 (by decide) (fun c_5t => ?_) (fun c_5f => ?_)
    · refine lv_iconst (v := 0) hx hb dX9_isOpen_43 (by decide) ?_
      subst hQ
      exact rt_z hx hb hr hlk (by simp [opnB, bI, ho1, c_5t]) dX9_isOpen_44
    · refine lv_aload_n hx hb dX9_isOpen_15 rfl (lv_at hl 1 rfl) ?_
      refine mr_get hC hK hM 3 (by decide) fl_X9_13 rfl (v := .ref (ma 3)) rfl dX9_isOpen_16 ?_
      refine lv_iload_n hx hb dX9_isOpen_19 rfl (lv_at hl 2 rfl) ?_
      refine mr_zld hC hK hM 3 (i := j) (show j < 64 from by omega) rfl (v := M 3 j) rfl dX9_isOpen_20 ?_
      refine lv_if_ne (tgt := 43) hx hb dX9_isOpen_21 (by decide) (fun c_6t => ?_) (fun c_6f => ?_)
      · refine lv_iconst (v := 0) hx hb dX9_isOpen_43 (by decide) ?_
        subst hQ
        exact rt_z hx hb hr hlk (by simp [opnB, bI, ho1, c_5f, c_6t]) dX9_isOpen_44
      · refine lv_iload_n hx hb dX9_isOpen_24 rfl (lv_at hl 0 rfl) ?_
        refine lv_iconst (v := (-1)) hx hb dX9_isOpen_25 (by decide) ?_
        refine lv_icmp_eq (tgt := 39) hx hb dX9_isOpen_26 (by decide) (fun c => absurd c (nI_m1 (by omega))) (fun _ => ?_)
        refine lv_aload_n hx hb dX9_isOpen_29 rfl (lv_at hl 1 rfl) ?_
        refine mr_get hC hK hM 20 (by decide) fl_X9_50 rfl (v := .ref (ma 20)) rfl dX9_isOpen_30 ?_
        refine lv_iload_n hx hb dX9_isOpen_33 rfl (lv_at hl 0 rfl) ?_
        refine mr_ild hC hK hM 20 (i := k1) (show k1 < 6 from by omega) rfl (v := M 20 k1) rfl dX9_isOpen_34 ?_
        refine lv_iconst (v := 5) hx hb dX9_isOpen_35 (by decide) ?_
        refine lv_icmp_eq (tgt := 43) hx hb dX9_isOpen_36 (by decide) (fun c_8t => ?_) (fun c_8f => ?_)
        · refine lv_iconst (v := 0) hx hb dX9_isOpen_43 (by decide) ?_
          subst hQ
          exact rt_z hx hb hr hlk (by simp [opnB, bI, ho1, c_5f, c_6f, c_8t]) dX9_isOpen_44
        · refine lv_iconst (v := 1) hx hb dX9_isOpen_39 (by decide) ?_
          refine lv_goto (tgt := 44) hx hb dX9_isOpen_40 (by decide) ?_
          subst hQ
          exact rt_z hx hb hr hlk (by simp [opnB, bI, ho1, c_5f, c_6f, c_8f]) dX9_isOpen_44
end
