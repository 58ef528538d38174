section
-- ===== PART A: goes FIRST, ahead of the names: the tables' words, and 'selects' of the private methods out of them =====
/-- a private method of a class that the tables say can be made, by its rows of tables_1 -/
def lw_okq (q : MethodName × Nat) : Prop := (q.1.cls ≠ "java/lang/invoke/MethodHandle" ∧ q.1.cls ≠ "java/lang/invoke/VarHandle") ∧ Cond.instantiable q.1.cls q.2 ∈ tables_1 ∧ Cond.privateMethod q.1 ∈ tables_1 ∧ Cond.instanceMethod q.1 ∈ tables_1
theorem lw_p0 : lw_okq (⟨"Allstreets", "empty", "()V"⟩, 7) := ⟨⟨by decide +kernel, by decide +kernel⟩, List.mem_of_getElem? (i := 24) (by decide +kernel), List.mem_of_getElem? (i := 136) (by decide +kernel), List.mem_of_getElem? (i := 137) (by decide +kernel)⟩
theorem lw_p1 : lw_okq (⟨"Allstreets", "counted", "(I)I"⟩, 7) := ⟨⟨by decide +kernel, by decide +kernel⟩, List.mem_of_getElem? (i := 24) (by decide +kernel), List.mem_of_getElem? (i := 156) (by decide +kernel), List.mem_of_getElem? (i := 157) (by decide +kernel)⟩
theorem lw_p2 : lw_okq (⟨"Allstreets", "anyIsBackward", "()Z"⟩, 7) := ⟨⟨by decide +kernel, by decide +kernel⟩, List.mem_of_getElem? (i := 24) (by decide +kernel), List.mem_of_getElem? (i := 164) (by decide +kernel), List.mem_of_getElem? (i := 165) (by decide +kernel)⟩
theorem lw_p3 : lw_okq (⟨"Allstreets$Town", "countWays", "(I)V"⟩, 8) := ⟨⟨by decide +kernel, by decide +kernel⟩, List.mem_of_getElem? (i := 32) (by decide +kernel), List.mem_of_getElem? (i := 229) (by decide +kernel), List.mem_of_getElem? (i := 230) (by decide +kernel)⟩
theorem lw_p4 : lw_okq (⟨"Allstreets$Town", "isOddAsCounted", "(I)Z"⟩, 8) := ⟨⟨by decide +kernel, by decide +kernel⟩, List.mem_of_getElem? (i := 32) (by decide +kernel), List.mem_of_getElem? (i := 233) (by decide +kernel), List.mem_of_getElem? (i := 234) (by decide +kernel)⟩
theorem lw_p5 : lw_okq (⟨"Allstreets$Town", "reachedInOnePass", "(II)I"⟩, 8) := ⟨⟨by decide +kernel, by decide +kernel⟩, List.mem_of_getElem? (i := 32) (by decide +kernel), List.mem_of_getElem? (i := 248) (by decide +kernel), List.mem_of_getElem? (i := 249) (by decide +kernel)⟩
theorem lw_p6 : lw_okq (⟨"Allstreets$Walk", "leadsBack", "()Z"⟩, 4) := ⟨⟨by decide +kernel, by decide +kernel⟩, List.mem_of_getElem? (i := 65) (by decide +kernel), List.mem_of_getElem? (i := 343) (by decide +kernel), List.mem_of_getElem? (i := 344) (by decide +kernel)⟩
theorem lw_p7 : lw_okq (⟨"Allstreets$Walk", "notWalked", "()I"⟩, 4) := ⟨⟨by decide +kernel, by decide +kernel⟩, List.mem_of_getElem? (i := 65) (by decide +kernel), List.mem_of_getElem? (i := 365) (by decide +kernel), List.mem_of_getElem? (i := 366) (by decide +kernel)⟩
theorem lw_p8 : lw_okq (⟨"Allstreets", "hasEachWordOnce", "(LAllstreets$Walk;)Z"⟩, 7) := ⟨⟨by decide +kernel, by decide +kernel⟩, List.mem_of_getElem? (i := 24) (by decide +kernel), List.mem_of_getElem? (i := 388) (by decide +kernel), List.mem_of_getElem? (i := 389) (by decide +kernel)⟩
theorem lw_p9 : lw_okq (⟨"Allstreets$Walk", "hasWord", "(II)Z"⟩, 4) := ⟨⟨by decide +kernel, by decide +kernel⟩, List.mem_of_getElem? (i := 65) (by decide +kernel), List.mem_of_getElem? (i := 401) (by decide +kernel), List.mem_of_getElem? (i := 402) (by decide +kernel)⟩
theorem lw_p10 : lw_okq (⟨"Allstreets", "digestOfTown", "(J)J"⟩, 7) := ⟨⟨by decide +kernel, by decide +kernel⟩, List.mem_of_getElem? (i := 24) (by decide +kernel), List.mem_of_getElem? (i := 422) (by decide +kernel), List.mem_of_getElem? (i := 423) (by decide +kernel)⟩
theorem lw_p11 : lw_okq (⟨"Allstreets", "digestOfWalk", "(JI)J"⟩, 7) := ⟨⟨by decide +kernel, by decide +kernel⟩, List.mem_of_getElem? (i := 24) (by decide +kernel), List.mem_of_getElem? (i := 446) (by decide +kernel), List.mem_of_getElem? (i := 447) (by decide +kernel)⟩
theorem lw_p12 : lw_okq (⟨"Allstreets", "walkOf", "(I)LAllstreets$Walk;"⟩, 7) := ⟨⟨by decide +kernel, by decide +kernel⟩, List.mem_of_getElem? (i := 24) (by decide +kernel), List.mem_of_getElem? (i := 450) (by decide +kernel), List.mem_of_getElem? (i := 451) (by decide +kernel)⟩
theorem lw_p13 : lw_okq (⟨"java/lang/Throwable", "fillInStackTrace", "(I)Ljava/lang/Throwable;"⟩, 6) := ⟨⟨by decide +kernel, by decide +kernel⟩, List.mem_of_getElem? (i := 491) (by decide +kernel), List.mem_of_getElem? (i := 489) (by decide +kernel), List.mem_of_getElem? (i := 490) (by decide +kernel)⟩
theorem lw_p14 : lw_okq (⟨"Allstreets", "checkCorner", "(I)V"⟩, 7) := ⟨⟨by decide +kernel, by decide +kernel⟩, List.mem_of_getElem? (i := 24) (by decide +kernel), List.mem_of_getElem? (i := 561) (by decide +kernel), List.mem_of_getElem? (i := 562) (by decide +kernel)⟩
theorem lw_p15 : lw_okq (⟨"Allstreets", "checkStreet", "(I)V"⟩, 7) := ⟨⟨by decide +kernel, by decide +kernel⟩, List.mem_of_getElem? (i := 24) (by decide +kernel), List.mem_of_getElem? (i := 629) (by decide +kernel), List.mem_of_getElem? (i := 630) (by decide +kernel)⟩
def lw_privs_1 : List (MethodName × Nat) := [(⟨"Allstreets", "empty", "()V"⟩, 7), (⟨"Allstreets", "counted", "(I)I"⟩, 7), (⟨"Allstreets", "anyIsBackward", "()Z"⟩, 7), (⟨"Allstreets$Town", "countWays", "(I)V"⟩, 8), (⟨"Allstreets$Town", "isOddAsCounted", "(I)Z"⟩, 8), (⟨"Allstreets$Town", "reachedInOnePass", "(II)I"⟩, 8), (⟨"Allstreets$Walk", "leadsBack", "()Z"⟩, 4), (⟨"Allstreets$Walk", "notWalked", "()I"⟩, 4), (⟨"Allstreets", "hasEachWordOnce", "(LAllstreets$Walk;)Z"⟩, 7), (⟨"Allstreets$Walk", "hasWord", "(II)Z"⟩, 4), (⟨"Allstreets", "digestOfTown", "(J)J"⟩, 7), (⟨"Allstreets", "digestOfWalk", "(JI)J"⟩, 7), (⟨"Allstreets", "walkOf", "(I)LAllstreets$Walk;"⟩, 7), (⟨"java/lang/Throwable", "fillInStackTrace", "(I)Ljava/lang/Throwable;"⟩, 6), (⟨"Allstreets", "checkCorner", "(I)V"⟩, 7), (⟨"Allstreets", "checkStreet", "(I)V"⟩, 7)]
theorem lw_r1 : ∀ q ∈ lw_privs_1, lw_okq q := List.forall_mem_cons.mpr ⟨lw_p0, List.forall_mem_cons.mpr ⟨lw_p1, List.forall_mem_cons.mpr ⟨lw_p2, List.forall_mem_cons.mpr ⟨lw_p3, List.forall_mem_cons.mpr ⟨lw_p4, List.forall_mem_cons.mpr ⟨lw_p5, List.forall_mem_cons.mpr ⟨lw_p6, List.forall_mem_cons.mpr ⟨lw_p7, List.forall_mem_cons.mpr ⟨lw_p8, List.forall_mem_cons.mpr ⟨lw_p9, List.forall_mem_cons.mpr ⟨lw_p10, List.forall_mem_cons.mpr ⟨lw_p11, List.forall_mem_cons.mpr ⟨lw_p12, List.forall_mem_cons.mpr ⟨lw_p13, List.forall_mem_cons.mpr ⟨lw_p14, List.forall_mem_cons.mpr ⟨lw_p15, fun _ h => absurd h List.not_mem_nil⟩⟩⟩⟩⟩⟩⟩⟩⟩⟩⟩⟩⟩⟩⟩⟩
theorem lw_p16 : lw_okq (⟨"Allstreets", "countedMove", "(LAllstreets$Walk;I)I"⟩, 7) := ⟨⟨by decide +kernel, by decide +kernel⟩, List.mem_of_getElem? (i := 24) (by decide +kernel), List.mem_of_getElem? (i := 705) (by decide +kernel), List.mem_of_getElem? (i := 706) (by decide +kernel)⟩
theorem lw_p17 : lw_okq (⟨"Allstreets", "countedGrowth", "(LAllstreets$Walk;I)I"⟩, 7) := ⟨⟨by decide +kernel, by decide +kernel⟩, List.mem_of_getElem? (i := 24) (by decide +kernel), List.mem_of_getElem? (i := 730) (by decide +kernel), List.mem_of_getElem? (i := 731) (by decide +kernel)⟩
theorem lw_p18 : lw_okq (⟨"Allstreets", "numberAt", "(LAllstreets$Walk;II)I"⟩, 7) := ⟨⟨by decide +kernel, by decide +kernel⟩, List.mem_of_getElem? (i := 24) (by decide +kernel), List.mem_of_getElem? (i := 1035) (by decide +kernel), List.mem_of_getElem? (i := 1036) (by decide +kernel)⟩
theorem lw_p19 : lw_okq (⟨"AllstreetsModel", "isNoCorner", "(I)Z"⟩, 17) := ⟨⟨by decide +kernel, by decide +kernel⟩, List.mem_of_getElem? (i := 1242) (by decide +kernel), List.mem_of_getElem? (i := 1304) (by decide +kernel), List.mem_of_getElem? (i := 1305) (by decide +kernel)⟩
theorem lw_p20 : lw_okq (⟨"AllstreetsModel", "start", "(ZI)Z"⟩, 17) := ⟨⟨by decide +kernel, by decide +kernel⟩, List.mem_of_getElem? (i := 1242) (by decide +kernel), List.mem_of_getElem? (i := 1311) (by decide +kernel), List.mem_of_getElem? (i := 1312) (by decide +kernel)⟩
theorem lw_p21 : lw_okq (⟨"AllstreetsModel", "refuse", "(ZI)Z"⟩, 17) := ⟨⟨by decide +kernel, by decide +kernel⟩, List.mem_of_getElem? (i := 1242) (by decide +kernel), List.mem_of_getElem? (i := 1315) (by decide +kernel), List.mem_of_getElem? (i := 1316) (by decide +kernel)⟩
theorem lw_p22 : lw_okq (⟨"AllstreetsModel", "cannot", "()I"⟩, 17) := ⟨⟨by decide +kernel, by decide +kernel⟩, List.mem_of_getElem? (i := 1242) (by decide +kernel), List.mem_of_getElem? (i := 1319) (by decide +kernel), List.mem_of_getElem? (i := 1320) (by decide +kernel)⟩
theorem lw_p23 : lw_okq (⟨"AllstreetsModel", "laid", "(II)V"⟩, 17) := ⟨⟨by decide +kernel, by decide +kernel⟩, List.mem_of_getElem? (i := 1242) (by decide +kernel), List.mem_of_getElem? (i := 1323) (by decide +kernel), List.mem_of_getElem? (i := 1324) (by decide +kernel)⟩
theorem lw_p24 : lw_okq (⟨"AllstreetsModel", "endWords", "()V"⟩, 17) := ⟨⟨by decide +kernel, by decide +kernel⟩, List.mem_of_getElem? (i := 1242) (by decide +kernel), List.mem_of_getElem? (i := 1327) (by decide +kernel), List.mem_of_getElem? (i := 1328) (by decide +kernel)⟩
theorem lw_p25 : lw_okq (⟨"AllstreetsModel", "act", "(I)I"⟩, 17) := ⟨⟨by decide +kernel, by decide +kernel⟩, List.mem_of_getElem? (i := 1242) (by decide +kernel), List.mem_of_getElem? (i := 1331) (by decide +kernel), List.mem_of_getElem? (i := 1332) (by decide +kernel)⟩
theorem lw_p26 : lw_okq (⟨"AllstreetsModel", "emptied", "()V"⟩, 17) := ⟨⟨by decide +kernel, by decide +kernel⟩, List.mem_of_getElem? (i := 1242) (by decide +kernel), List.mem_of_getElem? (i := 1343) (by decide +kernel), List.mem_of_getElem? (i := 1344) (by decide +kernel)⟩
theorem lw_p27 : lw_okq (⟨"AllstreetsModel", "isNoStreet", "(I)Z"⟩, 17) := ⟨⟨by decide +kernel, by decide +kernel⟩, List.mem_of_getElem? (i := 1242) (by decide +kernel), List.mem_of_getElem? (i := 1351) (by decide +kernel), List.mem_of_getElem? (i := 1352) (by decide +kernel)⟩
theorem lw_p28 : lw_okq (⟨"AllstreetsModel", "placeOf", "(II)I"⟩, 17) := ⟨⟨by decide +kernel, by decide +kernel⟩, List.mem_of_getElem? (i := 1242) (by decide +kernel), List.mem_of_getElem? (i := 1355) (by decide +kernel), List.mem_of_getElem? (i := 1356) (by decide +kernel)⟩
theorem lw_p29 : lw_okq (⟨"AllstreetsModel", "stepOf", "(II)I"⟩, 17) := ⟨⟨by decide +kernel, by decide +kernel⟩, List.mem_of_getElem? (i := 1242) (by decide +kernel), List.mem_of_getElem? (i := 1359) (by decide +kernel), List.mem_of_getElem? (i := 1360) (by decide +kernel)⟩
theorem lw_p30 : lw_okq (⟨"AllstreetsModel", "turned", "(I)V"⟩, 17) := ⟨⟨by decide +kernel, by decide +kernel⟩, List.mem_of_getElem? (i := 1242) (by decide +kernel), List.mem_of_getElem? (i := 1378) (by decide +kernel), List.mem_of_getElem? (i := 1379) (by decide +kernel)⟩
theorem lw_p31 : lw_okq (⟨"AllstreetsModel", "endOf", "(I)I"⟩, 17) := ⟨⟨by decide +kernel, by decide +kernel⟩, List.mem_of_getElem? (i := 1242) (by decide +kernel), List.mem_of_getElem? (i := 1382) (by decide +kernel), List.mem_of_getElem? (i := 1383) (by decide +kernel)⟩
def lw_privs_2 : List (MethodName × Nat) := [(⟨"Allstreets", "countedMove", "(LAllstreets$Walk;I)I"⟩, 7), (⟨"Allstreets", "countedGrowth", "(LAllstreets$Walk;I)I"⟩, 7), (⟨"Allstreets", "numberAt", "(LAllstreets$Walk;II)I"⟩, 7), (⟨"AllstreetsModel", "isNoCorner", "(I)Z"⟩, 17), (⟨"AllstreetsModel", "start", "(ZI)Z"⟩, 17), (⟨"AllstreetsModel", "refuse", "(ZI)Z"⟩, 17), (⟨"AllstreetsModel", "cannot", "()I"⟩, 17), (⟨"AllstreetsModel", "laid", "(II)V"⟩, 17), (⟨"AllstreetsModel", "endWords", "()V"⟩, 17), (⟨"AllstreetsModel", "act", "(I)I"⟩, 17), (⟨"AllstreetsModel", "emptied", "()V"⟩, 17), (⟨"AllstreetsModel", "isNoStreet", "(I)Z"⟩, 17), (⟨"AllstreetsModel", "placeOf", "(II)I"⟩, 17), (⟨"AllstreetsModel", "stepOf", "(II)I"⟩, 17), (⟨"AllstreetsModel", "turned", "(I)V"⟩, 17), (⟨"AllstreetsModel", "endOf", "(I)I"⟩, 17)]
theorem lw_r2 : ∀ q ∈ lw_privs_2, lw_okq q := List.forall_mem_cons.mpr ⟨lw_p16, List.forall_mem_cons.mpr ⟨lw_p17, List.forall_mem_cons.mpr ⟨lw_p18, List.forall_mem_cons.mpr ⟨lw_p19, List.forall_mem_cons.mpr ⟨lw_p20, List.forall_mem_cons.mpr ⟨lw_p21, List.forall_mem_cons.mpr ⟨lw_p22, List.forall_mem_cons.mpr ⟨lw_p23, List.forall_mem_cons.mpr ⟨lw_p24, List.forall_mem_cons.mpr ⟨lw_p25, List.forall_mem_cons.mpr ⟨lw_p26, List.forall_mem_cons.mpr ⟨lw_p27, List.forall_mem_cons.mpr ⟨lw_p28, List.forall_mem_cons.mpr ⟨lw_p29, List.forall_mem_cons.mpr ⟨lw_p30, List.forall_mem_cons.mpr ⟨lw_p31, fun _ h => absurd h List.not_mem_nil⟩⟩⟩⟩⟩⟩⟩⟩⟩⟩⟩⟩⟩⟩⟩⟩
theorem lw_p32 : lw_okq (⟨"AllstreetsModel", "cornerOf", "(II)I"⟩, 17) := ⟨⟨by decide +kernel, by decide +kernel⟩, List.mem_of_getElem? (i := 1242) (by decide +kernel), List.mem_of_getElem? (i := 1386) (by decide +kernel), List.mem_of_getElem? (i := 1387) (by decide +kernel)⟩
theorem lw_p33 : lw_okq (⟨"AllstreetsModel", "comesTo", "(I)I"⟩, 17) := ⟨⟨by decide +kernel, by decide +kernel⟩, List.mem_of_getElem? (i := 1242) (by decide +kernel), List.mem_of_getElem? (i := 1390) (by decide +kernel), List.mem_of_getElem? (i := 1391) (by decide +kernel)⟩
theorem lw_p34 : lw_okq (⟨"AllstreetsModel", "take", "(II)I"⟩, 17) := ⟨⟨by decide +kernel, by decide +kernel⟩, List.mem_of_getElem? (i := 1242) (by decide +kernel), List.mem_of_getElem? (i := 1394) (by decide +kernel), List.mem_of_getElem? (i := 1395) (by decide +kernel)⟩
theorem lw_p35 : lw_okq (⟨"AllstreetsModel", "put", "(III)V"⟩, 17) := ⟨⟨by decide +kernel, by decide +kernel⟩, List.mem_of_getElem? (i := 1242) (by decide +kernel), List.mem_of_getElem? (i := 1398) (by decide +kernel), List.mem_of_getElem? (i := 1399) (by decide +kernel)⟩
theorem lw_p36 : lw_okq (⟨"AllstreetsModel", "all", "()I"⟩, 17) := ⟨⟨by decide +kernel, by decide +kernel⟩, List.mem_of_getElem? (i := 1242) (by decide +kernel), List.mem_of_getElem? (i := 1414) (by decide +kernel), List.mem_of_getElem? (i := 1415) (by decide +kernel)⟩
theorem lw_p37 : lw_okq (⟨"AllstreetsModel", "waysOf", "(III)I"⟩, 17) := ⟨⟨by decide +kernel, by decide +kernel⟩, List.mem_of_getElem? (i := 1242) (by decide +kernel), List.mem_of_getElem? (i := 1418) (by decide +kernel), List.mem_of_getElem? (i := 1419) (by decide +kernel)⟩
theorem lw_p38 : lw_okq (⟨"AllstreetsModel", "oddOf", "(I)I"⟩, 17) := ⟨⟨by decide +kernel, by decide +kernel⟩, List.mem_of_getElem? (i := 1242) (by decide +kernel), List.mem_of_getElem? (i := 1429) (by decide +kernel), List.mem_of_getElem? (i := 1430) (by decide +kernel)⟩
theorem lw_p39 : lw_okq (⟨"AllstreetsModel", "isOdd", "(II)Z"⟩, 17) := ⟨⟨by decide +kernel, by decide +kernel⟩, List.mem_of_getElem? (i := 1242) (by decide +kernel), List.mem_of_getElem? (i := 1433) (by decide +kernel), List.mem_of_getElem? (i := 1434) (by decide +kernel)⟩
theorem lw_p40 : lw_okq (⟨"AllstreetsModel", "hang", "(I)Z"⟩, 17) := ⟨⟨by decide +kernel, by decide +kernel⟩, List.mem_of_getElem? (i := 1242) (by decide +kernel), List.mem_of_getElem? (i := 1441) (by decide +kernel), List.mem_of_getElem? (i := 1442) (by decide +kernel)⟩
theorem lw_p41 : lw_okq (⟨"AllstreetsModel", "kindOf", "()I"⟩, 17) := ⟨⟨by decide +kernel, by decide +kernel⟩, List.mem_of_getElem? (i := 1242) (by decide +kernel), List.mem_of_getElem? (i := 1449) (by decide +kernel), List.mem_of_getElem? (i := 1450) (by decide +kernel)⟩
theorem lw_p42 : lw_okq (⟨"AllstreetsModel", "leastStart", "()I"⟩, 17) := ⟨⟨by decide +kernel, by decide +kernel⟩, List.mem_of_getElem? (i := 1242) (by decide +kernel), List.mem_of_getElem? (i := 1453) (by decide +kernel), List.mem_of_getElem? (i := 1454) (by decide +kernel)⟩
theorem lw_p43 : lw_okq (⟨"AllstreetsModel", "isStartOf", "(II)Z"⟩, 17) := ⟨⟨by decide +kernel, by decide +kernel⟩, List.mem_of_getElem? (i := 1242) (by decide +kernel), List.mem_of_getElem? (i := 1457) (by decide +kernel), List.mem_of_getElem? (i := 1458) (by decide +kernel)⟩
theorem lw_p44 : lw_okq (⟨"AllstreetsModel", "ruleOf", "(I)I"⟩, 17) := ⟨⟨by decide +kernel, by decide +kernel⟩, List.mem_of_getElem? (i := 1242) (by decide +kernel), List.mem_of_getElem? (i := 1469) (by decide +kernel), List.mem_of_getElem? (i := 1470) (by decide +kernel)⟩
theorem lw_p45 : lw_okq (⟨"AllstreetsModel", "isNoWalk", "(I)Z"⟩, 17) := ⟨⟨by decide +kernel, by decide +kernel⟩, List.mem_of_getElem? (i := 1242) (by decide +kernel), List.mem_of_getElem? (i := 1477) (by decide +kernel), List.mem_of_getElem? (i := 1478) (by decide +kernel)⟩
theorem lw_p46 : lw_okq (⟨"AllstreetsModel", "lose", "(I)V"⟩, 17) := ⟨⟨by decide +kernel, by decide +kernel⟩, List.mem_of_getElem? (i := 1242) (by decide +kernel), List.mem_of_getElem? (i := 1481) (by decide +kernel), List.mem_of_getElem? (i := 1482) (by decide +kernel)⟩
theorem lw_p47 : lw_okq (⟨"AllstreetsModel", "coming", "(II)I"⟩, 17) := ⟨⟨by decide +kernel, by decide +kernel⟩, List.mem_of_getElem? (i := 1242) (by decide +kernel), List.mem_of_getElem? (i := 1489) (by decide +kernel), List.mem_of_getElem? (i := 1490) (by decide +kernel)⟩
def lw_privs_3 : List (MethodName × Nat) := [(⟨"AllstreetsModel", "cornerOf", "(II)I"⟩, 17), (⟨"AllstreetsModel", "comesTo", "(I)I"⟩, 17), (⟨"AllstreetsModel", "take", "(II)I"⟩, 17), (⟨"AllstreetsModel", "put", "(III)V"⟩, 17), (⟨"AllstreetsModel", "all", "()I"⟩, 17), (⟨"AllstreetsModel", "waysOf", "(III)I"⟩, 17), (⟨"AllstreetsModel", "oddOf", "(I)I"⟩, 17), (⟨"AllstreetsModel", "isOdd", "(II)Z"⟩, 17), (⟨"AllstreetsModel", "hang", "(I)Z"⟩, 17), (⟨"AllstreetsModel", "kindOf", "()I"⟩, 17), (⟨"AllstreetsModel", "leastStart", "()I"⟩, 17), (⟨"AllstreetsModel", "isStartOf", "(II)Z"⟩, 17), (⟨"AllstreetsModel", "ruleOf", "(I)I"⟩, 17), (⟨"AllstreetsModel", "isNoWalk", "(I)Z"⟩, 17), (⟨"AllstreetsModel", "lose", "(I)V"⟩, 17), (⟨"AllstreetsModel", "coming", "(II)I"⟩, 17)]
theorem lw_r3 : ∀ q ∈ lw_privs_3, lw_okq q := List.forall_mem_cons.mpr ⟨lw_p32, List.forall_mem_cons.mpr ⟨lw_p33, List.forall_mem_cons.mpr ⟨lw_p34, List.forall_mem_cons.mpr ⟨lw_p35, List.forall_mem_cons.mpr ⟨lw_p36, List.forall_mem_cons.mpr ⟨lw_p37, List.forall_mem_cons.mpr ⟨lw_p38, List.forall_mem_cons.mpr ⟨lw_p39, List.forall_mem_cons.mpr ⟨lw_p40, List.forall_mem_cons.mpr ⟨lw_p41, List.forall_mem_cons.mpr ⟨lw_p42, List.forall_mem_cons.mpr ⟨lw_p43, List.forall_mem_cons.mpr ⟨lw_p44, List.forall_mem_cons.mpr ⟨lw_p45, List.forall_mem_cons.mpr ⟨lw_p46, List.forall_mem_cons.mpr ⟨lw_p47, fun _ h => absurd h List.not_mem_nil⟩⟩⟩⟩⟩⟩⟩⟩⟩⟩⟩⟩⟩⟩⟩⟩
theorem lw_p48 : lw_okq (⟨"AllstreetsModel", "leaving", "(II)I"⟩, 17) := ⟨⟨by decide +kernel, by decide +kernel⟩, List.mem_of_getElem? (i := 1242) (by decide +kernel), List.mem_of_getElem? (i := 1493) (by decide +kernel), List.mem_of_getElem? (i := 1494) (by decide +kernel)⟩
theorem lw_p49 : lw_okq (⟨"AllstreetsModel", "goesFrom", "(I)I"⟩, 17) := ⟨⟨by decide +kernel, by decide +kernel⟩, List.mem_of_getElem? (i := 1242) (by decide +kernel), List.mem_of_getElem? (i := 1497) (by decide +kernel), List.mem_of_getElem? (i := 1498) (by decide +kernel)⟩
theorem lw_p50 : lw_okq (⟨"AllstreetsModel", "gone", "(IIZ)I"⟩, 17) := ⟨⟨by decide +kernel, by decide +kernel⟩, List.mem_of_getElem? (i := 1242) (by decide +kernel), List.mem_of_getElem? (i := 1509) (by decide +kernel), List.mem_of_getElem? (i := 1510) (by decide +kernel)⟩
theorem lw_p51 : lw_okq (⟨"AllstreetsModel", "setOf", "(I)I"⟩, 17) := ⟨⟨by decide +kernel, by decide +kernel⟩, List.mem_of_getElem? (i := 1242) (by decide +kernel), List.mem_of_getElem? (i := 1513) (by decide +kernel), List.mem_of_getElem? (i := 1514) (by decide +kernel)⟩
theorem lw_p52 : lw_okq (⟨"AllstreetsModel", "completed", "(IZ)I"⟩, 17) := ⟨⟨by decide +kernel, by decide +kernel⟩, List.mem_of_getElem? (i := 1242) (by decide +kernel), List.mem_of_getElem? (i := 1521) (by decide +kernel), List.mem_of_getElem? (i := 1522) (by decide +kernel)⟩
theorem lw_p53 : lw_okq (⟨"AllstreetsModel", "isNoRound", "(II)Z"⟩, 17) := ⟨⟨by decide +kernel, by decide +kernel⟩, List.mem_of_getElem? (i := 1242) (by decide +kernel), List.mem_of_getElem? (i := 1529) (by decide +kernel), List.mem_of_getElem? (i := 1530) (by decide +kernel)⟩
theorem lw_p54 : lw_okq (⟨"AllstreetsModel", "isHome", "(I)Z"⟩, 17) := ⟨⟨by decide +kernel, by decide +kernel⟩, List.mem_of_getElem? (i := 1242) (by decide +kernel), List.mem_of_getElem? (i := 1533) (by decide +kernel), List.mem_of_getElem? (i := 1534) (by decide +kernel)⟩
theorem lw_p55 : lw_okq (⟨"AllstreetsModel", "spliced", "(III)V"⟩, 17) := ⟨⟨by decide +kernel, by decide +kernel⟩, List.mem_of_getElem? (i := 1242) (by decide +kernel), List.mem_of_getElem? (i := 1537) (by decide +kernel), List.mem_of_getElem? (i := 1538) (by decide +kernel)⟩
theorem lw_p56 : lw_okq (⟨"AllstreetsModel", "rotated", "(II)V"⟩, 17) := ⟨⟨by decide +kernel, by decide +kernel⟩, List.mem_of_getElem? (i := 1242) (by decide +kernel), List.mem_of_getElem? (i := 1545) (by decide +kernel), List.mem_of_getElem? (i := 1546) (by decide +kernel)⟩
theorem lw_p57 : lw_okq (⟨"AllstreetsModel", "filled", "(IZ)V"⟩, 17) := ⟨⟨by decide +kernel, by decide +kernel⟩, List.mem_of_getElem? (i := 1242) (by decide +kernel), List.mem_of_getElem? (i := 1565) (by decide +kernel), List.mem_of_getElem? (i := 1566) (by decide +kernel)⟩
theorem lw_p58 : lw_okq (⟨"AllstreetsModel", "fitting", "(IIZ)I"⟩, 17) := ⟨⟨by decide +kernel, by decide +kernel⟩, List.mem_of_getElem? (i := 1242) (by decide +kernel), List.mem_of_getElem? (i := 1569) (by decide +kernel), List.mem_of_getElem? (i := 1570) (by decide +kernel)⟩
theorem lw_p59 : lw_okq (⟨"AllstreetsModel", "isWhole", "(I)Z"⟩, 17) := ⟨⟨by decide +kernel, by decide +kernel⟩, List.mem_of_getElem? (i := 1242) (by decide +kernel), List.mem_of_getElem? (i := 1577) (by decide +kernel), List.mem_of_getElem? (i := 1578) (by decide +kernel)⟩
theorem lw_p60 : lw_okq (⟨"AllstreetsModel", "copied", "(II)V"⟩, 17) := ⟨⟨by decide +kernel, by decide +kernel⟩, List.mem_of_getElem? (i := 1242) (by decide +kernel), List.mem_of_getElem? (i := 1581) (by decide +kernel), List.mem_of_getElem? (i := 1582) (by decide +kernel)⟩
theorem lw_p61 : lw_okq (⟨"AllstreetsModel", "isSame", "(II)Z"⟩, 17) := ⟨⟨by decide +kernel, by decide +kernel⟩, List.mem_of_getElem? (i := 1242) (by decide +kernel), List.mem_of_getElem? (i := 1613) (by decide +kernel), List.mem_of_getElem? (i := 1614) (by decide +kernel)⟩
theorem lw_p62 : lw_okq (⟨"AllstreetsModel", "turnTo", "(II)I"⟩, 17) := ⟨⟨by decide +kernel, by decide +kernel⟩, List.mem_of_getElem? (i := 1242) (by decide +kernel), List.mem_of_getElem? (i := 1621) (by decide +kernel), List.mem_of_getElem? (i := 1622) (by decide +kernel)⟩
theorem lw_p63 : lw_okq (⟨"AllstreetsModel", "isTurnedBy", "(III)Z"⟩, 17) := ⟨⟨by decide +kernel, by decide +kernel⟩, List.mem_of_getElem? (i := 1242) (by decide +kernel), List.mem_of_getElem? (i := 1625) (by decide +kernel), List.mem_of_getElem? (i := 1626) (by decide +kernel)⟩
def lw_privs_4 : List (MethodName × Nat) := [(⟨"AllstreetsModel", "leaving", "(II)I"⟩, 17), (⟨"AllstreetsModel", "goesFrom", "(I)I"⟩, 17), (⟨"AllstreetsModel", "gone", "(IIZ)I"⟩, 17), (⟨"AllstreetsModel", "setOf", "(I)I"⟩, 17), (⟨"AllstreetsModel", "completed", "(IZ)I"⟩, 17), (⟨"AllstreetsModel", "isNoRound", "(II)Z"⟩, 17), (⟨"AllstreetsModel", "isHome", "(I)Z"⟩, 17), (⟨"AllstreetsModel", "spliced", "(III)V"⟩, 17), (⟨"AllstreetsModel", "rotated", "(II)V"⟩, 17), (⟨"AllstreetsModel", "filled", "(IZ)V"⟩, 17), (⟨"AllstreetsModel", "fitting", "(IIZ)I"⟩, 17), (⟨"AllstreetsModel", "isWhole", "(I)Z"⟩, 17), (⟨"AllstreetsModel", "copied", "(II)V"⟩, 17), (⟨"AllstreetsModel", "isSame", "(II)Z"⟩, 17), (⟨"AllstreetsModel", "turnTo", "(II)I"⟩, 17), (⟨"AllstreetsModel", "isTurnedBy", "(III)Z"⟩, 17)]
theorem lw_r4 : ∀ q ∈ lw_privs_4, lw_okq q := List.forall_mem_cons.mpr ⟨lw_p48, List.forall_mem_cons.mpr ⟨lw_p49, List.forall_mem_cons.mpr ⟨lw_p50, List.forall_mem_cons.mpr ⟨lw_p51, List.forall_mem_cons.mpr ⟨lw_p52, List.forall_mem_cons.mpr ⟨lw_p53, List.forall_mem_cons.mpr ⟨lw_p54, List.forall_mem_cons.mpr ⟨lw_p55, List.forall_mem_cons.mpr ⟨lw_p56, List.forall_mem_cons.mpr ⟨lw_p57, List.forall_mem_cons.mpr ⟨lw_p58, List.forall_mem_cons.mpr ⟨lw_p59, List.forall_mem_cons.mpr ⟨lw_p60, List.forall_mem_cons.mpr ⟨lw_p61, List.forall_mem_cons.mpr ⟨lw_p62, List.forall_mem_cons.mpr ⟨lw_p63, fun _ h => absurd h List.not_mem_nil⟩⟩⟩⟩⟩⟩⟩⟩⟩⟩⟩⟩⟩⟩⟩⟩
theorem lw_p64 : lw_okq (⟨"AllstreetsModel", "wordIn", "(III)I"⟩, 17) := ⟨⟨by decide +kernel, by decide +kernel⟩, List.mem_of_getElem? (i := 1242) (by decide +kernel), List.mem_of_getElem? (i := 1644) (by decide +kernel), List.mem_of_getElem? (i := 1645) (by decide +kernel)⟩
theorem lw_p65 : lw_okq (⟨"AllstreetsModel", "canGo", "(Z)Z"⟩, 17) := ⟨⟨by decide +kernel, by decide +kernel⟩, List.mem_of_getElem? (i := 1242) (by decide +kernel), List.mem_of_getElem? (i := 1656) (by decide +kernel), List.mem_of_getElem? (i := 1657) (by decide +kernel)⟩
theorem lw_p66 : lw_okq (⟨"AllstreetsModel", "isThere", "()Z"⟩, 17) := ⟨⟨by decide +kernel, by decide +kernel⟩, List.mem_of_getElem? (i := 1242) (by decide +kernel), List.mem_of_getElem? (i := 1660) (by decide +kernel), List.mem_of_getElem? (i := 1661) (by decide +kernel)⟩
theorem lw_p67 : lw_okq (⟨"AllstreetsModel", "between", "(III)I"⟩, 17) := ⟨⟨by decide +kernel, by decide +kernel⟩, List.mem_of_getElem? (i := 1242) (by decide +kernel), List.mem_of_getElem? (i := 1668) (by decide +kernel), List.mem_of_getElem? (i := 1669) (by decide +kernel)⟩
theorem lw_p68 : lw_okq (⟨"AllstreetsModel", "fittingHere", "(I)I"⟩, 17) := ⟨⟨by decide +kernel, by decide +kernel⟩, List.mem_of_getElem? (i := 1242) (by decide +kernel), List.mem_of_getElem? (i := 1676) (by decide +kernel), List.mem_of_getElem? (i := 1677) (by decide +kernel)⟩
theorem lw_p69 : lw_okq (⟨"AllstreetsModel", "placeTold", "(Z)I"⟩, 17) := ⟨⟨by decide +kernel, by decide +kernel⟩, List.mem_of_getElem? (i := 1242) (by decide +kernel), List.mem_of_getElem? (i := 1692) (by decide +kernel), List.mem_of_getElem? (i := 1693) (by decide +kernel)⟩
theorem lw_p70 : lw_okq (⟨"AllstreetsModel", "houseOf", "(I)I"⟩, 17) := ⟨⟨by decide +kernel, by decide +kernel⟩, List.mem_of_getElem? (i := 1242) (by decide +kernel), List.mem_of_getElem? (i := 1700) (by decide +kernel), List.mem_of_getElem? (i := 1701) (by decide +kernel)⟩
theorem lw_p71 : lw_okq (⟨"AllstreetsModel", "isAllSo", "()Z"⟩, 17) := ⟨⟨by decide +kernel, by decide +kernel⟩, List.mem_of_getElem? (i := 1242) (by decide +kernel), List.mem_of_getElem? (i := 1712) (by decide +kernel), List.mem_of_getElem? (i := 1713) (by decide +kernel)⟩
theorem lw_p72 : lw_okq (⟨"AllstreetsModel", "isWalk", "(I)Z"⟩, 17) := ⟨⟨by decide +kernel, by decide +kernel⟩, List.mem_of_getElem? (i := 1242) (by decide +kernel), List.mem_of_getElem? (i := 1716) (by decide +kernel), List.mem_of_getElem? (i := 1717) (by decide +kernel)⟩
theorem lw_p73 : lw_okq (⟨"AllstreetsModel", "isCounted", "()Z"⟩, 17) := ⟨⟨by decide +kernel, by decide +kernel⟩, List.mem_of_getElem? (i := 1242) (by decide +kernel), List.mem_of_getElem? (i := 1720) (by decide +kernel), List.mem_of_getElem? (i := 1721) (by decide +kernel)⟩
theorem lw_p74 : lw_okq (⟨"AllstreetsModel", "isCompleted", "()Z"⟩, 17) := ⟨⟨by decide +kernel, by decide +kernel⟩, List.mem_of_getElem? (i := 1242) (by decide +kernel), List.mem_of_getElem? (i := 1724) (by decide +kernel), List.mem_of_getElem? (i := 1725) (by decide +kernel)⟩
theorem lw_p75 : lw_okq (⟨"AllstreetsModel", "addTown", "(J)J"⟩, 17) := ⟨⟨by decide +kernel, by decide +kernel⟩, List.mem_of_getElem? (i := 1242) (by decide +kernel), List.mem_of_getElem? (i := 1733) (by decide +kernel), List.mem_of_getElem? (i := 1734) (by decide +kernel)⟩
theorem lw_p76 : lw_okq (⟨"AllstreetsModel", "addWalk", "(JI)J"⟩, 17) := ⟨⟨by decide +kernel, by decide +kernel⟩, List.mem_of_getElem? (i := 1242) (by decide +kernel), List.mem_of_getElem? (i := 1741) (by decide +kernel), List.mem_of_getElem? (i := 1742) (by decide +kernel)⟩
def lw_privs_5 : List (MethodName × Nat) := [(⟨"AllstreetsModel", "wordIn", "(III)I"⟩, 17), (⟨"AllstreetsModel", "canGo", "(Z)Z"⟩, 17), (⟨"AllstreetsModel", "isThere", "()Z"⟩, 17), (⟨"AllstreetsModel", "between", "(III)I"⟩, 17), (⟨"AllstreetsModel", "fittingHere", "(I)I"⟩, 17), (⟨"AllstreetsModel", "placeTold", "(Z)I"⟩, 17), (⟨"AllstreetsModel", "houseOf", "(I)I"⟩, 17), (⟨"AllstreetsModel", "isAllSo", "()Z"⟩, 17), (⟨"AllstreetsModel", "isWalk", "(I)Z"⟩, 17), (⟨"AllstreetsModel", "isCounted", "()Z"⟩, 17), (⟨"AllstreetsModel", "isCompleted", "()Z"⟩, 17), (⟨"AllstreetsModel", "addTown", "(J)J"⟩, 17), (⟨"AllstreetsModel", "addWalk", "(JI)J"⟩, 17)]
theorem lw_r5 : ∀ q ∈ lw_privs_5, lw_okq q := List.forall_mem_cons.mpr ⟨lw_p64, List.forall_mem_cons.mpr ⟨lw_p65, List.forall_mem_cons.mpr ⟨lw_p66, List.forall_mem_cons.mpr ⟨lw_p67, List.forall_mem_cons.mpr ⟨lw_p68, List.forall_mem_cons.mpr ⟨lw_p69, List.forall_mem_cons.mpr ⟨lw_p70, List.forall_mem_cons.mpr ⟨lw_p71, List.forall_mem_cons.mpr ⟨lw_p72, List.forall_mem_cons.mpr ⟨lw_p73, List.forall_mem_cons.mpr ⟨lw_p74, List.forall_mem_cons.mpr ⟨lw_p75, List.forall_mem_cons.mpr ⟨lw_p76, fun _ h => absurd h List.not_mem_nil⟩⟩⟩⟩⟩⟩⟩⟩⟩⟩⟩⟩⟩
def lw_privs : List (MethodName × Nat) := lw_privs_1 ++ (lw_privs_2 ++ (lw_privs_3 ++ (lw_privs_4 ++ (lw_privs_5))))
def lw_tbl : List Cond := k2_sels lw_privs ++ tables_1
theorem lw_privs_ok : ∀ q ∈ lw_privs, lw_okq q := by
  show ∀ q ∈ lw_privs_1 ++ (lw_privs_2 ++ (lw_privs_3 ++ (lw_privs_4 ++ (lw_privs_5)))), lw_okq q
  exact List.forall_mem_append.mpr ⟨lw_r1, List.forall_mem_append.mpr ⟨lw_r2, List.forall_mem_append.mpr ⟨lw_r3, List.forall_mem_append.mpr ⟨lw_r4, lw_r5⟩⟩⟩⟩
-- ===== end of PART A; then your names; then what follows =====
end
section
/-! ===== BEGIN words of one list among another's, by their places ===== -/
theorem goodIn_r {big : List Cond} (ws : List Cond) (ps : List Nat) (hp : ws = ps.filterMap (fun i => big[i]?)) (h : ws.all goodWord = true) : GoodIn big ws := by
  intro w hw
  have h1 := List.all_eq_true.mp h w hw
  rw [hp] at hw
  obtain ⟨i, -, hi⟩ := List.mem_filterMap.mp hw
  have hm : w ∈ big := by first | exact List.mem_of_getElem? hi | exact List.getElem?_mem hi
  exact ⟨hm, good_of_word h1⟩
theorem goodIn_app {big a b : List Cond} (ha : GoodIn big a) (hb : GoodIn big b) : GoodIn big (a ++ b) := fun w h => (List.mem_append.mp h).elim (ha w) (hb w)
theorem goodIn_ca {big a b : List Cond} {c : Cond} (ha : GoodIn big (c :: a)) (hb : GoodIn big b) : GoodIn big (c :: (a ++ b)) := fun w h => (List.mem_cons.mp h).elim (fun e => ha w (List.mem_cons.mpr (Or.inl e))) (fun h => (List.mem_append.mp h).elim (fun h => ha w (List.mem_cons.mpr (Or.inr h))) (hb w))
theorem goodIn_sub {big ws : List Cond} (hm : ∀ w ∈ ws, w ∈ big) (h : ws.all goodWord = true) : GoodIn big ws := fun w hw => ⟨hm w hw, good_of_word (List.all_eq_true.mp h w hw)⟩
/-! ===== END ===== -/
/-! ===== BEGIN exceptions that leave a method, and their catching by the caller (launches without stack traces) ===== -/
section VXA
/-! The laws vx_back, vx_callV, vx_callS, vx_callSW, vx_throw0, vx_throwS follow proofs of the library, with one case more: JvmDerived/Free/Laws.lean (Back.of_free), Shelf42/LK1.lean (callV, callS), Shelf/KitTraced.lean (throwNew0V, throwNewS). -/
/-- where a method has thrown q: the class by its name, the cell, what was written, the world -/
def vx_T (XC : String → State → State → Prop) (st : State) (q : Addr) (t : State) (mc ms : Nat) (free : Addr → Prop) : Prop :=
  ∃ (E : String) (ce : Cell) (L : List Loc), XC E st t ∧ t.heap[q]? = some ce ∧ ce.vm = .none ∧ st.vm.findClass E = some ce.cls ∧ st.WarmedH t.vm ∧ st.sameButNew ({ t with vm := st.vm } : State) L mc ms ∧ ∀ z ∈ L, free z.base
def vx_Q (Qc : Array Value → State → Outcome → State → Prop) (XC : String → State → State → Prop) (mc ms : Nat) (free : Addr → Prop) : Array Value → State → Outcome → State → Prop := fun a st o t =>
  (Qc a st o t ∧ ∃ L, FrameEnd st o t L mc ms ∧ ∀ q ∈ L, free q.base) ∨ ∃ q, o = .threw q ∧ vx_T XC st q t mc ms free
/-- a callee that returns or throws -/
def vx_Met (l : Launch) (y : MethodName) (ws : List Cond) (rm : Room) (Pc : Array Value → State → Prop) (Qc : Array Value → State → Outcome → State → Prop) (XC : String → State → State → Prop) (mc ms : Nat) (free : Addr → Prop) : Prop :=
  MetFree l y (headSpec ws rm) Pc (fun _ _ _ _ _ => True) (vx_Q Qc XC mc ms free)
def vx_Post (XC : String → State → State → Prop) (mc ms : Nat) (free : Addr → Prop) : Pt → Array Value → Addr → Pt → Prop := fun A a q B =>
  ∃ (g : JFrame) (mk : MethodId) (t : State) (L : List Loc) (E : String) (ce : Cell), B.U.heap = t.heap ∧ B.U.vm = t.vm ∧ XC E (A.U.calling g mk a) t ∧ t.heap[q]? = some ce ∧ ce.vm = .none ∧ A.U.vm.findClass E = some ce.cls ∧ B.locs = A.locs ++ L ∧ (∀ z ∈ L, free z.base) ∧ B.cells = A.cells + mc ∧ B.slots = A.slots + ms
def vx_Back (l : Launch) (R : Room) (p : Program) (e : Env) (below : List Frame) (s : State) (sargs : Array Value) (y : MethodName) (len W9 : Nat)
    (Pre : Pt → Array Value → Prop) (Post : Pt → Array Value → Option Value → Pt → Prop) (PostX : Pt → Array Value → Addr → Pt → Prop) : Prop :=
  ∀ (m : MethodId) (meth : Method) (c : Code) (A : Pt) (g : JFrame) (ig : Instr) (mk : MethodId) (a : Array Value),
    Stand p l e R s m sargs below meth c A.U A.locs A.cells A.slots → g.method = m → g.locals.size = c.maxLocals → decode c.code g.pc = .ok (ig, len) →
    2 * g.monitorRoom + (g.stack.map fun v => v.category).sum ≤ W9 → A.U.methodNamed? y = some mk → Pre A a →
    (∃ (v : Option Value) (B : Pt), Stand p l e R s m sargs below meth c B.U B.locs B.cells B.slots ∧ Post A a v B ∧
      Steps p.tables e below (doInvoke e (A.U.setTop g) [] mk a).1 (B.U.setTop { g with pc := g.pc + len, stack := v.toList ++ g.stack })) ∨
    (∃ (q : Addr) (B : Pt), Stand p l e R s m sargs below meth c B.U B.locs B.cells B.slots ∧ PostX A a q B ∧
      Steps p.tables e below (doInvoke e (A.U.setTop g) [] mk a).1 ((B.U.setTop g).pushFrame (.throwing q)))
section Payer
variable {l : Launch} {R : Room} {p : Program} {e : Env} {below : List Frame} {s : State} {sargs : Array Value} {y : MethodName} {len W9 : Nat}
theorem vx_back {ws : List Cond} {rm : Room} {Pc : Array Value → State → Prop} {Qc : Array Value → State → Outcome → State → Prop} {XC : String → State → State → Prop} {mc ms : Nat} {free : Addr → Prop} {bytes : ByteArray} {maxL : Nat} {ret : Option FieldType}
    (hM : vx_Met l y ws rm Pc Qc XC mc ms free) (hblind : FrameBlind Pc) (hrc : rm.cells = mc) (hrs : rm.slots = ms)
    (hframes : rm.frames + 1 ≤ R.frames) (hlocals : W9 + (maxL + 11) + rm.locals ≤ R.locals)
    (hws : ∀ w ∈ ws, ∀ a' U, s.WarmedH U.vm → w.before a' U = true) (hcode : Cond.code y bytes maxL ret ∈ ws) (hinit : ∀ a' U, s.WarmedH U.vm → (Cond.initialized y.cls).before a' U = true) :
    vx_Back l R p e below s sargs y len W9 (PreOf R mc ms Pc) (PostOf Qc mc ms free) (vx_Post XC mc ms free) := by
  intro m meth c A g ig mk a X hg hsize hdg hW hn hp
  have h1 : (headSpec ws rm).pre.before a A.U = true := atoms_intro fun w hw => hws w hw _ _ X.warmed
  have h2 : (Cond.code y bytes maxL ret).before a A.U = true := hws _ hcode _ _ X.warmed
  have h3 : (Cond.initialized y.cls).before a A.U = true := hinit _ _ X.warmed
  have h4 : A.cells + (headSpec ws rm).room.cells ≤ R.cells := by rw [show (headSpec ws rm).room.cells = mc from hrc]; exact hp.1
  have h5 : A.slots + (headSpec ws rm).room.slots ≤ R.slots := by rw [show (headSpec ws rm).room.slots = ms from hrs]; exact hp.2.1
  have hPc : Pc a (A.U.calling g mk a) := hblind _ _ _ _ hp.2.2
  obtain ⟨U, Ls, c0, s0⟩ := A
  dsimp only [Pt.U, Pt.locs, Pt.cells, Pt.slots] at h1 h2 h3 h4 h5 X hn hPc ⊢
  obtain ⟨methY, cY, hmY, hcY, -, hlY, -, -, -, -⟩ := Cond.code_spec hn h2
  obtain ⟨kY, hkY, -⟩ := className_of_methodNamed hn
  have hinitY : kY.init = .initialized := Cond.initialized_spec (findClass_of_methodNamed hn) hkY h3
  have h : At U g.method c below := by rw [hg]; exact X.here
  have hlocals9 : W9 + (maxL + 11) + (headSpec ws rm).room.locals ≤ R.locals := hlocals
  have happ : (headSpec ws rm).appliesLoose y e.platform (U.calling g mk a) = true :=
    Spec.appliesLoose_calling (g := g) h hdg hn hkY hinitY
      (X.room_calling (g := g) (R' := (headSpec ws rm).room) hsize hmY hcY hframes (by rw [hlY]; omega) h4 h5) h1
  obtain ⟨mid, hmid⟩ := h.above
  have hfr : (U.setTop g).frames = (.java g :: mid) ++ below := by rw [State.frames_setTop' g h.top, hmid]; rfl
  obtain ⟨o, s₂, hsteps, -, hend, hq⟩ := Steps.callFree hM p X.admits X.cas X.clock (acts := []) hfr happ hPc trivial
  have hq' : vx_Q Qc XC mc ms free a (U.calling g mk a) o s₂ := hq
  rw [State.frames_setTop' g h.top] at hend
  obtain ⟨g₀, hg0⟩ := Option.isSome_iff_exists.mp h.top
  obtain ⟨r, hr⟩ := State.topJava?_eq_some.mp hg0
  have hr' : (({ U with heap := s₂.heap, slotsUsed := s₂.slotsUsed } : State).setVm s₂.vm).frames = .java g₀ :: r := hr
  rcases hq' with ⟨hqc, L, hfe, hL⟩ | ⟨q, rfl, E, ce, L, hx, hce, hcv, hcl, hW₂, hsm, hL⟩
  · obtain ⟨⟨v, rfl⟩, hW₂, e2, q2, q3, q4, q5, q6⟩ := id hfe
    have e3 : s₂ = ({ (U.calling g mk a).setFrames s₂.frames with heap := s₂.heap, slotsUsed := s₂.slotsUsed } : State).setVm s₂.vm := by
      have : s₂ = ({ s₂ with vm := (U.calling g mk a).vm } : State).setVm s₂.vm := rfl
      rw [e2] at this
      exact this
    obtain ⟨c₂, i₂, len₂, hc₂, hd₂, hf₂⟩ := hend
    have hW' : U.WarmedH s₂.vm := hW₂
    have hcc : c₂ = c := by
      have h1 : s₂.code? g.method = U.code? g.method := by
        rw [State.code?_eq, State.code?_eq, hW'.alike.method?]
      exact Option.some.inj (hc₂.symm.trans (h1.trans h.code))
    subst hcc
    have hlen : len₂ = len := by rw [hdg] at hd₂; cases hd₂; rfl
    subst hlen
    have hs₂ : s₂ = (({ U with heap := s₂.heap, slotsUsed := s₂.slotsUsed } : State).setVm s₂.vm).setTop { g with pc := g.pc + len₂, stack := v.toList ++ g.stack } := by
      refine e3.trans ?_
      rw [hf₂, State.calling_eq h.top, State.setFrames_setFrames, State.setTop_of_frames _ hr', hr]
      rfl
    have hsame : U.sameButNew ({ U with heap := s₂.heap, slotsUsed := s₂.slotsUsed } : State) L mc ms := by
      refine ⟨?_, q2, q3, q4, q5, q6⟩
      obtain ⟨t, ht, -⟩ := State.frames_cons hr
      show ({ U with heap := s₂.heap, slotsUsed := s₂.slotsUsed } : State) = { U.setFrames U.frames with heap := s₂.heap, slotsUsed := s₂.slotsUsed }
      rw [State.setFrames_self ht]
    subst hg
    refine Or.inl ⟨v, ⟨(({ U with heap := s₂.heap, slotsUsed := s₂.slotsUsed } : State).setVm s₂.vm), Ls ++ L, c0 + mc, s0 + ms⟩,
      ⟨X.admits, X.cas, X.clock, X.frames, X.room, X.hears, X.method, X.code, (X.here.setHeapUsed s₂.heap s₂.slotsUsed).setVm hW'.alike, X.tail, State.WarmedH.trans X.warmed hW', X.limits, X.bytes, X.same.trans (hsame.setVm s.vm)⟩,
      ⟨g, mk, s₂, L, rfl, rfl, hqc, rfl, hL, rfl, rfl⟩, ?_⟩
    show Steps p.tables e below _ ((({ U with heap := s₂.heap, slotsUsed := s₂.slotsUsed } : State).setVm s₂.vm).setTop { g with pc := g.pc + len₂, stack := v.toList ++ g.stack })
    rw [← hs₂]
    exact hsteps
  · obtain ⟨e2, q2, q3, q4, q5, q6⟩ := id hsm
    have e3 : s₂ = ({ (U.calling g mk a).setFrames s₂.frames with heap := s₂.heap, slotsUsed := s₂.slotsUsed } : State).setVm s₂.vm := by
      have : s₂ = ({ s₂ with vm := (U.calling g mk a).vm } : State).setVm s₂.vm := rfl
      rw [e2] at this
      exact this
    have hf₂ : s₂.frames = .throwing q :: .java g :: U.frames.tail := hend
    have hW' : U.WarmedH s₂.vm := hW₂
    have hs₂ : s₂ = ((({ U with heap := s₂.heap, slotsUsed := s₂.slotsUsed } : State).setVm s₂.vm).setTop g).pushFrame (.throwing q) := by
      refine e3.trans ?_
      rw [hf₂, State.calling_eq h.top, State.setFrames_setFrames, State.pushFrame, State.frames_setTop _ hr', State.setTop_of_frames _ hr', State.setFrames_setFrames, hr]
      rfl
    have hsame : U.sameButNew ({ U with heap := s₂.heap, slotsUsed := s₂.slotsUsed } : State) L mc ms := by
      refine ⟨?_, q2, q3, q4, q5, q6⟩
      obtain ⟨t, ht, -⟩ := State.frames_cons hr
      show ({ U with heap := s₂.heap, slotsUsed := s₂.slotsUsed } : State) = { U.setFrames U.frames with heap := s₂.heap, slotsUsed := s₂.slotsUsed }
      rw [State.setFrames_self ht]
    subst hg
    refine Or.inr ⟨q, ⟨(({ U with heap := s₂.heap, slotsUsed := s₂.slotsUsed } : State).setVm s₂.vm), Ls ++ L, c0 + mc, s0 + ms⟩,
      ⟨X.admits, X.cas, X.clock, X.frames, X.room, X.hears, X.method, X.code, (X.here.setHeapUsed s₂.heap s₂.slotsUsed).setVm hW'.alike, X.tail, State.WarmedH.trans X.warmed hW', X.limits, X.bytes, X.same.trans (hsame.setVm s.vm)⟩,
      ⟨g, mk, s₂, L, E, ce, rfl, rfl, hx, hce, hcv, hcl, rfl, hL, rfl, rfl⟩, ?_⟩
    show Steps p.tables e below _ (((({ U with heap := s₂.heap, slotsUsed := s₂.slotsUsed } : State).setVm s₂.vm).setTop g).pushFrame (.throwing q))
    rw [← hs₂]
    exact hsteps
end Payer
section Calls
variable {p : Program} {l : Launch} {e : Env} {R : Room} {s : State} {m : MethodId} {args : Array Value} {below : List Frame} {meth : Method} {c : Code} {T : State} {locs : List Loc} {cells slots : Nat}
theorem vx_callV (X : Stand p l e R s m args below meth c T locs cells slots) (hexec : p.tables.exec = Jvm.exec) {own C : String} {index : Nat} {y : MethodName} {bytes : ByteArray} {maxL : Nat} {ret : Option FieldType}
    (hown : s.vm.findClass own = some m.cls) (hlink : (Cond.methodLink own index y).before args s = true) (hinst : (Cond.instanceMethod y).before args s = true) (hsel : (Cond.selects C y y).before args s = true)
    (hcode : (Cond.code y bytes maxL ret).before args s = true) (hy : y.cls ≠ "java/lang/invoke/MethodHandle" ∧ y.cls ≠ "java/lang/invoke/VarHandle")
    {W9 : Nat} {Pre : Pt → Array Value → Prop} {Post : Pt → Array Value → Option Value → Pt → Prop} {PostX : Pt → Array Value → Addr → Pt → Prop} (hK : vx_Back l R p e below s args y 3 W9 Pre Post PostX)
    {b : Addr} {cellB : Cell} (hcell : T.heap[b]? = some cellB) (hobj : cellB.vm.isStatics = false) (hcls : s.vm.findClass C = some cellB.cls)
    {g : JFrame} (hg : g.method = m) (hsize : g.locals.size = c.maxLocals) {argsL rest : List Value} (hlen : ∀ sig, parseMethodDescriptor y.desc = some sig → argsL.length = sig.parameters.length)
    (hstack : g.stack = argsL.reverse ++ .ref b :: rest) (hW : 2 * g.monitorRoom + (rest.map fun v => v.category).sum ≤ W9) (hdg : decode c.code g.pc = .ok (.invokevirtual index, 3))
    (hpre : ∀ vm₁, s.WarmedH vm₁ → Pre ⟨T.setVm vm₁, locs, cells, slots⟩ (Value.ref b :: argsL).toArray) :
    (∃ (v : Option Value) (vm₁ : Vm) (B : Pt), s.WarmedH vm₁ ∧ Stand p l e R s m args below meth c B.U B.locs B.cells B.slots ∧ Post ⟨T.setVm vm₁, locs, cells, slots⟩ (Value.ref b :: argsL).toArray v B ∧
      ∀ target, Steps p.tables e below (B.U.setTop { g with pc := g.pc + 3, stack := v.toList ++ rest }) target → Steps p.tables e below (T.setTop g) target) ∨
    (∃ (q : Addr) (vm₁ : Vm) (B : Pt), s.WarmedH vm₁ ∧ Stand p l e R s m args below meth c B.U B.locs B.cells B.slots ∧ PostX ⟨T.setVm vm₁, locs, cells, slots⟩ (Value.ref b :: argsL).toArray q B ∧
      Steps p.tables e below (T.setTop g) ((B.U.setTop { g with stack := rest }).pushFrame (.throwing q))) := by
  obtain ⟨mk, methM, hnamed, hmethM, hstM, habM⟩ := Cond.instanceMethod_spec hinst
  obtain ⟨methM', cM, hmethM', -, -, -, -, -, -, hsigM⟩ := Cond.code_spec hnamed hcode
  cases hmethM.symm.trans hmethM'
  obtain ⟨c2, r2, m2, q1, q2, q3, q4, kP, hkP, hkPi⟩ := Cond.selects_spec hsel
  cases hcls.symm.trans q1
  cases (State.methodFound?_of_named hnamed hy).symm.trans q2
  cases hnamed.symm.trans q3
  have hselP : selectMethod e.platform s.vm cellB.cls mk = .method mk := by rw [Launch.admits_selectMethod X.admits]; exact q4
  obtain ⟨vm₁, X₁, hstep₁⟩ := X.invokevirtual hexec hown hlink hnamed hmethM hstM hkP hkPi hy (a := b) (cell := cellB) hcell
    (fun z h => by rw [h] at hobj; cases hobj) hselP hmethM habM hkP hkPi (g := g) hg (argsL := argsL) (rest := rest) (hlen _ hsigM) hstack hdg
  rcases hK m meth c ⟨T.setVm vm₁, locs, cells, slots⟩ { g with stack := rest } (.invokevirtual index) mk (Value.ref b :: argsL).toArray X₁ hg hsize hdg hW (X₁.named hnamed) (hpre vm₁ X₁.warmed) with ⟨v, B, X', hpost, hsteps⟩ | ⟨q, B, X', hpost, hsteps⟩
  · exact Or.inl ⟨v, vm₁, B, X₁.warmed, X', hpost, fun target h => hstep₁ _ fun acts => by rw [doInvoke_state]; exact hsteps.trans h⟩
  · exact Or.inr ⟨q, vm₁, B, X₁.warmed, X', hpost, hstep₁ _ fun acts => by rw [doInvoke_state]; exact hsteps⟩
theorem vx_callS (X : Stand p l e R s m args below meth c T locs cells slots) (hexec : p.tables.exec = Jvm.exec) {own : String} {index : Nat} {y : MethodName} {bytes : ByteArray} {maxL : Nat} {ret : Option FieldType}
    (hown : s.vm.findClass own = some m.cls) (hlink : (Cond.methodLink own index y).before args s = true) (hstat : (Cond.static y).before args s = true) (hinit : (Cond.initialized y.cls).before args s = true)
    (hcode : (Cond.code y bytes maxL ret).before args s = true) (hy : y.cls ≠ "java/lang/invoke/MethodHandle" ∧ y.cls ≠ "java/lang/invoke/VarHandle")
    {W9 : Nat} {Pre : Pt → Array Value → Prop} {Post : Pt → Array Value → Option Value → Pt → Prop} {PostX : Pt → Array Value → Addr → Pt → Prop} (hK : vx_Back l R p e below s args y 3 W9 Pre Post PostX)
    {g : JFrame} (hg : g.method = m) (hsize : g.locals.size = c.maxLocals) {argsL rest : List Value} (hlen : ∀ sig, parseMethodDescriptor y.desc = some sig → argsL.length = sig.parameters.length)
    (hstack : g.stack = argsL.reverse ++ rest) (hW : 2 * g.monitorRoom + (rest.map fun v => v.category).sum ≤ W9) (hdg : decode c.code g.pc = .ok (.invokestatic index, 3))
    (hpre : ∀ vm₁, s.WarmedH vm₁ → Pre ⟨T.setVm vm₁, locs, cells, slots⟩ argsL.toArray) :
    (∃ (v : Option Value) (vm₁ : Vm) (B : Pt), s.WarmedH vm₁ ∧ Stand p l e R s m args below meth c B.U B.locs B.cells B.slots ∧ Post ⟨T.setVm vm₁, locs, cells, slots⟩ argsL.toArray v B ∧
      ∀ target, Steps p.tables e below (B.U.setTop { g with pc := g.pc + 3, stack := v.toList ++ rest }) target → Steps p.tables e below (T.setTop g) target) ∨
    (∃ (q : Addr) (vm₁ : Vm) (B : Pt), s.WarmedH vm₁ ∧ Stand p l e R s m args below meth c B.U B.locs B.cells B.slots ∧ PostX ⟨T.setVm vm₁, locs, cells, slots⟩ argsL.toArray q B ∧
      Steps p.tables e below (T.setTop g) ((B.U.setTop { g with stack := rest }).pushFrame (.throwing q))) := by
  obtain ⟨mk, hnamed⟩ := Cond.code_named hcode
  obtain ⟨methM, cM, hmethM, -, -, -, -, -, -, hsigM⟩ := Cond.code_spec hnamed hcode
  have hstatic : methM.isStatic = true := Cond.static_spec hnamed hmethM hstat
  obtain ⟨kP, hkP, -⟩ := className_of_methodNamed hnamed
  have hinitP : kP.init = .initialized := Cond.initialized_spec (findClass_of_methodNamed hnamed) hkP hinit
  obtain ⟨vm₁, X₁, hstep₁⟩ := X.invokestatic hexec hown hlink hnamed hmethM hstatic hkP hinitP hy (g := g) hg (argsL := argsL) (rest := rest) (hlen _ hsigM) hstack hdg
  rcases hK m meth c ⟨T.setVm vm₁, locs, cells, slots⟩ { g with stack := rest } (.invokestatic index) mk argsL.toArray X₁ hg hsize hdg hW (X₁.named hnamed) (hpre vm₁ X₁.warmed) with ⟨v, B, X', hpost, hsteps⟩ | ⟨q, B, X', hpost, hsteps⟩
  · exact Or.inl ⟨v, vm₁, B, X₁.warmed, X', hpost, fun target h => hstep₁ _ fun acts => by rw [doInvoke_state]; exact hsteps.trans h⟩
  · exact Or.inr ⟨q, vm₁, B, X₁.warmed, X', hpost, hstep₁ _ fun acts => by rw [doInvoke_state]; exact hsteps⟩
end Calls
theorem vx_cls {s : State} {T : State} {vm₁ : Vm} {E : String} {k : ClassId} (hW : s.WarmedH vm₁) (h : (T.setVm vm₁).vm.findClass E = some k) : s.vm.findClass E = some k := by
  have h1 : vm₁.findClass E = some k := h
  rw [hW.alike.findClass] at h1
  exact h1
/-- the method's frame g, with q thrown over it -/
def vx_W (p : Program) (l : Launch) (e : Env) (R : Room) (s : State) (m : MethodId) (args : Array Value) (below : List Frame) (meth : Method) (c : Code) (H : Heap) (locs : List Loc) (cells slots : Nat) (Q : State → Prop) (g : JFrame) (q : Addr) : Prop :=
  ∀ T : State, T.heap = H → Stand p l e R s m args below meth c T locs cells slots → ∃ t, Steps p.tables e below ((T.setTop g).pushFrame (.throwing q)) t ∧ Q t
def vx_Run (p : Program) (l : Launch) (e : Env) (R : Room) (s : State) (m : MethodId) (args : Array Value) (below : List Frame) (meth : Method) (c : Code) (H : Heap) (locs : List Loc) (cells slots mc ms : Nat) (g : JFrame) (rest : List Value) (Qa : State → Outcome → State → Prop) (XC : String → State → State → Prop) (free : Addr → Prop) : Prop :=
  ∀ T : State, T.heap = H → Stand p l e R s m args below meth c T locs cells slots →
    (∃ (v : Option Value) (st₀ t T' : State) (L : List Loc), st₀.heap = H ∧ Stand p l e R s m args below meth c T' (locs ++ L) (cells + mc) (slots + ms) ∧ (∀ q ∈ L, free q.base) ∧ T'.heap = t.heap ∧ T'.vm = t.vm ∧ Qa st₀ (.returned v) t ∧
      Goes p e below T g T' { g with pc := g.pc + 3, stack := v.toList ++ rest }) ∨
    (∃ (q : Addr) (st₀ t T' : State) (L : List Loc) (E : String) (ce : Cell), st₀.heap = H ∧ Stand p l e R s m args below meth c T' (locs ++ L) (cells + mc) (slots + ms) ∧ (∀ z ∈ L, free z.base) ∧ T'.heap = t.heap ∧ T'.vm = t.vm ∧ XC E st₀ t ∧ t.heap[q]? = some ce ∧ ce.vm = .none ∧ s.vm.findClass E = some ce.cls ∧
      Steps p.tables e below (T.setTop g) ((T'.setTop { g with stack := rest }).pushFrame (.throwing q)))
def vx_X {S : Type} (px : S → Prop) (B : String → S → State → Prop) (A : Nat → Prop) : String → State → State → Prop := fun E st t => ∃ u : S, px u ∧ B E u t ∧ va_F A st t
section Runs
variable {p : Program} {l : Launch} {e : Env} {R : Room} {s : State} {m : MethodId} {args : Array Value} {below : List Frame} {meth : Method} {c : Code} {H : Heap} {locs : List Loc} {cells slots : Nat}
variable {y : MethodName} {bytes cc : ByteArray} {maxL nL mc ms n index : Nat} {ret : Option FieldType} {ws : List Cond} {rm : Room} {Pc : Array Value → State → Prop} {Qc : Array Value → State → Outcome → State → Prop} {XC : String → State → State → Prop} {free : Addr → Prop} {Ts : List Cond} {own C : String} {b : Addr} {As rest : List Value} {g : JFrame}
theorem vx_callBack (cb : CallB R s args own index y bytes maxL ret ws rm mc ms n) (hM : vx_Met l y ws rm Pc Qc XC mc ms free) (hbl : FrameBlind Pc) : vx_Back l R p e below s args y 3 8 (PreOf R mc ms Pc) (PostOf Qc mc ms free) (vx_Post XC mc ms free) := by
  obtain ⟨hrc, hrs, hfr, hlo, hws, hcw, -, hini, -⟩ := cb
  exact vx_back (bytes := bytes) (maxL := maxL) (ret := ret) hM hbl hrc hrs hfr hlo hws hcw (fun a' U hW => word_at hW (Or.inl (by first | rfl | simp [Cond.onTables, Cond.keeps, Cond.steady])) hini)
theorem vx_runV (S : CallFix p m c cc nL s args Ts own) (hM : vx_Met l y ws rm Pc Qc XC mc ms free) (cw : CallW R s args own C index y bytes maxL ret ws rm mc ms n) (hp : PreV s H C b Pc As)
    (hg : g.method = m) (hn : As.length = n) (hsize : g.locals.size = nL) (hstack : g.stack = As.reverse ++ .ref b :: rest) (hW : 2 * g.monitorRoom + (rest.map fun v => v.category).sum ≤ 8) (hdg : decode cc g.pc = .ok (.invokevirtual index, 3)) (hf : cells + mc ≤ R.cells ∧ slots + ms ≤ R.slots) :
    vx_Run p l e R s m args below meth c H locs cells slots mc ms g rest (Qc (Value.ref b :: As).toArray) XC free := by
  have hK : vx_Back l R p e below s args y 3 8 (PreOf R mc ms Pc) (PostOf Qc mc ms free) (vx_Post XC mc ms free) := vx_callBack cw.1 hM hp.1
  obtain ⟨⟨-, -, -, -, -, -, hcode, -, hy, hlen, hl⟩, hin, hse⟩ := cw
  obtain ⟨hx, hb, hml, ho, -⟩ := S
  obtain ⟨-, ⟨cellB, hcB, hoB, hclB⟩, hPc⟩ := hp
  intro T hT X
  rcases vx_callV X hx (C := C) (bytes := bytes) (maxL := maxL) (ret := ret) ho hl hin hse hcode hy hK (by rw [hT]; exact hcB) hoB hclB hg (hsize.trans hml.symm) (argsL := As) (rest := rest) (fun sig h => hn.trans (hlen sig h)) hstack hW (by rw [hb]; exact hdg)
    (fun vm₁ hW₁ => ⟨hf.1, hf.2, hPc (T.setVm vm₁) hT hW₁⟩) with ⟨v, vm₁, ⟨U', l2, c2, s2⟩, hW₁, X', ⟨g', mk, t, L, e1, e2, hq, h1, hL, h2, h3⟩, st⟩ | ⟨q, vm₁, ⟨U', l2, c2, s2⟩, hW₁, X', ⟨g', mk, t, L, E, ce, e1, e2, hq, hce, hcv, hcl, h1, hL, h2, h3⟩, st⟩
  · dsimp only [Pt.U, Pt.locs, Pt.cells, Pt.slots] at X' e1 e2 h1 h2 h3 st
    subst h1; subst h2; subst h3
    exact Or.inl ⟨v, (T.setVm vm₁).calling g' mk (Value.ref b :: As).toArray, t, U', L, hT, X', hL, e1, e2, hq, st⟩
  · dsimp only [Pt.U, Pt.locs, Pt.cells, Pt.slots] at X' e1 e2 h1 h2 h3 st hcl
    subst h1; subst h2; subst h3
    exact Or.inr ⟨q, (T.setVm vm₁).calling g' mk (Value.ref b :: As).toArray, t, U', L, E, ce, hT, X', hL, e1, e2, hq, hce, hcv, vx_cls hW₁ hcl, st⟩
theorem vx_runS (S : CallFix p m c cc nL s args Ts own) (hM : vx_Met l y ws rm Pc Qc XC mc ms free) (cw : CallB R s args own index y bytes maxL ret ws rm mc ms n ∧ (Cond.static y).before args s = true) (hp : PreS s H Pc As)
    (hg : g.method = m) (hn : As.length = n) (hsize : g.locals.size = nL) (hstack : g.stack = As.reverse ++ rest) (hW : 2 * g.monitorRoom + (rest.map fun v => v.category).sum ≤ 8) (hdg : decode cc g.pc = .ok (.invokestatic index, 3)) (hf : cells + mc ≤ R.cells ∧ slots + ms ≤ R.slots) :
    vx_Run p l e R s m args below meth c H locs cells slots mc ms g rest (Qc As.toArray) XC free := by
  have hK : vx_Back l R p e below s args y 3 8 (PreOf R mc ms Pc) (PostOf Qc mc ms free) (vx_Post XC mc ms free) := vx_callBack cw.1 hM hp.1
  obtain ⟨⟨-, -, -, -, -, -, hcode, hini, hy, hlen, hl⟩, hstt⟩ := cw
  obtain ⟨hx, hb, hml, ho, -⟩ := S
  intro T hT X
  rcases vx_callS X hx (bytes := bytes) (maxL := maxL) (ret := ret) ho hl hstt hini hcode hy hK hg (hsize.trans hml.symm) (argsL := As) (rest := rest) (fun sig h => hn.trans (hlen sig h)) hstack hW (by rw [hb]; exact hdg)
    (fun vm₁ hW₁ => ⟨hf.1, hf.2, hp.2 (T.setVm vm₁) hT hW₁⟩) with ⟨v, vm₁, ⟨U', l2, c2, s2⟩, hW₁, X', ⟨g', mk, t, L, e1, e2, hq, h1, hL, h2, h3⟩, st⟩ | ⟨q, vm₁, ⟨U', l2, c2, s2⟩, hW₁, X', ⟨g', mk, t, L, E, ce, e1, e2, hq, hce, hcv, hcl, h1, hL, h2, h3⟩, st⟩
  · dsimp only [Pt.U, Pt.locs, Pt.cells, Pt.slots] at X' e1 e2 h1 h2 h3 st
    subst h1; subst h2; subst h3
    exact Or.inl ⟨v, (T.setVm vm₁).calling g' mk As.toArray, t, U', L, hT, X', hL, e1, e2, hq, st⟩
  · dsimp only [Pt.U, Pt.locs, Pt.cells, Pt.slots] at X' e1 e2 h1 h2 h3 st hcl
    subst h1; subst h2; subst h3
    exact Or.inr ⟨q, (T.setVm vm₁).calling g' mk As.toArray, t, U', L, E, ce, hT, X', hL, e1, e2, hq, hce, hcv, vx_cls hW₁ hcl, st⟩
end Runs
section Rows
variable {p : Program} {l : Launch} {e : Env} {R : Room} {s : State} {m : MethodId} {args : Array Value} {below : List Frame} {meth : Method} {c : Code} {H : Heap} {locs : List Loc} {cells slots : Nat} {Q : State → Prop}
variable {mc ms : Nat} {free : Addr → Prop} {A0 A1 : Nat → Prop} {H0 : Heap} {a : Array Value} {pc : Nat} {ls : Array Slot} {st0 rest : List Value}
theorem vx_keep {st₀ t T' : State} {L : List Loc} (h0 : st₀.heap = H) (e1 : T'.heap = t.heap) (hS : va_S A0 H0 H locs) (hA : ∀ q, q < H.size → A1 q → A0 q) (hf : ∀ q, free q → A0 q) (hL : ∀ q ∈ L, free q.base) (hF : va_F A1 st₀ t) :
    H.size ≤ T'.heap.size ∧ (∀ q : Nat, q < H.size → ¬ A1 q → T'.heap[q]? = H[q]?) ∧ va_S A0 H0 T'.heap (locs ++ L) := by
  obtain ⟨hz, hk⟩ := hF
  rw [h0] at hz hk
  exact ⟨by rw [e1]; exact hz, fun q h1 h2 => by rw [e1]; exact hk q h1 h2,
    ⟨Nat.le_trans hS.1 (by rw [e1]; exact hz), fun q h1 h2 => by rw [e1, hk q (Nat.lt_of_lt_of_le h1 hS.1) (fun z => h2 (hA q (Nat.lt_of_lt_of_le h1 hS.1) z))]; exact hS.2.1 q h1 h2, fun q hq => by
      rcases List.mem_append.mp hq with h | h
      · exact hS.2.2 q h
      · exact hf _ (hL q h)⟩⟩
theorem vx_calli {S SX : Type} {post : Int32 → S → Prop} {px : SX → Prop} {B : S → State → Prop} {BX : String → SX → State → Prop} {AX : Nat → Prop} (hr : vx_Run p l e R s m args below meth c H locs cells slots mc ms (F0 m pc ls st0) rest (va_Qi post B A1 a) (vx_X px BX AX) free) (hS : va_S A0 H0 H locs) (hA : ∀ q, q < H.size → A1 q → A0 q) (hf : ∀ q, free q → A0 q) (hAX : ∀ q, q < H.size → AX q → A0 q)
    (kx : ∀ (E : String) (ce : Cell) (q9 : Addr) (u : SX) (t : State) (H1 : Heap) (locs1 : List Loc), t.heap = H1 → s.vm.Alike t.vm → px u → BX E u t → H.size ≤ H1.size → (∀ q : Nat, q < H.size → ¬ AX q → H1[q]? = H[q]?) → va_S A0 H0 H1 locs1 → H1[q9]? = some ce → ce.vm = .none → s.vm.findClass E = some ce.cls → vx_W p l e R s m args below meth c H1 locs1 (cells + mc) (slots + ms) Q (F0 m pc ls rest) q9)
    (kk : ∀ (r : Int32) (u : S) (t : State) (H1 : Heap) (locs1 : List Loc), t.heap = H1 → s.vm.Alike t.vm → post r u → B u t → H.size ≤ H1.size → (∀ q : Nat, q < H.size → ¬ A1 q → H1[q]? = H[q]?) → va_S A0 H0 H1 locs1 → W p l e R s m args below meth c H1 locs1 (cells + mc) (slots + ms) Q (F0 m (pc + 3) ls (.int r :: rest))) : W p l e R s m args below meth c H locs cells slots Q (F0 m pc ls st0) := by
  intro T hT X
  rcases hr T hT X with ⟨v, st₀, t, T', L, h0, X', hL, e1, e2, ⟨⟨r, u, hv, hp, hb⟩, hF⟩, st⟩ | ⟨q, st₀, t, T', L, E, ce, h0, X', hL, e1, e2, ⟨u, hp, hb, hF⟩, hce, hcv, hcl, st⟩
  · cases hv
    obtain ⟨k1, k2, k3⟩ := vx_keep h0 e1 hS hA hf hL hF
    obtain ⟨t2, a1, b1⟩ := kk r u t T'.heap (locs ++ L) e1.symm (by rw [← e2]; exact X'.warmed.alike) hp hb k1 k2 k3 T' rfl X'
    exact ⟨t2, st t2 a1, b1⟩
  · obtain ⟨k1, k2, k3⟩ := vx_keep h0 e1 hS hAX hf hL hF
    obtain ⟨t2, a1, b1⟩ := kx E ce q u t T'.heap (locs ++ L) e1.symm (by rw [← e2]; exact X'.warmed.alike) hp hb k1 k2 k3 (by rw [e1]; exact hce) hcv hcl T' rfl X'
    exact ⟨t2, st.trans a1, b1⟩
theorem vx_calll {S SX : Type} {post : Int64 → S → Prop} {px : SX → Prop} {B : S → State → Prop} {BX : String → SX → State → Prop} {AX : Nat → Prop} (hr : vx_Run p l e R s m args below meth c H locs cells slots mc ms (F0 m pc ls st0) rest (va_Ql post B A1 a) (vx_X px BX AX) free) (hS : va_S A0 H0 H locs) (hA : ∀ q, q < H.size → A1 q → A0 q) (hf : ∀ q, free q → A0 q) (hAX : ∀ q, q < H.size → AX q → A0 q)
    (kx : ∀ (E : String) (ce : Cell) (q9 : Addr) (u : SX) (t : State) (H1 : Heap) (locs1 : List Loc), t.heap = H1 → s.vm.Alike t.vm → px u → BX E u t → H.size ≤ H1.size → (∀ q : Nat, q < H.size → ¬ AX q → H1[q]? = H[q]?) → va_S A0 H0 H1 locs1 → H1[q9]? = some ce → ce.vm = .none → s.vm.findClass E = some ce.cls → vx_W p l e R s m args below meth c H1 locs1 (cells + mc) (slots + ms) Q (F0 m pc ls rest) q9)
    (kk : ∀ (r : Int64) (u : S) (t : State) (H1 : Heap) (locs1 : List Loc), t.heap = H1 → s.vm.Alike t.vm → post r u → B u t → H.size ≤ H1.size → (∀ q : Nat, q < H.size → ¬ A1 q → H1[q]? = H[q]?) → va_S A0 H0 H1 locs1 → W p l e R s m args below meth c H1 locs1 (cells + mc) (slots + ms) Q (F0 m (pc + 3) ls (.long r :: rest))) : W p l e R s m args below meth c H locs cells slots Q (F0 m pc ls st0) := by
  intro T hT X
  rcases hr T hT X with ⟨v, st₀, t, T', L, h0, X', hL, e1, e2, ⟨⟨r, u, hv, hp, hb⟩, hF⟩, st⟩ | ⟨q, st₀, t, T', L, E, ce, h0, X', hL, e1, e2, ⟨u, hp, hb, hF⟩, hce, hcv, hcl, st⟩
  · cases hv
    obtain ⟨k1, k2, k3⟩ := vx_keep h0 e1 hS hA hf hL hF
    obtain ⟨t2, a1, b1⟩ := kk r u t T'.heap (locs ++ L) e1.symm (by rw [← e2]; exact X'.warmed.alike) hp hb k1 k2 k3 T' rfl X'
    exact ⟨t2, st t2 a1, b1⟩
  · obtain ⟨k1, k2, k3⟩ := vx_keep h0 e1 hS hAX hf hL hF
    obtain ⟨t2, a1, b1⟩ := kx E ce q u t T'.heap (locs ++ L) e1.symm (by rw [← e2]; exact X'.warmed.alike) hp hb k1 k2 k3 (by rw [e1]; exact hce) hcv hcl T' rfl X'
    exact ⟨t2, st.trans a1, b1⟩
theorem vx_callf {S SX : Type} {post : UInt32 → S → Prop} {px : SX → Prop} {B : S → State → Prop} {BX : String → SX → State → Prop} {AX : Nat → Prop} (hr : vx_Run p l e R s m args below meth c H locs cells slots mc ms (F0 m pc ls st0) rest (va_Qf post B A1 a) (vx_X px BX AX) free) (hS : va_S A0 H0 H locs) (hA : ∀ q, q < H.size → A1 q → A0 q) (hf : ∀ q, free q → A0 q) (hAX : ∀ q, q < H.size → AX q → A0 q)
    (kx : ∀ (E : String) (ce : Cell) (q9 : Addr) (u : SX) (t : State) (H1 : Heap) (locs1 : List Loc), t.heap = H1 → s.vm.Alike t.vm → px u → BX E u t → H.size ≤ H1.size → (∀ q : Nat, q < H.size → ¬ AX q → H1[q]? = H[q]?) → va_S A0 H0 H1 locs1 → H1[q9]? = some ce → ce.vm = .none → s.vm.findClass E = some ce.cls → vx_W p l e R s m args below meth c H1 locs1 (cells + mc) (slots + ms) Q (F0 m pc ls rest) q9)
    (kk : ∀ (r : UInt32) (u : S) (t : State) (H1 : Heap) (locs1 : List Loc), t.heap = H1 → s.vm.Alike t.vm → post r u → B u t → H.size ≤ H1.size → (∀ q : Nat, q < H.size → ¬ A1 q → H1[q]? = H[q]?) → va_S A0 H0 H1 locs1 → W p l e R s m args below meth c H1 locs1 (cells + mc) (slots + ms) Q (F0 m (pc + 3) ls (.float r :: rest))) : W p l e R s m args below meth c H locs cells slots Q (F0 m pc ls st0) := by
  intro T hT X
  rcases hr T hT X with ⟨v, st₀, t, T', L, h0, X', hL, e1, e2, ⟨⟨r, u, hv, hp, hb⟩, hF⟩, st⟩ | ⟨q, st₀, t, T', L, E, ce, h0, X', hL, e1, e2, ⟨u, hp, hb, hF⟩, hce, hcv, hcl, st⟩
  · cases hv
    obtain ⟨k1, k2, k3⟩ := vx_keep h0 e1 hS hA hf hL hF
    obtain ⟨t2, a1, b1⟩ := kk r u t T'.heap (locs ++ L) e1.symm (by rw [← e2]; exact X'.warmed.alike) hp hb k1 k2 k3 T' rfl X'
    exact ⟨t2, st t2 a1, b1⟩
  · obtain ⟨k1, k2, k3⟩ := vx_keep h0 e1 hS hAX hf hL hF
    obtain ⟨t2, a1, b1⟩ := kx E ce q u t T'.heap (locs ++ L) e1.symm (by rw [← e2]; exact X'.warmed.alike) hp hb k1 k2 k3 (by rw [e1]; exact hce) hcv hcl T' rfl X'
    exact ⟨t2, st.trans a1, b1⟩
theorem vx_calld {S SX : Type} {post : UInt64 → S → Prop} {px : SX → Prop} {B : S → State → Prop} {BX : String → SX → State → Prop} {AX : Nat → Prop} (hr : vx_Run p l e R s m args below meth c H locs cells slots mc ms (F0 m pc ls st0) rest (va_Qd post B A1 a) (vx_X px BX AX) free) (hS : va_S A0 H0 H locs) (hA : ∀ q, q < H.size → A1 q → A0 q) (hf : ∀ q, free q → A0 q) (hAX : ∀ q, q < H.size → AX q → A0 q)
    (kx : ∀ (E : String) (ce : Cell) (q9 : Addr) (u : SX) (t : State) (H1 : Heap) (locs1 : List Loc), t.heap = H1 → s.vm.Alike t.vm → px u → BX E u t → H.size ≤ H1.size → (∀ q : Nat, q < H.size → ¬ AX q → H1[q]? = H[q]?) → va_S A0 H0 H1 locs1 → H1[q9]? = some ce → ce.vm = .none → s.vm.findClass E = some ce.cls → vx_W p l e R s m args below meth c H1 locs1 (cells + mc) (slots + ms) Q (F0 m pc ls rest) q9)
    (kk : ∀ (r : UInt64) (u : S) (t : State) (H1 : Heap) (locs1 : List Loc), t.heap = H1 → s.vm.Alike t.vm → post r u → B u t → H.size ≤ H1.size → (∀ q : Nat, q < H.size → ¬ A1 q → H1[q]? = H[q]?) → va_S A0 H0 H1 locs1 → W p l e R s m args below meth c H1 locs1 (cells + mc) (slots + ms) Q (F0 m (pc + 3) ls (.double r :: rest))) : W p l e R s m args below meth c H locs cells slots Q (F0 m pc ls st0) := by
  intro T hT X
  rcases hr T hT X with ⟨v, st₀, t, T', L, h0, X', hL, e1, e2, ⟨⟨r, u, hv, hp, hb⟩, hF⟩, st⟩ | ⟨q, st₀, t, T', L, E, ce, h0, X', hL, e1, e2, ⟨u, hp, hb, hF⟩, hce, hcv, hcl, st⟩
  · cases hv
    obtain ⟨k1, k2, k3⟩ := vx_keep h0 e1 hS hA hf hL hF
    obtain ⟨t2, a1, b1⟩ := kk r u t T'.heap (locs ++ L) e1.symm (by rw [← e2]; exact X'.warmed.alike) hp hb k1 k2 k3 T' rfl X'
    exact ⟨t2, st t2 a1, b1⟩
  · obtain ⟨k1, k2, k3⟩ := vx_keep h0 e1 hS hAX hf hL hF
    obtain ⟨t2, a1, b1⟩ := kx E ce q u t T'.heap (locs ++ L) e1.symm (by rw [← e2]; exact X'.warmed.alike) hp hb k1 k2 k3 (by rw [e1]; exact hce) hcv hcl T' rfl X'
    exact ⟨t2, st.trans a1, b1⟩
theorem vx_callv {S SX : Type} {post : S → Prop} {px : SX → Prop} {B : S → State → Prop} {BX : String → SX → State → Prop} {AX : Nat → Prop} (hr : vx_Run p l e R s m args below meth c H locs cells slots mc ms (F0 m pc ls st0) rest (va_Qv post B A1 a) (vx_X px BX AX) free) (hS : va_S A0 H0 H locs) (hA : ∀ q, q < H.size → A1 q → A0 q) (hf : ∀ q, free q → A0 q) (hAX : ∀ q, q < H.size → AX q → A0 q)
    (kx : ∀ (E : String) (ce : Cell) (q9 : Addr) (u : SX) (t : State) (H1 : Heap) (locs1 : List Loc), t.heap = H1 → s.vm.Alike t.vm → px u → BX E u t → H.size ≤ H1.size → (∀ q : Nat, q < H.size → ¬ AX q → H1[q]? = H[q]?) → va_S A0 H0 H1 locs1 → H1[q9]? = some ce → ce.vm = .none → s.vm.findClass E = some ce.cls → vx_W p l e R s m args below meth c H1 locs1 (cells + mc) (slots + ms) Q (F0 m pc ls rest) q9)
    (kk : ∀ (u : S) (t : State) (H1 : Heap) (locs1 : List Loc), t.heap = H1 → s.vm.Alike t.vm → post u → B u t → H.size ≤ H1.size → (∀ q : Nat, q < H.size → ¬ A1 q → H1[q]? = H[q]?) → va_S A0 H0 H1 locs1 → W p l e R s m args below meth c H1 locs1 (cells + mc) (slots + ms) Q (F0 m (pc + 3) ls (rest))) : W p l e R s m args below meth c H locs cells slots Q (F0 m pc ls st0) := by
  intro T hT X
  rcases hr T hT X with ⟨v, st₀, t, T', L, h0, X', hL, e1, e2, ⟨⟨u, hv, hp, hb⟩, hF⟩, st⟩ | ⟨q, st₀, t, T', L, E, ce, h0, X', hL, e1, e2, ⟨u, hp, hb, hF⟩, hce, hcv, hcl, st⟩
  · cases hv
    obtain ⟨k1, k2, k3⟩ := vx_keep h0 e1 hS hA hf hL hF
    obtain ⟨t2, a1, b1⟩ := kk u t T'.heap (locs ++ L) e1.symm (by rw [← e2]; exact X'.warmed.alike) hp hb k1 k2 k3 T' rfl X'
    exact ⟨t2, st t2 a1, b1⟩
  · obtain ⟨k1, k2, k3⟩ := vx_keep h0 e1 hS hAX hf hL hF
    obtain ⟨t2, a1, b1⟩ := kx E ce q u t T'.heap (locs ++ L) e1.symm (by rw [← e2]; exact X'.warmed.alike) hp hb k1 k2 k3 (by rw [e1]; exact hce) hcv hcl T' rfl X'
    exact ⟨t2, st.trans a1, b1⟩
/-- caught by the row x of this method's table; the rows ahead don't take it -/
theorem vx_catch {own name : String} {E : String} {ce : Cell} {q : Addr} (hown : s.vm.findClass own = some m.cls) (pre : List ExceptionTableEntry) (x : ExceptionTableEntry) (suf : List ExceptionTableEntry) (hsplit : c.exceptionTable.toList = pre ++ x :: suf)
    (hpass : ∀ z ∈ pre, covers z pc = false ∨ (z.catchType ≠ 0 ∧ ∃ nm : String, (Cond.classLink own z.catchType nm).before args s = true ∧ va_Nc E nm s)) (hx : covers x pc = true) (h0 : x.catchType ≠ 0)
    (hlink : (Cond.classLink own x.catchType name).before args s = true) (hcast : (Cond.castable E name).before args s = true) (hcell : H[q]? = some ce) (hv : ce.vm = .none) (hcl : s.vm.findClass E = some ce.cls)
    (kk : W p l e R s m args below meth c H locs cells slots Q (F0 m x.handlerPc ls [.ref q])) : vx_W p l e R s m args below meth c H locs cells slots Q (F0 m pc ls rest) q := by
  intro T hT X
  have hpl : e.platform.magicAccessors = ({} : Platform).magicAccessors := by rw [X.admits.platform]
  obtain ⟨c3, c4, hc3, hc4, hasg⟩ := Cond.castable_spec hcast
  cases Option.some.inj (hc3.symm.trans hcl)
  obtain ⟨c5, hc5, hcl5⟩ := Cond.classLink_spec hown hlink e.platform hpl
  cases Option.some.inj (hc4.symm.trans hc5)
  obtain ⟨vm', X', st⟩ := X.thenCaughtThrough q (g := F0 m pc ls rest) rfl (Steps.refl _) (by rw [hT]; exact hcell) (by rw [hv]; rfl) (by obtain ⟨k9, h9, -⟩ := Vm.findClass_spec hcl; exact ⟨k9, h9⟩) pre x suf hsplit
    (fun z hz => by
      rcases hpass z hz with h | ⟨hz0, nm, hl1, hn1⟩
      · exact Or.inl h
      · obtain ⟨c6, hc6, hcl6⟩ := Cond.classLink_spec hown hl1 e.platform hpl
        obtain ⟨a8, b8, h1, h2, h3⟩ := hn1
        cases Option.some.inj (h1.symm.trans hcl)
        cases Option.some.inj (h2.symm.trans hc6)
        exact Or.inr ⟨hz0, _, hcl6, h3⟩) hx (Or.inr ⟨h0, c4, hcl5, hasg⟩)
  obtain ⟨t, a1, b1⟩ := kk (T.setVm vm') hT X'
  exact ⟨t, st.trans a1, b1⟩
end Rows
section Ends
variable {p : Program} {l : Launch} {e : Env} {R : Room} {s : State} {m : MethodId} {args : Array Value} {below : List Frame} {meth : Method} {c : Code} {H : Heap} {locs : List Loc} {cells slots : Nat} {Q : State → Prop}
variable {mc ms : Nat} {free : Addr → Prop} {A0 A1 : Nat → Prop} {H0 : Heap} {a : Array Value} {ls : Array Slot} {st0 rest : List Value}
variable {Qc : Array Value → State → Outcome → State → Prop} {XC : String → State → State → Prop}
/-- what a body that may throw owes at its end -/
def vx_MQ (below : List Frame) (Qc : Array Value → State → Outcome → State → Prop) (XC : String → State → State → Prop) (a : Array Value) (s : State) (mc ms : Nat) (free : Addr → Prop) : State → Prop := fun t =>
  ∃ o, t.status = .running ∧ Ended t below o ∧ vx_Q Qc XC mc ms free a s o t
theorem vx_ret {g : JFrame} {mc ms : Nat} (k : W p l e R s m args below meth c H locs cells slots (MQ below Qc args s mc ms free) g) : W p l e R s m args below meth c H locs cells slots (vx_MQ below Qc XC args s mc ms free) g := by
  intro T hT X
  obtain ⟨t, a1, o, b1, b2, b3, b4⟩ := k T hT X
  exact ⟨t, a1, o, b1, b2, Or.inl ⟨b3, b4⟩⟩
/-- not caught here: it goes on to the caller -/
theorem vx_widen {g : JFrame} {q : Addr} {k n : Nat} (h1 : cells ≤ k) (h2 : slots ≤ n) (kk : vx_W p l e R s m args below meth c H locs k n Q g q) : vx_W p l e R s m args below meth c H locs cells slots Q g q := fun T hT X => kk T hT (stand_widen X h1 h2)
theorem vx_out {pc : Nat} {E : String} {ce : Cell} {q : Addr} {mc ms : Nat} (hout : ∀ x ∈ c.exceptionTable.toList, covers x pc = false) (hlocks : meth.locks = false) (hcell : H[q]? = some ce) (hv : ce.vm = .none) (hcl : s.vm.findClass E = some ce.cls)
    (hx : ∀ t : State, t.heap = H → s.vm.Alike t.vm → XC E s t) (hf : ∀ z ∈ locs, free z.base) (hc : cells ≤ mc) (hs : slots ≤ ms) :
    vx_W p l e R s m args below meth c H locs cells slots (vx_MQ below Qc XC args s mc ms free) (F0 m pc ls rest) q := by
  intro T hT X
  obtain ⟨st1, hrun, hend, hW, hsm⟩ := X.leaveThrown q (g := F0 m pc ls rest) rfl rfl rfl hout hlocks
  have hcell9 : (T.setFrames (.throwing q :: below)).heap[q]? = some ce := by
    show T.heap[q]? = some ce
    rw [hT]; exact hcell
  exact ⟨_, st1, .threw q, hrun, hend, Or.inr ⟨q, rfl, E, ce, locs, hx _ hT hW.alike, hcell9, hv, hcl, hW, hsm.mono hc hs, hf⟩⟩
theorem vx_frame {U : State} {k n : Nat} (h : s.sameButNew ({ U with vm := s.vm } : State) locs k n) : s.heap.size ≤ U.heap.size ∧ ∀ q : Nat, q < s.heap.size → (∀ z ∈ locs, z.base ≠ q) → U.heap[q]? = s.heap[q]? := by
  obtain ⟨-, h2, -, -, -, h6⟩ := h
  refine ⟨h2, fun q hq hz => ?_⟩
  obtain ⟨c9, e1, e2, e3, e4⟩ := h6 q _ (Array.getElem?_eq_getElem hq)
  have hs : c9.slots = (s.heap[q]).slots := Array.ext_getElem? fun i => e4 i fun hm => hz _ hm rfl
  have h9 : c9 = s.heap[q] := by
    rw [hs] at e2
    exact e2
  have e5 : U.heap[q]? = some c9 := e1
  rw [e5, h9, Array.getElem?_eq_getElem hq]
/-- the words of a throw but the four that speak of the heap -/
def vx_no (w : Cond) : Bool := decide (w ≠ .isRef (.static Bundle.tN "UNASSIGNED_STACK" Bundle.steD)) && decide (w ≠ .isRef (.static Bundle.tN "SUPPRESSED_SENTINEL" Bundle.listD)) && decide (w ≠ .laysStatic Bundle.tN "UNASSIGNED_STACK" Bundle.steD) && decide (w ≠ .laysStatic Bundle.tN "SUPPRESSED_SENTINEL" Bundle.listD)
def vx_at0 (own : String) (ic : Nat) (X : String) (names : List String) : List Cond := (Bundle.ownAtoms0 own ic X names).filter vx_no
def vx_atS (own : String) (ic : Nat) (X : String) (names : List String) : List Cond := (Bundle.ownAtoms own ic X names).filter vx_no
/-- a word that the tables alone decide, or a good one -/
def vx_ot (w : Cond) : Bool := w.onTables || goodWord w
theorem vx_ot_at {args a' : Array Value} {s U : State} {w : Cond} (hW : s.WarmedH U.vm) (hvm : s.vm = U.vm) (hg : vx_ot w = true) (h : w.before args s = true) : w.before a' U = true := by
  simp only [vx_ot, Bool.or_eq_true] at hg
  rcases hg with hg | hg
  · exact va_tabs hg hvm h
  · exact word_at hW (good_of_word hg) h
/-- a list's words: the good ones out of the method's own list, the others by premises of their own -/
theorem vx_hat {args : Array Value} {s : State} {L B : List Cond} (h1 : ∀ w ∈ L.filter goodWord, w.before args s = true) (h2 : ∀ w ∈ L.filter (fun w => !goodWord w), w ∈ B) (h3 : ∀ w ∈ B, w.before args s = true) : ∀ w ∈ L, w.before args s = true := by
  intro w hw
  by_cases g : goodWord w = true
  · exact h1 w (List.mem_filter.mpr ⟨hw, g⟩)
  · refine h3 w (h2 w (List.mem_filter.mpr ⟨hw, ?_⟩))
    show (!goodWord w) = true
    cases hgw : goodWord w
    · rfl
    · exact absurd hgw g
theorem vx_c {args : Array Value} {s : State} {w : Cond} {B : List Cond} (h : w.before args s = true) (t : ∀ w ∈ B, w.before args s = true) : ∀ w' ∈ w :: B, w'.before args s = true := fun w' h' => (List.mem_cons.mp h').elim (fun e => by rw [e]; exact h) (t w')
theorem vx_n {args : Array Value} {s : State} : ∀ w ∈ ([] : List Cond), w.before args s = true := fun _ h => nomatch h
theorem vx_own {args : Array Value} {s : State} {L : List Cond} (h1 : ∀ w ∈ L.filter vx_no, w.before args s = true)
    (hU : (Cond.isRef (.static Bundle.tN "UNASSIGNED_STACK" Bundle.steD)).before args s = true) (hN : (Cond.isRef (.static Bundle.tN "SUPPRESSED_SENTINEL" Bundle.listD)).before args s = true)
    (lU : (Cond.laysStatic Bundle.tN "UNASSIGNED_STACK" Bundle.steD).before args s = true) (lN : (Cond.laysStatic Bundle.tN "SUPPRESSED_SENTINEL" Bundle.listD).before args s = true) : ∀ w ∈ L, w.before args s = true := by
  intro w hw
  by_cases e1 : w = .isRef (.static Bundle.tN "UNASSIGNED_STACK" Bundle.steD)
  · rw [e1]; exact hU
  · by_cases e2 : w = .isRef (.static Bundle.tN "SUPPRESSED_SENTINEL" Bundle.listD)
    · rw [e2]; exact hN
    · by_cases e3 : w = .laysStatic Bundle.tN "UNASSIGNED_STACK" Bundle.steD
      · rw [e3]; exact lU
      · by_cases e4 : w = .laysStatic Bundle.tN "SUPPRESSED_SENTINEL" Bundle.listD
        · rw [e4]; exact lN
        · exact h1 w (List.mem_filter.mpr ⟨hw, by unfold vx_no; rw [decide_eq_true e1, decide_eq_true e2, decide_eq_true e3, decide_eq_true e4]; rfl⟩)
/-- where a static field lies, its class's statics cell in H -/
def vx_L (C n d : String) (A : Nat → Prop) (U : State) (H : Heap) : Prop := ∃ (c : ClassId) (k : Class) (i : Nat) (f : Field) (a : Nat) (cell : Cell), U.vm.findClass C = some c ∧ U.fieldFound? C n d = some (c, k, i, f) ∧ f.isStatic = true ∧ k.statics = some a ∧ H[a]? = some cell ∧ cell.vm.isStatics = true ∧ cell.cls = c ∧ f.slot < cell.slots.size ∧ k.staticTypes[f.slot]? = some f.type ∧ ¬ A a
theorem vx_L.moved {C n d : String} {A : Nat → Prop} {u U : State} {H : Heap} (hvm : u.vm.Alike U.vm) (h : vx_L C n d A u H) : vx_L C n d A U H := by
  obtain ⟨c, k, i, f, a, cell, h1, h2, h3, h4, h5, h6, h7, h8, h9, h10⟩ := h
  obtain ⟨k', hi', he⟩ := State.fieldFound?_setVm hvm h2
  exact ⟨c, k', i, f, a, cell, by rw [hvm.findClass]; exact h1, hi', h3, by rw [he]; exact h4, h5, h6, h7, h8, by rw [he]; exact h9, h10⟩
theorem vx_L.kept {C n d : String} {A : Nat → Prop} {U : State} {H H1 : Heap} (h : vx_L C n d A U H) (hq : ∀ a : Nat, a < H.size → ¬ A a → H1[a]? = H[a]?) : vx_L C n d A U H1 := by
  obtain ⟨c, k, i, f, a, cell, h1, h2, h3, h4, h5, h6, h7, h8, h9, h10⟩ := h
  exact ⟨c, k, i, f, a, cell, h1, h2, h3, h4, by rw [hq a (Array.getElem?_eq_some_iff.mp h5).1 h10]; exact h5, h6, h7, h8, h9, h10⟩
theorem vx_L.narrow {C n d : String} {A B : Nat → Prop} {U : State} {H : Heap} (h : vx_L C n d A U H) (hAB : ∀ q, B q → A q) : vx_L C n d B U H := by
  obtain ⟨c, k, i, f, a, cell, h1, h2, h3, h4, h5, h6, h7, h8, h9, h10⟩ := h
  exact ⟨c, k, i, f, a, cell, h1, h2, h3, h4, h5, h6, h7, h8, h9, fun z => h10 (hAB _ z)⟩
theorem vx_L.word {C n d : String} {A : Nat → Prop} {s : State} {args : Array Value} (h : vx_L C n d A s s.heap) : (Cond.laysStatic C n d).before args s = true := by
  obtain ⟨c, k, i, f, a, cell, h1, h2, h3, h4, h5, h6, h7, h8, h9, -⟩ := h
  show (Cond.laysStatic C n d).holds args s none s [] = true
  exact Cond.laysStatic_of h1 h2 h3 h4 h5 h6 h7 h8 h9
/-- .. and what it holds: null or some reference -/
def vx_Zq (C n d : String) (A : Nat → Prop) (U : State) (H : Heap) : Prop := va_Zq C n d A U H ∧ vx_L C n d A U H
theorem vx_Zq.moved {C n d : String} {A : Nat → Prop} {u U : State} {H : Heap} (hvm : u.vm.Alike U.vm) (h : vx_Zq C n d A u H) : vx_Zq C n d A U H := ⟨va_Zq.moved hvm h.1, vx_L.moved hvm h.2⟩
theorem vx_Zq.kept {C n d : String} {A : Nat → Prop} {U : State} {H H1 : Heap} (h : vx_Zq C n d A U H) (hq : ∀ a : Nat, a < H.size → ¬ A a → H1[a]? = H[a]?) : vx_Zq C n d A U H1 := ⟨va_Zq.kept h.1 hq, vx_L.kept h.2 hq⟩
theorem vx_Zq.narrow {C n d : String} {A B : Nat → Prop} {U : State} {H : Heap} (h : vx_Zq C n d A U H) (hAB : ∀ q, B q → A q) : vx_Zq C n d B U H := ⟨va_Zq.narrow h.1 hAB, vx_L.narrow h.2 hAB⟩
theorem vx_Zqof {args : Array Value} {s : State} {C n d : String} {A : Nat → Prop} (hl : (Cond.laysStatic C n d).before args s = true) (hini : (Cond.initialized C).before args s = true) (h : (Cond.isRef (.static C n d)).before args s = true) (hA : ∀ a : Nat, a < s.heap.size → ¬ A a) : vx_Zq C n d A s s.heap := by
  refine ⟨va_Zqof hl hini h hA, ?_⟩
  obtain ⟨c, k, i, f, a, cell, h1, h2, h3, h4, h5, h6, h7, h8, h9⟩ := Cond.laysStatic_spec hl
  exact ⟨c, k, i, f, a, cell, h1, h2, h3, h4, h5, h6, h7, h8, h9, hA a (Array.getElem?_eq_some_iff.mp h5).1⟩
theorem vx_isRef {C n d : String} {v : Value} {A : Nat → Prop} {s : State} {args : Array Value} (h : va_Z C n d v A s s.heap) (hv : v.isRef = true) : (Cond.isRef (.static C n d)).before args s = true := by
  obtain ⟨cf, kf, fi, f, a, cell, h1, h2, h3, h4, h5, h6, h7, -⟩ := h
  have he : (Term.static C n d).eval args s none [] s = some v := by
    simp [Term.eval, State.fieldNamed?, h1, h2, h4, h5, h6, h7]
  simp only [Cond.before, Cond.holds, Cond.value, he]
  cases v <;> simp_all [Value.isRef]
theorem vx_isRefq {C n d : String} {A : Nat → Prop} {s : State} {args : Array Value} (h : va_Zq C n d A s s.heap) : (Cond.isRef (.static C n d)).before args s = true := by
  rcases h with h | ⟨t, h⟩
  · exact vx_isRef h rfl
  · exact vx_isRef h rfl
/-- the same frame, seen from here: as if the method were called anew in this heap -/
theorem vx_rebase {T : State} (X : Stand p l e R s m args below meth c T locs cells slots) {R' : Room} (hf : R'.frames ≤ R.frames) (hl : R'.locals ≤ R.locals) (hc : cells + R'.cells ≤ R.cells) (hs : slots + R'.slots ≤ R.slots) :
    Stand p l e R' ((T.setVm s.vm).setFrames (.invoking m args :: below)) m args below meth c T [] 0 0 := by
  have htop : (T.setVm s.vm).topJava?.isSome := X.here.top
  have hF : ((T.setVm s.vm).setFrames (.invoking m args :: below)).frames = .invoking m args :: below := State.frames_setFrames _ (State.cur_lt_of_top htop)
  obtain ⟨g₀, hg0⟩ := Option.isSome_iff_exists.mp htop
  obtain ⟨r, hr⟩ := State.topJava?_eq_some.mp hg0
  have hl9 : e.platform.stackLimits (T.setVm s.vm).me = e.platform.stackLimits s.me := X.limits
  have hb9 : (T.setVm s.vm).me.stackBytes = s.me.stackBytes := X.bytes
  refine ⟨X.admits, X.cas, X.clock, hF, ?_, X.hears, X.method, X.code, X.here, X.tail, X.warmed, ?_, ?_, ?_⟩
  · have h := X.room
    have hU : ((T.setVm s.vm).setFrames (.invoking m args :: below)).localsInUse = s.localsInUse := by
      rw [State.localsInUse_invoking hF (meth := meth) (c := c) X.method X.code, State.localsInUse_invoking X.frames X.method X.code]
    simp only [State.hasRoom, Bool.and_eq_true, decide_eq_true_eq] at h ⊢
    obtain ⟨⟨⟨⟨h1, h2, h3, h4, h5, h6⟩, h7⟩, h8⟩, h9⟩ := h
    rw [X.frames, List.length_cons] at h2 h3
    have q1 := X.heapSize
    have q2 := X.used
    simp only [hF, hU, List.length_cons, State.stackLimits_setFrames, State.stackBytes_setFrames, hl9, hb9]
    refine ⟨⟨⟨⟨by omega, by omega, by omega, by omega, by omega, h6⟩, ?_⟩, ?_⟩, X.book⟩
    · show T.heap.size + R'.cells ≤ e.platform.maxCells
      omega
    · show T.slotsUsed + R'.slots ≤ e.platform.maxSlots
      omega
  · rw [State.stackLimits_setFrames]; rfl
  · rw [State.stackBytes_setFrames]; rfl
  · refine ⟨?_, Nat.le_refl _, Nat.le_refl _, ?_, ?_, fun a c9 h9 => ⟨c9, h9, rfl, rfl, fun _ _ => rfl⟩⟩
    · obtain ⟨t, ht, -⟩ := State.frames_cons hr
      show T.setVm s.vm = { ((T.setVm s.vm).setFrames (.invoking m args :: below)).setFrames (T.setVm s.vm).frames with heap := T.heap, slotsUsed := T.slotsUsed }
      rw [State.setFrames_setFrames, State.setFrames_self ht]
      rfl
    · show T.slotsUsed = T.slotsUsed + ((T.heap.toList.drop T.heap.size).map (·.slots.size)).sum
      rw [List.drop_eq_nil_of_le (Nat.le_of_eq Array.length_toList)]
      rfl
    · show ((T.heap.toList.drop T.heap.size).map (·.slots.size)).sum ≤ 0
      rw [List.drop_eq_nil_of_le (Nat.le_of_eq Array.length_toList)]
      exact Nat.le_refl _
/-- 'throw new E()': new; dup; invokespecial; athrow -/
theorem vx_throw0 {cc : ByteArray} {pc : Nat} (hexec : p.tables.exec = Jvm.exec) (hb : c.code = cc) (hl : l.stackTraces = false) {own cls : String} {names : List String} {ik ic mc ms : Nat} {A : Nat → Prop}
    (hown : s.vm.findClass own = some m.cls) (hcls : Bundle.fit cls = true) (hnames : ∀ n ∈ names, Bundle.fit n = true)
    (hk : (Cond.classLink own ik cls).before args s = true) (hini : (Cond.initialized cls).before args s = true) (hat : ∀ w ∈ vx_at0 own ic cls names, w.before args s = true)
    (hgood : ∀ w ∈ Cond.classLink own ik cls :: Cond.initialized cls :: vx_at0 own ic cls names, vx_ot w = true)
    (hU : vx_Zq Bundle.tN "UNASSIGNED_STACK" Bundle.steD A s s.heap) (hN : vx_Zq Bundle.tN "SUPPRESSED_SENTINEL" Bundle.listD A s s.heap) (hS : va_S A s.heap H locs) (hsize : ls.size = c.maxLocals)
    (d0 : decode cc pc = .ok (.new ik, 3)) (d3 : decode cc (pc + 3) = .ok (.dup, 1)) (d4 : decode cc (pc + 4) = .ok (.invokespecial ic, 3)) (d7 : decode cc (pc + 7) = .ok (.athrow, 1))
    (hout : ∀ x ∈ c.exceptionTable.toList, covers x (pc + 7) = false)
    (hRframes : names.length + 3 < R.frames) (hRlocals : (rest.map fun v => v.category).sum + (13 * (names.length + 1) + 42) ≤ R.locals) (hRcells : cells + 1 ≤ R.cells) (hRslots : slots + 6 ≤ R.slots) (hlocks : meth.locks = false)
    (hx : ∀ t : State, s.vm.Alike t.vm → H.size ≤ t.heap.size → (∀ q : Nat, q < H.size → t.heap[q]? = H[q]?) → XC cls s t)
    (hf : ∀ z ∈ locs, free z.base) (hc : cells + 1 ≤ mc) (hs : slots + 6 ≤ ms) :
    W p l e R s m args below meth c H locs cells slots (vx_MQ below Qc XC args s mc ms free) (F0 m pc ls rest) := by
  intro T hT X
  have htr : e.platform.stackTraces = false := (show e.platform.stackTraces = l.stackTraces by rw [X.admits.platform]).trans hl
  have Y := vx_rebase X (R' := { frames := R.frames, locals := R.locals, cells := 1, slots := 6 }) (Nat.le_refl _) (Nat.le_refl _) hRcells hRslots
  obtain ⟨s', hA⟩ : ∃ z, z = (T.setVm s.vm).setFrames (.invoking m args :: below) := ⟨_, rfl⟩
  rw [← hA] at Y
  have hvm : s'.vm = s.vm := by rw [hA]; rfl
  have hhp : s'.heap = H := by rw [hA]; exact hT
  have hW0 : s.WarmedH s'.vm := by rw [hvm]; exact State.WarmedH.refl s
  have hat' : ∀ w ∈ vx_at0 own ic cls names, w.before args s' = true := fun w hw => vx_ot_at hW0 hvm.symm (hgood w (List.mem_cons_of_mem _ (List.mem_cons_of_mem _ hw))) (hat w hw)
  have hk' : (Cond.classLink own ik cls).before args s' = true := vx_ot_at hW0 hvm.symm (hgood _ List.mem_cons_self) hk
  have hini' : (Cond.initialized cls).before args s' = true := vx_ot_at hW0 hvm.symm (hgood _ (List.mem_cons_of_mem _ List.mem_cons_self)) hini
  have hU' : vx_Zq Bundle.tN "UNASSIGNED_STACK" Bundle.steD A s' s'.heap := by rw [hhp]; exact vx_Zq.moved hW0.alike (hU.kept hS.2.1)
  have hN' : vx_Zq Bundle.tN "SUPPRESSED_SENTINEL" Bundle.listD A s' s'.heap := by rw [hhp]; exact vx_Zq.moved hW0.alike (hN.kept hS.2.1)
  have h : ∀ w ∈ Bundle.ownAtoms0 own ic cls names, w.before args s' = true := vx_own hat' (vx_isRefq hU'.1) (vx_isRefq hN'.1) hU'.2.word hN'.2.word
  have hown' : s'.vm.findClass own = some m.cls := by rw [hvm]; exact hown
  have hins : (Cond.instantiable cls 6).before args s' = true := h _ (by simp [Bundle.ownAtoms0])
  obtain ⟨vm₁, cX, kX, hfX, hkX, -, -, X₁, st1⟩ := Y.newCold hexec (own := own) (C := cls) (index := ik) (n := 6) hown' hk' hins hini'
    (g := F0 m pc ls rest) rfl (by rw [hb]; exact d0) (Nat.le_refl _) (Nat.le_refl _)
  generalize hT1 : (T.setVm vm₁).pushCell { cls := cX, slots := kX.instanceTypes.map defaultValue, vm := .none } = T1 at X₁ st1
  have hcat : (Value.ref T.heap.size).category = 1 := rfl
  have hcellA : T1.heap[T.heap.size]? = some (freshCell cX kX) := by rw [← hT1]; exact State.heap_pushCell_size _ _
  have d3' : decode c.code (pc + 3) = .ok (.dup, 1) := by rw [hb]; exact d3
  obtain ⟨U, hsteps, hrun, hend, hW, hsame, ce, hce, hO⟩ := X₁.ctorThrow0 hexec htr (own := own) (cls := cls) (names := names) (ic := ic) hown' hcls hnames h (fun x hx => nomatch hx) hfX hkX hcellA (by rw [hhp, hT]; exact Nat.le_refl _)
    (g := { method := m, pc := pc + 4, locals := ls, stack := .ref T.heap.size :: .ref T.heap.size :: rest, locked := none }) rfl hsize rfl rfl (rest := rest) rfl
    (by rw [hb]; exact d4) (by rw [hb]; exact d7) hout hRframes (by simp only [List.map_cons, List.sum_cons, hcat]; omega) hlocks
  obtain ⟨f1, f2⟩ := vx_frame hsame
  rw [hhp] at f1 f2
  have hWs : s.WarmedH U.vm := State.WarmedH.trans hW0 hW
  have hcl : s.vm.findClass cls = some ce.cls := by
    have h9 := hO.cls
    rw [hvm] at h9
    exact h9
  have hall : s.sameButNew ({ U with vm := s.vm } : State) locs mc ms := by
    subst hA
    obtain ⟨e1, e2⟩ := hsame
    rw [State.setFrames_setFrames] at e1
    have h2 : (T.setVm s.vm).sameButNew ({ U with vm := s.vm } : State) [] (0 + 1) (0 + 6) := ⟨e1, e2⟩
    have h3 := X.same.trans h2
    rw [List.append_nil] at h3
    exact h3.mono hc hs
  refine ⟨U, ?_, .threw T.heap.size, hrun, hend, Or.inr ⟨T.heap.size, rfl, cls, ce, locs, hx U hWs.alike f1 (fun q hq => f2 q hq (fun z hz => nomatch hz)), hce, hO.vm, hcl, hWs, hall, hf⟩⟩
  refine st1 _ ?_
  show Steps p.tables e below (T1.setTop { method := m, pc := pc + 3, locals := ls, stack := .ref T.heap.size :: rest, locked := none }) _
  jvm_step X₁.here [X₁.here.top, hexec, d3', Value.category]
  exact hsteps
/-- 'throw new E("text")': new; dup; ldc; invokespecial; athrow -/
theorem vx_throwS {cc : ByteArray} {pc : Nat} (hexec : p.tables.exec = Jvm.exec) (hb : c.code = cc) (hl : l.stackTraces = false) {own cls text : String} {names : List String} {ik is ic mc ms sa : Nat} {A : Nat → Prop}
    (hown : s.vm.findClass own = some m.cls) (hcls : Bundle.fit cls = true) (hnames : ∀ n ∈ names, Bundle.fit n = true)
    (hk : (Cond.classLink own ik cls).before args s = true) (hini : (Cond.initialized cls).before args s = true) (hstr : vk_R own is text sa s) (hat : ∀ w ∈ vx_atS own ic cls names, w.before args s = true)
    (hgood : ∀ w ∈ Cond.classLink own ik cls :: Cond.initialized cls :: vx_atS own ic cls names, vx_ot w = true)
    (hU : vx_Zq Bundle.tN "UNASSIGNED_STACK" Bundle.steD A s s.heap) (hN : vx_Zq Bundle.tN "SUPPRESSED_SENTINEL" Bundle.listD A s s.heap) (hS : va_S A s.heap H locs) (hsize : ls.size = c.maxLocals)
    (d0 : decode cc pc = .ok (.new ik, 3)) (d3 : decode cc (pc + 3) = .ok (.dup, 1)) (d4 : decode cc (pc + 4) = .ok (.ldc is, 2)) (d6 : decode cc (pc + 6) = .ok (.invokespecial ic, 3)) (d9 : decode cc (pc + 9) = .ok (.athrow, 1))
    (hout : ∀ x ∈ c.exceptionTable.toList, covers x (pc + 9) = false)
    (hRframes : names.length + 3 < R.frames) (hRlocals : (rest.map fun v => v.category).sum + (13 * (names.length + 1) + 43) ≤ R.locals) (hRcells : cells + 1 ≤ R.cells) (hRslots : slots + 6 ≤ R.slots) (hlocks : meth.locks = false)
    (hx : ∀ t : State, s.vm.Alike t.vm → H.size ≤ t.heap.size → (∀ q : Nat, q < H.size → t.heap[q]? = H[q]?) → XC cls s t)
    (hf : ∀ z ∈ locs, free z.base) (hc : cells + 1 ≤ mc) (hs : slots + 6 ≤ ms) :
    W p l e R s m args below meth c H locs cells slots (vx_MQ below Qc XC args s mc ms free) (F0 m pc ls rest) := by
  intro T hT X
  have htr : e.platform.stackTraces = false := (show e.platform.stackTraces = l.stackTraces by rw [X.admits.platform]).trans hl
  have Y := vx_rebase X (R' := { frames := R.frames, locals := R.locals, cells := 1, slots := 6 }) (Nat.le_refl _) (Nat.le_refl _) hRcells hRslots
  obtain ⟨s', hA⟩ : ∃ z, z = (T.setVm s.vm).setFrames (.invoking m args :: below) := ⟨_, rfl⟩
  rw [← hA] at Y
  have hvm : s'.vm = s.vm := by rw [hA]; rfl
  have hhp : s'.heap = H := by rw [hA]; exact hT
  have hW0 : s.WarmedH s'.vm := by rw [hvm]; exact State.WarmedH.refl s
  have hat' : ∀ w ∈ vx_atS own ic cls names, w.before args s' = true := fun w hw => vx_ot_at hW0 hvm.symm (hgood w (List.mem_cons_of_mem _ (List.mem_cons_of_mem _ hw))) (hat w hw)
  have hk' : (Cond.classLink own ik cls).before args s' = true := vx_ot_at hW0 hvm.symm (hgood _ List.mem_cons_self) hk
  have hini' : (Cond.initialized cls).before args s' = true := vx_ot_at hW0 hvm.symm (hgood _ (List.mem_cons_of_mem _ List.mem_cons_self)) hini
  have hU' : vx_Zq Bundle.tN "UNASSIGNED_STACK" Bundle.steD A s' s'.heap := by rw [hhp]; exact vx_Zq.moved hW0.alike (hU.kept hS.2.1)
  have hN' : vx_Zq Bundle.tN "SUPPRESSED_SENTINEL" Bundle.listD A s' s'.heap := by rw [hhp]; exact vx_Zq.moved hW0.alike (hN.kept hS.2.1)
  have h : ∀ w ∈ Bundle.ownAtoms own ic cls names, w.before args s' = true := vx_own hat' (vx_isRefq hU'.1) (vx_isRefq hN'.1) hU'.2.word hN'.2.word
  have hown' : s'.vm.findClass own = some m.cls := by rw [hvm]; exact hown
  have hins : (Cond.instantiable cls 6).before args s' = true := h _ (by simp [Bundle.ownAtoms])
  obtain ⟨vm₁, cX, kX, hfX, hkX, -, -, X₁, st1⟩ := Y.newCold hexec (own := own) (C := cls) (index := ik) (n := 6) hown' hk' hins hini'
    (g := F0 m pc ls rest) rfl (by rw [hb]; exact d0) (Nat.le_refl _) (Nat.le_refl _)
  generalize hT1 : (T.setVm vm₁).pushCell { cls := cX, slots := kX.instanceTypes.map defaultValue, vm := .none } = T1 at X₁ st1
  have hcat : (Value.ref T.heap.size).category = 1 := rfl
  have hcellA : T1.heap[T.heap.size]? = some (freshCell cX kX) := by rw [← hT1]; exact State.heap_pushCell_size _ _
  have d3' : decode c.code (pc + 3) = .ok (.dup, 1) := by rw [hb]; exact d3
  have d4' : decode c.code (pc + 4) = .ok (.ldc is, 2) := by rw [hb]; exact d4
  have hstr' : vk_R own is text sa s' := vk_R.warm hW0 hstr
  obtain ⟨U, hsteps, hrun, hend, hW, hsame, ce, hce, hO⟩ := X₁.ctorThrowS hexec htr (own := own) (cls := cls) (names := names) (ic := ic) hown' hcls hnames h (fun x hx => nomatch hx) hfX hkX hcellA (by rw [hhp, hT]; exact Nat.le_refl _) (msg := .ref sa) rfl
    (g := { method := m, pc := pc + 6, locals := ls, stack := .ref sa :: .ref T.heap.size :: .ref T.heap.size :: rest, locked := none }) rfl hsize rfl rfl (rest := rest) rfl
    (by rw [hb]; exact d6) (by rw [hb]; exact d9) hout hRframes (by simp only [List.map_cons, List.sum_cons, hcat]; omega) hlocks
  obtain ⟨f1, f2⟩ := vx_frame hsame
  rw [hhp] at f1 f2
  have hWs : s.WarmedH U.vm := State.WarmedH.trans hW0 hW
  have hcl : s.vm.findClass cls = some ce.cls := by
    have h9 := hO.cls
    rw [hvm] at h9
    exact h9
  have hall : s.sameButNew ({ U with vm := s.vm } : State) locs mc ms := by
    subst hA
    obtain ⟨e1, e2⟩ := hsame
    rw [State.setFrames_setFrames] at e1
    have h2 : (T.setVm s.vm).sameButNew ({ U with vm := s.vm } : State) [] (0 + 1) (0 + 6) := ⟨e1, e2⟩
    have h3 := X.same.trans h2
    rw [List.append_nil] at h3
    exact h3.mono hc hs
  refine ⟨U, ?_, .threw T.heap.size, hrun, hend, Or.inr ⟨T.heap.size, rfl, cls, ce, locs, hx U hWs.alike f1 (fun q hq => f2 q hq (fun z hz => nomatch hz)), hce, hO.vm, hcl, hWs, hall, hf⟩⟩
  refine st1 _ ?_
  show Steps p.tables e below (T1.setTop { method := m, pc := pc + 3, locals := ls, stack := .ref T.heap.size :: rest, locked := none }) _
  jvm_step X₁.here [X₁.here.top, hexec, d3', Value.category]
  exact X₁.ldcString hexec (own := own) (text := text) (index := is) (a := sa) hown' hstr'.1 hstr'.2
    (g := { method := m, pc := pc + 4, locals := ls, stack := .ref T.heap.size :: .ref T.heap.size :: rest, locked := none }) rfl d4' _ hsteps
/-- 'throw new E("text")', the text by a wide index -/
theorem vx_throwSW {cc : ByteArray} {pc : Nat} (hexec : p.tables.exec = Jvm.exec) (hb : c.code = cc) (hl : l.stackTraces = false) {own cls text : String} {names : List String} {ik is ic mc ms sa : Nat} {A : Nat → Prop}
    (hown : s.vm.findClass own = some m.cls) (hcls : Bundle.fit cls = true) (hnames : ∀ n ∈ names, Bundle.fit n = true)
    (hk : (Cond.classLink own ik cls).before args s = true) (hini : (Cond.initialized cls).before args s = true) (hstr : vk_R own is text sa s) (hat : ∀ w ∈ vx_atS own ic cls names, w.before args s = true)
    (hgood : ∀ w ∈ Cond.classLink own ik cls :: Cond.initialized cls :: vx_atS own ic cls names, vx_ot w = true)
    (hU : vx_Zq Bundle.tN "UNASSIGNED_STACK" Bundle.steD A s s.heap) (hN : vx_Zq Bundle.tN "SUPPRESSED_SENTINEL" Bundle.listD A s s.heap) (hS : va_S A s.heap H locs) (hsize : ls.size = c.maxLocals)
    (d0 : decode cc pc = .ok (.new ik, 3)) (d3 : decode cc (pc + 3) = .ok (.dup, 1)) (d4 : decode cc (pc + 4) = .ok (.ldc_w is, 3)) (d7 : decode cc (pc + 7) = .ok (.invokespecial ic, 3)) (d10 : decode cc (pc + 10) = .ok (.athrow, 1))
    (hout : ∀ x ∈ c.exceptionTable.toList, covers x (pc + 10) = false)
    (hRframes : names.length + 3 < R.frames) (hRlocals : (rest.map fun v => v.category).sum + (13 * (names.length + 1) + 43) ≤ R.locals) (hRcells : cells + 1 ≤ R.cells) (hRslots : slots + 6 ≤ R.slots) (hlocks : meth.locks = false)
    (hx : ∀ t : State, s.vm.Alike t.vm → H.size ≤ t.heap.size → (∀ q : Nat, q < H.size → t.heap[q]? = H[q]?) → XC cls s t)
    (hf : ∀ z ∈ locs, free z.base) (hc : cells + 1 ≤ mc) (hs : slots + 6 ≤ ms) :
    W p l e R s m args below meth c H locs cells slots (vx_MQ below Qc XC args s mc ms free) (F0 m pc ls rest) := by
  intro T hT X
  have htr : e.platform.stackTraces = false := (show e.platform.stackTraces = l.stackTraces by rw [X.admits.platform]).trans hl
  have Y := vx_rebase X (R' := { frames := R.frames, locals := R.locals, cells := 1, slots := 6 }) (Nat.le_refl _) (Nat.le_refl _) hRcells hRslots
  obtain ⟨s', hA⟩ : ∃ z, z = (T.setVm s.vm).setFrames (.invoking m args :: below) := ⟨_, rfl⟩
  rw [← hA] at Y
  have hvm : s'.vm = s.vm := by rw [hA]; rfl
  have hhp : s'.heap = H := by rw [hA]; exact hT
  have hW0 : s.WarmedH s'.vm := by rw [hvm]; exact State.WarmedH.refl s
  have hat' : ∀ w ∈ vx_atS own ic cls names, w.before args s' = true := fun w hw => vx_ot_at hW0 hvm.symm (hgood w (List.mem_cons_of_mem _ (List.mem_cons_of_mem _ hw))) (hat w hw)
  have hk' : (Cond.classLink own ik cls).before args s' = true := vx_ot_at hW0 hvm.symm (hgood _ List.mem_cons_self) hk
  have hini' : (Cond.initialized cls).before args s' = true := vx_ot_at hW0 hvm.symm (hgood _ (List.mem_cons_of_mem _ List.mem_cons_self)) hini
  have hU' : vx_Zq Bundle.tN "UNASSIGNED_STACK" Bundle.steD A s' s'.heap := by rw [hhp]; exact vx_Zq.moved hW0.alike (hU.kept hS.2.1)
  have hN' : vx_Zq Bundle.tN "SUPPRESSED_SENTINEL" Bundle.listD A s' s'.heap := by rw [hhp]; exact vx_Zq.moved hW0.alike (hN.kept hS.2.1)
  have h : ∀ w ∈ Bundle.ownAtoms own ic cls names, w.before args s' = true := vx_own hat' (vx_isRefq hU'.1) (vx_isRefq hN'.1) hU'.2.word hN'.2.word
  have hown' : s'.vm.findClass own = some m.cls := by rw [hvm]; exact hown
  have hins : (Cond.instantiable cls 6).before args s' = true := h _ (by simp [Bundle.ownAtoms])
  obtain ⟨vm₁, cX, kX, hfX, hkX, -, -, X₁, st1⟩ := Y.newCold hexec (own := own) (C := cls) (index := ik) (n := 6) hown' hk' hins hini'
    (g := F0 m pc ls rest) rfl (by rw [hb]; exact d0) (Nat.le_refl _) (Nat.le_refl _)
  generalize hT1 : (T.setVm vm₁).pushCell { cls := cX, slots := kX.instanceTypes.map defaultValue, vm := .none } = T1 at X₁ st1
  have hcat : (Value.ref T.heap.size).category = 1 := rfl
  have hcellA : T1.heap[T.heap.size]? = some (freshCell cX kX) := by rw [← hT1]; exact State.heap_pushCell_size _ _
  have d3' : decode c.code (pc + 3) = .ok (.dup, 1) := by rw [hb]; exact d3
  have d4' : decode c.code (pc + 4) = .ok (.ldc_w is, 3) := by rw [hb]; exact d4
  have hstr' : vk_R own is text sa s' := vk_R.warm hW0 hstr
  obtain ⟨U, hsteps, hrun, hend, hW, hsame, ce, hce, hO⟩ := X₁.ctorThrowS hexec htr (own := own) (cls := cls) (names := names) (ic := ic) hown' hcls hnames h (fun x hx => nomatch hx) hfX hkX hcellA (by rw [hhp, hT]; exact Nat.le_refl _) (msg := .ref sa) rfl
    (g := { method := m, pc := pc + 7, locals := ls, stack := .ref sa :: .ref T.heap.size :: .ref T.heap.size :: rest, locked := none }) rfl hsize rfl rfl (rest := rest) rfl
    (by rw [hb]; exact d7) (by rw [hb]; exact d10) hout hRframes (by simp only [List.map_cons, List.sum_cons, hcat]; omega) hlocks
  obtain ⟨f1, f2⟩ := vx_frame hsame
  rw [hhp] at f1 f2
  have hWs : s.WarmedH U.vm := State.WarmedH.trans hW0 hW
  have hcl : s.vm.findClass cls = some ce.cls := by
    have h9 := hO.cls
    rw [hvm] at h9
    exact h9
  have hall : s.sameButNew ({ U with vm := s.vm } : State) locs mc ms := by
    subst hA
    obtain ⟨e1, e2⟩ := hsame
    rw [State.setFrames_setFrames] at e1
    have h2 : (T.setVm s.vm).sameButNew ({ U with vm := s.vm } : State) [] (0 + 1) (0 + 6) := ⟨e1, e2⟩
    have h3 := X.same.trans h2
    rw [List.append_nil] at h3
    exact h3.mono hc hs
  refine ⟨U, ?_, .threw T.heap.size, hrun, hend, Or.inr ⟨T.heap.size, rfl, cls, ce, locs, hx U hWs.alike f1 (fun q hq => f2 q hq (fun z hz => nomatch hz)), hce, hO.vm, hcl, hWs, hall, hf⟩⟩
  refine st1 _ ?_
  show Steps p.tables e below (T1.setTop { method := m, pc := pc + 3, locals := ls, stack := .ref T.heap.size :: rest, locked := none }) _
  jvm_step X₁.here [X₁.here.top, hexec, d3', Value.category]
  exact X₁.ldcStringW hexec (own := own) (text := text) (index := is) (a := sa) hown' hstr'.1 hstr'.2
    (g := { method := m, pc := pc + 4, locals := ls, stack := .ref T.heap.size :: .ref T.heap.size :: rest, locked := none }) rfl d4' _ hsteps
end Ends
section Bodies
variable {l : Launch}
theorem vx_ofW {y : MethodName} {ws ws' : List Cond} {rm : Room} {Pc : Array Value → State → Prop} {Qc : Array Value → State → Outcome → State → Prop} {XC : String → State → State → Prop} {mc ms : Nat} {free : Addr → Prop} {cc : ByteArray} {maxL : Nat} {ret : Option FieldType}
    (hy : plainName y.cls = true) (hw : ws = Cond.code y cc maxL ret :: ws')
    (body : ∀ p e s m args below meth c s₁, BodyLoose p l y (headSpec ws rm) cc maxL ret e s m args below meth c s₁ → c.maxLocals = maxL → (∀ x ∈ c.exceptionTable.toList, False) → Pc args s →
      W p l e (headSpec ws rm).room s m args below meth c s.heap [] 0 0 (vx_MQ below Qc XC args s mc ms free) (entryFrame m args maxL)) : vx_Met l y ws rm Pc Qc XC mc ms free := by
  refine MetFree.of_bodyS (code := cc) (maxLocals := maxL) (ret := ret) hy ?_ ?_
  · intro args s m h hn
    obtain ⟨meth, c, h1, h2, h3, h4, h5, h6, -, -⟩ := Cond.code_spec hn (atoms_spec (ws := ws) h _ (by rw [hw]; exact List.mem_cons_self))
    exact ⟨meth, c, h1, h2, h3, h4, h5, h6⟩
  · intro p e s m args below meth c s₁ B hml hP _
    have hh0 : s₁.heap = s.heap := by rw [B.state]; rfl
    have ht : ∀ x ∈ c.exceptionTable.toList, False := by
      obtain ⟨meth9, c9, h1, h2, -, -, -, -, h7, -⟩ := Cond.code_spec B.named (atoms_spec (ws := ws) B.pre _ (by rw [hw]; exact List.mem_cons_self))
      cases Option.some.inj (h1.symm.trans B.method)
      cases Option.some.inj (h2.symm.trans (Stand.of_body B).code)
      intro x hx
      rw [Array.isEmpty_iff.mp h7] at hx
      cases hx
    obtain ⟨t, a1, o, b1, b2, b3⟩ := body p e s m args below meth c s₁ B hml ht hP s₁ hh0 (Stand.of_body B)
    exact ⟨t, o, a1, b1, b2, b3⟩
/-- the table of a body with handlers -/
theorem vx_table {p : Program} {x y : MethodName} {S : Spec} {cc bytes : ByteArray} {maxL maxL' : Nat} {ret ret' : Option FieldType} {e : Env} {s s₁ : State} {m : MethodId} {args : Array Value} {below : List Frame} {meth : Method} {c : Code} {hh : List (Nat × Nat × Nat × Nat)}
    (B : BodyLoose p l y S cc maxL ret e s m args below meth c s₁) (h : (Cond.codeWith y bytes maxL' ret' hh).before args s = true) : c.exceptionTable.toList = tableOf hh := by
  obtain ⟨m9, meth9, c9, hn9, h1, h2, -, -, h6, -⟩ := Cond.codeWith_spec h
  cases Option.some.inj (hn9.symm.trans B.named)
  cases Option.some.inj (h1.symm.trans B.method)
  cases Option.some.inj (h2.symm.trans (Stand.of_body B).code)
  rw [← h6, table_eq]
end Bodies
end VXA
/-! ===== END ===== -/
/-! ===== BEGIN a static call of a method with an exception table ===== -/
section VXS
variable {p : Program} {l : Launch} {e : Env} {R : Room} {s : State} {m : MethodId} {args : Array Value} {below : List Frame} {meth : Method} {c : Code} {T : State} {H : Heap} {locs : List Loc} {cells slots : Nat}
abbrev vx_CSW (R : Room) (s : State) (args : Array Value) (own : String) (index : Nat) (y : MethodName) (bytes : ByteArray) (maxL : Nat) (ret : Option FieldType) (hh : List (Nat × Nat × Nat × Nat)) (ws : List Cond) (rm : Room) (mc ms n : Nat) : Prop :=
  (rm.cells = mc ∧ rm.slots = ms ∧ rm.frames + 1 ≤ R.frames ∧ 8 + (maxL + 11) + rm.locals ≤ R.locals ∧ (∀ w ∈ ws, ∀ (a' : Array Value) (U : State), s.WarmedH U.vm → w.before a' U = true) ∧ Cond.codeWith y bytes maxL ret hh ∈ ws) ∧
  (Cond.codeWith y bytes maxL ret hh).before args s = true ∧ (Cond.initialized y.cls).before args s = true ∧ (y.cls ≠ "java/lang/invoke/MethodHandle" ∧ y.cls ≠ "java/lang/invoke/VarHandle") ∧
  (∀ sig, parseMethodDescriptor y.desc = some sig → n = sig.parameters.length) ∧ (Cond.methodLink own index y).before args s = true ∧ (Cond.static y).before args s = true
theorem vx_cwSW {own : String} {index maxL mc ms : Nat} {y : MethodName} {bytes : ByteArray} {ret : Option FieldType} {hh : List (Nat × Nat × Nat × Nat)} {Ts ws ws' : List Cond} {rm : Room} (n : Nat) (ht : ∀ w ∈ Ts, w.before args s = true) (hT : GoodIn Ts (va_wsS own index y ws)) (hw : ws = Cond.codeWith y bytes maxL ret hh :: ws') (hrc : rm.cells = mc) (hrs : rm.slots = ms)
    (hd : y.cls ≠ "java/lang/invoke/MethodHandle" ∧ y.cls ≠ "java/lang/invoke/VarHandle" ∧ (parseMethodDescriptor y.desc).map (fun d => d.parameters.length) = some n) (hR : rm.frames + 1 ≤ R.frames ∧ 8 + (maxL + 11) + rm.locals ≤ R.locals) :
    vx_CSW R s args own index y bytes maxL ret hh ws rm mc ms n := by
  have ok : ∀ w ∈ va_wsS own index y ws, w.before args s = true := fun w h => ht w (hT w h).1
  have hG : GoodIn Ts ws := fun w h => hT w (by unfold va_wsS; exact List.mem_append_right _ h)
  have hc : Cond.codeWith y bytes maxL ret hh ∈ ws := by rw [hw]; exact List.mem_cons_self
  refine ⟨⟨hrc, hrs, hR.1, hR.2, pay_in ht hG, hc⟩, ht _ (hG _ hc).1, ok _ (by simp [va_wsS]), ⟨hd.1, hd.2.1⟩, fun sig h => ?_, ok _ (by simp [va_wsS]), ok _ (by simp [va_wsS])⟩
  have h2 := hd.2.2
  rw [h] at h2
  exact (Option.some.inj h2).symm
theorem vx_callSW (X : Stand p l e R s m args below meth c T locs cells slots) (hexec : p.tables.exec = Jvm.exec) {own : String} {index : Nat} {y : MethodName} {bytes : ByteArray} {maxL : Nat} {ret : Option FieldType} {hh : List (Nat × Nat × Nat × Nat)}
    (hown : s.vm.findClass own = some m.cls) (hlink : (Cond.methodLink own index y).before args s = true) (hstat : (Cond.static y).before args s = true) (hinit : (Cond.initialized y.cls).before args s = true)
    (hcode : (Cond.codeWith y bytes maxL ret hh).before args s = true) (hy : y.cls ≠ "java/lang/invoke/MethodHandle" ∧ y.cls ≠ "java/lang/invoke/VarHandle")
    {W9 : Nat} {Pre : Pt → Array Value → Prop} {Post : Pt → Array Value → Option Value → Pt → Prop} (hK : Back l R p e below s args y 3 W9 Pre Post)
    {g : JFrame} (hg : g.method = m) (hsize : g.locals.size = c.maxLocals) {argsL rest : List Value} (hlen : ∀ sig, parseMethodDescriptor y.desc = some sig → argsL.length = sig.parameters.length)
    (hstack : g.stack = argsL.reverse ++ rest) (hW : 2 * g.monitorRoom + (rest.map fun v => v.category).sum ≤ W9) (hdg : decode c.code g.pc = .ok (.invokestatic index, 3))
    (hpre : ∀ vm₁, s.WarmedH vm₁ → Pre ⟨T.setVm vm₁, locs, cells, slots⟩ argsL.toArray) :
    ∃ (v : Option Value) (vm₁ : Vm) (B : Pt), s.WarmedH vm₁ ∧ Stand p l e R s m args below meth c B.U B.locs B.cells B.slots ∧ Post ⟨T.setVm vm₁, locs, cells, slots⟩ argsL.toArray v B ∧
      ∀ target, Steps p.tables e below (B.U.setTop { g with pc := g.pc + 3, stack := v.toList ++ rest }) target → Steps p.tables e below (T.setTop g) target := by
  obtain ⟨mk, methM, cM, hnamed, hmethM, -, -, -, -, -, -, hsigM⟩ := Cond.codeWith_spec hcode
  have hstatic : methM.isStatic = true := Cond.static_spec hnamed hmethM hstat
  obtain ⟨kP, hkP, -⟩ := className_of_methodNamed hnamed
  have hinitP : kP.init = .initialized := Cond.initialized_spec (findClass_of_methodNamed hnamed) hkP hinit
  obtain ⟨vm₁, X₁, hstep₁⟩ := X.invokestatic hexec hown hlink hnamed hmethM hstatic hkP hinitP hy (g := g) hg (argsL := argsL) (rest := rest) (hlen _ hsigM) hstack hdg
  obtain ⟨v, B, X', hpost, hsteps⟩ := hK m meth c ⟨T.setVm vm₁, locs, cells, slots⟩ { g with stack := rest } (.invokestatic index) mk argsL.toArray X₁ hg hsize hdg hW (X₁.named hnamed) (hpre vm₁ X₁.warmed)
  exact ⟨v, vm₁, B, X₁.warmed, X', hpost, fun target h => hstep₁ _ fun acts => by rw [doInvoke_state]; exact hsteps.trans h⟩
theorem vx_runSW {y : MethodName} {bytes cc : ByteArray} {maxL nL mc ms n index : Nat} {ret : Option FieldType} {hh : List (Nat × Nat × Nat × Nat)} {ws : List Cond} {rm : Room} {Pc : Array Value → State → Prop} {Qc : Array Value → State → Outcome → State → Prop} {free : Addr → Prop} {Ts : List Cond} {own : String} {As rest : List Value} {g : JFrame}
    (S : CallFix p m c cc nL s args Ts own) (hM : Met l y ws rm Pc Qc mc ms free) (cw : vx_CSW R s args own index y bytes maxL ret hh ws rm mc ms n) (hp : PreS s H Pc As)
    (hg : g.method = m) (hn : As.length = n) (hsize : g.locals.size = nL) (hstack : g.stack = As.reverse ++ rest) (hW : 2 * g.monitorRoom + (rest.map fun v => v.category).sum ≤ 8) (hdg : decode cc g.pc = .ok (.invokestatic index, 3)) (hf : cells + mc ≤ R.cells ∧ slots + ms ≤ R.slots) :
    va_Run p l e R s m args below meth c H locs cells slots mc ms g rest (Qc As.toArray) (free) := by
  obtain ⟨⟨hrc, hrs, hfr, hlo, hws, hcw⟩, hcode, hini, hy, hlen, hl, hstt⟩ := cw
  have hK : Back l R p e below s args y 3 8 (PreOf R mc ms Pc) (PostOf Qc mc ms free) := va_backW (hh := hh) (bytes := bytes) (maxL := maxL) (ret := ret) hM hp.1 hrc hrs hfr hlo hws hcw (fun a' U hW => word_at hW (Or.inl (by first | rfl | simp [Cond.onTables, Cond.keeps, Cond.steady])) hini)
  obtain ⟨hx, hb, hml, ho, -⟩ := S
  intro T hT X
  obtain ⟨v, vm₁, ⟨U', l2, c2, s2⟩, hW₁, X', ⟨g', mk, t, L, e1, e2, hq, h1, hL, h2, h3⟩, st⟩ := vx_callSW X hx (hh := hh) (bytes := bytes) (maxL := maxL) (ret := ret) ho hl hstt hini hcode hy hK hg (hsize.trans hml.symm) (argsL := As) (rest := rest) (fun sig h => hn.trans (hlen sig h)) hstack hW (by rw [hb]; exact hdg)
    (fun vm₁ hW₁ => ⟨hf.1, hf.2, hp.2 (T.setVm vm₁) hT hW₁⟩)
  dsimp only [Pt.U, Pt.locs, Pt.cells, Pt.slots] at X' e1 e2 h1 h2 h3 st
  subst h1; subst h2; subst h3
  exact ⟨v, (T.setVm vm₁).calling g' mk As.toArray, t, U', L, hT, X', hL, e1, e2, hq, st⟩
/-- not caught here, past rows that name other classes: it goes on to the caller -/
theorem vx_outP {p : Program} {l : Launch} {e : Env} {R : Room} {s : State} {m : MethodId} {args : Array Value} {below : List Frame} {meth : Method} {c : Code} {H : Heap} {locs : List Loc} {cells slots : Nat} {free : Addr → Prop} {ls : Array Slot} {rest : List Value} {Qc : Array Value → State → Outcome → State → Prop} {XC : String → State → State → Prop}
    {pc : Nat} {own E : String} {ce : Cell} {q : Addr} {mc ms : Nat} (hown : s.vm.findClass own = some m.cls) (hlocks : meth.locks = false)
    (hpass : ∀ z ∈ c.exceptionTable.toList, covers z pc = false ∨ (z.catchType ≠ 0 ∧ ∃ nm : String, (Cond.classLink own z.catchType nm).before args s = true ∧ va_Nc E nm s)) (hcell : H[q]? = some ce) (hv : ce.vm = .none) (hcl : s.vm.findClass E = some ce.cls)
    (hx : ∀ t : State, t.heap = H → s.vm.Alike t.vm → XC E s t) (hf : ∀ z ∈ locs, free z.base) (hc : cells ≤ mc) (hs : slots ≤ ms) :
    vx_W p l e R s m args below meth c H locs cells slots (vx_MQ below Qc XC args s mc ms free) (F0 m pc ls rest) q := by
  intro T hT X
  have hpl : e.platform.magicAccessors = ({} : Platform).magicAccessors := by rw [X.admits.platform]
  obtain ⟨vm', hW', X', st⟩ := X.outThrough hlocks q (g := F0 m pc ls rest) rfl rfl rfl (cell := ce) (by rw [hT]; exact hcell) (by rw [hv]; rfl)
    (by obtain ⟨k9, h9, -⟩ := Vm.findClass_spec hcl; exact ⟨k9, h9⟩) (fun z hz => by
      rcases hpass z hz with h | ⟨hz0, nm, hl1, hn1⟩
      · exact Or.inl h
      · obtain ⟨c6, hc6, hcl6⟩ := Cond.classLink_spec hown hl1 e.platform hpl
        obtain ⟨a8, b8, h1, h2, h3⟩ := hn1
        cases Option.some.inj (h1.symm.trans hcl)
        cases Option.some.inj (h2.symm.trans hc6)
        exact Or.inr ⟨hz0, _, hcl6, h3⟩)
  obtain ⟨g₀, hfr⟩ := X'.frames_eq
  have hcell9 : ((T.setVm vm').setFrames (.throwing q :: below)).heap[q]? = some ce := by
    show T.heap[q]? = some ce
    rw [hT]; exact hcell
  have hend : Ended ((T.setVm vm').setFrames (.throwing q :: below)) below (.threw q) := State.frames_setFrames _ (State.cur_lt_of_frames hfr)
  refine ⟨(T.setVm vm').setFrames (.throwing q :: below), ?_, .threw q, X'.here.running, hend, Or.inr ⟨q, rfl, E, ce, locs, hx _ hT (X'.ends _).1.alike, hcell9, hv, hcl, (X'.ends _).1, (X'.ends _).2.mono hc hs, hf⟩⟩
  rw [X.pushThrowing_eq]
  exact st
/-- a thing of a world lies in the heap -/
theorem vx_lt {D : va_G} {cl : List vw_C} {ws : va_W} {H1 : Heap} (h : va_P D cl ws H1) {k : Nat} {q : Nat × va_E} (hk : ws[k]? = some q) : q.1 < H1.size := (h k q hk).lt
end VXS
/-! ===== END ===== -/
/-! ===== BEGIN methods with a table of their own: called by a name, returning or throwing ===== -/
section VXH
/-! vx_backW, vx_callVX, vx_callSX, vx_callVW, vx_runVW, vx_runVX, vx_runSX, vx_ofWH follow the same proofs as their sisters above (Free/Laws.lean, Shelf42/LK1.lean); vx_outP calls Shelf42/NT130.lean (outThrough). -/
section
variable {l : Launch} {R : Room} {p : Program} {e : Env} {below : List Frame} {s : State} {sargs : Array Value} {y : MethodName} {len W9 : Nat}
theorem vx_backW {ws : List Cond} {rm : Room} {Pc : Array Value → State → Prop} {Qc : Array Value → State → Outcome → State → Prop} {XC : String → State → State → Prop} {mc ms : Nat} {free : Addr → Prop} {bytes : ByteArray} {maxL : Nat} {ret : Option FieldType} {hh : List (Nat × Nat × Nat × Nat)}
    (hM : vx_Met l y ws rm Pc Qc XC mc ms free) (hblind : FrameBlind Pc) (hrc : rm.cells = mc) (hrs : rm.slots = ms)
    (hframes : rm.frames + 1 ≤ R.frames) (hlocals : W9 + (maxL + 11) + rm.locals ≤ R.locals)
    (hws : ∀ w ∈ ws, ∀ a' U, s.WarmedH U.vm → w.before a' U = true) (hcode : Cond.codeWith y bytes maxL ret hh ∈ ws) (hinit : ∀ a' U, s.WarmedH U.vm → (Cond.initialized y.cls).before a' U = true) :
    vx_Back l R p e below s sargs y len W9 (PreOf R mc ms Pc) (PostOf Qc mc ms free) (vx_Post XC mc ms free) := by
  intro m meth c A g ig mk a X hg hsize hdg hW hn hp
  have h1 : (headSpec ws rm).pre.before a A.U = true := atoms_intro fun w hw => hws w hw _ _ X.warmed
  have h2 : (Cond.codeWith y bytes maxL ret hh).before a A.U = true := hws _ hcode _ _ X.warmed
  have h3 : (Cond.initialized y.cls).before a A.U = true := hinit _ _ X.warmed
  have h4 : A.cells + (headSpec ws rm).room.cells ≤ R.cells := by rw [show (headSpec ws rm).room.cells = mc from hrc]; exact hp.1
  have h5 : A.slots + (headSpec ws rm).room.slots ≤ R.slots := by rw [show (headSpec ws rm).room.slots = ms from hrs]; exact hp.2.1
  have hPc : Pc a (A.U.calling g mk a) := hblind _ _ _ _ hp.2.2
  obtain ⟨U, Ls, c0, s0⟩ := A
  dsimp only [Pt.U, Pt.locs, Pt.cells, Pt.slots] at h1 h2 h3 h4 h5 X hn hPc ⊢
  obtain ⟨m9, methY, cY, hn9, hmY, hcY, -, hlY, -⟩ := Cond.codeWith_spec h2
  cases Option.some.inj (hn9.symm.trans hn)
  obtain ⟨kY, hkY, -⟩ := className_of_methodNamed hn
  have hinitY : kY.init = .initialized := Cond.initialized_spec (findClass_of_methodNamed hn) hkY h3
  have h : At U g.method c below := by rw [hg]; exact X.here
  have hlocals9 : W9 + (maxL + 11) + (headSpec ws rm).room.locals ≤ R.locals := hlocals
  have happ : (headSpec ws rm).appliesLoose y e.platform (U.calling g mk a) = true :=
    Spec.appliesLoose_calling (g := g) h hdg hn hkY hinitY
      (X.room_calling (g := g) (R' := (headSpec ws rm).room) hsize hmY hcY hframes (by rw [hlY]; omega) h4 h5) h1
  obtain ⟨mid, hmid⟩ := h.above
  have hfr : (U.setTop g).frames = (.java g :: mid) ++ below := by rw [State.frames_setTop' g h.top, hmid]; rfl
  obtain ⟨o, s₂, hsteps, -, hend, hq⟩ := Steps.callFree hM p X.admits X.cas X.clock (acts := []) hfr happ hPc trivial
  have hq' : vx_Q Qc XC mc ms free a (U.calling g mk a) o s₂ := hq
  rw [State.frames_setTop' g h.top] at hend
  obtain ⟨g₀, hg0⟩ := Option.isSome_iff_exists.mp h.top
  obtain ⟨r, hr⟩ := State.topJava?_eq_some.mp hg0
  have hr' : (({ U with heap := s₂.heap, slotsUsed := s₂.slotsUsed } : State).setVm s₂.vm).frames = .java g₀ :: r := hr
  rcases hq' with ⟨hqc, L, hfe, hL⟩ | ⟨q, rfl, E, ce, L, hx, hce, hcv, hcl, hW₂, hsm, hL⟩
  · obtain ⟨⟨v, rfl⟩, hW₂, e2, q2, q3, q4, q5, q6⟩ := id hfe
    have e3 : s₂ = ({ (U.calling g mk a).setFrames s₂.frames with heap := s₂.heap, slotsUsed := s₂.slotsUsed } : State).setVm s₂.vm := by
      have : s₂ = ({ s₂ with vm := (U.calling g mk a).vm } : State).setVm s₂.vm := rfl
      rw [e2] at this
      exact this
    obtain ⟨c₂, i₂, len₂, hc₂, hd₂, hf₂⟩ := hend
    have hW' : U.WarmedH s₂.vm := hW₂
    have hcc : c₂ = c := by
      have h1 : s₂.code? g.method = U.code? g.method := by
        rw [State.code?_eq, State.code?_eq, hW'.alike.method?]
      exact Option.some.inj (hc₂.symm.trans (h1.trans h.code))
    subst hcc
    have hlen : len₂ = len := by rw [hdg] at hd₂; cases hd₂; rfl
    subst hlen
    have hs₂ : s₂ = (({ U with heap := s₂.heap, slotsUsed := s₂.slotsUsed } : State).setVm s₂.vm).setTop { g with pc := g.pc + len₂, stack := v.toList ++ g.stack } := by
      refine e3.trans ?_
      rw [hf₂, State.calling_eq h.top, State.setFrames_setFrames, State.setTop_of_frames _ hr', hr]
      rfl
    have hsame : U.sameButNew ({ U with heap := s₂.heap, slotsUsed := s₂.slotsUsed } : State) L mc ms := by
      refine ⟨?_, q2, q3, q4, q5, q6⟩
      obtain ⟨t, ht, -⟩ := State.frames_cons hr
      show ({ U with heap := s₂.heap, slotsUsed := s₂.slotsUsed } : State) = { U.setFrames U.frames with heap := s₂.heap, slotsUsed := s₂.slotsUsed }
      rw [State.setFrames_self ht]
    subst hg
    refine Or.inl ⟨v, ⟨(({ U with heap := s₂.heap, slotsUsed := s₂.slotsUsed } : State).setVm s₂.vm), Ls ++ L, c0 + mc, s0 + ms⟩,
      ⟨X.admits, X.cas, X.clock, X.frames, X.room, X.hears, X.method, X.code, (X.here.setHeapUsed s₂.heap s₂.slotsUsed).setVm hW'.alike, X.tail, State.WarmedH.trans X.warmed hW', X.limits, X.bytes, X.same.trans (hsame.setVm s.vm)⟩,
      ⟨g, mk, s₂, L, rfl, rfl, hqc, rfl, hL, rfl, rfl⟩, ?_⟩
    show Steps p.tables e below _ ((({ U with heap := s₂.heap, slotsUsed := s₂.slotsUsed } : State).setVm s₂.vm).setTop { g with pc := g.pc + len₂, stack := v.toList ++ g.stack })
    rw [← hs₂]
    exact hsteps
  · obtain ⟨e2, q2, q3, q4, q5, q6⟩ := id hsm
    have e3 : s₂ = ({ (U.calling g mk a).setFrames s₂.frames with heap := s₂.heap, slotsUsed := s₂.slotsUsed } : State).setVm s₂.vm := by
      have : s₂ = ({ s₂ with vm := (U.calling g mk a).vm } : State).setVm s₂.vm := rfl
      rw [e2] at this
      exact this
    have hf₂ : s₂.frames = .throwing q :: .java g :: U.frames.tail := hend
    have hW' : U.WarmedH s₂.vm := hW₂
    have hs₂ : s₂ = ((({ U with heap := s₂.heap, slotsUsed := s₂.slotsUsed } : State).setVm s₂.vm).setTop g).pushFrame (.throwing q) := by
      refine e3.trans ?_
      rw [hf₂, State.calling_eq h.top, State.setFrames_setFrames, State.pushFrame, State.frames_setTop _ hr', State.setTop_of_frames _ hr', State.setFrames_setFrames, hr]
      rfl
    have hsame : U.sameButNew ({ U with heap := s₂.heap, slotsUsed := s₂.slotsUsed } : State) L mc ms := by
      refine ⟨?_, q2, q3, q4, q5, q6⟩
      obtain ⟨t, ht, -⟩ := State.frames_cons hr
      show ({ U with heap := s₂.heap, slotsUsed := s₂.slotsUsed } : State) = { U.setFrames U.frames with heap := s₂.heap, slotsUsed := s₂.slotsUsed }
      rw [State.setFrames_self ht]
    subst hg
    refine Or.inr ⟨q, ⟨(({ U with heap := s₂.heap, slotsUsed := s₂.slotsUsed } : State).setVm s₂.vm), Ls ++ L, c0 + mc, s0 + ms⟩,
      ⟨X.admits, X.cas, X.clock, X.frames, X.room, X.hears, X.method, X.code, (X.here.setHeapUsed s₂.heap s₂.slotsUsed).setVm hW'.alike, X.tail, State.WarmedH.trans X.warmed hW', X.limits, X.bytes, X.same.trans (hsame.setVm s.vm)⟩,
      ⟨g, mk, s₂, L, E, ce, rfl, rfl, hx, hce, hcv, hcl, rfl, hL, rfl, rfl⟩, ?_⟩
    show Steps p.tables e below _ (((({ U with heap := s₂.heap, slotsUsed := s₂.slotsUsed } : State).setVm s₂.vm).setTop g).pushFrame (.throwing q))
    rw [← hs₂]
    exact hsteps
end
variable {p : Program} {l : Launch} {e : Env} {R : Room} {s : State} {m : MethodId} {args : Array Value} {below : List Frame} {meth : Method} {c : Code} {T : State} {H : Heap} {locs : List Loc} {cells slots : Nat}
theorem vx_callVX (X : Stand p l e R s m args below meth c T locs cells slots) (hexec : p.tables.exec = Jvm.exec) {own C : String} {index : Nat} {y : MethodName} {bytes : ByteArray} {maxL : Nat} {ret : Option FieldType} {hh : List (Nat × Nat × Nat × Nat)}
    (hown : s.vm.findClass own = some m.cls) (hlink : (Cond.methodLink own index y).before args s = true) (hinst : (Cond.instanceMethod y).before args s = true) (hsel : (Cond.selects C y y).before args s = true)
    (hcode : (Cond.codeWith y bytes maxL ret hh).before args s = true) (hy : y.cls ≠ "java/lang/invoke/MethodHandle" ∧ y.cls ≠ "java/lang/invoke/VarHandle")
    {W9 : Nat} {Pre : Pt → Array Value → Prop} {Post : Pt → Array Value → Option Value → Pt → Prop} {PostX : Pt → Array Value → Addr → Pt → Prop} (hK : vx_Back l R p e below s args y 3 W9 Pre Post PostX)
    {b : Addr} {cellB : Cell} (hcell : T.heap[b]? = some cellB) (hobj : cellB.vm.isStatics = false) (hcls : s.vm.findClass C = some cellB.cls)
    {g : JFrame} (hg : g.method = m) (hsize : g.locals.size = c.maxLocals) {argsL rest : List Value} (hlen : ∀ sig, parseMethodDescriptor y.desc = some sig → argsL.length = sig.parameters.length)
    (hstack : g.stack = argsL.reverse ++ .ref b :: rest) (hW : 2 * g.monitorRoom + (rest.map fun v => v.category).sum ≤ W9) (hdg : decode c.code g.pc = .ok (.invokevirtual index, 3))
    (hpre : ∀ vm₁, s.WarmedH vm₁ → Pre ⟨T.setVm vm₁, locs, cells, slots⟩ (Value.ref b :: argsL).toArray) :
    (∃ (v : Option Value) (vm₁ : Vm) (B : Pt), s.WarmedH vm₁ ∧ Stand p l e R s m args below meth c B.U B.locs B.cells B.slots ∧ Post ⟨T.setVm vm₁, locs, cells, slots⟩ (Value.ref b :: argsL).toArray v B ∧
      ∀ target, Steps p.tables e below (B.U.setTop { g with pc := g.pc + 3, stack := v.toList ++ rest }) target → Steps p.tables e below (T.setTop g) target) ∨
    (∃ (q : Addr) (vm₁ : Vm) (B : Pt), s.WarmedH vm₁ ∧ Stand p l e R s m args below meth c B.U B.locs B.cells B.slots ∧ PostX ⟨T.setVm vm₁, locs, cells, slots⟩ (Value.ref b :: argsL).toArray q B ∧
      Steps p.tables e below (T.setTop g) ((B.U.setTop { g with stack := rest }).pushFrame (.throwing q))) := by
  obtain ⟨mk, methM, hnamed, hmethM, hstM, habM⟩ := Cond.instanceMethod_spec hinst
  obtain ⟨m8, methM', cM, hn8, hmethM', -, -, -, -, -, -, hsigM⟩ := Cond.codeWith_spec hcode
  cases Option.some.inj (hn8.symm.trans hnamed)
  cases hmethM.symm.trans hmethM'
  obtain ⟨c2, r2, m2, q1, q2, q3, q4, kP, hkP, hkPi⟩ := Cond.selects_spec hsel
  cases hcls.symm.trans q1
  cases (State.methodFound?_of_named hnamed hy).symm.trans q2
  cases hnamed.symm.trans q3
  have hselP : selectMethod e.platform s.vm cellB.cls mk = .method mk := by rw [Launch.admits_selectMethod X.admits]; exact q4
  obtain ⟨vm₁, X₁, hstep₁⟩ := X.invokevirtual hexec hown hlink hnamed hmethM hstM hkP hkPi hy (a := b) (cell := cellB) hcell
    (fun z h => by rw [h] at hobj; cases hobj) hselP hmethM habM hkP hkPi (g := g) hg (argsL := argsL) (rest := rest) (hlen _ hsigM) hstack hdg
  rcases hK m meth c ⟨T.setVm vm₁, locs, cells, slots⟩ { g with stack := rest } (.invokevirtual index) mk (Value.ref b :: argsL).toArray X₁ hg hsize hdg hW (X₁.named hnamed) (hpre vm₁ X₁.warmed) with ⟨v, B, X', hpost, hsteps⟩ | ⟨q, B, X', hpost, hsteps⟩
  · exact Or.inl ⟨v, vm₁, B, X₁.warmed, X', hpost, fun target h => hstep₁ _ fun acts => by rw [doInvoke_state]; exact hsteps.trans h⟩
  · exact Or.inr ⟨q, vm₁, B, X₁.warmed, X', hpost, hstep₁ _ fun acts => by rw [doInvoke_state]; exact hsteps⟩
theorem vx_callSX (X : Stand p l e R s m args below meth c T locs cells slots) (hexec : p.tables.exec = Jvm.exec) {own : String} {index : Nat} {y : MethodName} {bytes : ByteArray} {maxL : Nat} {ret : Option FieldType} {hh : List (Nat × Nat × Nat × Nat)}
    (hown : s.vm.findClass own = some m.cls) (hlink : (Cond.methodLink own index y).before args s = true) (hstat : (Cond.static y).before args s = true) (hinit : (Cond.initialized y.cls).before args s = true)
    (hcode : (Cond.codeWith y bytes maxL ret hh).before args s = true) (hy : y.cls ≠ "java/lang/invoke/MethodHandle" ∧ y.cls ≠ "java/lang/invoke/VarHandle")
    {W9 : Nat} {Pre : Pt → Array Value → Prop} {Post : Pt → Array Value → Option Value → Pt → Prop} {PostX : Pt → Array Value → Addr → Pt → Prop} (hK : vx_Back l R p e below s args y 3 W9 Pre Post PostX)
    {g : JFrame} (hg : g.method = m) (hsize : g.locals.size = c.maxLocals) {argsL rest : List Value} (hlen : ∀ sig, parseMethodDescriptor y.desc = some sig → argsL.length = sig.parameters.length)
    (hstack : g.stack = argsL.reverse ++ rest) (hW : 2 * g.monitorRoom + (rest.map fun v => v.category).sum ≤ W9) (hdg : decode c.code g.pc = .ok (.invokestatic index, 3))
    (hpre : ∀ vm₁, s.WarmedH vm₁ → Pre ⟨T.setVm vm₁, locs, cells, slots⟩ argsL.toArray) :
    (∃ (v : Option Value) (vm₁ : Vm) (B : Pt), s.WarmedH vm₁ ∧ Stand p l e R s m args below meth c B.U B.locs B.cells B.slots ∧ Post ⟨T.setVm vm₁, locs, cells, slots⟩ argsL.toArray v B ∧
      ∀ target, Steps p.tables e below (B.U.setTop { g with pc := g.pc + 3, stack := v.toList ++ rest }) target → Steps p.tables e below (T.setTop g) target) ∨
    (∃ (q : Addr) (vm₁ : Vm) (B : Pt), s.WarmedH vm₁ ∧ Stand p l e R s m args below meth c B.U B.locs B.cells B.slots ∧ PostX ⟨T.setVm vm₁, locs, cells, slots⟩ argsL.toArray q B ∧
      Steps p.tables e below (T.setTop g) ((B.U.setTop { g with stack := rest }).pushFrame (.throwing q))) := by
  obtain ⟨mk, methM, cM, hnamed, hmethM, -, -, -, -, -, -, hsigM⟩ := Cond.codeWith_spec hcode
  have hstatic : methM.isStatic = true := Cond.static_spec hnamed hmethM hstat
  obtain ⟨kP, hkP, -⟩ := className_of_methodNamed hnamed
  have hinitP : kP.init = .initialized := Cond.initialized_spec (findClass_of_methodNamed hnamed) hkP hinit
  obtain ⟨vm₁, X₁, hstep₁⟩ := X.invokestatic hexec hown hlink hnamed hmethM hstatic hkP hinitP hy (g := g) hg (argsL := argsL) (rest := rest) (hlen _ hsigM) hstack hdg
  rcases hK m meth c ⟨T.setVm vm₁, locs, cells, slots⟩ { g with stack := rest } (.invokestatic index) mk argsL.toArray X₁ hg hsize hdg hW (X₁.named hnamed) (hpre vm₁ X₁.warmed) with ⟨v, B, X', hpost, hsteps⟩ | ⟨q, B, X', hpost, hsteps⟩
  · exact Or.inl ⟨v, vm₁, B, X₁.warmed, X', hpost, fun target h => hstep₁ _ fun acts => by rw [doInvoke_state]; exact hsteps.trans h⟩
  · exact Or.inr ⟨q, vm₁, B, X₁.warmed, X', hpost, hstep₁ _ fun acts => by rw [doInvoke_state]; exact hsteps⟩
theorem vx_callVW (X : Stand p l e R s m args below meth c T locs cells slots) (hexec : p.tables.exec = Jvm.exec) {own C : String} {index : Nat} {y : MethodName} {bytes : ByteArray} {maxL : Nat} {ret : Option FieldType} {hh : List (Nat × Nat × Nat × Nat)}
    (hown : s.vm.findClass own = some m.cls) (hlink : (Cond.methodLink own index y).before args s = true) (hinst : (Cond.instanceMethod y).before args s = true) (hsel : (Cond.selects C y y).before args s = true)
    (hcode : (Cond.codeWith y bytes maxL ret hh).before args s = true) (hy : y.cls ≠ "java/lang/invoke/MethodHandle" ∧ y.cls ≠ "java/lang/invoke/VarHandle")
    {W9 : Nat} {Pre : Pt → Array Value → Prop} {Post : Pt → Array Value → Option Value → Pt → Prop} (hK : Back l R p e below s args y 3 W9 Pre Post)
    {b : Addr} {cellB : Cell} (hcell : T.heap[b]? = some cellB) (hobj : cellB.vm.isStatics = false) (hcls : s.vm.findClass C = some cellB.cls)
    {g : JFrame} (hg : g.method = m) (hsize : g.locals.size = c.maxLocals) {argsL rest : List Value} (hlen : ∀ sig, parseMethodDescriptor y.desc = some sig → argsL.length = sig.parameters.length)
    (hstack : g.stack = argsL.reverse ++ .ref b :: rest) (hW : 2 * g.monitorRoom + (rest.map fun v => v.category).sum ≤ W9) (hdg : decode c.code g.pc = .ok (.invokevirtual index, 3))
    (hpre : ∀ vm₁, s.WarmedH vm₁ → Pre ⟨T.setVm vm₁, locs, cells, slots⟩ (Value.ref b :: argsL).toArray) :
    ∃ (v : Option Value) (vm₁ : Vm) (B : Pt), s.WarmedH vm₁ ∧ Stand p l e R s m args below meth c B.U B.locs B.cells B.slots ∧ Post ⟨T.setVm vm₁, locs, cells, slots⟩ (Value.ref b :: argsL).toArray v B ∧
      ∀ target, Steps p.tables e below (B.U.setTop { g with pc := g.pc + 3, stack := v.toList ++ rest }) target → Steps p.tables e below (T.setTop g) target := by
  obtain ⟨mk, methM, hnamed, hmethM, hstM, habM⟩ := Cond.instanceMethod_spec hinst
  obtain ⟨m8, methM', cM, hn8, hmethM', -, -, -, -, -, -, hsigM⟩ := Cond.codeWith_spec hcode
  cases Option.some.inj (hn8.symm.trans hnamed)
  cases hmethM.symm.trans hmethM'
  obtain ⟨c2, r2, m2, q1, q2, q3, q4, kP, hkP, hkPi⟩ := Cond.selects_spec hsel
  cases hcls.symm.trans q1
  cases (State.methodFound?_of_named hnamed hy).symm.trans q2
  cases hnamed.symm.trans q3
  have hselP : selectMethod e.platform s.vm cellB.cls mk = .method mk := by rw [Launch.admits_selectMethod X.admits]; exact q4
  obtain ⟨vm₁, X₁, hstep₁⟩ := X.invokevirtual hexec hown hlink hnamed hmethM hstM hkP hkPi hy (a := b) (cell := cellB) hcell
    (fun z h => by rw [h] at hobj; cases hobj) hselP hmethM habM hkP hkPi (g := g) hg (argsL := argsL) (rest := rest) (hlen _ hsigM) hstack hdg
  obtain ⟨v, B, X', hpost, hsteps⟩ := hK m meth c ⟨T.setVm vm₁, locs, cells, slots⟩ { g with stack := rest } (.invokevirtual index) mk (Value.ref b :: argsL).toArray X₁ hg hsize hdg hW (X₁.named hnamed) (hpre vm₁ X₁.warmed)
  exact ⟨v, vm₁, B, X₁.warmed, X', hpost, fun target h => hstep₁ _ fun acts => by rw [doInvoke_state]; exact hsteps.trans h⟩
abbrev vx_CVW (R : Room) (s : State) (args : Array Value) (own C : String) (index : Nat) (y : MethodName) (bytes : ByteArray) (maxL : Nat) (ret : Option FieldType) (hh : List (Nat × Nat × Nat × Nat)) (ws : List Cond) (rm : Room) (mc ms n : Nat) : Prop :=
  (rm.cells = mc ∧ rm.slots = ms ∧ rm.frames + 1 ≤ R.frames ∧ 8 + (maxL + 11) + rm.locals ≤ R.locals ∧ (∀ w ∈ ws, ∀ (a' : Array Value) (U : State), s.WarmedH U.vm → w.before a' U = true) ∧ Cond.codeWith y bytes maxL ret hh ∈ ws) ∧
  (Cond.codeWith y bytes maxL ret hh).before args s = true ∧ (Cond.initialized y.cls).before args s = true ∧ (y.cls ≠ "java/lang/invoke/MethodHandle" ∧ y.cls ≠ "java/lang/invoke/VarHandle") ∧
  (∀ sig, parseMethodDescriptor y.desc = some sig → n = sig.parameters.length) ∧ (Cond.methodLink own index y).before args s = true ∧ (Cond.instanceMethod y).before args s = true ∧ (Cond.selects C y y).before args s = true
theorem vx_cwVW {own C : String} {index maxL mc ms : Nat} {y : MethodName} {bytes : ByteArray} {ret : Option FieldType} {hh : List (Nat × Nat × Nat × Nat)} {Ts ws ws' : List Cond} {rm : Room} (n : Nat) (ht : ∀ w ∈ Ts, w.before args s = true) (hT : GoodIn Ts (wsV own index C y ws)) (hw : ws = Cond.codeWith y bytes maxL ret hh :: ws') (hrc : rm.cells = mc) (hrs : rm.slots = ms)
    (hd : y.cls = C ∧ y.cls ≠ "java/lang/invoke/MethodHandle" ∧ y.cls ≠ "java/lang/invoke/VarHandle" ∧ (parseMethodDescriptor y.desc).map (fun d => d.parameters.length) = some n) (hR : rm.frames + 1 ≤ R.frames ∧ 8 + (maxL + 11) + rm.locals ≤ R.locals) :
    vx_CVW R s args own C index y bytes maxL ret hh ws rm mc ms n := by
  obtain ⟨hC, hd⟩ := hd
  subst hC
  have ok : ∀ w ∈ wsV own index y.cls y ws, w.before args s = true := fun w h => ht w (hT w h).1
  have hG : GoodIn Ts ws := fun w h => hT w (by unfold wsV; exact List.mem_append_right _ h)
  have hc : Cond.codeWith y bytes maxL ret hh ∈ ws := by rw [hw]; exact List.mem_cons_self
  refine ⟨⟨hrc, hrs, hR.1, hR.2, pay_in ht hG, hc⟩, ht _ (hG _ hc).1, ok _ (by simp [wsV]), ⟨hd.1, hd.2.1⟩, fun sig h => ?_, ok _ (by simp [wsV]), ok _ (by simp [wsV]), ok _ (by simp [wsV])⟩
  have h2 := hd.2.2
  rw [h] at h2
  exact (Option.some.inj h2).symm
theorem vx_runVW {y : MethodName} {bytes cc : ByteArray} {maxL nL mc ms n index : Nat} {ret : Option FieldType} {hh : List (Nat × Nat × Nat × Nat)} {ws : List Cond} {rm : Room} {Pc : Array Value → State → Prop} {Qc : Array Value → State → Outcome → State → Prop} {free : Addr → Prop} {Ts : List Cond} {own C : String} {b : Addr} {As rest : List Value} {g : JFrame}
    (S : CallFix p m c cc nL s args Ts own) (hM : Met l y ws rm Pc Qc mc ms free) (cw : vx_CVW R s args own C index y bytes maxL ret hh ws rm mc ms n) (hp : PreV s H C b Pc As)
    (hg : g.method = m) (hn : As.length = n) (hsize : g.locals.size = nL) (hstack : g.stack = As.reverse ++ .ref b :: rest) (hW : 2 * g.monitorRoom + (rest.map fun v => v.category).sum ≤ 8) (hdg : decode cc g.pc = .ok (.invokevirtual index, 3)) (hf : cells + mc ≤ R.cells ∧ slots + ms ≤ R.slots) :
    va_Run p l e R s m args below meth c H locs cells slots mc ms g rest (Qc (Value.ref b :: As).toArray) free := by
  obtain ⟨⟨hrc, hrs, hfr, hlo, hws, hcw⟩, hcode, hini, hy, hlen, hl, hin, hse⟩ := cw
  have hK : Back l R p e below s args y 3 8 (PreOf R mc ms Pc) (PostOf Qc mc ms free) := va_backW (hh := hh) (bytes := bytes) (maxL := maxL) (ret := ret) hM hp.1 hrc hrs hfr hlo hws hcw (fun a' U hW => word_at hW (Or.inl (by first | rfl | simp [Cond.onTables, Cond.keeps, Cond.steady])) hini)
  obtain ⟨hx, hb, hml, ho, -⟩ := S
  obtain ⟨-, ⟨cellB, hcB, hoB, hclB⟩, hPc⟩ := hp
  intro T hT X
  obtain ⟨v, vm₁, ⟨U', l2, c2, s2⟩, hW₁, X', ⟨g', mk, t, L, e1, e2, hq, h1, hL, h2, h3⟩, st⟩ := vx_callVW X hx (C := C) (hh := hh) (bytes := bytes) (maxL := maxL) (ret := ret) ho hl hin hse hcode hy hK (by rw [hT]; exact hcB) hoB hclB hg (hsize.trans hml.symm) (argsL := As) (rest := rest) (fun sig h => hn.trans (hlen sig h)) hstack hW (by rw [hb]; exact hdg)
    (fun vm₁ hW₁ => ⟨hf.1, hf.2, hPc (T.setVm vm₁) hT hW₁⟩)
  dsimp only [Pt.U, Pt.locs, Pt.cells, Pt.slots] at X' e1 e2 h1 h2 h3 st
  subst h1; subst h2; subst h3
  exact ⟨v, (T.setVm vm₁).calling g' mk (Value.ref b :: As).toArray, t, U', L, hT, X', hL, e1, e2, hq, st⟩
section
variable {y : MethodName} {bytes cc : ByteArray} {maxL nL mc ms n index : Nat} {ret : Option FieldType} {ws : List Cond} {rm : Room} {Pc : Array Value → State → Prop} {Qc : Array Value → State → Outcome → State → Prop} {XC : String → State → State → Prop} {free : Addr → Prop} {Ts : List Cond} {own C : String} {b : Addr} {As rest : List Value} {g : JFrame}
theorem vx_runVX {hh : List (Nat × Nat × Nat × Nat)} (S : CallFix p m c cc nL s args Ts own) (hM : vx_Met l y ws rm Pc Qc XC mc ms free) (cw : vx_CVW R s args own C index y bytes maxL ret hh ws rm mc ms n) (hp : PreV s H C b Pc As)
    (hg : g.method = m) (hn : As.length = n) (hsize : g.locals.size = nL) (hstack : g.stack = As.reverse ++ .ref b :: rest) (hW : 2 * g.monitorRoom + (rest.map fun v => v.category).sum ≤ 8) (hdg : decode cc g.pc = .ok (.invokevirtual index, 3)) (hf : cells + mc ≤ R.cells ∧ slots + ms ≤ R.slots) :
    vx_Run p l e R s m args below meth c H locs cells slots mc ms g rest (Qc (Value.ref b :: As).toArray) XC free := by
  obtain ⟨⟨hrc, hrs, hfr, hlo, hws, hcw⟩, hcode, hini, hy, hlen, hl, hin, hse⟩ := cw
  have hK : vx_Back l R p e below s args y 3 8 (PreOf R mc ms Pc) (PostOf Qc mc ms free) (vx_Post XC mc ms free) := vx_backW (hh := hh) (bytes := bytes) (maxL := maxL) (ret := ret) hM hp.1 hrc hrs hfr hlo hws hcw (fun a' U hW => word_at hW (Or.inl (by first | rfl | simp [Cond.onTables, Cond.keeps, Cond.steady])) hini)
  obtain ⟨hx, hb, hml, ho, -⟩ := S
  obtain ⟨-, ⟨cellB, hcB, hoB, hclB⟩, hPc⟩ := hp
  intro T hT X
  rcases vx_callVX X hx (C := C) (hh := hh) (bytes := bytes) (maxL := maxL) (ret := ret) ho hl hin hse hcode hy hK (by rw [hT]; exact hcB) hoB hclB hg (hsize.trans hml.symm) (argsL := As) (rest := rest) (fun sig h => hn.trans (hlen sig h)) hstack hW (by rw [hb]; exact hdg)
    (fun vm₁ hW₁ => ⟨hf.1, hf.2, hPc (T.setVm vm₁) hT hW₁⟩) with ⟨v, vm₁, ⟨U', l2, c2, s2⟩, hW₁, X', ⟨g', mk, t, L, e1, e2, hq, h1, hL, h2, h3⟩, st⟩ | ⟨q, vm₁, ⟨U', l2, c2, s2⟩, hW₁, X', ⟨g', mk, t, L, E, ce, e1, e2, hq, hce, hcv, hcl, h1, hL, h2, h3⟩, st⟩
  · dsimp only [Pt.U, Pt.locs, Pt.cells, Pt.slots] at X' e1 e2 h1 h2 h3 st
    subst h1; subst h2; subst h3
    exact Or.inl ⟨v, (T.setVm vm₁).calling g' mk (Value.ref b :: As).toArray, t, U', L, hT, X', hL, e1, e2, hq, st⟩
  · dsimp only [Pt.U, Pt.locs, Pt.cells, Pt.slots] at X' e1 e2 h1 h2 h3 st hcl
    subst h1; subst h2; subst h3
    exact Or.inr ⟨q, (T.setVm vm₁).calling g' mk (Value.ref b :: As).toArray, t, U', L, E, ce, hT, X', hL, e1, e2, hq, hce, hcv, vx_cls hW₁ hcl, st⟩
theorem vx_runSX {hh : List (Nat × Nat × Nat × Nat)} (S : CallFix p m c cc nL s args Ts own) (hM : vx_Met l y ws rm Pc Qc XC mc ms free) (cw : vx_CSW R s args own index y bytes maxL ret hh ws rm mc ms n) (hp : PreS s H Pc As)
    (hg : g.method = m) (hn : As.length = n) (hsize : g.locals.size = nL) (hstack : g.stack = As.reverse ++ rest) (hW : 2 * g.monitorRoom + (rest.map fun v => v.category).sum ≤ 8) (hdg : decode cc g.pc = .ok (.invokestatic index, 3)) (hf : cells + mc ≤ R.cells ∧ slots + ms ≤ R.slots) :
    vx_Run p l e R s m args below meth c H locs cells slots mc ms g rest (Qc As.toArray) XC free := by
  obtain ⟨⟨hrc, hrs, hfr, hlo, hws, hcw⟩, hcode, hini, hy, hlen, hl, hstt⟩ := cw
  have hK : vx_Back l R p e below s args y 3 8 (PreOf R mc ms Pc) (PostOf Qc mc ms free) (vx_Post XC mc ms free) := vx_backW (hh := hh) (bytes := bytes) (maxL := maxL) (ret := ret) hM hp.1 hrc hrs hfr hlo hws hcw (fun a' U hW => word_at hW (Or.inl (by first | rfl | simp [Cond.onTables, Cond.keeps, Cond.steady])) hini)
  obtain ⟨hx, hb, hml, ho, -⟩ := S
  intro T hT X
  rcases vx_callSX X hx (hh := hh) (bytes := bytes) (maxL := maxL) (ret := ret) ho hl hstt hini hcode hy hK hg (hsize.trans hml.symm) (argsL := As) (rest := rest) (fun sig h => hn.trans (hlen sig h)) hstack hW (by rw [hb]; exact hdg)
    (fun vm₁ hW₁ => ⟨hf.1, hf.2, hp.2 (T.setVm vm₁) hT hW₁⟩) with ⟨v, vm₁, ⟨U', l2, c2, s2⟩, hW₁, X', ⟨g', mk, t, L, e1, e2, hq, h1, hL, h2, h3⟩, st⟩ | ⟨q, vm₁, ⟨U', l2, c2, s2⟩, hW₁, X', ⟨g', mk, t, L, E, ce, e1, e2, hq, hce, hcv, hcl, h1, hL, h2, h3⟩, st⟩
  · dsimp only [Pt.U, Pt.locs, Pt.cells, Pt.slots] at X' e1 e2 h1 h2 h3 st
    subst h1; subst h2; subst h3
    exact Or.inl ⟨v, (T.setVm vm₁).calling g' mk As.toArray, t, U', L, hT, X', hL, e1, e2, hq, st⟩
  · dsimp only [Pt.U, Pt.locs, Pt.cells, Pt.slots] at X' e1 e2 h1 h2 h3 st hcl
    subst h1; subst h2; subst h3
    exact Or.inr ⟨q, (T.setVm vm₁).calling g' mk As.toArray, t, U', L, E, ce, hT, X', hL, e1, e2, hq, hce, hcv, vx_cls hW₁ hcl, st⟩
end
end VXH
theorem vx_ofWH {l : Launch} {y : MethodName} {ws ws' : List Cond} {rm : Room} {Pc : Array Value → State → Prop} {Qc : Array Value → State → Outcome → State → Prop} {XC : String → State → State → Prop} {mc ms : Nat} {free : Addr → Prop} {cc : ByteArray} {maxL : Nat} {ret : Option FieldType} {hh : List (Nat × Nat × Nat × Nat)}
    (hy : plainName y.cls = true) (hw : ws = Cond.codeWith y cc maxL ret hh :: ws')
    (body : ∀ p e s m args below meth c s₁, BodyLoose p l y (headSpec ws rm) cc maxL ret e s m args below meth c s₁ → c.maxLocals = maxL → Pc args s →
      W p l e (headSpec ws rm).room s m args below meth c s.heap [] 0 0 (vx_MQ below Qc XC args s mc ms free) (entryFrame m args maxL)) : vx_Met l y ws rm Pc Qc XC mc ms free := by
  refine MetFree.of_bodyS (code := cc) (maxLocals := maxL) (ret := ret) hy ?_ ?_
  · intro args s m h hn
    obtain ⟨m9, meth, c, hn9, h1, h2, h3, h4, -, h5, h6, -⟩ := Cond.codeWith_spec (atoms_spec (ws := ws) h _ (by rw [hw]; exact List.mem_cons_self))
    cases hn.symm.trans hn9
    exact ⟨meth, c, h1, h2, h3, h4, h5, h6⟩
  · intro p e s m args below meth c s₁ B hml hP _
    have hh0 : s₁.heap = s.heap := by rw [B.state]; rfl
    obtain ⟨t, a1, o, b1, b2, b3⟩ := body p e s m args below meth c s₁ B hml hP s₁ hh0 (Stand.of_body B)
    exact ⟨t, o, a1, b1, b2, b3⟩
/-! ===== END ===== -/
/-! ===== BEGIN a private method of a nest mate that may throw (follows va_callVN, va_callSN, va_runVN, va_runSN) ===== -/
section
variable {p : Program} {l : Launch} {e : Env} {R : Room} {s : State} {m : MethodId} {args : Array Value} {below : List Frame} {meth : Method} {c : Code} {H : Heap} {locs : List Loc} {cells slots : Nat}
variable {T : State}
theorem vx_callVN (X : Stand p l e R s m args below meth c T locs cells slots) (hexec : p.tables.exec = Jvm.exec) {own C : String} {index : Nat} {host : String} {y : MethodName} {bytes : ByteArray} {maxL : Nat} {ret : Option FieldType}
    (hown : s.vm.findClass own = some m.cls) (hlink : (Cond.methodLinkNest own index y host).before args s = true) (hinst : (Cond.instanceMethod y).before args s = true) (hsel : (Cond.selects C y y).before args s = true)
    (hcode : (Cond.code y bytes maxL ret).before args s = true) (hy : y.cls ≠ "java/lang/invoke/MethodHandle" ∧ y.cls ≠ "java/lang/invoke/VarHandle")
    {W : Nat} {Pre : Pt → Array Value → Prop} {Post : Pt → Array Value → Option Value → Pt → Prop} {PostX : Pt → Array Value → Addr → Pt → Prop} (hK : vx_Back l R p e below s args y 3 W Pre Post PostX)
    {b : Addr} {cellB : Cell} (hcell : T.heap[b]? = some cellB) (hobj : cellB.vm.isStatics = false) (hcls : s.vm.findClass C = some cellB.cls)
    {g : JFrame} (hg : g.method = m) (hsize : g.locals.size = c.maxLocals) {argsL rest : List Value} (hlen : ∀ sig, parseMethodDescriptor y.desc = some sig → argsL.length = sig.parameters.length)
    (hstack : g.stack = argsL.reverse ++ .ref b :: rest) (hW : 2 * g.monitorRoom + (rest.map fun v => v.category).sum ≤ W) (hdg : decode c.code g.pc = .ok (.invokevirtual index, 3))
    (hpre : ∀ vm₁, s.WarmedH vm₁ → Pre ⟨T.setVm vm₁, locs, cells, slots⟩ (Value.ref b :: argsL).toArray) :
    (∃ (v : Option Value) (vm₁ : Vm) (B : Pt), s.WarmedH vm₁ ∧ Stand p l e R s m args below meth c B.U B.locs B.cells B.slots ∧ Post ⟨T.setVm vm₁, locs, cells, slots⟩ (Value.ref b :: argsL).toArray v B ∧
      ∀ target, Steps p.tables e below (B.U.setTop { g with pc := g.pc + 3, stack := v.toList ++ rest }) target → Steps p.tables e below (T.setTop g) target) ∨
    (∃ (q : Addr) (vm₁ : Vm) (B : Pt), s.WarmedH vm₁ ∧ Stand p l e R s m args below meth c B.U B.locs B.cells B.slots ∧ PostX ⟨T.setVm vm₁, locs, cells, slots⟩ (Value.ref b :: argsL).toArray q B ∧
      Steps p.tables e below (T.setTop g) ((B.U.setTop { g with stack := rest }).pushFrame (.throwing q))) := by
  obtain ⟨mk, methM, hnamed, hmethM, hstM, habM⟩ := Cond.instanceMethod_spec hinst
  obtain ⟨methM', cM, hmethM', -, -, -, -, -, -, hsigM⟩ := Cond.code_spec hnamed hcode
  cases hmethM.symm.trans hmethM'
  obtain ⟨c2, r2, m2, q1, q2, q3, q4, kP, hkP, hkPi⟩ := Cond.selects_spec hsel
  cases hcls.symm.trans q1
  cases (State.methodFound?_of_named hnamed hy).symm.trans q2
  cases hnamed.symm.trans q3
  have hselP : selectMethod e.platform s.vm cellB.cls mk = .method mk := by rw [Launch.admits_selectMethod X.admits]; exact q4
  obtain ⟨vm₁, X₁, hstep₁⟩ := X.invokevirtualNest hexec hown hlink hnamed hmethM hstM hkP hkPi hy (a := b) (cell := cellB) hcell
    (fun z h => by rw [h] at hobj; cases hobj) hselP hmethM habM hkP hkPi (g := g) hg (argsL := argsL) (rest := rest) (hlen _ hsigM) hstack hdg
  rcases hK m meth c ⟨T.setVm vm₁, locs, cells, slots⟩ { g with stack := rest } (.invokevirtual index) mk (Value.ref b :: argsL).toArray X₁ hg hsize hdg hW (X₁.named hnamed) (hpre vm₁ X₁.warmed) with ⟨v, B, X', hpost, hsteps⟩ | ⟨q, B, X', hpost, hsteps⟩
  · exact Or.inl ⟨v, vm₁, B, X₁.warmed, X', hpost, fun target h => hstep₁ _ fun acts => by rw [doInvoke_state]; exact hsteps.trans h⟩
  · exact Or.inr ⟨q, vm₁, B, X₁.warmed, X', hpost, hstep₁ _ fun acts => by rw [doInvoke_state]; exact hsteps⟩
theorem vx_callSN (X : Stand p l e R s m args below meth c T locs cells slots) (hexec : p.tables.exec = Jvm.exec) {own : String} {index : Nat} {host : String} {y : MethodName} {bytes : ByteArray} {maxL : Nat} {ret : Option FieldType}
    (hown : s.vm.findClass own = some m.cls) (hlink : (Cond.methodLinkNest own index y host).before args s = true) (hstat : (Cond.static y).before args s = true) (hinit : (Cond.initialized y.cls).before args s = true)
    (hcode : (Cond.code y bytes maxL ret).before args s = true) (hy : y.cls ≠ "java/lang/invoke/MethodHandle" ∧ y.cls ≠ "java/lang/invoke/VarHandle")
    {W : Nat} {Pre : Pt → Array Value → Prop} {Post : Pt → Array Value → Option Value → Pt → Prop} {PostX : Pt → Array Value → Addr → Pt → Prop} (hK : vx_Back l R p e below s args y 3 W Pre Post PostX)
    {g : JFrame} (hg : g.method = m) (hsize : g.locals.size = c.maxLocals) {argsL rest : List Value} (hlen : ∀ sig, parseMethodDescriptor y.desc = some sig → argsL.length = sig.parameters.length)
    (hstack : g.stack = argsL.reverse ++ rest) (hW : 2 * g.monitorRoom + (rest.map fun v => v.category).sum ≤ W) (hdg : decode c.code g.pc = .ok (.invokestatic index, 3))
    (hpre : ∀ vm₁, s.WarmedH vm₁ → Pre ⟨T.setVm vm₁, locs, cells, slots⟩ argsL.toArray) :
    (∃ (v : Option Value) (vm₁ : Vm) (B : Pt), s.WarmedH vm₁ ∧ Stand p l e R s m args below meth c B.U B.locs B.cells B.slots ∧ Post ⟨T.setVm vm₁, locs, cells, slots⟩ argsL.toArray v B ∧
      ∀ target, Steps p.tables e below (B.U.setTop { g with pc := g.pc + 3, stack := v.toList ++ rest }) target → Steps p.tables e below (T.setTop g) target) ∨
    (∃ (q : Addr) (vm₁ : Vm) (B : Pt), s.WarmedH vm₁ ∧ Stand p l e R s m args below meth c B.U B.locs B.cells B.slots ∧ PostX ⟨T.setVm vm₁, locs, cells, slots⟩ argsL.toArray q B ∧
      Steps p.tables e below (T.setTop g) ((B.U.setTop { g with stack := rest }).pushFrame (.throwing q))) := by
  obtain ⟨mk, hnamed⟩ := Cond.code_named hcode
  obtain ⟨methM, cM, hmethM, -, -, -, -, -, -, hsigM⟩ := Cond.code_spec hnamed hcode
  have hstatic : methM.isStatic = true := Cond.static_spec hnamed hmethM hstat
  obtain ⟨kP, hkP, -⟩ := className_of_methodNamed hnamed
  have hinitP : kP.init = .initialized := Cond.initialized_spec (findClass_of_methodNamed hnamed) hkP hinit
  obtain ⟨vm₁, X₁, hstep₁⟩ := X.invokestaticNest hexec hown hlink hnamed hmethM hstatic hkP hinitP hy (g := g) hg (argsL := argsL) (rest := rest) (hlen _ hsigM) hstack hdg
  rcases hK m meth c ⟨T.setVm vm₁, locs, cells, slots⟩ { g with stack := rest } (.invokestatic index) mk argsL.toArray X₁ hg hsize hdg hW (X₁.named hnamed) (hpre vm₁ X₁.warmed) with ⟨v, B, X', hpost, hsteps⟩ | ⟨q, B, X', hpost, hsteps⟩
  · exact Or.inl ⟨v, vm₁, B, X₁.warmed, X', hpost, fun target h => hstep₁ _ fun acts => by rw [doInvoke_state]; exact hsteps.trans h⟩
  · exact Or.inr ⟨q, vm₁, B, X₁.warmed, X', hpost, hstep₁ _ fun acts => by rw [doInvoke_state]; exact hsteps⟩
theorem vx_runVN {y : MethodName} {bytes cc : ByteArray} {maxL nL mc ms n index : Nat} {ret : Option FieldType} {ws : List Cond} {rm : Room} {Pc : Array Value → State → Prop} {Qc : Array Value → State → Outcome → State → Prop} {XC : String → State → State → Prop} {free : Addr → Prop} {Ts : List Cond} {own C host : String} {b : Addr} {As rest : List Value} {g : JFrame}
    (S : CallFix p m c cc nL s args Ts own) (hM : vx_Met l y ws rm Pc Qc XC mc ms free) (cw : va_CN R s args own index y host bytes maxL ret ws rm mc ms n ∧ (Cond.instanceMethod y).before args s = true ∧ (Cond.selects C y y).before args s = true) (hp : PreV s H C b Pc As)
    (hg : g.method = m) (hn : As.length = n) (hsize : g.locals.size = nL) (hstack : g.stack = As.reverse ++ .ref b :: rest) (hW : 2 * g.monitorRoom + (rest.map fun v => v.category).sum ≤ 8) (hdg : decode cc g.pc = .ok (.invokevirtual index, 3)) (hf : cells + mc ≤ R.cells ∧ slots + ms ≤ R.slots) :
    vx_Run p l e R s m args below meth c H locs cells slots mc ms g rest (Qc (Value.ref b :: As).toArray) XC free := by
  obtain ⟨⟨⟨hrc, hrs, hfr, hlo, hws, hcw⟩, hcode, hini, hy, hlen, hl⟩, hx1, hx2⟩ := cw
  have hK : vx_Back l R p e below s args y 3 8 (PreOf R mc ms Pc) (PostOf Qc mc ms free) (vx_Post XC mc ms free) := vx_back (bytes := bytes) (maxL := maxL) (ret := ret) hM hp.1 hrc hrs hfr hlo hws hcw (fun a' U hW => word_at hW (Or.inl (by first | rfl | simp [Cond.onTables, Cond.keeps, Cond.steady])) hini)
  obtain ⟨hx, hb, hml, ho, -⟩ := S
  obtain ⟨-, ⟨cellB, hcB, hoB, hclB⟩, hPc⟩ := hp
  intro T hT X
  rcases vx_callVN X hx (C := C) (bytes := bytes) (maxL := maxL) (ret := ret) ho hl hx1 hx2 hcode hy hK (by rw [hT]; exact hcB) hoB hclB hg (hsize.trans hml.symm) (argsL := As) (rest := rest) (fun sig h => hn.trans (hlen sig h)) hstack hW (by rw [hb]; exact hdg)
    (fun vm₁ hW₁ => ⟨hf.1, hf.2, hPc (T.setVm vm₁) hT hW₁⟩) with ⟨v, vm₁, ⟨U', l2, c2, s2⟩, hW₁, X', ⟨g', mk, t, L, e1, e2, hq, h1, hL, h2, h3⟩, st⟩ | ⟨q, vm₁, ⟨U', l2, c2, s2⟩, hW₁, X', ⟨g', mk, t, L, E, ce, e1, e2, hq, hce, hcv, hcl, h1, hL, h2, h3⟩, st⟩
  · dsimp only [Pt.U, Pt.locs, Pt.cells, Pt.slots] at X' e1 e2 h1 h2 h3 st
    subst h1; subst h2; subst h3
    exact Or.inl ⟨v, (T.setVm vm₁).calling g' mk (Value.ref b :: As).toArray, t, U', L, hT, X', hL, e1, e2, hq, st⟩
  · dsimp only [Pt.U, Pt.locs, Pt.cells, Pt.slots] at X' e1 e2 h1 h2 h3 st hcl
    subst h1; subst h2; subst h3
    exact Or.inr ⟨q, (T.setVm vm₁).calling g' mk (Value.ref b :: As).toArray, t, U', L, E, ce, hT, X', hL, e1, e2, hq, hce, hcv, vx_cls hW₁ hcl, st⟩
theorem vx_runSN {y : MethodName} {bytes cc : ByteArray} {maxL nL mc ms n index : Nat} {ret : Option FieldType} {ws : List Cond} {rm : Room} {Pc : Array Value → State → Prop} {Qc : Array Value → State → Outcome → State → Prop} {XC : String → State → State → Prop} {free : Addr → Prop} {Ts : List Cond} {own host : String} {As rest : List Value} {g : JFrame}
    (S : CallFix p m c cc nL s args Ts own) (hM : vx_Met l y ws rm Pc Qc XC mc ms free) (cw : va_CN R s args own index y host bytes maxL ret ws rm mc ms n ∧ (Cond.static y).before args s = true ∧ True) (hp : PreS s H Pc As)
    (hg : g.method = m) (hn : As.length = n) (hsize : g.locals.size = nL) (hstack : g.stack = As.reverse ++ rest) (hW : 2 * g.monitorRoom + (rest.map fun v => v.category).sum ≤ 8) (hdg : decode cc g.pc = .ok (.invokestatic index, 3)) (hf : cells + mc ≤ R.cells ∧ slots + ms ≤ R.slots) :
    vx_Run p l e R s m args below meth c H locs cells slots mc ms g rest (Qc As.toArray) XC free := by
  obtain ⟨⟨⟨hrc, hrs, hfr, hlo, hws, hcw⟩, hcode, hini, hy, hlen, hl⟩, hx1, hx2⟩ := cw
  have hK : vx_Back l R p e below s args y 3 8 (PreOf R mc ms Pc) (PostOf Qc mc ms free) (vx_Post XC mc ms free) := vx_back (bytes := bytes) (maxL := maxL) (ret := ret) hM hp.1 hrc hrs hfr hlo hws hcw (fun a' U hW => word_at hW (Or.inl (by first | rfl | simp [Cond.onTables, Cond.keeps, Cond.steady])) hini)
  obtain ⟨hx, hb, hml, ho, -⟩ := S
  have hPc := hp.2
  intro T hT X
  rcases vx_callSN X hx (bytes := bytes) (maxL := maxL) (ret := ret) ho hl hx1 hini hcode hy hK hg (hsize.trans hml.symm) (argsL := As) (rest := rest) (fun sig h => hn.trans (hlen sig h)) hstack hW (by rw [hb]; exact hdg)
    (fun vm₁ hW₁ => ⟨hf.1, hf.2, hPc (T.setVm vm₁) hT hW₁⟩) with ⟨v, vm₁, ⟨U', l2, c2, s2⟩, hW₁, X', ⟨g', mk, t, L, e1, e2, hq, h1, hL, h2, h3⟩, st⟩ | ⟨q, vm₁, ⟨U', l2, c2, s2⟩, hW₁, X', ⟨g', mk, t, L, E, ce, e1, e2, hq, hce, hcv, hcl, h1, hL, h2, h3⟩, st⟩
  · dsimp only [Pt.U, Pt.locs, Pt.cells, Pt.slots] at X' e1 e2 h1 h2 h3 st
    subst h1; subst h2; subst h3
    exact Or.inl ⟨v, (T.setVm vm₁).calling g' mk As.toArray, t, U', L, hT, X', hL, e1, e2, hq, st⟩
  · dsimp only [Pt.U, Pt.locs, Pt.cells, Pt.slots] at X' e1 e2 h1 h2 h3 st hcl
    subst h1; subst h2; subst h3
    exact Or.inr ⟨q, (T.setVm vm₁).calling g' mk As.toArray, t, U', L, E, ce, hT, X', hL, e1, e2, hq, hce, hcv, vx_cls hW₁ hcl, st⟩
end
/-! ===== END ===== -/
end
section
/-! THE SMALL MACHINE: the bytecode's steps over whole numbers (conc: Int32.ofInt), objects by number, the heap as a function of object and place; a step is a predicate transformer. -/
abbrev mm_V : Type := Int ⊕ (Int ⊕ (Nat ⊕ Nat))
abbrev mm_I (x : Int) : mm_V := Sum.inl x
abbrev mm_L (x : Int) : mm_V := Sum.inr (Sum.inl x)
abbrev mm_R (x : Nat) : mm_V := Sum.inr (Sum.inr (Sum.inl x))
abbrev mm_X (x : Nat) : mm_V := Sum.inr (Sum.inr (Sum.inr x))
abbrev mm_M : Type := Nat → Nat → Int
abbrev mm_Ls : Type := List (Option mm_V)
abbrev mm_O : Type := Option mm_V ⊕ Nat
abbrev mm_Q : Type := mm_O → mm_M → List Nat → Prop
abbrev mm_S : Type := List mm_V → mm_M → List Nat → mm_Q → Prop
abbrev mm_K : Type := mm_Ls → List mm_V → mm_M → List Nat → Nat → Prop
abbrev mm_E : Type := Nat × Instr × Nat
/-- a call of the pool: how (0 virtual, 1 static), how many values, the receiver's kind, what it does, its room -/
abbrev mm_Ca : Type := Nat × Nat × Nat × mm_S × Nat
def mm_nth {α : Type} : List α → Nat → Option α
  | [], _ => none
  | a :: _, 0 => some a
  | _ :: l, n + 1 => mm_nth l n
def mm_set {α : Type} : List α → Nat → α → List α
  | [], _, _ => []
  | _ :: l, 0, x => x :: l
  | a :: l, n + 1, x => a :: mm_set l n x
def mm_isL : Option (Option mm_V) → Bool
  | some (some (.inr (.inl _))) => true
  | _ => false
/-- a place may be stored to: it is there, and isn't a long's second half that is alive -/
def mm_ok : mm_Ls → Nat → Bool
  | [], _ => false
  | _ :: _, 0 => true
  | a :: l, n + 1 => (match n with | 0 => !(mm_isL (some a)) | _ => true) && mm_ok l n
def mm_cat : mm_V → Nat
  | .inr (.inl _) => 2
  | _ => 1
def mm_cats : List mm_V → Nat
  | [] => 0
  | v :: l => mm_cat v + mm_cats l
def InI (x : Int) : Prop := -2147483648 ≤ x ∧ x < 2147483648
def InL (x : Int) : Prop := -9223372036854775808 ≤ x ∧ x < 9223372036854775808
def mm_up (M : mm_M) (o k : Nat) (v : Int) : mm_M := fun o' k' => if o' = o ∧ k' = k then v else M o' k'
def mm_w (a : Int) : Int := (Int32.ofInt a).toInt
def mm_and (a b : Int) : Int := (Int32.ofInt a &&& Int32.ofInt b).toInt
def mm_or (a b : Int) : Int := (Int32.ofInt a ||| Int32.ofInt b).toInt
def mm_xor (a b : Int) : Int := (Int32.ofInt a ^^^ Int32.ofInt b).toInt
/-- what an object is: 1 an int row, 2 the row of walks, 3 a byte row, 4 the script, 10 + n an object of class n -/
def mm_kS : List Nat := [0, 10, 11, 1, 1, 1, 1, 2, 12, 1, 12, 1, 12, 1, 12, 1, 13, 14, 1, 1, 1, 1, 1, 15, 0, 0, 0, 0, 0, 3]
def mm_nS : List Nat := [0, 0, 0, 30, 30, 10, 10, 3, 0, 30, 0, 30, 0, 30, 0, 30, 0, 0, 30, 30, 120, 4, 4, 0, 0, 0, 0, 0, 0, 1]
def mm_kd (M : mm_M) (o : Nat) : Nat := bif decide (o < 100) then (mm_nth mm_kS o).getD 0 else (M 0 (2 * o)).toNat
def mm_ln (M : mm_M) (o : Nat) : Nat := bif decide (o < 100) then (mm_nth mm_nS o).getD 0 else (M 0 (2 * o + 1)).toNat
def mm_st : List Nat := [1, 2, 3, 4, 5, 6, 7, 8, 9, 10, 11, 12, 13, 14, 15, 16, 17, 18, 19, 20, 21, 22, 23]
def mm_ids (d : List Nat) : List Nat := mm_st ++ d
def mm_is (M : mm_M) (d : List Nat) (o rc : Nat) : Prop := mm_kd M o = rc ∧ o ∈ mm_ids d
/-- ids that never change: 24, 25 the rows of digits; 28 a text of one letter, 29 its row -/
def mm_isC (M : mm_M) (d : List Nat) (o rc : Nat) : Prop := mm_kd M o = rc ∧ (o ∈ mm_ids d ∨ o = 29)
/-- a new object: nothing in it yet; a row of any content -/
def mm_nob (M : mm_M) (o k : Nat) (n : Int) : mm_M := fun x j => if x = o then 0 else if x = 0 ∧ j = 2 * o then (k : Int) else if x = 0 ∧ j = 2 * o + 1 then n else M x j
def mm_any (M : mm_M) (o : Nat) (h : Nat → Int) : mm_M := fun x j => if x = o then h j else M x j
/-- the fields of a class: what each is (0 int, 1 boolean, 2 long, 3 a reference that changes, 4 a text, 5 a fixed object, 6 a fixed object by its distance, 7 byte, 8 and 9 a text's final row and byte) -/
def mm_ft : Nat → List (Nat × Nat)
  | 10 => [(5, 2), (5, 7), (5, 14), (5, 16), (0, 0), (0, 0), (0, 0)]
  | 11 => [(5, 3), (5, 4), (5, 5), (5, 6), (0, 0), (1, 0), (0, 0), (0, 0)]
  | 12 => [(5, 2), (6, 1), (0, 0), (0, 0)]
  | 13 => [(5, 2), (3, 0), (0, 0), (0, 0), (1, 0)]
  | 14 => [(0, 0), (0, 0), (5, 18), (5, 19), (1, 0), (0, 0), (0, 0), (5, 20), (5, 21), (5, 22), (0, 0), (0, 0), (0, 0), (1, 0), (0, 0), (0, 0), (0, 0)]
  | 15 => [(2, 0), (4, 0)]
  | 16 => [(3, 0), (7, 0), (1, 0), (0, 0)]
  | 17 => [(8, 0), (9, 0), (0, 0), (1, 0)]
  | _ => []
def mm_fv (ft base o : Nat) (x : Int) : mm_V :=
  match ft with
  | 0 => mm_I x
  | 1 => mm_I x
  | 2 => mm_L x
  | 3 => mm_R x.toNat
  | 4 => if x ≤ 0 then mm_R 0 else mm_X (x - 1).toNat
  | 5 => mm_R base
  | 6 => mm_R (o + base)
  | 8 => mm_R x.toNat
  | _ => mm_I x
def mm_pf (ft : Nat) (v : mm_V) (K : Int → Prop) : Prop :=
  match ft, v with
  | 0, .inl x => K x
  | 1, .inl x => (x = 0 ∨ x = 1) ∧ K x
  | 2, .inr (.inl x) => K x
  | 3, .inr (.inr (.inl o)) => K (o : Int)
  | 4, .inr (.inr (.inr q)) => K ((q : Int) + 1)
  | 7, .inl x => x = 0 ∧ K x
  | _, _ => False
def mm_rv (st : List mm_V) (n rc : Nat) (M : mm_M) (d : List Nat) : Prop :=
  match rc with
  | 0 => True
  | 6 => match mm_nth st (n - 1) with
    | some (.inr (.inr (.inl o))) => o = 28
    | _ => False
  | rc + 1 => match mm_nth st (n - 1) with
    | some (.inr (.inr (.inl o))) => mm_is M d o (rc + 1)
    | _ => False
/-- a text's final fields, set as it is made -/
def mm_pS (n : Nat) (v : mm_V) (K : Int → Prop) : Prop :=
  match n, v with
  | 0, .inr (.inr (.inl a)) => K (a : Int)
  | 1, .inl x => x = 0 ∧ K x
  | _, _ => False
def mm_push (r : Option mm_V) (st : List mm_V) : List mm_V := match r with
  | none => st
  | some v => v :: st
def mm_isRet (rt : Nat) (i : Instr) (st : List mm_V) : Option (Option mm_V) :=
  match i, rt, st with
  | .return_, 0, [] => some none
  | .ireturn, 1, [.inl x] => some (some (mm_I x))
  | .ireturn, 2, [.inl x] => some (some (mm_I x))
  | .lreturn, 3, [.inr (.inl x)] => some (some (mm_L x))
  | .areturn, 4, [.inr (.inr v)] => some (some (.inr (.inr v)))
  | .ireturn, 5, [.inl x] => some (some (mm_I x))
  | .return_, 20, [] => some none
  | .ireturn, 21, [.inl x] => some (some (mm_I x))
  | .areturn, 24, [.inr (.inr v)] => some (some (.inr (.inr v)))
  | _, _, _ => none
def mm_bool (rt : Nat) (r : Option mm_V) : Prop := match rt, r with
  | 2, some (.inl x) => x = 0 ∨ x = 1
  | 5, some (.inl x) => x = 0
  | _, _ => True
def mm_ret (rt mu : Nat) (i : Instr) (st : List mm_V) (M : mm_M) (d : List Nat) (u : Nat) (Qr : mm_Q) : Prop :=
  match mm_isRet rt i st with
  | some r => mm_bool rt r ∧ u ≤ mu ∧ Qr (.inl r) M d
  | none => False
def mm_call (C : Nat → Option mm_Ca) (mu : Nat) (hn : Nat → Nat → Option Nat) (Qr : mm_Q) (how idx pc : Nat) (ls : mm_Ls) (st : List mm_V) (M : mm_M) (d : List Nat) (u : Nat) (Kn : mm_K) (Kj : Nat → mm_K) : Prop :=
  match C idx with
  | some (h, n, rc, sp, mu') => h = how ∧ n ≤ st.length ∧ mm_rv st n rc M d ∧ mm_cats (st.drop n) ≤ 8 ∧ u + mu' ≤ mu ∧
      sp (st.take n).reverse M d (fun o M' d' => match o with
        | .inl r => Kn ls (mm_push r (st.drop n)) M' d' (u + mu')
        | .inr k => match hn pc k with
          | none => Qr (.inr k) M' d'
          | some hpc => ∀ q : Nat, Kj hpc ls [mm_X q] M' d' (u + mu'))
  | none => False
def mm_thr (X : Nat → Nat → Nat → Option Nat) (mu : Nat) (hn : Nat → Nat → Option Nat) (Qr : mm_Q) (idx pc : Nat) (rest : List mm_E) (st : List mm_V) (M : mm_M) (d : List Nat) (u : Nat) : Prop :=
  match rest with
  | (_, .dup, _) :: (_, .ldc_w is, _) :: (_, .invokespecial ic, _) :: (_, .athrow, _) :: _ => match X idx is ic with
    | some k => st = [] ∧ u + 1 ≤ mu ∧ Qr (.inr k) M d
    | none => False
  | _ => False
/-- the row's length, of a byte row; a copy of bytes; a row's clone -/
def mm_lenJ (st : List mm_V) (M : mm_M) (d : List Nat) (K : List mm_V → Prop) : Prop := match st with
  | .inr (.inr (.inl o)) :: r => mm_isC M d o 3 ∧ mm_ln M o < 2147483648 ∧ K (mm_I (mm_ln M o : Int) :: r)
  | _ => False
def mm_copyJ (st : List mm_V) (M : mm_M) (d : List Nat) (K : List mm_V → mm_M → Prop) : Prop := match st with
  | .inl n :: .inl dp :: .inr (.inr (.inl b)) :: .inl sp :: .inr (.inr (.inl a)) :: r => mm_isC M d a 3 ∧ mm_is M d b 3 ∧ 0 ≤ n ∧ 0 ≤ sp ∧ 0 ≤ dp ∧ sp + n ≤ (mm_ln M a : Int) ∧ dp + n ≤ (mm_ln M b : Int) ∧ mm_ln M a < 2147483648 ∧ mm_ln M b < 2147483648 ∧ mm_cats r ≤ 8 ∧ ∀ h : Nat → Int, K r (mm_any M b h)
  | _ => False
def mm_cloneJ (mu : Nat) (st : List mm_V) (M : mm_M) (d : List Nat) (u : Nat) (K : List mm_V → mm_M → List Nat → Nat → Prop) : Prop := match st with
  | .inr (.inr (.inl a)) :: r => mm_is M d a 3 ∧ u + 1 + mm_ln M a / 12 ≤ mu ∧ mm_cats r ≤ 8 ∧ ∀ (o : Nat) (h : Nat → Int), 100 ≤ o → o ∉ d → K (mm_R o :: r) (mm_any (mm_nob M o 3 (mm_ln M a : Int)) o h) (d ++ [o]) (u + 1 + mm_ln M a / 12)
  | _ => False
/-- one instruction -/
def mm_op (F : Nat → Option (Nat × Nat)) (C : Nat → Option mm_Ca) (X : Nat → Nat → Nat → Option Nat) (LC : Nat → Option Int) (SC : Nat → Option (Nat × (Nat → Int32))) (rt mu : Nat) (hn : Nat → Nat → Option Nat) (Qr : mm_Q) (pc : Nat) (i : Instr) (tgt : Nat) (rest : List mm_E)
    (ls : mm_Ls) (st : List mm_V) (M : mm_M) (d : List Nat) (u : Nat) (Kn : mm_K) (Kj : Nat → mm_K) : Prop :=
  match i with
  | .iconst n => Kn ls (mm_I n :: st) M d u
  | .bipush n => (-128 ≤ n ∧ n < 128) ∧ Kn ls (mm_I n :: st) M d u
  | .sipush n => (-32768 ≤ n ∧ n < 32768) ∧ Kn ls (mm_I n :: st) M d u
  | .lconst n => Kn ls (mm_L (n.val : Int) :: st) M d u
  | .ldc2_w k => match LC k with
    | some x => Kn ls (mm_L x :: st) M d u
    | none => False
  | .aconst_null => Kn ls (mm_R 0 :: st) M d u
  | .iload n => match mm_nth ls n with
    | some (some (.inl x)) => Kn ls (mm_I x :: st) M d u
    | _ => False
  | .iload_n n => match mm_nth ls n.val with
    | some (some (.inl x)) => Kn ls (mm_I x :: st) M d u
    | _ => False
  | .lload n => match mm_nth ls n with
    | some (some (.inr (.inl x))) => Kn ls (mm_L x :: st) M d u
    | _ => False
  | .lload_n n => match mm_nth ls n.val with
    | some (some (.inr (.inl x))) => Kn ls (mm_L x :: st) M d u
    | _ => False
  | .aload n => match mm_nth ls n with
    | some (some (.inr (.inr v))) => Kn ls (.inr (.inr v) :: st) M d u
    | _ => False
  | .aload_n n => match mm_nth ls n.val with
    | some (some (.inr (.inr v))) => Kn ls (.inr (.inr v) :: st) M d u
    | _ => False
  | .istore n => match st with
    | .inl x :: r => mm_ok ls n = true ∧ Kn (mm_set ls n (some (mm_I x))) r M d u
    | _ => False
  | .istore_n n => match st with
    | .inl x :: r => mm_ok ls n.val = true ∧ Kn (mm_set ls n.val (some (mm_I x))) r M d u
    | _ => False
  | .lstore n => match st with
    | .inr (.inl x) :: r => mm_ok ls n = true ∧ n + 1 < ls.length ∧ Kn (mm_set (mm_set ls (n + 1) none) n (some (mm_L x))) r M d u
    | _ => False
  | .lstore_n n => match st with
    | .inr (.inl x) :: r => mm_ok ls n.val = true ∧ n.val + 1 < ls.length ∧ Kn (mm_set (mm_set ls (n.val + 1) none) n.val (some (mm_L x))) r M d u
    | _ => False
  | .astore n => match st with
    | .inr (.inr v) :: r => mm_ok ls n = true ∧ Kn (mm_set ls n (some (.inr (.inr v)))) r M d u
    | _ => False
  | .astore_n n => match st with
    | .inr (.inr v) :: r => mm_ok ls n.val = true ∧ Kn (mm_set ls n.val (some (.inr (.inr v)))) r M d u
    | _ => False
  | .iinc n x => match mm_nth ls n with
    | some (some (.inl y)) => mm_ok ls n = true ∧ Kn (mm_set ls n (some (mm_I (y + x)))) st M d u
    | _ => False
  | .iadd => match st with
    | .inl b :: .inl a :: r => Kn ls (mm_I (a + b) :: r) M d u
    | _ => False
  | .isub => match st with
    | .inl b :: .inl a :: r => Kn ls (mm_I (a - b) :: r) M d u
    | _ => False
  | .imul => match st with
    | .inl b :: .inl a :: r => Kn ls (mm_I (a * b) :: r) M d u
    | _ => False
  | .idiv => match st with
    | .inl b :: .inl a :: r => InI a ∧ InI b ∧ 0 < b ∧ Kn ls (mm_I (a.tdiv b) :: r) M d u
    | _ => False
  | .irem => match st with
    | .inl b :: .inl a :: r => InI a ∧ InI b ∧ 0 < b ∧ Kn ls (mm_I (a.tmod b) :: r) M d u
    | _ => False
  | .ineg => match st with
    | .inl a :: r => Kn ls (mm_I (-a) :: r) M d u
    | _ => False
  | .iand => match st with
    | .inl b :: .inl a :: r => Kn ls (mm_I (mm_and a b) :: r) M d u
    | _ => False
  | .ior => match st with
    | .inl b :: .inl a :: r => Kn ls (mm_I (mm_or a b) :: r) M d u
    | _ => False
  | .ixor => match st with
    | .inl b :: .inl a :: r => Kn ls (mm_I (mm_xor a b) :: r) M d u
    | _ => False
  | .ishl => match st with
    | .inl b :: .inl a :: r => (0 ≤ b ∧ b < 32) ∧ Kn ls (mm_I (a * 2 ^ b.toNat) :: r) M d u
    | _ => False
  | .ishr => match st with
    | .inl b :: .inl a :: r => InI a ∧ (0 ≤ b ∧ b < 32) ∧ Kn ls (mm_I (a / 2 ^ b.toNat) :: r) M d u
    | _ => False
  | .i2l => match st with
    | .inl a :: r => Kn ls (mm_L (mm_w a) :: r) M d u
    | _ => False
  | .ladd => match st with
    | .inr (.inl b) :: .inr (.inl a) :: r => Kn ls (mm_L (a + b) :: r) M d u
    | _ => False
  | .lmul => match st with
    | .inr (.inl b) :: .inr (.inl a) :: r => Kn ls (mm_L (a * b) :: r) M d u
    | _ => False
  | .lcmp => match st with
    | .inr (.inl b) :: .inr (.inl a) :: r => (a = b ∨ (InL a ∧ InL b)) ∧ Kn ls (mm_I (if a = b then 0 else if a < b then -1 else 1) :: r) M d u
    | _ => False
  | .dup => match st with
    | .inr (.inl _) :: _ => False
    | v :: r => Kn ls (v :: v :: r) M d u
    | _ => False
  | .dup2 => match st with
    | v :: w :: r => mm_cat v = 1 ∧ mm_cat w = 1 ∧ Kn ls (v :: w :: v :: w :: r) M d u
    | _ => False
  | .pop => match st with
    | .inr (.inl _) :: _ => False
    | _ :: r => Kn ls r M d u
    | _ => False
  | .pop2 => match st with
    | .inr (.inl _) :: r => Kn ls r M d u
    | _ => False
  | .goto _ => Kj tgt ls st M d u
  | .ifCond .eq _ => match st with
    | .inl a :: r => InI a ∧ (a = 0 → Kj tgt ls r M d u) ∧ (a ≠ 0 → Kn ls r M d u)
    | _ => False
  | .ifCond .ne _ => match st with
    | .inl a :: r => InI a ∧ (a ≠ 0 → Kj tgt ls r M d u) ∧ (a = 0 → Kn ls r M d u)
    | _ => False
  | .ifCond .lt _ => match st with
    | .inl a :: r => InI a ∧ (a < 0 → Kj tgt ls r M d u) ∧ (0 ≤ a → Kn ls r M d u)
    | _ => False
  | .ifCond .ge _ => match st with
    | .inl a :: r => InI a ∧ (0 ≤ a → Kj tgt ls r M d u) ∧ (a < 0 → Kn ls r M d u)
    | _ => False
  | .ifCond .gt _ => match st with
    | .inl a :: r => InI a ∧ (0 < a → Kj tgt ls r M d u) ∧ (a ≤ 0 → Kn ls r M d u)
    | _ => False
  | .ifCond .le _ => match st with
    | .inl a :: r => InI a ∧ (a ≤ 0 → Kj tgt ls r M d u) ∧ (0 < a → Kn ls r M d u)
    | _ => False
  | .if_icmp .eq _ => match st with
    | .inl b :: .inl a :: r => InI a ∧ InI b ∧ (a = b → Kj tgt ls r M d u) ∧ (a ≠ b → Kn ls r M d u)
    | _ => False
  | .if_icmp .ne _ => match st with
    | .inl b :: .inl a :: r => InI a ∧ InI b ∧ (a ≠ b → Kj tgt ls r M d u) ∧ (a = b → Kn ls r M d u)
    | _ => False
  | .if_icmp .lt _ => match st with
    | .inl b :: .inl a :: r => InI a ∧ InI b ∧ (a < b → Kj tgt ls r M d u) ∧ (b ≤ a → Kn ls r M d u)
    | _ => False
  | .if_icmp .ge _ => match st with
    | .inl b :: .inl a :: r => InI a ∧ InI b ∧ (b ≤ a → Kj tgt ls r M d u) ∧ (a < b → Kn ls r M d u)
    | _ => False
  | .if_icmp .gt _ => match st with
    | .inl b :: .inl a :: r => InI a ∧ InI b ∧ (b < a → Kj tgt ls r M d u) ∧ (a ≤ b → Kn ls r M d u)
    | _ => False
  | .if_icmp .le _ => match st with
    | .inl b :: .inl a :: r => InI a ∧ InI b ∧ (a ≤ b → Kj tgt ls r M d u) ∧ (b < a → Kn ls r M d u)
    | _ => False
  | .if_acmp .eq _ => match st with
    | .inr (.inr (.inl b)) :: .inr (.inr (.inl a)) :: r => (a = 0 ∨ a ∈ mm_ids d) ∧ (b = 0 ∨ b ∈ mm_ids d) ∧ (a = b → Kj tgt ls r M d u) ∧ (a ≠ b → Kn ls r M d u)
    | _ => False
  | .if_acmp .ne _ => match st with
    | .inr (.inr (.inl b)) :: .inr (.inr (.inl a)) :: r => (a = 0 ∨ a ∈ mm_ids d) ∧ (b = 0 ∨ b ∈ mm_ids d) ∧ (a ≠ b → Kj tgt ls r M d u) ∧ (a = b → Kn ls r M d u)
    | _ => False
  | .ifnull _ => match st with
    | .inr (.inr (.inl a)) :: r => (a = 0 → Kj tgt ls r M d u) ∧ (a ≠ 0 → Kn ls r M d u)
    | _ => False
  | .ifnonnull _ => match st with
    | .inr (.inr (.inl a)) :: r => (a ≠ 0 → Kj tgt ls r M d u) ∧ (a = 0 → Kn ls r M d u)
    | _ => False
  | .getfield k => match F k, st with
    | some (0, 92), .inr (.inr (.inl o)) :: r => o = 28 ∧ Kn ls (mm_R 29 :: r) M d u
    | some (1, 92), .inr (.inr (.inl o)) :: r => o = 28 ∧ Kn ls (mm_I 0 :: r) M d u
    | some (rc, n), .inr (.inr (.inl o)) :: r => mm_is M d o rc ∧ (match mm_nth (mm_ft rc) n with
      | some (ft, base) => Kn ls (mm_fv ft base o (M o n) :: r) M d u
      | none => False)
    | _, _ => False
  | .putfield k => match F k, st with
    | some (rc, 91), v :: .inr (.inr (.inl o)) :: r => mm_is M d o 17 ∧ mm_pS rc v (fun x => Kn ls r (mm_up M o rc x) d u)
    | some (rc, n), v :: .inr (.inr (.inl o)) :: r => mm_is M d o rc ∧ (match mm_nth (mm_ft rc) n with
      | some (ft, _) => mm_pf ft v (fun x => Kn ls r (mm_up M o n x) d u)
      | none => False)
    | _, _ => False
  | .getstatic k => match F k with
    | some (0, 98) => Kn ls (mm_I 1 :: st) M d u
    | some (24, 98) => Kn ls (mm_R 24 :: st) M d u
    | some (25, 98) => Kn ls (mm_R 25 :: st) M d u
    | _ => False
  | .ldc k => match F k with
    | some (0, 97) => ∀ q : Nat, Kn ls (mm_X q :: st) M d u
    | some (28, 97) => Kn ls (mm_R 28 :: st) M d u
    | some (0, 96) => Kn ls (mm_I 2147483639 :: st) M d u
    | some (1, 96) => Kn ls (mm_I 2147483647 :: st) M d u
    | _ => False
  | .newarray .byte => match st with
    | .inl n :: r => (0 ≤ n ∧ n < 100000) ∧ u + 1 + n.toNat / 12 ≤ mu ∧ ∀ o : Nat, 100 ≤ o → o ∉ d → Kn ls (mm_R o :: r) (mm_nob M o 3 n) (d ++ [o]) (u + 1 + n.toNat / 12)
    | _ => False
  | .baload => match st with
    | .inl a :: .inr (.inr (.inl o)) :: r => (o = 24 ∨ o = 25) ∧ (0 ≤ a ∧ a < 100) ∧ ∀ x : Int, Kn ls (mm_I x :: r) M d u
    | _ => False
  | .bastore => match st with
    | .inl x :: .inl a :: .inr (.inr (.inl o)) :: r => mm_is M d o 3 ∧ (0 ≤ a ∧ a < (mm_ln M o : Int)) ∧ mm_ln M o < 2147483648 ∧ Kn ls r (mm_up M o a.toNat x) d u
    | _ => False
  | .i2b => match st with
    | .inl _ :: r => ∀ x : Int, Kn ls (mm_I x :: r) M d u
    | _ => False
  | .dup_x1 => match st with
    | v :: w :: r => mm_cat v = 1 ∧ mm_cat w = 1 ∧ Kn ls (v :: w :: v :: r) M d u
    | _ => False
  | .checkcast k => match F k, st with
    | some (0, 93), .inr (.inr (.inl o)) :: r => mm_is M d o 3 ∧ Kn ls (mm_R o :: r) M d u
    | _, _ => False
  | .invokespecial k => match F k, st with
    | some (0, 90), .inr (.inr (.inl o)) :: r => o ≠ 0 ∧ mm_cats r ≤ 8 ∧ Kn ls r M d u
    | _, _ => mm_call C mu hn Qr 2 k pc ls st M d u Kn Kj
  | .iaload => match st with
    | .inl a :: .inr (.inr (.inr q)) :: r => (match SC q with
      | some (n, xs) => (0 ≤ a ∧ a < (n : Int)) ∧ n < 2147483648 ∧ Kn ls (mm_I (xs a.toNat).toInt :: r) M d u
      | none => False)
    | .inl a :: .inr (.inr (.inl o)) :: r => mm_is M d o 1 ∧ (0 ≤ a ∧ a < (mm_ln M o : Int)) ∧ mm_ln M o < 2147483648 ∧ Kn ls (mm_I (M o a.toNat) :: r) M d u
    | _ => False
  | .iastore => match st with
    | .inl x :: .inl a :: .inr (.inr (.inl o)) :: r => mm_is M d o 1 ∧ (0 ≤ a ∧ a < (mm_ln M o : Int)) ∧ mm_ln M o < 2147483648 ∧ Kn ls r (mm_up M o a.toNat x) d u
    | _ => False
  | .aaload => match st with
    | .inl a :: .inr (.inr (.inl o)) :: r => mm_is M d o 2 ∧ (0 ≤ a ∧ a < (mm_ln M o : Int)) ∧ mm_ln M o < 2147483648 ∧ Kn ls (mm_R (8 + 2 * a.toNat) :: r) M d u
    | _ => False
  | .arraylength => match rt with
    | 20 => mm_lenJ st M d (fun st' => Kn ls st' M d u)
    | 21 => mm_lenJ st M d (fun st' => Kn ls st' M d u)
    | 24 => mm_lenJ st M d (fun st' => Kn ls st' M d u)
    | _ => match st with
    | .inr (.inr (.inr q)) :: r => (match SC q with
      | some (n, _) => n < 2147483648 ∧ Kn ls (mm_I (n : Int) :: r) M d u
      | none => False)
    | .inr (.inr (.inl o)) :: r => (mm_is M d o 1 ∨ mm_is M d o 2) ∧ mm_ln M o < 2147483648 ∧ Kn ls (mm_I (mm_ln M o : Int) :: r) M d u
    | _ => False
  | .invokevirtual k => match rt with
    | 24 => match F k with
      | some (0, 94) => mm_cloneJ mu st M d u (fun st' M' d' u' => Kn ls st' M' d' u')
      | _ => mm_call C mu hn Qr 0 k pc ls st M d u Kn Kj
    | _ => mm_call C mu hn Qr 0 k pc ls st M d u Kn Kj
  | .invokestatic k => match rt with
    | 24 => match F k with
      | some (0, 95) => mm_copyJ st M d (fun st' M' => Kn ls st' M' d u)
      | _ => mm_call C mu hn Qr 1 k pc ls st M d u Kn Kj
    | 20 => match F k with
      | some (0, 95) => mm_copyJ st M d (fun st' M' => Kn ls st' M' d u)
      | _ => mm_call C mu hn Qr 1 k pc ls st M d u Kn Kj
    | _ => mm_call C mu hn Qr 1 k pc ls st M d u Kn Kj
  | .new k => match F k with
    | some (rc, 99) => (rc = 16 ∨ rc = 17) ∧ u + 1 ≤ mu ∧ ∀ o : Nat, 100 ≤ o → o ∉ d → Kn ls (mm_R o :: st) (mm_nob M o rc 0) (d ++ [o]) (u + 1)
    | _ => mm_thr X mu hn Qr k pc rest st M d u
  | .return_ => mm_ret rt mu .return_ st M d u Qr
  | .ireturn => mm_ret rt mu .ireturn st M d u Qr
  | .lreturn => mm_ret rt mu .lreturn st M d u Qr
  | .areturn => mm_ret rt mu .areturn st M d u Qr
  | _ => False
/-- an instruction's length -/
def mm_len : Instr → Nat
  | .bipush _ => 2
  | .ldc _ => 2
  | .iload _ => 2
  | .lload _ => 2
  | .aload _ => 2
  | .istore _ => 2
  | .lstore _ => 2
  | .astore _ => 2
  | .newarray _ => 2
  | .sipush _ => 3
  | .ldc_w _ => 3
  | .ldc2_w _ => 3
  | .iinc _ _ => 3
  | .getfield _ => 3
  | .putfield _ => 3
  | .getstatic _ => 3
  | .invokevirtual _ => 3
  | .invokestatic _ => 3
  | .invokespecial _ => 3
  | .new _ => 3
  | .anewarray _ => 3
  | .checkcast _ => 3
  | .goto _ => 3
  | .ifCond _ _ => 3
  | .if_icmp _ _ => 3
  | .if_acmp _ _ => 3
  | .ifnull _ => 3
  | .ifnonnull _ => 3
  | _ => 1
def mm_tg (pc : Nat) (i : Instr) (t : Nat) : Bool :=
  match i with
  | .goto o => (pc : Int) + o == (t : Int)
  | .ifCond _ o => (pc : Int) + o == (t : Int)
  | .if_icmp _ o => (pc : Int) + o == (t : Int)
  | .if_acmp _ o => (pc : Int) + o == (t : Int)
  | .ifnull o => (pc : Int) + o == (t : Int)
  | .ifnonnull o => (pc : Int) + o == (t : Int)
  | _ => true
def mm_nx (pc : Nat) : List mm_E → Bool
  | [] => true
  | (q, _, _) :: _ => q == pc
/-- the list is the code -/
def mm_chk (b : ByteArray) : List mm_E → Bool
  | [] => true
  | (pc, i, t) :: r => decide (decode b pc = .ok (i, mm_len i)) && (mm_tg pc i t && (mm_nx (pc + mm_len i) r && mm_chk b r))
/-- the rest of the code from a place on -/
def mm_at (t : Nat) : List mm_E → List mm_E
  | [] => []
  | q :: r => bif q.1 == t then q :: r else mm_at t r
end
section
/-! names, by program out of claim/NAMES.whole.lean.txt -/
def RX0 : String := "Allstreets$Cursor"
def TX0 : u_T := fun k => match k with
  | 0 => ("Allstreets$Cursor", "town", "LAllstreets$Town;", true)
  | 1 => ("Allstreets$Cursor", "walk", "LAllstreets$Walk;", false)
  | 2 => ("Allstreets$Cursor", "place", "I", false)
  | 3 => ("Allstreets$Cursor", "told", "I", false)
  | _ => ("Allstreets$Cursor", "isLost", "Z", false)
def tyX0 : Nat → FieldType := fun k => match k with
  | 0 => .object "Allstreets$Town"
  | 1 => .object "Allstreets$Walk"
  | 2 => .int
  | 3 => .int
  | _ => .boolean
theorem nmX0 : ∀ a, a < 5 → ∀ b, b < 5 → a ≠ b → (TX0 a).2.1 ≠ (TX0 b).2.1 := by decide +kernel
theorem tyX0_ok : ∀ k, k < 5 → parseFieldDescriptor (TX0 k).2.2.1 = some (tyX0 k) := by decide +kernel
def RX1 : String := "Allstreets$Town"
def TX1 : u_T := fun k => match k with
  | 0 => ("Allstreets$Town", "froms", "[I", true)
  | 1 => ("Allstreets$Town", "tos", "[I", true)
  | 2 => ("Allstreets$Town", "outs", "[I", true)
  | 3 => ("Allstreets$Town", "ins", "[I", true)
  | 4 => ("Allstreets$Town", "count", "I", false)
  | 5 => ("Allstreets$Town", "oneWayOnly", "Z", false)
  | 6 => ("Allstreets$Town", "signs", "I", false)
  | _ => ("Allstreets$Town", "wordLength", "I", false)
def tyX1 : Nat → FieldType := fun k => match k with
  | 0 => .array .int
  | 1 => .array .int
  | 2 => .array .int
  | 3 => .array .int
  | 4 => .int
  | 5 => .boolean
  | 6 => .int
  | _ => .int
theorem nmX1 : ∀ a, a < 8 → ∀ b, b < 8 → a ≠ b → (TX1 a).2.1 ≠ (TX1 b).2.1 := by decide +kernel
theorem tyX1_ok : ∀ k, k < 8 → parseFieldDescriptor (TX1 k).2.2.1 = some (tyX1 k) := by decide +kernel
def RX2 : String := "Allstreets$Walk"
def TX2 : u_T := fun k => match k with
  | 0 => ("Allstreets$Walk", "town", "LAllstreets$Town;", true)
  | 1 => ("Allstreets$Walk", "steps", "[I", true)
  | 2 => ("Allstreets$Walk", "count", "I", false)
  | _ => ("Allstreets$Walk", "start", "I", false)
def tyX2 : Nat → FieldType := fun k => match k with
  | 0 => .object "Allstreets$Town"
  | 1 => .array .int
  | 2 => .int
  | _ => .int
theorem nmX2 : ∀ a, a < 4 → ∀ b, b < 4 → a ≠ b → (TX2 a).2.1 ≠ (TX2 b).2.1 := by decide +kernel
theorem tyX2_ok : ∀ k, k < 4 → parseFieldDescriptor (TX2 k).2.2.1 = some (tyX2 k) := by decide +kernel
def RX3 : String := "Allstreets"
def TX3 : u_T := fun k => match k with
  | 0 => ("Allstreets", "town", "LAllstreets$Town;", true)
  | 1 => ("Allstreets", "walks", "[LAllstreets$Walk;", true)
  | 2 => ("Allstreets", "trial", "LAllstreets$Walk;", true)
  | 3 => ("Allstreets", "pointer", "LAllstreets$Cursor;", true)
  | 4 => ("Allstreets", "acts", "I", false)
  | 5 => ("Allstreets", "refusals", "I", false)
  | _ => ("Allstreets", "knocks", "I", false)
def tyX3 : Nat → FieldType := fun k => match k with
  | 0 => .object "Allstreets$Town"
  | 1 => .array (.object "Allstreets$Walk")
  | 2 => .object "Allstreets$Walk"
  | 3 => .object "Allstreets$Cursor"
  | 4 => .int
  | 5 => .int
  | _ => .int
theorem nmX3 : ∀ a, a < 7 → ∀ b, b < 7 → a ≠ b → (TX3 a).2.1 ≠ (TX3 b).2.1 := by decide +kernel
theorem tyX3_ok : ∀ k, k < 7 → parseFieldDescriptor (TX3 k).2.2.1 = some (tyX3 k) := by decide +kernel
def RX4 : String := "AllstreetsLaw$Out"
def TX4 : u_T := fun k => match k with
  | 0 => ("AllstreetsLaw$Out", "n", "J", false)
  | _ => ("AllstreetsLaw$Out", "s", "Ljava/lang/String;", false)
def tyX4 : Nat → FieldType := fun k => match k with
  | 0 => .long
  | _ => .object "java/lang/String"
theorem nmX4 : ∀ a, a < 2 → ∀ b, b < 2 → a ≠ b → (TX4 a).2.1 ≠ (TX4 b).2.1 := by decide +kernel
theorem tyX4_ok : ∀ k, k < 2 → parseFieldDescriptor (TX4 k).2.2.1 = some (tyX4 k) := by decide +kernel
def RX5 : String := "AllstreetsModel"
def TX5 : u_T := fun k => match k with
  | 0 => ("AllstreetsModel", "thrown", "I", false)
  | 1 => ("AllstreetsModel", "streets", "I", false)
  | 2 => ("AllstreetsModel", "froms", "[I", true)
  | 3 => ("AllstreetsModel", "tos", "[I", true)
  | 4 => ("AllstreetsModel", "isOneWay", "Z", false)
  | 5 => ("AllstreetsModel", "signs", "I", false)
  | 6 => ("AllstreetsModel", "wordLength", "I", false)
  | 7 => ("AllstreetsModel", "steps", "[I", true)
  | 8 => ("AllstreetsModel", "lengths", "[I", true)
  | 9 => ("AllstreetsModel", "begins", "[I", true)
  | 10 => ("AllstreetsModel", "looked", "I", false)
  | 11 => ("AllstreetsModel", "place", "I", false)
  | 12 => ("AllstreetsModel", "told", "I", false)
  | 13 => ("AllstreetsModel", "isLost", "Z", false)
  | 14 => ("AllstreetsModel", "acts", "I", false)
  | 15 => ("AllstreetsModel", "undone", "I", false)
  | _ => ("AllstreetsModel", "knocks", "I", false)
def tyX5 : Nat → FieldType := fun k => match k with
  | 0 => .int
  | 1 => .int
  | 2 => .array .int
  | 3 => .array .int
  | 4 => .boolean
  | 5 => .int
  | 6 => .int
  | 7 => .array .int
  | 8 => .array .int
  | 9 => .array .int
  | 10 => .int
  | 11 => .int
  | 12 => .int
  | 13 => .boolean
  | 14 => .int
  | 15 => .int
  | _ => .int
theorem nmX5 : ∀ a, a < 17 → ∀ b, b < 17 → a ≠ b → (TX5 a).2.1 ≠ (TX5 b).2.1 := by decide +kernel
theorem tyX5_ok : ∀ k, k < 17 → parseFieldDescriptor (TX5 k).2.2.1 = some (tyX5 k) := by decide +kernel
def RL : String := "AllstreetsLaw"
abbrev cX0_init : ByteArray := prog_2_method_1_code
def yX0_init : MethodName := ⟨RX0, "<init>", "(LAllstreets$Town;)V"⟩
abbrev cX0_standOn : ByteArray := prog_2_method_2_code
def yX0_standOn : MethodName := ⟨RX0, "standOn", "(LAllstreets$Walk;I)V"⟩
abbrev cX0_vanish : ByteArray := prog_2_method_3_code
def yX0_vanish : MethodName := ⟨RX0, "vanish", "()V"⟩
abbrev cX0_loseOn : ByteArray := prog_2_method_4_code
def yX0_loseOn : MethodName := ⟨RX0, "loseOn", "(LAllstreets$Walk;)V"⟩
abbrev cX0_tell : ByteArray := prog_2_method_5_code
def yX0_tell : MethodName := ⟨RX0, "tell", "(Z)I"⟩
abbrev cX0_exchangeTold : ByteArray := prog_2_method_6_code
def yX0_exchangeTold : MethodName := ⟨RX0, "exchangeTold", "(I)I"⟩
abbrev cX0_letIn : ByteArray := prog_2_method_7_code
def yX0_letIn : MethodName := ⟨RX0, "letIn", "(I)I"⟩
abbrev cX0_removeTold : ByteArray := prog_2_method_8_code
def yX0_removeTold : MethodName := ⟨RX0, "removeTold", "()I"⟩
abbrev cX0_hasStep : ByteArray := prog_2_method_9_code
def yX0_hasStep : MethodName := ⟨RX0, "hasStep", "(Z)Z"⟩
abbrev cX0_placeAsked : ByteArray := prog_2_method_10_code
def yX0_placeAsked : MethodName := ⟨RX0, "placeAsked", "(Z)I"⟩
abbrev cX1_init : ByteArray := prog_3_method_1_code
def yX1_init : MethodName := ⟨RX1, "<init>", "()V"⟩
abbrev cX1_isCorner : ByteArray := prog_3_method_2_code
def yX1_isCorner : MethodName := ⟨RX1, "isCorner", "(I)Z"⟩
abbrev cX1_size : ByteArray := prog_3_method_3_code
def yX1_size : MethodName := ⟨RX1, "size", "()I"⟩
abbrev cX1_hasRoomFor : ByteArray := prog_3_method_4_code
def yX1_hasRoomFor : MethodName := ⟨RX1, "hasRoomFor", "(I)Z"⟩
abbrev cX1_isOneWay : ByteArray := prog_3_method_5_code
def yX1_isOneWay : MethodName := ⟨RX1, "isOneWay", "()Z"⟩
abbrev cX1_setOneWay : ByteArray := prog_3_method_6_code
def yX1_setOneWay : MethodName := ⟨RX1, "setOneWay", "(Z)V"⟩
abbrev cX1_isOfWords : ByteArray := prog_3_method_7_code
def yX1_isOfWords : MethodName := ⟨RX1, "isOfWords", "()Z"⟩
abbrev cX1_signCount : ByteArray := prog_3_method_8_code
def yX1_signCount : MethodName := ⟨RX1, "signCount", "()I"⟩
abbrev cX1_wordSize : ByteArray := prog_3_method_9_code
def yX1_wordSize : MethodName := ⟨RX1, "wordSize", "()I"⟩
abbrev cX1_signOf : ByteArray := prog_3_method_10_code
def yX1_signOf : MethodName := ⟨RX1, "signOf", "(I)I"⟩
abbrev cX1_addStreet : ByteArray := prog_3_method_11_code
def yX1_addStreet : MethodName := ⟨RX1, "addStreet", "(II)V"⟩
abbrev cX1_addRing : ByteArray := prog_3_method_12_code
def yX1_addRing : MethodName := ⟨RX1, "addRing", "(II)V"⟩
abbrev cX1_becomeWords : ByteArray := prog_3_method_13_code
def yX1_becomeWords : MethodName := ⟨RX1, "becomeWords", "(II)V"⟩
abbrev cX1_endWords : ByteArray := prog_3_method_14_code
def yX1_endWords : MethodName := ⟨RX1, "endWords", "()V"⟩
abbrev cX1_dropStreet : ByteArray := prog_3_method_15_code
def yX1_dropStreet : MethodName := ⟨RX1, "dropStreet", "(I)V"⟩
abbrev cX1_dropAll : ByteArray := prog_3_method_16_code
def yX1_dropAll : MethodName := ⟨RX1, "dropAll", "()V"⟩
abbrev cX1_swapEnds : ByteArray := prog_3_method_17_code
def yX1_swapEnds : MethodName := ⟨RX1, "swapEnds", "()V"⟩
abbrev cX1_fromOf : ByteArray := prog_3_method_18_code
def yX1_fromOf : MethodName := ⟨RX1, "fromOf", "(I)I"⟩
abbrev cX1_toOf : ByteArray := prog_3_method_19_code
def yX1_toOf : MethodName := ⟨RX1, "toOf", "(I)I"⟩
abbrev cX1_isLoop : ByteArray := prog_3_method_20_code
def yX1_isLoop : MethodName := ⟨RX1, "isLoop", "(I)Z"⟩
abbrev cX1_goalOf : ByteArray := prog_3_method_21_code
def yX1_goalOf : MethodName := ⟨RX1, "goalOf", "(I)I"⟩
abbrev cX1_sourceOf : ByteArray := prog_3_method_22_code
def yX1_sourceOf : MethodName := ⟨RX1, "sourceOf", "(I)I"⟩
abbrev cX1_leaving : ByteArray := prog_3_method_23_code
def yX1_leaving : MethodName := ⟨RX1, "leaving", "(II)I"⟩
abbrev cX1_comingTo : ByteArray := prog_3_method_24_code
def yX1_comingTo : MethodName := ⟨RX1, "comingTo", "(II)I"⟩
abbrev cX1_between : ByteArray := prog_3_method_25_code
def yX1_between : MethodName := ⟨RX1, "between", "(III)I"⟩
abbrev cX1_allStreets : ByteArray := prog_3_method_26_code
def yX1_allStreets : MethodName := ⟨RX1, "allStreets", "()I"⟩
abbrev cX1_outOf : ByteArray := prog_3_method_27_code
def yX1_outOf : MethodName := ⟨RX1, "outOf", "(I)I"⟩
abbrev cX1_inOf : ByteArray := prog_3_method_28_code
def yX1_inOf : MethodName := ⟨RX1, "inOf", "(I)I"⟩
abbrev cX1_oddCount : ByteArray := prog_3_method_29_code
def yX1_oddCount : MethodName := ⟨RX1, "oddCount", "(I)I"⟩
abbrev cX1_hangTogether : ByteArray := prog_3_method_30_code
def yX1_hangTogether : MethodName := ⟨RX1, "hangTogether", "(I)Z"⟩
abbrev cX1_isStartOf : ByteArray := prog_3_method_31_code
def yX1_isStartOf : MethodName := ⟨RX1, "isStartOf", "(II)Z"⟩
abbrev cX1_leastStart : ByteArray := prog_3_method_32_code
def yX1_leastStart : MethodName := ⟨RX1, "leastStart", "()I"⟩
abbrev cX1_waysAddUp : ByteArray := prog_3_method_33_code
def yX1_waysAddUp : MethodName := ⟨RX1, "waysAddUp", "()Z"⟩
abbrev cX1_stepOn : ByteArray := prog_3_method_34_code
def yX1_stepOn : MethodName := ⟨RX1, "stepOn", "(IIZ)I"⟩
abbrev cX1_stepToWhole : ByteArray := prog_3_method_35_code
def yX1_stepToWhole : MethodName := ⟨RX1, "stepToWhole", "(IIIZ)I"⟩
abbrev cX1_reachedInOnePass : ByteArray := prog_3_method_36_code
def yX1_reachedInOnePass : MethodName := ⟨RX1, "reachedInOnePass", "(II)I"⟩
abbrev cX1_countWays : ByteArray := prog_3_method_37_code
def yX1_countWays : MethodName := ⟨RX1, "countWays", "(I)V"⟩
abbrev cX1_isOddAsCounted : ByteArray := prog_3_method_38_code
def yX1_isOddAsCounted : MethodName := ⟨RX1, "isOddAsCounted", "(I)Z"⟩
abbrev cX1_isIn : ByteArray := prog_3_method_39_code
def yX1_isIn : MethodName := ⟨RX1, "isIn", "(II)Z"⟩
abbrev cX2_init : ByteArray := prog_4_method_1_code
def yX2_init : MethodName := ⟨RX2, "<init>", "(LAllstreets$Town;)V"⟩
abbrev cX2_size : ByteArray := prog_4_method_2_code
def yX2_size : MethodName := ⟨RX2, "size", "()I"⟩
abbrev cX2_firstCorner : ByteArray := prog_4_method_3_code
def yX2_firstCorner : MethodName := ⟨RX2, "firstCorner", "()I"⟩
abbrev cX2_lastCorner : ByteArray := prog_4_method_4_code
def yX2_lastCorner : MethodName := ⟨RX2, "lastCorner", "()I"⟩
abbrev cX2_cornerOf : ByteArray := prog_4_method_5_code
def yX2_cornerOf : MethodName := ⟨RX2, "cornerOf", "(I)I"⟩
abbrev cX2_stepOf : ByteArray := prog_4_method_6_code
def yX2_stepOf : MethodName := ⟨RX2, "stepOf", "(I)I"⟩
abbrev cX2_placeOf : ByteArray := prog_4_method_7_code
def yX2_placeOf : MethodName := ⟨RX2, "placeOf", "(I)I"⟩
abbrev cX2_placeOfCorner : ByteArray := prog_4_method_8_code
def yX2_placeOfCorner : MethodName := ⟨RX2, "placeOfCorner", "(I)I"⟩
abbrev cX2_isHome : ByteArray := prog_4_method_9_code
def yX2_isHome : MethodName := ⟨RX2, "isHome", "()Z"⟩
abbrev cX2_isWhole : ByteArray := prog_4_method_10_code
def yX2_isWhole : MethodName := ⟨RX2, "isWhole", "()Z"⟩
abbrev cX2_hasBackward : ByteArray := prog_4_method_11_code
def yX2_hasBackward : MethodName := ⟨RX2, "hasBackward", "()Z"⟩
abbrev cX2_restart : ByteArray := prog_4_method_12_code
def yX2_restart : MethodName := ⟨RX2, "restart", "(I)V"⟩
abbrev cX2_renumberBehind : ByteArray := prog_4_method_13_code
def yX2_renumberBehind : MethodName := ⟨RX2, "renumberBehind", "(I)V"⟩
abbrev cX2_putIn : ByteArray := prog_4_method_14_code
def yX2_putIn : MethodName := ⟨RX2, "putIn", "(II)V"⟩
abbrev cX2_putAhead : ByteArray := prog_4_method_15_code
def yX2_putAhead : MethodName := ⟨RX2, "putAhead", "(I)V"⟩
abbrev cX2_takeOut : ByteArray := prog_4_method_16_code
def yX2_takeOut : MethodName := ⟨RX2, "takeOut", "(I)V"⟩
abbrev cX2_takeOutFirst : ByteArray := prog_4_method_17_code
def yX2_takeOutFirst : MethodName := ⟨RX2, "takeOutFirst", "()V"⟩
abbrev cX2_exchange : ByteArray := prog_4_method_18_code
def yX2_exchange : MethodName := ⟨RX2, "exchange", "(II)V"⟩
abbrev cX2_walkStreet : ByteArray := prog_4_method_19_code
def yX2_walkStreet : MethodName := ⟨RX2, "walkStreet", "(IZ)I"⟩
abbrev cX2_stepBack : ByteArray := prog_4_method_20_code
def yX2_stepBack : MethodName := ⟨RX2, "stepBack", "(Z)I"⟩
abbrev cX2_goOn : ByteArray := prog_4_method_21_code
def yX2_goOn : MethodName := ⟨RX2, "goOn", "(IZ)I"⟩
abbrev cX2_fillUp : ByteArray := prog_4_method_22_code
def yX2_fillUp : MethodName := ⟨RX2, "fillUp", "(Z)I"⟩
abbrev cX2_canTakeIn : ByteArray := prog_4_method_23_code
def yX2_canTakeIn : MethodName := ⟨RX2, "canTakeIn", "(LAllstreets$Walk;)Z"⟩
abbrev cX2_takeIn : ByteArray := prog_4_method_24_code
def yX2_takeIn : MethodName := ⟨RX2, "takeIn", "(LAllstreets$Walk;I)V"⟩
abbrev cX2_meetingPlace : ByteArray := prog_4_method_25_code
def yX2_meetingPlace : MethodName := ⟨RX2, "meetingPlace", "(LAllstreets$Walk;)I"⟩
abbrev cX2_giveOut : ByteArray := prog_4_method_26_code
def yX2_giveOut : MethodName := ⟨RX2, "giveOut", "(IILAllstreets$Walk;)V"⟩
abbrev cX2_turnOrder : ByteArray := prog_4_method_27_code
def yX2_turnOrder : MethodName := ⟨RX2, "turnOrder", "()V"⟩
abbrev cX2_turnSteps : ByteArray := prog_4_method_28_code
def yX2_turnSteps : MethodName := ⟨RX2, "turnSteps", "()V"⟩
abbrev cX2_turnBy : ByteArray := prog_4_method_29_code
def yX2_turnBy : MethodName := ⟨RX2, "turnBy", "(I)V"⟩
abbrev cX2_takeAllOf : ByteArray := prog_4_method_30_code
def yX2_takeAllOf : MethodName := ⟨RX2, "takeAllOf", "(LAllstreets$Walk;)V"⟩
abbrev cX2_fillInOrder : ByteArray := prog_4_method_31_code
def yX2_fillInOrder : MethodName := ⟨RX2, "fillInOrder", "(Z)V"⟩
abbrev cX2_becomeNeighbour : ByteArray := prog_4_method_32_code
def yX2_becomeNeighbour : MethodName := ⟨RX2, "becomeNeighbour", "(Z)I"⟩
abbrev cX2_isSameTurned : ByteArray := prog_4_method_33_code
def yX2_isSameTurned : MethodName := ⟨RX2, "isSameTurned", "(LAllstreets$Walk;I)Z"⟩
abbrev cX2_turnTo : ByteArray := prog_4_method_34_code
def yX2_turnTo : MethodName := ⟨RX2, "turnTo", "(LAllstreets$Walk;)I"⟩
abbrev cX2_placeOfWord : ByteArray := prog_4_method_35_code
def yX2_placeOfWord : MethodName := ⟨RX2, "placeOfWord", "(II)I"⟩
abbrev cX2_isTrueWalk : ByteArray := prog_4_method_36_code
def yX2_isTrueWalk : MethodName := ⟨RX2, "isTrueWalk", "()Z"⟩
abbrev cX2_leadsBack : ByteArray := prog_4_method_37_code
def yX2_leadsBack : MethodName := ⟨RX2, "leadsBack", "()Z"⟩
abbrev cX2_hasWord : ByteArray := prog_4_method_38_code
def yX2_hasWord : MethodName := ⟨RX2, "hasWord", "(II)Z"⟩
abbrev cX2_notWalked : ByteArray := prog_4_method_39_code
def yX2_notWalked : MethodName := ⟨RX2, "notWalked", "()I"⟩
abbrev cX3_init : ByteArray := prog_1_method_1_code
def yX3_init : MethodName := ⟨RX3, "<init>", "()V"⟩
abbrev cX3_lay : ByteArray := prog_1_method_2_code
def yX3_lay : MethodName := ⟨RX3, "lay", "(II)I"⟩
abbrev cX3_layRing : ByteArray := prog_1_method_3_code
def yX3_layRing : MethodName := ⟨RX3, "layRing", "(II)I"⟩
abbrev cX3_words : ByteArray := prog_1_method_4_code
def yX3_words : MethodName := ⟨RX3, "words", "(II)I"⟩
abbrev cX3_close : ByteArray := prog_1_method_5_code
def yX3_close : MethodName := ⟨RX3, "close", "(I)I"⟩
abbrev cX3_clear : ByteArray := prog_1_method_6_code
def yX3_clear : MethodName := ⟨RX3, "clear", "()I"⟩
abbrev cX3_oneWay : ByteArray := prog_1_method_7_code
def yX3_oneWay : MethodName := ⟨RX3, "oneWay", "(Z)I"⟩
abbrev cX3_turnTown : ByteArray := prog_1_method_8_code
def yX3_turnTown : MethodName := ⟨RX3, "turnTown", "()I"⟩
abbrev cX3_streets : ByteArray := prog_1_method_9_code
def yX3_streets : MethodName := ⟨RX3, "streets", "()I"⟩
abbrev cX3_end : ByteArray := prog_1_method_10_code
def yX3_end : MethodName := ⟨RX3, "end", "(IZ)I"⟩
abbrev cX3_ways : ByteArray := prog_1_method_11_code
def yX3_ways : MethodName := ⟨RX3, "ways", "(II)I"⟩
abbrev cX3_odd : ByteArray := prog_1_method_12_code
def yX3_odd : MethodName := ⟨RX3, "odd", "()I"⟩
abbrev cX3_hangs : ByteArray := prog_1_method_13_code
def yX3_hangs : MethodName := ⟨RX3, "hangs", "()Z"⟩
abbrev cX3_kind : ByteArray := prog_1_method_14_code
def yX3_kind : MethodName := ⟨RX3, "kind", "()I"⟩
abbrev cX3_isStart : ByteArray := prog_1_method_15_code
def yX3_isStart : MethodName := ⟨RX3, "isStart", "(I)Z"⟩
abbrev cX3_rule : ByteArray := prog_1_method_16_code
def yX3_rule : MethodName := ⟨RX3, "rule", "(I)I"⟩
abbrev cX3_begin : ByteArray := prog_1_method_17_code
def yX3_begin : MethodName := ⟨RX3, "begin", "(II)I"⟩
abbrev cX3_step : ByteArray := prog_1_method_18_code
def yX3_step : MethodName := ⟨RX3, "step", "(IIZ)I"⟩
abbrev cX3_back : ByteArray := prog_1_method_19_code
def yX3_back : MethodName := ⟨RX3, "back", "(IZ)I"⟩
abbrev cX3_on : ByteArray := prog_1_method_20_code
def yX3_on : MethodName := ⟨RX3, "on", "(IZ)I"⟩
abbrev cX3_complete : ByteArray := prog_1_method_21_code
def yX3_complete : MethodName := ⟨RX3, "complete", "(IZ)I"⟩
abbrev cX3_splice : ByteArray := prog_1_method_22_code
def yX3_splice : MethodName := ⟨RX3, "splice", "(III)I"⟩
abbrev cX3_join : ByteArray := prog_1_method_23_code
def yX3_join : MethodName := ⟨RX3, "join", "(II)I"⟩
abbrev cX3_cut : ByteArray := prog_1_method_24_code
def yX3_cut : MethodName := ⟨RX3, "cut", "(IIII)I"⟩
abbrev cX3_turnRound : ByteArray := prog_1_method_25_code
def yX3_turnRound : MethodName := ⟨RX3, "turnRound", "(I)I"⟩
abbrev cX3_rotate : ByteArray := prog_1_method_26_code
def yX3_rotate : MethodName := ⟨RX3, "rotate", "(II)I"⟩
abbrev cX3_first : ByteArray := prog_1_method_27_code
def yX3_first : MethodName := ⟨RX3, "first", "(IIZ)I"⟩
abbrev cX3_next : ByteArray := prog_1_method_28_code
def yX3_next : MethodName := ⟨RX3, "next", "(IZ)I"⟩
abbrev cX3_copy : ByteArray := prog_1_method_29_code
def yX3_copy : MethodName := ⟨RX3, "copy", "(II)I"⟩
abbrev cX3_length : ByteArray := prog_1_method_30_code
def yX3_length : MethodName := ⟨RX3, "length", "(I)I"⟩
abbrev cX3_cornerAt : ByteArray := prog_1_method_31_code
def yX3_cornerAt : MethodName := ⟨RX3, "cornerAt", "(II)I"⟩
abbrev cX3_stepAt : ByteArray := prog_1_method_32_code
def yX3_stepAt : MethodName := ⟨RX3, "stepAt", "(II)I"⟩
abbrev cX3_find : ByteArray := prog_1_method_33_code
def yX3_find : MethodName := ⟨RX3, "find", "(II)I"⟩
abbrev cX3_is : ByteArray := prog_1_method_34_code
def yX3_is : MethodName := ⟨RX3, "is", "(IZ)Z"⟩
abbrev cX3_same : ByteArray := prog_1_method_35_code
def yX3_same : MethodName := ⟨RX3, "same", "(II)Z"⟩
abbrev cX3_turnOf : ByteArray := prog_1_method_36_code
def yX3_turnOf : MethodName := ⟨RX3, "turnOf", "(II)I"⟩
abbrev cX3_text : ByteArray := prog_1_method_37_code
def yX3_text : MethodName := ⟨RX3, "text", "(II)Ljava/lang/String;"⟩
abbrev cX3_wordAt : ByteArray := prog_1_method_38_code
def yX3_wordAt : MethodName := ⟨RX3, "wordAt", "(III)I"⟩
abbrev cX3_cursor : ByteArray := prog_1_method_39_code
def yX3_cursor : MethodName := ⟨RX3, "cursor", "(II)I"⟩
abbrev cX3_cursorGo : ByteArray := prog_1_method_40_code
def yX3_cursorGo : MethodName := ⟨RX3, "cursorGo", "(Z)I"⟩
abbrev cX3_cursorSet : ByteArray := prog_1_method_41_code
def yX3_cursorSet : MethodName := ⟨RX3, "cursorSet", "(I)I"⟩
abbrev cX3_cursorAdd : ByteArray := prog_1_method_42_code
def yX3_cursorAdd : MethodName := ⟨RX3, "cursorAdd", "(I)I"⟩
abbrev cX3_cursorRemove : ByteArray := prog_1_method_43_code
def yX3_cursorRemove : MethodName := ⟨RX3, "cursorRemove", "()I"⟩
abbrev cX3_cursorCan : ByteArray := prog_1_method_44_code
def yX3_cursorCan : MethodName := ⟨RX3, "cursorCan", "(Z)Z"⟩
abbrev cX3_cursorPlace : ByteArray := prog_1_method_45_code
def yX3_cursorPlace : MethodName := ⟨RX3, "cursorPlace", "(Z)I"⟩
abbrev cX3_house : ByteArray := prog_1_method_46_code
def yX3_house : MethodName := ⟨RX3, "house", "(I)I"⟩
abbrev cX3_knock : ByteArray := prog_1_method_47_code
def yX3_knock : MethodName := ⟨RX3, "knock", "()I"⟩
abbrev cX3_isSound : ByteArray := prog_1_method_48_code
def yX3_isSound : MethodName := ⟨RX3, "isSound", "()Z"⟩
abbrev cX3_digest : ByteArray := prog_1_method_49_code
def yX3_digest : MethodName := ⟨RX3, "digest", "()J"⟩
abbrev cX3_counted : ByteArray := prog_1_method_50_code
def yX3_counted : MethodName := ⟨RX3, "counted", "(I)I"⟩
abbrev cX3_countedMove : ByteArray := prog_1_method_51_code
def yX3_countedMove : MethodName := ⟨RX3, "countedMove", "(LAllstreets$Walk;I)I"⟩
abbrev cX3_countedGrowth : ByteArray := prog_1_method_52_code
def yX3_countedGrowth : MethodName := ⟨RX3, "countedGrowth", "(LAllstreets$Walk;I)I"⟩
abbrev cX3_empty : ByteArray := prog_1_method_53_code
def yX3_empty : MethodName := ⟨RX3, "empty", "()V"⟩
abbrev cX3_anyIsBackward : ByteArray := prog_1_method_54_code
def yX3_anyIsBackward : MethodName := ⟨RX3, "anyIsBackward", "()Z"⟩
abbrev cX3_walkOf : ByteArray := prog_1_method_55_code
def yX3_walkOf : MethodName := ⟨RX3, "walkOf", "(I)LAllstreets$Walk;"⟩
abbrev cX3_checkCorner : ByteArray := prog_1_method_56_code
def yX3_checkCorner : MethodName := ⟨RX3, "checkCorner", "(I)V"⟩
abbrev cX3_checkStreet : ByteArray := prog_1_method_57_code
def yX3_checkStreet : MethodName := ⟨RX3, "checkStreet", "(I)V"⟩
abbrev cX3_checkIndex : ByteArray := prog_1_method_58_code
def yX3_checkIndex : MethodName := ⟨RX3, "checkIndex", "(II)V"⟩
abbrev cX3_checkRange : ByteArray := prog_1_method_59_code
def yX3_checkRange : MethodName := ⟨RX3, "checkRange", "(III)V"⟩
abbrev cX3_numberAt : ByteArray := prog_1_method_60_code
def yX3_numberAt : MethodName := ⟨RX3, "numberAt", "(LAllstreets$Walk;II)I"⟩
abbrev cX3_hasEachWordOnce : ByteArray := prog_1_method_61_code
def yX3_hasEachWordOnce : MethodName := ⟨RX3, "hasEachWordOnce", "(LAllstreets$Walk;)Z"⟩
abbrev cX3_digestOfTown : ByteArray := prog_1_method_62_code
def yX3_digestOfTown : MethodName := ⟨RX3, "digestOfTown", "(J)J"⟩
abbrev cX3_digestOfWalk : ByteArray := prog_1_method_63_code
def yX3_digestOfWalk : MethodName := ⟨RX3, "digestOfWalk", "(JI)J"⟩
abbrev cX3_mixed : ByteArray := prog_1_method_64_code
def yX3_mixed : MethodName := ⟨RX3, "mixed", "(JJ)J"⟩
abbrev cX3_numberOf : ByteArray := prog_1_method_65_code
def yX3_numberOf : MethodName := ⟨RX3, "numberOf", "(Z)I"⟩
abbrev cX3_powerOf : ByteArray := prog_1_method_66_code
def yX3_powerOf : MethodName := ⟨RX3, "powerOf", "(II)I"⟩
abbrev cX4_init : ByteArray := prog_6_method_1_code
def yX4_init : MethodName := ⟨RX4, "<init>", "()V"⟩
abbrev cX5_init : ByteArray := prog_7_method_1_code
def yX5_init : MethodName := ⟨RX5, "<init>", "()V"⟩
abbrev cX5_isIn : ByteArray := prog_7_method_3_code
def yX5_isIn : MethodName := ⟨RX5, "isIn", "(III)Z"⟩
abbrev cX5_one : ByteArray := prog_7_method_4_code
def yX5_one : MethodName := ⟨RX5, "one", "(Z)I"⟩
abbrev cX5_refuse : ByteArray := prog_7_method_5_code
def yX5_refuse : MethodName := ⟨RX5, "refuse", "(ZI)Z"⟩
abbrev cX5_start : ByteArray := prog_7_method_6_code
def yX5_start : MethodName := ⟨RX5, "start", "(ZI)Z"⟩
abbrev cX5_act : ByteArray := prog_7_method_7_code
def yX5_act : MethodName := ⟨RX5, "act", "(I)I"⟩
abbrev cX5_cannot : ByteArray := prog_7_method_8_code
def yX5_cannot : MethodName := ⟨RX5, "cannot", "()I"⟩
abbrev cX5_isNoCorner : ByteArray := prog_7_method_9_code
def yX5_isNoCorner : MethodName := ⟨RX5, "isNoCorner", "(I)Z"⟩
abbrev cX5_isNoStreet : ByteArray := prog_7_method_10_code
def yX5_isNoStreet : MethodName := ⟨RX5, "isNoStreet", "(I)Z"⟩
abbrev cX5_isNoWalk : ByteArray := prog_7_method_11_code
def yX5_isNoWalk : MethodName := ⟨RX5, "isNoWalk", "(I)Z"⟩
abbrev cX5_all : ByteArray := prog_7_method_12_code
def yX5_all : MethodName := ⟨RX5, "all", "()I"⟩
abbrev cX5_has : ByteArray := prog_7_method_13_code
def yX5_has : MethodName := ⟨RX5, "has", "(II)Z"⟩
abbrev cX5_waysOf : ByteArray := prog_7_method_14_code
def yX5_waysOf : MethodName := ⟨RX5, "waysOf", "(III)I"⟩
abbrev cX5_isOdd : ByteArray := prog_7_method_15_code
def yX5_isOdd : MethodName := ⟨RX5, "isOdd", "(II)Z"⟩
abbrev cX5_oddOf : ByteArray := prog_7_method_16_code
def yX5_oddOf : MethodName := ⟨RX5, "oddOf", "(I)I"⟩
abbrev cX5_hang : ByteArray := prog_7_method_17_code
def yX5_hang : MethodName := ⟨RX5, "hang", "(I)Z"⟩
abbrev cX5_isStartOf : ByteArray := prog_7_method_18_code
def yX5_isStartOf : MethodName := ⟨RX5, "isStartOf", "(II)Z"⟩
abbrev cX5_leastStart : ByteArray := prog_7_method_19_code
def yX5_leastStart : MethodName := ⟨RX5, "leastStart", "()I"⟩
abbrev cX5_kindOf : ByteArray := prog_7_method_20_code
def yX5_kindOf : MethodName := ⟨RX5, "kindOf", "()I"⟩
abbrev cX5_laid : ByteArray := prog_7_method_21_code
def yX5_laid : MethodName := ⟨RX5, "laid", "(II)V"⟩
abbrev cX5_endWords : ByteArray := prog_7_method_22_code
def yX5_endWords : MethodName := ⟨RX5, "endWords", "()V"⟩
abbrev cX5_emptied : ByteArray := prog_7_method_23_code
def yX5_emptied : MethodName := ⟨RX5, "emptied", "()V"⟩
abbrev cX5_goesFrom : ByteArray := prog_7_method_24_code
def yX5_goesFrom : MethodName := ⟨RX5, "goesFrom", "(I)I"⟩
abbrev cX5_comesTo : ByteArray := prog_7_method_25_code
def yX5_comesTo : MethodName := ⟨RX5, "comesTo", "(I)I"⟩
abbrev cX5_between : ByteArray := prog_7_method_26_code
def yX5_between : MethodName := ⟨RX5, "between", "(III)I"⟩
abbrev cX5_leaving : ByteArray := prog_7_method_27_code
def yX5_leaving : MethodName := ⟨RX5, "leaving", "(II)I"⟩
abbrev cX5_coming : ByteArray := prog_7_method_28_code
def yX5_coming : MethodName := ⟨RX5, "coming", "(II)I"⟩
abbrev cX5_stepOf : ByteArray := prog_7_method_29_code
def yX5_stepOf : MethodName := ⟨RX5, "stepOf", "(II)I"⟩
abbrev cX5_cornerOf : ByteArray := prog_7_method_30_code
def yX5_cornerOf : MethodName := ⟨RX5, "cornerOf", "(II)I"⟩
abbrev cX5_endOf : ByteArray := prog_7_method_31_code
def yX5_endOf : MethodName := ⟨RX5, "endOf", "(I)I"⟩
abbrev cX5_placeOf : ByteArray := prog_7_method_32_code
def yX5_placeOf : MethodName := ⟨RX5, "placeOf", "(II)I"⟩
abbrev cX5_setOf : ByteArray := prog_7_method_33_code
def yX5_setOf : MethodName := ⟨RX5, "setOf", "(I)I"⟩
abbrev cX5_isHome : ByteArray := prog_7_method_34_code
def yX5_isHome : MethodName := ⟨RX5, "isHome", "(I)Z"⟩
abbrev cX5_isWhole : ByteArray := prog_7_method_35_code
def yX5_isWhole : MethodName := ⟨RX5, "isWhole", "(I)Z"⟩
abbrev cX5_put : ByteArray := prog_7_method_36_code
def yX5_put : MethodName := ⟨RX5, "put", "(III)V"⟩
abbrev cX5_take : ByteArray := prog_7_method_37_code
def yX5_take : MethodName := ⟨RX5, "take", "(II)I"⟩
abbrev cX5_lose : ByteArray := prog_7_method_38_code
def yX5_lose : MethodName := ⟨RX5, "lose", "(I)V"⟩
abbrev cX5_copied : ByteArray := prog_7_method_39_code
def yX5_copied : MethodName := ⟨RX5, "copied", "(II)V"⟩
abbrev cX5_turned : ByteArray := prog_7_method_40_code
def yX5_turned : MethodName := ⟨RX5, "turned", "(I)V"⟩
abbrev cX5_rotated : ByteArray := prog_7_method_41_code
def yX5_rotated : MethodName := ⟨RX5, "rotated", "(II)V"⟩
abbrev cX5_gone : ByteArray := prog_7_method_42_code
def yX5_gone : MethodName := ⟨RX5, "gone", "(IIZ)I"⟩
abbrev cX5_completed : ByteArray := prog_7_method_43_code
def yX5_completed : MethodName := ⟨RX5, "completed", "(IZ)I"⟩
abbrev cX5_fitting : ByteArray := prog_7_method_44_code
def yX5_fitting : MethodName := ⟨RX5, "fitting", "(IIZ)I"⟩
abbrev cX5_filled : ByteArray := prog_7_method_45_code
def yX5_filled : MethodName := ⟨RX5, "filled", "(IZ)V"⟩
abbrev cX5_isSame : ByteArray := prog_7_method_46_code
def yX5_isSame : MethodName := ⟨RX5, "isSame", "(II)Z"⟩
abbrev cX5_isTurnedBy : ByteArray := prog_7_method_47_code
def yX5_isTurnedBy : MethodName := ⟨RX5, "isTurnedBy", "(III)Z"⟩
abbrev cX5_turnTo : ByteArray := prog_7_method_48_code
def yX5_turnTo : MethodName := ⟨RX5, "turnTo", "(II)I"⟩
abbrev cX5_wordIn : ByteArray := prog_7_method_49_code
def yX5_wordIn : MethodName := ⟨RX5, "wordIn", "(III)I"⟩
abbrev cX5_lay : ByteArray := prog_7_method_50_code
def yX5_lay : MethodName := ⟨RX5, "lay", "(II)I"⟩
abbrev cX5_layRing : ByteArray := prog_7_method_51_code
def yX5_layRing : MethodName := ⟨RX5, "layRing", "(II)I"⟩
abbrev cX5_words : ByteArray := prog_7_method_52_code
def yX5_words : MethodName := ⟨RX5, "words", "(II)I"⟩
abbrev cX5_close : ByteArray := prog_7_method_53_code
def yX5_close : MethodName := ⟨RX5, "close", "(I)I"⟩
abbrev cX5_clear : ByteArray := prog_7_method_54_code
def yX5_clear : MethodName := ⟨RX5, "clear", "()I"⟩
abbrev cX5_oneWay : ByteArray := prog_7_method_55_code
def yX5_oneWay : MethodName := ⟨RX5, "oneWay", "(Z)I"⟩
abbrev cX5_turnTown : ByteArray := prog_7_method_56_code
def yX5_turnTown : MethodName := ⟨RX5, "turnTown", "()I"⟩
abbrev cX5_streets : ByteArray := prog_7_method_57_code
def yX5_streets : MethodName := ⟨RX5, "streets", "()I"⟩
abbrev cX5_end : ByteArray := prog_7_method_58_code
def yX5_end : MethodName := ⟨RX5, "end", "(IZ)I"⟩
abbrev cX5_ways : ByteArray := prog_7_method_59_code
def yX5_ways : MethodName := ⟨RX5, "ways", "(II)I"⟩
abbrev cX5_odd : ByteArray := prog_7_method_60_code
def yX5_odd : MethodName := ⟨RX5, "odd", "()I"⟩
abbrev cX5_hangs : ByteArray := prog_7_method_61_code
def yX5_hangs : MethodName := ⟨RX5, "hangs", "()Z"⟩
abbrev cX5_kind : ByteArray := prog_7_method_62_code
def yX5_kind : MethodName := ⟨RX5, "kind", "()I"⟩
abbrev cX5_isStart : ByteArray := prog_7_method_63_code
def yX5_isStart : MethodName := ⟨RX5, "isStart", "(I)Z"⟩
abbrev cX5_ruleOf : ByteArray := prog_7_method_64_code
def yX5_ruleOf : MethodName := ⟨RX5, "ruleOf", "(I)I"⟩
abbrev cX5_rule : ByteArray := prog_7_method_65_code
def yX5_rule : MethodName := ⟨RX5, "rule", "(I)I"⟩
abbrev cX5_begin : ByteArray := prog_7_method_66_code
def yX5_begin : MethodName := ⟨RX5, "begin", "(II)I"⟩
abbrev cX5_step : ByteArray := prog_7_method_67_code
def yX5_step : MethodName := ⟨RX5, "step", "(IIZ)I"⟩
abbrev cX5_back : ByteArray := prog_7_method_68_code
def yX5_back : MethodName := ⟨RX5, "back", "(IZ)I"⟩
abbrev cX5_on : ByteArray := prog_7_method_69_code
def yX5_on : MethodName := ⟨RX5, "on", "(IZ)I"⟩
abbrev cX5_complete : ByteArray := prog_7_method_70_code
def yX5_complete : MethodName := ⟨RX5, "complete", "(IZ)I"⟩
abbrev cX5_isNoRound : ByteArray := prog_7_method_71_code
def yX5_isNoRound : MethodName := ⟨RX5, "isNoRound", "(II)Z"⟩
abbrev cX5_spliced : ByteArray := prog_7_method_72_code
def yX5_spliced : MethodName := ⟨RX5, "spliced", "(III)V"⟩
abbrev cX5_splice : ByteArray := prog_7_method_73_code
def yX5_splice : MethodName := ⟨RX5, "splice", "(III)I"⟩
abbrev cX5_join : ByteArray := prog_7_method_74_code
def yX5_join : MethodName := ⟨RX5, "join", "(II)I"⟩
abbrev cX5_cut : ByteArray := prog_7_method_75_code
def yX5_cut : MethodName := ⟨RX5, "cut", "(IIII)I"⟩
abbrev cX5_turnRound : ByteArray := prog_7_method_76_code
def yX5_turnRound : MethodName := ⟨RX5, "turnRound", "(I)I"⟩
abbrev cX5_rotate : ByteArray := prog_7_method_77_code
def yX5_rotate : MethodName := ⟨RX5, "rotate", "(II)I"⟩
abbrev cX5_first : ByteArray := prog_7_method_78_code
def yX5_first : MethodName := ⟨RX5, "first", "(IIZ)I"⟩
abbrev cX5_next : ByteArray := prog_7_method_79_code
def yX5_next : MethodName := ⟨RX5, "next", "(IZ)I"⟩
abbrev cX5_copy : ByteArray := prog_7_method_80_code
def yX5_copy : MethodName := ⟨RX5, "copy", "(II)I"⟩
abbrev cX5_length : ByteArray := prog_7_method_81_code
def yX5_length : MethodName := ⟨RX5, "length", "(I)I"⟩
abbrev cX5_cornerAt : ByteArray := prog_7_method_82_code
def yX5_cornerAt : MethodName := ⟨RX5, "cornerAt", "(II)I"⟩
abbrev cX5_stepAt : ByteArray := prog_7_method_83_code
def yX5_stepAt : MethodName := ⟨RX5, "stepAt", "(II)I"⟩
abbrev cX5_find : ByteArray := prog_7_method_84_code
def yX5_find : MethodName := ⟨RX5, "find", "(II)I"⟩
abbrev cX5_is : ByteArray := prog_7_method_85_code
def yX5_is : MethodName := ⟨RX5, "is", "(IZ)Z"⟩
abbrev cX5_same : ByteArray := prog_7_method_86_code
def yX5_same : MethodName := ⟨RX5, "same", "(II)Z"⟩
abbrev cX5_turnOf : ByteArray := prog_7_method_87_code
def yX5_turnOf : MethodName := ⟨RX5, "turnOf", "(II)I"⟩
abbrev cX5_text : ByteArray := prog_7_method_88_code
def yX5_text : MethodName := ⟨RX5, "text", "(II)Ljava/lang/String;"⟩
abbrev cX5_wordAt : ByteArray := prog_7_method_89_code
def yX5_wordAt : MethodName := ⟨RX5, "wordAt", "(III)I"⟩
abbrev cX5_isThere : ByteArray := prog_7_method_90_code
def yX5_isThere : MethodName := ⟨RX5, "isThere", "()Z"⟩
abbrev cX5_cursor : ByteArray := prog_7_method_91_code
def yX5_cursor : MethodName := ⟨RX5, "cursor", "(II)I"⟩
abbrev cX5_canGo : ByteArray := prog_7_method_92_code
def yX5_canGo : MethodName := ⟨RX5, "canGo", "(Z)Z"⟩
abbrev cX5_cursorGo : ByteArray := prog_7_method_93_code
def yX5_cursorGo : MethodName := ⟨RX5, "cursorGo", "(Z)I"⟩
abbrev cX5_cursorSet : ByteArray := prog_7_method_94_code
def yX5_cursorSet : MethodName := ⟨RX5, "cursorSet", "(I)I"⟩
abbrev cX5_fittingHere : ByteArray := prog_7_method_95_code
def yX5_fittingHere : MethodName := ⟨RX5, "fittingHere", "(I)I"⟩
abbrev cX5_cursorAdd : ByteArray := prog_7_method_96_code
def yX5_cursorAdd : MethodName := ⟨RX5, "cursorAdd", "(I)I"⟩
abbrev cX5_cursorRemove : ByteArray := prog_7_method_97_code
def yX5_cursorRemove : MethodName := ⟨RX5, "cursorRemove", "()I"⟩
abbrev cX5_cursorCan : ByteArray := prog_7_method_98_code
def yX5_cursorCan : MethodName := ⟨RX5, "cursorCan", "(Z)Z"⟩
abbrev cX5_placeTold : ByteArray := prog_7_method_99_code
def yX5_placeTold : MethodName := ⟨RX5, "placeTold", "(Z)I"⟩
abbrev cX5_cursorPlace : ByteArray := prog_7_method_100_code
def yX5_cursorPlace : MethodName := ⟨RX5, "cursorPlace", "(Z)I"⟩
abbrev cX5_houseOf : ByteArray := prog_7_method_101_code
def yX5_houseOf : MethodName := ⟨RX5, "houseOf", "(I)I"⟩
abbrev cX5_house : ByteArray := prog_7_method_102_code
def yX5_house : MethodName := ⟨RX5, "house", "(I)I"⟩
abbrev cX5_knock : ByteArray := prog_7_method_103_code
def yX5_knock : MethodName := ⟨RX5, "knock", "()I"⟩
abbrev cX5_isWalk : ByteArray := prog_7_method_104_code
def yX5_isWalk : MethodName := ⟨RX5, "isWalk", "(I)Z"⟩
abbrev cX5_isCounted : ByteArray := prog_7_method_105_code
def yX5_isCounted : MethodName := ⟨RX5, "isCounted", "()Z"⟩
abbrev cX5_isCompleted : ByteArray := prog_7_method_106_code
def yX5_isCompleted : MethodName := ⟨RX5, "isCompleted", "()Z"⟩
abbrev cX5_isAllSo : ByteArray := prog_7_method_107_code
def yX5_isAllSo : MethodName := ⟨RX5, "isAllSo", "()Z"⟩
abbrev cX5_isSound : ByteArray := prog_7_method_108_code
def yX5_isSound : MethodName := ⟨RX5, "isSound", "()Z"⟩
abbrev cX5_add : ByteArray := prog_7_method_109_code
def yX5_add : MethodName := ⟨RX5, "add", "(JJ)J"⟩
abbrev cX5_addTown : ByteArray := prog_7_method_110_code
def yX5_addTown : MethodName := ⟨RX5, "addTown", "(J)J"⟩
abbrev cX5_addWalk : ByteArray := prog_7_method_111_code
def yX5_addWalk : MethodName := ⟨RX5, "addWalk", "(JI)J"⟩
abbrev cX5_digest : ByteArray := prog_7_method_112_code
def yX5_digest : MethodName := ⟨RX5, "digest", "()J"⟩
abbrev cL_lay : ByteArray := method_2_code
def yL_lay : MethodName := ⟨RL, "lay", "(LAllstreets;IILAllstreetsLaw$Out;)I"⟩
abbrev cL_layRing : ByteArray := method_3_code
def yL_layRing : MethodName := ⟨RL, "layRing", "(LAllstreets;IILAllstreetsLaw$Out;)I"⟩
abbrev cL_words : ByteArray := method_4_code
def yL_words : MethodName := ⟨RL, "words", "(LAllstreets;IILAllstreetsLaw$Out;)I"⟩
abbrev cL_close : ByteArray := method_5_code
def yL_close : MethodName := ⟨RL, "close", "(LAllstreets;ILAllstreetsLaw$Out;)I"⟩
abbrev cL_end : ByteArray := method_6_code
def yL_end : MethodName := ⟨RL, "end", "(LAllstreets;IZLAllstreetsLaw$Out;)I"⟩
abbrev cL_ways : ByteArray := method_7_code
def yL_ways : MethodName := ⟨RL, "ways", "(LAllstreets;IILAllstreetsLaw$Out;)I"⟩
abbrev cL_isStart : ByteArray := method_8_code
def yL_isStart : MethodName := ⟨RL, "isStart", "(LAllstreets;ILAllstreetsLaw$Out;)I"⟩
abbrev cL_rule : ByteArray := method_9_code
def yL_rule : MethodName := ⟨RL, "rule", "(LAllstreets;ILAllstreetsLaw$Out;)I"⟩
abbrev cL_begin : ByteArray := method_10_code
def yL_begin : MethodName := ⟨RL, "begin", "(LAllstreets;IILAllstreetsLaw$Out;)I"⟩
abbrev cL_step : ByteArray := method_11_code
def yL_step : MethodName := ⟨RL, "step", "(LAllstreets;IIZLAllstreetsLaw$Out;)I"⟩
abbrev cL_back : ByteArray := method_12_code
def yL_back : MethodName := ⟨RL, "back", "(LAllstreets;IZLAllstreetsLaw$Out;)I"⟩
abbrev cL_on : ByteArray := method_13_code
def yL_on : MethodName := ⟨RL, "on", "(LAllstreets;IZLAllstreetsLaw$Out;)I"⟩
abbrev cL_complete : ByteArray := method_14_code
def yL_complete : MethodName := ⟨RL, "complete", "(LAllstreets;IZLAllstreetsLaw$Out;)I"⟩
abbrev cL_splice : ByteArray := method_15_code
def yL_splice : MethodName := ⟨RL, "splice", "(LAllstreets;IIILAllstreetsLaw$Out;)I"⟩
abbrev cL_join : ByteArray := method_16_code
def yL_join : MethodName := ⟨RL, "join", "(LAllstreets;IILAllstreetsLaw$Out;)I"⟩
abbrev cL_cut : ByteArray := method_17_code
def yL_cut : MethodName := ⟨RL, "cut", "(LAllstreets;IIIILAllstreetsLaw$Out;)I"⟩
abbrev cL_turnRound : ByteArray := method_18_code
def yL_turnRound : MethodName := ⟨RL, "turnRound", "(LAllstreets;ILAllstreetsLaw$Out;)I"⟩
abbrev cL_rotate : ByteArray := method_19_code
def yL_rotate : MethodName := ⟨RL, "rotate", "(LAllstreets;IILAllstreetsLaw$Out;)I"⟩
abbrev cL_first : ByteArray := method_20_code
def yL_first : MethodName := ⟨RL, "first", "(LAllstreets;IIZLAllstreetsLaw$Out;)I"⟩
abbrev cL_next : ByteArray := method_21_code
def yL_next : MethodName := ⟨RL, "next", "(LAllstreets;IZLAllstreetsLaw$Out;)I"⟩
abbrev cL_copy : ByteArray := method_22_code
def yL_copy : MethodName := ⟨RL, "copy", "(LAllstreets;IILAllstreetsLaw$Out;)I"⟩
abbrev cL_length : ByteArray := method_23_code
def yL_length : MethodName := ⟨RL, "length", "(LAllstreets;ILAllstreetsLaw$Out;)I"⟩
abbrev cL_cornerAt : ByteArray := method_24_code
def yL_cornerAt : MethodName := ⟨RL, "cornerAt", "(LAllstreets;IILAllstreetsLaw$Out;)I"⟩
abbrev cL_stepAt : ByteArray := method_25_code
def yL_stepAt : MethodName := ⟨RL, "stepAt", "(LAllstreets;IILAllstreetsLaw$Out;)I"⟩
abbrev cL_find : ByteArray := method_26_code
def yL_find : MethodName := ⟨RL, "find", "(LAllstreets;IILAllstreetsLaw$Out;)I"⟩
abbrev cL_is : ByteArray := method_27_code
def yL_is : MethodName := ⟨RL, "is", "(LAllstreets;IZLAllstreetsLaw$Out;)I"⟩
abbrev cL_same : ByteArray := method_28_code
def yL_same : MethodName := ⟨RL, "same", "(LAllstreets;IILAllstreetsLaw$Out;)I"⟩
abbrev cL_turnOf : ByteArray := method_29_code
def yL_turnOf : MethodName := ⟨RL, "turnOf", "(LAllstreets;IILAllstreetsLaw$Out;)I"⟩
abbrev cL_text : ByteArray := method_30_code
def yL_text : MethodName := ⟨RL, "text", "(LAllstreets;IILAllstreetsLaw$Out;)I"⟩
abbrev cL_wordAt : ByteArray := method_31_code
def yL_wordAt : MethodName := ⟨RL, "wordAt", "(LAllstreets;IIILAllstreetsLaw$Out;)I"⟩
abbrev cL_cursor : ByteArray := method_32_code
def yL_cursor : MethodName := ⟨RL, "cursor", "(LAllstreets;IILAllstreetsLaw$Out;)I"⟩
abbrev cL_cursorSet : ByteArray := method_33_code
def yL_cursorSet : MethodName := ⟨RL, "cursorSet", "(LAllstreets;ILAllstreetsLaw$Out;)I"⟩
abbrev cL_cursorAdd : ByteArray := method_34_code
def yL_cursorAdd : MethodName := ⟨RL, "cursorAdd", "(LAllstreets;ILAllstreetsLaw$Out;)I"⟩
abbrev cL_house : ByteArray := method_35_code
def yL_house : MethodName := ⟨RL, "house", "(LAllstreets;ILAllstreetsLaw$Out;)I"⟩
abbrev cL_law : ByteArray := code
def yL_law : MethodName := ⟨RL, "law", "([I)Z"⟩
end
section
/-! what the small machine's state is on the machine, and each step's soundness -/
/-! the system's two classes of texts -/
def RXA : String := "java/lang/AbstractStringBuilder"
def RXB : String := "java/lang/StringBuilder"
def RXS : String := "java/lang/String"
def TXB : u_T := fun k => match k with
  | 0 => (RXA, "value", "[B", false)
  | 1 => (RXA, "coder", "B", false)
  | 2 => (RXA, "maybeLatin1", "Z", false)
  | _ => (RXA, "count", "I", false)
def tyXB : Nat → FieldType := fun k => match k with
  | 0 => .array .byte
  | 1 => .byte
  | 2 => .boolean
  | _ => .int
theorem nmXB : ∀ a, a < 4 → ∀ b, b < 4 → a ≠ b → (TXB a).2.1 ≠ (TXB b).2.1 := by decide +kernel
theorem tyXB_ok : ∀ k, k < 4 → parseFieldDescriptor (TXB k).2.2.1 = some (tyXB k) := by decide +kernel
def TXS : u_T := fun k => match k with
  | 0 => (RXS, "value", "[B", true)
  | 1 => (RXS, "coder", "B", true)
  | 2 => (RXS, "hash", "I", false)
  | _ => (RXS, "hashIsZero", "Z", false)
def tyXS : Nat → FieldType := fun k => match k with
  | 0 => .array .byte
  | 1 => .byte
  | 2 => .int
  | _ => .boolean
theorem nmXS : ∀ a, a < 4 → ∀ b, b < 4 → a ≠ b → (TXS a).2.1 ≠ (TXS b).2.1 := by decide +kernel
theorem tyXS_ok : ∀ k, k < 4 → parseFieldDescriptor (TXS k).2.2.1 = some (tyXS k) := by decide +kernel
def mm_cl : List vw_C := [(RX3, TX3, 7), (RX1, TX1, 8), (RX2, TX2, 4), (RX0, TX0, 5), (RX5, TX5, 17), (RX4, TX4, 2), (RXB, TXB, 4), (RXS, TXS, 4)]
def mm_tt : List (Nat → FieldType) := [tyX3, tyX1, tyX2, tyX0, tyX5, tyX4, tyXB, tyXS]
/-- a byte as it lies in a row -/
def mm_b8 (x : Int) : Int32 := (Int8.ofInt x).toInt32
abbrev mm_En : Type := ClassId × ClassId × ClassId
def mm_ty (E : mm_En) : List (ClassId × FieldType) := [(E.1, .int), (E.2.1, .byte), (E.2.2, .object RX2)]
def mm_ad (Ad : Nat → Nat) (o : Nat) : Nat := if o < 100 then Ad o else o - 100
def mm_rn (Ad : Nat → Nat) (o : Nat) : Option Nat := if o = 0 then none else some (mm_ad Ad o)
def mm_cc (Ad : Nat → Nat) : mm_V → Value
  | .inl x => .int (Int32.ofInt x)
  | .inr (.inl x) => .long (Int64.ofInt x)
  | .inr (.inr (.inl o)) => va_rf (mm_rn Ad o)
  | .inr (.inr (.inr q)) => .ref q
def mm_fs (Ad : Nat → Nat) (M : mm_M) (o : Nat) (l : List (Nat × Nat)) : List Value := l.mapIdx (fun k q => mm_cc Ad (mm_fv q.1 q.2 o (M o k)))
def mm_el (E : mm_En) (Ad : Nat → Nat) (M : mm_M) (o : Nat) : va_E :=
  match mm_kd M o with
  | 1 => .inl (E.1, mm_ln M o, .inl (fun j => Int32.ofInt (M o j)))
  | 2 => .inl (E.2.2, mm_ln M o, .inr (.inr (.inr (.inr (fun j => some (mm_ad Ad (8 + 2 * j)))))))
  | 3 => .inl (E.2.1, mm_ln M o, .inl (fun j => mm_b8 (M o j)))
  | k => .inr (k - 10, mm_fs Ad M o (mm_ft k))
def mm_ws (E : mm_En) (Ad : Nat → Nat) (M : mm_M) (d : List Nat) : va_W := (mm_ids d).map (fun o => (mm_ad Ad o, mm_el E Ad M o))
theorem mm_idx {E : mm_En} {Ad : Nat → Nat} {M : mm_M} {d : List Nat} {o : Nat} (h : o ∈ mm_ids d) : ∃ q0 : Nat, (mm_ids d)[q0]? = some o ∧ (mm_ws E Ad M d)[q0]? = some (mm_ad Ad o, mm_el E Ad M o) := by
  obtain ⟨q0, hq⟩ := List.getElem?_of_mem h
  exact ⟨q0, hq, by simp [mm_ws, hq]⟩
theorem mm_kd_up {M M' : mm_M} {o o' : Nat} (ho : o ≠ 0) (h : ∀ x, x ≠ o → M' x = M x) : mm_kd M' o' = mm_kd M o' ∧ mm_ln M' o' = mm_ln M o' := by
  simp only [mm_kd, mm_ln, h 0 (Ne.symm ho), and_self]
theorem mm_wset {E : mm_En} {Ad : Nat → Nat} {M M' : mm_M} {d : List Nat} {o q0 : Nat} {A : Nat → Prop} (hD : va_D A (mm_ws E Ad M d)) (hq : (mm_ids d)[q0]? = some o) (ho : o ≠ 0) (h : ∀ x, x ≠ o → M' x = M x) :
    (mm_ws E Ad M d).set q0 (mm_ad Ad o, mm_el E Ad M' o) = mm_ws E Ad M' d := by
  apply List.ext_getElem?
  intro k
  have hw : ∀ {M : mm_M} {j x : Nat}, (mm_ids d)[j]? = some x → (mm_ws E Ad M d)[j]? = some (mm_ad Ad x, mm_el E Ad M x) := fun hj => by simp [mm_ws, hj]
  by_cases hk : k = q0
  · subst hk
    have hl := (List.getElem?_eq_some_iff.mp (hw (M := M) hq)).1
    rw [List.getElem?_set_self hl, hw hq]
  · rw [List.getElem?_set_ne (Ne.symm hk)]
    cases hx : (mm_ids d)[k]? with
    | none => simp [mm_ws, hx]
    | some x =>
      rw [hw hx, hw hx]
      have hxo : x ≠ o := by
        intro e
        subst e
        exact hk (hD.1 k q0 _ _ (hw hx) (hw hq) rfl)
      have e := mm_kd_up (o' := x) ho h
      simp only [mm_el, e.1, e.2, mm_fs, h x hxo]
theorem mm_catv (Ad : Nat → Nat) (v : mm_V) : (mm_cc Ad v).category = mm_cat v := by
  rcases v with x | x | o | q
  · rfl
  · rfl
  · simp only [mm_cc, mm_cat]
    cases mm_rn Ad o <;> rfl
  · rfl
theorem mm_catsum (Ad : Nat → Nat) (l : List mm_V) : ((l.map (mm_cc Ad)).map fun v => v.category).sum = mm_cats l := by
  induction l with
  | nil => rfl
  | cons a l ih => simp only [List.map_cons, List.sum_cons, ih, mm_catv, mm_cats]
/-- the locals -/
def mm_Lo (Ad : Nat → Nat) (nL : Nat) (ls : mm_Ls) (L : Array Slot) : Prop := L.size = nL ∧ lv_wf L ∧ ls.length = nL ∧ ∀ (i : Nat) (v : mm_V), mm_nth ls i = some (some v) → L[i]? = some (.val (mm_cc Ad v))
def mm_as (Ad : Nat → Nat) : mm_Ls → Nat → List (Nat × Value)
  | [], _ => []
  | none :: l, n => mm_as Ad l (n + 1)
  | some v :: l, n => (n, mm_cc Ad v) :: mm_as Ad l (n + 1)
theorem mm_as_mem {Ad : Nat → Nat} {q : Nat × Value} : ∀ (ls : mm_Ls) (n : Nat), q ∈ mm_as Ad ls n ↔ ∃ (i : Nat) (v : mm_V), mm_nth ls i = some (some v) ∧ q = (n + i, mm_cc Ad v)
  | [], n => by simp [mm_as, mm_nth]
  | none :: l, n => by
    rw [mm_as, mm_as_mem l (n + 1)]
    constructor
    · rintro ⟨i, v, h, e⟩
      exact ⟨i + 1, v, h, by rw [e, Nat.add_right_comm, Nat.add_assoc]⟩
    · rintro ⟨i, v, h, e⟩
      cases i with
      | zero => simp [mm_nth] at h
      | succ i => exact ⟨i, v, h, by rw [e, Nat.add_right_comm, Nat.add_assoc]⟩
  | some w :: l, n => by
    rw [mm_as, List.mem_cons, mm_as_mem l (n + 1)]
    constructor
    · rintro (e | ⟨i, v, h, e⟩)
      · exact ⟨0, w, rfl, e⟩
      · exact ⟨i + 1, v, h, by rw [e, Nat.add_right_comm, Nat.add_assoc]⟩
    · rintro ⟨i, v, h, e⟩
      cases i with
      | zero =>
        simp only [mm_nth, Option.some.injEq] at h
        subst h
        exact Or.inl e
      | succ i => exact Or.inr ⟨i, v, h, by rw [e, Nat.add_right_comm, Nat.add_assoc]⟩
theorem mm_lo_has {Ad : Nat → Nat} {nL : Nat} {ls : mm_Ls} {L : Array Slot} (h : mm_Lo Ad nL ls L) : lv_has L nL (mm_as Ad ls 0) := by
  refine ⟨h.1, h.2.1, fun q hq => ?_⟩
  obtain ⟨i, v, h1, rfl⟩ := (mm_as_mem ls 0).mp hq
  simpa using h.2.2.2 i v h1
theorem mm_nth_set {α : Type} {x : α} : ∀ (l : List α) (i j : Nat), i < l.length → mm_nth (mm_set l i x) j = if j = i then some x else mm_nth l j
  | [], i, j, h => by simp at h
  | a :: l, 0, j, h => by cases j <;> simp [mm_set, mm_nth]
  | a :: l, i + 1, j, h => by
    cases j with
    | zero => simp [mm_set, mm_nth]
    | succ j =>
      simp only [mm_set, mm_nth, Nat.add_right_cancel_iff]
      exact mm_nth_set l i j (by simpa using h)
theorem mm_set_len {α : Type} {x : α} : ∀ (l : List α) (i : Nat), (mm_set l i x).length = l.length
  | [], _ => rfl
  | a :: l, 0 => rfl
  | a :: l, i + 1 => by simp only [mm_set, List.length_cons, mm_set_len l i]
theorem mm_ok_lt : ∀ (ls : mm_Ls) (i : Nat), mm_ok ls i = true → i < ls.length ∧ ∀ (k : Nat) (v : mm_V), k + 1 = i → mm_nth ls k = some (some v) → mm_cat v = 1
  | [], i, h => by simp [mm_ok] at h
  | a :: l, 0, h => ⟨by simp, fun k v hk => by omega⟩
  | a :: l, i + 1, h => by
    simp only [mm_ok, Bool.and_eq_true] at h
    obtain ⟨h1, h2⟩ := mm_ok_lt l i h.2
    refine ⟨by simpa using h1, fun k v hk hv => ?_⟩
    cases k with
    | succ k => exact h2 k v (by omega) hv
    | zero =>
      have hi : i = 0 := by omega
      subst hi
      simp only [mm_nth, Option.some.injEq] at hv
      subst hv
      rcases v with x | x | o | q <;> first | rfl | (simp [mm_isL] at h)
theorem mm_lo_set {Ad : Nat → Nat} {nL : Nat} {ls : mm_Ls} {L L' : Array Slot} {i : Nat} {v : mm_V} {lv' : List (Nat × Value)} (h : mm_Lo Ad nL ls L) (hk : mm_ok ls i = true)
    (hl : (i, mm_cc Ad v) :: (mm_as Ad ls 0).filter (fun q => !(q.1 == i) && !(q.1 + 1 == i && q.2.category == 2)) = lv') (h' : lv_has L' nL lv') : mm_Lo Ad nL (mm_set ls i (some v)) L' := by
  obtain ⟨hi, hp⟩ := mm_ok_lt ls i hk
  subst hl
  refine ⟨h'.1, h'.2.1, by rw [mm_set_len]; exact h.2.2.1, fun j w hj => ?_⟩
  rw [mm_nth_set ls i j hi] at hj
  by_cases hji : j = i
  · rw [if_pos hji] at hj
    cases hj
    rw [hji]
    exact h'.2.2 _ List.mem_cons_self
  · rw [if_neg hji] at hj
    refine h'.2.2 (j, mm_cc Ad w) (List.mem_cons_of_mem _ (List.mem_filter.mpr ⟨(mm_as_mem ls 0).mpr ⟨j, w, hj, by simp⟩, ?_⟩))
    simp only [Bool.and_eq_true, Bool.not_eq_true', beq_eq_false_iff_ne, ne_eq, Bool.and_eq_false_iff]
    refine ⟨hji, ?_⟩
    by_cases e : j + 1 = i
    · right
      rw [mm_catv, hp j w e hj]
      decide
    · exact Or.inl e
theorem mm_lo_set2 {Ad : Nat → Nat} {nL : Nat} {ls : mm_Ls} {L L' : Array Slot} {i : Nat} {v : mm_V} {lv' : List (Nat × Value)} (h : mm_Lo Ad nL ls L) (hk : mm_ok ls i = true) (hi1 : i + 1 < ls.length)
    (hl : (i, mm_cc Ad v) :: (mm_as Ad ls 0).filter (fun q => !(q.1 == i) && (!(q.1 == i + 1) && !(q.1 + 1 == i && q.2.category == 2))) = lv') (h' : lv_has L' nL lv') : mm_Lo Ad nL (mm_set (mm_set ls (i + 1) none) i (some v)) L' := by
  obtain ⟨hi, hp⟩ := mm_ok_lt ls i hk
  subst hl
  refine ⟨h'.1, h'.2.1, by rw [mm_set_len, mm_set_len]; exact h.2.2.1, fun j w hj => ?_⟩
  rw [mm_nth_set _ i j (by rw [mm_set_len]; exact hi)] at hj
  by_cases hji : j = i
  · rw [if_pos hji] at hj
    cases hj
    rw [hji]
    exact h'.2.2 _ List.mem_cons_self
  · rw [if_neg hji, mm_nth_set _ (i + 1) j hi1] at hj
    by_cases hji1 : j = i + 1
    · rw [if_pos hji1] at hj
      cases hj
    · rw [if_neg hji1] at hj
      refine h'.2.2 (j, mm_cc Ad w) (List.mem_cons_of_mem _ (List.mem_filter.mpr ⟨(mm_as_mem ls 0).mpr ⟨j, w, hj, by simp⟩, ?_⟩))
      simp only [Bool.and_eq_true, Bool.not_eq_true', beq_eq_false_iff_ne, ne_eq, Bool.and_eq_false_iff]
      refine ⟨hji, hji1, ?_⟩
      by_cases e : j + 1 = i
      · right
        rw [mm_catv, hp j w e hj]
        decide
      · exact Or.inl e
/-! numbers -/
theorem mm_toInt {x : Int} (h : InI x) : (Int32.ofInt x).toInt = x := Int32.toInt_ofInt_of_le (by have := h.1; omega) (by have := h.2; omega)
theorem mm_toL {x : Int} (h : InL x) : (Int64.ofInt x).toInt = x := Int64.toInt_ofInt_of_le (by have := h.1; omega) (by have := h.2; omega)
theorem mm_inj {x y : Int} (hx : InI x) (hy : InI y) : Int32.ofInt x = Int32.ofInt y ↔ x = y := ⟨fun h => by rw [← mm_toInt hx, ← mm_toInt hy, h], fun h => by rw [h]⟩
theorem mm_lt {x y : Int} (hx : InI x) (hy : InI y) : Int32.ofInt x < Int32.ofInt y ↔ x < y := by rw [Int32.lt_iff_toInt_lt, mm_toInt hx, mm_toInt hy]
theorem mm_le {x y : Int} (hx : InI x) (hy : InI y) : Int32.ofInt x ≤ Int32.ofInt y ↔ x ≤ y := by rw [Int32.le_iff_toInt_le, mm_toInt hx, mm_toInt hy]
theorem mm_z0 : (0 : Int32) = Int32.ofInt 0 := rfl
theorem mm_i0 : InI 0 := by unfold InI; omega
theorem mm_vin {a : Int} {n : Nat} (h : 0 ≤ a ∧ a < (n : Int)) (hn : n < 2147483648) : vp_in (Int32.ofInt a) n ∧ (Int32.ofInt a).toNatClampNeg = a.toNat := by
  have hi : InI a := ⟨by omega, by omega⟩
  have e := mm_toInt hi
  constructor
  · rw [vp_in_iff, e]
    exact h
  · show (Int32.ofInt a).toInt.toNat = a.toNat
    rw [e]
theorem mm_div {a b : Int} (ha : InI a) (hb : InI b) (h : 0 < b) : Int32.ofInt a / Int32.ofInt b = Int32.ofInt (a.tdiv b) := (Int32.ofInt_tdiv (by exact ha.1) (by have := ha.2; show a ≤ 2147483647; omega) (by exact hb.1) (by have := hb.2; show b ≤ 2147483647; omega)).symm
theorem mm_rem {a b : Int} (ha : InI a) (hb : InI b) (h : 0 < b) : Int32.ofInt a - Int32.ofInt a / Int32.ofInt b * Int32.ofInt b = Int32.ofInt (a.tmod b) := by
  rw [mm_div ha hb h, ← Int32.ofInt_mul, ← Int32.ofInt_sub]
  congr 1
  have := Int.mul_tdiv_add_tmod a b
  rw [Int.mul_comm b] at this
  omega
theorem mm_sm : ∀ k : Nat, k < 32 → ((Int32.ofNat k &&& 31).toBitVec.smod 32).toNat = k := by decide +kernel
theorem mm_sm2 {b : Int} (h : 0 ≤ b ∧ b < 32) : ((Int32.ofInt b &&& 31).toBitVec.smod 32).toNat = b.toNat := by
  obtain ⟨k, rfl⟩ := Int.eq_ofNat_of_zero_le h.1
  rw [Int32.ofInt_eq_ofNat]
  exact mm_sm k (by omega)
theorem mm_shl {a b : Int} (h : 0 ≤ b ∧ b < 32) : Int32.ofInt a <<< (Int32.ofInt b &&& 31) = Int32.ofInt (a * 2 ^ b.toNat) := by
  apply Int32.toBitVec_inj.mp
  show (Int32.ofInt a).toBitVec <<< ((Int32.ofInt b &&& 31).toBitVec.smod 32).toNat = _
  rw [mm_sm2 h, Int32.toBitVec_ofInt, Int32.toBitVec_ofInt, BitVec.ofInt_mul, BitVec.shiftLeft_eq_mul_twoPow]
  congr 1
  apply BitVec.eq_of_toNat_eq
  have e : (2 : Int) ^ b.toNat = ((2 ^ b.toNat : Nat) : Int) := by norm_cast
  rw [BitVec.toNat_twoPow, BitVec.toNat_ofInt, e]
  norm_cast
theorem mm_shr {a b : Int} (ha : InI a) (h : 0 ≤ b ∧ b < 32) : Int32.ofInt a >>> (Int32.ofInt b &&& 31) = Int32.ofInt (a / 2 ^ b.toNat) := by
  apply Int32.toInt_inj.mp
  rw [pk_shr _ _ _ (mm_sm2 h), mm_toInt ha, Int.shiftRight_eq_div_pow]
  have hp : (0 : Int) < 2 ^ b.toNat := Int.pow_pos (by decide)
  have h1 : (-2147483648 : Int) ≤ a / 2 ^ b.toNat := by
    by_cases hn : a < 0
    · have := Int.le_ediv_of_mul_le hp (a := -2147483648) (b := a) (c := 2 ^ b.toNat) (by
        have h2 : (1 : Int) ≤ 2 ^ b.toNat := hp
        have := ha.1
        have : (-2147483648 : Int) * 2 ^ b.toNat ≤ -2147483648 * 1 := by
          omega
        omega)
      exact this
    · have := Int.ediv_nonneg (Int.not_lt.mp hn) (Int.le_of_lt hp)
      omega
  have h2 : a / 2 ^ b.toNat < 2147483648 := by
    by_cases hn : a < 0
    · have := Int.ediv_neg_of_neg_of_pos hn hp
      omega
    · have := Int.ediv_le_self (2 ^ b.toNat) (Int.not_lt.mp hn)
      have := ha.2
      omega
  rw [mm_toInt ⟨h1, h2⟩]
  norm_cast
end
section
/-! each step of the small machine is one of the machine -/
section MZ
variable {p : Program} {l : Launch} {e : Env} {R : Room} {s : State} {m : MethodId} {args : Array Value} {below : List Frame} {meth : Method} {c : Code} {Qm : State → Prop}
variable {cc : ByteArray} {own : String} {nL : Nat} {Ts : List Cond} {D : va_G} {E : mm_En} {Ad : Nat → Nat} {A : Nat → Prop}
/-- the machine goes on from here to its end -/
def mm_Z (p : Program) (l : Launch) (e : Env) (R : Room) (s : State) (m : MethodId) (args : Array Value) (below : List Frame) (meth : Method) (c : Code) (Qm : State → Prop) (nL : Nat) (D : va_G) (E : mm_En) (Ad : Nat → Nat) (A : Nat → Prop)
    (pc : Nat) (ls : mm_Ls) (st : List mm_V) (M : mm_M) (d : List Nat) (u : Nat) : Prop :=
  ∀ (H : Heap) (locs : List Loc) (L : Array Slot), mm_Lo Ad nL ls L → va_P D mm_cl (mm_ws E Ad M d) H → va_D A (mm_ws E Ad M d) → va_S A s.heap H locs → W p l e R s m args below meth c H locs u (12 * u) Qm (F0 m pc L (st.map (mm_cc Ad)))
/-- what stays the same in a method's frame -/
def mm_Cx (p : Program) (s : State) (m : MethodId) (args : Array Value) (c : Code) (cc : ByteArray) (own : String) (nL : Nat) (Ts : List Cond) (D : va_G) (E : mm_En) (A : Nat → Prop) : Prop :=
  p.tables.exec = Jvm.exec ∧ c.code = cc ∧ c.maxLocals = nL ∧ s.vm.findClass own = some m.cls ∧ (∀ w ∈ Ts, w.before args s = true) ∧ va_K D mm_cl (mm_ty E) s ∧ (∀ q, s.heap.size ≤ q → A q) ∧ ∀ q ∈ mm_cl, ∀ w ∈ u_ws q.1 q.2.1 q.2.2, w ∈ Ts
variable {pc tgt : Nat} {ls : mm_Ls} {st : List mm_V} {M : mm_M} {d : List Nat} {u : Nat}
theorem mm_tgt {o : Int} (h : ((pc : Int) + o == (tgt : Int)) = true) : (pc : Int) + o = (tgt : Int) := eq_of_beq h
theorem mz_iconst {n : Int} (X : mm_Cx p s m args c cc own nL Ts D E A) (hd : decode cc pc = .ok (.iconst n, 1)) (k : mm_Z p l e R s m args below meth c Qm nL D E Ad A (pc + 1) ls (mm_I n :: st) M d u) : mm_Z p l e R s m args below meth c Qm nL D E Ad A pc ls st M d u :=
  fun H locs L hL hP hD hS => lv_iconst X.1 X.2.1 hd rfl (k H locs L hL hP hD hS)
theorem mz_bipush {n : Int} (X : mm_Cx p s m args c cc own nL Ts D E A) (hd : decode cc pc = .ok (.bipush n, 2)) (hn : -128 ≤ n ∧ n < 128) (k : mm_Z p l e R s m args below meth c Qm nL D E Ad A (pc + 2) ls (mm_I n :: st) M d u) : mm_Z p l e R s m args below meth c Qm nL D E Ad A pc ls st M d u :=
  fun H locs L hL hP hD hS => lv_bipush (v := Int32.ofInt n) X.1 X.2.1 hd (by
    apply Int32.toInt_inj.mp
    rw [mm_toInt ⟨by omega, by omega⟩, Int8.toInt_toInt32, Int8.toInt_ofInt_of_le (by omega) (by omega)]) (k H locs L hL hP hD hS)
theorem mz_sipush {n : Int} (X : mm_Cx p s m args c cc own nL Ts D E A) (hd : decode cc pc = .ok (.sipush n, 3)) (hn : -32768 ≤ n ∧ n < 32768) (k : mm_Z p l e R s m args below meth c Qm nL D E Ad A (pc + 3) ls (mm_I n :: st) M d u) : mm_Z p l e R s m args below meth c Qm nL D E Ad A pc ls st M d u :=
  fun H locs L hL hP hD hS => lv_sipush (v := Int32.ofInt n) X.1 X.2.1 hd (by
    apply Int32.toInt_inj.mp
    rw [mm_toInt ⟨by omega, by omega⟩, Int16.toInt_toInt32, Int16.toInt_ofInt_of_le (by omega) (by omega)]) (k H locs L hL hP hD hS)
theorem mz_lconst {n : Fin 2} (X : mm_Cx p s m args c cc own nL Ts D E A) (hd : decode cc pc = .ok (.lconst n, 1)) (k : mm_Z p l e R s m args below meth c Qm nL D E Ad A (pc + 1) ls (mm_L (n.val : Int) :: st) M d u) : mm_Z p l e R s m args below meth c Qm nL D E Ad A pc ls st M d u :=
  fun H locs L hL hP hD hS => lv_lconst (v := Int64.ofInt (n.val : Int)) X.1 X.2.1 hd (by rw [Int64.ofInt_eq_ofNat]) (k H locs L hL hP hD hS)
theorem mz_ldc2 {k0 : Nat} {x : Int} (X : mm_Cx p s m args c cc own nL Ts D E A) (hd : decode cc pc = .ok (.ldc2_w k0, 3)) (hw : Jvm.Cond.constantLong own k0 (Int64.ofInt x) ∈ Ts) (k : mm_Z p l e R s m args below meth c Qm nL D E Ad A (pc + 3) ls (mm_L x :: st) M d u) : mm_Z p l e R s m args below meth c Qm nL D E Ad A pc ls st M d u :=
  fun H locs L hL hP hD hS => lv_ldc2 X.1 X.2.1 X.2.2.2.1 (X.2.2.2.2.1 _ hw) hd (k H locs L hL hP hD hS)
theorem mz_null (X : mm_Cx p s m args c cc own nL Ts D E A) (hd : decode cc pc = .ok (.aconst_null, 1)) (k : mm_Z p l e R s m args below meth c Qm nL D E Ad A (pc + 1) ls (mm_R 0 :: st) M d u) : mm_Z p l e R s m args below meth c Qm nL D E Ad A pc ls st M d u :=
  fun H locs L hL hP hD hS => lv_null X.1 X.2.1 hd (k H locs L hL hP hD hS)
theorem mz_iload {n : Nat} {x : Int} (X : mm_Cx p s m args c cc own nL Ts D E A) (hd : decode cc pc = .ok (.iload n, 2)) (hx : mm_nth ls n = some (some (mm_I x))) (k : mm_Z p l e R s m args below meth c Qm nL D E Ad A (pc + 2) ls (mm_I x :: st) M d u) : mm_Z p l e R s m args below meth c Qm nL D E Ad A pc ls st M d u :=
  fun H locs L hL hP hD hS => lv_iload X.1 X.2.1 hd (hL.2.2.2 n _ hx) (k H locs L hL hP hD hS)
theorem mz_iload_n {n : Fin 4} {x : Int} (X : mm_Cx p s m args c cc own nL Ts D E A) (hd : decode cc pc = .ok (.iload_n n, 1)) (hx : mm_nth ls n.val = some (some (mm_I x))) (k : mm_Z p l e R s m args below meth c Qm nL D E Ad A (pc + 1) ls (mm_I x :: st) M d u) : mm_Z p l e R s m args below meth c Qm nL D E Ad A pc ls st M d u :=
  fun H locs L hL hP hD hS => lv_iload_n X.1 X.2.1 hd rfl (hL.2.2.2 n.val _ hx) (k H locs L hL hP hD hS)
theorem mz_lload {n : Nat} {x : Int} (X : mm_Cx p s m args c cc own nL Ts D E A) (hd : decode cc pc = .ok (.lload n, 2)) (hx : mm_nth ls n = some (some (mm_L x))) (k : mm_Z p l e R s m args below meth c Qm nL D E Ad A (pc + 2) ls (mm_L x :: st) M d u) : mm_Z p l e R s m args below meth c Qm nL D E Ad A pc ls st M d u :=
  fun H locs L hL hP hD hS => lv_lload X.1 X.2.1 hd (hL.2.2.2 n _ hx) (k H locs L hL hP hD hS)
theorem mz_lload_n {n : Fin 4} {x : Int} (X : mm_Cx p s m args c cc own nL Ts D E A) (hd : decode cc pc = .ok (.lload_n n, 1)) (hx : mm_nth ls n.val = some (some (mm_L x))) (k : mm_Z p l e R s m args below meth c Qm nL D E Ad A (pc + 1) ls (mm_L x :: st) M d u) : mm_Z p l e R s m args below meth c Qm nL D E Ad A pc ls st M d u :=
  fun H locs L hL hP hD hS => lv_lload_n X.1 X.2.1 hd rfl (hL.2.2.2 n.val _ hx) (k H locs L hL hP hD hS)
theorem mm_rcases (Ad : Nat → Nat) (v : Nat ⊕ Nat) : mm_cc Ad (.inr (.inr v)) = .null ∨ ∃ q : Nat, mm_cc Ad (.inr (.inr v)) = .ref q := by
  rcases v with o | q
  · by_cases h : o = 0
    · left
      simp only [mm_cc, mm_rn, h, if_true, va_rf]
    · right
      exact ⟨mm_ad Ad o, by simp only [mm_cc, mm_rn, h, if_false, va_rf]⟩
  · exact Or.inr ⟨q, rfl⟩
theorem mz_aload {n : Nat} {v : Nat ⊕ Nat} (X : mm_Cx p s m args c cc own nL Ts D E A) (hd : decode cc pc = .ok (.aload n, 2)) (hx : mm_nth ls n = some (some (.inr (.inr v)))) (k : mm_Z p l e R s m args below meth c Qm nL D E Ad A (pc + 2) ls (.inr (.inr v) :: st) M d u) : mm_Z p l e R s m args below meth c Qm nL D E Ad A pc ls st M d u := by
  intro H locs L hL hP hD hS
  have h1 := hL.2.2.2 n _ hx
  have h2 := k H locs L hL hP hD hS
  rw [List.map_cons] at h2
  rcases mm_rcases Ad v with h | ⟨q, h⟩ <;> rw [h] at h1 h2
  · exact lv_aloadN X.1 X.2.1 hd h1 h2
  · exact lv_aload X.1 X.2.1 hd h1 h2
theorem mz_aload_n {n : Fin 4} {v : Nat ⊕ Nat} (X : mm_Cx p s m args c cc own nL Ts D E A) (hd : decode cc pc = .ok (.aload_n n, 1)) (hx : mm_nth ls n.val = some (some (.inr (.inr v)))) (k : mm_Z p l e R s m args below meth c Qm nL D E Ad A (pc + 1) ls (.inr (.inr v) :: st) M d u) : mm_Z p l e R s m args below meth c Qm nL D E Ad A pc ls st M d u := by
  intro H locs L hL hP hD hS
  have h1 := hL.2.2.2 n.val _ hx
  have h2 := k H locs L hL hP hD hS
  rw [List.map_cons] at h2
  rcases mm_rcases Ad v with h | ⟨q, h⟩ <;> rw [h] at h1 h2
  · exact lv_aload_nN X.1 X.2.1 hd rfl h1 h2
  · exact lv_aload_n X.1 X.2.1 hd rfl h1 h2
theorem mm_lo_lt {L : Array Slot} {n : Nat} (hL : mm_Lo Ad nL ls L) (h : mm_ok ls n = true) : n < nL := by
  rw [← hL.2.2.1]
  exact (mm_ok_lt ls n h).1
theorem mz_istore {n : Nat} {x : Int} (X : mm_Cx p s m args c cc own nL Ts D E A) (hd : decode cc pc = .ok (.istore n, 2)) (hx : mm_ok ls n = true) (k : mm_Z p l e R s m args below meth c Qm nL D E Ad A (pc + 2) (mm_set ls n (some (mm_I x))) st M d u) : mm_Z p l e R s m args below meth c Qm nL D E Ad A pc ls (mm_I x :: st) M d u :=
  fun H locs L hL hP hD hS => lv_istore X.1 X.2.1 hd (mm_lo_has hL) (mm_lo_lt hL hx) rfl fun L' h' => k H locs L' (mm_lo_set (v := mm_I x) hL hx rfl h') hP hD hS
theorem mz_istore_n {n : Fin 4} {x : Int} (X : mm_Cx p s m args c cc own nL Ts D E A) (hd : decode cc pc = .ok (.istore_n n, 1)) (hx : mm_ok ls n.val = true) (k : mm_Z p l e R s m args below meth c Qm nL D E Ad A (pc + 1) (mm_set ls n.val (some (mm_I x))) st M d u) : mm_Z p l e R s m args below meth c Qm nL D E Ad A pc ls (mm_I x :: st) M d u :=
  fun H locs L hL hP hD hS => lv_istore_n X.1 X.2.1 hd rfl (mm_lo_has hL) (mm_lo_lt hL hx) rfl fun L' h' => k H locs L' (mm_lo_set (v := mm_I x) hL hx rfl h') hP hD hS
theorem mz_lstore {n : Nat} {x : Int} (X : mm_Cx p s m args c cc own nL Ts D E A) (hd : decode cc pc = .ok (.lstore n, 2)) (hx : mm_ok ls n = true) (h1 : n + 1 < ls.length) (k : mm_Z p l e R s m args below meth c Qm nL D E Ad A (pc + 2) (mm_set (mm_set ls (n + 1) none) n (some (mm_L x))) st M d u) : mm_Z p l e R s m args below meth c Qm nL D E Ad A pc ls (mm_L x :: st) M d u :=
  fun H locs L hL hP hD hS => lv_lstore X.1 X.2.1 hd (mm_lo_has hL) (by rw [← hL.2.2.1]; exact h1) rfl fun L' h' => k H locs L' (mm_lo_set2 (v := mm_L x) hL hx h1 rfl h') hP hD hS
theorem mz_lstore_n {n : Fin 4} {x : Int} (X : mm_Cx p s m args c cc own nL Ts D E A) (hd : decode cc pc = .ok (.lstore_n n, 1)) (hx : mm_ok ls n.val = true) (h1 : n.val + 1 < ls.length) (k : mm_Z p l e R s m args below meth c Qm nL D E Ad A (pc + 1) (mm_set (mm_set ls (n.val + 1) none) n.val (some (mm_L x))) st M d u) : mm_Z p l e R s m args below meth c Qm nL D E Ad A pc ls (mm_L x :: st) M d u :=
  fun H locs L hL hP hD hS => lv_lstore_n X.1 X.2.1 hd rfl (mm_lo_has hL) (by rw [← hL.2.2.1]; exact h1) rfl fun L' h' => k H locs L' (mm_lo_set2 (v := mm_L x) hL hx h1 rfl h') hP hD hS
theorem mz_astore {n : Nat} {v : Nat ⊕ Nat} (X : mm_Cx p s m args c cc own nL Ts D E A) (hd : decode cc pc = .ok (.astore n, 2)) (hx : mm_ok ls n = true) (k : mm_Z p l e R s m args below meth c Qm nL D E Ad A (pc + 2) (mm_set ls n (some (.inr (.inr v)))) st M d u) : mm_Z p l e R s m args below meth c Qm nL D E Ad A pc ls (.inr (.inr v) :: st) M d u := by
  intro H locs L hL hP hD hS
  rw [List.map_cons]
  have h1 : ∀ {L' : Array Slot} {lv' : List (Nat × Value)}, (n, mm_cc Ad (.inr (.inr v))) :: (mm_as Ad ls 0).filter (fun q => !(q.1 == n) && !(q.1 + 1 == n && q.2.category == 2)) = lv' → lv_has L' nL lv' → mm_Lo Ad nL (mm_set ls n (some (.inr (.inr v)))) L' := fun a b => mm_lo_set hL hx a b
  rcases mm_rcases Ad v with h | ⟨q, h⟩ <;> rw [h] at h1 ⊢
  · exact lv_astoreN X.1 X.2.1 hd (mm_lo_has hL) (mm_lo_lt hL hx) rfl fun L' h' => k H locs L' (h1 rfl h') hP hD hS
  · exact lv_astore X.1 X.2.1 hd (mm_lo_has hL) (mm_lo_lt hL hx) rfl fun L' h' => k H locs L' (h1 rfl h') hP hD hS
theorem mz_astore_n {n : Fin 4} {v : Nat ⊕ Nat} (X : mm_Cx p s m args c cc own nL Ts D E A) (hd : decode cc pc = .ok (.astore_n n, 1)) (hx : mm_ok ls n.val = true) (k : mm_Z p l e R s m args below meth c Qm nL D E Ad A (pc + 1) (mm_set ls n.val (some (.inr (.inr v)))) st M d u) : mm_Z p l e R s m args below meth c Qm nL D E Ad A pc ls (.inr (.inr v) :: st) M d u := by
  intro H locs L hL hP hD hS
  rw [List.map_cons]
  have h1 : ∀ {L' : Array Slot} {lv' : List (Nat × Value)}, (n.val, mm_cc Ad (.inr (.inr v))) :: (mm_as Ad ls 0).filter (fun q => !(q.1 == n.val) && !(q.1 + 1 == n.val && q.2.category == 2)) = lv' → lv_has L' nL lv' → mm_Lo Ad nL (mm_set ls n.val (some (.inr (.inr v)))) L' := fun a b => mm_lo_set hL hx a b
  rcases mm_rcases Ad v with h | ⟨q, h⟩ <;> rw [h] at h1 ⊢
  · exact lv_astore_nN X.1 X.2.1 hd rfl (mm_lo_has hL) (mm_lo_lt hL hx) rfl fun L' h' => k H locs L' (h1 rfl h') hP hD hS
  · exact lv_astore_n X.1 X.2.1 hd rfl (mm_lo_has hL) (mm_lo_lt hL hx) rfl fun L' h' => k H locs L' (h1 rfl h') hP hD hS
theorem mm_nth_lt {α : Type} : ∀ {l : List α} {n : Nat} {x : α}, mm_nth l n = some x → n < l.length
  | [], n, x, h => by simp [mm_nth] at h
  | a :: l, 0, x, h => by simp
  | a :: l, n + 1, x, h => by simpa using mm_nth_lt (l := l) h
theorem mz_iinc {n : Nat} {x y : Int} (X : mm_Cx p s m args c cc own nL Ts D E A) (hd : decode cc pc = .ok (.iinc n x, 3)) (hx : mm_nth ls n = some (some (mm_I y))) (hk : mm_ok ls n = true) (k : mm_Z p l e R s m args below meth c Qm nL D E Ad A (pc + 3) (mm_set ls n (some (mm_I (y + x)))) st M d u) : mm_Z p l e R s m args below meth c Qm nL D E Ad A pc ls st M d u := by
  intro H locs L hL hP hD hS
  obtain ⟨j, hj⟩ := List.getElem?_of_mem ((mm_as_mem (Ad := Ad) (q := (n, mm_cc Ad (mm_I y))) ls 0).mpr ⟨n, _, hx, by simp⟩)
  refine lv_iinc (v := Int32.ofInt (y + x)) X.1 X.2.1 hd (mm_lo_has hL) (k := j) hj (by rw [Int32.ofInt_add]) (mm_lo_lt hL hk) rfl fun L' h' => k H locs L' (mm_lo_set (v := mm_I (y + x)) hL hk rfl h') hP hD hS
theorem mz_iadd {x y : Int} (X : mm_Cx p s m args c cc own nL Ts D E A) (hd : decode cc pc = .ok (.iadd, 1)) (k : mm_Z p l e R s m args below meth c Qm nL D E Ad A (pc + 1) ls (mm_I (x + y) :: st) M d u) : mm_Z p l e R s m args below meth c Qm nL D E Ad A pc ls (mm_I y :: mm_I x :: st) M d u :=
  fun H locs L hL hP hD hS => lv_iadd X.1 X.2.1 hd (by rw [← Int32.ofInt_add]; exact k H locs L hL hP hD hS)
theorem mz_isub {x y : Int} (X : mm_Cx p s m args c cc own nL Ts D E A) (hd : decode cc pc = .ok (.isub, 1)) (k : mm_Z p l e R s m args below meth c Qm nL D E Ad A (pc + 1) ls (mm_I (x - y) :: st) M d u) : mm_Z p l e R s m args below meth c Qm nL D E Ad A pc ls (mm_I y :: mm_I x :: st) M d u :=
  fun H locs L hL hP hD hS => lv_isub X.1 X.2.1 hd (by rw [← Int32.ofInt_sub]; exact k H locs L hL hP hD hS)
theorem mz_imul {x y : Int} (X : mm_Cx p s m args c cc own nL Ts D E A) (hd : decode cc pc = .ok (.imul, 1)) (k : mm_Z p l e R s m args below meth c Qm nL D E Ad A (pc + 1) ls (mm_I (x * y) :: st) M d u) : mm_Z p l e R s m args below meth c Qm nL D E Ad A pc ls (mm_I y :: mm_I x :: st) M d u :=
  fun H locs L hL hP hD hS => lv_imul X.1 X.2.1 hd (by rw [← Int32.ofInt_mul]; exact k H locs L hL hP hD hS)
theorem mz_ineg {x : Int} (X : mm_Cx p s m args c cc own nL Ts D E A) (hd : decode cc pc = .ok (.ineg, 1)) (k : mm_Z p l e R s m args below meth c Qm nL D E Ad A (pc + 1) ls (mm_I (-x) :: st) M d u) : mm_Z p l e R s m args below meth c Qm nL D E Ad A pc ls (mm_I x :: st) M d u :=
  fun H locs L hL hP hD hS => lv_ineg X.1 X.2.1 hd (by rw [← Int32.ofInt_neg]; exact k H locs L hL hP hD hS)
theorem mz_iand {x y : Int} (X : mm_Cx p s m args c cc own nL Ts D E A) (hd : decode cc pc = .ok (.iand, 1)) (k : mm_Z p l e R s m args below meth c Qm nL D E Ad A (pc + 1) ls (mm_I (mm_and x y) :: st) M d u) : mm_Z p l e R s m args below meth c Qm nL D E Ad A pc ls (mm_I y :: mm_I x :: st) M d u :=
  fun H locs L hL hP hD hS => lv_iand X.1 X.2.1 hd (by have h := k H locs L hL hP hD hS; simp only [List.map_cons, mm_cc, mm_and, Int32.ofInt_toInt] at h; exact h)
theorem mz_ior {x y : Int} (X : mm_Cx p s m args c cc own nL Ts D E A) (hd : decode cc pc = .ok (.ior, 1)) (k : mm_Z p l e R s m args below meth c Qm nL D E Ad A (pc + 1) ls (mm_I (mm_or x y) :: st) M d u) : mm_Z p l e R s m args below meth c Qm nL D E Ad A pc ls (mm_I y :: mm_I x :: st) M d u :=
  fun H locs L hL hP hD hS => lv_ior X.1 X.2.1 hd (by have h := k H locs L hL hP hD hS; simp only [List.map_cons, mm_cc, mm_or, Int32.ofInt_toInt] at h; exact h)
theorem mz_ixor {x y : Int} (X : mm_Cx p s m args c cc own nL Ts D E A) (hd : decode cc pc = .ok (.ixor, 1)) (k : mm_Z p l e R s m args below meth c Qm nL D E Ad A (pc + 1) ls (mm_I (mm_xor x y) :: st) M d u) : mm_Z p l e R s m args below meth c Qm nL D E Ad A pc ls (mm_I y :: mm_I x :: st) M d u :=
  fun H locs L hL hP hD hS => lv_ixor X.1 X.2.1 hd (by have h := k H locs L hL hP hD hS; simp only [List.map_cons, mm_cc, mm_xor, Int32.ofInt_toInt] at h; exact h)
theorem mm_ne0 {y : Int} (hy : InI y) (h : 0 < y) : ¬ Int32.ofInt y = 0 := fun q => by
  have := (mm_inj hy mm_i0).mp q
  omega
theorem mz_idiv {x y : Int} (X : mm_Cx p s m args c cc own nL Ts D E A) (hd : decode cc pc = .ok (.idiv, 1)) (hx : InI x) (hy : InI y) (h0 : 0 < y) (k : mm_Z p l e R s m args below meth c Qm nL D E Ad A (pc + 1) ls (mm_I (x.tdiv y) :: st) M d u) : mm_Z p l e R s m args below meth c Qm nL D E Ad A pc ls (mm_I y :: mm_I x :: st) M d u :=
  fun H locs L hL hP hD hS => lv_idiv X.1 X.2.1 hd (mm_ne0 hy h0) (by rw [mm_div hx hy h0]; exact k H locs L hL hP hD hS)
theorem mz_irem {x y : Int} (X : mm_Cx p s m args c cc own nL Ts D E A) (hd : decode cc pc = .ok (.irem, 1)) (hx : InI x) (hy : InI y) (h0 : 0 < y) (k : mm_Z p l e R s m args below meth c Qm nL D E Ad A (pc + 1) ls (mm_I (x.tmod y) :: st) M d u) : mm_Z p l e R s m args below meth c Qm nL D E Ad A pc ls (mm_I y :: mm_I x :: st) M d u :=
  fun H locs L hL hP hD hS => lv_irem X.1 X.2.1 hd (mm_ne0 hy h0) (by rw [mm_rem hx hy h0]; exact k H locs L hL hP hD hS)
theorem mz_ishl {x y : Int} (X : mm_Cx p s m args c cc own nL Ts D E A) (hd : decode cc pc = .ok (.ishl, 1)) (h0 : 0 ≤ y ∧ y < 32) (k : mm_Z p l e R s m args below meth c Qm nL D E Ad A (pc + 1) ls (mm_I (x * 2 ^ y.toNat) :: st) M d u) : mm_Z p l e R s m args below meth c Qm nL D E Ad A pc ls (mm_I y :: mm_I x :: st) M d u :=
  fun H locs L hL hP hD hS => lv_ishl X.1 X.2.1 hd (by rw [mm_shl h0]; exact k H locs L hL hP hD hS)
theorem mz_ishr {x y : Int} (X : mm_Cx p s m args c cc own nL Ts D E A) (hd : decode cc pc = .ok (.ishr, 1)) (hx : InI x) (h0 : 0 ≤ y ∧ y < 32) (k : mm_Z p l e R s m args below meth c Qm nL D E Ad A (pc + 1) ls (mm_I (x / 2 ^ y.toNat) :: st) M d u) : mm_Z p l e R s m args below meth c Qm nL D E Ad A pc ls (mm_I y :: mm_I x :: st) M d u :=
  fun H locs L hL hP hD hS => lv_ishr X.1 X.2.1 hd (by rw [mm_shr hx h0]; exact k H locs L hL hP hD hS)
theorem mz_i2l {x : Int} (X : mm_Cx p s m args c cc own nL Ts D E A) (hd : decode cc pc = .ok (.i2l, 1)) (k : mm_Z p l e R s m args below meth c Qm nL D E Ad A (pc + 1) ls (mm_L (mm_w x) :: st) M d u) : mm_Z p l e R s m args below meth c Qm nL D E Ad A pc ls (mm_I x :: st) M d u :=
  fun H locs L hL hP hD hS => lv_i2l (v := Int64.ofInt (mm_w x)) X.1 X.2.1 hd (by
    apply Int64.toInt_inj.mp
    have h1 := Int32.le_toInt (Int32.ofInt x)
    have h2 := Int32.toInt_lt (Int32.ofInt x)
    unfold mm_w
    rw [Int32.toInt_toInt64, mm_toL ⟨by omega, by omega⟩]) (k H locs L hL hP hD hS)
theorem mz_ladd {x y : Int} (X : mm_Cx p s m args c cc own nL Ts D E A) (hd : decode cc pc = .ok (.ladd, 1)) (k : mm_Z p l e R s m args below meth c Qm nL D E Ad A (pc + 1) ls (mm_L (x + y) :: st) M d u) : mm_Z p l e R s m args below meth c Qm nL D E Ad A pc ls (mm_L y :: mm_L x :: st) M d u :=
  fun H locs L hL hP hD hS => lv_ladd X.1 X.2.1 hd (by rw [← Int64.ofInt_add]; exact k H locs L hL hP hD hS)
theorem mz_lmul {x y : Int} (X : mm_Cx p s m args c cc own nL Ts D E A) (hd : decode cc pc = .ok (.lmul, 1)) (k : mm_Z p l e R s m args below meth c Qm nL D E Ad A (pc + 1) ls (mm_L (x * y) :: st) M d u) : mm_Z p l e R s m args below meth c Qm nL D E Ad A pc ls (mm_L y :: mm_L x :: st) M d u :=
  fun H locs L hL hP hD hS => lv_lmul X.1 X.2.1 hd (by rw [← Int64.ofInt_mul]; exact k H locs L hL hP hD hS)
theorem mz_lcmp {x y : Int} (X : mm_Cx p s m args c cc own nL Ts D E A) (hd : decode cc pc = .ok (.lcmp, 1)) (hx : x = y ∨ (InL x ∧ InL y)) (k : mm_Z p l e R s m args below meth c Qm nL D E Ad A (pc + 1) ls (mm_I (if x = y then 0 else if x < y then -1 else 1) :: st) M d u) : mm_Z p l e R s m args below meth c Qm nL D E Ad A pc ls (mm_L y :: mm_L x :: st) M d u :=
  fun H locs L hL hP hD hS => W.lcmp X.1 X.2.1 hd (by
    have e1 : lg_cmp (Int64.ofInt x) (Int64.ofInt y) = Int32.ofInt (if x = y then 0 else if x < y then -1 else 1) := by
      unfold lg_cmp
      rcases hx with h | ⟨h1, h2⟩
      · subst h
        simp [Int64.lt_iff_toInt_lt]
      · simp only [gt_iff_lt, Int64.lt_iff_toInt_lt, ← Int64.toInt_inj, mm_toL h1, mm_toL h2]
        by_cases a : x = y
        · simp [a]
        · by_cases b : x < y
          · rw [if_neg (by omega), if_neg a, if_neg a, if_pos b]; rfl
          · rw [if_pos (by omega), if_neg a, if_neg b]; rfl
    rw [e1]; exact k H locs L hL hP hD hS)
theorem mz_dup {v : mm_V} (X : mm_Cx p s m args c cc own nL Ts D E A) (hd : decode cc pc = .ok (.dup, 1)) (hv : mm_cat v = 1) (k : mm_Z p l e R s m args below meth c Qm nL D E Ad A (pc + 1) ls (v :: v :: st) M d u) : mm_Z p l e R s m args below meth c Qm nL D E Ad A pc ls (v :: st) M d u :=
  fun H locs L hL hP hD hS => lv_dup X.1 X.2.1 hd (by rw [mm_catv]; exact hv) (k H locs L hL hP hD hS)
theorem mz_dup2 {v w : mm_V} (X : mm_Cx p s m args c cc own nL Ts D E A) (hd : decode cc pc = .ok (.dup2, 1)) (hv : mm_cat v = 1) (hw : mm_cat w = 1) (k : mm_Z p l e R s m args below meth c Qm nL D E Ad A (pc + 1) ls (v :: w :: v :: w :: st) M d u) : mm_Z p l e R s m args below meth c Qm nL D E Ad A pc ls (v :: w :: st) M d u :=
  fun H locs L hL hP hD hS => lv_dup2_11 X.1 X.2.1 hd (by rw [mm_catv]; exact hv) (by rw [mm_catv]; exact hw) (k H locs L hL hP hD hS)
theorem mz_pop {v : mm_V} (X : mm_Cx p s m args c cc own nL Ts D E A) (hd : decode cc pc = .ok (.pop, 1)) (hv : mm_cat v = 1) (k : mm_Z p l e R s m args below meth c Qm nL D E Ad A (pc + 1) ls st M d u) : mm_Z p l e R s m args below meth c Qm nL D E Ad A pc ls (v :: st) M d u :=
  fun H locs L hL hP hD hS => lv_pop X.1 X.2.1 hd (by rw [mm_catv]; exact hv) (k H locs L hL hP hD hS)
theorem mz_pop2 {x : Int} (X : mm_Cx p s m args c cc own nL Ts D E A) (hd : decode cc pc = .ok (.pop2, 1)) (k : mm_Z p l e R s m args below meth c Qm nL D E Ad A (pc + 1) ls st M d u) : mm_Z p l e R s m args below meth c Qm nL D E Ad A pc ls (mm_L x :: st) M d u :=
  fun H locs L hL hP hD hS => lv_pop2_2 (va := mm_cc Ad (mm_L x)) X.1 X.2.1 hd rfl (k H locs L hL hP hD hS)
theorem mz_goto {o : Int} (X : mm_Cx p s m args c cc own nL Ts D E A) (hd : decode cc pc = .ok (.goto o, 3)) (ht : (pc : Int) + o = (tgt : Int)) (k : mm_Z p l e R s m args below meth c Qm nL D E Ad A tgt ls st M d u) : mm_Z p l e R s m args below meth c Qm nL D E Ad A pc ls st M d u :=
  fun H locs L hL hP hD hS => lv_goto X.1 X.2.1 hd ht (k H locs L hL hP hD hS)
theorem mz_icmp_eq {x y o : Int} (X : mm_Cx p s m args c cc own nL Ts D E A) (hd : decode cc pc = .ok (.if_icmp .eq o, 3)) (ht : (pc : Int) + o = (tgt : Int)) (hx : InI x) (hy : InI y) (kt : x = y → mm_Z p l e R s m args below meth c Qm nL D E Ad A tgt ls st M d u) (kf : x ≠ y → mm_Z p l e R s m args below meth c Qm nL D E Ad A (pc + 3) ls st M d u) : mm_Z p l e R s m args below meth c Qm nL D E Ad A pc ls (mm_I y :: mm_I x :: st) M d u :=
  fun H locs L hL hP hD hS => lv_icmp_eq X.1 X.2.1 hd ht (fun q => kt ((mm_inj hx hy).mp q) H locs L hL hP hD hS) (fun q => kf (fun h => q ((mm_inj hx hy).mpr h)) H locs L hL hP hD hS)
theorem mz_if_eq {x o : Int} (X : mm_Cx p s m args c cc own nL Ts D E A) (hd : decode cc pc = .ok (.ifCond .eq o, 3)) (ht : (pc : Int) + o = (tgt : Int)) (hx : InI x) (kt : x = 0 → mm_Z p l e R s m args below meth c Qm nL D E Ad A tgt ls st M d u) (kf : x ≠ 0 → mm_Z p l e R s m args below meth c Qm nL D E Ad A (pc + 3) ls st M d u) : mm_Z p l e R s m args below meth c Qm nL D E Ad A pc ls (mm_I x :: st) M d u :=
  have hy := mm_i0
  fun H locs L hL hP hD hS => lv_if_eq X.1 X.2.1 hd ht (fun q => kt ((mm_inj hx hy).mp q) H locs L hL hP hD hS) (fun q => kf (fun h => q ((mm_inj hx hy).mpr h)) H locs L hL hP hD hS)
theorem mz_icmp_ne {x y o : Int} (X : mm_Cx p s m args c cc own nL Ts D E A) (hd : decode cc pc = .ok (.if_icmp .ne o, 3)) (ht : (pc : Int) + o = (tgt : Int)) (hx : InI x) (hy : InI y) (kt : x ≠ y → mm_Z p l e R s m args below meth c Qm nL D E Ad A tgt ls st M d u) (kf : x = y → mm_Z p l e R s m args below meth c Qm nL D E Ad A (pc + 3) ls st M d u) : mm_Z p l e R s m args below meth c Qm nL D E Ad A pc ls (mm_I y :: mm_I x :: st) M d u :=
  fun H locs L hL hP hD hS => lv_icmp_ne X.1 X.2.1 hd ht (fun q => kt (fun h => q ((mm_inj hx hy).mpr h)) H locs L hL hP hD hS) (fun q => kf ((mm_inj hx hy).mp q) H locs L hL hP hD hS)
theorem mz_if_ne {x o : Int} (X : mm_Cx p s m args c cc own nL Ts D E A) (hd : decode cc pc = .ok (.ifCond .ne o, 3)) (ht : (pc : Int) + o = (tgt : Int)) (hx : InI x) (kt : x ≠ 0 → mm_Z p l e R s m args below meth c Qm nL D E Ad A tgt ls st M d u) (kf : x = 0 → mm_Z p l e R s m args below meth c Qm nL D E Ad A (pc + 3) ls st M d u) : mm_Z p l e R s m args below meth c Qm nL D E Ad A pc ls (mm_I x :: st) M d u :=
  have hy := mm_i0
  fun H locs L hL hP hD hS => lv_if_ne X.1 X.2.1 hd ht (fun q => kt (fun h => q ((mm_inj hx hy).mpr h)) H locs L hL hP hD hS) (fun q => kf ((mm_inj hx hy).mp q) H locs L hL hP hD hS)
theorem mz_icmp_lt {x y o : Int} (X : mm_Cx p s m args c cc own nL Ts D E A) (hd : decode cc pc = .ok (.if_icmp .lt o, 3)) (ht : (pc : Int) + o = (tgt : Int)) (hx : InI x) (hy : InI y) (kt : x < y → mm_Z p l e R s m args below meth c Qm nL D E Ad A tgt ls st M d u) (kf : y ≤ x → mm_Z p l e R s m args below meth c Qm nL D E Ad A (pc + 3) ls st M d u) : mm_Z p l e R s m args below meth c Qm nL D E Ad A pc ls (mm_I y :: mm_I x :: st) M d u :=
  fun H locs L hL hP hD hS => lv_icmp_lt X.1 X.2.1 hd ht (fun q => kt ((mm_lt hx hy).mp q) H locs L hL hP hD hS) (fun q => kf (Int.not_lt.mp fun h => q ((mm_lt hx hy).mpr h)) H locs L hL hP hD hS)
theorem mz_if_lt {x o : Int} (X : mm_Cx p s m args c cc own nL Ts D E A) (hd : decode cc pc = .ok (.ifCond .lt o, 3)) (ht : (pc : Int) + o = (tgt : Int)) (hx : InI x) (kt : x < 0 → mm_Z p l e R s m args below meth c Qm nL D E Ad A tgt ls st M d u) (kf : 0 ≤ x → mm_Z p l e R s m args below meth c Qm nL D E Ad A (pc + 3) ls st M d u) : mm_Z p l e R s m args below meth c Qm nL D E Ad A pc ls (mm_I x :: st) M d u :=
  have hy := mm_i0
  fun H locs L hL hP hD hS => lv_if_lt X.1 X.2.1 hd ht (fun q => kt ((mm_lt hx hy).mp q) H locs L hL hP hD hS) (fun q => kf (Int.not_lt.mp fun h => q ((mm_lt hx hy).mpr h)) H locs L hL hP hD hS)
theorem mz_icmp_ge {x y o : Int} (X : mm_Cx p s m args c cc own nL Ts D E A) (hd : decode cc pc = .ok (.if_icmp .ge o, 3)) (ht : (pc : Int) + o = (tgt : Int)) (hx : InI x) (hy : InI y) (kt : y ≤ x → mm_Z p l e R s m args below meth c Qm nL D E Ad A tgt ls st M d u) (kf : x < y → mm_Z p l e R s m args below meth c Qm nL D E Ad A (pc + 3) ls st M d u) : mm_Z p l e R s m args below meth c Qm nL D E Ad A pc ls (mm_I y :: mm_I x :: st) M d u :=
  fun H locs L hL hP hD hS => lv_icmp_ge X.1 X.2.1 hd ht (fun q => kt ((mm_le hy hx).mp q) H locs L hL hP hD hS) (fun q => kf (Int.not_le.mp fun h => q ((mm_le hy hx).mpr h)) H locs L hL hP hD hS)
theorem mz_if_ge {x o : Int} (X : mm_Cx p s m args c cc own nL Ts D E A) (hd : decode cc pc = .ok (.ifCond .ge o, 3)) (ht : (pc : Int) + o = (tgt : Int)) (hx : InI x) (kt : 0 ≤ x → mm_Z p l e R s m args below meth c Qm nL D E Ad A tgt ls st M d u) (kf : x < 0 → mm_Z p l e R s m args below meth c Qm nL D E Ad A (pc + 3) ls st M d u) : mm_Z p l e R s m args below meth c Qm nL D E Ad A pc ls (mm_I x :: st) M d u :=
  have hy := mm_i0
  fun H locs L hL hP hD hS => lv_if_ge X.1 X.2.1 hd ht (fun q => kt ((mm_le hy hx).mp q) H locs L hL hP hD hS) (fun q => kf (Int.not_le.mp fun h => q ((mm_le hy hx).mpr h)) H locs L hL hP hD hS)
theorem mz_icmp_gt {x y o : Int} (X : mm_Cx p s m args c cc own nL Ts D E A) (hd : decode cc pc = .ok (.if_icmp .gt o, 3)) (ht : (pc : Int) + o = (tgt : Int)) (hx : InI x) (hy : InI y) (kt : y < x → mm_Z p l e R s m args below meth c Qm nL D E Ad A tgt ls st M d u) (kf : x ≤ y → mm_Z p l e R s m args below meth c Qm nL D E Ad A (pc + 3) ls st M d u) : mm_Z p l e R s m args below meth c Qm nL D E Ad A pc ls (mm_I y :: mm_I x :: st) M d u :=
  fun H locs L hL hP hD hS => lv_icmp_gt X.1 X.2.1 hd ht (fun q => kt ((mm_lt hy hx).mp q) H locs L hL hP hD hS) (fun q => kf (Int.not_lt.mp fun h => q ((mm_lt hy hx).mpr h)) H locs L hL hP hD hS)
theorem mz_if_gt {x o : Int} (X : mm_Cx p s m args c cc own nL Ts D E A) (hd : decode cc pc = .ok (.ifCond .gt o, 3)) (ht : (pc : Int) + o = (tgt : Int)) (hx : InI x) (kt : 0 < x → mm_Z p l e R s m args below meth c Qm nL D E Ad A tgt ls st M d u) (kf : x ≤ 0 → mm_Z p l e R s m args below meth c Qm nL D E Ad A (pc + 3) ls st M d u) : mm_Z p l e R s m args below meth c Qm nL D E Ad A pc ls (mm_I x :: st) M d u :=
  have hy := mm_i0
  fun H locs L hL hP hD hS => lv_if_gt X.1 X.2.1 hd ht (fun q => kt ((mm_lt hy hx).mp q) H locs L hL hP hD hS) (fun q => kf (Int.not_lt.mp fun h => q ((mm_lt hy hx).mpr h)) H locs L hL hP hD hS)
theorem mz_icmp_le {x y o : Int} (X : mm_Cx p s m args c cc own nL Ts D E A) (hd : decode cc pc = .ok (.if_icmp .le o, 3)) (ht : (pc : Int) + o = (tgt : Int)) (hx : InI x) (hy : InI y) (kt : x ≤ y → mm_Z p l e R s m args below meth c Qm nL D E Ad A tgt ls st M d u) (kf : y < x → mm_Z p l e R s m args below meth c Qm nL D E Ad A (pc + 3) ls st M d u) : mm_Z p l e R s m args below meth c Qm nL D E Ad A pc ls (mm_I y :: mm_I x :: st) M d u :=
  fun H locs L hL hP hD hS => lv_icmp_le X.1 X.2.1 hd ht (fun q => kt ((mm_le hx hy).mp q) H locs L hL hP hD hS) (fun q => kf (Int.not_le.mp fun h => q ((mm_le hx hy).mpr h)) H locs L hL hP hD hS)
theorem mz_if_le {x o : Int} (X : mm_Cx p s m args c cc own nL Ts D E A) (hd : decode cc pc = .ok (.ifCond .le o, 3)) (ht : (pc : Int) + o = (tgt : Int)) (hx : InI x) (kt : x ≤ 0 → mm_Z p l e R s m args below meth c Qm nL D E Ad A tgt ls st M d u) (kf : 0 < x → mm_Z p l e R s m args below meth c Qm nL D E Ad A (pc + 3) ls st M d u) : mm_Z p l e R s m args below meth c Qm nL D E Ad A pc ls (mm_I x :: st) M d u :=
  have hy := mm_i0
  fun H locs L hL hP hD hS => lv_if_le X.1 X.2.1 hd ht (fun q => kt ((mm_le hx hy).mp q) H locs L hL hP hD hS) (fun q => kf (Int.not_le.mp fun h => q ((mm_le hx hy).mpr h)) H locs L hL hP hD hS)
end MZ
end
section
/-! fields, rows, references; then one theorem over all steps -/
def mm_FL (own : String) (rc n idx : Nat) : Jvm.Cond := match mm_cl[rc - 10]? with
  | some (_, T, _) => .fieldLink own idx (T n).1 (T n).2.1 (T n).2.2.1
  | none => .initialized own
def mm_FN (own host : String) (rc n idx : Nat) : Jvm.Cond := match mm_cl[rc - 10]? with
  | some (_, T, _) => .fieldLinkNest own idx (T n).1 (T n).2.1 (T n).2.2.1 host
  | none => .initialized own
def mm_fk (ft : Nat) (ty : FieldType) (fin : Bool) : Bool :=
  match ft, ty with
  | 0, .int => !fin
  | 1, .boolean => !fin
  | 2, .long => !fin
  | 3, .object _ => !fin
  | 3, .array _ => !fin
  | 4, .object _ => !fin
  | 5, _ => fin
  | 6, _ => fin
  | 7, .byte => !fin
  | 8, .array _ => fin
  | 9, .byte => fin
  | _, _ => false
def mm_fk2 (q : Option (Nat × Nat)) (ty : FieldType) (fin : Bool) : Bool := match q with
  | some (ft, _) => mm_fk ft ty fin
  | none => false
def mm_cf (rc n ft : Nat) : Prop := ∃ (C : String) (T : u_T) (N : Nat) (t : Nat → FieldType), mm_cl[rc - 10]? = some (C, T, N) ∧ 10 ≤ rc ∧ n < N ∧ n < (mm_ft rc).length ∧ (∀ k, k < N → parseFieldDescriptor (T k).2.2.1 = some (t k)) ∧ (∀ a, a < N → ∀ b, b < N → a ≠ b → (T a).2.1 ≠ (T b).2.1) ∧ mm_fk ft (t n) (T n).2.2.2 = true
theorem mm_cls (rc n ft base : Nat) (h : mm_nth (mm_ft rc) n = some (ft, base)) : mm_cf rc n ft := by
  have hl := mm_nth_lt h
  match rc, h, hl with
  | 10, h, hl =>
    have h1 := (by decide +kernel : ∀ n, n < 7 → mm_fk2 (mm_nth (mm_ft 10) n) (tyX3 n) (TX3 n).2.2.2 = true) n hl
    rw [h] at h1
    exact ⟨_, _, _, tyX3, rfl, by decide, hl, hl, tyX3_ok, nmX3, h1⟩
  | 11, h, hl =>
    have h1 := (by decide +kernel : ∀ n, n < 8 → mm_fk2 (mm_nth (mm_ft 11) n) (tyX1 n) (TX1 n).2.2.2 = true) n hl
    rw [h] at h1
    exact ⟨_, _, _, tyX1, rfl, by decide, hl, hl, tyX1_ok, nmX1, h1⟩
  | 12, h, hl =>
    have h1 := (by decide +kernel : ∀ n, n < 4 → mm_fk2 (mm_nth (mm_ft 12) n) (tyX2 n) (TX2 n).2.2.2 = true) n hl
    rw [h] at h1
    exact ⟨_, _, _, tyX2, rfl, by decide, hl, hl, tyX2_ok, nmX2, h1⟩
  | 13, h, hl =>
    have h1 := (by decide +kernel : ∀ n, n < 5 → mm_fk2 (mm_nth (mm_ft 13) n) (tyX0 n) (TX0 n).2.2.2 = true) n hl
    rw [h] at h1
    exact ⟨_, _, _, tyX0, rfl, by decide, hl, hl, tyX0_ok, nmX0, h1⟩
  | 14, h, hl =>
    have h1 := (by decide +kernel : ∀ n, n < 17 → mm_fk2 (mm_nth (mm_ft 14) n) (tyX5 n) (TX5 n).2.2.2 = true) n hl
    rw [h] at h1
    exact ⟨_, _, _, tyX5, rfl, by decide, hl, hl, tyX5_ok, nmX5, h1⟩
  | 15, h, hl =>
    have h1 := (by decide +kernel : ∀ n, n < 2 → mm_fk2 (mm_nth (mm_ft 15) n) (tyX4 n) (TX4 n).2.2.2 = true) n hl
    rw [h] at h1
    exact ⟨_, _, _, tyX4, rfl, by decide, hl, hl, tyX4_ok, nmX4, h1⟩
  | 16, h, hl =>
    have h1 := (by decide +kernel : ∀ n, n < 4 → mm_fk2 (mm_nth (mm_ft 16) n) (tyXB n) (TXB n).2.2.2 = true) n hl
    rw [h] at h1
    exact ⟨_, _, _, tyXB, rfl, by decide, hl, hl, tyXB_ok, nmXB, h1⟩
  | 17, h, hl =>
    have h1 := (by decide +kernel : ∀ n, n < 4 → mm_fk2 (mm_nth (mm_ft 17) n) (tyXS n) (TXS n).2.2.2 = true) n hl
    rw [h] at h1
    exact ⟨_, _, _, tyXS, rfl, by decide, hl, hl, tyXS_ok, nmXS, h1⟩
  | 0, h, hl => simp [mm_ft] at hl
  | 1, h, hl => simp [mm_ft] at hl
  | 2, h, hl => simp [mm_ft] at hl
  | 3, h, hl => simp [mm_ft] at hl
  | 4, h, hl => simp [mm_ft] at hl
  | 5, h, hl => simp [mm_ft] at hl
  | 6, h, hl => simp [mm_ft] at hl
  | 7, h, hl => simp [mm_ft] at hl
  | 8, h, hl => simp [mm_ft] at hl
  | 9, h, hl => simp [mm_ft] at hl
  | rc + 18, h, hl => simp [mm_ft] at hl
theorem mm_el_obj {E : mm_En} {Ad : Nat → Nat} {M : mm_M} {o rc : Nat} (h : mm_kd M o = rc) (h10 : 10 ≤ rc) : mm_el E Ad M o = .inr (rc - 10, mm_fs Ad M o (mm_ft rc)) := by
  obtain ⟨k, rfl⟩ : ∃ k, rc = k + 10 := ⟨rc - 10, by omega⟩
  simp only [mm_el, h]
theorem mm_nth_eq {α : Type} : ∀ (l : List α) (n : Nat), mm_nth l n = l[n]?
  | [], n => by simp [mm_nth]
  | a :: l, 0 => by simp [mm_nth]
  | a :: l, n + 1 => by simp [mm_nth, mm_nth_eq l n]
theorem mm_fs_get {Ad : Nat → Nat} {M : mm_M} {o n ft base : Nat} {l : List (Nat × Nat)} (h : mm_nth l n = some (ft, base)) : (mm_fs Ad M o l)[n]? = some (mm_cc Ad (mm_fv ft base o (M o n))) := by
  rw [mm_nth_eq] at h
  simp [mm_fs, List.getElem?_mapIdx, h]
theorem mm_fs_set {Ad : Nat → Nat} {M : mm_M} {o n ft base : Nat} {x : Int} {l : List (Nat × Nat)} {v : Value} (h : mm_nth l n = some (ft, base)) (hv : v = mm_cc Ad (mm_fv ft base o x)) : (mm_fs Ad M o l).set n v = mm_fs Ad (mm_up M o n x) o l := by
  rw [mm_nth_eq] at h
  have hlt := (List.getElem?_eq_some_iff.mp h).1
  apply List.ext_getElem?
  intro k
  by_cases hk : k = n
  · subst hk
    rw [List.getElem?_set_self (by simpa [mm_fs] using hlt)]
    simp [mm_fs, List.getElem?_mapIdx, h, mm_up, hv]
  · rw [List.getElem?_set_ne (Ne.symm hk)]
    simp [mm_fs, List.getElem?_mapIdx, mm_up, hk]
theorem mm_up_o {M : mm_M} {o n : Nat} {x : Int} : ∀ y, y ≠ o → mm_up M o n x y = M y := by
  intro y hy
  funext k
  simp [mm_up, hy]
theorem mm_is0 {M : mm_M} {d : List Nat} {o rc : Nat} (h : mm_is M d o (rc + 1)) : o ≠ 0 := by
  intro e
  subst e
  have h1 : mm_kd M 0 = rc + 1 := h.1
  have h2 : mm_kd M 0 = 0 := rfl
  omega
section MZ
variable {p : Program} {l : Launch} {e : Env} {R : Room} {s : State} {m : MethodId} {args : Array Value} {below : List Frame} {meth : Method} {c : Code} {Qm : State → Prop}
variable {cc : ByteArray} {own : String} {nL : Nat} {Ts : List Jvm.Cond} {D : va_G} {E : mm_En} {Ad : Nat → Nat} {A : Nat → Prop}
variable {pc tgt : Nat} {ls : mm_Ls} {st : List mm_V} {M : mm_M} {d : List Nat} {u : Nat}
/-- a field's link: plain, or of a nest mate -/
def mm_lk (own : String) (Ts : List Jvm.Cond) (rc n idx : Nat) : Prop := mm_FL own rc n idx ∈ Ts ∨ ∃ host, mm_FN own host rc n idx ∈ Ts
def mm_rcn (rc : Nat) : String := if rc = 16 then RXB else RXS
def mm_sn (c : Nat) : String × String × String := if c = 0 then (RXS, "COMPACT_STRINGS", "Z") else if c = 24 then ("java/lang/Integer", "DigitOnes", "[B") else ("java/lang/Integer", "DigitTens", "[B")
def mm_acW (own : String) (k : Nat) : List Jvm.Cond := [.methodLink own k arraycopyName, .native arraycopyName, .static arraycopyName, .initialized "java/lang/System"]
def mm_clW (own : String) (k : Nat) : List Jvm.Cond := [.methodLink own k ⟨"[B", "clone", "()Ljava/lang/Object;"⟩, .sameMethod "[B" "java/lang/Object" "clone" "()Ljava/lang/Object;", .native ⟨"java/lang/Object", "clone", "()Ljava/lang/Object;"⟩, .instanceMethod ⟨"java/lang/Object", "clone", "()Ljava/lang/Object;"⟩, .selects "[B" ⟨"[B", "clone", "()Ljava/lang/Object;"⟩ ⟨"java/lang/Object", "clone", "()Ljava/lang/Object;"⟩]
/-- the words of the other entries of a pool: 99 a class that is made, 98 a static field, 97 a text, 96 a number, 95 arraycopy, 94 a row's clone, 93 a cast to byte rows, 92 a text's field, 91 the same as it is made, 90 Object's constructor -/
def mm_wk (own : String) (rc n k : Nat) : List Jvm.Cond := match n with
  | 99 => [.classLink own k (mm_rcn rc), .instantiable (mm_rcn rc) 4, .initialized (mm_rcn rc)]
  | 98 => [.fieldLink own k (mm_sn rc).1 (mm_sn rc).2.1 (mm_sn rc).2.2]
  | 96 => [.constant own k (if rc = 0 then 2147483639 else 2147483647)]
  | 95 => mm_acW own k
  | 94 => mm_clW own k
  | 93 => [.classLink own k "[B"]
  | 92 => [.fieldLink own k RXS (TXS (if rc = 0 then 0 else 1)).2.1 (TXS (if rc = 0 then 0 else 1)).2.2.1]
  | 91 => [.fieldLink own k RXS (TXS rc).2.1 (TXS rc).2.2.1]
  | 90 => [.methodLink own k Lib.objectInit, .instanceMethod Lib.objectInit, .code Lib.objectInit ⟨#[0xb1]⟩ 1 none]
  | _ => []
/-- a pool's entry: a field's link, or another's words -/
def mm_lj (own : String) (Ts : List Jvm.Cond) (rc n idx : Nat) : Prop := (n < 90 ∧ mm_lk own Ts rc n idx) ∨ (90 ≤ n ∧ (∀ w ∈ mm_wk own rc n idx, w ∈ Ts) ∧ (n = 97 → (rc = 0 ∧ ((own = RX3 ∧ idx = 240) ∨ (own = RX5 ∧ idx = 216))) ∨ (rc = 28 ∧ own = RX5 ∧ idx = 221)) ∧ (n = 91 → own = RXS))
theorem mz_getf {k rc n ft base o : Nat} (X : mm_Cx p s m args c cc own nL Ts D E A) (hd : decode cc pc = .ok (.getfield k, 3)) (hk : mm_lk own Ts rc n k) (hf : mm_nth (mm_ft rc) n = some (ft, base)) (ho : mm_is M d o rc)
    (kk : mm_Z p l e R s m args below meth c Qm nL D E Ad A (pc + 3) ls (mm_fv ft base o (M o n) :: st) M d u) : mm_Z p l e R s m args below meth c Qm nL D E Ad A pc ls (mm_R o :: st) M d u := by
  intro H locs L hL hP hD hS
  obtain ⟨C, T, N, t, hc, h10, hn, hn2, hty, hnm, hfk⟩ := mm_cls rc n ft base hf
  obtain ⟨q0, hq, hw⟩ := mm_idx (E := E) (Ad := Ad) (M := M) ho.2
  rw [mm_el_obj ho.1 h10] at hw
  have hne : o ≠ 0 := by
    obtain ⟨k', rfl⟩ : ∃ k', rc = k' + 1 := ⟨rc - 1, by omega⟩
    exact mm_is0 ho
  have hin := X.2.2.2.2.2.2.2 _ (List.mem_of_getElem? hc)
  have e1 : mm_cc Ad (mm_R o) = .ref (mm_ad Ad o) := by simp only [mm_cc, mm_rn, hne, if_false, va_rf]
  rw [List.map_cons, e1]
  have hsame : ∀ x, s.fieldFound? (T n).1 (T n).2.1 (T n).2.2.1 = some x → s.fieldFound? (T n).1 (T n).2.1 (T n).2.2.1 = some x := fun x h => h
  rcases hk with hk | ⟨host, hk⟩
  · simp only [mm_FL, hc] at hk
    exact va_get X.1 X.2.1 X.2.2.2.2.1 hin X.2.2.2.1 X.2.2.2.2.2.1 hP q0 hw hc n hn (X.2.2.2.2.1 _ hk) hsame (mm_fs_get hf) hd (kk H locs L hL hP hD hS)
  · simp only [mm_FN, hc] at hk
    exact va_getN X.1 X.2.1 X.2.2.2.2.1 hin X.2.2.2.1 X.2.2.2.2.2.1 hP q0 hw hc n hn (X.2.2.2.2.1 _ hk) hsame (mm_fs_get hf) hd (kk H locs L hL hP hD hS)
/-- what may be stored in a field -/
theorem mm_pfit {ft base o : Nat} {v : mm_V} {ty : FieldType} {K : Int → Prop} (h : mm_pf ft v K) (hk : mm_fk ft ty false = true) : ∃ x, K x ∧ mm_cc Ad v = mm_cc Ad (mm_fv ft base o x) ∧ narrow ty (mm_cc Ad v) = mm_cc Ad v ∧ fits ty (mm_cc Ad v) = true := by
  unfold mm_pf at h
  split at h
  · rename_i x
    cases ty <;> simp [mm_fk] at hk
    exact ⟨x, h, rfl, rfl, rfl⟩
  · rename_i x
    cases ty <;> simp [mm_fk] at hk
    refine ⟨x, h.2, rfl, ?_, ?_⟩ <;> rcases h.1 with rfl | rfl <;> simp only [mm_cc] <;> decide
  · rename_i x
    cases ty <;> simp [mm_fk] at hk
    exact ⟨x, h, rfl, rfl, rfl⟩
  · rename_i o'
    cases ty <;> simp [mm_fk] at hk
    all_goals (refine ⟨(o' : Int), h, by simp [mm_fv], ?_, ?_⟩ <;> simp only [mm_cc] <;> cases mm_rn Ad o' <;> rfl)
  · rename_i q
    cases ty <;> simp [mm_fk] at hk
    refine ⟨(q : Int) + 1, h, ?_, rfl, rfl⟩
    simp only [mm_fv]
    rw [if_neg (by omega), show ((q : Int) + 1 - 1).toNat = q by omega]
  · rename_i x
    cases ty <;> simp [mm_fk] at hk
    obtain ⟨rfl, h⟩ := h
    exact ⟨0, h, rfl, rfl, rfl⟩
  · exact h.elim
theorem mm_pff {ft : Nat} {v : mm_V} {ty : FieldType} {fin : Bool} {K : Int → Prop} (h : mm_pf ft v K) (hk : mm_fk ft ty fin = true) : fin = false := by
  unfold mm_pf at h
  split at h <;> first | exact h.elim | (cases ty <;> simp_all [mm_fk])
theorem mz_putf {k rc n ft base o : Nat} {v : mm_V} (X : mm_Cx p s m args c cc own nL Ts D E A) (hd : decode cc pc = .ok (.putfield k, 3)) (hk : mm_lk own Ts rc n k) (hf : mm_nth (mm_ft rc) n = some (ft, base)) (ho : mm_is M d o rc)
    (kk : mm_pf ft v (fun x => mm_Z p l e R s m args below meth c Qm nL D E Ad A (pc + 3) ls st (mm_up M o n x) d u)) : mm_Z p l e R s m args below meth c Qm nL D E Ad A pc ls (v :: mm_R o :: st) M d u := by
  intro H locs L hL hP hD hS
  obtain ⟨C, T, N, t, hc, h10, hn, hn2, hty, hnm, hfk⟩ := mm_cls rc n ft base hf
  have hfin := mm_pff kk hfk
  rw [hfin] at hfk
  obtain ⟨x, hx, he, h1, h2⟩ := mm_pfit (Ad := Ad) (base := base) (o := o) kk hfk
  obtain ⟨q0, hq, hw⟩ := mm_idx (E := E) (Ad := Ad) (M := M) ho.2
  have hne : o ≠ 0 := by
    obtain ⟨k', rfl⟩ : ∃ k', rc = k' + 1 := ⟨rc - 1, by omega⟩
    exact mm_is0 ho
  have hw0 := mm_wset (M' := mm_up M o n x) hD hq hne mm_up_o
  have hkd : mm_kd (mm_up M o n x) o = rc := by rw [(mm_kd_up (M := M) (o' := o) hne mm_up_o).1]; exact ho.1
  rw [mm_el_obj hkd h10, ← mm_fs_set hf he] at hw0
  rw [mm_el_obj ho.1 h10] at hw
  have hin := X.2.2.2.2.2.2.2 _ (List.mem_of_getElem? hc)
  have e1 : mm_cc Ad (mm_R o) = .ref (mm_ad Ad o) := by simp only [mm_cc, mm_rn, hne, if_false, va_rf]
  rw [List.map_cons, List.map_cons, e1]
  have hsame : ∀ x, s.fieldFound? (T n).1 (T n).2.1 (T n).2.2.1 = some x → s.fieldFound? (T n).1 (T n).2.1 (T n).2.2.1 = some x := fun x h => h
  have hlen : n < (mm_fs Ad M o (mm_ft rc)).length := by simpa [mm_fs] using hn2
  rcases hk with hk | ⟨host, hk⟩
  · simp only [mm_FL, hc] at hk
    refine va_put X.1 X.2.1 X.2.2.2.2.1 hin t hty hnm X.2.2.2.1 X.2.2.2.2.2.1 hP hD hS q0 hw hc n hn (X.2.2.2.2.1 _ hk) hsame hfin (hty n hn) h1 h2 hlen hd (fun H1 locs1 hP1 hD1 hS1 => ?_)
    rw [hw0] at hP1 hD1
    exact hx H1 locs1 L hL hP1 hD1 hS1
  · simp only [mm_FN, hc] at hk
    refine va_putN X.1 X.2.1 X.2.2.2.2.1 hin t hty hnm X.2.2.2.1 X.2.2.2.2.2.1 hP hD hS q0 hw hc n hn (X.2.2.2.2.1 _ hk) hsame hfin (hty n hn) h1 h2 hlen hd (fun H1 locs1 hP1 hD1 hS1 => ?_)
    rw [hw0] at hP1 hD1
    exact hx H1 locs1 L hL hP1 hD1 hS1
theorem mm_ref {o : Nat} (h : o ≠ 0) : mm_cc Ad (mm_R o) = .ref (mm_ad Ad o) := by simp only [mm_cc, mm_rn, h, if_false, va_rf]
theorem mz_iald {a : Int} {o : Nat} (X : mm_Cx p s m args c cc own nL Ts D E A) (hd : decode cc pc = .ok (.iaload, 1)) (ho : mm_is M d o 1) (ha : 0 ≤ a ∧ a < (mm_ln M o : Int)) (hn : mm_ln M o < 2147483648)
    (kk : mm_Z p l e R s m args below meth c Qm nL D E Ad A (pc + 1) ls (mm_I (M o a.toNat) :: st) M d u) : mm_Z p l e R s m args below meth c Qm nL D E Ad A pc ls (mm_I a :: mm_R o :: st) M d u := by
  intro H locs L hL hP hD hS
  obtain ⟨q0, hq, hw⟩ := mm_idx (E := E) (Ad := Ad) (M := M) ho.2
  obtain ⟨hin, hcl⟩ := mm_vin ha hn
  simp only [mm_el, ho.1] at hw
  rw [List.map_cons, List.map_cons, mm_ref (mm_is0 ho)]
  refine va_iald X.1 X.2.1 X.2.2.2.2.2.1 hP q0 0 hw rfl hin hd ?_
  rw [hcl]
  exact kk H locs L hL hP hD hS
theorem mz_iast {a x : Int} {o : Nat} (X : mm_Cx p s m args c cc own nL Ts D E A) (hd : decode cc pc = .ok (.iastore, 1)) (ho : mm_is M d o 1) (ha : 0 ≤ a ∧ a < (mm_ln M o : Int)) (hn : mm_ln M o < 2147483648)
    (kk : mm_Z p l e R s m args below meth c Qm nL D E Ad A (pc + 1) ls st (mm_up M o a.toNat x) d u) : mm_Z p l e R s m args below meth c Qm nL D E Ad A pc ls (mm_I x :: mm_I a :: mm_R o :: st) M d u := by
  intro H locs L hL hP hD hS
  obtain ⟨q0, hq, hw⟩ := mm_idx (E := E) (Ad := Ad) (M := M) ho.2
  obtain ⟨hin, hcl⟩ := mm_vin ha hn
  have hne := mm_is0 ho
  have hw0 := mm_wset (M' := mm_up M o a.toNat x) hD hq hne mm_up_o
  have hkd := mm_kd_up (M := M) (M' := mm_up M o a.toNat x) (o' := o) hne mm_up_o
  simp only [mm_el, ho.1] at hw
  simp only [mm_el, hkd.1, hkd.2, ho.1] at hw0
  rw [List.map_cons, List.map_cons, List.map_cons, mm_ref hne]
  refine va_iast X.1 X.2.1 X.2.2.2.2.2.1 hP hD hS q0 0 hw rfl hin hd (fun H1 locs1 hP1 hD1 hS1 => ?_)
  have hf : upd (fun j => Int32.ofInt (M o j)) (Int32.ofInt a).toNatClampNeg (Int32.ofInt x) = fun j => Int32.ofInt (mm_up M o a.toNat x o j) := by
    funext j
    rw [hcl]
    by_cases hj : j = a.toNat <;> simp [upd, mm_up, hj]
  rw [hf, hw0] at hP1 hD1
  exact kk H1 locs1 L hL hP1 hD1 hS1
theorem mz_aald {a : Int} {o : Nat} (X : mm_Cx p s m args c cc own nL Ts D E A) (hd : decode cc pc = .ok (.aaload, 1)) (ho : mm_is M d o 2) (ha : 0 ≤ a ∧ a < (mm_ln M o : Int)) (hn : mm_ln M o < 2147483648)
    (kk : mm_Z p l e R s m args below meth c Qm nL D E Ad A (pc + 1) ls (mm_R (8 + 2 * a.toNat) :: st) M d u) : mm_Z p l e R s m args below meth c Qm nL D E Ad A pc ls (mm_I a :: mm_R o :: st) M d u := by
  intro H locs L hL hP hD hS
  obtain ⟨q0, hq, hw⟩ := mm_idx (E := E) (Ad := Ad) (M := M) ho.2
  obtain ⟨hin, hcl⟩ := mm_vin ha hn
  simp only [mm_el, ho.1] at hw
  rw [List.map_cons, List.map_cons, mm_ref (mm_is0 ho)]
  refine va_aldq X.1 X.2.1 X.2.2.2.2.2.1 hP q0 2 hw rfl hin hd ?_
  rw [hcl]
  have h := kk H locs L hL hP hD hS
  rw [List.map_cons, mm_ref (by omega)] at h
  exact h
theorem mz_alen {o : Nat} (X : mm_Cx p s m args c cc own nL Ts D E A) (hd : decode cc pc = .ok (.arraylength, 1)) (ho : mm_is M d o 1 ∨ mm_is M d o 2) (hn : mm_ln M o < 2147483648)
    (kk : mm_Z p l e R s m args below meth c Qm nL D E Ad A (pc + 1) ls (mm_I (mm_ln M o : Int) :: st) M d u) : mm_Z p l e R s m args below meth c Qm nL D E Ad A pc ls (mm_R o :: st) M d u := by
  intro H locs L hL hP hD hS
  rcases ho with ho | ho
  all_goals
    obtain ⟨q0, hq, hw⟩ := mm_idx (E := E) (Ad := Ad) (M := M) ho.2
    simp only [mm_el, ho.1] at hw
    rw [List.map_cons, mm_ref (mm_is0 ho)]
  · exact va_alen X.1 X.2.1 X.2.2.2.2.2.1 hP q0 0 hw rfl (v := Int32.ofInt (mm_ln M o : Int)) (by rw [Int32.ofInt_eq_ofNat]) hd (kk H locs L hL hP hD hS)
  · exact va_alen X.1 X.2.1 X.2.2.2.2.2.1 hP q0 2 hw rfl (v := Int32.ofInt (mm_ln M o : Int)) (by rw [Int32.ofInt_eq_ofNat]) hd (kk H locs L hL hP hD hS)
theorem mm_rninj {a b : Nat} (hD : va_D A (mm_ws E Ad M d)) (ha : a = 0 ∨ a ∈ mm_ids d) (hb : b = 0 ∨ b ∈ mm_ids d) : mm_rn Ad a = mm_rn Ad b ↔ a = b := by
  constructor
  · intro h
    by_cases a0 : a = 0 <;> by_cases b0 : b = 0
    · rw [a0, b0]
    · simp [mm_rn, a0, b0] at h
    · simp [mm_rn, a0, b0] at h
    · obtain ⟨i, hi, hwi⟩ := mm_idx (E := E) (Ad := Ad) (M := M) (ha.resolve_left a0)
      obtain ⟨j, hj, hwj⟩ := mm_idx (E := E) (Ad := Ad) (M := M) (hb.resolve_left b0)
      simp only [mm_rn, a0, b0, if_false, Option.some.injEq] at h
      have e1 := hD.1 i j _ _ hwi hwj h
      subst e1
      exact Option.some.inj (hi.symm.trans hj)
  · intro h
    rw [h]
theorem mz_acmp_eq {a b : Nat} {o : Int} (X : mm_Cx p s m args c cc own nL Ts D E A) (hd : decode cc pc = .ok (.if_acmp .eq o, 3)) (ht : (pc : Int) + o = (tgt : Int)) (ha : a = 0 ∨ a ∈ mm_ids d) (hb : b = 0 ∨ b ∈ mm_ids d)
    (kt : a = b → mm_Z p l e R s m args below meth c Qm nL D E Ad A tgt ls st M d u) (kf : a ≠ b → mm_Z p l e R s m args below meth c Qm nL D E Ad A (pc + 3) ls st M d u) : mm_Z p l e R s m args below meth c Qm nL D E Ad A pc ls (mm_R b :: mm_R a :: st) M d u :=
  fun H locs L hL hP hD hS => lv_acmp_eq (rx := mm_rn Ad a) (ry := mm_rn Ad b) X.1 X.2.1 hd ht (fun q => kt ((mm_rninj hD ha hb).mp q) H locs L hL hP hD hS) (fun q => kf (fun z => q ((mm_rninj hD ha hb).mpr z)) H locs L hL hP hD hS)
theorem mz_acmp_ne {a b : Nat} {o : Int} (X : mm_Cx p s m args c cc own nL Ts D E A) (hd : decode cc pc = .ok (.if_acmp .ne o, 3)) (ht : (pc : Int) + o = (tgt : Int)) (ha : a = 0 ∨ a ∈ mm_ids d) (hb : b = 0 ∨ b ∈ mm_ids d)
    (kt : a ≠ b → mm_Z p l e R s m args below meth c Qm nL D E Ad A tgt ls st M d u) (kf : a = b → mm_Z p l e R s m args below meth c Qm nL D E Ad A (pc + 3) ls st M d u) : mm_Z p l e R s m args below meth c Qm nL D E Ad A pc ls (mm_R b :: mm_R a :: st) M d u :=
  fun H locs L hL hP hD hS => lv_acmp_ne (rx := mm_rn Ad a) (ry := mm_rn Ad b) X.1 X.2.1 hd ht (fun q => kt (fun z => q ((mm_rninj hD ha hb).mpr z)) H locs L hL hP hD hS) (fun q => kf ((mm_rninj hD ha hb).mp q) H locs L hL hP hD hS)
theorem mz_ifnull {a : Nat} {o : Int} (X : mm_Cx p s m args c cc own nL Ts D E A) (hd : decode cc pc = .ok (.ifnull o, 3)) (ht : (pc : Int) + o = (tgt : Int))
    (kt : a = 0 → mm_Z p l e R s m args below meth c Qm nL D E Ad A tgt ls st M d u) (kf : a ≠ 0 → mm_Z p l e R s m args below meth c Qm nL D E Ad A (pc + 3) ls st M d u) : mm_Z p l e R s m args below meth c Qm nL D E Ad A pc ls (mm_R a :: st) M d u := by
  intro H locs L hL hP hD hS
  by_cases h : a = 0
  · have e1 : mm_cc Ad (mm_R a) = .null := by simp only [mm_cc, mm_rn, h, if_true, va_rf]
    rw [List.map_cons, e1]
    exact lv_ifnullN X.1 X.2.1 hd ht (kt h H locs L hL hP hD hS)
  · rw [List.map_cons, mm_ref h]
    exact lv_ifnull X.1 X.2.1 hd (kf h H locs L hL hP hD hS)
theorem mz_ifnonnull {a : Nat} {o : Int} (X : mm_Cx p s m args c cc own nL Ts D E A) (hd : decode cc pc = .ok (.ifnonnull o, 3)) (ht : (pc : Int) + o = (tgt : Int))
    (kt : a ≠ 0 → mm_Z p l e R s m args below meth c Qm nL D E Ad A tgt ls st M d u) (kf : a = 0 → mm_Z p l e R s m args below meth c Qm nL D E Ad A (pc + 3) ls st M d u) : mm_Z p l e R s m args below meth c Qm nL D E Ad A pc ls (mm_R a :: st) M d u := by
  intro H locs L hL hP hD hS
  by_cases h : a = 0
  · have e1 : mm_cc Ad (mm_R a) = .null := by simp only [mm_cc, mm_rn, h, if_true, va_rf]
    rw [List.map_cons, e1]
    exact lv_ifnonnullN X.1 X.2.1 hd (kf h H locs L hL hP hD hS)
  · rw [List.map_cons, mm_ref h]
    exact lv_ifnonnull X.1 X.2.1 hd ht (kt h H locs L hL hP hD hS)
/-- the script's rows: known, never written -/
def mm_SX (s : State) (A : Nat → Prop) (SC : Nat → Option (Nat × (Nat → Int32))) : Prop := ∀ (q n : Nat) (xs : Nat → Int32), SC q = some (n, xs) → va_X q n xs s s.heap ∧ q < s.heap.size ∧ ¬ A q
theorem mz_sld {a : Int} {q n : Nat} {xs : Nat → Int32} {SC : Nat → Option (Nat × (Nat → Int32))} (X : mm_Cx p s m args c cc own nL Ts D E A) (hd : decode cc pc = .ok (.iaload, 1)) (hS0 : mm_SX s A SC) (hq : SC q = some (n, xs)) (ha : 0 ≤ a ∧ a < (n : Int)) (hn : n < 2147483648)
    (kk : mm_Z p l e R s m args below meth c Qm nL D E Ad A (pc + 1) ls (mm_I (xs a.toNat).toInt :: st) M d u) : mm_Z p l e R s m args below meth c Qm nL D E Ad A pc ls (mm_I a :: mm_X q :: st) M d u := by
  intro H locs L hL hP hD hS
  obtain ⟨hX, hb, hA⟩ := hS0 q n xs hq
  obtain ⟨hin, hcl⟩ := mm_vin ha hn
  refine va_sld X.1 X.2.1 hX hb hA hS hin hd ?_
  rw [hcl]
  have h := kk H locs L hL hP hD hS
  rw [List.map_cons] at h
  simp only [mm_cc, Int32.ofInt_toInt] at h
  exact h
theorem mz_slen {q n : Nat} {xs : Nat → Int32} {SC : Nat → Option (Nat × (Nat → Int32))} (X : mm_Cx p s m args c cc own nL Ts D E A) (hd : decode cc pc = .ok (.arraylength, 1)) (hS0 : mm_SX s A SC) (hq : SC q = some (n, xs))
    (kk : mm_Z p l e R s m args below meth c Qm nL D E Ad A (pc + 1) ls (mm_I (n : Int) :: st) M d u) : mm_Z p l e R s m args below meth c Qm nL D E Ad A pc ls (mm_X q :: st) M d u := by
  intro H locs L hL hP hD hS
  obtain ⟨hX, hb, hA⟩ := hS0 q n xs hq
  have h := kk H locs L hL hP hD hS
  rw [List.map_cons] at h
  simp only [mm_cc, Int32.ofInt_eq_ofNat] at h
  exact va_slen X.1 X.2.1 hX hb hA hS hd h
end MZ
end
section
/-! steps that make objects, copy bytes, read the system's constants -/
/-- the system's constants: the flag of compact texts, the rows of digits, the texts that this code names -/
def mm_J (A : Nat → Prop) (Ad : Nat → Nat) (U : State) : Prop :=
  va_Z RXS "COMPACT_STRINGS" "Z" (.int 1) A U U.heap ∧
  (va_Z "java/lang/Integer" "DigitOnes" "[B" (.ref (Ad 24)) A U U.heap ∧ ∃ f : Nat → Int32, va_T .byte (Ad 24) 100 (fun j => .int (f j)) A U U.heap) ∧
  (va_Z "java/lang/Integer" "DigitTens" "[B" (.ref (Ad 25)) A U U.heap ∧ ∃ f : Nat → Int32, va_T .byte (Ad 25) 100 (fun j => .int (f j)) A U U.heap) ∧
  (∃ q, vk_R RX3 240 "" q U) ∧ (∃ q, vk_R RX5 216 "" q U) ∧
  vk_R RX5 221 "-" (Ad 28) U ∧ va_O RXS (Ad 28) A U U.heap ∧ va_OF RXS "coder" "B" (.int 0) (Ad 28) A U U.heap ∧ va_OF RXS "value" "[B" (.ref (Ad 29)) (Ad 28) A U U.heap ∧
  ∃ f : Nat → Int32, va_T .byte (Ad 29) 1 (fun j => .int (f j)) A U U.heap ∧ ∀ j, j < 1 → fits .byte (.int (f j)) = true
theorem mm_J.to {A A1 : Nat → Prop} {Ad : Nat → Nat} {s U : State} {H : Heap} (h : mm_J A Ad s) (hW : s.WarmedH U.vm) (hH : U.heap = H) (hq : ∀ q, q < s.heap.size → ¬ A q → H[q]? = s.heap[q]?) (hA : ∀ q, A1 q → A q) : mm_J A1 Ad U := by
  obtain ⟨h1, ⟨h2, f2, g2⟩, ⟨h3, f3, g3⟩, ⟨q4, h4⟩, ⟨q5, h5⟩, h6, h7, h8, h9, f10, g10, k10⟩ := h
  have vm := hW.alike
  subst hH
  exact ⟨(va_Z.moved vm (h1.kept hq)).narrow hA, ⟨(va_Z.moved vm (h2.kept hq)).narrow hA, f2, (va_T.moved vm (g2.kept hq)).narrow hA⟩, ⟨(va_Z.moved vm (h3.kept hq)).narrow hA, f3, (va_T.moved vm (g3.kept hq)).narrow hA⟩, ⟨q4, vk_R.warm hW h4⟩, ⟨q5, vk_R.warm hW h5⟩, vk_R.warm hW h6,
    (va_O.moved vm (h7.kept hq)).narrow hA, (va_OF.moved vm (h8.kept hq)).narrow hA, (va_OF.moved vm (h9.kept hq)).narrow hA, f10, (va_T.moved vm (g10.kept hq)).narrow hA, k10⟩
theorem mm_b8_fit (x : Int) : fits .byte (.int (mm_b8 x)) = true := by
  have h1 := Int8.toInt_lt (Int8.ofInt x)
  have h2 := Int8.le_toInt (Int8.ofInt x)
  have e : (mm_b8 x).toInt = (Int8.ofInt x).toInt := by simp [mm_b8]
  have e1 : (-128 : Int32).toInt = -128 := by decide
  have e2 : (127 : Int32).toInt = 127 := by decide
  simp only [fits, Bool.and_eq_true, decide_eq_true_eq, Int32.le_iff_toInt_le, e, e1, e2]
  omega
theorem mm_b8_nar (x : Int) : vp_nar .byte (Int32.ofInt x) = mm_b8 x := by simp [vp_nar, narrow, mm_b8]
/-- a byte row's content can be told by whole numbers -/
theorem mm_b8_of (v : Int32) (h : fits .byte (.int v) = true) : mm_b8 v.toInt = v := by
  have e1 : (-128 : Int32).toInt = -128 := by decide
  have e2 : (127 : Int32).toInt = 127 := by decide
  simp only [fits, Bool.and_eq_true, decide_eq_true_eq, Int32.le_iff_toInt_le, e1, e2] at h
  apply Int32.toInt_inj.mp
  simp only [mm_b8, Int8.toInt_toInt32]
  exact Int8.toInt_ofInt_of_le (by omega) (by omega)
theorem mm_el_any {E : mm_En} {Ad : Nat → Nat} {M : mm_M} {o : Nat} {h : Nat → Int} (ho : o ≠ 0) (hk : mm_kd M o = 3) : mm_el E Ad (mm_any M o h) o = .inl (E.2.1, mm_ln M o, .inl (fun j => mm_b8 (h j))) := by
  have e := mm_kd_up (M := M) (M' := mm_any M o h) (o' := o) ho (fun x hx => by funext j; simp [mm_any, hx])
  simp only [mm_el, e.1, e.2, hk, mm_any, if_true]
theorem mm_any_o {M : mm_M} {o : Nat} {h : Nat → Int} : ∀ y, y ≠ o → mm_any M o h y = M y := fun y hy => by funext j; simp [mm_any, hy]
/-- a world with a new object -/
theorem mm_nob_kd {M : mm_M} {o k : Nat} {n : Int} (ho : 100 ≤ o) (hn : 0 ≤ n) : mm_kd (mm_nob M o k n) o = k ∧ mm_ln (mm_nob M o k n) o = n.toNat := by
  have h1 : (0 : Nat) ≠ o := by omega
  have h2 : ¬ o < 100 := by omega
  have h3 : ¬ (2 * o + 1 = 2 * o) := by omega
  simp [mm_kd, mm_ln, mm_nob, h1, h2, h3]
theorem mm_nob_kd2 {M : mm_M} {o k x : Nat} {n : Int} (ho : 100 ≤ o) (hx : x ≠ o) : mm_kd (mm_nob M o k n) x = mm_kd M x ∧ mm_ln (mm_nob M o k n) x = mm_ln M x := by
  have h1 : (0 : Nat) ≠ o := by omega
  have h3 : ¬ (2 * x + 1 = 2 * o) := by omega
  have h4 : ¬ (2 * x = 2 * o) := by omega
  have h5 : ¬ (2 * x = 2 * o + 1) := by omega
  have h6 : ¬ (2 * x + 1 = 2 * o + 1) := by omega
  simp [mm_kd, mm_ln, mm_nob, h1, h3, h4, h5, h6, hx]
theorem mm_nob_o {M : mm_M} {o k x : Nat} {n : Int} (hx : x ≠ o) (h0 : x ≠ 0) : mm_nob M o k n x = M x := by
  funext j
  simp [mm_nob, hx, h0]
theorem mm_ws_nob {E : mm_En} {Ad : Nat → Nat} {M : mm_M} {d : List Nat} {o k : Nat} {n : Int} (ho : 100 ≤ o) (hd : o ∉ d) : mm_ws E Ad (mm_nob M o k n) (d ++ [o]) = mm_ws E Ad M d ++ [(o - 100, mm_el E Ad (mm_nob M o k n) o)] := by
  have e0 : mm_ids (d ++ [o]) = mm_ids d ++ [o] := by simp [mm_ids]
  have ead : mm_ad Ad o = o - 100 := by
    unfold mm_ad
    rw [if_neg (by omega)]
  unfold mm_ws
  rw [e0, List.map_append, List.map_cons, List.map_nil, ead]
  congr 1
  refine List.map_congr_left (fun x hx => ?_)
  have hxo : x ≠ o := by
    intro e
    subst e
    rcases List.mem_append.mp hx with h | h
    · simp only [mm_st, List.mem_cons, List.not_mem_nil, or_false] at h
      omega
    · exact hd h
  have ek := mm_nob_kd2 (M := M) (k := k) (n := n) ho hxo
  congr 1
  by_cases h0 : x = 0
  · subst h0
    simp only [mm_el, ek.1]
    rfl
  · simp only [mm_el, ek.1, ek.2, mm_fs, mm_nob_o hxo h0]
section MZ
variable {p : Program} {l : Launch} {e : Env} {R : Room} {s : State} {m : MethodId} {args : Array Value} {below : List Frame} {meth : Method} {c : Code} {Qm : State → Prop}
variable {cc : ByteArray} {own : String} {nL : Nat} {Ts : List Jvm.Cond} {D : va_G} {E : mm_En} {Ad : Nat → Nat} {A : Nat → Prop}
variable {pc tgt : Nat} {ls : mm_Ls} {st : List mm_V} {M : mm_M} {d : List Nat} {u mu : Nat}
theorem mz_i2b {a : Int} (X : mm_Cx p s m args c cc own nL Ts D E A) (hd : decode cc pc = .ok (.i2b, 1)) (k : ∀ x : Int, mm_Z p l e R s m args below meth c Qm nL D E Ad A (pc + 1) ls (mm_I x :: st) M d u) : mm_Z p l e R s m args below meth c Qm nL D E Ad A pc ls (mm_I a :: st) M d u := by
  intro H locs L hL hP hD hS
  have h := k ((Int32.ofInt a).toInt8.toInt32).toInt H locs L hL hP hD hS
  simp only [List.map_cons, mm_cc, Int32.ofInt_toInt] at h
  exact lv_i2b X.1 X.2.1 hd rfl h
theorem mz_dup_x1 {v w : mm_V} (X : mm_Cx p s m args c cc own nL Ts D E A) (hd : decode cc pc = .ok (.dup_x1, 1)) (hv : mm_cat v = 1) (hw : mm_cat w = 1) (k : mm_Z p l e R s m args below meth c Qm nL D E Ad A (pc + 1) ls (v :: w :: v :: st) M d u) : mm_Z p l e R s m args below meth c Qm nL D E Ad A pc ls (v :: w :: st) M d u :=
  fun H locs L hL hP hD hS => lv_dup_x1 X.1 X.2.1 hd (by rw [mm_catv]; exact hv) (by rw [mm_catv]; exact hw) (k H locs L hL hP hD hS)
theorem mz_ldcI {k : Nat} {v : Int} (X : mm_Cx p s m args c cc own nL Ts D E A) (hd : decode cc pc = .ok (.ldc k, 2)) (hw : Jvm.Cond.constant own k (Int32.ofInt v) ∈ Ts) (kk : mm_Z p l e R s m args below meth c Qm nL D E Ad A (pc + 2) ls (mm_I v :: st) M d u) : mm_Z p l e R s m args below meth c Qm nL D E Ad A pc ls st M d u :=
  fun H locs L hL hP hD hS => lv_ldc X.1 X.2.1 X.2.2.2.1 (X.2.2.2.2.1 _ hw) hd (kk H locs L hL hP hD hS)
theorem mz_ldcX {k q : Nat} {tx : String} (X : mm_Cx p s m args c cc own nL Ts D E A) (hd : decode cc pc = .ok (.ldc k, 2)) (hR : vk_R own k tx q s) {v : mm_V} (hv : mm_cc Ad v = .ref q) (kk : mm_Z p l e R s m args below meth c Qm nL D E Ad A (pc + 2) ls (v :: st) M d u) : mm_Z p l e R s m args below meth c Qm nL D E Ad A pc ls st M d u := by
  intro H locs L hL hP hD hS
  have h := kk H locs L hL hP hD hS
  rw [List.map_cons, hv] at h
  exact va_ldcS X.1 X.2.1 X.2.2.2.1 hR hd h
theorem mz_gets {k : Nat} {C n dd : String} {v : mm_V} (X : mm_Cx p s m args c cc own nL Ts D E A) (hd : decode cc pc = .ok (.getstatic k, 3)) (hw : Jvm.Cond.fieldLink own k C n dd ∈ Ts) (hZ : va_Z C n dd (mm_cc Ad v) A s s.heap) (kk : mm_Z p l e R s m args below meth c Qm nL D E Ad A (pc + 3) ls (v :: st) M d u) : mm_Z p l e R s m args below meth c Qm nL D E Ad A pc ls st M d u :=
  fun H locs L hL hP hD hS => va_gets X.1 X.2.1 hZ hS X.2.2.2.1 (X.2.2.2.2.1 _ hw) (fun _ h => h) hd (kk H locs L hL hP hD hS)
theorem mz_bald {a : Int} {o : Nat} {f : Nat → Int32} (X : mm_Cx p s m args c cc own nL Ts D E A) (hd : decode cc pc = .ok (.baload, 1)) (ho : 0 < o ∧ o < 100) (hT : va_T .byte (Ad o) 100 (fun j => .int (f j)) A s s.heap) (ha : 0 ≤ a ∧ a < 100) (k : ∀ x : Int, mm_Z p l e R s m args below meth c Qm nL D E Ad A (pc + 1) ls (mm_I x :: st) M d u) : mm_Z p l e R s m args below meth c Qm nL D E Ad A pc ls (mm_I a :: mm_R o :: st) M d u := by
  intro H locs L hL hP hD hS
  obtain ⟨hin, hcl⟩ := mm_vin (a := a) (n := 100) ⟨ha.1, by have := ha.2; omega⟩ (by decide)
  have h := k (f a.toNat).toInt H locs L hL hP hD hS
  simp only [List.map_cons, mm_cc, Int32.ofInt_toInt] at h
  have e1 : mm_cc Ad (mm_R o) = .ref (Ad o) := by rw [mm_ref (by omega)]; simp [mm_ad, ho.2]
  rw [List.map_cons, List.map_cons, e1]
  exact va_tb X.1 X.2.1 hT hS hin (by rw [hcl]) hd h
theorem mz_bast {a x : Int} {o : Nat} (X : mm_Cx p s m args c cc own nL Ts D E A) (hd : decode cc pc = .ok (.bastore, 1)) (ho : mm_is M d o 3) (ha : 0 ≤ a ∧ a < (mm_ln M o : Int)) (hn : mm_ln M o < 2147483648)
    (kk : mm_Z p l e R s m args below meth c Qm nL D E Ad A (pc + 1) ls st (mm_up M o a.toNat x) d u) : mm_Z p l e R s m args below meth c Qm nL D E Ad A pc ls (mm_I x :: mm_I a :: mm_R o :: st) M d u := by
  intro H locs L hL hP hD hS
  obtain ⟨q0, hq, hw⟩ := mm_idx (E := E) (Ad := Ad) (M := M) ho.2
  obtain ⟨hin, hcl⟩ := mm_vin ha hn
  have hne := mm_is0 ho
  have hw0 := mm_wset (M' := mm_up M o a.toNat x) hD hq hne mm_up_o
  have hkd := mm_kd_up (M := M) (M' := mm_up M o a.toNat x) (o' := o) hne mm_up_o
  simp only [mm_el, ho.1] at hw
  simp only [mm_el, hkd.1, hkd.2, ho.1] at hw0
  rw [List.map_cons, List.map_cons, List.map_cons, mm_ref hne]
  refine va_bast X.1 X.2.1 X.2.2.2.2.2.1 hP hD hS q0 1 hw rfl hin hd (fun H1 locs1 hP1 hD1 hS1 => ?_)
  have hf : upd (fun j => mm_b8 (M o j)) (Int32.ofInt a).toNatClampNeg (vp_nar .byte (Int32.ofInt x)) = fun j => mm_b8 (mm_up M o a.toNat x o j) := by
    funext j
    rw [hcl, mm_b8_nar]
    by_cases hj : j = a.toNat <;> simp [upd, mm_up, hj]
  rw [hf, hw0] at hP1 hD1
  exact kk H1 locs1 L hL hP1 hD1 hS1
theorem mm_num {a : Int} (h : 0 ≤ a ∧ a < 2147483648) : ¬ Int32.ofInt a < 0 ∧ (Int32.ofInt a).toNatClampNeg = a.toNat := by
  have hi : InI a := ⟨by omega, h.2⟩
  refine ⟨fun z => ?_, ?_⟩
  · rw [mm_z0, mm_lt hi mm_i0] at z
    omega
  · show (Int32.ofInt a).toInt.toNat = a.toNat
    rw [mm_toInt hi]
theorem mz_lenJ {K : List mm_V → Prop} (hJ : mm_J A Ad s) (X : mm_Cx p s m args c cc own nL Ts D E A) (hd : decode cc pc = .ok (.arraylength, 1)) (h : mm_lenJ st M d K)
    (kk : ∀ st', K st' → mm_Z p l e R s m args below meth c Qm nL D E Ad A (pc + 1) ls st' M d u) : mm_Z p l e R s m args below meth c Qm nL D E Ad A pc ls st M d u := by
  unfold mm_lenJ at h
  split at h
  · rename_i o r
    obtain ⟨ho, hn, hk⟩ := h
    rcases ho.2 with hm | h29
    · intro H locs L hL hP hD hS
      obtain ⟨q0, hq, hw⟩ := mm_idx (E := E) (Ad := Ad) (M := M) hm
      simp only [mm_el, ho.1] at hw
      rw [List.map_cons, mm_ref (mm_is0 (rc := 2) ⟨ho.1, hm⟩)]
      exact va_alen X.1 X.2.1 X.2.2.2.2.2.1 hP q0 1 hw rfl (v := Int32.ofInt (mm_ln M o : Int)) (by rw [Int32.ofInt_eq_ofNat]) hd (kk _ hk H locs L hL hP hD hS)
    · subst h29
      obtain ⟨f, hT, -⟩ := hJ.2.2.2.2.2.2.2.2.2
      intro H locs L hL hP hD hS
      have h := kk _ hk H locs L hL hP hD hS
      have e1 : mm_cc Ad (mm_R 29) = .ref (Ad 29) := by rw [mm_ref (by decide)]; rfl
      rw [List.map_cons, e1]
      exact va_tlen X.1 X.2.1 hT hS (v := Int32.ofInt (mm_ln M 29 : Int)) rfl hd h
  · exact h.elim
theorem mz_copyJ {k : Nat} {K : List mm_V → mm_M → Prop} (hJ : mm_J A Ad s) (X : mm_Cx p s m args c cc own nL Ts D E A) (hR : 5 < R.frames ∧ 82 ≤ R.locals) (hd : decode cc pc = .ok (.invokestatic k, 3)) (hw : ∀ w ∈ mm_acW own k, w ∈ Ts) (h : mm_copyJ st M d K)
    (kk : ∀ st' M', K st' M' → mm_Z p l e R s m args below meth c Qm nL D E Ad A (pc + 3) ls st' M' d u) : mm_Z p l e R s m args below meth c Qm nL D E Ad A pc ls st M d u := by
  have ww : ∀ w ∈ mm_acW own k, w.before args s = true := fun w h => X.2.2.2.2.1 _ (hw w h)
  have nw : nativeFrameWords "java/lang/System" "arraycopy" 5 + 11 ≤ 74 := by decide +kernel
  unfold mm_copyJ at h
  split at h
  · rename_i n dp b sp a r
    obtain ⟨ha, hb, h0, h1, h2, h3, h4, h5, h6, hc, hk⟩ := h
    intro H locs L hL hP hD hS
    obtain ⟨q1, hq1, hw1⟩ := mm_idx (E := E) (Ad := Ad) (M := M) hb.2
    have hne := mm_is0 hb
    have hwb := hw1
    simp only [mm_el, hb.1] at hw1
    obtain ⟨n1, n2⟩ := mm_num (a := n) ⟨h0, by omega⟩
    obtain ⟨s1, s2⟩ := mm_num (a := sp) ⟨h1, by omega⟩
    obtain ⟨d1, d2⟩ := mm_num (a := dp) ⟨h2, by omega⟩
    have hloc : ((r.map (mm_cc Ad)).map fun v => v.category).sum + (nativeFrameWords "java/lang/System" "arraycopy" 5 + 11) ≤ R.locals := by
      rw [mm_catsum]
      omega
    have fin : ∀ (f : Nat → Int32), (∀ j, j < n.toNat → fits .byte (.int (f (sp.toNat + j))) = true) → ∀ (H1 : Heap) (locs1 : List Loc),
        va_P D mm_cl ((mm_ws E Ad M d).set q1 (mm_ad Ad b, .inl (E.2.1, mm_ln M b, .inl (va_cpy f (fun j => mm_b8 (M b j)) sp.toNat dp.toNat n.toNat)))) H1 → va_D A ((mm_ws E Ad M d).set q1 (mm_ad Ad b, .inl (E.2.1, mm_ln M b, .inl (va_cpy f (fun j => mm_b8 (M b j)) sp.toNat dp.toNat n.toNat)))) → va_S A s.heap H1 locs1 →
        W p l e R s m args below meth c H1 locs1 u (12 * u) Qm (F0 m (pc + 3) L (r.map (mm_cc Ad))) := by
      intro f hf H1 locs1 hP1 hD1 hS1
      have e9 : va_cpy f (fun j => mm_b8 (M b j)) sp.toNat dp.toNat n.toNat = fun j => mm_b8 (va_cpy f (fun j => mm_b8 (M b j)) sp.toNat dp.toNat n.toNat j).toInt := by
        funext j
        refine (mm_b8_of _ ?_).symm
        unfold va_cpy
        split
        · rename_i hj
          exact hf (j - dp.toNat) (by omega)
        · exact mm_b8_fit _
      have hw0 := mm_wset (E := E) (M' := mm_any M b (fun j => (va_cpy f (fun j => mm_b8 (M b j)) sp.toNat dp.toNat n.toNat j).toInt)) hD hq1 hne mm_any_o
      rw [mm_el_any hne hb.1, ← e9] at hw0
      rw [hw0] at hP1 hD1
      exact kk _ _ (hk _) H1 locs1 L hL hP1 hD1 hS1
    have eb : mm_cc Ad (mm_R b) = .ref (mm_ad Ad b) := mm_ref hne
    rcases ha.2 with hm | h29
    · obtain ⟨q0, hq0, hw0⟩ := mm_idx (E := E) (Ad := Ad) (M := M) hm
      simp only [mm_el, ha.1] at hw0
      rw [List.map_cons, List.map_cons, List.map_cons, List.map_cons, List.map_cons, eb, mm_ref (mm_is0 (rc := 2) ⟨ha.1, hm⟩)]
      refine va_copyi X.1 X.2.1 (X.2.2.1.trans hL.1.symm) X.2.2.2.1 (ww _ (by simp [mm_acW])) (ww _ (by simp [mm_acW])) (ww _ (by simp [mm_acW])) (ww _ (by simp [mm_acW])) X.2.2.2.2.2.1 hP hD hS q0 q1 1 1 hw0 hw1 rfl rfl rfl s1 d1 n1 (by rw [s2, n2]; omega) (by rw [d2, n2]; omega) (fun i _ => mm_b8_fit _) (by omega) hloc hd ?_
      rw [s2, d2, n2]
      exact fin _ (fun j _ => mm_b8_fit _)
    · subst h29
      obtain ⟨f, hT, hf⟩ := hJ.2.2.2.2.2.2.2.2.2
      have e1 : mm_cc Ad (mm_R 29) = .ref (Ad 29) := by rw [mm_ref (by decide)]; rfl
      have l9 : mm_ln M 29 = 1 := rfl
      rw [l9] at h3
      rw [List.map_cons, List.map_cons, List.map_cons, List.map_cons, List.map_cons, eb, e1]
      refine vk_copyt X.1 X.2.1 (X.2.2.1.trans hL.1.symm) X.2.2.2.1 (ww _ (by simp [mm_acW])) (ww _ (by simp [mm_acW])) (ww _ (by simp [mm_acW])) (ww _ (by simp [mm_acW])) X.2.2.2.2.2.1 hP hD hS hT q1 1 hw1 rfl s1 d1 n1 (by rw [s2, n2]; omega) (by rw [d2, n2]; omega) (fun i hi => hf _ (by rw [n2] at hi; rw [s2]; omega)) (by omega) hloc hd ?_
      rw [s2, d2, n2]
      exact fin _ (fun j hj => hf _ (by omega))
  · exact h.elim
/-- a new object's number is new -/
theorem mm_fresh {q : Nat} {x : va_E} (hD : va_D A (mm_ws E Ad M d ++ [(q, x)])) : q + 100 ∉ d := by
  intro h
  have hm : q + 100 ∈ mm_ids d := List.mem_append_right _ h
  obtain ⟨k, hk, hw⟩ := mm_idx (E := E) (Ad := Ad) (M := M) hm
  have hl := (List.getElem?_eq_some_iff.mp hw).1
  have e := hD.1 k (mm_ws E Ad M d).length _ (q, x) (by rw [List.getElem?_append_left hl]; exact hw) (by simp) (by
    show mm_ad Ad (q + 100) = q
    unfold mm_ad
    rw [if_neg (by omega)]
    omega)
  omega
theorem mz_new {k rc : Nat} (X : mm_Cx p s m args c cc own nL Ts D E A) (hR : mu ≤ R.cells ∧ 12 * mu ≤ R.slots) (hd : decode cc pc = .ok (.new k, 3)) (hrc : rc = 16 ∨ rc = 17) (hw : ∀ w ∈ mm_wk own rc 99 k, w ∈ Ts) (hu : u + 1 ≤ mu)
    (kk : ∀ o : Nat, 100 ≤ o → o ∉ d → mm_Z p l e R s m args below meth c Qm nL D E Ad A (pc + 3) ls (mm_R o :: st) (mm_nob M o rc 0) (d ++ [o]) (u + 1)) : mm_Z p l e R s m args below meth c Qm nL D E Ad A pc ls st M d u := by
  have ww : ∀ w ∈ mm_wk own rc 99 k, w.before args s = true := fun w h => X.2.2.2.2.1 _ (hw w h)
  intro H locs L hL hP hD hS
  have fin : ∀ (fs : List Value), (∀ o, 100 ≤ o → mm_fs Ad (mm_nob M o rc 0) o (mm_ft rc) = fs) → ∀ (q : Nat) (H1 : Heap), va_P D mm_cl (mm_ws E Ad M d ++ [(q, .inr (rc - 10, fs))]) H1 → va_D A (mm_ws E Ad M d ++ [(q, .inr (rc - 10, fs))]) → va_S A s.heap H1 locs →
      W p l e R s m args below meth c H1 locs (u + 1) (12 * u + 4) Qm (F0 m (pc + 3) L (.ref q :: st.map (mm_cc Ad))) := by
    intro fs hfs q H1 hP1 hD1 hS1
    have hf := mm_fresh hD1
    have e0 := mm_ws_nob (E := E) (Ad := Ad) (M := M) (d := d) (o := q + 100) (k := rc) (n := 0) (by omega) hf
    rw [mm_el_obj (mm_nob_kd (M := M) (k := rc) (n := 0) (by omega : 100 ≤ q + 100) (by omega)).1 (by omega), hfs (q + 100) (by omega), Nat.add_sub_cancel] at e0
    rw [← e0] at hP1 hD1
    have h := kk (q + 100) (by omega) hf H1 locs L hL hP1 hD1 hS1
    rw [List.map_cons, mm_ref (by omega)] at h
    have ead : mm_ad Ad (q + 100) = q := by
      unfold mm_ad
      rw [if_neg (by omega)]
      omega
    rw [ead] at h
    exact W.widen (k := u + 1) (n := 12 * (u + 1)) (Nat.le_refl _) (by omega) h
  rcases hrc with rfl | rfl
  · refine va_new (C := RXB) (T := TXB) (N := 4) (ci := 6) (fs := [.null, .int 0, .int 0, .int 0]) X.1 X.2.1 X.2.2.2.2.1 (X.2.2.2.2.2.2.2 _ (List.mem_of_getElem? (i := 6) rfl)) tyXB tyXB_ok X.2.2.2.1 (ww (.classLink own k RXB) (by simp [mm_wk, mm_rcn])) (ww (.instantiable RXB 4) (by simp [mm_wk, mm_rcn])) (ww (.initialized RXB) (by simp [mm_wk, mm_rcn])) X.2.2.2.2.2.1 hP hD hS X.2.2.2.2.2.2.1 rfl (by decide +kernel) (by omega) (by omega) hd ?_
    exact fin _ (fun o ho => by
      have h0 : (0 : Nat) ≠ o := by omega
      simp [mm_fs, mm_ft, mm_nob, mm_fv, mm_cc, mm_rn, va_rf])
  · refine va_new (C := RXS) (T := TXS) (N := 4) (ci := 7) (fs := [.null, .int 0, .int 0, .int 0]) X.1 X.2.1 X.2.2.2.2.1 (X.2.2.2.2.2.2.2 _ (List.mem_of_getElem? (i := 7) rfl)) tyXS tyXS_ok X.2.2.2.1 (ww (.classLink own k RXS) (by simp [mm_wk, mm_rcn])) (ww (.instantiable RXS 4) (by simp [mm_wk, mm_rcn])) (ww (.initialized RXS) (by simp [mm_wk, mm_rcn])) X.2.2.2.2.2.1 hP hD hS X.2.2.2.2.2.2.1 rfl (by decide +kernel) (by omega) (by omega) hd ?_
    exact fin _ (fun o ho => by
      have h0 : (0 : Nat) ≠ o := by omega
      simp [mm_fs, mm_ft, mm_nob, mm_fv, mm_cc, mm_rn, va_rf])
/-- a byte row's class is one -/
theorem mm_unB {cA : ClassId} (h : va_K D mm_cl (mm_ty E ++ [(cA, .byte)]) s) : cA = E.2.1 := Option.some.inj (((h.2 3 _ rfl).2 : s.vm.findClass _ = some cA).symm.trans ((h.2 1 _ rfl).2 : s.vm.findClass _ = some E.2.1))
/-- a byte row more -/
theorem mm_moreB {q : Nat} {n : Nat} {h : Nat → Int} {H1 : Heap} {locs : List Loc} {L : Array Slot} (hL : mm_Lo Ad nL ls L) (hP1 : va_P D mm_cl (mm_ws E Ad M d ++ [(q, .inl (E.2.1, n, .inl (fun j => mm_b8 (h j))))]) H1) (hD1 : va_D A (mm_ws E Ad M d ++ [(q, .inl (E.2.1, n, .inl (fun j => mm_b8 (h j))))])) (hS1 : va_S A s.heap H1 locs)
    (kk : ∀ o : Nat, 100 ≤ o → o ∉ d → mm_Z p l e R s m args below meth c Qm nL D E Ad A tgt ls (mm_R o :: st) (mm_any (mm_nob M o 3 (n : Int)) o h) (d ++ [o]) (u + 1 + n / 12)) : W p l e R s m args below meth c H1 locs (u + 1) (12 * u + n) Qm (F0 m tgt L (.ref q :: st.map (mm_cc Ad))) := by
  have hf := mm_fresh hD1
  have hk := mm_nob_kd (M := M) (o := q + 100) (k := 3) (n := (n : Int)) (by omega) (by omega)
  have e0 := mm_ws_nob (E := E) (Ad := Ad) (M := M) (d := d) (o := q + 100) (k := 3) (n := (n : Int)) (by omega) hf
  have hne : q + 100 ≠ 0 := by omega
  have hlen : (mm_ids (d ++ [q + 100]))[(mm_ws E Ad M d).length]? = some (q + 100) := by simp [mm_ids, mm_ws]
  rw [Nat.add_sub_cancel] at e0
  have hD2 : va_D (fun _ => True) (mm_ws E Ad (mm_nob M (q + 100) 3 (n : Int)) (d ++ [q + 100])) := by
    rw [e0]
    refine ⟨fun i j x y hx hy hxy => ?_, fun _ _ _ => trivial⟩
    have key : ∀ (i : Nat) (x : Nat × va_E) (el : va_E), (mm_ws E Ad M d ++ [(q, el)])[i]? = some x → ∃ x', (mm_ws E Ad M d ++ [(q, (.inl (E.2.1, n, .inl (fun j => mm_b8 (h j))) : va_E))])[i]? = some x' ∧ x'.1 = x.1 := by
      intro i x el hi
      by_cases hl : i < (mm_ws E Ad M d).length
      · rw [List.getElem?_append_left hl] at hi ⊢
        exact ⟨x, hi, rfl⟩
      · rw [List.getElem?_append_right (by omega)] at hi ⊢
        have hz : i - (mm_ws E Ad M d).length < 1 := (List.getElem?_eq_some_iff.mp hi).1
        rw [show i - (mm_ws E Ad M d).length = 0 by omega] at hi ⊢
        cases hi
        exact ⟨_, rfl, rfl⟩
    obtain ⟨x', g1, g2⟩ := key i x _ hx
    obtain ⟨y', g3, g4⟩ := key j y _ hy
    exact hD1.1 i j x' y' g1 g3 (by rw [g2, g4]; exact hxy)
  have hw0 := mm_wset (E := E) (Ad := Ad) (M' := mm_any (mm_nob M (q + 100) 3 (n : Int)) (q + 100) h) hD2 hlen hne mm_any_o
  have ead : mm_ad Ad (q + 100) = q := by
    unfold mm_ad
    rw [if_neg (by omega)]
    omega
  rw [mm_el_any hne hk.1, hk.2, Int.toNat_natCast, ead, e0, List.set_append_right _ _ (Nat.le_refl _), Nat.sub_self, List.set_cons_zero] at hw0
  rw [hw0] at hP1 hD1
  have h9 := kk (q + 100) (by omega) hf H1 locs L hL hP1 hD1 hS1
  rw [List.map_cons, mm_ref hne, ead] at h9
  refine W.widen (k := u + 1 + n / 12) (n := 12 * (u + 1 + n / 12)) (by omega) ?_ h9
  have := Nat.div_add_mod n 12
  have := Nat.mod_lt n (by decide : 0 < 12)
  omega
theorem mz_newa {n : Int} (X : mm_Cx p s m args c cc own nL Ts D E A) (hR : mu ≤ R.cells ∧ 12 * mu ≤ R.slots) (hd : decode cc pc = .ok (.newarray .byte, 2)) (hw : Jvm.Cond.arrayClass .byte ∈ Ts) (hn : 0 ≤ n ∧ n < 100000) (hu : u + 1 + n.toNat / 12 ≤ mu)
    (kk : ∀ o : Nat, 100 ≤ o → o ∉ d → mm_Z p l e R s m args below meth c Qm nL D E Ad A (pc + 2) ls (mm_R o :: st) (mm_nob M o 3 n) (d ++ [o]) (u + 1 + n.toNat / 12)) : mm_Z p l e R s m args below meth c Qm nL D E Ad A pc ls (mm_I n :: st) M d u := by
  intro H locs L hL hP hD hS
  obtain ⟨n1, n2⟩ := mm_num (a := n) ⟨hn.1, by omega⟩
  obtain ⟨k, rfl⟩ := Int.eq_ofNat_of_zero_le hn.1
  rw [Int.toNat_natCast] at *
  have hk9 := Nat.div_add_mod k 12
  have hm9 := Nat.mod_lt k (by decide : 0 < 12)
  refine va_newa (atype := .byte) (ty := .byte) (N' := k) (a0 := (k, .inl (fun _ => mm_b8 0))) X.1 X.2.1 (X.2.2.2.2.1 _ hw) rfl X.2.2.2.2.2.1 hP hD hS X.2.2.2.2.2.2.1 (fun _ => rfl) n1 n2 (by
    have : componentBytes .byte = 1 := by decide
    rw [this]
    omega) (by omega) (by omega) hd (fun q cA H1 hK1 hP1 hD1 hS1 => ?_)
  have ec := mm_unB hK1
  subst ec
  refine mm_moreB (h := fun _ => 0) hL hP1 hD1 hS1 (fun o ho hod => ?_)
  have e : mm_any (mm_nob M o 3 (k : Int)) o (fun _ => 0) = mm_nob M o 3 (k : Int) := by
    funext x j
    simp only [mm_any, mm_nob]
    split <;> simp_all
  rw [e]
  exact kk o ho hod
theorem mz_cloneJ {k : Nat} {K : List mm_V → mm_M → List Nat → Nat → Prop} (X : mm_Cx p s m args c cc own nL Ts D E A) (hcl : va_Nw (.castable "[B" "java/lang/Cloneable") s) (hR : (mu ≤ R.cells ∧ 12 * mu ≤ R.slots) ∧ 5 < R.frames ∧ 82 ≤ R.locals) (hd : decode cc pc = .ok (.invokevirtual k, 3)) (hw : ∀ w ∈ mm_clW own k, w ∈ Ts) (h : mm_cloneJ mu st M d u K)
    (kk : ∀ st' M' d' u', K st' M' d' u' → mm_Z p l e R s m args below meth c Qm nL D E Ad A (pc + 3) ls st' M' d' u') : mm_Z p l e R s m args below meth c Qm nL D E Ad A pc ls st M d u := by
  have ww : ∀ w ∈ mm_clW own k, w.before args s = true := fun w h => X.2.2.2.2.1 _ (hw w h)
  unfold mm_cloneJ at h
  split at h
  · rename_i a r
    obtain ⟨ha, hu, hc, hk⟩ := h
    intro H locs L hL hP hD hS
    obtain ⟨q0, hq, hw0⟩ := mm_idx (E := E) (Ad := Ad) (M := M) ha.2
    simp only [mm_el, ha.1] at hw0
    rw [List.map_cons, mm_ref (mm_is0 ha)]
    have hk9 := Nat.div_add_mod (mm_ln M a) 12
    have hm9 := Nat.mod_lt (mm_ln M a) (by decide : 0 < 12)
    refine va_clone (ad := "[B") X.1 X.2.1 (X.2.2.1.trans hL.1.symm) X.2.2.2.1 (ww _ (by simp [mm_clW])) (ww _ (by simp [mm_clW])) (ww _ (by simp [mm_clW])) (ww _ (by simp [mm_clW])) (ww _ (by simp [mm_clW])) hcl X.2.2.2.2.2.1 hP hD hS X.2.2.2.2.2.2.1 q0 1 hw0 rfl (va_nm_byte (X.2.2.2.2.2.1.2 1 _ rfl).2) (va_fit (fun i _ => mm_b8_fit _)) (by omega) (by rw [mm_catsum]; omega) (by omega) (by show 12 * u + mm_ln M a ≤ _; omega) hd (fun q H1 hK1 hP1 hD1 hS1 => ?_)
    exact mm_moreB (h := fun j => M a j) hL hP1 hD1 hS1 (fun o ho hod => kk _ _ _ _ (hk o _ ho hod))
  · exact h.elim
theorem mz_cast {k o : Nat} (X : mm_Cx p s m args c cc own nL Ts D E A) (hd : decode cc pc = .ok (.checkcast k, 3)) (hw : Jvm.Cond.classLink own k "[B" ∈ Ts) (ho : mm_is M d o 3) (kk : mm_Z p l e R s m args below meth c Qm nL D E Ad A (pc + 3) ls (mm_R o :: st) M d u) : mm_Z p l e R s m args below meth c Qm nL D E Ad A pc ls (mm_R o :: st) M d u := by
  intro H locs L hL hP hD hS
  obtain ⟨q0, hq, hw0⟩ := mm_idx (E := E) (Ad := Ad) (M := M) ho.2
  simp only [mm_el, ho.1] at hw0
  have h := kk H locs L hL hP hD hS
  rw [List.map_cons, mm_ref (mm_is0 ho)] at h ⊢
  exact va_castA X.1 X.2.1 X.2.2.2.1 (X.2.2.2.2.1 _ hw) hP q0 hw0 (va_nm_byte (X.2.2.2.2.2.1.2 1 _ rfl).2) hd h
theorem mz_getC {k n : Nat} {v : mm_V} (X : mm_Cx p s m args c cc own nL Ts D E A) (hd : decode cc pc = .ok (.getfield k, 3)) (hw : Jvm.Cond.fieldLink own k RXS (TXS n).2.1 (TXS n).2.2.1 ∈ Ts) (hE : va_OF RXS (TXS n).2.1 (TXS n).2.2.1 (mm_cc Ad v) (Ad 28) A s s.heap)
    (kk : mm_Z p l e R s m args below meth c Qm nL D E Ad A (pc + 3) ls (v :: st) M d u) : mm_Z p l e R s m args below meth c Qm nL D E Ad A pc ls (mm_R 28 :: st) M d u := by
  intro H locs L hL hP hD hS
  have e1 : mm_cc Ad (mm_R 28) = .ref (Ad 28) := by rw [mm_ref (by decide)]; rfl
  rw [List.map_cons, e1]
  exact vk_getf X.1 X.2.1 hE hS X.2.2.2.1 (X.2.2.2.2.1 _ hw) (fun _ h => h) hd (kk H locs L hL hP hD hS)
theorem mz_putS {k n o : Nat} {v : mm_V} (X : mm_Cx p s m args c cc own nL Ts D E A) (hin : meth.name = "<init>") (ho9 : own = RXS) (hd : decode cc pc = .ok (.putfield k, 3)) (hw : Jvm.Cond.fieldLink own k RXS (TXS n).2.1 (TXS n).2.2.1 ∈ Ts) (ho : mm_is M d o 17)
    (kk : mm_pS n v (fun x => mm_Z p l e R s m args below meth c Qm nL D E Ad A (pc + 3) ls st (mm_up M o n x) d u)) : mm_Z p l e R s m args below meth c Qm nL D E Ad A pc ls (v :: mm_R o :: st) M d u := by
  intro H locs L hL hP hD hS
  obtain ⟨q0, hq, hw1⟩ := mm_idx (E := E) (Ad := Ad) (M := M) ho.2
  have hne := mm_is0 ho
  rw [mm_el_obj ho.1 (by decide)] at hw1
  rw [List.map_cons, List.map_cons, mm_ref hne]
  have fin : ∀ (ft : Nat) (x : Int), mm_nth (mm_ft 17) n = some (ft, 0) → mm_cc Ad v = mm_cc Ad (mm_fv ft 0 o x) → n < 2 → fits (tyXS n) (mm_cc Ad v) = true → narrow (tyXS n) (mm_cc Ad v) = mm_cc Ad v → mm_Z p l e R s m args below meth c Qm nL D E Ad A (pc + 3) ls st (mm_up M o n x) d u → W p l e R s m args below meth c H locs u (12 * u) Qm (F0 m pc L (mm_cc Ad v :: .ref (mm_ad Ad o) :: st.map (mm_cc Ad))) := by
    intro ft x hf he hn h2 h1 hx
    have hw0 := mm_wset (E := E) (Ad := Ad) (M' := mm_up M o n x) hD hq hne mm_up_o
    have hkd : mm_kd (mm_up M o n x) o = 17 := by rw [(mm_kd_up (M := M) (o' := o) hne mm_up_o).1]; exact ho.1
    rw [mm_el_obj hkd (by decide), ← mm_fs_set hf he] at hw0
    have hT : (TXS n).2.2.2 = true ∧ (TXS n).1 = RXS := by
      rcases (show n = 0 ∨ n = 1 by omega) with rfl | rfl <;> exact ⟨rfl, rfl⟩
    refine va_putF (D := D) (ci := 7) (C := RXS) (T := TXS) (N := 4) X.1 X.2.1 X.2.2.2.2.1 (X.2.2.2.2.2.2.2 _ (List.mem_of_getElem? (i := 7) rfl)) tyXS tyXS_ok nmXS X.2.2.2.1 X.2.2.2.2.2.1 hP hD hS q0 hw1 rfl n (by omega) (X.2.2.2.2.1 _ hw) (fun y hy => by rw [hT.2] at hy; exact hy) hT.1 hin (by rw [hT.2, ho9]) (tyXS_ok n (by omega)) h1 h2 (by simp [mm_fs, mm_ft]; omega) hd (fun H1 locs1 hP1 hD1 hS1 => ?_)
    rw [show (17 : Nat) - 10 = 7 from rfl] at hw0
    rw [hw0] at hP1 hD1
    exact hx H1 locs1 L hL hP1 hD1 hS1
  unfold mm_pS at kk
  split at kk
  · rename_i a
    exact fin 8 (a : Int) rfl (by simp [mm_fv]) (by decide) (by simp only [mm_cc]; cases mm_rn Ad a <;> rfl) (by simp only [mm_cc]; cases mm_rn Ad a <;> rfl) kk
  · rename_i x
    obtain ⟨rfl, hx⟩ := kk
    exact fin 9 0 rfl rfl (by decide) rfl rfl hx
  · exact kk.elim
theorem mz_objI {k o : Nat} (X : mm_Cx p s m args c cc own nL Ts D E A) (hR : 5 < R.frames ∧ 82 ≤ R.locals) (hd : decode cc pc = .ok (.invokespecial k, 3)) (hw : ∀ w ∈ mm_wk own 0 90 k, w ∈ Ts) (ho : o ≠ 0) (hc : mm_cats st ≤ 8) (kk : mm_Z p l e R s m args below meth c Qm nL D E Ad A (pc + 3) ls st M d u) : mm_Z p l e R s m args below meth c Qm nL D E Ad A pc ls (mm_R o :: st) M d u := by
  have ww : ∀ w ∈ mm_wk own 0 90 k, w.before args s = true := fun w h => X.2.2.2.2.1 _ (hw w h)
  intro H locs L hL hP hD hS
  rw [List.map_cons, mm_ref ho]
  refine W.objInit X.1 X.2.1 X.2.2.2.1 (ww _ (by simp [mm_wk])) (ww _ (by simp [mm_wk])) (ww _ (by simp [mm_wk])) rfl (by rw [X.2.2.1]; exact hL.1) rfl hd (by omega) (by
    have := mm_catsum Ad st
    simp only [List.map_map] at this ⊢
    show 2 * 0 + _ + 12 ≤ _
    rw [this]
    omega) ?_
  exact W.eq (g2 := F0 m (pc + 3) L (st.map (mm_cc Ad))) rfl (kk H locs L hL hP hD hS)
end MZ
end
section
/-! runs of the small machine; contracts; calls, throws, a method's contract out of its runs -/
def mm_iv (how idx : Nat) : Instr := match how with
  | 0 => .invokevirtual idx
  | 1 => .invokestatic idx
  | _ => .invokespecial idx
section MZ
variable {p : Program} {l : Launch} {e : Env} {R : Room} {s : State} {m : MethodId} {args : Array Value} {below : List Frame} {meth : Method} {c : Code} {Qm : State → Prop}
variable {cc : ByteArray} {own : String} {nL : Nat} {Ts : List Jvm.Cond} {D : va_G} {E : mm_En} {Ad : Nat → Nat} {A : Nat → Prop}
variable {F : Nat → Option (Nat × Nat)} {C : Nat → Option mm_Ca} {X0 : Nat → Nat → Nat → Option Nat} {LC : Nat → Option Int} {SC : Nat → Option (Nat × (Nat → Int32))} {rt mu : Nat} {hn : Nat → Nat → Option Nat} {Qr : mm_Q}
theorem mm_chk_cons {b : ByteArray} {pc t : Nat} {i : Instr} {r : List mm_E} (h : mm_chk b ((pc, i, t) :: r) = true) : decode b pc = .ok (i, mm_len i) ∧ mm_tg pc i t = true ∧ mm_nx (pc + mm_len i) r = true ∧ mm_chk b r = true := by
  simp only [mm_chk, Bool.and_eq_true, decide_eq_true_eq] at h
  exact h
/-- what a pool's entries must keep -/
def mm_Po (own : String) (Ts : List Jvm.Cond) (F : Nat → Option (Nat × Nat)) (LC : Nat → Option Int) : Prop :=
  (∀ k rc n, F k = some (rc, n) → mm_lj own Ts rc n k) ∧ ∀ k x, LC k = some x → Jvm.Cond.constantLong own k (Int64.ofInt x) ∈ Ts
theorem mm_ft_len (rc : Nat) : (mm_ft rc).length ≤ 17 := by
  unfold mm_ft
  split <;> decide
set_option maxHeartbeats 8000000 in
theorem mm_sound (X : mm_Cx p s m args c cc own nL Ts D E A) (hPo : mm_Po own Ts F LC) (hSC : mm_SX s A SC)
    (h9 : mm_J A Ad s ∧ va_Nw (.castable "[B" "java/lang/Cloneable") s ∧ ((mu ≤ R.cells ∧ 12 * mu ≤ R.slots) ∧ 5 < R.frames ∧ 82 ≤ R.locals) ∧ Jvm.Cond.arrayClass .byte ∈ Ts ∧ ∀ k rc, F k = some (rc, 91) → meth.name = "<init>")
    (hC : ∀ how idx pc ls st M d u Kn Kj, decode cc pc = .ok (mm_iv how idx, 3) → mm_call C mu hn Qr how idx pc ls st M d u Kn Kj → (∀ ls st M d u, Kn ls st M d u → mm_Z p l e R s m args below meth c Qm nL D E Ad A (pc + 3) ls st M d u) → (∀ t ls st M d u, Kj t ls st M d u → mm_Z p l e R s m args below meth c Qm nL D E Ad A t ls st M d u) → mm_Z p l e R s m args below meth c Qm nL D E Ad A pc ls st M d u)
    (hX : ∀ idx pc rest ls st M d u, decode cc pc = .ok (.new idx, 3) → mm_nx (pc + 3) rest = true → mm_chk cc rest = true → mm_thr X0 mu hn Qr idx pc rest st M d u → mm_Z p l e R s m args below meth c Qm nL D E Ad A pc ls st M d u)
    (hR : ∀ i pc ls st M d u, decode cc pc = .ok (i, mm_len i) → mm_ret rt mu i st M d u Qr → mm_Z p l e R s m args below meth c Qm nL D E Ad A pc ls st M d u)
    {pc tgt : Nat} {i : Instr} {rest : List mm_E} {ls : mm_Ls} {st : List mm_V} {M : mm_M} {d : List Nat} {u : Nat} {Kn : mm_K} {Kj : Nat → mm_K}
    (hk : mm_chk cc ((pc, i, tgt) :: rest) = true) (h : mm_op F C X0 LC SC rt mu hn Qr pc i tgt rest ls st M d u Kn Kj)
    (kn : ∀ ls st M d u, Kn ls st M d u → mm_Z p l e R s m args below meth c Qm nL D E Ad A (pc + mm_len i) ls st M d u) (kj : ∀ t ls st M d u, Kj t ls st M d u → mm_Z p l e R s m args below meth c Qm nL D E Ad A t ls st M d u) : mm_Z p l e R s m args below meth c Qm nL D E Ad A pc ls st M d u := by
  obtain ⟨hd, ht, hnx, hr⟩ := mm_chk_cons hk
  cases i with
  | iconst n => exact mz_iconst X hd (kn _ _ _ _ _ h)
  | bipush n => exact mz_bipush X hd h.1 (kn _ _ _ _ _ h.2)
  | sipush n => exact mz_sipush X hd h.1 (kn _ _ _ _ _ h.2)
  | lconst n => exact mz_lconst X hd (kn _ _ _ _ _ h)
  | ldc2_w k =>
    dsimp only [mm_op] at h
    split at h
    · rename_i x hx
      exact mz_ldc2 X hd (hPo.2 _ _ hx) (kn _ _ _ _ _ h)
    · exact h.elim
  | aconst_null => exact mz_null X hd (kn _ _ _ _ _ h)
  | iload n =>
    dsimp only [mm_op] at h
    split at h
    · rename_i x hx
      exact mz_iload X hd hx (kn _ _ _ _ _ h)
    · exact h.elim
  | iload_n n =>
    dsimp only [mm_op] at h
    split at h
    · rename_i x hx
      exact mz_iload_n X hd hx (kn _ _ _ _ _ h)
    · exact h.elim
  | lload n =>
    dsimp only [mm_op] at h
    split at h
    · rename_i x hx
      exact mz_lload X hd hx (kn _ _ _ _ _ h)
    · exact h.elim
  | lload_n n =>
    dsimp only [mm_op] at h
    split at h
    · rename_i x hx
      exact mz_lload_n X hd hx (kn _ _ _ _ _ h)
    · exact h.elim
  | aload n =>
    dsimp only [mm_op] at h
    split at h
    · rename_i x hx
      exact mz_aload X hd hx (kn _ _ _ _ _ h)
    · exact h.elim
  | aload_n n =>
    dsimp only [mm_op] at h
    split at h
    · rename_i x hx
      exact mz_aload_n X hd hx (kn _ _ _ _ _ h)
    · exact h.elim
  | istore n =>
    dsimp only [mm_op] at h
    split at h
    · exact mz_istore X hd h.1 (kn _ _ _ _ _ h.2)
    · exact h.elim
  | istore_n n =>
    dsimp only [mm_op] at h
    split at h
    · exact mz_istore_n X hd h.1 (kn _ _ _ _ _ h.2)
    · exact h.elim
  | lstore n =>
    dsimp only [mm_op] at h
    split at h
    · exact mz_lstore X hd h.1 h.2.1 (kn _ _ _ _ _ h.2.2)
    · exact h.elim
  | lstore_n n =>
    dsimp only [mm_op] at h
    split at h
    · exact mz_lstore_n X hd h.1 h.2.1 (kn _ _ _ _ _ h.2.2)
    · exact h.elim
  | astore n =>
    dsimp only [mm_op] at h
    split at h
    · exact mz_astore X hd h.1 (kn _ _ _ _ _ h.2)
    · exact h.elim
  | astore_n n =>
    dsimp only [mm_op] at h
    split at h
    · exact mz_astore_n X hd h.1 (kn _ _ _ _ _ h.2)
    · exact h.elim
  | iinc n x =>
    dsimp only [mm_op] at h
    split at h
    · rename_i y hx
      exact mz_iinc X hd hx h.1 (kn _ _ _ _ _ h.2)
    · exact h.elim
  | iadd =>
    dsimp only [mm_op] at h
    split at h
    · exact mz_iadd X hd (kn _ _ _ _ _ h)
    · exact h.elim
  | isub =>
    dsimp only [mm_op] at h
    split at h
    · exact mz_isub X hd (kn _ _ _ _ _ h)
    · exact h.elim
  | imul =>
    dsimp only [mm_op] at h
    split at h
    · exact mz_imul X hd (kn _ _ _ _ _ h)
    · exact h.elim
  | idiv =>
    dsimp only [mm_op] at h
    split at h
    · exact mz_idiv X hd h.1 h.2.1 h.2.2.1 (kn _ _ _ _ _ h.2.2.2)
    · exact h.elim
  | irem =>
    dsimp only [mm_op] at h
    split at h
    · exact mz_irem X hd h.1 h.2.1 h.2.2.1 (kn _ _ _ _ _ h.2.2.2)
    · exact h.elim
  | ineg =>
    dsimp only [mm_op] at h
    split at h
    · exact mz_ineg X hd (kn _ _ _ _ _ h)
    · exact h.elim
  | iand =>
    dsimp only [mm_op] at h
    split at h
    · exact mz_iand X hd (kn _ _ _ _ _ h)
    · exact h.elim
  | ior =>
    dsimp only [mm_op] at h
    split at h
    · exact mz_ior X hd (kn _ _ _ _ _ h)
    · exact h.elim
  | ixor =>
    dsimp only [mm_op] at h
    split at h
    · exact mz_ixor X hd (kn _ _ _ _ _ h)
    · exact h.elim
  | ishl =>
    dsimp only [mm_op] at h
    split at h
    · exact mz_ishl X hd h.1 (kn _ _ _ _ _ h.2)
    · exact h.elim
  | ishr =>
    dsimp only [mm_op] at h
    split at h
    · exact mz_ishr X hd h.1 h.2.1 (kn _ _ _ _ _ h.2.2)
    · exact h.elim
  | i2l =>
    dsimp only [mm_op] at h
    split at h
    · exact mz_i2l X hd (kn _ _ _ _ _ h)
    · exact h.elim
  | ladd =>
    dsimp only [mm_op] at h
    split at h
    · exact mz_ladd X hd (kn _ _ _ _ _ h)
    · exact h.elim
  | lmul =>
    dsimp only [mm_op] at h
    split at h
    · exact mz_lmul X hd (kn _ _ _ _ _ h)
    · exact h.elim
  | lcmp =>
    dsimp only [mm_op] at h
    split at h
    · exact mz_lcmp X hd h.1 (kn _ _ _ _ _ h.2)
    · exact h.elim
  | dup =>
    dsimp only [mm_op] at h
    split at h
    · exact h.elim
    · rename_i v r hv
      refine mz_dup X hd ?_ (kn _ _ _ _ _ h)
      rcases v with x | x | x | x <;> first | rfl | exact absurd rfl (hv _)
    · exact h.elim
  | dup2 =>
    dsimp only [mm_op] at h
    split at h
    · exact mz_dup2 X hd h.1 h.2.1 (kn _ _ _ _ _ h.2.2)
    · exact h.elim
  | pop =>
    dsimp only [mm_op] at h
    split at h
    · exact h.elim
    · rename_i v r hv
      refine mz_pop X hd ?_ (kn _ _ _ _ _ h)
      rcases v with x | x | x | x <;> first | rfl | exact absurd rfl (hv _)
    · exact h.elim
  | pop2 =>
    dsimp only [mm_op] at h
    split at h
    · exact mz_pop2 X hd (kn _ _ _ _ _ h)
    · exact h.elim
  | goto o => exact mz_goto X hd (mm_tgt ht) (kj _ _ _ _ _ _ h)
  | ifCond cnd o =>
    cases cnd <;> dsimp only [mm_op] at h <;> split at h
    · exact mz_if_eq X hd (mm_tgt ht) h.1 (fun q => kj _ _ _ _ _ _ (h.2.1 q)) (fun q => kn _ _ _ _ _ (h.2.2 q))
    · exact h.elim
    · exact mz_if_ne X hd (mm_tgt ht) h.1 (fun q => kj _ _ _ _ _ _ (h.2.1 q)) (fun q => kn _ _ _ _ _ (h.2.2 q))
    · exact h.elim
    · exact mz_if_lt X hd (mm_tgt ht) h.1 (fun q => kj _ _ _ _ _ _ (h.2.1 q)) (fun q => kn _ _ _ _ _ (h.2.2 q))
    · exact h.elim
    · exact mz_if_ge X hd (mm_tgt ht) h.1 (fun q => kj _ _ _ _ _ _ (h.2.1 q)) (fun q => kn _ _ _ _ _ (h.2.2 q))
    · exact h.elim
    · exact mz_if_gt X hd (mm_tgt ht) h.1 (fun q => kj _ _ _ _ _ _ (h.2.1 q)) (fun q => kn _ _ _ _ _ (h.2.2 q))
    · exact h.elim
    · exact mz_if_le X hd (mm_tgt ht) h.1 (fun q => kj _ _ _ _ _ _ (h.2.1 q)) (fun q => kn _ _ _ _ _ (h.2.2 q))
    · exact h.elim
  | if_icmp cnd o =>
    cases cnd <;> dsimp only [mm_op] at h <;> split at h
    · exact mz_icmp_eq X hd (mm_tgt ht) h.1 h.2.1 (fun q => kj _ _ _ _ _ _ (h.2.2.1 q)) (fun q => kn _ _ _ _ _ (h.2.2.2 q))
    · exact h.elim
    · exact mz_icmp_ne X hd (mm_tgt ht) h.1 h.2.1 (fun q => kj _ _ _ _ _ _ (h.2.2.1 q)) (fun q => kn _ _ _ _ _ (h.2.2.2 q))
    · exact h.elim
    · exact mz_icmp_lt X hd (mm_tgt ht) h.1 h.2.1 (fun q => kj _ _ _ _ _ _ (h.2.2.1 q)) (fun q => kn _ _ _ _ _ (h.2.2.2 q))
    · exact h.elim
    · exact mz_icmp_ge X hd (mm_tgt ht) h.1 h.2.1 (fun q => kj _ _ _ _ _ _ (h.2.2.1 q)) (fun q => kn _ _ _ _ _ (h.2.2.2 q))
    · exact h.elim
    · exact mz_icmp_gt X hd (mm_tgt ht) h.1 h.2.1 (fun q => kj _ _ _ _ _ _ (h.2.2.1 q)) (fun q => kn _ _ _ _ _ (h.2.2.2 q))
    · exact h.elim
    · exact mz_icmp_le X hd (mm_tgt ht) h.1 h.2.1 (fun q => kj _ _ _ _ _ _ (h.2.2.1 q)) (fun q => kn _ _ _ _ _ (h.2.2.2 q))
    · exact h.elim
  | if_acmp cnd o =>
    cases cnd <;> dsimp only [mm_op] at h <;> split at h
    · exact mz_acmp_eq X hd (mm_tgt ht) h.1 h.2.1 (fun q => kj _ _ _ _ _ _ (h.2.2.1 q)) (fun q => kn _ _ _ _ _ (h.2.2.2 q))
    · exact h.elim
    · exact mz_acmp_ne X hd (mm_tgt ht) h.1 h.2.1 (fun q => kj _ _ _ _ _ _ (h.2.2.1 q)) (fun q => kn _ _ _ _ _ (h.2.2.2 q))
    · exact h.elim
  | ifnull o =>
    dsimp only [mm_op] at h
    split at h
    · exact mz_ifnull X hd (mm_tgt ht) (fun q => kj _ _ _ _ _ _ (h.1 q)) (fun q => kn _ _ _ _ _ (h.2 q))
    · exact h.elim
  | ifnonnull o =>
    dsimp only [mm_op] at h
    split at h
    · exact mz_ifnonnull X hd (mm_tgt ht) (fun q => kj _ _ _ _ _ _ (h.1 q)) (fun q => kn _ _ _ _ _ (h.2 q))
    · exact h.elim
  | getfield k =>
    dsimp only [mm_op] at h
    split at h
    · rename_i hF
      rcases hPo.1 _ _ _ hF with ⟨hn, -⟩ | ⟨-, hw, -, -⟩
      · omega
      · obtain ⟨rfl, h⟩ := h
        exact mz_getC X hd (n := 0) (v := mm_R 29) (hw (.fieldLink own k RXS (TXS 0).2.1 (TXS 0).2.2.1) (by simp [mm_wk])) (by
          have e1 : mm_cc Ad (mm_R 29) = .ref (Ad 29) := by rw [mm_ref (by decide)]; rfl
          rw [e1]
          exact h9.1.2.2.2.2.2.2.2.2.1) (kn _ _ _ _ _ h)
    · rename_i hF
      rcases hPo.1 _ _ _ hF with ⟨hn, -⟩ | ⟨-, hw, -, -⟩
      · omega
      · obtain ⟨rfl, h⟩ := h
        exact mz_getC X hd (n := 1) (v := mm_I 0) (hw (.fieldLink own k RXS (TXS 1).2.1 (TXS 1).2.2.1) (by simp [mm_wk])) h9.1.2.2.2.2.2.2.2.1 (kn _ _ _ _ _ h)
    · rename_i hF
      obtain ⟨ho, h⟩ := h
      split at h
      · rename_i hf
        rcases hPo.1 _ _ _ hF with ⟨hn, hlk⟩ | ⟨hn, -⟩
        · exact mz_getf X hd hlk hf ho (kn _ _ _ _ _ h)
        · have h1 := mm_nth_lt hf
          exact absurd (Nat.lt_of_lt_of_le h1 (mm_ft_len _)) (by omega)
      · exact h.elim
    · exact h.elim
  | putfield k =>
    dsimp only [mm_op] at h
    split at h
    · rename_i hF
      rcases hPo.1 _ _ _ hF with ⟨hn, -⟩ | ⟨-, hw, -, hown⟩
      · omega
      · obtain ⟨ho, h⟩ := h
        refine mz_putS X (h9.2.2.2.2 _ _ hF) (hown rfl) hd (hw _ List.mem_cons_self) ho ?_
        revert h
        unfold mm_pS
        split
        · exact fun h => kn _ _ _ _ _ h
        · exact fun h => ⟨h.1, kn _ _ _ _ _ h.2⟩
        · exact fun h => h
    · rename_i hF
      obtain ⟨ho, h⟩ := h
      split at h
      · rename_i hf
        rcases hPo.1 _ _ _ hF with ⟨hn, hlk⟩ | ⟨hn, -⟩
        · refine mz_putf X hd hlk hf ho ?_
          revert h
          unfold mm_pf
          split
          · exact fun h => kn _ _ _ _ _ h
          · exact fun h => ⟨h.1, kn _ _ _ _ _ h.2⟩
          · exact fun h => kn _ _ _ _ _ h
          · exact fun h => kn _ _ _ _ _ h
          · exact fun h => kn _ _ _ _ _ h
          · exact fun h => ⟨h.1, kn _ _ _ _ _ h.2⟩
          · exact fun h => h
        · have h1 := mm_nth_lt hf
          exact absurd (Nat.lt_of_lt_of_le h1 (mm_ft_len _)) (by omega)
      · exact h.elim
    · exact h.elim
  | getstatic k =>
    dsimp only [mm_op] at h
    split at h
    · rename_i hF
      rcases hPo.1 _ _ _ hF with ⟨hn, -⟩ | ⟨-, hw, -, -⟩
      · omega
      · exact mz_gets (C := RXS) (n := "COMPACT_STRINGS") (dd := "Z") (v := mm_I 1) X hd (hw _ (by simp [mm_wk, mm_sn])) h9.1.1 (kn _ _ _ _ _ h)
    · rename_i hF
      rcases hPo.1 _ _ _ hF with ⟨hn, -⟩ | ⟨-, hw, -, -⟩
      · omega
      · exact mz_gets (C := "java/lang/Integer") (n := "DigitOnes") (dd := "[B") (v := mm_R 24) X hd (hw _ (by simp [mm_wk, mm_sn])) (by
          have e1 : mm_cc Ad (mm_R 24) = .ref (Ad 24) := by rw [mm_ref (by decide)]; rfl
          rw [e1]
          exact h9.1.2.1.1) (kn _ _ _ _ _ h)
    · rename_i hF
      rcases hPo.1 _ _ _ hF with ⟨hn, -⟩ | ⟨-, hw, -, -⟩
      · omega
      · exact mz_gets (C := "java/lang/Integer") (n := "DigitTens") (dd := "[B") (v := mm_R 25) X hd (hw _ (by simp [mm_wk, mm_sn])) (by
          have e1 : mm_cc Ad (mm_R 25) = .ref (Ad 25) := by rw [mm_ref (by decide)]; rfl
          rw [e1]
          exact h9.1.2.2.1.1) (kn _ _ _ _ _ h)
    · exact h.elim
  | ldc k =>
    dsimp only [mm_op] at h
    split at h
    · rename_i hF
      rcases hPo.1 _ _ _ hF with ⟨hn, -⟩ | ⟨-, -, ht, -⟩
      · omega
      · rcases ht rfl with ⟨-, ⟨rfl, rfl⟩ | ⟨rfl, rfl⟩⟩ | ⟨h0, -⟩
        · obtain ⟨q, hq⟩ := h9.1.2.2.2.1
          exact mz_ldcX X hd hq (v := mm_X q) rfl (kn _ _ _ _ _ (h q))
        · obtain ⟨q, hq⟩ := h9.1.2.2.2.2.1
          exact mz_ldcX X hd hq (v := mm_X q) rfl (kn _ _ _ _ _ (h q))
        · omega
    · rename_i hF
      rcases hPo.1 _ _ _ hF with ⟨hn, -⟩ | ⟨-, -, ht, -⟩
      · omega
      · rcases ht rfl with ⟨h0, -⟩ | ⟨-, rfl, rfl⟩
        · omega
        · exact mz_ldcX X hd h9.1.2.2.2.2.2.1 (v := mm_R 28) (by rw [mm_ref (by decide)]; rfl) (kn _ _ _ _ _ h)
    · rename_i hF
      rcases hPo.1 _ _ _ hF with ⟨hn, -⟩ | ⟨-, hw, -, -⟩
      · omega
      · exact mz_ldcI (v := 2147483639) X hd (hw _ (by simp [mm_wk])) (kn _ _ _ _ _ h)
    · rename_i hF
      rcases hPo.1 _ _ _ hF with ⟨hn, -⟩ | ⟨-, hw, -, -⟩
      · omega
      · exact mz_ldcI (v := 2147483647) X hd (hw _ (by simp [mm_wk])) (kn _ _ _ _ _ h)
    · exact h.elim
  | newarray ty =>
    cases ty <;> dsimp only [mm_op] at h <;> first | exact h.elim | skip
    split at h
    · exact mz_newa X h9.2.2.1.1 hd h9.2.2.2.1 h.1 h.2.1 (fun o a b => kn _ _ _ _ _ (h.2.2 o a b))
    · exact h.elim
  | baload =>
    dsimp only [mm_op] at h
    split at h
    · obtain ⟨ho, ha, h⟩ := h
      rcases ho with rfl | rfl
      · obtain ⟨f, hT⟩ := h9.1.2.1.2
        exact mz_bald X hd ⟨by decide, by decide⟩ hT ha (fun x => kn _ _ _ _ _ (h x))
      · obtain ⟨f, hT⟩ := h9.1.2.2.1.2
        exact mz_bald X hd ⟨by decide, by decide⟩ hT ha (fun x => kn _ _ _ _ _ (h x))
    · exact h.elim
  | bastore =>
    dsimp only [mm_op] at h
    split at h
    · exact mz_bast X hd h.1 h.2.1 h.2.2.1 (kn _ _ _ _ _ h.2.2.2)
    · exact h.elim
  | i2b =>
    dsimp only [mm_op] at h
    split at h
    · exact mz_i2b X hd (fun x => kn _ _ _ _ _ (h x))
    · exact h.elim
  | dup_x1 =>
    dsimp only [mm_op] at h
    split at h
    · exact mz_dup_x1 X hd h.1 h.2.1 (kn _ _ _ _ _ h.2.2)
    · exact h.elim
  | checkcast k =>
    dsimp only [mm_op] at h
    split at h
    · rename_i hF
      rcases hPo.1 _ _ _ hF with ⟨hn, -⟩ | ⟨-, hw, -, -⟩
      · omega
      · exact mz_cast X hd (hw _ (by simp [mm_wk])) h.1 (kn _ _ _ _ _ h.2)
    · exact h.elim
  | invokespecial k =>
    dsimp only [mm_op] at h
    split at h
    · rename_i hF
      rcases hPo.1 _ _ _ hF with ⟨hn, -⟩ | ⟨-, hw, -, -⟩
      · omega
      · exact mz_objI X h9.2.2.1.2 hd hw h.1 h.2.1 (kn _ _ _ _ _ h.2.2)
    · exact hC 2 k pc ls _ M d u Kn Kj hd h kn kj
  | iaload =>
    dsimp only [mm_op] at h
    split at h
    · split at h
      · rename_i hq
        exact mz_sld X hd hSC hq h.1 h.2.1 (kn _ _ _ _ _ h.2.2)
      · exact h.elim
    · exact mz_iald X hd h.1 h.2.1 h.2.2.1 (kn _ _ _ _ _ h.2.2.2)
    · exact h.elim
  | iastore =>
    dsimp only [mm_op] at h
    split at h
    · exact mz_iast X hd h.1 h.2.1 h.2.2.1 (kn _ _ _ _ _ h.2.2.2)
    · exact h.elim
  | aaload =>
    dsimp only [mm_op] at h
    split at h
    · exact mz_aald X hd h.1 h.2.1 h.2.2.1 (kn _ _ _ _ _ h.2.2.2)
    · exact h.elim
  | arraylength =>
    dsimp only [mm_op] at h
    split at h
    · exact mz_lenJ h9.1 X hd h (fun _ hk => kn _ _ _ _ _ hk)
    · exact mz_lenJ h9.1 X hd h (fun _ hk => kn _ _ _ _ _ hk)
    · exact mz_lenJ h9.1 X hd h (fun _ hk => kn _ _ _ _ _ hk)
    · split at h
      · split at h
        · rename_i hq
          exact mz_slen X hd hSC hq (kn _ _ _ _ _ h.2)
        · exact h.elim
      · exact mz_alen X hd h.1 h.2.1 (kn _ _ _ _ _ h.2.2)
      · exact h.elim
  | invokevirtual k =>
    dsimp only [mm_op] at h
    split at h
    · split at h
      · rename_i hF
        rcases hPo.1 _ _ _ hF with ⟨hn, -⟩ | ⟨-, hw, -, -⟩
        · omega
        · exact mz_cloneJ X h9.2.1 h9.2.2.1 hd hw h (fun _ _ _ _ hk => kn _ _ _ _ _ hk)
      · exact hC 0 k pc ls st M d u Kn Kj hd h kn kj
    · exact hC 0 k pc ls st M d u Kn Kj hd h kn kj
  | invokestatic k =>
    dsimp only [mm_op] at h
    split at h
    · split at h
      · rename_i hF
        rcases hPo.1 _ _ _ hF with ⟨hn, -⟩ | ⟨-, hw, -, -⟩
        · omega
        · exact mz_copyJ h9.1 X h9.2.2.1.2 hd hw h (fun _ _ hk => kn _ _ _ _ _ hk)
      · exact hC 1 k pc ls st M d u Kn Kj hd h kn kj
    · split at h
      · rename_i hF
        rcases hPo.1 _ _ _ hF with ⟨hn, -⟩ | ⟨-, hw, -, -⟩
        · omega
        · exact mz_copyJ h9.1 X h9.2.2.1.2 hd hw h (fun _ _ hk => kn _ _ _ _ _ hk)
      · exact hC 1 k pc ls st M d u Kn Kj hd h kn kj
    · exact hC 1 k pc ls st M d u Kn Kj hd h kn kj
  | new k =>
    dsimp only [mm_op] at h
    split at h
    · rename_i hF
      rcases hPo.1 _ _ _ hF with ⟨hn, -⟩ | ⟨-, hw, -, -⟩
      · omega
      · exact mz_new X h9.2.2.1.1 hd h.1 hw h.2.1 (fun o a b => kn _ _ _ _ _ (h.2.2 o a b))
    · exact hX k pc rest ls st M d u hd hnx hr h
  | return_ => exact hR _ pc ls st M d u hd h
  | ireturn => exact hR _ pc ls st M d u hd h
  | lreturn => exact hR _ pc ls st M d u hd h
  | areturn => exact hR _ pc ls st M d u hd h
  | _ => exact False.elim h
end MZ
end
section
/-! runs by continuation; contracts -/
def mm_in (t : Nat) : List Nat → Bool
  | [] => false
  | a :: l => bif a == t then true else mm_in t l
def mm_hd : List mm_E → Nat
  | [] => 0
  | q :: _ => q.1
section MR
variable (F : Nat → Option (Nat × Nat)) (C : Nat → Option mm_Ca) (X0 : Nat → Nat → Nat → Option Nat) (LC : Nat → Option Int) (SC : Nat → Option (Nat × (Nat → Int32))) (rt mu : Nat) (hn : Nat → Nat → Option Nat) (Qr : mm_Q)
/-- from here the method comes to its end -/
def mm_run (cd : List mm_E) (pc : Nat) (ls : mm_Ls) (st : List mm_V) (M : mm_M) (d : List Nat) (u : Nat) : Prop :=
  ∀ Z : Nat → mm_K, (∀ pc i t rest ls st M d u Kn Kj, mm_at pc cd = (pc, i, t) :: rest → mm_op F C X0 LC SC rt mu hn Qr pc i t rest ls st M d u Kn Kj → (∀ ls st M d u, Kn ls st M d u → Z (pc + mm_len i) ls st M d u) → (∀ t ls st M d u, Kj t ls st M d u → Z t ls st M d u) → Z pc ls st M d u) → Z pc ls st M d u
def mm_nxt (stop : List Nat) (S : Nat → mm_K) (rest : List mm_E) (k : mm_K) : mm_K := fun ls st M d u => match rest with
  | [] => False
  | q :: _ => bif mm_in q.1 stop then S q.1 ls st M d u else k ls st M d u
def mm_jmp (stop : List Nat) (S : Nat → mm_K) (t : Nat) (k : mm_K) : mm_K := fun ls st M d u => bif mm_in t stop then S t ls st M d u else k ls st M d u
/-- symbolic steps up to the places of stop, where S must hold -/
def mm_wp (cd : List mm_E) (stop : List Nat) (S : Nat → mm_K) : Nat → List mm_E → mm_K
  | 0, _, _, _, _, _, _ => False
  | _ + 1, [], _, _, _, _, _ => False
  | n + 1, (pc, i, t) :: rest, ls, st, M, d, u => mm_op F C X0 LC SC rt mu hn Qr pc i t rest ls st M d u (mm_nxt stop S rest (mm_wp cd stop S n rest)) (fun t => mm_jmp stop S t (mm_wp cd stop S n (mm_at t cd)))
end MR
theorem mm_len1 (i : Instr) : 1 ≤ mm_len i := by
  unfold mm_len
  split <;> decide
theorem mm_chk_lt {b : ByteArray} : ∀ (l : List mm_E) (q : mm_E), mm_chk b (q :: l) = true → ∀ x ∈ l, q.1 < x.1
  | [], q, h, x, hx => by cases hx
  | y :: l, (pc, i, t), h, x, hx => by
    obtain ⟨h1, h2, h3, h4⟩ := mm_chk_cons h
    have h5 : y.1 = pc + mm_len i := eq_of_beq h3
    have h6 := mm_len1 i
    rcases List.mem_cons.mp hx with rfl | hx
    · show pc < x.1
      omega
    · have := mm_chk_lt l y h4 x hx
      show pc < x.1
      omega
theorem mm_chk_app {b : ByteArray} : ∀ (pre : List mm_E) (l : List mm_E), mm_chk b (pre ++ l) = true → mm_chk b l = true
  | [], l, h => h
  | (pc, i, t) :: pre, l, h => mm_chk_app pre l (mm_chk_cons h).2.2.2
theorem mm_at_app {b : ByteArray} : ∀ (pre : List mm_E) (q : mm_E) (l : List mm_E), mm_chk b (pre ++ q :: l) = true → mm_at q.1 (pre ++ q :: l) = q :: l
  | [], q, l, h => by simp [mm_at]
  | a :: pre, q, l, h => by
    have h1 := mm_chk_lt (pre ++ q :: l) a h q (by simp)
    have h2 : (a.1 == q.1) = false := by simp; omega
    simp only [List.cons_append, mm_at, h2, cond_false]
    obtain ⟨pc, i, t⟩ := a
    exact mm_at_app pre q l (mm_chk_cons h).2.2.2
theorem mm_at_suf (t : Nat) : ∀ cd : List mm_E, ∃ pre, cd = pre ++ mm_at t cd
  | [] => ⟨[], rfl⟩
  | q :: r => by
    simp only [mm_at]
    cases h : q.1 == t
    · obtain ⟨pre, e⟩ := mm_at_suf t r
      exact ⟨q :: pre, by simp only [cond_false, List.cons_append]; rw [← e]⟩
    · exact ⟨[], rfl⟩
theorem mm_at_hd (t : Nat) : ∀ (cd : List mm_E) (q : mm_E) (r : List mm_E), mm_at t cd = q :: r → q.1 = t
  | [], q, r, h => by simp [mm_at] at h
  | a :: l, q, r, h => by
    simp only [mm_at] at h
    cases e : a.1 == t
    · rw [e] at h
      exact mm_at_hd t l q r h
    · rw [e] at h
      simp only [cond_true, List.cons.injEq] at h
      rw [← h.1]
      exact eq_of_beq e
section MR2
variable {F : Nat → Option (Nat × Nat)} {C : Nat → Option mm_Ca} {X0 : Nat → Nat → Nat → Option Nat} {LC : Nat → Option Int} {SC : Nat → Option (Nat × (Nat → Int32))} {rt mu : Nat} {hn : Nat → Nat → Option Nat} {Qr : mm_Q}
theorem mm_run_wp {b : ByteArray} {cd : List mm_E} {stop : List Nat} {S : Nat → mm_K} (hk : mm_chk b cd = true) (hS : ∀ t ls st M d u, mm_in t stop = true → S t ls st M d u → mm_run F C X0 LC SC rt mu hn Qr cd t ls st M d u) :
    ∀ (n : Nat) (l : List mm_E), (∃ pre, cd = pre ++ l) → ∀ ls st M d u, mm_wp F C X0 LC SC rt mu hn Qr cd stop S n l ls st M d u → mm_run F C X0 LC SC rt mu hn Qr cd (mm_hd l) ls st M d u
  | 0, l, hs, ls, st, M, d, u, h => by simp [mm_wp] at h
  | n + 1, [], hs, ls, st, M, d, u, h => by simp [mm_wp] at h
  | n + 1, (pc, i, t) :: rest, ⟨pre, hs⟩, ls, st, M, d, u, h => by
    intro Z hZ
    have hk' := hk
    rw [hs] at hk'
    have hat : mm_at pc cd = (pc, i, t) :: rest := by
      rw [hs]
      exact mm_at_app pre (pc, i, t) rest hk'
    refine hZ pc i t rest ls st M d u _ _ hat h (fun ls st M d u h1 => ?_) (fun t ls st M d u h1 => ?_)
    · cases rest with
      | nil => exact h1.elim
      | cons q r =>
        have hq : q.1 = pc + mm_len i := eq_of_beq (mm_chk_cons (mm_chk_app pre _ hk')).2.2.1
        rw [← hq]
        simp only [mm_nxt] at h1
        cases e : mm_in q.1 stop
        · rw [e] at h1
          exact mm_run_wp hk hS n (q :: r) ⟨pre ++ [(pc, i, t)], by rw [hs]; simp⟩ ls st M d u h1 Z hZ
        · rw [e] at h1
          exact hS _ _ _ _ _ _ e h1 Z hZ
    · simp only [mm_jmp] at h1
      cases e : mm_in t stop
      · rw [e] at h1
        simp only [cond_false] at h1
        cases ha : mm_at t cd with
        | nil =>
          rw [ha] at h1
          cases n <;> simp [mm_wp] at h1
        | cons q r =>
          rw [ha] at h1
          have h2 := mm_run_wp hk hS n (q :: r) (by have := mm_at_suf t cd; rw [ha] at this; exact this) ls st M d u h1 Z hZ
          have h3 : q.1 = t := mm_at_hd t cd q r ha
          rw [← h3]
          exact h2
      · rw [e] at h1
        exact hS _ _ _ _ _ _ e h1 Z hZ
/-- from the place pc on -/
theorem mm_run_at {b : ByteArray} {cd : List mm_E} {stop : List Nat} {S : Nat → mm_K} {pc : Nat} {ls : mm_Ls} {st : List mm_V} {M : mm_M} {d : List Nat} {u : Nat} (hk : mm_chk b cd = true) (n : Nat)
    (h : mm_wp F C X0 LC SC rt mu hn Qr cd stop S n (mm_at pc cd) ls st M d u) (hS : ∀ t ls st M d u, mm_in t stop = true → S t ls st M d u → mm_run F C X0 LC SC rt mu hn Qr cd t ls st M d u) : mm_run F C X0 LC SC rt mu hn Qr cd pc ls st M d u := by
  have h1 := mm_run_wp hk hS n (mm_at pc cd) (mm_at_suf pc cd) ls st M d u h
  cases ha : mm_at pc cd with
  | nil =>
    rw [ha] at h
    cases n <;> simp [mm_wp] at h
  | cons q r =>
    rw [ha] at h1
    have h3 : q.1 = pc := mm_at_hd pc cd q r ha
    rw [← h3]
    exact h1
end MR2
/-- good words alone: a call's words -/
def mm_T : List Jvm.Cond := lw_tbl.filter goodWord
def mm_strs : List (Nat × String) := [(344, "no such walk"), (352, "no such corner"), (354, "no such street"), (356, "no such place"), (360, "a number out of its range")]
/-- the system's private methods that texts reach -/
def mm_prv : List MethodName := [⟨"java/lang/AbstractStringBuilder", "ensureCapacityInternal", "(I)V"⟩, ⟨"java/lang/AbstractStringBuilder", "newCapacity", "(I)I"⟩, ⟨"java/lang/AbstractStringBuilder", "putStringAt", "(ILjava/lang/String;)V"⟩, ⟨"java/lang/AbstractStringBuilder", "inflateIfNeededFor", "(Ljava/lang/String;)V"⟩]
/-- words that aren't good ones, but stay -/
def mm_nw : List Jvm.Cond := mm_prv.map (fun y => .selects RXB y y) ++ [.castable "java/lang/IndexOutOfBoundsException" "java/lang/IndexOutOfBoundsException", .castable "java/lang/IllegalArgumentException" "java/lang/IllegalArgumentException", .methodLinkNest RX1 46 yX3_powerOf RX3, .methodLinkNest RL 139 yX4_init RL, .fieldLinkNest RL 13 RX4 "n" "J" RL, .fieldLinkNest RL 116 RX4 "s" "Ljava/lang/String;" RL, .declares (Bundle.initS "java/lang/RuntimeException"), .declares (Bundle.initS "java/lang/Exception"), .declares (Bundle.initS "java/lang/Throwable"), .castable "[B" "java/lang/Cloneable"]
def mm_U : List Jvm.Cond := mm_T ++ mm_nw
theorem mm_T_U : ∀ w ∈ mm_T, w ∈ mm_U := fun _ h => List.mem_append_left _ h
theorem mm_nw_warm {s U : State} (hW : s.WarmedH U.vm) (h : ∀ w ∈ mm_nw, va_Nw w s) : ∀ w ∈ mm_nw, va_Nw w U := by
  intro w hw
  have h1 := h w hw
  rcases List.mem_append.mp hw with hw | hw
  · obtain ⟨y, -, rfl⟩ := List.mem_map.mp hw
    exact word_at hW (Or.inl rfl) h1
  simp only [List.mem_cons, List.not_mem_nil, or_false] at hw
  rcases hw with rfl | rfl | rfl | rfl | rfl | rfl | rfl | rfl | rfl | rfl
  · exact va_Nw.warmC hW h1
  · exact va_Nw.warmC hW h1
  · exact va_Nw.warmM hW h1
  · exact va_Nw.warmM hW h1
  · exact va_Nw.warmF hW h1
  · exact va_Nw.warmF hW h1
  · exact va_Nw.warmD hW h1
  · exact va_Nw.warmD hW h1
  · exact va_Nw.warmD hW h1
  · exact va_Nw.warmC hW h1
theorem mm_nw_ot : ∀ w ∈ mm_nw, w.onTables = true := by decide +kernel
/-- the ground that every method stands on -/
def mm_G (A : Nat → Prop) (D : va_G) (E : mm_En) (Ad : Nat → Nat) (U : State) : Prop :=
  va_K D mm_cl (mm_ty E) U ∧ vx_Zq Bundle.tN "UNASSIGNED_STACK" Bundle.steD A U U.heap ∧ vx_Zq Bundle.tN "SUPPRESSED_SENTINEL" Bundle.listD A U U.heap ∧ (∀ q ∈ mm_strs, ∃ sa, vk_R RX3 q.1 q.2 sa U) ∧ (∀ w ∈ mm_nw, va_Nw w U) ∧ va_Nc "java/lang/IllegalArgumentException" "java/lang/IndexOutOfBoundsException" U ∧ va_Nc "java/lang/IndexOutOfBoundsException" "java/lang/IllegalArgumentException" U ∧ mm_J A Ad U
theorem mm_G.to {A A1 : Nat → Prop} {D : va_G} {E : mm_En} {Ad : Nat → Nat} {s U : State} {H : Heap} (h : mm_G A D E Ad s) (hW : s.WarmedH U.vm) (hH : U.heap = H) (hq : ∀ q, q < s.heap.size → ¬ A q → H[q]? = s.heap[q]?) (hA : ∀ q, A1 q → A q) : mm_G A1 D E Ad U := by
  obtain ⟨h1, h2, h3, h4, h5, h6, h7, h8⟩ := h
  refine ⟨va_K.moved hW.alike h1, ?_, ?_, fun q hq => ?_, mm_nw_warm hW h5, h6.moved hW.alike, h7.moved hW.alike, h8.to hW hH hq hA⟩
  · rw [hH]; exact (vx_Zq.moved hW.alike (h2.kept hq)).narrow hA
  · rw [hH]; exact (vx_Zq.moved hW.alike (h3.kept hq)).narrow hA
  · obtain ⟨sa, h⟩ := h4 q hq
    exact ⟨sa, vk_R.warm hW h⟩
def mm_B (D : va_G) (E : mm_En) (Ad : Nat → Nat) (sz : Nat) (M : mm_M) (d : List Nat) (U : State) : Prop :=
  U.heap.size = sz ∧ va_P D mm_cl (mm_ws E Ad M d) U.heap ∧ va_D (fun _ => True) (mm_ws E Ad M d) ∧ mm_G (va_A (mm_ws E Ad M d) sz) D E Ad U
def mm_xn (k : Nat) : String := if k = 0 then "java/lang/IndexOutOfBoundsException" else "java/lang/IllegalArgumentException"
def mm_Qc (D : va_G) (E : mm_En) (Ad : Nat → Nat) (A : Nat → Prop) (Q : mm_Q) : Array Value → State → Outcome → State → Prop := fun _ st oc t =>
  (∃ (r : Option mm_V) (M' : mm_M) (d' : List Nat), Q (.inl r) M' d' ∧ oc = .returned (r.map (mm_cc Ad)) ∧ va_P D mm_cl (mm_ws E Ad M' d') t.heap ∧ va_D A (mm_ws E Ad M' d')) ∧ va_F A st t
def mm_XC (D : va_G) (E : mm_En) (Ad : Nat → Nat) (A : Nat → Prop) (Q : mm_Q) : String → State → State → Prop := fun En st t =>
  (∃ (k : Nat) (M' : mm_M) (d' : List Nat), Q (.inr k) M' d' ∧ En = mm_xn k ∧ va_P D mm_cl (mm_ws E Ad M' d') t.heap ∧ va_D A (mm_ws E Ad M' d')) ∧ va_F A st t
/-- the word of a method's code: plain, or with a table of handlers -/
def mm_cw (y : MethodName) (b : ByteArray) (maxL : Nat) (ret : Option FieldType) (hh : List (Nat × Nat × Nat × Nat)) : Jvm.Cond := match hh with
  | [] => .code y b maxL ret
  | _ => .codeWith y b maxL ret hh
def mm_rm (fr lo mu : Nat) : Room := { frames := fr, cells := mu, slots := 12 * mu, locals := lo }
/-- a method's contract: whatever sp lets one conclude holds of its end -/
def mm_Met (l : Launch) (y : MethodName) (b : ByteArray) (maxL : Nat) (ret : Option FieldType) (hh : List (Nat × Nat × Nat × Nat)) (fr lo mu : Nat) (sp : mm_S) : Prop :=
  ∀ (D : va_G) (E : mm_En) (Ad : Nat → Nat) (sz : Nat) (av : List mm_V) (M : mm_M) (d : List Nat) (Q : mm_Q), sp av M d Q →
    vx_Met l y (mm_cw y b maxL ret hh :: mm_T) (mm_rm fr lo mu) (va_Pc (av.map (mm_cc Ad)) (mm_B D E Ad sz M d)) (mm_Qc D E Ad (va_A (mm_ws E Ad M d) sz) Q) (mm_XC D E Ad (va_A (mm_ws E Ad M d) sz) Q) mu (12 * mu) (va_A (mm_ws E Ad M d) sz)
/-- a call that never throws, of a method of the system's: what it does to this frame -/
def mm_sem (l : Launch) (own : String) (fr lo idx : Nat) (ca : mm_Ca) : Prop :=
  ∀ {p : Program} {e : Env} {R : Room} {s : State} {m : MethodId} {args : Array Value} {below : List Frame} {meth : Method} {c : Code} {Qm : State → Prop} {cc : ByteArray} {nL : Nat} {D : va_G} {E : mm_En} {Ad : Nat → Nat} {A : Nat → Prop} {mu : Nat},
    mm_Cx p s m args c cc own nL mm_U D E A → mm_G A D E Ad s → (mu ≤ R.cells ∧ 12 * mu ≤ R.slots) → fr ≤ R.frames → lo ≤ R.locals →
    ∀ (pc : Nat) (ls : mm_Ls) (st : List mm_V) (M : mm_M) (d : List Nat) (u : Nat) (Kn : mm_K) (QX : Nat → mm_M → List Nat → Prop), decode cc pc = .ok (mm_iv ca.1 idx, 3) → ca.2.1 ≤ st.length → mm_rv st ca.2.1 ca.2.2.1 M d → mm_cats (st.drop ca.2.1) ≤ 8 → u + ca.2.2.2.2 ≤ mu →
      ca.2.2.2.1 (st.take ca.2.1).reverse M d (fun o M' d' => match o with
        | .inl r => Kn ls (mm_push r (st.drop ca.2.1)) M' d' (u + ca.2.2.2.2)
        | .inr k => QX k M' d') →
      (∀ ls st M d u, Kn ls st M d u → mm_Z p l e R s m args below meth c Qm nL D E Ad A (pc + 3) ls st M d u) → mm_Z p l e R s m args below meth c Qm nL D E Ad A pc ls st M d u
/-- the words that a call by the pool's entry idx needs; y's own are among the tables' -/
def mm_PE (l : Launch) (own : String) (Ts : List Jvm.Cond) (R : Room) (idx : Nat) (ca : mm_Ca) : Prop :=
  (Ts = mm_U ∧ mm_sem l own R.frames R.locals idx ca) ∨
  ∃ (y : MethodName) (b : ByteArray) (maxL : Nat) (ret : Option FieldType) (hh : List (Nat × Nat × Nat × Nat)) (fr lo : Nat) (T : u_T) (N : Nat), mm_Met l y b maxL ret hh fr lo ca.2.2.2.2 ca.2.2.2.1 ∧
    mm_cw y b maxL ret hh ∈ mm_T ∧ Jvm.Cond.initialized y.cls ∈ Ts ∧ (y.cls ≠ "java/lang/invoke/MethodHandle" ∧ y.cls ≠ "java/lang/invoke/VarHandle") ∧ fr + 1 ≤ R.frames ∧ 8 + (maxL + 11) + lo ≤ R.locals ∧
    (Jvm.Cond.methodLink own idx y ∈ Ts ∨ (hh = [] ∧ ∃ host, Jvm.Cond.methodLinkNest own idx y host ∈ Ts)) ∧ (∀ w ∈ mm_T, w ∈ Ts) ∧
    ((ca.1 = 0 ∧ hh = [] ∧ Jvm.Cond.instanceMethod y ∈ Ts ∧ Jvm.Cond.selects y.cls y y ∈ Ts ∧ 10 ≤ ca.2.2.1 ∧ mm_cl[ca.2.2.1 - 10]? = some (y.cls, T, N) ∧ (parseMethodDescriptor y.desc).map (fun d => d.parameters.length + 1) = some ca.2.1) ∨
     (ca.1 = 1 ∧ Jvm.Cond.static y ∈ Ts ∧ (parseMethodDescriptor y.desc).map (fun d => d.parameters.length) = some ca.2.1))
end
section
/-! calls, throws, returns, and a method's contract out of its runs -/
theorem mm_split {α : Type} {v : α} : ∀ (st : List α) (n : Nat), 1 ≤ n → mm_nth st (n - 1) = some v → ∃ ini : List α, st = ini ++ v :: st.drop n ∧ st.take n = ini ++ [v] ∧ ini.length + 1 = n
  | [], n, h, hv => by simp [mm_nth] at hv
  | a :: st, 0, h, hv => by omega
  | a :: st, 1, h, hv => by
    have hv' : some a = some v := hv
    cases hv'
    exact ⟨[], by simp, by simp, rfl⟩
  | a :: st, n + 2, h, hv => by
    have hv' : mm_nth st (n + 1 - 1) = some v := hv
    obtain ⟨ini, h1, h2, h3⟩ := mm_split st (n + 1) (by omega) hv'
    refine ⟨a :: ini, ?_, ?_, by simp; omega⟩
    · simp only [List.drop_succ_cons, List.cons_append]
      rw [← h1]
    · simp only [List.take_succ_cons, List.cons_append, h2]
theorem mm_rv_old {st : List mm_V} {n rc : Nat} {M : mm_M} {d : List Nat} (h : 6 ≤ rc) : mm_rv st n (rc + 1) M d = (match mm_nth st (n - 1) with
    | some (.inr (.inr (.inl o))) => mm_is M d o (rc + 1)
    | _ => False) := by
  match rc, h with
  | rc + 6, _ => rfl
section MC
variable {p : Program} {l : Launch} {e : Env} {R : Room} {s : State} {m : MethodId} {args : Array Value} {below : List Frame} {meth : Method} {c : Code} {Qm : State → Prop}
variable {cc : ByteArray} {own : String} {nL : Nat} {Ts : List Jvm.Cond} {D : va_G} {E : mm_En} {Ad : Nat → Nat} {A : Nat → Prop}
variable {C : Nat → Option mm_Ca} {rt mu : Nat} {hn : Nat → Nat → Option Nat} {Qr : mm_Q}
/-- a throw over this frame: caught by the row that hn names, or it leaves -/
def mm_hT (p : Program) (l : Launch) (e : Env) (R : Room) (s : State) (m : MethodId) (args : Array Value) (below : List Frame) (meth : Method) (c : Code) (Qm : State → Prop) (nL : Nat) (D : va_G) (E : mm_En) (Ad : Nat → Nat) (A : Nat → Prop) (mu : Nat) (hn : Nat → Nat → Option Nat) (Qr : mm_Q) : Prop :=
  ∀ (k pc : Nat) (ls : mm_Ls) (M : mm_M) (d : List Nat) (u : Nat) (H : Heap) (locs : List Loc) (L : Array Slot) (rest : List Value) (q : Addr) (ce : Cell),
    (hn pc k = none → Qr (.inr k) M d) → (∀ hpc, hn pc k = some hpc → mm_Z p l e R s m args below meth c Qm nL D E Ad A hpc ls [mm_X q] M d u) → mm_Lo Ad nL ls L → va_P D mm_cl (mm_ws E Ad M d) H → va_D A (mm_ws E Ad M d) → va_S A s.heap H locs → u ≤ mu →
    H[q]? = some ce → ce.vm = .none → s.vm.findClass (mm_xn k) = some ce.cls → vx_W p l e R s m args below meth c H locs u (12 * u) Qm (F0 m pc L rest) q
theorem mm_blind {D : va_G} {E : mm_En} {Ad : Nat → Nat} {sz : Nat} {M : mm_M} {d : List Nat} {av : List Value} : FrameBlind (va_Pc av (mm_B D E Ad sz M d)) := by
  intro a U g mk h
  obtain ⟨h0, h1, h2, h3, h4⟩ := h
  exact ⟨h0, h1, h2, h3, h4.to (State.WarmedH.refl U) rfl (fun _ _ _ => rfl) (fun _ h => h)⟩
theorem mm_goodIn {w : Jvm.Cond} (hw : w ∈ mm_T) (hTs : ∀ w ∈ mm_T, w ∈ Ts) : GoodIn Ts (w :: mm_T) := by
  have h1 : ∀ x ∈ mm_T, x ∈ Ts ∧ ((x.onTables && x.keeps) = true ∨ ∃ ty, x = .arrayClass ty) := fun x hx => ⟨hTs x hx, good_of_word (List.mem_filter.mp hx).2⟩
  intro x hx
  rcases List.mem_cons.mp hx with rfl | hx
  · exact h1 _ hw
  · exact h1 _ hx
theorem mm_wsA {H : Heap} {locs : List Loc} {M : mm_M} {d : List Nat} (hD : va_D A (mm_ws E Ad M d)) (hS : va_S A s.heap H locs) (hA : ∀ q, s.heap.size ≤ q → A q) : ∀ q, va_A (mm_ws E Ad M d) H.size q → A q := by
  intro q h
  rcases h with ⟨k, x, h⟩ | h
  · exact hD.2 k _ h
  · exact hA q (Nat.le_trans hS.1 h)
theorem mm_after {pc u mu' : Nat} {H : Heap} {locs : List Loc} {L : Array Slot} {ls : mm_Ls} {st0 : List Value} {rest : List mm_V} {M : mm_M} {d : List Nat} {Q : mm_Q} {aa : Array Value} {Kn : mm_K} {Kj : Nat → mm_K}
    (hL : mm_Lo Ad nL ls L) (hD : va_D A (mm_ws E Ad M d)) (hS : va_S A s.heap H locs) (hA : ∀ q, s.heap.size ≤ q → A q) (hu : u + mu' ≤ mu) (hT : mm_hT p l e R s m args below meth c Qm nL D E Ad A mu hn Qr)
    (hr : vx_Run p l e R s m args below meth c H locs u (12 * u) mu' (12 * mu') (F0 m pc L st0) (rest.map (mm_cc Ad)) (mm_Qc D E Ad (va_A (mm_ws E Ad M d) H.size) Q aa) (mm_XC D E Ad (va_A (mm_ws E Ad M d) H.size) Q) (va_A (mm_ws E Ad M d) H.size))
    (hQ : ∀ o M' d', Q o M' d' → match o with
        | .inl r => Kn ls (mm_push r rest) M' d' (u + mu')
        | .inr k => match hn pc k with
          | none => Qr (.inr k) M' d'
          | some hpc => ∀ q : Nat, Kj hpc ls [mm_X q] M' d' (u + mu'))
    (kn : ∀ ls st M d u, Kn ls st M d u → mm_Z p l e R s m args below meth c Qm nL D E Ad A (pc + 3) ls st M d u) (kj : ∀ t ls st M d u, Kj t ls st M d u → mm_Z p l e R s m args below meth c Qm nL D E Ad A t ls st M d u) :
    W p l e R s m args below meth c H locs u (12 * u) Qm (F0 m pc L st0) := by
  have hf := mm_wsA hD hS hA
  intro T hTh X
  have e12 : 12 * u + 12 * mu' = 12 * (u + mu') := by omega
  rcases hr T hTh X with ⟨v, st₀, t, T', L1, h0, X', hL1, e1, e2, ⟨⟨r, M', d', hq, hv, hP1, hD1⟩, hF⟩, st⟩ | ⟨q, st₀, t, T', L1, En, ce, h0, X', hL1, e1, e2, ⟨⟨k, M', d', hq, rfl, hP1, hD1⟩, hF⟩, hce, hcv, hcl, st⟩
  · cases hv
    obtain ⟨k1, k2, k3⟩ := vx_keep h0 e1 hS (fun q _ h => hf q h) hf hL1 hF
    have h3 := kn _ _ _ _ _ (hQ _ _ _ hq) T'.heap (locs ++ L1) L hL (by rw [e1]; exact hP1) (hD1.weaken fun _ _ _ h => hf _ h) k3
    rw [e12] at X'
    obtain ⟨t2, a1, b1⟩ := h3 T' rfl X'
    refine ⟨t2, st t2 ?_, b1⟩
    have e3 : (r.map (mm_cc Ad)).toList ++ rest.map (mm_cc Ad) = (mm_push r rest).map (mm_cc Ad) := by cases r <;> rfl
    rw [e3]
    exact a1
  · obtain ⟨k1, k2, k3⟩ := vx_keep h0 e1 hS (fun q _ h => hf q h) hf hL1 hF
    have h2 := hQ _ _ _ hq
    rw [e12] at X'
    obtain ⟨t2, a1, b1⟩ := hT k pc ls M' d' (u + mu') T'.heap (locs ++ L1) L (rest.map (mm_cc Ad)) q ce (fun z => by simp only [z] at h2; exact h2) (fun hpc z => by simp only [z] at h2; exact kj _ _ _ _ _ _ (h2 q)) hL (by rw [e1]; exact hP1) (hD1.weaken fun _ _ _ h => hf _ h) k3 hu (by rw [e1]; exact hce) hcv hcl T' rfl X'
    exact ⟨t2, st.trans a1, b1⟩
theorem mm_preB {H : Heap} {locs : List Loc} {M : mm_M} {d : List Nat} {av : List Value} (hG : mm_G A D E Ad s) (hP : va_P D mm_cl (mm_ws E Ad M d) H) (hD : va_D A (mm_ws E Ad M d)) (hS : va_S A s.heap H locs) (hA : ∀ q, s.heap.size ≤ q → A q) :
    ∀ U : State, U.heap = H → s.WarmedH U.vm → va_Pc av (mm_B D E Ad H.size M d) av.toArray U := by
  intro U hU hW
  exact ⟨rfl, by rw [hU], by rw [hU]; exact hP, hD.weaken (fun _ _ _ _ => trivial), hG.to hW hU hS.2.1 (mm_wsA hD hS hA)⟩
theorem mz_call (X : mm_Cx p s m args c cc own nL Ts D E A) (hG : mm_G A D E Ad s) (hR : R.cells = mu ∧ R.slots = 12 * mu) (hPE : ∀ idx ca, C idx = some ca → mm_PE l own Ts R idx ca) (hT : mm_hT p l e R s m args below meth c Qm nL D E Ad A mu hn Qr)
    (how idx pc : Nat) (ls : mm_Ls) (st : List mm_V) (M : mm_M) (d : List Nat) (u : Nat) (Kn : mm_K) (Kj : Nat → mm_K) (hd : decode cc pc = .ok (mm_iv how idx, 3)) (h : mm_call C mu hn Qr how idx pc ls st M d u Kn Kj)
    (kn : ∀ ls st M d u, Kn ls st M d u → mm_Z p l e R s m args below meth c Qm nL D E Ad A (pc + 3) ls st M d u) (kj : ∀ t ls st M d u, Kj t ls st M d u → mm_Z p l e R s m args below meth c Qm nL D E Ad A t ls st M d u) : mm_Z p l e R s m args below meth c Qm nL D E Ad A pc ls st M d u := by
  unfold mm_call at h
  split at h
  · rename_i h' n rc sp mu' hc
    obtain ⟨rfl, hn', hrv, hcat, hu, hsp⟩ := h
    rcases hPE idx _ hc with ⟨rfl, hsem⟩ | ⟨y, b, maxL, ret, hh, fr, lo, T, N, hM, hcode, hini, hnmh, hfr, hlo, hlink, hTs, hkind⟩
    · exact hsem X hG ⟨Nat.le_of_eq hR.1.symm, Nat.le_of_eq hR.2.symm⟩ (Nat.le_refl _) (Nat.le_refl _) pc ls st M d u (Kn) (fun k M' d' => match hn pc k with
        | none => Qr (.inr k) M' d'
        | some hpc => ∀ q : Nat, Kj hpc ls [mm_X q] M' d' (u + mu')) hd hn' hrv hcat hu hsp kn
    dsimp only at hM hkind
    intro H locs L hL hP hD hS
    have hS' : CallFix p m c cc nL s args Ts own := ⟨X.1, X.2.1, X.2.2.1, X.2.2.2.1, X.2.2.2.2.1⟩
    have hMy := hM D E Ad H.size _ M d _ hsp
    have hws := pay_in X.2.2.2.2.1 (mm_goodIn hcode hTs)
    have hA := X.2.2.2.2.2.2.1
    have hroom : u + mu' ≤ R.cells ∧ 12 * u + 12 * mu' ≤ R.slots := ⟨by rw [hR.1]; exact hu, by rw [hR.2]; omega⟩
    have hcat' : 2 * (F0 m pc L (st.map (mm_cc Ad))).monitorRoom + (((st.drop n).map (mm_cc Ad)).map fun v => v.category).sum ≤ 8 := lv_room (by rw [mm_catsum]; exact hcat)
    rcases hkind with ⟨rfl, rfl, hins, hsel, h10, hcl, hpar⟩ | ⟨rfl, hst, hpar⟩
    · have hn1 : 1 ≤ n := by
        cases hz : parseMethodDescriptor y.desc with
        | none => rw [hz] at hpar; simp at hpar
        | some z => rw [hz] at hpar; simp at hpar; omega
      obtain ⟨rc', rfl⟩ : ∃ k, rc = k + 1 := ⟨rc - 1, by omega⟩
      rw [mm_rv_old (by omega)] at hrv
      split at hrv
      · rename_i o ho
        obtain ⟨ini, hst, htk, hil⟩ := mm_split st n hn1 ho
        have hargs : (st.take n).reverse = mm_R o :: ini.reverse := by rw [htk]; simp
        rw [hargs] at hMy
        obtain ⟨q0, hq, hw⟩ := mm_idx (E := E) (Ad := Ad) (M := M) hrv.2
        rw [mm_el_obj hrv.1 h10] at hw
        have hne := mm_is0 hrv
        rw [List.map_cons, mm_ref hne] at hMy
        have hlen : ∀ sig, parseMethodDescriptor y.desc = some sig → n - 1 = sig.parameters.length := by
          intro sig hsig
          rw [hsig] at hpar
          simp at hpar
          omega
        have hstack : st.map (mm_cc Ad) = ((ini.reverse).map (mm_cc Ad)).reverse ++ .ref (mm_ad Ad o) :: (st.drop n).map (mm_cc Ad) := by
          conv => lhs; rw [hst]
          rw [List.map_append, List.map_cons, mm_ref hne, List.map_reverse, List.reverse_reverse]
        have hpre : PreV s H y.cls (mm_ad Ad o) (va_Pc (.ref (mm_ad Ad o) :: (ini.reverse).map (mm_cc Ad)) (mm_B D E Ad H.size M d)) ((ini.reverse).map (mm_cc Ad)) := ⟨mm_blind, va_recv X.2.2.2.2.2.1 hP hcl hw, mm_preB hG hP hD hS hA⟩
        rcases hlink with hlink | ⟨-, host, hlink⟩
        · have cw : CallW R s args own y.cls idx y b maxL ret (mm_cw y b maxL ret [] :: mm_T) (mm_rm fr lo mu') mu' (12 * mu') (n - 1) :=
            ⟨⟨rfl, rfl, hfr, hlo, hws, List.mem_cons_self, X.2.2.2.2.1 _ (hTs _ hcode), X.2.2.2.2.1 _ hini, hnmh, hlen, X.2.2.2.2.1 _ hlink⟩, X.2.2.2.2.1 _ hins, X.2.2.2.2.1 _ hsel⟩
          exact mm_after hL hD hS hA hu hT (vx_runV hS' hMy cw hpre rfl (by simp; omega) hL.1 hstack hcat' hd hroom) (fun o M' d' hq => hq) kn kj
        · have cw : va_CN R s args own idx y host b maxL ret (mm_cw y b maxL ret [] :: mm_T) (mm_rm fr lo mu') mu' (12 * mu') (n - 1) ∧ (Jvm.Cond.instanceMethod y).before args s = true ∧ (Jvm.Cond.selects y.cls y y).before args s = true :=
            ⟨⟨⟨rfl, rfl, hfr, hlo, hws, List.mem_cons_self⟩, X.2.2.2.2.1 _ (hTs _ hcode), X.2.2.2.2.1 _ hini, hnmh, hlen, X.2.2.2.2.1 _ hlink⟩, X.2.2.2.2.1 _ hins, X.2.2.2.2.1 _ hsel⟩
          exact mm_after hL hD hS hA hu hT (vx_runVN hS' hMy cw hpre rfl (by simp; omega) hL.1 hstack hcat' hd hroom) (fun o M' d' hq => hq) kn kj
      · exact hrv.elim
    · have hlen : ∀ sig, parseMethodDescriptor y.desc = some sig → n = sig.parameters.length := by
        intro sig hsig
        rw [hsig] at hpar
        simp at hpar
        omega
      have hlenA : ((st.take n).reverse.map (mm_cc Ad)).length = n := by simp; omega
      have hstack : st.map (mm_cc Ad) = ((st.take n).reverse.map (mm_cc Ad)).reverse ++ (st.drop n).map (mm_cc Ad) := by
        rw [← List.map_reverse, List.reverse_reverse, ← List.map_append, List.take_append_drop]
      have hpre : PreS s H (va_Pc ((st.take n).reverse.map (mm_cc Ad)) (mm_B D E Ad H.size M d)) ((st.take n).reverse.map (mm_cc Ad)) := ⟨mm_blind, mm_preB hG hP hD hS hA⟩
      by_cases hhe : hh = []
      · subst hhe
        rcases hlink with hlink | ⟨-, host, hlink⟩
        · have cw : CallB R s args own idx y b maxL ret (mm_cw y b maxL ret [] :: mm_T) (mm_rm fr lo mu') mu' (12 * mu') n ∧ (Jvm.Cond.static y).before args s = true :=
            ⟨⟨rfl, rfl, hfr, hlo, hws, List.mem_cons_self, X.2.2.2.2.1 _ (hTs _ hcode), X.2.2.2.2.1 _ hini, hnmh, hlen, X.2.2.2.2.1 _ hlink⟩, X.2.2.2.2.1 _ hst⟩
          exact mm_after hL hD hS hA hu hT (vx_runS hS' hMy cw hpre rfl hlenA hL.1 hstack hcat' hd hroom) (fun o M' d' hq => hq) kn kj
        · have cw : va_CN R s args own idx y host b maxL ret (mm_cw y b maxL ret [] :: mm_T) (mm_rm fr lo mu') mu' (12 * mu') n ∧ (Jvm.Cond.static y).before args s = true ∧ True :=
            ⟨⟨⟨rfl, rfl, hfr, hlo, hws, List.mem_cons_self⟩, X.2.2.2.2.1 _ (hTs _ hcode), X.2.2.2.2.1 _ hini, hnmh, hlen, X.2.2.2.2.1 _ hlink⟩, X.2.2.2.2.1 _ hst, trivial⟩
          exact mm_after hL hD hS hA hu hT (vx_runSN hS' hMy cw hpre rfl hlenA hL.1 hstack hcat' hd hroom) (fun o M' d' hq => hq) kn kj
      · obtain ⟨h1, hr, rfl⟩ : ∃ h1 hr, hh = h1 :: hr := by
          cases hh with
          | nil => exact absurd rfl hhe
          | cons a b => exact ⟨a, b, rfl⟩
        rcases hlink with hlink | ⟨z, -⟩
        · have cw : vx_CSW R s args own idx y b maxL ret (h1 :: hr) (mm_cw y b maxL ret (h1 :: hr) :: mm_T) (mm_rm fr lo mu') mu' (12 * mu') n :=
            ⟨⟨rfl, rfl, hfr, hlo, hws, List.mem_cons_self⟩, X.2.2.2.2.1 _ (hTs _ hcode), X.2.2.2.2.1 _ hini, hnmh, hlen, X.2.2.2.2.1 _ hlink, X.2.2.2.2.1 _ hst⟩
          exact mm_after hL hD hS hA hu hT (vx_runSX hS' hMy cw hpre rfl hlenA hL.1 hstack hcat' hd hroom) (fun o M' d' hq => hq) kn kj
        · cases z
  · exact h.elim
end MC
end
section
/-! throws, returns, a method's contract -/
def mm_nms : List String := ["java/lang/RuntimeException", "java/lang/Exception"]
/-- the words of a throw -/
def mm_XE (own : String) (Ts : List Jvm.Cond) (idx is ic k : Nat) : Prop :=
  own = RX3 ∧ (∃ tx, (is, tx) ∈ mm_strs) ∧ Jvm.Cond.classLink own idx (mm_xn k) ∈ Ts ∧ Jvm.Cond.initialized (mm_xn k) ∈ Ts ∧ (∀ w ∈ vx_atS own ic (mm_xn k) mm_nms, w ∈ Ts) ∧ (∀ w ∈ Jvm.Cond.classLink own idx (mm_xn k) :: Jvm.Cond.initialized (mm_xn k) :: vx_atS own ic (mm_xn k) mm_nms, vx_ot w = true) ∧ Bundle.fit (mm_xn k) = true
def mm_rtOK (rt : Nat) (ret : Option FieldType) : Bool := match rt, ret with
  | 0, none => true
  | 1, some .int => true
  | 2, some .boolean => true
  | 3, some .long => true
  | 4, some (.object _) => true
  | 5, some .byte => true
  | 20, none => true
  | 21, some .int => true
  | 24, some (.object _) => true
  | 24, some (.array _) => true
  | _, _ => false
section MD
variable {p : Program} {l : Launch} {e : Env} {R : Room} {s : State} {m : MethodId} {args : Array Value} {below : List Frame} {meth : Method} {c : Code}
variable {cc : ByteArray} {own : String} {nL : Nat} {Ts : List Jvm.Cond} {D : va_G} {E : mm_En} {Ad : Nat → Nat} {A : Nat → Prop}
variable {X0 : Nat → Nat → Nat → Option Nat} {rt mu : Nat} {hn : Nat → Nat → Option Nat} {Qr : mm_Q}
theorem mm_F {t : State} {H : Heap} {locs : List Loc} (hS : va_S A s.heap H locs) (h1 : H.size ≤ t.heap.size) (h2 : ∀ q : Nat, q < H.size → t.heap[q]? = H[q]?) : va_F A s t :=
  ⟨Nat.le_trans hS.1 h1, fun q a b => (h2 q (Nat.lt_of_lt_of_le a hS.1)).trans (hS.2.1 q a b)⟩
theorem mz_thr (hl : l.stackTraces = false) (X : mm_Cx p s m args c cc own nL Ts D E A) (hG : mm_G A D E Ad s) (hR : R.cells = mu ∧ R.slots = 12 * mu) (hRf : 5 < R.frames) (hRl : 82 ≤ R.locals) (htab : ∀ x ∈ c.exceptionTable.toList, False) (hlocks : meth.locks = false)
    (hXE : ∀ idx is ic k, X0 idx is ic = some k → mm_XE own Ts idx is ic k) (hn0 : ∀ pc k, hn pc k = none)
    (idx pc : Nat) (rest : List mm_E) (ls : mm_Ls) (st : List mm_V) (M : mm_M) (d : List Nat) (u : Nat) (hd : decode cc pc = .ok (.new idx, 3)) (hnx : mm_nx (pc + 3) rest = true) (hk : mm_chk cc rest = true) (h : mm_thr X0 mu hn Qr idx pc rest st M d u) :
    mm_Z p l e R s m args below meth c (vx_MQ below (mm_Qc D E Ad A Qr) (mm_XC D E Ad A Qr) args s mu (12 * mu) A) nL D E Ad A pc ls st M d u := by
  unfold mm_thr at h
  split at h
  · rename_i q1 t1 q2 is t2 q3 ic t3 q4 t4 r'
    split at h
    · rename_i k hx
      obtain ⟨rfl, hu, hq⟩ := h
      obtain ⟨rfl, ⟨tx, htx⟩, hcl, hini, hat, hot, hfit⟩ := hXE _ _ _ _ hx
      obtain ⟨d3, -, n4, k4⟩ := mm_chk_cons hk
      obtain ⟨d4, -, n7, k7⟩ := mm_chk_cons k4
      obtain ⟨d7, -, n10, k10⟩ := mm_chk_cons k7
      obtain ⟨d10, -, -, -⟩ := mm_chk_cons k10
      have e1 : q1 = pc + 3 := eq_of_beq hnx
      have e2 : q2 = q1 + 1 := eq_of_beq n4
      have e3 : q3 = q2 + 3 := eq_of_beq n7
      have e4 : q4 = q3 + 3 := eq_of_beq n10
      subst e1; subst e2; subst e3; subst e4
      intro H locs L hL hP hD hS
      obtain ⟨sa, hsa⟩ := hG.2.2.2.1 _ htx
      refine vx_throwSW X.1 X.2.1 hl X.2.2.2.1 hfit (by decide +kernel) (X.2.2.2.2.1 _ hcl) (X.2.2.2.2.1 _ hini) hsa (fun w hw => X.2.2.2.2.1 _ (hat w hw)) hot hG.2.1 hG.2.2.1 hS (hL.1.trans X.2.2.1.symm) hd d3 d4 d7 d10 (fun x hx => (htab x hx).elim) hRf ?_ (by rw [hR.1]; exact hu) (by rw [hR.2]; omega) hlocks ?_ hS.2.2 hu (by omega)
      · exact hRl
      · intro t _ h1 h2
        exact ⟨⟨k, M, d, hq, rfl, hP.kept (fun j q hj => h2 q.1 (hP j q hj).lt), hD⟩, mm_F hS h1 h2⟩
    · exact h.elim
  · exact h.elim
theorem mz_ret0 {ret : Option FieldType} (X : mm_Cx p s m args c cc own nL Ts D E A) (hr : meth.sig.returnType = ret) (hrt : mm_rtOK rt ret = true) (hlocks : meth.locks = false)
    (i : Instr) (pc : Nat) (ls : mm_Ls) (st : List mm_V) (M : mm_M) (d : List Nat) (u : Nat) (hd : decode cc pc = .ok (i, mm_len i)) (h : mm_ret rt mu i st M d u Qr) :
    mm_Z p l e R s m args below meth c (MQ below (mm_Qc D E Ad A Qr) args s mu (12 * mu) A) nL D E Ad A pc ls st M d u := by
  intro H locs L hL hP hD hS
  unfold mm_ret at h
  split at h
  · rename_i r hir
    obtain ⟨hb, hu, hq⟩ := h
    refine W.widen (k := mu) (n := 12 * mu) hu (by omega) ?_
    have hQ : ∀ t : State, t.heap = H → s.WarmedH t.vm → mm_Qc D E Ad A Qr args s (.returned (r.map (mm_cc Ad))) t := fun t ht _ => ⟨⟨r, M, d, hq, rfl, by rw [ht]; exact hP, hD⟩, hS.F ht⟩
    subst hr
    unfold mm_isRet at hir
    have r0 : ∀ {k : Nat}, (k = 0 ∨ k = 20) → mm_rtOK k meth.sig.returnType = true → meth.sig.returnType = none := by
      intro k hk h
      rcases hk with rfl | rfl
      all_goals
        revert h
        cases meth.sig.returnType <;> simp [mm_rtOK]
    have r1 : ∀ {k : Nat}, (k = 1 ∨ k = 21) → mm_rtOK k meth.sig.returnType = true → meth.sig.returnType = some .int := by
      intro k hk h
      rcases hk with rfl | rfl
      all_goals
        revert h
        cases meth.sig.returnType with
        | none => simp [mm_rtOK]
        | some t => cases t <;> simp [mm_rtOK]
    have r4 : ∀ {k : Nat}, (k = 4 ∨ k = 24) → mm_rtOK k meth.sig.returnType = true → ∃ rt9, meth.sig.returnType = some rt9 ∧ ((∃ n, rt9 = .object n) ∨ ∃ t, rt9 = .array t) := by
      intro k hk h
      rcases hk with rfl | rfl
      all_goals
        revert h
        cases meth.sig.returnType with
        | none => simp [mm_rtOK]
        | some t => cases t <;> simp [mm_rtOK]
    have aret : ∀ v : Nat ⊕ Nat, (∃ rt9, meth.sig.returnType = some rt9 ∧ ((∃ n, rt9 = .object n) ∨ ∃ t, rt9 = .array t)) → (∀ t : State, t.heap = H → s.WarmedH t.vm → mm_Qc D E Ad A Qr args s (.returned (some (mm_cc Ad (.inr (.inr v))))) t) → decode cc pc = .ok (.areturn, 1) → W p l e R s m args below meth c H locs mu (12 * mu) (MQ below (mm_Qc D E Ad A Qr) args s mu (12 * mu) A) (F0 m pc L [mm_cc Ad (.inr (.inr v))]) := by
      intro v ⟨rt9, hr0, hr9⟩ hQ hd
      rcases mm_rcases Ad v with hv | ⟨q, hv⟩
      · simp only [hv] at hQ ⊢
        exact W.aret X.1 X.2.1 hr0 hr9 (Or.inl rfl) hQ hS.2.2 hd
      · simp only [hv] at hQ ⊢
        exact W.aret X.1 X.2.1 hr0 hr9 (Or.inr ⟨_, rfl⟩) hQ hS.2.2 hd
    split at hir
    · cases hir
      exact W.vret X.1 X.2.1 (r0 (Or.inl rfl) hrt) hQ hS.2.2 hd
    · cases hir
      exact W.iret X.1 X.2.1 (r1 (Or.inl rfl) hrt) hQ hS.2.2 hd
    · rename_i x
      cases hir
      have hr0 : meth.sig.returnType = some .boolean := by
        revert hrt
        cases meth.sig.returnType with
        | none => simp [mm_rtOK]
        | some t => cases t <;> simp [mm_rtOK]
      have hx : x = 0 ∨ x = 1 := hb
      exact W.zret X.1 X.2.1 hr0 (by rcases hx with rfl | rfl <;> decide) hQ hS.2.2 hd
    · cases hir
      have hr0 : meth.sig.returnType = some .long := by
        revert hrt
        cases meth.sig.returnType with
        | none => simp [mm_rtOK]
        | some t => cases t <;> simp [mm_rtOK]
      exact W.lret X.1 X.2.1 hr0 hQ hS.2.2 hd
    · rename_i v
      cases hir
      exact aret v (r4 (Or.inl rfl) hrt) hQ hd
    · rename_i x
      cases hir
      have hr0 : meth.sig.returnType = some .byte := by
        revert hrt
        cases meth.sig.returnType with
        | none => simp [mm_rtOK]
        | some t => cases t <;> simp [mm_rtOK]
      have hx : x = 0 := hb
      subst hx
      exact W.zret X.1 X.2.1 hr0 (by decide) hQ hS.2.2 hd
    · cases hir
      exact W.vret X.1 X.2.1 (r0 (Or.inr rfl) hrt) hQ hS.2.2 hd
    · cases hir
      exact W.iret X.1 X.2.1 (r1 (Or.inr rfl) hrt) hQ hS.2.2 hd
    · rename_i v
      cases hir
      exact aret v (r4 (Or.inr rfl) hrt) hQ hd
    · cases hir
  · exact h.elim
theorem mz_ret {ret : Option FieldType} (X : mm_Cx p s m args c cc own nL Ts D E A) (hr : meth.sig.returnType = ret) (hrt : mm_rtOK rt ret = true) (hlocks : meth.locks = false)
    (i : Instr) (pc : Nat) (ls : mm_Ls) (st : List mm_V) (M : mm_M) (d : List Nat) (u : Nat) (hd : decode cc pc = .ok (i, mm_len i)) (h : mm_ret rt mu i st M d u Qr) :
    mm_Z p l e R s m args below meth c (vx_MQ below (mm_Qc D E Ad A Qr) (mm_XC D E Ad A Qr) args s mu (12 * mu) A) nL D E Ad A pc ls st M d u :=
  fun H locs L hL hP hD hS => vx_ret (mz_ret0 X hr hrt hlocks i pc ls st M d u hd h H locs L hL hP hD hS)
theorem mz_noT (htab : ∀ x ∈ c.exceptionTable.toList, False) (hlocks : meth.locks = false) (hn0 : ∀ pc k, hn pc k = none) :
    mm_hT p l e R s m args below meth c (vx_MQ below (mm_Qc D E Ad A Qr) (mm_XC D E Ad A Qr) args s mu (12 * mu) A) nL D E Ad A mu hn Qr := by
  intro k pc ls M d u H locs L rest q ce h1 _ hL hP hD hS hu hce hcv hcl
  exact vx_out (fun x hx => (htab x hx).elim) hlocks hce hcv hcl (fun t ht _ => ⟨⟨k, M, d, h1 (hn0 pc k), rfl, by rw [ht]; exact hP, hD⟩, hS.F ht⟩) hS.2.2 hu (by omega)
end MD
def mm_fl : List mm_V → mm_Ls
  | [] => []
  | v :: r => match v with
    | .inr (.inl _) => some v :: none :: mm_fl r
    | _ => some v :: mm_fl r
def mm_pad : Nat → mm_Ls → mm_Ls
  | 0, l => l
  | n + 1, [] => none :: mm_pad n []
  | n + 1, a :: l => a :: mm_pad n l
def mm_ent (n : Nat) (av : List mm_V) : mm_Ls := mm_pad n (mm_fl av)
theorem mm_pad_len : ∀ (n : Nat) (l : mm_Ls), l.length ≤ n → (mm_pad n l).length = n
  | 0, l, h => by simp [mm_pad]; simpa using h
  | n + 1, [], h => by simp only [mm_pad, List.length_cons, mm_pad_len n [] (Nat.zero_le n)]
  | n + 1, a :: l, h => by simp only [mm_pad, List.length_cons, mm_pad_len n l (by simpa using h)]
theorem mm_pad_nth {v : mm_V} : ∀ (n : Nat) (l : mm_Ls) (i : Nat), mm_nth (mm_pad n l) i = some (some v) → mm_nth l i = some (some v)
  | 0, l, i, h => h
  | n + 1, [], 0, h => by simp [mm_pad, mm_nth] at h
  | n + 1, [], i + 1, h => by
    have := mm_pad_nth n [] i h
    simp [mm_nth] at this
  | n + 1, a :: l, 0, h => h
  | n + 1, a :: l, i + 1, h => mm_pad_nth n l i h
theorem mm_fl_len (Ad : Nat → Nat) : ∀ av : List mm_V, (lg_sl (av.map (mm_cc Ad))).length = (mm_fl av).length
  | [] => rfl
  | v :: r => by
    have ih := mm_fl_len Ad r
    simp only [lg_sl, List.map_cons, List.flatMap_cons, List.length_append] at ih ⊢
    rw [ih]
    have hc := mm_catv Ad v
    rcases v with x | x | o | q
    · simp [mm_fl, hc, mm_cat]; omega
    · simp [mm_fl, hc, mm_cat]; omega
    · simp [mm_fl, hc, mm_cat]; omega
    · simp [mm_fl, hc, mm_cat]; omega
theorem mm_fl_nth {Ad : Nat → Nat} {v : mm_V} : ∀ (av : List mm_V) (k i : Nat), mm_nth (mm_fl av) i = some (some v) → (k + i, mm_cc Ad v) ∈ lv_args k (av.map (mm_cc Ad))
  | [], k, i, h => by simp [mm_fl, mm_nth] at h
  | w :: r, k, i, h => by
    simp only [List.map_cons, lv_args, List.mem_cons]
    have hc := mm_catv Ad w
    have one : mm_cat w = 1 → mm_fl (w :: r) = some w :: mm_fl r := by
      intro h1
      rcases w with x | x | o | q <;> first | rfl | (simp [mm_cat] at h1)
    rcases (show mm_cat w = 1 ∨ mm_cat w = 2 by rcases w with x | x | o | q <;> simp [mm_cat]) with h1 | h2
    · rw [one h1] at h
      rw [hc, h1, if_neg (by decide)]
      cases i with
      | zero =>
        simp only [mm_nth, Option.some.injEq] at h
        left
        rw [h, Nat.add_zero]
      | succ i =>
        right
        have := mm_fl_nth (Ad := Ad) r (k + 1) i h
        rw [show k + (i + 1) = k + 1 + i by omega]
        exact this
    · have h3 : mm_fl (w :: r) = some w :: none :: mm_fl r := by
        rcases w with x | x | o | q <;> first | rfl | (simp [mm_cat] at h2)
      rw [h3] at h
      rw [hc, h2, if_pos rfl]
      match i, h with
      | 0, h =>
        simp only [mm_nth, Option.some.injEq] at h
        left
        rw [h, Nat.add_zero]
      | 1, h => simp [mm_nth] at h
      | i + 2, h =>
        right
        have := mm_fl_nth (Ad := Ad) r (k + 2) i h
        rw [show k + (i + 2) = k + 2 + i by omega]
        exact this
theorem mm_entry {Ad : Nat → Nat} {n : Nat} {av : List mm_V} (h : (mm_fl av).length ≤ n) : mm_Lo Ad n (mm_ent n av) (lg_sl (av.map (mm_cc Ad)) ++ List.replicate (n - (lg_sl (av.map (mm_cc Ad))).length) Slot.unset).toArray := by
  obtain ⟨h1, h2, h3⟩ := lv_entry (av.map (mm_cc Ad)) (n := n) (by rw [mm_fl_len]; exact h)
  refine ⟨h1, h2, mm_pad_len n _ h, fun i v hi => ?_⟩
  have := h3 _ (mm_fl_nth (Ad := Ad) av 0 i (mm_pad_nth n _ i hi))
  simpa using this
theorem mm_T_cls : ∀ q ∈ mm_cl, ∀ w ∈ u_ws q.1 q.2.1 q.2.2, w ∈ mm_T := by decide +kernel
theorem mm_T_ab : Jvm.Cond.arrayClass .byte ∈ mm_T := by decide +kernel
/-- a method's contract out of its runs -/
theorem mm_meth {l : Launch} {y : MethodName} {b : ByteArray} {maxL : Nat} {ret : Option FieldType} {fr lo mu rt : Nat} {own : String} {sp : mm_S} {cd : List mm_E}
    {F : Nat → Option (Nat × Nat)} {C : Nat → Option mm_Ca} {X0 : Nat → Nat → Nat → Option Nat} {LC : Nat → Option Int}
    (hl : l.stackTraces = false) (hy : plainName y.cls = true) (hown : y.cls = own) (hk : mm_chk b cd = true) (hrt : mm_rtOK rt ret = true) (hfr : 5 < fr) (hlo : 82 ≤ lo)
    (hPo : mm_Po own mm_U F LC) (hPE : ∀ idx ca, C idx = some ca → mm_PE l own mm_U (mm_rm fr lo mu) idx ca) (hXE : ∀ idx is ic k, X0 idx is ic = some k → mm_XE own mm_U idx is ic k) (h91 : ∀ k rc, F k ≠ some (rc, 91))
    (h : ∀ av M d Q, sp av M d Q → (mm_fl av).length ≤ maxL ∧ mm_run F C X0 LC (fun _ => none) rt mu (fun _ _ => none) Q cd 0 (mm_ent maxL av) [] M d 0) : mm_Met l y b maxL ret [] fr lo mu sp := by
  intro D E Ad sz av M d Q hsp
  obtain ⟨hw, hrun⟩ := h av M d Q hsp
  refine vx_ofW (cc := b) (maxL := maxL) (ret := ret) hy rfl ?_
  intro p e s m args below meth c s₁ B hml htab hPc
  obtain ⟨rfl, hsz, hP, hD0, hG⟩ := hPc
  have hts := atoms_spec (ws := mm_cw y b maxL ret [] :: mm_T) B.pre
  have hts' : ∀ w ∈ mm_U, w.before (av.map (mm_cc Ad)).toArray s = true := fun w hw => (List.mem_append.mp hw).elim (fun hw => hts w (List.mem_cons_of_mem _ hw)) (fun hw => va_Nw.use (mm_nw_ot w hw) (hG.2.2.2.2.1 w hw))
  have X : mm_Cx p s m (av.map (mm_cc Ad)).toArray c b own maxL mm_U D E (va_A (mm_ws E Ad M d) sz) := ⟨B.exec, B.bytes, hml, hown ▸ findClass_of_methodNamed B.named, hts', hG.1, fun q hq => Or.inr (by rw [← hsz]; exact hq), fun q hq w hw => mm_T_U w (mm_T_cls q hq w hw)⟩
  have hlocks := B.notSynchronized
  rw [lg_entry_eq]
  refine hrun (mm_Z p l e (mm_rm fr lo mu) s m (av.map (mm_cc Ad)).toArray below meth c (vx_MQ below (mm_Qc D E Ad (va_A (mm_ws E Ad M d) sz) Q) (mm_XC D E Ad (va_A (mm_ws E Ad M d) sz) Q) (av.map (mm_cc Ad)).toArray s mu (12 * mu) (va_A (mm_ws E Ad M d) sz)) maxL D E Ad (va_A (mm_ws E Ad M d) sz)) ?_ s.heap [] _ (mm_entry hw) hP hD0.self va_S.rf
  intro pc i t rest ls st M' d' u Kn Kj hat hop kn kj
  obtain ⟨pre, hpre⟩ := mm_at_suf pc cd
  have hk' : mm_chk b ((pc, i, t) :: rest) = true := by
    rw [hpre, hat] at hk
    exact mm_chk_app pre _ hk
  refine mm_sound X hPo (SC := fun _ => none) (fun q n xs hq => by cases hq) ⟨hG.2.2.2.2.2.2.2, hG.2.2.2.2.1 _ (by simp [mm_nw]), ⟨⟨Nat.le_refl _, Nat.le_refl _⟩, hfr, hlo⟩, mm_T_U _ mm_T_ab, fun k rc e => absurd e (h91 k rc)⟩ ?_ ?_ ?_ hk' hop kn kj
  · exact mz_call X hG ⟨rfl, rfl⟩ hPE (mz_noT htab hlocks (fun _ _ => rfl))
  · exact mz_thr hl X hG ⟨rfl, rfl⟩ hfr hlo htab hlocks hXE (fun _ _ => rfl)
  · exact mz_ret X B.returns hrt hlocks
/-- a method of the system's that never throws -/
def mm_Jet (l : Launch) (y : MethodName) (b : ByteArray) (maxL : Nat) (ret : Option FieldType) (fr lo mu : Nat) (sp : mm_S) : Prop :=
  ∀ (D : va_G) (E : mm_En) (Ad : Nat → Nat) (sz : Nat) (av : List mm_V) (M : mm_M) (d : List Nat) (Q : mm_Q), sp av M d Q →
    Met l y (.code y b maxL ret :: mm_T) (mm_rm fr lo mu) (va_Pc (av.map (mm_cc Ad)) (mm_B D E Ad sz M d)) (mm_Qc D E Ad (va_A (mm_ws E Ad M d) sz) Q) mu (12 * mu) (va_A (mm_ws E Ad M d) sz)
theorem mm_methJ {l : Launch} {y : MethodName} {b : ByteArray} {maxL : Nat} {ret : Option FieldType} {fr lo mu rt : Nat} {own : String} {sp : mm_S} {cd : List mm_E}
    {F : Nat → Option (Nat × Nat)} {C : Nat → Option mm_Ca} {LC : Nat → Option Int}
    (hy : plainFor y = true) (hown : y.cls = own) (hk : mm_chk b cd = true) (hrt : mm_rtOK rt ret = true) (hfr : 5 < fr) (hlo : 82 ≤ lo)
    (hPo : mm_Po own mm_U F LC) (hPE : ∀ idx ca, C idx = some ca → mm_sem l own fr lo idx ca) (h91 : ∀ k rc, F k = some (rc, 91) → y.name = "<init>")
    (h : ∀ av M d Q, sp av M d Q → (mm_fl av).length ≤ maxL ∧ mm_run F C (fun _ _ _ => none) LC (fun _ => none) rt mu (fun _ _ => none) Q cd 0 (mm_ent maxL av) [] M d 0) : mm_Jet l y b maxL ret fr lo mu sp := by
  intro D E Ad sz av M d Q hsp
  obtain ⟨hw, hrun⟩ := h av M d Q hsp
  refine va_MetF (cc := b) (maxL := maxL) (ret := ret) hy rfl ?_
  intro p e s m args below meth c s₁ B hml hPc
  obtain ⟨rfl, hsz, hP, hD0, hG⟩ := hPc
  have hts := atoms_spec (ws := .code y b maxL ret :: mm_T) B.pre
  have hts' : ∀ w ∈ mm_U, w.before (av.map (mm_cc Ad)).toArray s = true := fun w hw => (List.mem_append.mp hw).elim (fun hw => hts w (List.mem_cons_of_mem _ hw)) (fun hw => va_Nw.use (mm_nw_ot w hw) (hG.2.2.2.2.1 w hw))
  have X : mm_Cx p s m (av.map (mm_cc Ad)).toArray c b own maxL mm_U D E (va_A (mm_ws E Ad M d) sz) := ⟨B.exec, B.bytes, hml, hown ▸ findClass_of_methodNamed B.named, hts', hG.1, fun q hq => Or.inr (by rw [← hsz]; exact hq), fun q hq w hw => mm_T_U w (mm_T_cls q hq w hw)⟩
  have hlocks := B.notSynchronized
  have hnm : meth.name = y.name := (name_of_methodNamed B.named B.method).1
  rw [lg_entry_eq]
  refine hrun (mm_Z p l e (mm_rm fr lo mu) s m (av.map (mm_cc Ad)).toArray below meth c (MQ below (mm_Qc D E Ad (va_A (mm_ws E Ad M d) sz) Q) (av.map (mm_cc Ad)).toArray s mu (12 * mu) (va_A (mm_ws E Ad M d) sz)) maxL D E Ad (va_A (mm_ws E Ad M d) sz)) ?_ s.heap [] _ (mm_entry hw) hP hD0.self va_S.rf
  intro pc i t rest ls st M' d' u Kn Kj hat hop kn kj
  obtain ⟨pre, hpre⟩ := mm_at_suf pc cd
  have hk' : mm_chk b ((pc, i, t) :: rest) = true := by
    rw [hpre, hat] at hk
    exact mm_chk_app pre _ hk
  refine mm_sound X hPo (SC := fun _ => none) (fun q n xs hq => by cases hq) ⟨hG.2.2.2.2.2.2.2, hG.2.2.2.2.1 _ (by simp [mm_nw]), ⟨⟨Nat.le_refl _, Nat.le_refl _⟩, hfr, hlo⟩, mm_T_U _ mm_T_ab, fun k rc e => hnm.trans (h91 k rc e)⟩ ?_ ?_ ?_ hk' hop kn kj
  · intro how idx pc ls st M d u Kn Kj hd hcall kn kj
    unfold mm_call at hcall
    split at hcall
    · rename_i h' n rc sp mu' hc
      obtain ⟨rfl, hn', hrv, hcat, hu, hsp⟩ := hcall
      exact hPE idx _ hc X hG ⟨Nat.le_refl _, Nat.le_refl _⟩ (Nat.le_refl _) (Nat.le_refl _) pc ls st M d u Kn _ hd hn' hrv hcat hu hsp kn
    · exact hcall.elim
  · intro idx pc rest ls st M d u hd hnx hr h
    unfold mm_thr at h
    split at h
    · exact h.elim
    · exact h.elim
  · exact mz_ret0 X B.returns hrt hlocks
end
section
/-! calls of the system's methods that never throw -/
section MJ
variable {p : Program} {l : Launch} {e : Env} {R : Room} {s : State} {m : MethodId} {args : Array Value} {below : List Frame} {meth : Method} {c : Code} {Qm : State → Prop}
variable {cc : ByteArray} {own : String} {nL : Nat} {D : va_G} {E : mm_En} {Ad : Nat → Nat} {A : Nat → Prop}
theorem mm_afterJ {pc u mu' : Nat} {H : Heap} {locs : List Loc} {L : Array Slot} {ls : mm_Ls} {st0 : List Value} {rest : List mm_V} {M : mm_M} {d : List Nat} {Q : mm_Q} {aa : Array Value} {Kn : mm_K}
    (hL : mm_Lo Ad nL ls L) (hD : va_D A (mm_ws E Ad M d)) (hS : va_S A s.heap H locs) (hA : ∀ q, s.heap.size ≤ q → A q)
    (hr : va_Run p l e R s m args below meth c H locs u (12 * u) mu' (12 * mu') (F0 m pc L st0) (rest.map (mm_cc Ad)) (mm_Qc D E Ad (va_A (mm_ws E Ad M d) H.size) Q aa) (va_A (mm_ws E Ad M d) H.size))
    (hQ : ∀ r M' d', Q (.inl r) M' d' → Kn ls (mm_push r rest) M' d' (u + mu'))
    (kn : ∀ ls st M d u, Kn ls st M d u → mm_Z p l e R s m args below meth c Qm nL D E Ad A (pc + 3) ls st M d u) :
    W p l e R s m args below meth c H locs u (12 * u) Qm (F0 m pc L st0) := by
  have hf := mm_wsA hD hS hA
  intro T hTh X
  have e12 : 12 * u + 12 * mu' = 12 * (u + mu') := by omega
  obtain ⟨v, st₀, t, T', L1, h0, X', hL1, e1, e2, ⟨⟨r, M', d', hq, hv, hP1, hD1⟩, hF⟩, st⟩ := hr T hTh X
  cases hv
  obtain ⟨k1, k2, k3⟩ := vx_keep h0 e1 hS (fun q _ h => hf q h) hf hL1 hF
  have h3 := kn _ _ _ _ _ (hQ _ _ _ hq) T'.heap (locs ++ L1) L hL (by rw [e1]; exact hP1) (hD1.weaken fun _ _ _ h => hf _ h) k3
  rw [e12] at X'
  obtain ⟨t2, a1, b1⟩ := h3 T' rfl X'
  refine ⟨t2, st t2 ?_, b1⟩
  have e3 : (r.map (mm_cc Ad)).toList ++ rest.map (mm_cc Ad) = (mm_push r rest).map (mm_cc Ad) := by cases r <;> rfl
  rw [e3]
  exact a1
end MJ
/-- a method's words: its code, its class -/
def mm_JW (y : MethodName) (b : ByteArray) (maxL : Nat) (ret : Option FieldType) : Prop := Jvm.Cond.code y b maxL ret ∈ mm_T ∧ Jvm.Cond.initialized y.cls ∈ mm_T ∧ (y.cls ≠ "java/lang/invoke/MethodHandle" ∧ y.cls ≠ "java/lang/invoke/VarHandle")
section MS
variable {l : Launch} {own : String} {y : MethodName} {b : ByteArray} {maxL : Nat} {ret : Option FieldType} {fr lo mu n idx FR LO : Nat} {sp : mm_S}
theorem mm_len1s {y : MethodName} {n : Nat} (hpar : (parseMethodDescriptor y.desc).map (fun d => d.parameters.length) = some n) : ∀ sig, parseMethodDescriptor y.desc = some sig → n = sig.parameters.length := by
  intro sig hsig
  rw [hsig] at hpar
  simp at hpar
  omega
theorem mm_semS (hM : mm_Jet l y b maxL ret fr lo mu sp) (hw : mm_JW y b maxL ret) (hl : Jvm.Cond.methodLink own idx y ∈ mm_T) (hst : Jvm.Cond.static y ∈ mm_T) (hpar : (parseMethodDescriptor y.desc).map (fun d => d.parameters.length) = some n) (hfr : fr + 1 ≤ FR) (hlo : 8 + (maxL + 11) + lo ≤ LO) : mm_sem l own FR LO idx (1, n, 0, sp, mu) := by
  intro p e R s m args below meth c Qm cc nL D E Ad A MU X hG hR hRf hRl pc ls st M d u Kn QX hd hn hrv hcat hu hsp kn H locs L hL hP hD hS
  have hS' : CallFix p m c cc nL s args mm_U own := ⟨X.1, X.2.1, X.2.2.1, X.2.2.2.1, X.2.2.2.2.1⟩
  have hMy := hM D E Ad H.size _ M d _ hsp
  have hws := pay_in X.2.2.2.2.1 (mm_goodIn hw.1 mm_T_U)
  have hA := X.2.2.2.2.2.2.1
  dsimp only at hu hn hcat
  have hroom : u + mu ≤ R.cells ∧ 12 * u + 12 * mu ≤ R.slots := ⟨by omega, by omega⟩
  have hcat' : 2 * (F0 m pc L (st.map (mm_cc Ad))).monitorRoom + (((st.drop n).map (mm_cc Ad)).map fun v => v.category).sum ≤ 8 := lv_room (by rw [mm_catsum]; exact hcat)
  have hstack : st.map (mm_cc Ad) = ((st.take n).reverse.map (mm_cc Ad)).reverse ++ (st.drop n).map (mm_cc Ad) := by
    rw [← List.map_reverse, List.reverse_reverse, ← List.map_append, List.take_append_drop]
  have hpre : PreS s H (va_Pc ((st.take n).reverse.map (mm_cc Ad)) (mm_B D E Ad H.size M d)) ((st.take n).reverse.map (mm_cc Ad)) := ⟨mm_blind, mm_preB hG hP hD hS hA⟩
  have cw : CallB R s args own idx y b maxL ret (.code y b maxL ret :: mm_T) (mm_rm fr lo mu) mu (12 * mu) n ∧ (Jvm.Cond.static y).before args s = true :=
    ⟨⟨rfl, rfl, by show fr + 1 ≤ _; omega, by show 8 + (maxL + 11) + lo ≤ _; omega, hws, List.mem_cons_self, X.2.2.2.2.1 _ (mm_T_U _ hw.1), X.2.2.2.2.1 _ (mm_T_U _ hw.2.1), hw.2.2, mm_len1s hpar, X.2.2.2.2.1 _ (mm_T_U _ hl)⟩, X.2.2.2.2.1 _ (mm_T_U _ hst)⟩
  exact mm_afterJ hL hD hS hA (va_runS hS' hMy cw hpre rfl (by simp; omega) hL.1 hstack hcat' hd hroom) (fun r M' d' hq => hq) kn
/-- the receiver: an object of class C, or the text that never changes -/
theorem mm_recvJ {p : Program} {s : State} {m : MethodId} {args : Array Value} {c : Code} {cc : ByteArray} {nL : Nat} {D : va_G} {E : mm_En} {Ad : Nat → Nat} {A : Nat → Prop} {H : Heap} {locs : List Loc} {st : List mm_V} {M : mm_M} {d : List Nat} {rc : Nat} {C : String} {T : u_T} {N : Nat}
    (X : mm_Cx p s m args c cc own nL mm_U D E A) (hG : mm_G A D E Ad s) (hP : va_P D mm_cl (mm_ws E Ad M d) H) (hS : va_S A s.heap H locs) (hrv : mm_rv st (n + 1) rc M d) (hrc : (rc = 6 ∧ C = RXS) ∨ (10 ≤ rc ∧ mm_cl[rc - 10]? = some (C, T, N))) :
    ∃ (o : Nat) (ini : List mm_V), o ≠ 0 ∧ st = ini ++ mm_R o :: st.drop (n + 1) ∧ st.take (n + 1) = ini ++ [mm_R o] ∧ ini.length + 1 = n + 1 ∧ ∃ cell : Cell, H[mm_ad Ad o]? = some cell ∧ cell.vm.isStatics = false ∧ s.vm.findClass C = some cell.cls := by
  rcases hrc with ⟨rfl, rfl⟩ | ⟨h10, hcl⟩
  · simp only [mm_rv] at hrv
    split at hrv
    · rename_i o ho
      obtain ⟨ini, hst, htk, hil⟩ := mm_split st (n + 1) (by omega) ho
      subst hrv
      exact ⟨28, ini, by decide, hst, htk, hil, va_Orecv hG.2.2.2.2.2.2.2.2.2.2.2.2.2.1 hS⟩
    · exact hrv.elim
  · obtain ⟨rc', rfl⟩ : ∃ k, rc = k + 1 := ⟨rc - 1, by omega⟩
    rw [mm_rv_old (by omega)] at hrv
    split at hrv
    · rename_i o ho
      obtain ⟨ini, hst, htk, hil⟩ := mm_split st (n + 1) (by omega) ho
      obtain ⟨q0, hq, hw⟩ := mm_idx (E := E) (Ad := Ad) (M := M) hrv.2
      rw [mm_el_obj hrv.1 h10] at hw
      exact ⟨o, ini, mm_is0 hrv, hst, htk, hil, va_recv X.2.2.2.2.2.1 hP hcl hw⟩
    · exact hrv.elim
/-- how an instance method is called: 0 virtual, 2 special -/
theorem mm_semV {C : String} {T : u_T} {N rc how : Nat} {x : MethodName} (hM : mm_Jet l y b maxL ret fr lo mu sp) (hw : mm_JW y b maxL ret) (hl : Jvm.Cond.methodLink own idx x ∈ mm_T) (hins : Jvm.Cond.instanceMethod y ∈ mm_T) (hrc : (rc = 6 ∧ C = RXS) ∨ (10 ≤ rc ∧ mm_cl[rc - 10]? = some (C, T, N)))
    (hpar : (parseMethodDescriptor x.desc).map (fun d => d.parameters.length) = some n) (hfr : fr + 1 ≤ FR) (hlo : 8 + (maxL + 11) + lo ≤ LO)
    (hk : (how = 0 ∧ x = y ∧ ∀ (args : Array Value) (s : State), (∀ w ∈ mm_U, w.before args s = true) → (Jvm.Cond.selects C y y).before args s = true) ∨
      (how = 0 ∧ ∃ bx mx rx, Jvm.Cond.selects C x y ∈ mm_T ∧ Jvm.Cond.sameMethod x.cls x.cls x.name x.desc ∈ mm_T ∧ Jvm.Cond.instanceMethod x ∈ mm_T ∧ Jvm.Cond.code x bx mx rx ∈ mm_T ∧ (x.cls ≠ "java/lang/invoke/MethodHandle" ∧ x.cls ≠ "java/lang/invoke/VarHandle")) ∨
      (how = 2 ∧ x = y ∧ ret = none ∧ y.name = "<init>") ∨
      (how = 2 ∧ x = y ∧ y.name ≠ "<init>" ∧ Jvm.Cond.sameMethod y.cls y.cls y.name y.desc ∈ mm_T ∧ Jvm.Cond.superclass own y.cls ∈ mm_T ∧ ∃ NN, Jvm.Cond.instantiable C NN ∈ mm_T)) : mm_sem l own FR LO idx (how, n + 1, rc, sp, mu) := by
  intro p e R s m args below meth c Qm cc nL D E Ad A MU X hG hR hRf hRl pc ls st M d u Kn QX hd hn hrv hcat hu hsp kn H locs L hL hP hD hS
  have hS' : CallFix p m c cc nL s args mm_U own := ⟨X.1, X.2.1, X.2.2.1, X.2.2.2.1, X.2.2.2.2.1⟩
  have hMy := hM D E Ad H.size _ M d _ hsp
  have hws := pay_in X.2.2.2.2.1 (mm_goodIn hw.1 mm_T_U)
  have hA := X.2.2.2.2.2.2.1
  dsimp only at hu hn hcat hrv hd
  have ww : ∀ w ∈ mm_T, w.before args s = true := fun w h => X.2.2.2.2.1 _ (mm_T_U _ h)
  have hroom : u + mu ≤ R.cells ∧ 12 * u + 12 * mu ≤ R.slots := ⟨by omega, by omega⟩
  have hcat' : 2 * (F0 m pc L (st.map (mm_cc Ad))).monitorRoom + (((st.drop (n + 1)).map (mm_cc Ad)).map fun v => v.category).sum ≤ 8 := lv_room (by rw [mm_catsum]; exact hcat)
  obtain ⟨o, ini, hne, hst, htk, hil, hcell⟩ := mm_recvJ X hG hP hS hrv hrc
  have hargs : (st.take (n + 1)).reverse = mm_R o :: ini.reverse := by rw [htk]; simp
  dsimp only at hMy
  rw [hargs, List.map_cons, mm_ref hne] at hMy
  have hstack : st.map (mm_cc Ad) = ((ini.reverse).map (mm_cc Ad)).reverse ++ .ref (mm_ad Ad o) :: (st.drop (n + 1)).map (mm_cc Ad) := by
    conv => lhs; rw [hst]
    rw [List.map_append, List.map_cons, mm_ref hne, List.map_reverse, List.reverse_reverse]
  have hpre : PreV s H C (mm_ad Ad o) (va_Pc (.ref (mm_ad Ad o) :: (ini.reverse).map (mm_cc Ad)) (mm_B D E Ad H.size M d)) ((ini.reverse).map (mm_cc Ad)) := ⟨mm_blind, hcell, mm_preB hG hP hD hS hA⟩
  have hB : (mm_rm fr lo mu).cells = mu ∧ (mm_rm fr lo mu).slots = 12 * mu ∧ (mm_rm fr lo mu).frames + 1 ≤ R.frames ∧ 8 + (maxL + 11) + (mm_rm fr lo mu).locals ≤ R.locals := ⟨rfl, rfl, by show fr + 1 ≤ _; omega, by show 8 + (maxL + 11) + lo ≤ _; omega⟩
  rcases hk with ⟨rfl, rfl, hsel⟩ | ⟨rfl, bx, mx, rx, hsel, hsame, hix, hcx, hnx⟩ | ⟨rfl, rfl, rfl, hnm⟩ | ⟨rfl, rfl, hnm, hsame, hsup, NN, hinst⟩
  · have cw : CallW R s args own C idx x b maxL ret (.code x b maxL ret :: mm_T) (mm_rm fr lo mu) mu (12 * mu) n :=
      ⟨⟨rfl, rfl, hB.2.2.1, hB.2.2.2, hws, List.mem_cons_self, ww _ hw.1, ww _ hw.2.1, hw.2.2, mm_len1s hpar, ww _ hl⟩, ww _ hins, hsel args s X.2.2.2.2.1⟩
    exact mm_afterJ hL hD hS hA (va_runV hS' hMy cw hpre rfl (by simp; omega) hL.1 hstack hcat' hd hroom) (fun r M' d' hq => hq) kn
  · have cw : va_CU R s args own C x.cls idx x y b maxL ret (.code y b maxL ret :: mm_T) (mm_rm fr lo mu) mu (12 * mu) n :=
      ⟨⟨rfl, rfl, hB.2.2.1, hB.2.2.2, hws, List.mem_cons_self⟩, ww _ hw.1, ww _ hw.2.1, hnx, mm_len1s hpar, ww _ hl, ww _ hsame, va_Decl.of (ww _ hix) (ww _ hcx), ww _ hsel, ww _ hins⟩
    exact mm_afterJ hL hD hS hA (va_runU hS' hMy cw hpre rfl (by simp; omega) hL.1 hstack hcat' hd hroom) (fun r M' d' hq => hq) kn
  · have cw : CallB R s args own idx x b maxL none (.code x b maxL none :: mm_T) (mm_rm fr lo mu) mu (12 * mu) n ∧ x.name = "<init>" ∧ (Jvm.Cond.instanceMethod x).before args s = true :=
      ⟨⟨rfl, rfl, hB.2.2.1, hB.2.2.2, hws, List.mem_cons_self, ww _ hw.1, ww _ hw.2.1, hw.2.2, mm_len1s hpar, ww _ hl⟩, hnm, ww _ hins⟩
    exact mm_afterJ hL hD hS hA (va_runI hS' hMy cw ⟨hpre.1, hpre.2.2⟩ rfl (by simp; omega) hL.1 hstack hcat' hd hroom) (fun r M' d' hq => hq) kn
  · have cw : va_CS R s args own idx x b maxL ret (.code x b maxL ret :: mm_T) (mm_rm fr lo mu) mu (12 * mu) n :=
      ⟨⟨rfl, rfl, hB.2.2.1, hB.2.2.2, hws, List.mem_cons_self⟩, ww _ hl, ww _ hsame, ww _ hsup, ww _ hins, ww _ hw.2.1, ww _ hw.1, hnm, mm_len1s hpar⟩
    obtain ⟨cC, hat⟩ := classAt_of (ww _ hinst)
    exact mm_afterJ hL hD hS hA (va_runSU hat hS' hMy cw hpre rfl (by simp; omega) hL.1 hstack hcat' hd hroom) (fun r M' d' hq => hq) kn
end MS
/-- a private method is chosen whatever the receiver's class -/
theorem mm_selP {C C9 : String} {y z : MethodName} {n : Nat} {args : Array Value} {s : State} (hz : (Jvm.Cond.selects C9 z z).before args s = true ∧ z.cls = y.cls) (hy : y.cls ≠ "java/lang/invoke/MethodHandle" ∧ y.cls ≠ "java/lang/invoke/VarHandle") (hins : (Jvm.Cond.instantiable C n).before args s = true) (hpriv : (Jvm.Cond.privateMethod y).before args s = true) (hinst : (Jvm.Cond.instanceMethod y).before args s = true) :
    (Jvm.Cond.selects C y y).before args s = true := by
  obtain ⟨c, k, hc, hk, -, hniab, -, -⟩ := Cond.instantiable_spec hins
  have hni : k.isInterface = false := (Bool.or_eq_false_iff.mp hniab).1
  obtain ⟨mk, methM, hnamed, hmethM, -, -⟩ := Cond.instanceMethod_spec hinst
  have hfound : s.methodFound? y.cls y.name y.desc = some mk := State.methodFound?_of_named hnamed hy
  obtain ⟨kM, hkM, hkN⟩ := className_of_methodNamed hnamed
  have hsel : selectMethod {} s.vm c mk = .method mk := selectMethod_private hmethM (Cond.privateMethod_at hpriv mk methM hnamed hmethM)
  simp only [Cond.before, Cond.holds, Cond.value, hc, hfound, hnamed, hsel, hk]
  obtain ⟨c2, r2, m2, q1, q2, q3, q4, kP, hkP, hkPi⟩ := Cond.selects_spec hz.1
  have e1 := findClass_of_methodNamed q3
  rw [hz.2, findClass_of_methodNamed hnamed] at e1
  rw [← Option.some.inj e1] at hkP
  cases hkM.symm.trans hkP
  simp [hkM, hkPi]
end
section
/-! the methods' instructions, by program -/
def kdX0_init : List mm_E := [(0, .aload_n 0, 0), (1, .invokespecial 3, 0), (4, .aload_n 0, 0), (5, .aload_n 1, 0), (6, .putfield 9, 0), (9, .aload_n 0, 0), (10, .iconst (-1), 0), (11, .putfield 15, 0), (14, .return_, 0)]
theorem kkX0_init : mm_chk cX0_init kdX0_init = true := by decide +kernel
def kdX0_standOn : List mm_E := [(0, .aload_n 0, 0), (1, .aload_n 1, 0), (2, .putfield 19, 0), (5, .aload_n 0, 0), (6, .iload_n 2, 0), (7, .putfield 23, 0), (10, .aload_n 0, 0), (11, .iconst (-1), 0), (12, .putfield 15, 0), (15, .aload_n 0, 0), (16, .iconst 0, 0), (17, .putfield 26, 0), (20, .return_, 0)]
theorem kkX0_standOn : mm_chk cX0_standOn kdX0_standOn = true := by decide +kernel
def kdX0_vanish : List mm_E := [(0, .aload_n 0, 0), (1, .aconst_null, 0), (2, .putfield 19, 0), (5, .return_, 0)]
theorem kkX0_vanish : mm_chk cX0_vanish kdX0_vanish = true := by decide +kernel
def kdX0_loseOn : List mm_E := [(0, .aload_n 0, 0), (1, .getfield 19, 0), (4, .aload_n 1, 0), (5, .if_acmp .ne 8, 13), (8, .aload_n 0, 0), (9, .iconst 1, 0), (10, .putfield 26, 0), (13, .return_, 0)]
theorem kkX0_loseOn : mm_chk cX0_loseOn kdX0_loseOn = true := by decide +kernel
def kdX0_tell : List mm_E := [(0, .aload_n 0, 0), (1, .iload_n 1, 0), (2, .invokevirtual 30, 0), (5, .ifCond .ne 6, 11), (8, .bipush (-9), 0), (10, .ireturn, 0), (11, .aload_n 0, 0), (12, .aload_n 0, 0), (13, .iload_n 1, 0), (14, .invokevirtual 34, 0), (17, .putfield 15, 0), (20, .aload_n 0, 0), (21, .iload_n 1, 0), (22, .ifCond .eq 12, 34), (25, .aload_n 0, 0), (26, .getfield 23, 0), (29, .iconst 1, 0), (30, .iadd, 0), (31, .goto 9, 40), (34, .aload_n 0, 0), (35, .getfield 23, 0), (38, .iconst 1, 0), (39, .isub, 0), (40, .putfield 23, 0), (43, .aload_n 0, 0), (44, .getfield 19, 0), (47, .ifnonnull 8, 55), (50, .bipush (-9), 0), (52, .goto 14, 66), (55, .aload_n 0, 0), (56, .getfield 19, 0), (59, .aload_n 0, 0), (60, .getfield 15, 0), (63, .invokevirtual 38, 0), (66, .ireturn, 0)]
theorem kkX0_tell : mm_chk cX0_tell kdX0_tell = true := by decide +kernel
def kdX0_exchangeTold : List mm_E := [(0, .aload_n 0, 0), (1, .getfield 19, 0), (4, .ifnull 17, 21), (7, .aload_n 0, 0), (8, .getfield 26, 0), (11, .ifCond .ne 10, 21), (14, .aload_n 0, 0), (15, .getfield 15, 0), (18, .ifCond .ge 6, 24), (21, .bipush (-9), 0), (23, .ireturn, 0), (24, .aload_n 0, 0), (25, .getfield 19, 0), (28, .aload_n 0, 0), (29, .getfield 15, 0), (32, .invokevirtual 38, 0), (35, .istore_n 2, 0), (36, .aload_n 0, 0), (37, .getfield 19, 0), (40, .iload_n 1, 0), (41, .invokevirtual 44, 0), (44, .istore_n 3, 0), (45, .aload_n 0, 0), (46, .getfield 9, 0), (49, .iload_n 1, 0), (50, .aload_n 0, 0), (51, .getfield 9, 0), (54, .iload_n 2, 0), (55, .invokevirtual 47, 0), (58, .aload_n 0, 0), (59, .getfield 9, 0), (62, .iload_n 2, 0), (63, .invokevirtual 52, 0), (66, .invokevirtual 55, 0), (69, .istore 4, 0), (71, .iload 4, 0), (73, .ifCond .lt 15, 88), (76, .iload_n 3, 0), (77, .ifCond .lt 14, 91), (80, .iload_n 3, 0), (81, .aload_n 0, 0), (82, .getfield 15, 0), (85, .if_icmp .eq 6, 91), (88, .bipush (-9), 0), (90, .ireturn, 0), (91, .aload_n 0, 0), (92, .getfield 19, 0), (95, .aload_n 0, 0), (96, .getfield 15, 0), (99, .iload 4, 0), (101, .invokevirtual 59, 0), (104, .iload_n 2, 0), (105, .ireturn, 0)]
theorem kkX0_exchangeTold : mm_chk cX0_exchangeTold kdX0_exchangeTold = true := by decide +kernel
def kdX0_letIn : List mm_E := [(0, .aload_n 0, 0), (1, .getfield 19, 0), (4, .ifnull 21, 25), (7, .aload_n 0, 0), (8, .getfield 26, 0), (11, .ifCond .ne 14, 25), (14, .aload_n 0, 0), (15, .getfield 19, 0), (18, .iload_n 1, 0), (19, .invokevirtual 44, 0), (22, .ifCond .lt 6, 28), (25, .bipush (-9), 0), (27, .ireturn, 0), (28, .aload_n 0, 0), (29, .getfield 19, 0), (32, .aload_n 0, 0), (33, .getfield 23, 0), (36, .invokevirtual 63, 0), (39, .istore_n 2, 0), (40, .aload_n 0, 0), (41, .getfield 23, 0), (44, .aload_n 0, 0), (45, .getfield 19, 0), (48, .invokevirtual 66, 0), (51, .if_icmp .ne 7, 58), (54, .iconst 1, 0), (55, .goto 4, 59), (58, .iconst 0, 0), (59, .istore_n 3, 0), (60, .aload_n 0, 0), (61, .getfield 23, 0), (64, .ifCond .ne 11, 75), (67, .iload_n 3, 0), (68, .ifCond .ne 7, 75), (71, .iconst 1, 0), (72, .goto 4, 76), (75, .iconst 0, 0), (76, .istore 4, 0), (78, .iload_n 3, 0), (79, .ifCond .eq 17, 96), (82, .aload_n 0, 0), (83, .getfield 9, 0), (86, .iload_n 1, 0), (87, .iload_n 2, 0), (88, .invokevirtual 70, 0), (91, .istore 5, 0), (93, .goto 32, 125), (96, .iload 4, 0), (98, .ifCond .eq 15, 113), (101, .aload_n 0, 0), (102, .getfield 9, 0), (105, .iload_n 1, 0), (106, .iload_n 2, 0), (107, .invokevirtual 74, 0), (110, .goto 13, 123), (113, .aload_n 0, 0), (114, .getfield 9, 0), (117, .iload_n 1, 0), (118, .iload_n 2, 0), (119, .iload_n 2, 0), (120, .invokevirtual 55, 0), (123, .istore 5, 0), (125, .iload 5, 0), (127, .ifCond .ge 6, 133), (130, .bipush (-9), 0), (132, .ireturn, 0), (133, .iload 4, 0), (135, .ifCond .eq 15, 150), (138, .aload_n 0, 0), (139, .getfield 19, 0), (142, .iload 5, 0), (144, .invokevirtual 77, 0), (147, .goto 16, 163), (150, .aload_n 0, 0), (151, .getfield 19, 0), (154, .aload_n 0, 0), (155, .getfield 23, 0), (158, .iload 5, 0), (160, .invokevirtual 81, 0), (163, .aload_n 0, 0), (164, .dup, 0), (165, .getfield 23, 0), (168, .iconst 1, 0), (169, .iadd, 0), (170, .putfield 23, 0), (173, .aload_n 0, 0), (174, .iconst (-1), 0), (175, .putfield 15, 0), (178, .aload_n 0, 0), (179, .getfield 23, 0), (182, .ireturn, 0)]
theorem kkX0_letIn : mm_chk cX0_letIn kdX0_letIn = true := by decide +kernel
def kdX0_removeTold : List mm_E := [(0, .aload_n 0, 0), (1, .getfield 19, 0), (4, .ifnull 17, 21), (7, .aload_n 0, 0), (8, .getfield 26, 0), (11, .ifCond .ne 10, 21), (14, .aload_n 0, 0), (15, .getfield 15, 0), (18, .ifCond .ge 6, 24), (21, .bipush (-9), 0), (23, .ireturn, 0), (24, .aload_n 0, 0), (25, .getfield 19, 0), (28, .aload_n 0, 0), (29, .getfield 15, 0), (32, .invokevirtual 38, 0), (35, .istore_n 1, 0), (36, .aload_n 0, 0), (37, .getfield 15, 0), (40, .aload_n 0, 0), (41, .getfield 19, 0), (44, .invokevirtual 66, 0), (47, .iconst 1, 0), (48, .isub, 0), (49, .if_icmp .ne 7, 56), (52, .iconst 1, 0), (53, .goto 4, 57), (56, .iconst 0, 0), (57, .istore_n 2, 0), (58, .aload_n 0, 0), (59, .getfield 15, 0), (62, .ifCond .le 23, 85), (65, .iload_n 2, 0), (66, .ifCond .ne 19, 85), (69, .aload_n 0, 0), (70, .getfield 9, 0), (73, .iload_n 1, 0), (74, .iconst 1, 0), (75, .ishr, 0), (76, .invokevirtual 84, 0), (79, .ifCond .ne 6, 85), (82, .bipush (-9), 0), (84, .ireturn, 0), (85, .aload_n 0, 0), (86, .getfield 15, 0), (89, .ifCond .ne 17, 106), (92, .iload_n 2, 0), (93, .ifCond .ne 13, 106), (96, .aload_n 0, 0), (97, .getfield 19, 0), (100, .invokevirtual 88, 0), (103, .goto 14, 117), (106, .aload_n 0, 0), (107, .getfield 19, 0), (110, .aload_n 0, 0), (111, .getfield 15, 0), (114, .invokevirtual 91, 0), (117, .aload_n 0, 0), (118, .getfield 15, 0), (121, .aload_n 0, 0), (122, .getfield 23, 0), (125, .if_icmp .ge 13, 138), (128, .aload_n 0, 0), (129, .dup, 0), (130, .getfield 23, 0), (133, .iconst 1, 0), (134, .isub, 0), (135, .putfield 23, 0), (138, .aload_n 0, 0), (139, .iconst (-1), 0), (140, .putfield 15, 0), (143, .iload_n 1, 0), (144, .ireturn, 0)]
theorem kkX0_removeTold : mm_chk cX0_removeTold kdX0_removeTold = true := by decide +kernel
def kdX0_hasStep : List mm_E := [(0, .aload_n 0, 0), (1, .getfield 19, 0), (4, .ifnull 10, 14), (7, .aload_n 0, 0), (8, .getfield 26, 0), (11, .ifCond .eq 5, 16), (14, .iconst 0, 0), (15, .ireturn, 0), (16, .iload_n 1, 0), (17, .ifCond .eq 10, 27), (20, .aload_n 0, 0), (21, .getfield 23, 0), (24, .goto 9, 33), (27, .aload_n 0, 0), (28, .getfield 23, 0), (31, .iconst 1, 0), (32, .isub, 0), (33, .istore_n 2, 0), (34, .iload_n 2, 0), (35, .ifCond .lt 18, 53), (38, .iload_n 2, 0), (39, .aload_n 0, 0), (40, .getfield 19, 0), (43, .invokevirtual 66, 0), (46, .if_icmp .ge 7, 53), (49, .iconst 1, 0), (50, .goto 4, 54), (53, .iconst 0, 0), (54, .ireturn, 0)]
theorem kkX0_hasStep : mm_chk cX0_hasStep kdX0_hasStep = true := by decide +kernel
def kdX0_placeAsked : List mm_E := [(0, .aload_n 0, 0), (1, .getfield 19, 0), (4, .ifnull 10, 14), (7, .aload_n 0, 0), (8, .getfield 26, 0), (11, .ifCond .eq 6, 17), (14, .bipush (-2), 0), (16, .ireturn, 0), (17, .iload_n 1, 0), (18, .ifCond .eq 10, 28), (21, .aload_n 0, 0), (22, .getfield 23, 0), (25, .goto 9, 34), (28, .aload_n 0, 0), (29, .getfield 23, 0), (32, .iconst 1, 0), (33, .isub, 0), (34, .ireturn, 0)]
theorem kkX0_placeAsked : mm_chk cX0_placeAsked kdX0_placeAsked = true := by decide +kernel
def kdX1_init : List mm_E := [(0, .aload_n 0, 0), (1, .invokespecial 3, 0), (4, .aload_n 0, 0), (5, .bipush 30, 0), (7, .newarray .int, 0), (9, .putfield 9, 0), (12, .aload_n 0, 0), (13, .bipush 30, 0), (15, .newarray .int, 0), (17, .putfield 15, 0), (20, .aload_n 0, 0), (21, .bipush 10, 0), (23, .newarray .int, 0), (25, .putfield 18, 0), (28, .aload_n 0, 0), (29, .bipush 10, 0), (31, .newarray .int, 0), (33, .putfield 21, 0), (36, .return_, 0)]
theorem kkX1_init : mm_chk cX1_init kdX1_init = true := by decide +kernel
def kdX1_isCorner : List mm_E := [(0, .iload_n 0, 0), (1, .ifCond .lt 13, 14), (4, .iload_n 0, 0), (5, .bipush 10, 0), (7, .if_icmp .ge 7, 14), (10, .iconst 1, 0), (11, .goto 4, 15), (14, .iconst 0, 0), (15, .ireturn, 0)]
theorem kkX1_isCorner : mm_chk cX1_isCorner kdX1_isCorner = true := by decide +kernel
def kdX1_size : List mm_E := [(0, .aload_n 0, 0), (1, .getfield 24, 0), (4, .ireturn, 0)]
theorem kkX1_size : mm_chk cX1_size kdX1_size = true := by decide +kernel
def kdX1_hasRoomFor : List mm_E := [(0, .aload_n 0, 0), (1, .getfield 24, 0), (4, .iload_n 1, 0), (5, .iadd, 0), (6, .bipush 30, 0), (8, .if_icmp .gt 7, 15), (11, .iconst 1, 0), (12, .goto 4, 16), (15, .iconst 0, 0), (16, .ireturn, 0)]
theorem kkX1_hasRoomFor : mm_chk cX1_hasRoomFor kdX1_hasRoomFor = true := by decide +kernel
def kdX1_isOneWay : List mm_E := [(0, .aload_n 0, 0), (1, .getfield 28, 0), (4, .ireturn, 0)]
theorem kkX1_isOneWay : mm_chk cX1_isOneWay kdX1_isOneWay = true := by decide +kernel
def kdX1_setOneWay : List mm_E := [(0, .aload_n 0, 0), (1, .iload_n 1, 0), (2, .putfield 28, 0), (5, .return_, 0)]
theorem kkX1_setOneWay : mm_chk cX1_setOneWay kdX1_setOneWay = true := by decide +kernel
def kdX1_isOfWords : List mm_E := [(0, .aload_n 0, 0), (1, .getfield 32, 0), (4, .ifCond .le 7, 11), (7, .iconst 1, 0), (8, .goto 4, 12), (11, .iconst 0, 0), (12, .ireturn, 0)]
theorem kkX1_isOfWords : mm_chk cX1_isOfWords kdX1_isOfWords = true := by decide +kernel
def kdX1_signCount : List mm_E := [(0, .aload_n 0, 0), (1, .getfield 32, 0), (4, .ireturn, 0)]
theorem kkX1_signCount : mm_chk cX1_signCount kdX1_signCount = true := by decide +kernel
def kdX1_wordSize : List mm_E := [(0, .aload_n 0, 0), (1, .getfield 35, 0), (4, .ireturn, 0)]
theorem kkX1_wordSize : mm_chk cX1_wordSize kdX1_wordSize = true := by decide +kernel
def kdX1_signOf : List mm_E := [(0, .aload_n 0, 0), (1, .getfield 32, 0), (4, .ifCond .le 12, 16), (7, .iload_n 1, 0), (8, .aload_n 0, 0), (9, .getfield 32, 0), (12, .irem, 0), (13, .goto 4, 17), (16, .iconst 0, 0), (17, .ireturn, 0)]
theorem kkX1_signOf : mm_chk cX1_signOf kdX1_signOf = true := by decide +kernel
def kdX1_addStreet : List mm_E := [(0, .aload_n 0, 0), (1, .getfield 24, 0), (4, .bipush 30, 0), (6, .if_icmp .ge 17, 23), (9, .iload_n 1, 0), (10, .invokestatic 38, 0), (13, .ifCond .eq 10, 23), (16, .iload_n 2, 0), (17, .invokestatic 38, 0), (20, .ifCond .ne 4, 24), (23, .return_, 0), (24, .aload_n 0, 0), (25, .getfield 9, 0), (28, .aload_n 0, 0), (29, .getfield 24, 0), (32, .iload_n 1, 0), (33, .iastore, 0), (34, .aload_n 0, 0), (35, .getfield 15, 0), (38, .aload_n 0, 0), (39, .getfield 24, 0), (42, .iload_n 2, 0), (43, .iastore, 0), (44, .aload_n 0, 0), (45, .dup, 0), (46, .getfield 24, 0), (49, .iconst 1, 0), (50, .iadd, 0), (51, .putfield 24, 0), (54, .return_, 0)]
theorem kkX1_addStreet : mm_chk cX1_addStreet kdX1_addStreet = true := by decide +kernel
def kdX1_addRing : List mm_E := [(0, .iconst 0, 0), (1, .istore_n 3, 0), (2, .iload_n 3, 0), (3, .iload_n 1, 0), (4, .if_icmp .ge 19, 23), (7, .aload_n 0, 0), (8, .iload_n 3, 0), (9, .iload_n 3, 0), (10, .iload_n 2, 0), (11, .iadd, 0), (12, .iload_n 1, 0), (13, .irem, 0), (14, .invokevirtual 42, 0), (17, .iinc 3 1, 0), (20, .goto (-18), 2), (23, .return_, 0)]
theorem kkX1_addRing : mm_chk cX1_addRing kdX1_addRing = true := by decide +kernel
def kdX1_becomeWords : List mm_E := [(0, .iload_n 1, 0), (1, .iload_n 2, 0), (2, .iconst 1, 0), (3, .isub, 0), (4, .invokestatic 46, 0), (7, .istore_n 3, 0), (8, .iload_n 1, 0), (9, .iconst 1, 0), (10, .if_icmp .lt 8, 18), (13, .iload_n 3, 0), (14, .iconst 1, 0), (15, .if_icmp .ge 4, 19), (18, .return_, 0), (19, .aload_n 0, 0), (20, .iload_n 1, 0), (21, .putfield 32, 0), (24, .aload_n 0, 0), (25, .iload_n 2, 0), (26, .putfield 35, 0), (29, .aload_n 0, 0), (30, .iconst 1, 0), (31, .putfield 28, 0), (34, .iconst 0, 0), (35, .istore 4, 0), (37, .iload 4, 0), (39, .iload_n 3, 0), (40, .iload_n 1, 0), (41, .imul, 0), (42, .if_icmp .ge 21, 63), (45, .aload_n 0, 0), (46, .iload 4, 0), (48, .iload_n 1, 0), (49, .idiv, 0), (50, .iload 4, 0), (52, .iload_n 3, 0), (53, .irem, 0), (54, .invokevirtual 42, 0), (57, .iinc 4 1, 0), (60, .goto (-23), 37), (63, .return_, 0)]
theorem kkX1_becomeWords : mm_chk cX1_becomeWords kdX1_becomeWords = true := by decide +kernel
def kdX1_endWords : List mm_E := [(0, .aload_n 0, 0), (1, .iconst 0, 0), (2, .putfield 32, 0), (5, .aload_n 0, 0), (6, .iconst 0, 0), (7, .putfield 35, 0), (10, .return_, 0)]
theorem kkX1_endWords : mm_chk cX1_endWords kdX1_endWords = true := by decide +kernel
def kdX1_dropStreet : List mm_E := [(0, .iload_n 1, 0), (1, .ifCond .lt 11, 12), (4, .iload_n 1, 0), (5, .aload_n 0, 0), (6, .getfield 24, 0), (9, .if_icmp .lt 4, 13), (12, .return_, 0), (13, .iload_n 1, 0), (14, .istore_n 2, 0), (15, .iload_n 2, 0), (16, .iconst 1, 0), (17, .iadd, 0), (18, .aload_n 0, 0), (19, .getfield 24, 0), (22, .if_icmp .ge 37, 59), (25, .aload_n 0, 0), (26, .getfield 9, 0), (29, .iload_n 2, 0), (30, .aload_n 0, 0), (31, .getfield 9, 0), (34, .iload_n 2, 0), (35, .iconst 1, 0), (36, .iadd, 0), (37, .iaload, 0), (38, .iastore, 0), (39, .aload_n 0, 0), (40, .getfield 15, 0), (43, .iload_n 2, 0), (44, .aload_n 0, 0), (45, .getfield 15, 0), (48, .iload_n 2, 0), (49, .iconst 1, 0), (50, .iadd, 0), (51, .iaload, 0), (52, .iastore, 0), (53, .iinc 2 1, 0), (56, .goto (-41), 15), (59, .aload_n 0, 0), (60, .dup, 0), (61, .getfield 24, 0), (64, .iconst 1, 0), (65, .isub, 0), (66, .putfield 24, 0), (69, .return_, 0)]
theorem kkX1_dropStreet : mm_chk cX1_dropStreet kdX1_dropStreet = true := by decide +kernel
def kdX1_dropAll : List mm_E := [(0, .aload_n 0, 0), (1, .iconst 0, 0), (2, .putfield 24, 0), (5, .aload_n 0, 0), (6, .iconst 0, 0), (7, .putfield 28, 0), (10, .aload_n 0, 0), (11, .invokevirtual 50, 0), (14, .return_, 0)]
theorem kkX1_dropAll : mm_chk cX1_dropAll kdX1_dropAll = true := by decide +kernel
def kdX1_swapEnds : List mm_E := [(0, .iconst 0, 0), (1, .istore_n 1, 0), (2, .iload_n 1, 0), (3, .aload_n 0, 0), (4, .getfield 24, 0), (7, .if_icmp .ge 35, 42), (10, .aload_n 0, 0), (11, .getfield 9, 0), (14, .iload_n 1, 0), (15, .iaload, 0), (16, .istore_n 2, 0), (17, .aload_n 0, 0), (18, .getfield 9, 0), (21, .iload_n 1, 0), (22, .aload_n 0, 0), (23, .getfield 15, 0), (26, .iload_n 1, 0), (27, .iaload, 0), (28, .iastore, 0), (29, .aload_n 0, 0), (30, .getfield 15, 0), (33, .iload_n 1, 0), (34, .iload_n 2, 0), (35, .iastore, 0), (36, .iinc 1 1, 0), (39, .goto (-37), 2), (42, .return_, 0)]
theorem kkX1_swapEnds : mm_chk cX1_swapEnds kdX1_swapEnds = true := by decide +kernel
def kdX1_fromOf : List mm_E := [(0, .iload_n 1, 0), (1, .ifCond .lt 20, 21), (4, .iload_n 1, 0), (5, .aload_n 0, 0), (6, .getfield 24, 0), (9, .if_icmp .ge 12, 21), (12, .aload_n 0, 0), (13, .getfield 9, 0), (16, .iload_n 1, 0), (17, .iaload, 0), (18, .goto 4, 22), (21, .iconst (-1), 0), (22, .ireturn, 0)]
theorem kkX1_fromOf : mm_chk cX1_fromOf kdX1_fromOf = true := by decide +kernel
def kdX1_toOf : List mm_E := [(0, .iload_n 1, 0), (1, .ifCond .lt 20, 21), (4, .iload_n 1, 0), (5, .aload_n 0, 0), (6, .getfield 24, 0), (9, .if_icmp .ge 12, 21), (12, .aload_n 0, 0), (13, .getfield 15, 0), (16, .iload_n 1, 0), (17, .iaload, 0), (18, .goto 4, 22), (21, .iconst (-1), 0), (22, .ireturn, 0)]
theorem kkX1_toOf : mm_chk cX1_toOf kdX1_toOf = true := by decide +kernel
def kdX1_isLoop : List mm_E := [(0, .aload_n 0, 0), (1, .iload_n 1, 0), (2, .invokevirtual 53, 0), (5, .aload_n 0, 0), (6, .iload_n 1, 0), (7, .invokevirtual 57, 0), (10, .if_icmp .ne 7, 17), (13, .iconst 1, 0), (14, .goto 4, 18), (17, .iconst 0, 0), (18, .ireturn, 0)]
theorem kkX1_isLoop : mm_chk cX1_isLoop kdX1_isLoop = true := by decide +kernel
def kdX1_goalOf : List mm_E := [(0, .iload_n 1, 0), (1, .iconst 1, 0), (2, .ishr, 0), (3, .istore_n 2, 0), (4, .iload_n 1, 0), (5, .iconst 1, 0), (6, .iand, 0), (7, .ifCond .ne 11, 18), (10, .aload_n 0, 0), (11, .iload_n 2, 0), (12, .invokevirtual 57, 0), (15, .goto 8, 23), (18, .aload_n 0, 0), (19, .iload_n 2, 0), (20, .invokevirtual 53, 0), (23, .ireturn, 0)]
theorem kkX1_goalOf : mm_chk cX1_goalOf kdX1_goalOf = true := by decide +kernel
def kdX1_sourceOf : List mm_E := [(0, .aload_n 0, 0), (1, .iload_n 1, 0), (2, .iconst 1, 0), (3, .ixor, 0), (4, .invokevirtual 60, 0), (7, .ireturn, 0)]
theorem kkX1_sourceOf : mm_chk cX1_sourceOf kdX1_sourceOf = true := by decide +kernel
def kdX1_leaving : List mm_E := [(0, .aload_n 0, 0), (1, .iload_n 1, 0), (2, .invokevirtual 53, 0), (5, .iload_n 2, 0), (6, .if_icmp .ne 7, 13), (9, .iconst 2, 0), (10, .iload_n 1, 0), (11, .imul, 0), (12, .ireturn, 0), (13, .aload_n 0, 0), (14, .getfield 28, 0), (17, .ifCond .ne 20, 37), (20, .aload_n 0, 0), (21, .iload_n 1, 0), (22, .invokevirtual 57, 0), (25, .iload_n 2, 0), (26, .if_icmp .ne 11, 37), (29, .iconst 2, 0), (30, .iload_n 1, 0), (31, .imul, 0), (32, .iconst 1, 0), (33, .iadd, 0), (34, .goto 4, 38), (37, .iconst (-1), 0), (38, .ireturn, 0)]
theorem kkX1_leaving : mm_chk cX1_leaving kdX1_leaving = true := by decide +kernel
def kdX1_comingTo : List mm_E := [(0, .aload_n 0, 0), (1, .iload_n 1, 0), (2, .invokevirtual 57, 0), (5, .iload_n 2, 0), (6, .if_icmp .ne 7, 13), (9, .iconst 2, 0), (10, .iload_n 1, 0), (11, .imul, 0), (12, .ireturn, 0), (13, .aload_n 0, 0), (14, .getfield 28, 0), (17, .ifCond .ne 20, 37), (20, .aload_n 0, 0), (21, .iload_n 1, 0), (22, .invokevirtual 53, 0), (25, .iload_n 2, 0), (26, .if_icmp .ne 11, 37), (29, .iconst 2, 0), (30, .iload_n 1, 0), (31, .imul, 0), (32, .iconst 1, 0), (33, .iadd, 0), (34, .goto 4, 38), (37, .iconst (-1), 0), (38, .ireturn, 0)]
theorem kkX1_comingTo : mm_chk cX1_comingTo kdX1_comingTo = true := by decide +kernel
def kdX1_between : List mm_E := [(0, .aload_n 0, 0), (1, .iload_n 1, 0), (2, .iload_n 2, 0), (3, .invokevirtual 63, 0), (6, .istore 4, 0), (8, .iload 4, 0), (10, .ifCond .lt 18, 28), (13, .aload_n 0, 0), (14, .iload 4, 0), (16, .invokevirtual 60, 0), (19, .iload_n 3, 0), (20, .if_icmp .ne 8, 28), (23, .iload 4, 0), (25, .goto 4, 29), (28, .iconst (-1), 0), (29, .ireturn, 0)]
theorem kkX1_between : mm_chk cX1_between kdX1_between = true := by decide +kernel
def kdX1_allStreets : List mm_E := [(0, .iconst 1, 0), (1, .aload_n 0, 0), (2, .getfield 24, 0), (5, .ishl, 0), (6, .iconst 1, 0), (7, .isub, 0), (8, .ireturn, 0)]
theorem kkX1_allStreets : mm_chk cX1_allStreets kdX1_allStreets = true := by decide +kernel
def kdX1_outOf : List mm_E := [(0, .aload_n 0, 0), (1, .aload_n 0, 0), (2, .invokevirtual 66, 0), (5, .invokevirtual 70, 0), (8, .iload_n 1, 0), (9, .invokestatic 38, 0), (12, .ifCond .eq 12, 24), (15, .aload_n 0, 0), (16, .getfield 18, 0), (19, .iload_n 1, 0), (20, .iaload, 0), (21, .goto 4, 25), (24, .iconst 0, 0), (25, .ireturn, 0)]
theorem kkX1_outOf : mm_chk cX1_outOf kdX1_outOf = true := by decide +kernel
def kdX1_inOf : List mm_E := [(0, .aload_n 0, 0), (1, .aload_n 0, 0), (2, .invokevirtual 66, 0), (5, .invokevirtual 70, 0), (8, .iload_n 1, 0), (9, .invokestatic 38, 0), (12, .ifCond .eq 12, 24), (15, .aload_n 0, 0), (16, .getfield 21, 0), (19, .iload_n 1, 0), (20, .iaload, 0), (21, .goto 4, 25), (24, .iconst 0, 0), (25, .ireturn, 0)]
theorem kkX1_inOf : mm_chk cX1_inOf kdX1_inOf = true := by decide +kernel
def kdX1_oddCount : List mm_E := [(0, .aload_n 0, 0), (1, .iload_n 1, 0), (2, .invokevirtual 70, 0), (5, .iconst 0, 0), (6, .istore_n 2, 0), (7, .iconst 0, 0), (8, .istore_n 3, 0), (9, .iload_n 3, 0), (10, .bipush 10, 0), (12, .if_icmp .ge 20, 32), (15, .aload_n 0, 0), (16, .iload_n 3, 0), (17, .invokevirtual 74, 0), (20, .ifCond .eq 6, 26), (23, .iinc 2 1, 0), (26, .iinc 3 1, 0), (29, .goto (-20), 9), (32, .iload_n 2, 0), (33, .ireturn, 0)]
theorem kkX1_oddCount : mm_chk cX1_oddCount kdX1_oddCount = true := by decide +kernel
def kdX1_hangTogether : List mm_E := [(0, .iconst 0, 0), (1, .istore_n 2, 0), (2, .iconst 1, 0), (3, .istore_n 3, 0), (4, .iconst 0, 0), (5, .istore 4, 0), (7, .iload 4, 0), (9, .bipush 10, 0), (11, .if_icmp .gt 36, 47), (14, .iload_n 3, 0), (15, .ifCond .eq 32, 47), (18, .iload_n 2, 0), (19, .istore 5, 0), (21, .aload_n 0, 0), (22, .iload_n 1, 0), (23, .iload 5, 0), (25, .invokevirtual 77, 0), (28, .istore_n 2, 0), (29, .iload_n 2, 0), (30, .iload 5, 0), (32, .if_icmp .eq 7, 39), (35, .iconst 1, 0), (36, .goto 4, 40), (39, .iconst 0, 0), (40, .istore_n 3, 0), (41, .iinc 4 1, 0), (44, .goto (-37), 7), (47, .iconst 0, 0), (48, .istore 4, 0), (50, .iload 4, 0), (52, .aload_n 0, 0), (53, .getfield 24, 0), (56, .if_icmp .ge 34, 90), (59, .iload_n 1, 0), (60, .iload 4, 0), (62, .invokestatic 80, 0), (65, .ifCond .eq 19, 84), (68, .iload_n 2, 0), (69, .iconst 1, 0), (70, .aload_n 0, 0), (71, .getfield 9, 0), (74, .iload 4, 0), (76, .iaload, 0), (77, .ishl, 0), (78, .iand, 0), (79, .ifCond .ne 5, 84), (82, .iconst 0, 0), (83, .ireturn, 0), (84, .iinc 4 1, 0), (87, .goto (-37), 50), (90, .iconst 1, 0), (91, .ireturn, 0)]
theorem kkX1_hangTogether : mm_chk cX1_hangTogether kdX1_hangTogether = true := by decide +kernel
def kdX1_isStartOf : List mm_E := [(0, .iload_n 1, 0), (1, .ifCond .ne 5, 6), (4, .iconst 1, 0), (5, .ireturn, 0), (6, .iload_n 2, 0), (7, .invokestatic 38, 0), (10, .ifCond .eq 11, 21), (13, .aload_n 0, 0), (14, .iload_n 1, 0), (15, .invokevirtual 84, 0), (18, .ifCond .ne 5, 23), (21, .iconst 0, 0), (22, .ireturn, 0), (23, .aload_n 0, 0), (24, .iload_n 1, 0), (25, .invokevirtual 87, 0), (28, .istore_n 3, 0), (29, .iload_n 3, 0), (30, .ifCond .ne 25, 55), (33, .aload_n 0, 0), (34, .getfield 18, 0), (37, .iload_n 2, 0), (38, .iaload, 0), (39, .aload_n 0, 0), (40, .getfield 21, 0), (43, .iload_n 2, 0), (44, .iaload, 0), (45, .iadd, 0), (46, .ifCond .le 7, 53), (49, .iconst 1, 0), (50, .goto 4, 54), (53, .iconst 0, 0), (54, .ireturn, 0), (55, .iload_n 3, 0), (56, .iconst 2, 0), (57, .if_icmp .ne 11, 68), (60, .aload_n 0, 0), (61, .iload_n 2, 0), (62, .invokevirtual 74, 0), (65, .ifCond .ne 5, 70), (68, .iconst 0, 0), (69, .ireturn, 0), (70, .aload_n 0, 0), (71, .getfield 28, 0), (74, .ifCond .eq 20, 94), (77, .aload_n 0, 0), (78, .getfield 18, 0), (81, .iload_n 2, 0), (82, .iaload, 0), (83, .aload_n 0, 0), (84, .getfield 21, 0), (87, .iload_n 2, 0), (88, .iaload, 0), (89, .iconst 1, 0), (90, .iadd, 0), (91, .if_icmp .ne 7, 98), (94, .iconst 1, 0), (95, .goto 4, 99), (98, .iconst 0, 0), (99, .ireturn, 0)]
theorem kkX1_isStartOf : mm_chk cX1_isStartOf kdX1_isStartOf = true := by decide +kernel
def kdX1_leastStart : List mm_E := [(0, .iconst 0, 0), (1, .istore_n 1, 0), (2, .iload_n 1, 0), (3, .bipush 10, 0), (5, .if_icmp .ge 23, 28), (8, .aload_n 0, 0), (9, .aload_n 0, 0), (10, .invokevirtual 66, 0), (13, .iload_n 1, 0), (14, .invokevirtual 90, 0), (17, .ifCond .eq 5, 22), (20, .iload_n 1, 0), (21, .ireturn, 0), (22, .iinc 1 1, 0), (25, .goto (-23), 2), (28, .iconst (-1), 0), (29, .ireturn, 0)]
theorem kkX1_leastStart : mm_chk cX1_leastStart kdX1_leastStart = true := by decide +kernel
def kdX1_waysAddUp : List mm_E := [(0, .aload_n 0, 0), (1, .aload_n 0, 0), (2, .invokevirtual 66, 0), (5, .invokevirtual 87, 0), (8, .istore_n 1, 0), (9, .iconst 0, 0), (10, .istore_n 2, 0), (11, .iconst 0, 0), (12, .istore_n 3, 0), (13, .iconst 0, 0), (14, .istore 4, 0), (16, .iload 4, 0), (18, .bipush 10, 0), (20, .if_icmp .ge 29, 49), (23, .iload_n 2, 0), (24, .aload_n 0, 0), (25, .getfield 18, 0), (28, .iload 4, 0), (30, .iaload, 0), (31, .iadd, 0), (32, .istore_n 2, 0), (33, .iload_n 3, 0), (34, .aload_n 0, 0), (35, .getfield 21, 0), (38, .iload 4, 0), (40, .iaload, 0), (41, .iadd, 0), (42, .istore_n 3, 0), (43, .iinc 4 1, 0), (46, .goto (-30), 16), (49, .iload_n 2, 0), (50, .aload_n 0, 0), (51, .getfield 24, 0), (54, .if_icmp .ne 28, 82), (57, .iload_n 3, 0), (58, .aload_n 0, 0), (59, .getfield 24, 0), (62, .if_icmp .ne 20, 82), (65, .aload_n 0, 0), (66, .getfield 28, 0), (69, .ifCond .ne 9, 78), (72, .iload_n 1, 0), (73, .iconst 2, 0), (74, .irem, 0), (75, .ifCond .ne 7, 82), (78, .iconst 1, 0), (79, .goto 4, 83), (82, .iconst 0, 0), (83, .ireturn, 0)]
theorem kkX1_waysAddUp : mm_chk cX1_waysAddUp kdX1_waysAddUp = true := by decide +kernel
def kdX1_stepOn : List mm_E := [(0, .iload_n 3, 0), (1, .ifCond .eq 7, 8), (4, .iconst 1, 0), (5, .goto 4, 9), (8, .iconst (-1), 0), (9, .istore 4, 0), (11, .iload_n 3, 0), (12, .ifCond .eq 7, 19), (15, .iconst 0, 0), (16, .goto 9, 25), (19, .aload_n 0, 0), (20, .getfield 24, 0), (23, .iconst 1, 0), (24, .isub, 0), (25, .istore 5, 0), (27, .iload 5, 0), (29, .ifCond .lt 52, 81), (32, .iload 5, 0), (34, .aload_n 0, 0), (35, .getfield 24, 0), (38, .if_icmp .ge 43, 81), (41, .iload_n 1, 0), (42, .iload 5, 0), (44, .invokestatic 80, 0), (47, .ifCond .eq 13, 60), (50, .aload_n 0, 0), (51, .iload 5, 0), (53, .iload_n 2, 0), (54, .invokevirtual 63, 0), (57, .goto 4, 61), (60, .iconst (-1), 0), (61, .istore 6, 0), (63, .iload 6, 0), (65, .ifCond .lt 6, 71), (68, .iload 6, 0), (70, .ireturn, 0), (71, .iload 5, 0), (73, .iload 4, 0), (75, .iadd, 0), (76, .istore 5, 0), (78, .goto (-51), 27), (81, .iconst (-1), 0), (82, .ireturn, 0)]
theorem kkX1_stepOn : mm_chk cX1_stepOn kdX1_stepOn = true := by decide +kernel
def kdX1_stepToWhole : List mm_E := [(0, .iload 4, 0), (2, .ifCond .eq 7, 9), (5, .iconst 1, 0), (6, .goto 4, 10), (9, .iconst (-1), 0), (10, .istore 5, 0), (12, .iload_n 3, 0), (13, .iload 5, 0), (15, .iadd, 0), (16, .istore 6, 0), (18, .iload 6, 0), (20, .ifCond .lt 73, 93), (23, .iload 6, 0), (25, .aload_n 0, 0), (26, .getfield 24, 0), (29, .if_icmp .ge 64, 93), (32, .iload_n 1, 0), (33, .iload 6, 0), (35, .invokestatic 80, 0), (38, .ifCond .eq 13, 51), (41, .aload_n 0, 0), (42, .iload 6, 0), (44, .iload_n 2, 0), (45, .invokevirtual 63, 0), (48, .goto 4, 52), (51, .iconst (-1), 0), (52, .istore 7, 0), (54, .iload 7, 0), (56, .ifCond .lt 27, 83), (59, .aload_n 0, 0), (60, .iload_n 1, 0), (61, .iconst 1, 0), (62, .iload 6, 0), (64, .ishl, 0), (65, .iconst (-1), 0), (66, .ixor, 0), (67, .iand, 0), (68, .aload_n 0, 0), (69, .iload 7, 0), (71, .invokevirtual 60, 0), (74, .invokevirtual 90, 0), (77, .ifCond .eq 6, 83), (80, .iload 7, 0), (82, .ireturn, 0), (83, .iload 6, 0), (85, .iload 5, 0), (87, .iadd, 0), (88, .istore 6, 0), (90, .goto (-72), 18), (93, .iconst (-1), 0), (94, .ireturn, 0)]
theorem kkX1_stepToWhole : mm_chk cX1_stepToWhole kdX1_stepToWhole = true := by decide +kernel
def kdX1_reachedInOnePass : List mm_E := [(0, .iload_n 2, 0), (1, .istore_n 3, 0), (2, .iconst 0, 0), (3, .istore 4, 0), (5, .iload 4, 0), (7, .aload_n 0, 0), (8, .getfield 24, 0), (11, .if_icmp .ge 59, 70), (14, .iconst 1, 0), (15, .aload_n 0, 0), (16, .getfield 9, 0), (19, .iload 4, 0), (21, .iaload, 0), (22, .ishl, 0), (23, .iconst 1, 0), (24, .aload_n 0, 0), (25, .getfield 15, 0), (28, .iload 4, 0), (30, .iaload, 0), (31, .ishl, 0), (32, .ior, 0), (33, .istore 5, 0), (35, .iload_n 1, 0), (36, .iload 4, 0), (38, .ishr, 0), (39, .iconst 1, 0), (40, .iand, 0), (41, .istore 6, 0), (43, .iload 6, 0), (45, .ifCond .eq 19, 64), (48, .iload_n 3, 0), (49, .ifCond .eq 10, 59), (52, .iload_n 3, 0), (53, .iload 5, 0), (55, .iand, 0), (56, .ifCond .eq 8, 64), (59, .iload_n 3, 0), (60, .iload 5, 0), (62, .ior, 0), (63, .istore_n 3, 0), (64, .iinc 4 1, 0), (67, .goto (-62), 5), (70, .iload_n 3, 0), (71, .ireturn, 0)]
theorem kkX1_reachedInOnePass : mm_chk cX1_reachedInOnePass kdX1_reachedInOnePass = true := by decide +kernel
def kdX1_countWays : List mm_E := [(0, .iconst 0, 0), (1, .istore_n 2, 0), (2, .iload_n 2, 0), (3, .bipush 10, 0), (5, .if_icmp .ge 23, 28), (8, .aload_n 0, 0), (9, .getfield 18, 0), (12, .iload_n 2, 0), (13, .iconst 0, 0), (14, .iastore, 0), (15, .aload_n 0, 0), (16, .getfield 21, 0), (19, .iload_n 2, 0), (20, .iconst 0, 0), (21, .iastore, 0), (22, .iinc 2 1, 0), (25, .goto (-23), 2), (28, .iconst 0, 0), (29, .istore_n 2, 0), (30, .iload_n 2, 0), (31, .aload_n 0, 0), (32, .getfield 24, 0), (35, .if_icmp .ge 45, 80), (38, .iload_n 1, 0), (39, .iload_n 2, 0), (40, .ishr, 0), (41, .iconst 1, 0), (42, .iand, 0), (43, .istore_n 3, 0), (44, .aload_n 0, 0), (45, .getfield 18, 0), (48, .aload_n 0, 0), (49, .getfield 9, 0), (52, .iload_n 2, 0), (53, .iaload, 0), (54, .dup2, 0), (55, .iaload, 0), (56, .iload_n 3, 0), (57, .iadd, 0), (58, .iastore, 0), (59, .aload_n 0, 0), (60, .getfield 21, 0), (63, .aload_n 0, 0), (64, .getfield 15, 0), (67, .iload_n 2, 0), (68, .iaload, 0), (69, .dup2, 0), (70, .iaload, 0), (71, .iload_n 3, 0), (72, .iadd, 0), (73, .iastore, 0), (74, .iinc 2 1, 0), (77, .goto (-47), 30), (80, .return_, 0)]
theorem kkX1_countWays : mm_chk cX1_countWays kdX1_countWays = true := by decide +kernel
def kdX1_isOddAsCounted : List mm_E := [(0, .iload_n 1, 0), (1, .invokestatic 38, 0), (4, .ifCond .ne 5, 9), (7, .iconst 0, 0), (8, .ireturn, 0), (9, .aload_n 0, 0), (10, .getfield 28, 0), (13, .ifCond .eq 26, 39), (16, .aload_n 0, 0), (17, .getfield 18, 0), (20, .iload_n 1, 0), (21, .iaload, 0), (22, .aload_n 0, 0), (23, .getfield 21, 0), (26, .iload_n 1, 0), (27, .iaload, 0), (28, .if_icmp .eq 7, 35), (31, .iconst 1, 0), (32, .goto 30, 62), (35, .iconst 0, 0), (36, .goto 26, 62), (39, .aload_n 0, 0), (40, .getfield 18, 0), (43, .iload_n 1, 0), (44, .iaload, 0), (45, .aload_n 0, 0), (46, .getfield 21, 0), (49, .iload_n 1, 0), (50, .iaload, 0), (51, .iadd, 0), (52, .iconst 2, 0), (53, .irem, 0), (54, .ifCond .eq 7, 61), (57, .iconst 1, 0), (58, .goto 4, 62), (61, .iconst 0, 0), (62, .ireturn, 0)]
theorem kkX1_isOddAsCounted : mm_chk cX1_isOddAsCounted kdX1_isOddAsCounted = true := by decide +kernel
def kdX1_isIn : List mm_E := [(0, .iload_n 0, 0), (1, .iload_n 1, 0), (2, .ishr, 0), (3, .iconst 1, 0), (4, .iand, 0), (5, .ifCond .eq 7, 12), (8, .iconst 1, 0), (9, .goto 4, 13), (12, .iconst 0, 0), (13, .ireturn, 0)]
theorem kkX1_isIn : mm_chk cX1_isIn kdX1_isIn = true := by decide +kernel
def kdX2_init : List mm_E := [(0, .aload_n 0, 0), (1, .invokespecial 3, 0), (4, .aload_n 0, 0), (5, .aload_n 1, 0), (6, .putfield 9, 0), (9, .aload_n 0, 0), (10, .bipush 30, 0), (12, .newarray .int, 0), (14, .putfield 15, 0), (17, .return_, 0)]
theorem kkX2_init : mm_chk cX2_init kdX2_init = true := by decide +kernel
def kdX2_size : List mm_E := [(0, .aload_n 0, 0), (1, .getfield 19, 0), (4, .ireturn, 0)]
theorem kkX2_size : mm_chk cX2_size kdX2_size = true := by decide +kernel
def kdX2_firstCorner : List mm_E := [(0, .aload_n 0, 0), (1, .getfield 23, 0), (4, .ireturn, 0)]
theorem kkX2_firstCorner : mm_chk cX2_firstCorner kdX2_firstCorner = true := by decide +kernel
def kdX2_lastCorner : List mm_E := [(0, .aload_n 0, 0), (1, .aload_n 0, 0), (2, .getfield 19, 0), (5, .invokevirtual 26, 0), (8, .ireturn, 0)]
theorem kkX2_lastCorner : mm_chk cX2_lastCorner kdX2_lastCorner = true := by decide +kernel
def kdX2_cornerOf : List mm_E := [(0, .iload_n 1, 0), (1, .ifCond .le 29, 30), (4, .iload_n 1, 0), (5, .aload_n 0, 0), (6, .getfield 19, 0), (9, .if_icmp .gt 21, 30), (12, .aload_n 0, 0), (13, .getfield 9, 0), (16, .aload_n 0, 0), (17, .getfield 15, 0), (20, .iload_n 1, 0), (21, .iconst 1, 0), (22, .isub, 0), (23, .iaload, 0), (24, .invokevirtual 30, 0), (27, .goto 7, 34), (30, .aload_n 0, 0), (31, .getfield 23, 0), (34, .ireturn, 0)]
theorem kkX2_cornerOf : mm_chk cX2_cornerOf kdX2_cornerOf = true := by decide +kernel
def kdX2_stepOf : List mm_E := [(0, .iload_n 1, 0), (1, .ifCond .lt 20, 21), (4, .iload_n 1, 0), (5, .aload_n 0, 0), (6, .getfield 19, 0), (9, .if_icmp .ge 12, 21), (12, .aload_n 0, 0), (13, .getfield 15, 0), (16, .iload_n 1, 0), (17, .iaload, 0), (18, .goto 4, 22), (21, .iconst (-1), 0), (22, .ireturn, 0)]
theorem kkX2_stepOf : mm_chk cX2_stepOf kdX2_stepOf = true := by decide +kernel
def kdX2_placeOf : List mm_E := [(0, .iconst 0, 0), (1, .istore_n 2, 0), (2, .iload_n 2, 0), (3, .aload_n 0, 0), (4, .getfield 19, 0), (7, .if_icmp .ge 23, 30), (10, .aload_n 0, 0), (11, .getfield 15, 0), (14, .iload_n 2, 0), (15, .iaload, 0), (16, .iconst 1, 0), (17, .ishr, 0), (18, .iload_n 1, 0), (19, .if_icmp .ne 5, 24), (22, .iload_n 2, 0), (23, .ireturn, 0), (24, .iinc 2 1, 0), (27, .goto (-25), 2), (30, .iconst (-1), 0), (31, .ireturn, 0)]
theorem kkX2_placeOf : mm_chk cX2_placeOf kdX2_placeOf = true := by decide +kernel
def kdX2_placeOfCorner : List mm_E := [(0, .iconst 0, 0), (1, .istore_n 2, 0), (2, .iload_n 2, 0), (3, .aload_n 0, 0), (4, .getfield 19, 0), (7, .if_icmp .gt 20, 27), (10, .aload_n 0, 0), (11, .iload_n 2, 0), (12, .invokevirtual 26, 0), (15, .iload_n 1, 0), (16, .if_icmp .ne 5, 21), (19, .iload_n 2, 0), (20, .ireturn, 0), (21, .iinc 2 1, 0), (24, .goto (-22), 2), (27, .iconst (-1), 0), (28, .ireturn, 0)]
theorem kkX2_placeOfCorner : mm_chk cX2_placeOfCorner kdX2_placeOfCorner = true := by decide +kernel
def kdX2_isHome : List mm_E := [(0, .aload_n 0, 0), (1, .aload_n 0, 0), (2, .getfield 19, 0), (5, .invokevirtual 26, 0), (8, .aload_n 0, 0), (9, .getfield 23, 0), (12, .if_icmp .ne 7, 19), (15, .iconst 1, 0), (16, .goto 4, 20), (19, .iconst 0, 0), (20, .ireturn, 0)]
theorem kkX2_isHome : mm_chk cX2_isHome kdX2_isHome = true := by decide +kernel
def kdX2_isWhole : List mm_E := [(0, .aload_n 0, 0), (1, .getfield 19, 0), (4, .aload_n 0, 0), (5, .getfield 9, 0), (8, .invokevirtual 35, 0), (11, .if_icmp .ne 7, 18), (14, .iconst 1, 0), (15, .goto 4, 19), (18, .iconst 0, 0), (19, .ireturn, 0)]
theorem kkX2_isWhole : mm_chk cX2_isWhole kdX2_isWhole = true := by decide +kernel
def kdX2_hasBackward : List mm_E := [(0, .iconst 0, 0), (1, .istore_n 1, 0), (2, .iload_n 1, 0), (3, .aload_n 0, 0), (4, .getfield 19, 0), (7, .if_icmp .ge 22, 29), (10, .aload_n 0, 0), (11, .getfield 15, 0), (14, .iload_n 1, 0), (15, .iaload, 0), (16, .iconst 1, 0), (17, .iand, 0), (18, .ifCond .eq 5, 23), (21, .iconst 1, 0), (22, .ireturn, 0), (23, .iinc 1 1, 0), (26, .goto (-24), 2), (29, .iconst 0, 0), (30, .ireturn, 0)]
theorem kkX2_hasBackward : mm_chk cX2_hasBackward kdX2_hasBackward = true := by decide +kernel
def kdX2_restart : List mm_E := [(0, .aload_n 0, 0), (1, .iconst 0, 0), (2, .putfield 19, 0), (5, .aload_n 0, 0), (6, .iload_n 1, 0), (7, .putfield 23, 0), (10, .return_, 0)]
theorem kkX2_restart : mm_chk cX2_restart kdX2_restart = true := by decide +kernel
def kdX2_renumberBehind : List mm_E := [(0, .iconst 0, 0), (1, .istore_n 2, 0), (2, .iload_n 2, 0), (3, .aload_n 0, 0), (4, .getfield 19, 0), (7, .if_icmp .ge 31, 38), (10, .aload_n 0, 0), (11, .getfield 15, 0), (14, .iload_n 2, 0), (15, .iaload, 0), (16, .iconst 1, 0), (17, .ishr, 0), (18, .iload_n 1, 0), (19, .if_icmp .le 13, 32), (22, .aload_n 0, 0), (23, .getfield 15, 0), (26, .iload_n 2, 0), (27, .dup2, 0), (28, .iaload, 0), (29, .iconst 2, 0), (30, .isub, 0), (31, .iastore, 0), (32, .iinc 2 1, 0), (35, .goto (-33), 2), (38, .return_, 0)]
theorem kkX2_renumberBehind : mm_chk cX2_renumberBehind kdX2_renumberBehind = true := by decide +kernel
def kdX2_putIn : List mm_E := [(0, .iload_n 1, 0), (1, .ifCond .lt 20, 21), (4, .iload_n 1, 0), (5, .aload_n 0, 0), (6, .getfield 19, 0), (9, .if_icmp .gt 12, 21), (12, .aload_n 0, 0), (13, .getfield 19, 0), (16, .bipush 30, 0), (18, .if_icmp .lt 4, 22), (21, .return_, 0), (22, .aload_n 0, 0), (23, .getfield 19, 0), (26, .istore_n 3, 0), (27, .iload_n 3, 0), (28, .iload_n 1, 0), (29, .if_icmp .le 23, 52), (32, .aload_n 0, 0), (33, .getfield 15, 0), (36, .iload_n 3, 0), (37, .aload_n 0, 0), (38, .getfield 15, 0), (41, .iload_n 3, 0), (42, .iconst 1, 0), (43, .isub, 0), (44, .iaload, 0), (45, .iastore, 0), (46, .iinc 3 (-1), 0), (49, .goto (-22), 27), (52, .aload_n 0, 0), (53, .getfield 15, 0), (56, .iload_n 1, 0), (57, .iload_n 2, 0), (58, .iastore, 0), (59, .aload_n 0, 0), (60, .dup, 0), (61, .getfield 19, 0), (64, .iconst 1, 0), (65, .iadd, 0), (66, .putfield 19, 0), (69, .return_, 0)]
theorem kkX2_putIn : mm_chk cX2_putIn kdX2_putIn = true := by decide +kernel
def kdX2_putAhead : List mm_E := [(0, .aload_n 0, 0), (1, .iconst 0, 0), (2, .iload_n 1, 0), (3, .invokevirtual 39, 0), (6, .aload_n 0, 0), (7, .aload_n 0, 0), (8, .getfield 9, 0), (11, .iload_n 1, 0), (12, .invokevirtual 43, 0), (15, .putfield 23, 0), (18, .return_, 0)]
theorem kkX2_putAhead : mm_chk cX2_putAhead kdX2_putAhead = true := by decide +kernel
def kdX2_takeOut : List mm_E := [(0, .iload_n 1, 0), (1, .ifCond .lt 11, 12), (4, .iload_n 1, 0), (5, .aload_n 0, 0), (6, .getfield 19, 0), (9, .if_icmp .lt 4, 13), (12, .return_, 0), (13, .iload_n 1, 0), (14, .istore_n 2, 0), (15, .iload_n 2, 0), (16, .iconst 1, 0), (17, .iadd, 0), (18, .aload_n 0, 0), (19, .getfield 19, 0), (22, .if_icmp .ge 23, 45), (25, .aload_n 0, 0), (26, .getfield 15, 0), (29, .iload_n 2, 0), (30, .aload_n 0, 0), (31, .getfield 15, 0), (34, .iload_n 2, 0), (35, .iconst 1, 0), (36, .iadd, 0), (37, .iaload, 0), (38, .iastore, 0), (39, .iinc 2 1, 0), (42, .goto (-27), 15), (45, .aload_n 0, 0), (46, .dup, 0), (47, .getfield 19, 0), (50, .iconst 1, 0), (51, .isub, 0), (52, .putfield 19, 0), (55, .return_, 0)]
theorem kkX2_takeOut : mm_chk cX2_takeOut kdX2_takeOut = true := by decide +kernel
def kdX2_takeOutFirst : List mm_E := [(0, .aload_n 0, 0), (1, .aload_n 0, 0), (2, .iconst 1, 0), (3, .invokevirtual 26, 0), (6, .putfield 23, 0), (9, .aload_n 0, 0), (10, .iconst 0, 0), (11, .invokevirtual 46, 0), (14, .return_, 0)]
theorem kkX2_takeOutFirst : mm_chk cX2_takeOutFirst kdX2_takeOutFirst = true := by decide +kernel
def kdX2_exchange : List mm_E := [(0, .iload_n 1, 0), (1, .ifCond .lt 18, 19), (4, .iload_n 1, 0), (5, .aload_n 0, 0), (6, .getfield 19, 0), (9, .if_icmp .ge 10, 19), (12, .aload_n 0, 0), (13, .getfield 15, 0), (16, .iload_n 1, 0), (17, .iload_n 2, 0), (18, .iastore, 0), (19, .return_, 0)]
theorem kkX2_exchange : mm_chk cX2_exchange kdX2_exchange = true := by decide +kernel
def kdX2_walkStreet : List mm_E := [(0, .iload_n 2, 0), (1, .ifCond .eq 18, 19), (4, .aload_n 0, 0), (5, .getfield 9, 0), (8, .iload_n 1, 0), (9, .aload_n 0, 0), (10, .getfield 23, 0), (13, .invokevirtual 50, 0), (16, .goto 15, 31), (19, .aload_n 0, 0), (20, .getfield 9, 0), (23, .iload_n 1, 0), (24, .aload_n 0, 0), (25, .invokevirtual 54, 0), (28, .invokevirtual 57, 0), (31, .istore_n 3, 0), (32, .iload_n 3, 0), (33, .ifCond .lt 11, 44), (36, .aload_n 0, 0), (37, .iload_n 1, 0), (38, .invokevirtual 60, 0), (41, .ifCond .lt 6, 47), (44, .bipush (-9), 0), (46, .ireturn, 0), (47, .iload_n 2, 0), (48, .ifCond .eq 13, 61), (51, .aload_n 0, 0), (52, .iload_n 3, 0), (53, .invokevirtual 63, 0), (56, .aload_n 0, 0), (57, .getfield 23, 0), (60, .ireturn, 0), (61, .aload_n 0, 0), (62, .aload_n 0, 0), (63, .getfield 19, 0), (66, .iload_n 3, 0), (67, .invokevirtual 39, 0), (70, .aload_n 0, 0), (71, .invokevirtual 54, 0), (74, .ireturn, 0)]
theorem kkX2_walkStreet : mm_chk cX2_walkStreet kdX2_walkStreet = true := by decide +kernel
def kdX2_stepBack : List mm_E := [(0, .aload_n 0, 0), (1, .getfield 19, 0), (4, .ifCond .ne 6, 10), (7, .bipush (-9), 0), (9, .ireturn, 0), (10, .aload_n 0, 0), (11, .iload_n 1, 0), (12, .ifCond .eq 7, 19), (15, .iconst 0, 0), (16, .goto 9, 25), (19, .aload_n 0, 0), (20, .getfield 19, 0), (23, .iconst 1, 0), (24, .isub, 0), (25, .invokevirtual 66, 0), (28, .istore_n 2, 0), (29, .iload_n 1, 0), (30, .ifCond .eq 10, 40), (33, .aload_n 0, 0), (34, .invokevirtual 69, 0), (37, .goto 13, 50), (40, .aload_n 0, 0), (41, .dup, 0), (42, .getfield 19, 0), (45, .iconst 1, 0), (46, .isub, 0), (47, .putfield 19, 0), (50, .iload_n 2, 0), (51, .ireturn, 0)]
theorem kkX2_stepBack : mm_chk cX2_stepBack kdX2_stepBack = true := by decide +kernel
def kdX2_goOn : List mm_E := [(0, .aload_n 0, 0), (1, .iload_n 1, 0), (2, .invokevirtual 26, 0), (5, .istore_n 3, 0), (6, .aload_n 0, 0), (7, .invokevirtual 72, 0), (10, .istore 4, 0), (12, .iconst 0, 0), (13, .istore 5, 0), (15, .iconst 0, 0), (16, .istore 6, 0), (18, .iload 6, 0), (20, .bipush 30, 0), (22, .if_icmp .ge 66, 88), (25, .aload_n 0, 0), (26, .getfield 9, 0), (29, .iload 4, 0), (31, .iload_n 3, 0), (32, .iload_n 2, 0), (33, .invokevirtual 75, 0), (36, .istore 7, 0), (38, .iload 7, 0), (40, .ifCond .ge 6, 46), (43, .iload 5, 0), (45, .ireturn, 0), (46, .aload_n 0, 0), (47, .iload_n 1, 0), (48, .iload 5, 0), (50, .iadd, 0), (51, .iload 7, 0), (53, .invokevirtual 39, 0), (56, .iinc 5 1, 0), (59, .iload 4, 0), (61, .iconst 1, 0), (62, .iload 7, 0), (64, .iconst 1, 0), (65, .ishr, 0), (66, .ishl, 0), (67, .iconst (-1), 0), (68, .ixor, 0), (69, .iand, 0), (70, .istore 4, 0), (72, .aload_n 0, 0), (73, .getfield 9, 0), (76, .iload 7, 0), (78, .invokevirtual 30, 0), (81, .istore_n 3, 0), (82, .iinc 6 1, 0), (85, .goto (-67), 18), (88, .iload 5, 0), (90, .ireturn, 0)]
theorem kkX2_goOn : mm_chk cX2_goOn kdX2_goOn = true := by decide +kernel
def kdX2_fillUp : List mm_E := [(0, .aload_n 0, 0), (1, .aload_n 0, 0), (2, .getfield 19, 0), (5, .iload_n 1, 0), (6, .invokevirtual 79, 0), (9, .istore_n 2, 0), (10, .iconst 0, 0), (11, .istore_n 3, 0), (12, .iload_n 3, 0), (13, .aload_n 0, 0), (14, .getfield 19, 0), (17, .if_icmp .gt 24, 41), (20, .iload_n 3, 0), (21, .bipush 30, 0), (23, .if_icmp .gt 18, 41), (26, .iload_n 2, 0), (27, .aload_n 0, 0), (28, .iload_n 3, 0), (29, .iload_n 1, 0), (30, .invokevirtual 79, 0), (33, .iadd, 0), (34, .istore_n 2, 0), (35, .iinc 3 1, 0), (38, .goto (-26), 12), (41, .iload_n 2, 0), (42, .ireturn, 0)]
theorem kkX2_fillUp : mm_chk cX2_fillUp kdX2_fillUp = true := by decide +kernel
def kdX2_canTakeIn : List mm_E := [(0, .aload_n 1, 0), (1, .aload_n 0, 0), (2, .if_acmp .eq 17, 19), (5, .aload_n 1, 0), (6, .getfield 19, 0), (9, .ifCond .eq 10, 19), (12, .aload_n 1, 0), (13, .invokevirtual 83, 0), (16, .ifCond .ne 5, 21), (19, .iconst 0, 0), (20, .ireturn, 0), (21, .aload_n 0, 0), (22, .invokevirtual 72, 0), (25, .aload_n 1, 0), (26, .invokevirtual 72, 0), (29, .ior, 0), (30, .aload_n 0, 0), (31, .getfield 9, 0), (34, .invokevirtual 87, 0), (37, .if_icmp .ne 7, 44), (40, .iconst 1, 0), (41, .goto 4, 45), (44, .iconst 0, 0), (45, .ireturn, 0)]
theorem kkX2_canTakeIn : mm_chk cX2_canTakeIn kdX2_canTakeIn = true := by decide +kernel
def kdX2_takeIn : List mm_E := [(0, .aload_n 1, 0), (1, .getfield 19, 0), (4, .istore_n 3, 0), (5, .iconst 0, 0), (6, .istore 4, 0), (8, .iload 4, 0), (10, .iload_n 3, 0), (11, .if_icmp .ge 23, 34), (14, .aload_n 0, 0), (15, .iload_n 2, 0), (16, .iload 4, 0), (18, .iadd, 0), (19, .aload_n 1, 0), (20, .iload 4, 0), (22, .invokevirtual 66, 0), (25, .invokevirtual 39, 0), (28, .iinc 4 1, 0), (31, .goto (-23), 8), (34, .aload_n 1, 0), (35, .iconst 0, 0), (36, .putfield 19, 0), (39, .return_, 0)]
theorem kkX2_takeIn : mm_chk cX2_takeIn kdX2_takeIn = true := by decide +kernel
def kdX2_meetingPlace : List mm_E := [(0, .iconst 0, 0), (1, .istore_n 2, 0), (2, .iload_n 2, 0), (3, .aload_n 0, 0), (4, .getfield 19, 0), (7, .if_icmp .gt 23, 30), (10, .aload_n 1, 0), (11, .aload_n 0, 0), (12, .iload_n 2, 0), (13, .invokevirtual 26, 0), (16, .invokevirtual 90, 0), (19, .ifCond .lt 5, 24), (22, .iload_n 2, 0), (23, .ireturn, 0), (24, .iinc 2 1, 0), (27, .goto (-25), 2), (30, .iconst (-1), 0), (31, .ireturn, 0)]
theorem kkX2_meetingPlace : mm_chk cX2_meetingPlace kdX2_meetingPlace = true := by decide +kernel
def kdX2_giveOut : List mm_E := [(0, .aload_n 3, 0), (1, .aload_n 0, 0), (2, .iload_n 1, 0), (3, .invokevirtual 26, 0), (6, .invokevirtual 93, 0), (9, .iload_n 1, 0), (10, .istore 4, 0), (12, .iload 4, 0), (14, .iload_n 2, 0), (15, .if_icmp .ge 27, 42), (18, .aload_n 3, 0), (19, .aload_n 3, 0), (20, .getfield 19, 0), (23, .aload_n 0, 0), (24, .iload_n 1, 0), (25, .invokevirtual 66, 0), (28, .invokevirtual 39, 0), (31, .aload_n 0, 0), (32, .iload_n 1, 0), (33, .invokevirtual 46, 0), (36, .iinc 4 1, 0), (39, .goto (-27), 12), (42, .return_, 0)]
theorem kkX2_giveOut : mm_chk cX2_giveOut kdX2_giveOut = true := by decide +kernel
def kdX2_turnOrder : List mm_E := [(0, .aload_n 0, 0), (1, .aload_n 0, 0), (2, .invokevirtual 54, 0), (5, .putfield 23, 0), (8, .iconst 0, 0), (9, .istore_n 1, 0), (10, .aload_n 0, 0), (11, .getfield 19, 0), (14, .iconst 1, 0), (15, .isub, 0), (16, .istore_n 2, 0), (17, .iload_n 1, 0), (18, .iload_n 2, 0), (19, .if_icmp .ge 38, 57), (22, .aload_n 0, 0), (23, .getfield 15, 0), (26, .iload_n 1, 0), (27, .iaload, 0), (28, .istore_n 3, 0), (29, .aload_n 0, 0), (30, .getfield 15, 0), (33, .iload_n 1, 0), (34, .aload_n 0, 0), (35, .getfield 15, 0), (38, .iload_n 2, 0), (39, .iaload, 0), (40, .iastore, 0), (41, .aload_n 0, 0), (42, .getfield 15, 0), (45, .iload_n 2, 0), (46, .iload_n 3, 0), (47, .iastore, 0), (48, .iinc 1 1, 0), (51, .iinc 2 (-1), 0), (54, .goto (-37), 17), (57, .return_, 0)]
theorem kkX2_turnOrder : mm_chk cX2_turnOrder kdX2_turnOrder = true := by decide +kernel
def kdX2_turnSteps : List mm_E := [(0, .iconst 0, 0), (1, .istore_n 1, 0), (2, .iload_n 1, 0), (3, .aload_n 0, 0), (4, .getfield 19, 0), (7, .if_icmp .ge 37, 44), (10, .aload_n 0, 0), (11, .getfield 9, 0), (14, .aload_n 0, 0), (15, .getfield 15, 0), (18, .iload_n 1, 0), (19, .iaload, 0), (20, .iconst 1, 0), (21, .ishr, 0), (22, .invokevirtual 96, 0), (25, .ifCond .ne 13, 38), (28, .aload_n 0, 0), (29, .getfield 15, 0), (32, .iload_n 1, 0), (33, .dup2, 0), (34, .iaload, 0), (35, .iconst 1, 0), (36, .ixor, 0), (37, .iastore, 0), (38, .iinc 1 1, 0), (41, .goto (-39), 2), (44, .return_, 0)]
theorem kkX2_turnSteps : mm_chk cX2_turnSteps kdX2_turnSteps = true := by decide +kernel
def kdX2_turnBy : List mm_E := [(0, .aload_n 0, 0), (1, .getfield 19, 0), (4, .ifCond .ne 4, 8), (7, .return_, 0), (8, .iload_n 1, 0), (9, .aload_n 0, 0), (10, .getfield 19, 0), (13, .irem, 0), (14, .istore_n 2, 0), (15, .iconst 0, 0), (16, .istore_n 3, 0), (17, .iload_n 3, 0), (18, .iload_n 2, 0), (19, .if_icmp .ge 30, 49), (22, .aload_n 0, 0), (23, .iconst 0, 0), (24, .invokevirtual 66, 0), (27, .istore 4, 0), (29, .aload_n 0, 0), (30, .invokevirtual 69, 0), (33, .aload_n 0, 0), (34, .aload_n 0, 0), (35, .getfield 19, 0), (38, .iload 4, 0), (40, .invokevirtual 39, 0), (43, .iinc 3 1, 0), (46, .goto (-29), 17), (49, .return_, 0)]
theorem kkX2_turnBy : mm_chk cX2_turnBy kdX2_turnBy = true := by decide +kernel
def kdX2_takeAllOf : List mm_E := [(0, .aload_n 1, 0), (1, .getfield 19, 0), (4, .istore_n 2, 0), (5, .aload_n 0, 0), (6, .aload_n 1, 0), (7, .getfield 23, 0), (10, .invokevirtual 93, 0), (13, .iconst 0, 0), (14, .istore_n 3, 0), (15, .iload_n 3, 0), (16, .iload_n 2, 0), (17, .if_icmp .ge 20, 37), (20, .aload_n 0, 0), (21, .iload_n 3, 0), (22, .aload_n 1, 0), (23, .getfield 15, 0), (26, .iload_n 3, 0), (27, .iaload, 0), (28, .invokevirtual 39, 0), (31, .iinc 3 1, 0), (34, .goto (-19), 15), (37, .return_, 0)]
theorem kkX2_takeAllOf : mm_chk cX2_takeAllOf kdX2_takeAllOf = true := by decide +kernel
def kdX2_fillInOrder : List mm_E := [(0, .iload_n 1, 0), (1, .ifCond .eq 7, 8), (4, .iconst (-1), 0), (5, .goto 10, 15), (8, .aload_n 0, 0), (9, .getfield 9, 0), (12, .invokevirtual 35, 0), (15, .istore_n 2, 0), (16, .aload_n 0, 0), (17, .getfield 19, 0), (20, .istore_n 3, 0), (21, .iload_n 3, 0), (22, .aload_n 0, 0), (23, .getfield 9, 0), (26, .invokevirtual 35, 0), (29, .if_icmp .ge 44, 73), (32, .aload_n 0, 0), (33, .getfield 9, 0), (36, .aload_n 0, 0), (37, .invokevirtual 72, 0), (40, .aload_n 0, 0), (41, .invokevirtual 54, 0), (44, .iload_n 2, 0), (45, .iload_n 1, 0), (46, .invokevirtual 100, 0), (49, .istore 4, 0), (51, .iload 4, 0), (53, .ifCond .ge 4, 57), (56, .return_, 0), (57, .aload_n 0, 0), (58, .aload_n 0, 0), (59, .getfield 19, 0), (62, .iload 4, 0), (64, .invokevirtual 39, 0), (67, .iinc 3 1, 0), (70, .goto (-49), 21), (73, .return_, 0)]
theorem kkX2_fillInOrder : mm_chk cX2_fillInOrder kdX2_fillInOrder = true := by decide +kernel
def kdX2_becomeNeighbour : List mm_E := [(0, .aload_n 0, 0), (1, .getfield 19, 0), (4, .iconst 1, 0), (5, .isub, 0), (6, .istore_n 2, 0), (7, .iload_n 2, 0), (8, .ifCond .lt 55, 63), (11, .aload_n 0, 0), (12, .iconst 0, 0), (13, .invokevirtual 104, 0), (16, .istore_n 3, 0), (17, .aload_n 0, 0), (18, .getfield 9, 0), (21, .aload_n 0, 0), (22, .invokevirtual 72, 0), (25, .aload_n 0, 0), (26, .invokevirtual 54, 0), (29, .iload_n 3, 0), (30, .iconst 1, 0), (31, .ishr, 0), (32, .iload_n 1, 0), (33, .invokevirtual 100, 0), (36, .istore 4, 0), (38, .iload 4, 0), (40, .ifCond .lt 17, 57), (43, .aload_n 0, 0), (44, .iload_n 2, 0), (45, .iload 4, 0), (47, .invokevirtual 39, 0), (50, .aload_n 0, 0), (51, .iload_n 1, 0), (52, .invokevirtual 108, 0), (55, .iload_n 2, 0), (56, .ireturn, 0), (57, .iinc 2 (-1), 0), (60, .goto (-53), 7), (63, .iconst (-1), 0), (64, .ireturn, 0)]
theorem kkX2_becomeNeighbour : mm_chk cX2_becomeNeighbour kdX2_becomeNeighbour = true := by decide +kernel
def kdX2_isSameTurned : List mm_E := [(0, .aload_n 0, 0), (1, .getfield 19, 0), (4, .aload_n 1, 0), (5, .getfield 19, 0), (8, .if_icmp .ne 15, 23), (11, .aload_n 0, 0), (12, .iload_n 2, 0), (13, .invokevirtual 26, 0), (16, .aload_n 1, 0), (17, .getfield 23, 0), (20, .if_icmp .eq 5, 25), (23, .iconst 0, 0), (24, .ireturn, 0), (25, .iconst 0, 0), (26, .istore_n 3, 0), (27, .iload_n 3, 0), (28, .aload_n 0, 0), (29, .getfield 19, 0), (32, .if_icmp .ge 33, 65), (35, .aload_n 0, 0), (36, .getfield 15, 0), (39, .iload_n 3, 0), (40, .iload_n 2, 0), (41, .iadd, 0), (42, .aload_n 0, 0), (43, .getfield 19, 0), (46, .irem, 0), (47, .iaload, 0), (48, .aload_n 1, 0), (49, .getfield 15, 0), (52, .iload_n 3, 0), (53, .iaload, 0), (54, .if_icmp .eq 5, 59), (57, .iconst 0, 0), (58, .ireturn, 0), (59, .iinc 3 1, 0), (62, .goto (-35), 27), (65, .iconst 1, 0), (66, .ireturn, 0)]
theorem kkX2_isSameTurned : mm_chk cX2_isSameTurned kdX2_isSameTurned = true := by decide +kernel
def kdX2_turnTo : List mm_E := [(0, .aload_n 0, 0), (1, .aload_n 1, 0), (2, .iconst 0, 0), (3, .invokevirtual 112, 0), (6, .ifCond .eq 5, 11), (9, .iconst 0, 0), (10, .ireturn, 0), (11, .aload_n 0, 0), (12, .invokevirtual 83, 0), (15, .ifCond .ne 5, 20), (18, .iconst (-1), 0), (19, .ireturn, 0), (20, .iconst 1, 0), (21, .istore_n 2, 0), (22, .iload_n 2, 0), (23, .aload_n 0, 0), (24, .getfield 19, 0), (27, .if_icmp .ge 20, 47), (30, .aload_n 0, 0), (31, .aload_n 1, 0), (32, .iload_n 2, 0), (33, .invokevirtual 112, 0), (36, .ifCond .eq 5, 41), (39, .iload_n 2, 0), (40, .ireturn, 0), (41, .iinc 2 1, 0), (44, .goto (-22), 22), (47, .iconst (-1), 0), (48, .ireturn, 0)]
theorem kkX2_turnTo : mm_chk cX2_turnTo kdX2_turnTo = true := by decide +kernel
def kdX2_placeOfWord : List mm_E := [(0, .aload_n 0, 0), (1, .getfield 9, 0), (4, .invokevirtual 116, 0), (7, .ifCond .eq 22, 29), (10, .iload_n 1, 0), (11, .ifCond .lt 18, 29), (14, .iload_n 1, 0), (15, .aload_n 0, 0), (16, .getfield 9, 0), (19, .invokevirtual 35, 0), (22, .if_icmp .ge 7, 29), (25, .iload_n 2, 0), (26, .ifCond .ge 5, 31), (29, .iconst (-1), 0), (30, .ireturn, 0), (31, .iload_n 2, 0), (32, .istore_n 3, 0), (33, .iload_n 3, 0), (34, .aload_n 0, 0), (35, .getfield 19, 0), (38, .if_icmp .ge 20, 58), (41, .aload_n 0, 0), (42, .iload_n 1, 0), (43, .iload_n 3, 0), (44, .invokevirtual 119, 0), (47, .ifCond .eq 5, 52), (50, .iload_n 3, 0), (51, .ireturn, 0), (52, .iinc 3 1, 0), (55, .goto (-22), 33), (58, .iconst (-1), 0), (59, .ireturn, 0)]
theorem kkX2_placeOfWord : mm_chk cX2_placeOfWord kdX2_placeOfWord = true := by decide +kernel
def kdX2_isTrueWalk : List mm_E := [(0, .aload_n 0, 0), (1, .getfield 23, 0), (4, .istore_n 1, 0), (5, .iconst 0, 0), (6, .istore_n 2, 0), (7, .iconst 0, 0), (8, .istore_n 3, 0), (9, .iload_n 3, 0), (10, .aload_n 0, 0), (11, .getfield 19, 0), (14, .if_icmp .ge 70, 84), (17, .aload_n 0, 0), (18, .getfield 15, 0), (21, .iload_n 3, 0), (22, .iaload, 0), (23, .iconst 1, 0), (24, .ishr, 0), (25, .istore 4, 0), (27, .iload_n 2, 0), (28, .iload 4, 0), (30, .ishr, 0), (31, .iconst 1, 0), (32, .iand, 0), (33, .ifCond .ne 22, 55), (36, .aload_n 0, 0), (37, .getfield 9, 0), (40, .iload 4, 0), (42, .iload_n 1, 0), (43, .invokevirtual 57, 0), (46, .aload_n 0, 0), (47, .getfield 15, 0), (50, .iload_n 3, 0), (51, .iaload, 0), (52, .if_icmp .eq 5, 57), (55, .iconst 0, 0), (56, .ireturn, 0), (57, .iload_n 2, 0), (58, .iconst 1, 0), (59, .iload 4, 0), (61, .ishl, 0), (62, .ior, 0), (63, .istore_n 2, 0), (64, .aload_n 0, 0), (65, .getfield 9, 0), (68, .aload_n 0, 0), (69, .getfield 15, 0), (72, .iload_n 3, 0), (73, .iaload, 0), (74, .invokevirtual 30, 0), (77, .istore_n 1, 0), (78, .iinc 3 1, 0), (81, .goto (-72), 9), (84, .aload_n 0, 0), (85, .invokevirtual 123, 0), (88, .ireturn, 0)]
theorem kkX2_isTrueWalk : mm_chk cX2_isTrueWalk kdX2_isTrueWalk = true := by decide +kernel
def kdX2_leadsBack : List mm_E := [(0, .aload_n 0, 0), (1, .aload_n 0, 0), (2, .getfield 19, 0), (5, .invokevirtual 26, 0), (8, .istore_n 1, 0), (9, .aload_n 0, 0), (10, .getfield 19, 0), (13, .iconst 1, 0), (14, .isub, 0), (15, .istore_n 2, 0), (16, .iload_n 2, 0), (17, .ifCond .lt 42, 59), (20, .aload_n 0, 0), (21, .getfield 9, 0), (24, .aload_n 0, 0), (25, .getfield 15, 0), (28, .iload_n 2, 0), (29, .iaload, 0), (30, .invokevirtual 30, 0), (33, .iload_n 1, 0), (34, .if_icmp .eq 5, 39), (37, .iconst 0, 0), (38, .ireturn, 0), (39, .aload_n 0, 0), (40, .getfield 9, 0), (43, .aload_n 0, 0), (44, .getfield 15, 0), (47, .iload_n 2, 0), (48, .iaload, 0), (49, .invokevirtual 43, 0), (52, .istore_n 1, 0), (53, .iinc 2 (-1), 0), (56, .goto (-40), 16), (59, .iload_n 1, 0), (60, .aload_n 0, 0), (61, .getfield 23, 0), (64, .if_icmp .ne 7, 71), (67, .iconst 1, 0), (68, .goto 4, 72), (71, .iconst 0, 0), (72, .ireturn, 0)]
theorem kkX2_leadsBack : mm_chk cX2_leadsBack kdX2_leadsBack = true := by decide +kernel
def kdX2_hasWord : List mm_E := [(0, .aload_n 0, 0), (1, .getfield 9, 0), (4, .invokevirtual 126, 0), (7, .istore_n 3, 0), (8, .iload_n 3, 0), (9, .ifCond .le 10, 19), (12, .aload_n 0, 0), (13, .getfield 19, 0), (16, .ifCond .gt 5, 21), (19, .iconst 0, 0), (20, .ireturn, 0), (21, .iload_n 1, 0), (22, .istore 4, 0), (24, .aload_n 0, 0), (25, .getfield 9, 0), (28, .invokevirtual 129, 0), (31, .iconst 1, 0), (32, .isub, 0), (33, .istore 5, 0), (35, .iload 5, 0), (37, .ifCond .lt 47, 84), (40, .aload_n 0, 0), (41, .getfield 9, 0), (44, .aload_n 0, 0), (45, .getfield 15, 0), (48, .iload_n 2, 0), (49, .iload 5, 0), (51, .iadd, 0), (52, .aload_n 0, 0), (53, .getfield 19, 0), (56, .irem, 0), (57, .iaload, 0), (58, .iconst 1, 0), (59, .ishr, 0), (60, .invokevirtual 132, 0), (63, .iload 4, 0), (65, .iload_n 3, 0), (66, .irem, 0), (67, .if_icmp .eq 5, 72), (70, .iconst 0, 0), (71, .ireturn, 0), (72, .iload 4, 0), (74, .iload_n 3, 0), (75, .idiv, 0), (76, .istore 4, 0), (78, .iinc 5 (-1), 0), (81, .goto (-46), 35), (84, .iconst 1, 0), (85, .ireturn, 0)]
theorem kkX2_hasWord : mm_chk cX2_hasWord kdX2_hasWord = true := by decide +kernel
def kdX2_notWalked : List mm_E := [(0, .aload_n 0, 0), (1, .getfield 9, 0), (4, .invokevirtual 87, 0), (7, .istore_n 1, 0), (8, .iconst 0, 0), (9, .istore_n 2, 0), (10, .iload_n 2, 0), (11, .aload_n 0, 0), (12, .getfield 19, 0), (15, .if_icmp .ge 24, 39), (18, .iload_n 1, 0), (19, .iconst 1, 0), (20, .aload_n 0, 0), (21, .getfield 15, 0), (24, .iload_n 2, 0), (25, .iaload, 0), (26, .iconst 1, 0), (27, .ishr, 0), (28, .ishl, 0), (29, .iconst (-1), 0), (30, .ixor, 0), (31, .iand, 0), (32, .istore_n 1, 0), (33, .iinc 2 1, 0), (36, .goto (-26), 10), (39, .iload_n 1, 0), (40, .ireturn, 0)]
theorem kkX2_notWalked : mm_chk cX2_notWalked kdX2_notWalked = true := by decide +kernel
def kdX3_init : List mm_E := [(0, .aload_n 0, 0), (1, .invokespecial 1, 0), (4, .aload_n 0, 0), (5, .new 7, 0), (8, .dup, 0), (9, .invokespecial 9, 0), (12, .putfield 10, 0), (15, .aload_n 0, 0), (16, .iconst 3, 0), (17, .anewarray 16, 0), (20, .putfield 18, 0), (23, .iconst 0, 0), (24, .istore_n 1, 0), (25, .iload_n 1, 0), (26, .iconst 3, 0), (27, .if_icmp .ge 26, 53), (30, .aload_n 0, 0), (31, .getfield 18, 0), (34, .iload_n 1, 0), (35, .new 16, 0), (38, .dup, 0), (39, .aload_n 0, 0), (40, .getfield 10, 0), (43, .invokespecial 22, 0), (46, .aastore, 0), (47, .iinc 1 1, 0), (50, .goto (-25), 25), (53, .aload_n 0, 0), (54, .new 16, 0), (57, .dup, 0), (58, .aload_n 0, 0), (59, .getfield 10, 0), (62, .invokespecial 22, 0), (65, .putfield 25, 0), (68, .aload_n 0, 0), (69, .new 29, 0), (72, .dup, 0), (73, .aload_n 0, 0), (74, .getfield 10, 0), (77, .invokespecial 31, 0), (80, .putfield 32, 0), (83, .return_, 0)]
theorem kkX3_init : mm_chk cX3_init kdX3_init = true := by decide +kernel
def kdX3_lay : List mm_E := [(0, .aload_n 0, 0), (1, .iload_n 1, 0), (2, .invokevirtual 36, 0), (5, .aload_n 0, 0), (6, .iload_n 2, 0), (7, .invokevirtual 36, 0), (10, .aload_n 0, 0), (11, .getfield 10, 0), (14, .iconst 1, 0), (15, .invokevirtual 40, 0), (18, .ifCond .ne 10, 28), (21, .aload_n 0, 0), (22, .bipush (-9), 0), (24, .invokevirtual 44, 0), (27, .ireturn, 0), (28, .aload_n 0, 0), (29, .getfield 10, 0), (32, .invokevirtual 48, 0), (35, .aload_n 0, 0), (36, .getfield 10, 0), (39, .iload_n 1, 0), (40, .iload_n 2, 0), (41, .invokevirtual 51, 0), (44, .aload_n 0, 0), (45, .aload_n 0, 0), (46, .getfield 10, 0), (49, .invokevirtual 55, 0), (52, .iconst 1, 0), (53, .isub, 0), (54, .invokevirtual 44, 0), (57, .ireturn, 0)]
theorem kkX3_lay : mm_chk cX3_lay kdX3_lay = true := by decide +kernel
def kdX3_layRing : List mm_E := [(0, .iload_n 1, 0), (1, .iconst 1, 0), (2, .bipush 10, 0), (4, .invokestatic 59, 0), (7, .iload_n 2, 0), (8, .iconst 0, 0), (9, .bipush 9, 0), (11, .invokestatic 59, 0), (14, .aload_n 0, 0), (15, .getfield 10, 0), (18, .iload_n 1, 0), (19, .invokevirtual 40, 0), (22, .ifCond .ne 10, 32), (25, .aload_n 0, 0), (26, .bipush (-9), 0), (28, .invokevirtual 44, 0), (31, .ireturn, 0), (32, .aload_n 0, 0), (33, .getfield 10, 0), (36, .invokevirtual 48, 0), (39, .aload_n 0, 0), (40, .getfield 10, 0), (43, .iload_n 1, 0), (44, .iload_n 2, 0), (45, .invokevirtual 63, 0), (48, .aload_n 0, 0), (49, .aload_n 0, 0), (50, .getfield 10, 0), (53, .invokevirtual 55, 0), (56, .invokevirtual 44, 0), (59, .ireturn, 0)]
theorem kkX3_layRing : mm_chk cX3_layRing kdX3_layRing = true := by decide +kernel
def kdX3_words : List mm_E := [(0, .iload_n 1, 0), (1, .iconst 2, 0), (2, .iconst 5, 0), (3, .invokestatic 59, 0), (6, .iload_n 2, 0), (7, .iconst 1, 0), (8, .iconst 4, 0), (9, .invokestatic 59, 0), (12, .iload_n 1, 0), (13, .iload_n 2, 0), (14, .invokestatic 66, 0), (17, .bipush 30, 0), (19, .if_icmp .le 10, 29), (22, .aload_n 0, 0), (23, .bipush (-9), 0), (25, .invokevirtual 44, 0), (28, .ireturn, 0), (29, .aload_n 0, 0), (30, .invokevirtual 70, 0), (33, .aload_n 0, 0), (34, .getfield 10, 0), (37, .iload_n 1, 0), (38, .iload_n 2, 0), (39, .invokevirtual 73, 0), (42, .aload_n 0, 0), (43, .aload_n 0, 0), (44, .getfield 10, 0), (47, .invokevirtual 55, 0), (50, .invokevirtual 44, 0), (53, .ireturn, 0)]
theorem kkX3_words : mm_chk cX3_words kdX3_words = true := by decide +kernel
def kdX3_close : List mm_E := [(0, .aload_n 0, 0), (1, .iload_n 1, 0), (2, .invokevirtual 76, 0), (5, .iconst 0, 0), (6, .istore_n 2, 0), (7, .iload_n 2, 0), (8, .aload_n 0, 0), (9, .getfield 18, 0), (12, .arraylength, 0), (13, .if_icmp .ge 29, 42), (16, .aload_n 0, 0), (17, .getfield 18, 0), (20, .iload_n 2, 0), (21, .aaload, 0), (22, .iload_n 1, 0), (23, .invokevirtual 79, 0), (26, .ifCond .lt 10, 36), (29, .aload_n 0, 0), (30, .bipush (-9), 0), (32, .invokevirtual 44, 0), (35, .ireturn, 0), (36, .iinc 2 1, 0), (39, .goto (-32), 7), (42, .aload_n 0, 0), (43, .getfield 10, 0), (46, .invokevirtual 48, 0), (49, .aload_n 0, 0), (50, .getfield 10, 0), (53, .iload_n 1, 0), (54, .invokevirtual 82, 0), (57, .iconst 0, 0), (58, .istore_n 2, 0), (59, .iload_n 2, 0), (60, .aload_n 0, 0), (61, .getfield 18, 0), (64, .arraylength, 0), (65, .if_icmp .ge 19, 84), (68, .aload_n 0, 0), (69, .getfield 18, 0), (72, .iload_n 2, 0), (73, .aaload, 0), (74, .iload_n 1, 0), (75, .invokevirtual 85, 0), (78, .iinc 2 1, 0), (81, .goto (-22), 59), (84, .aload_n 0, 0), (85, .aload_n 0, 0), (86, .getfield 10, 0), (89, .invokevirtual 55, 0), (92, .invokevirtual 44, 0), (95, .ireturn, 0)]
theorem kkX3_close : mm_chk cX3_close kdX3_close = true := by decide +kernel
def kdX3_clear : List mm_E := [(0, .aload_n 0, 0), (1, .getfield 10, 0), (4, .invokevirtual 55, 0), (7, .istore_n 1, 0), (8, .aload_n 0, 0), (9, .invokevirtual 70, 0), (12, .aload_n 0, 0), (13, .iload_n 1, 0), (14, .invokevirtual 44, 0), (17, .ireturn, 0)]
theorem kkX3_clear : mm_chk cX3_clear kdX3_clear = true := by decide +kernel
def kdX3_oneWay : List mm_E := [(0, .iload_n 1, 0), (1, .ifCond .eq 17, 18), (4, .aload_n 0, 0), (5, .invokevirtual 88, 0), (8, .ifCond .eq 10, 18), (11, .aload_n 0, 0), (12, .bipush (-9), 0), (14, .invokevirtual 44, 0), (17, .ireturn, 0), (18, .aload_n 0, 0), (19, .getfield 10, 0), (22, .invokevirtual 92, 0), (25, .iload_n 1, 0), (26, .if_icmp .ne 7, 33), (29, .iconst 0, 0), (30, .goto 4, 34), (33, .iconst 1, 0), (34, .istore_n 2, 0), (35, .aload_n 0, 0), (36, .getfield 10, 0), (39, .iload_n 1, 0), (40, .invokevirtual 95, 0), (43, .aload_n 0, 0), (44, .iload_n 2, 0), (45, .invokevirtual 44, 0), (48, .ireturn, 0)]
theorem kkX3_oneWay : mm_chk cX3_oneWay kdX3_oneWay = true := by decide +kernel
def kdX3_turnTown : List mm_E := [(0, .iconst 0, 0), (1, .istore_n 1, 0), (2, .iload_n 1, 0), (3, .aload_n 0, 0), (4, .getfield 18, 0), (7, .arraylength, 0), (8, .if_icmp .ge 18, 26), (11, .aload_n 0, 0), (12, .getfield 18, 0), (15, .iload_n 1, 0), (16, .aaload, 0), (17, .invokevirtual 99, 0), (20, .iinc 1 1, 0), (23, .goto (-21), 2), (26, .aload_n 0, 0), (27, .getfield 10, 0), (30, .invokevirtual 48, 0), (33, .aload_n 0, 0), (34, .getfield 10, 0), (37, .invokevirtual 102, 0), (40, .aload_n 0, 0), (41, .aload_n 0, 0), (42, .getfield 10, 0), (45, .invokevirtual 55, 0), (48, .invokevirtual 44, 0), (51, .ireturn, 0)]
theorem kkX3_turnTown : mm_chk cX3_turnTown kdX3_turnTown = true := by decide +kernel
def kdX3_streets : List mm_E := [(0, .aload_n 0, 0), (1, .getfield 10, 0), (4, .invokevirtual 55, 0), (7, .ireturn, 0)]
theorem kkX3_streets : mm_chk cX3_streets kdX3_streets = true := by decide +kernel
def kdX3_end : List mm_E := [(0, .aload_n 0, 0), (1, .iload_n 1, 0), (2, .invokevirtual 76, 0), (5, .iload_n 2, 0), (6, .ifCond .eq 14, 20), (9, .aload_n 0, 0), (10, .getfield 10, 0), (13, .iload_n 1, 0), (14, .invokevirtual 105, 0), (17, .goto 11, 28), (20, .aload_n 0, 0), (21, .getfield 10, 0), (24, .iload_n 1, 0), (25, .invokevirtual 108, 0), (28, .ireturn, 0)]
theorem kkX3_end : mm_chk cX3_end kdX3_end = true := by decide +kernel
def kdX3_ways : List mm_E := [(0, .aload_n 0, 0), (1, .iload_n 1, 0), (2, .invokevirtual 36, 0), (5, .iload_n 2, 0), (6, .iconst 0, 0), (7, .iconst 2, 0), (8, .invokestatic 59, 0), (11, .iload_n 2, 0), (12, .iconst 1, 0), (13, .if_icmp .ne 12, 25), (16, .aload_n 0, 0), (17, .getfield 10, 0), (20, .iload_n 1, 0), (21, .invokevirtual 111, 0), (24, .ireturn, 0), (25, .iload_n 2, 0), (26, .iconst 2, 0), (27, .if_icmp .ne 14, 41), (30, .aload_n 0, 0), (31, .getfield 10, 0), (34, .iload_n 1, 0), (35, .invokevirtual 114, 0), (38, .goto 20, 58), (41, .aload_n 0, 0), (42, .getfield 10, 0), (45, .iload_n 1, 0), (46, .invokevirtual 111, 0), (49, .aload_n 0, 0), (50, .getfield 10, 0), (53, .iload_n 1, 0), (54, .invokevirtual 114, 0), (57, .iadd, 0), (58, .ireturn, 0)]
theorem kkX3_ways : mm_chk cX3_ways kdX3_ways = true := by decide +kernel
def kdX3_odd : List mm_E := [(0, .aload_n 0, 0), (1, .getfield 10, 0), (4, .aload_n 0, 0), (5, .getfield 10, 0), (8, .invokevirtual 117, 0), (11, .invokevirtual 120, 0), (14, .ireturn, 0)]
theorem kkX3_odd : mm_chk cX3_odd kdX3_odd = true := by decide +kernel
def kdX3_hangs : List mm_E := [(0, .aload_n 0, 0), (1, .getfield 10, 0), (4, .aload_n 0, 0), (5, .getfield 10, 0), (8, .invokevirtual 117, 0), (11, .invokevirtual 123, 0), (14, .ireturn, 0)]
theorem kkX3_hangs : mm_chk cX3_hangs kdX3_hangs = true := by decide +kernel
def kdX3_kind : List mm_E := [(0, .aload_n 0, 0), (1, .invokevirtual 126, 0), (4, .ifCond .eq 12, 16), (7, .aload_n 0, 0), (8, .invokevirtual 129, 0), (11, .ifCond .ne 5, 16), (14, .iconst 2, 0), (15, .ireturn, 0), (16, .aload_n 0, 0), (17, .getfield 10, 0), (20, .invokevirtual 132, 0), (23, .ifCond .lt 7, 30), (26, .iconst 1, 0), (27, .goto 4, 31), (30, .iconst 0, 0), (31, .ireturn, 0)]
theorem kkX3_kind : mm_chk cX3_kind kdX3_kind = true := by decide +kernel
def kdX3_isStart : List mm_E := [(0, .aload_n 0, 0), (1, .iload_n 1, 0), (2, .invokevirtual 36, 0), (5, .aload_n 0, 0), (6, .getfield 10, 0), (9, .aload_n 0, 0), (10, .getfield 10, 0), (13, .invokevirtual 117, 0), (16, .iload_n 1, 0), (17, .invokevirtual 135, 0), (20, .ireturn, 0)]
theorem kkX3_isStart : mm_chk cX3_isStart kdX3_isStart = true := by decide +kernel
def kdX3_rule : List mm_E := [(0, .iload_n 1, 0), (1, .iconst 0, 0), (2, .iconst 2, 0), (3, .invokestatic 59, 0), (6, .iload_n 1, 0), (7, .iconst 2, 0), (8, .if_icmp .ne 19, 27), (11, .aload_n 0, 0), (12, .getfield 10, 0), (15, .invokevirtual 92, 0), (18, .ifCond .eq 7, 25), (21, .iconst 1, 0), (22, .goto 4, 26), (25, .iconst 0, 0), (26, .ireturn, 0), (27, .iload_n 1, 0), (28, .ifCond .ne 13, 41), (31, .aload_n 0, 0), (32, .getfield 10, 0), (35, .invokevirtual 139, 0), (38, .goto 10, 48), (41, .aload_n 0, 0), (42, .getfield 10, 0), (45, .invokevirtual 142, 0), (48, .ireturn, 0)]
theorem kkX3_rule : mm_chk cX3_rule kdX3_rule = true := by decide +kernel
def kdX3_begin : List mm_E := [(0, .aload_n 0, 0), (1, .iload_n 1, 0), (2, .invokevirtual 145, 0), (5, .astore_n 3, 0), (6, .aload_n 0, 0), (7, .iload_n 2, 0), (8, .invokevirtual 36, 0), (11, .aload_n 3, 0), (12, .invokevirtual 149, 0), (15, .istore 4, 0), (17, .aload_n 3, 0), (18, .iload_n 2, 0), (19, .invokevirtual 150, 0), (22, .iload 4, 0), (24, .ifCond .le 11, 35), (27, .aload_n 0, 0), (28, .getfield 32, 0), (31, .aload_n 3, 0), (32, .invokevirtual 153, 0), (35, .aload_n 0, 0), (36, .iload 4, 0), (38, .invokevirtual 44, 0), (41, .ireturn, 0)]
theorem kkX3_begin : mm_chk cX3_begin kdX3_begin = true := by decide +kernel
def kdX3_step : List mm_E := [(0, .aload_n 0, 0), (1, .iload_n 1, 0), (2, .invokevirtual 145, 0), (5, .astore 4, 0), (7, .aload_n 0, 0), (8, .iload_n 2, 0), (9, .invokevirtual 76, 0), (12, .aload_n 0, 0), (13, .aload 4, 0), (15, .aload 4, 0), (17, .iload_n 2, 0), (18, .iload_n 3, 0), (19, .invokevirtual 157, 0), (22, .invokevirtual 161, 0), (25, .ireturn, 0)]
theorem kkX3_step : mm_chk cX3_step kdX3_step = true := by decide +kernel
def kdX3_back : List mm_E := [(0, .aload_n 0, 0), (1, .iload_n 1, 0), (2, .invokevirtual 145, 0), (5, .astore_n 3, 0), (6, .aload_n 0, 0), (7, .aload_n 3, 0), (8, .aload_n 3, 0), (9, .iload_n 2, 0), (10, .invokevirtual 165, 0), (13, .invokevirtual 161, 0), (16, .ireturn, 0)]
theorem kkX3_back : mm_chk cX3_back kdX3_back = true := by decide +kernel
def kdX3_on : List mm_E := [(0, .aload_n 0, 0), (1, .iload_n 1, 0), (2, .invokevirtual 145, 0), (5, .astore_n 3, 0), (6, .aload_n 0, 0), (7, .aload_n 3, 0), (8, .aload_n 3, 0), (9, .aload_n 3, 0), (10, .invokevirtual 149, 0), (13, .iload_n 2, 0), (14, .invokevirtual 169, 0), (17, .invokevirtual 172, 0), (20, .ireturn, 0)]
theorem kkX3_on : mm_chk cX3_on kdX3_on = true := by decide +kernel
def kdX3_complete : List mm_E := [(0, .aload_n 0, 0), (1, .iload_n 1, 0), (2, .invokevirtual 145, 0), (5, .astore_n 3, 0), (6, .aload_n 0, 0), (7, .getfield 10, 0), (10, .aload_n 0, 0), (11, .getfield 10, 0), (14, .invokevirtual 117, 0), (17, .aload_n 3, 0), (18, .invokevirtual 175, 0), (21, .invokevirtual 135, 0), (24, .ifCond .ne 10, 34), (27, .aload_n 0, 0), (28, .bipush (-9), 0), (30, .invokevirtual 44, 0), (33, .ireturn, 0), (34, .aload_n 0, 0), (35, .aload_n 3, 0), (36, .aload_n 3, 0), (37, .iload_n 2, 0), (38, .invokevirtual 178, 0), (41, .invokevirtual 172, 0), (44, .ireturn, 0)]
theorem kkX3_complete : mm_chk cX3_complete kdX3_complete = true := by decide +kernel
def kdX3_splice : List mm_E := [(0, .aload_n 0, 0), (1, .iload_n 1, 0), (2, .invokevirtual 145, 0), (5, .astore 4, 0), (7, .aload_n 0, 0), (8, .iload_n 2, 0), (9, .invokevirtual 145, 0), (12, .astore 5, 0), (14, .iload_n 3, 0), (15, .aload 4, 0), (17, .invokevirtual 149, 0), (20, .invokestatic 181, 0), (23, .aload 4, 0), (25, .aload 5, 0), (27, .invokevirtual 184, 0), (30, .ifCond .eq 17, 47), (33, .aload 5, 0), (35, .invokevirtual 175, 0), (38, .aload 4, 0), (40, .iload_n 3, 0), (41, .invokevirtual 188, 0), (44, .if_icmp .eq 10, 54), (47, .aload_n 0, 0), (48, .bipush (-9), 0), (50, .invokevirtual 44, 0), (53, .ireturn, 0), (54, .aload 4, 0), (56, .aload 5, 0), (58, .iload_n 3, 0), (59, .invokevirtual 191, 0), (62, .aload_n 0, 0), (63, .getfield 32, 0), (66, .aload 5, 0), (68, .invokevirtual 153, 0), (71, .aload_n 0, 0), (72, .aload 4, 0), (74, .aload 4, 0), (76, .invokevirtual 149, 0), (79, .invokevirtual 161, 0), (82, .ireturn, 0)]
theorem kkX3_splice : mm_chk cX3_splice kdX3_splice = true := by decide +kernel
def kdX3_join : List mm_E := [(0, .aload_n 0, 0), (1, .iload_n 1, 0), (2, .invokevirtual 145, 0), (5, .astore_n 3, 0), (6, .aload_n 0, 0), (7, .iload_n 2, 0), (8, .invokevirtual 145, 0), (11, .astore 4, 0), (13, .aload_n 3, 0), (14, .aload 4, 0), (16, .invokevirtual 184, 0), (19, .ifCond .eq 12, 31), (22, .aload_n 3, 0), (23, .aload 4, 0), (25, .invokevirtual 195, 0), (28, .goto 4, 32), (31, .iconst (-1), 0), (32, .istore 5, 0), (34, .iload 5, 0), (36, .ifCond .ge 10, 46), (39, .aload_n 0, 0), (40, .bipush (-9), 0), (42, .invokevirtual 44, 0), (45, .ireturn, 0), (46, .aload 4, 0), (48, .aload 4, 0), (50, .aload_n 3, 0), (51, .iload 5, 0), (53, .invokevirtual 188, 0), (56, .invokevirtual 199, 0), (59, .invokevirtual 202, 0), (62, .aload_n 3, 0), (63, .aload 4, 0), (65, .iload 5, 0), (67, .invokevirtual 191, 0), (70, .aload_n 0, 0), (71, .getfield 32, 0), (74, .aload 4, 0), (76, .invokevirtual 153, 0), (79, .aload_n 0, 0), (80, .aload_n 3, 0), (81, .iload 5, 0), (83, .invokevirtual 161, 0), (86, .ireturn, 0)]
theorem kkX3_join : mm_chk cX3_join kdX3_join = true := by decide +kernel
def kdX3_cut : List mm_E := [(0, .aload_n 0, 0), (1, .iload_n 1, 0), (2, .invokevirtual 145, 0), (5, .astore 5, 0), (7, .aload_n 0, 0), (8, .iload 4, 0), (10, .invokevirtual 145, 0), (13, .astore 6, 0), (15, .iload_n 2, 0), (16, .aload 5, 0), (18, .invokevirtual 149, 0), (21, .invokestatic 181, 0), (24, .iload_n 3, 0), (25, .aload 5, 0), (27, .invokevirtual 149, 0), (30, .invokestatic 181, 0), (33, .aload 5, 0), (35, .aload 6, 0), (37, .if_acmp .eq 23, 60), (40, .iload_n 2, 0), (41, .iload_n 3, 0), (42, .if_icmp .ge 18, 60), (45, .aload 5, 0), (47, .iload_n 2, 0), (48, .invokevirtual 188, 0), (51, .aload 5, 0), (53, .iload_n 3, 0), (54, .invokevirtual 188, 0), (57, .if_icmp .eq 10, 67), (60, .aload_n 0, 0), (61, .bipush (-9), 0), (63, .invokevirtual 44, 0), (66, .ireturn, 0), (67, .aload 5, 0), (69, .iload_n 2, 0), (70, .iload_n 3, 0), (71, .aload 6, 0), (73, .invokevirtual 205, 0), (76, .aload_n 0, 0), (77, .getfield 32, 0), (80, .aload 6, 0), (82, .invokevirtual 153, 0), (85, .aload_n 0, 0), (86, .aload 5, 0), (88, .iload_n 3, 0), (89, .iload_n 2, 0), (90, .isub, 0), (91, .invokevirtual 161, 0), (94, .ireturn, 0)]
theorem kkX3_cut : mm_chk cX3_cut kdX3_cut = true := by decide +kernel
def kdX3_turnRound : List mm_E := [(0, .aload_n 0, 0), (1, .iload_n 1, 0), (2, .invokevirtual 145, 0), (5, .astore_n 2, 0), (6, .aload_n 0, 0), (7, .getfield 10, 0), (10, .invokevirtual 92, 0), (13, .ifCond .eq 10, 23), (16, .aload_n 0, 0), (17, .bipush (-9), 0), (19, .invokevirtual 44, 0), (22, .ireturn, 0), (23, .aload_n 2, 0), (24, .invokevirtual 99, 0), (27, .aload_n 2, 0), (28, .invokevirtual 209, 0), (31, .aload_n 0, 0), (32, .aload_n 2, 0), (33, .invokevirtual 175, 0), (36, .invokevirtual 44, 0), (39, .ireturn, 0)]
theorem kkX3_turnRound : mm_chk cX3_turnRound kdX3_turnRound = true := by decide +kernel
def kdX3_rotate : List mm_E := [(0, .aload_n 0, 0), (1, .iload_n 1, 0), (2, .invokevirtual 145, 0), (5, .astore_n 3, 0), (6, .iload_n 2, 0), (7, .iconst 0, 0), (8, .bipush 30, 0), (10, .invokestatic 59, 0), (13, .aload_n 3, 0), (14, .invokevirtual 212, 0), (17, .ifCond .ne 10, 27), (20, .aload_n 0, 0), (21, .bipush (-9), 0), (23, .invokevirtual 44, 0), (26, .ireturn, 0), (27, .aload_n 3, 0), (28, .iload_n 2, 0), (29, .invokevirtual 202, 0), (32, .iload_n 2, 0), (33, .ifCond .le 18, 51), (36, .aload_n 3, 0), (37, .invokevirtual 149, 0), (40, .ifCond .le 11, 51), (43, .aload_n 0, 0), (44, .getfield 32, 0), (47, .aload_n 3, 0), (48, .invokevirtual 153, 0), (51, .aload_n 0, 0), (52, .aload_n 3, 0), (53, .invokevirtual 175, 0), (56, .invokevirtual 44, 0), (59, .ireturn, 0)]
theorem kkX3_rotate : mm_chk cX3_rotate kdX3_rotate = true := by decide +kernel
def kdX3_first : List mm_E := [(0, .aload_n 0, 0), (1, .iload_n 1, 0), (2, .invokevirtual 145, 0), (5, .astore 4, 0), (7, .aload_n 0, 0), (8, .iload_n 2, 0), (9, .invokevirtual 36, 0), (12, .aload_n 0, 0), (13, .getfield 10, 0), (16, .aload_n 0, 0), (17, .getfield 10, 0), (20, .invokevirtual 117, 0), (23, .iload_n 2, 0), (24, .invokevirtual 135, 0), (27, .ifCond .ne 10, 37), (30, .aload_n 0, 0), (31, .bipush (-9), 0), (33, .invokevirtual 44, 0), (36, .ireturn, 0), (37, .aload 4, 0), (39, .invokevirtual 149, 0), (42, .istore 5, 0), (44, .aload 4, 0), (46, .iload_n 2, 0), (47, .invokevirtual 150, 0), (50, .aload 4, 0), (52, .iload_n 3, 0), (53, .invokevirtual 215, 0), (56, .iload 5, 0), (58, .ifCond .gt 11, 69), (61, .aload 4, 0), (63, .invokevirtual 149, 0), (66, .ifCond .le 12, 78), (69, .aload_n 0, 0), (70, .getfield 32, 0), (73, .aload 4, 0), (75, .invokevirtual 153, 0), (78, .aload_n 0, 0), (79, .aload 4, 0), (81, .invokevirtual 149, 0), (84, .invokevirtual 44, 0), (87, .ireturn, 0)]
theorem kkX3_first : mm_chk cX3_first kdX3_first = true := by decide +kernel
def kdX3_next : List mm_E := [(0, .aload_n 0, 0), (1, .iload_n 1, 0), (2, .invokevirtual 145, 0), (5, .astore_n 3, 0), (6, .aload_n 3, 0), (7, .invokevirtual 218, 0), (10, .ifCond .ne 10, 20), (13, .aload_n 0, 0), (14, .bipush (-9), 0), (16, .invokevirtual 44, 0), (19, .ireturn, 0), (20, .aload_n 0, 0), (21, .getfield 25, 0), (24, .aload_n 3, 0), (25, .invokevirtual 221, 0), (28, .aload_n 0, 0), (29, .getfield 25, 0), (32, .iload_n 2, 0), (33, .invokevirtual 224, 0), (36, .istore 4, 0), (38, .iload 4, 0), (40, .ifCond .ge 10, 50), (43, .aload_n 0, 0), (44, .bipush (-9), 0), (46, .invokevirtual 44, 0), (49, .ireturn, 0), (50, .aload_n 3, 0), (51, .aload_n 0, 0), (52, .getfield 25, 0), (55, .invokevirtual 221, 0), (58, .aload_n 0, 0), (59, .aload_n 3, 0), (60, .iload 4, 0), (62, .invokevirtual 161, 0), (65, .ireturn, 0)]
theorem kkX3_next : mm_chk cX3_next kdX3_next = true := by decide +kernel
def kdX3_copy : List mm_E := [(0, .aload_n 0, 0), (1, .iload_n 1, 0), (2, .invokevirtual 145, 0), (5, .astore_n 3, 0), (6, .aload_n 0, 0), (7, .iload_n 2, 0), (8, .invokevirtual 145, 0), (11, .astore 4, 0), (13, .aload_n 3, 0), (14, .aload 4, 0), (16, .if_acmp .ne 10, 26), (19, .aload_n 0, 0), (20, .bipush (-9), 0), (22, .invokevirtual 44, 0), (25, .ireturn, 0), (26, .aload_n 3, 0), (27, .invokevirtual 149, 0), (30, .ifCond .gt 11, 41), (33, .aload 4, 0), (35, .invokevirtual 149, 0), (38, .ifCond .le 12, 50), (41, .aload_n 0, 0), (42, .getfield 32, 0), (45, .aload 4, 0), (47, .invokevirtual 153, 0), (50, .aload 4, 0), (52, .aload_n 3, 0), (53, .invokevirtual 221, 0), (56, .aload_n 0, 0), (57, .aload 4, 0), (59, .invokevirtual 149, 0), (62, .invokevirtual 44, 0), (65, .ireturn, 0)]
theorem kkX3_copy : mm_chk cX3_copy kdX3_copy = true := by decide +kernel
def kdX3_length : List mm_E := [(0, .aload_n 0, 0), (1, .iload_n 1, 0), (2, .invokevirtual 145, 0), (5, .invokevirtual 149, 0), (8, .ireturn, 0)]
theorem kkX3_length : mm_chk cX3_length kdX3_length = true := by decide +kernel
def kdX3_cornerAt : List mm_E := [(0, .aload_n 0, 0), (1, .iload_n 1, 0), (2, .invokevirtual 145, 0), (5, .astore_n 3, 0), (6, .iload_n 2, 0), (7, .aload_n 3, 0), (8, .invokevirtual 149, 0), (11, .invokestatic 181, 0), (14, .aload_n 3, 0), (15, .iload_n 2, 0), (16, .invokevirtual 188, 0), (19, .ireturn, 0)]
theorem kkX3_cornerAt : mm_chk cX3_cornerAt kdX3_cornerAt = true := by decide +kernel
def kdX3_stepAt : List mm_E := [(0, .aload_n 0, 0), (1, .iload_n 1, 0), (2, .invokevirtual 145, 0), (5, .astore_n 3, 0), (6, .iload_n 2, 0), (7, .aload_n 3, 0), (8, .invokevirtual 149, 0), (11, .iconst 1, 0), (12, .isub, 0), (13, .invokestatic 181, 0), (16, .aload_n 3, 0), (17, .iload_n 2, 0), (18, .invokevirtual 227, 0), (21, .ireturn, 0)]
theorem kkX3_stepAt : mm_chk cX3_stepAt kdX3_stepAt = true := by decide +kernel
def kdX3_find : List mm_E := [(0, .aload_n 0, 0), (1, .iload_n 1, 0), (2, .invokevirtual 145, 0), (5, .astore_n 3, 0), (6, .aload_n 0, 0), (7, .iload_n 2, 0), (8, .invokevirtual 76, 0), (11, .aload_n 3, 0), (12, .iload_n 2, 0), (13, .invokevirtual 79, 0), (16, .ireturn, 0)]
theorem kkX3_find : mm_chk cX3_find kdX3_find = true := by decide +kernel
def kdX3_is : List mm_E := [(0, .aload_n 0, 0), (1, .iload_n 1, 0), (2, .invokevirtual 145, 0), (5, .astore_n 3, 0), (6, .iload_n 2, 0), (7, .ifCond .eq 10, 17), (10, .aload_n 3, 0), (11, .invokevirtual 218, 0), (14, .goto 7, 21), (17, .aload_n 3, 0), (18, .invokevirtual 212, 0), (21, .ireturn, 0)]
theorem kkX3_is : mm_chk cX3_is kdX3_is = true := by decide +kernel
def kdX3_same : List mm_E := [(0, .aload_n 0, 0), (1, .iload_n 1, 0), (2, .invokevirtual 145, 0), (5, .astore_n 3, 0), (6, .aload_n 0, 0), (7, .iload_n 2, 0), (8, .invokevirtual 145, 0), (11, .astore 4, 0), (13, .aload_n 3, 0), (14, .aload 4, 0), (16, .iconst 0, 0), (17, .invokevirtual 230, 0), (20, .ireturn, 0)]
theorem kkX3_same : mm_chk cX3_same kdX3_same = true := by decide +kernel
def kdX3_turnOf : List mm_E := [(0, .aload_n 0, 0), (1, .iload_n 1, 0), (2, .invokevirtual 145, 0), (5, .astore_n 3, 0), (6, .aload_n 0, 0), (7, .iload_n 2, 0), (8, .invokevirtual 145, 0), (11, .astore 4, 0), (13, .aload_n 3, 0), (14, .aload 4, 0), (16, .invokevirtual 234, 0), (19, .ireturn, 0)]
theorem kkX3_turnOf : mm_chk cX3_turnOf kdX3_turnOf = true := by decide +kernel
def kdX3_text : List mm_E := [(0, .aload_n 0, 0), (1, .iload_n 1, 0), (2, .invokevirtual 145, 0), (5, .astore_n 3, 0), (6, .iload_n 2, 0), (7, .iconst 0, 0), (8, .iconst 2, 0), (9, .invokestatic 59, 0), (12, .iload_n 2, 0), (13, .iconst 2, 0), (14, .if_icmp .ne 16, 30), (17, .aload_n 0, 0), (18, .getfield 10, 0), (21, .invokevirtual 237, 0), (24, .ifCond .ne 6, 30), (27, .ldc 240, 0), (29, .areturn, 0), (30, .iload_n 2, 0), (31, .ifCond .ne 12, 43), (34, .aload_n 3, 0), (35, .invokevirtual 149, 0), (38, .iconst 1, 0), (39, .iadd, 0), (40, .goto 7, 47), (43, .aload_n 3, 0), (44, .invokevirtual 149, 0), (47, .istore 4, 0), (49, .new 242, 0), (52, .dup, 0), (53, .invokespecial 244, 0), (56, .astore 5, 0), (58, .iconst 0, 0), (59, .istore 6, 0), (61, .iload 6, 0), (63, .iload 4, 0), (65, .if_icmp .ge 36, 101), (68, .iload 6, 0), (70, .ifCond .le 11, 81), (73, .aload 5, 0), (75, .bipush 45, 0), (77, .invokevirtual 245, 0), (80, .pop, 0), (81, .aload 5, 0), (83, .aload_n 0, 0), (84, .aload_n 3, 0), (85, .iload 6, 0), (87, .iload_n 2, 0), (88, .invokevirtual 249, 0), (91, .invokevirtual 253, 0), (94, .pop, 0), (95, .iinc 6 1, 0), (98, .goto (-37), 61), (101, .aload 5, 0), (103, .invokevirtual 256, 0), (106, .areturn, 0)]
theorem kkX3_text : mm_chk cX3_text kdX3_text = true := by decide +kernel
def kdX3_wordAt : List mm_E := [(0, .aload_n 0, 0), (1, .iload_n 1, 0), (2, .invokevirtual 145, 0), (5, .astore 4, 0), (7, .iload_n 2, 0), (8, .iconst 0, 0), (9, .bipush 29, 0), (11, .invokestatic 59, 0), (14, .iload_n 3, 0), (15, .iconst 0, 0), (16, .bipush 29, 0), (18, .invokestatic 59, 0), (21, .aload 4, 0), (23, .iload_n 2, 0), (24, .iload_n 3, 0), (25, .invokevirtual 260, 0), (28, .ireturn, 0)]
theorem kkX3_wordAt : mm_chk cX3_wordAt kdX3_wordAt = true := by decide +kernel
def kdX3_cursor : List mm_E := [(0, .aload_n 0, 0), (1, .iload_n 1, 0), (2, .invokevirtual 145, 0), (5, .astore_n 3, 0), (6, .iload_n 2, 0), (7, .aload_n 3, 0), (8, .invokevirtual 149, 0), (11, .invokestatic 181, 0), (14, .aload_n 0, 0), (15, .getfield 32, 0), (18, .aload_n 3, 0), (19, .iload_n 2, 0), (20, .invokevirtual 263, 0), (23, .aload_n 0, 0), (24, .aload_n 3, 0), (25, .iload_n 2, 0), (26, .invokevirtual 188, 0), (29, .invokevirtual 44, 0), (32, .ireturn, 0)]
theorem kkX3_cursor : mm_chk cX3_cursor kdX3_cursor = true := by decide +kernel
def kdX3_cursorGo : List mm_E := [(0, .aload_n 0, 0), (1, .aload_n 0, 0), (2, .getfield 32, 0), (5, .iload_n 1, 0), (6, .invokevirtual 266, 0), (9, .invokevirtual 44, 0), (12, .ireturn, 0)]
theorem kkX3_cursorGo : mm_chk cX3_cursorGo kdX3_cursorGo = true := by decide +kernel
def kdX3_cursorSet : List mm_E := [(0, .aload_n 0, 0), (1, .iload_n 1, 0), (2, .invokevirtual 76, 0), (5, .aload_n 0, 0), (6, .aload_n 0, 0), (7, .getfield 32, 0), (10, .iload_n 1, 0), (11, .invokevirtual 269, 0), (14, .invokevirtual 44, 0), (17, .ireturn, 0)]
theorem kkX3_cursorSet : mm_chk cX3_cursorSet kdX3_cursorSet = true := by decide +kernel
def kdX3_cursorAdd : List mm_E := [(0, .aload_n 0, 0), (1, .iload_n 1, 0), (2, .invokevirtual 76, 0), (5, .aload_n 0, 0), (6, .aload_n 0, 0), (7, .getfield 32, 0), (10, .iload_n 1, 0), (11, .invokevirtual 272, 0), (14, .invokevirtual 44, 0), (17, .ireturn, 0)]
theorem kkX3_cursorAdd : mm_chk cX3_cursorAdd kdX3_cursorAdd = true := by decide +kernel
def kdX3_cursorRemove : List mm_E := [(0, .aload_n 0, 0), (1, .aload_n 0, 0), (2, .getfield 32, 0), (5, .invokevirtual 275, 0), (8, .invokevirtual 44, 0), (11, .ireturn, 0)]
theorem kkX3_cursorRemove : mm_chk cX3_cursorRemove kdX3_cursorRemove = true := by decide +kernel
def kdX3_cursorCan : List mm_E := [(0, .aload_n 0, 0), (1, .getfield 32, 0), (4, .iload_n 1, 0), (5, .invokevirtual 278, 0), (8, .ireturn, 0)]
theorem kkX3_cursorCan : mm_chk cX3_cursorCan kdX3_cursorCan = true := by decide +kernel
def kdX3_cursorPlace : List mm_E := [(0, .aload_n 0, 0), (1, .getfield 32, 0), (4, .iload_n 1, 0), (5, .invokevirtual 282, 0), (8, .ireturn, 0)]
theorem kkX3_cursorPlace : mm_chk cX3_cursorPlace kdX3_cursorPlace = true := by decide +kernel
def kdX3_house : List mm_E := [(0, .iload_n 1, 0), (1, .iconst 0, 0), (2, .iconst 2, 0), (3, .invokestatic 59, 0), (6, .iload_n 1, 0), (7, .ifCond .ne 8, 15), (10, .aload_n 0, 0), (11, .getfield 285, 0), (14, .ireturn, 0), (15, .iload_n 1, 0), (16, .iconst 1, 0), (17, .if_icmp .ne 10, 27), (20, .aload_n 0, 0), (21, .getfield 289, 0), (24, .goto 7, 31), (27, .aload_n 0, 0), (28, .getfield 292, 0), (31, .ireturn, 0)]
theorem kkX3_house : mm_chk cX3_house kdX3_house = true := by decide +kernel
def kdX3_knock : List mm_E := [(0, .aload_n 0, 0), (1, .dup, 0), (2, .getfield 292, 0), (5, .iconst 1, 0), (6, .iadd, 0), (7, .putfield 292, 0), (10, .aload_n 0, 0), (11, .getfield 292, 0), (14, .ireturn, 0)]
theorem kkX3_knock : mm_chk cX3_knock kdX3_knock = true := by decide +kernel
def kdX3_isSound : List mm_E := [(0, .iconst 0, 0), (1, .istore_n 1, 0), (2, .iload_n 1, 0), (3, .aload_n 0, 0), (4, .getfield 18, 0), (7, .arraylength, 0), (8, .if_icmp .ge 23, 31), (11, .aload_n 0, 0), (12, .getfield 18, 0), (15, .iload_n 1, 0), (16, .aaload, 0), (17, .invokevirtual 295, 0), (20, .ifCond .ne 5, 25), (23, .iconst 0, 0), (24, .ireturn, 0), (25, .iinc 1 1, 0), (28, .goto (-26), 2), (31, .aload_n 0, 0), (32, .invokevirtual 298, 0), (35, .istore_n 1, 0), (36, .aload_n 0, 0), (37, .getfield 10, 0), (40, .invokevirtual 132, 0), (43, .istore_n 2, 0), (44, .aload_n 0, 0), (45, .getfield 10, 0), (48, .invokevirtual 301, 0), (51, .ifCond .eq 24, 75), (54, .iload_n 1, 0), (55, .ifCond .le 7, 62), (58, .iconst 1, 0), (59, .goto 4, 63), (62, .iconst 0, 0), (63, .iload_n 2, 0), (64, .ifCond .lt 7, 71), (67, .iconst 1, 0), (68, .goto 4, 72), (71, .iconst 0, 0), (72, .if_icmp .eq 5, 77), (75, .iconst 0, 0), (76, .ireturn, 0), (77, .iload_n 2, 0), (78, .ifCond .ge 5, 83), (81, .iconst 1, 0), (82, .ireturn, 0), (83, .aload_n 0, 0), (84, .getfield 25, 0), (87, .iload_n 2, 0), (88, .invokevirtual 150, 0), (91, .aload_n 0, 0), (92, .getfield 25, 0), (95, .iconst 1, 0), (96, .invokevirtual 178, 0), (99, .pop, 0), (100, .aload_n 0, 0), (101, .getfield 25, 0), (104, .invokevirtual 218, 0), (107, .ifCond .eq 38, 145), (110, .aload_n 0, 0), (111, .getfield 25, 0), (114, .invokevirtual 212, 0), (117, .iload_n 1, 0), (118, .iconst 2, 0), (119, .if_icmp .ne 7, 126), (122, .iconst 1, 0), (123, .goto 4, 127), (126, .iconst 0, 0), (127, .if_icmp .ne 18, 145), (130, .aload_n 0, 0), (131, .aload_n 0, 0), (132, .getfield 25, 0), (135, .invokevirtual 304, 0), (138, .ifCond .eq 7, 145), (141, .iconst 1, 0), (142, .goto 4, 146), (145, .iconst 0, 0), (146, .ireturn, 0)]
theorem kkX3_isSound : mm_chk cX3_isSound kdX3_isSound = true := by decide +kernel
def kdX3_digest : List mm_E := [(0, .aload_n 0, 0), (1, .ldc2_w 307, 0), (4, .invokevirtual 309, 0), (7, .lstore_n 1, 0), (8, .iconst 0, 0), (9, .istore_n 3, 0), (10, .iload_n 3, 0), (11, .aload_n 0, 0), (12, .getfield 18, 0), (15, .arraylength, 0), (16, .if_icmp .ge 16, 32), (19, .aload_n 0, 0), (20, .lload_n 1, 0), (21, .iload_n 3, 0), (22, .invokevirtual 313, 0), (25, .lstore_n 1, 0), (26, .iinc 3 1, 0), (29, .goto (-19), 10), (32, .lload_n 1, 0), (33, .aload_n 0, 0), (34, .iconst 1, 0), (35, .invokevirtual 317, 0), (38, .i2l, 0), (39, .invokestatic 320, 0), (42, .lstore_n 1, 0), (43, .lload_n 1, 0), (44, .aload_n 0, 0), (45, .iconst 0, 0), (46, .invokevirtual 317, 0), (49, .i2l, 0), (50, .invokestatic 320, 0), (53, .lstore_n 1, 0), (54, .lload_n 1, 0), (55, .aload_n 0, 0), (56, .iconst 1, 0), (57, .invokevirtual 324, 0), (60, .invokestatic 327, 0), (63, .i2l, 0), (64, .invokestatic 320, 0), (67, .lstore_n 1, 0), (68, .lload_n 1, 0), (69, .aload_n 0, 0), (70, .iconst 0, 0), (71, .invokevirtual 324, 0), (74, .invokestatic 327, 0), (77, .i2l, 0), (78, .invokestatic 320, 0), (81, .lstore_n 1, 0), (82, .lload_n 1, 0), (83, .aload_n 0, 0), (84, .getfield 285, 0), (87, .i2l, 0), (88, .invokestatic 320, 0), (91, .lstore_n 1, 0), (92, .lload_n 1, 0), (93, .aload_n 0, 0), (94, .getfield 289, 0), (97, .i2l, 0), (98, .invokestatic 320, 0), (101, .lstore_n 1, 0), (102, .lload_n 1, 0), (103, .aload_n 0, 0), (104, .getfield 292, 0), (107, .i2l, 0), (108, .invokestatic 320, 0), (111, .lstore_n 1, 0), (112, .lload_n 1, 0), (113, .aload_n 0, 0), (114, .invokevirtual 330, 0), (117, .invokestatic 327, 0), (120, .i2l, 0), (121, .invokestatic 320, 0), (124, .lreturn, 0)]
theorem kkX3_digest : mm_chk cX3_digest kdX3_digest = true := by decide +kernel
def kdX3_counted : List mm_E := [(0, .iload_n 1, 0), (1, .bipush (-9), 0), (3, .if_icmp .ne 16, 19), (6, .aload_n 0, 0), (7, .dup, 0), (8, .getfield 289, 0), (11, .iconst 1, 0), (12, .iadd, 0), (13, .putfield 289, 0), (16, .goto 13, 29), (19, .aload_n 0, 0), (20, .dup, 0), (21, .getfield 285, 0), (24, .iconst 1, 0), (25, .iadd, 0), (26, .putfield 285, 0), (29, .iload_n 1, 0), (30, .ireturn, 0)]
theorem kkX3_counted : mm_chk cX3_counted kdX3_counted = true := by decide +kernel
def kdX3_countedMove : List mm_E := [(0, .iload_n 2, 0), (1, .bipush (-9), 0), (3, .if_icmp .eq 11, 14), (6, .aload_n 0, 0), (7, .getfield 32, 0), (10, .aload_n 1, 0), (11, .invokevirtual 153, 0), (14, .aload_n 0, 0), (15, .iload_n 2, 0), (16, .invokevirtual 44, 0), (19, .ireturn, 0)]
theorem kkX3_countedMove : mm_chk cX3_countedMove kdX3_countedMove = true := by decide +kernel
def kdX3_countedGrowth : List mm_E := [(0, .iload_n 2, 0), (1, .ifCond .le 11, 12), (4, .aload_n 0, 0), (5, .getfield 32, 0), (8, .aload_n 1, 0), (9, .invokevirtual 153, 0), (12, .aload_n 0, 0), (13, .iload_n 2, 0), (14, .invokevirtual 44, 0), (17, .ireturn, 0)]
theorem kkX3_countedGrowth : mm_chk cX3_countedGrowth kdX3_countedGrowth = true := by decide +kernel
def kdX3_empty : List mm_E := [(0, .aload_n 0, 0), (1, .getfield 10, 0), (4, .invokevirtual 333, 0), (7, .iconst 0, 0), (8, .istore_n 1, 0), (9, .iload_n 1, 0), (10, .aload_n 0, 0), (11, .getfield 18, 0), (14, .arraylength, 0), (15, .if_icmp .ge 19, 34), (18, .aload_n 0, 0), (19, .getfield 18, 0), (22, .iload_n 1, 0), (23, .aaload, 0), (24, .iconst 0, 0), (25, .invokevirtual 150, 0), (28, .iinc 1 1, 0), (31, .goto (-22), 9), (34, .aload_n 0, 0), (35, .getfield 32, 0), (38, .invokevirtual 336, 0), (41, .return_, 0)]
theorem kkX3_empty : mm_chk cX3_empty kdX3_empty = true := by decide +kernel
def kdX3_anyIsBackward : List mm_E := [(0, .iconst 0, 0), (1, .istore_n 1, 0), (2, .iload_n 1, 0), (3, .aload_n 0, 0), (4, .getfield 18, 0), (7, .arraylength, 0), (8, .if_icmp .ge 23, 31), (11, .aload_n 0, 0), (12, .getfield 18, 0), (15, .iload_n 1, 0), (16, .aaload, 0), (17, .invokevirtual 339, 0), (20, .ifCond .eq 5, 25), (23, .iconst 1, 0), (24, .ireturn, 0), (25, .iinc 1 1, 0), (28, .goto (-26), 2), (31, .iconst 0, 0), (32, .ireturn, 0)]
theorem kkX3_anyIsBackward : mm_chk cX3_anyIsBackward kdX3_anyIsBackward = true := by decide +kernel
def kdX3_walkOf : List mm_E := [(0, .iload_n 1, 0), (1, .ifCond .lt 12, 13), (4, .iload_n 1, 0), (5, .aload_n 0, 0), (6, .getfield 18, 0), (9, .arraylength, 0), (10, .if_icmp .lt 14, 24), (13, .new 342, 0), (16, .dup, 0), (17, .ldc_w 344, 0), (20, .invokespecial 346, 0), (23, .athrow, 0), (24, .aload_n 0, 0), (25, .getfield 18, 0), (28, .iload_n 1, 0), (29, .aaload, 0), (30, .areturn, 0)]
theorem kkX3_walkOf : mm_chk cX3_walkOf kdX3_walkOf = true := by decide +kernel
def kdX3_checkCorner : List mm_E := [(0, .iload_n 1, 0), (1, .invokestatic 349, 0), (4, .ifCond .ne 14, 18), (7, .new 342, 0), (10, .dup, 0), (11, .ldc_w 352, 0), (14, .invokespecial 346, 0), (17, .athrow, 0), (18, .return_, 0)]
theorem kkX3_checkCorner : mm_chk cX3_checkCorner kdX3_checkCorner = true := by decide +kernel
def kdX3_checkStreet : List mm_E := [(0, .iload_n 1, 0), (1, .ifCond .lt 14, 15), (4, .iload_n 1, 0), (5, .aload_n 0, 0), (6, .getfield 10, 0), (9, .invokevirtual 55, 0), (12, .if_icmp .lt 14, 26), (15, .new 342, 0), (18, .dup, 0), (19, .ldc_w 354, 0), (22, .invokespecial 346, 0), (25, .athrow, 0), (26, .return_, 0)]
theorem kkX3_checkStreet : mm_chk cX3_checkStreet kdX3_checkStreet = true := by decide +kernel
def kdX3_checkIndex : List mm_E := [(0, .iload_n 0, 0), (1, .ifCond .lt 8, 9), (4, .iload_n 0, 0), (5, .iload_n 1, 0), (6, .if_icmp .le 14, 20), (9, .new 342, 0), (12, .dup, 0), (13, .ldc_w 356, 0), (16, .invokespecial 346, 0), (19, .athrow, 0), (20, .return_, 0)]
theorem kkX3_checkIndex : mm_chk cX3_checkIndex kdX3_checkIndex = true := by decide +kernel
def kdX3_checkRange : List mm_E := [(0, .iload_n 0, 0), (1, .iload_n 1, 0), (2, .if_icmp .lt 8, 10), (5, .iload_n 0, 0), (6, .iload_n 2, 0), (7, .if_icmp .le 14, 21), (10, .new 358, 0), (13, .dup, 0), (14, .ldc_w 360, 0), (17, .invokespecial 362, 0), (20, .athrow, 0), (21, .return_, 0)]
theorem kkX3_checkRange : mm_chk cX3_checkRange kdX3_checkRange = true := by decide +kernel
def kdX3_numberAt : List mm_E := [(0, .iload_n 3, 0), (1, .ifCond .ne 9, 10), (4, .aload_n 1, 0), (5, .iload_n 2, 0), (6, .invokevirtual 188, 0), (9, .ireturn, 0), (10, .aload_n 1, 0), (11, .iload_n 2, 0), (12, .invokevirtual 227, 0), (15, .iconst 1, 0), (16, .ishr, 0), (17, .istore 4, 0), (19, .iload_n 3, 0), (20, .iconst 1, 0), (21, .if_icmp .ne 8, 29), (24, .iload 4, 0), (26, .goto 12, 38), (29, .aload_n 0, 0), (30, .getfield 10, 0), (33, .iload 4, 0), (35, .invokevirtual 363, 0), (38, .ireturn, 0)]
theorem kkX3_numberAt : mm_chk cX3_numberAt kdX3_numberAt = true := by decide +kernel
def kdX3_hasEachWordOnce : List mm_E := [(0, .aload_n 0, 0), (1, .getfield 10, 0), (4, .invokevirtual 237, 0), (7, .ifCond .eq 13, 20), (10, .aload_n 0, 0), (11, .getfield 10, 0), (14, .invokevirtual 92, 0), (17, .ifCond .ne 5, 22), (20, .iconst 1, 0), (21, .ireturn, 0), (22, .iconst 0, 0), (23, .istore_n 2, 0), (24, .iload_n 2, 0), (25, .aload_n 0, 0), (26, .getfield 10, 0), (29, .invokevirtual 55, 0), (32, .if_icmp .ge 33, 65), (35, .aload_n 1, 0), (36, .iload_n 2, 0), (37, .iconst 0, 0), (38, .invokevirtual 260, 0), (41, .istore_n 3, 0), (42, .iload_n 3, 0), (43, .ifCond .lt 14, 57), (46, .aload_n 1, 0), (47, .iload_n 2, 0), (48, .iload_n 3, 0), (49, .iconst 1, 0), (50, .iadd, 0), (51, .invokevirtual 260, 0), (54, .ifCond .lt 5, 59), (57, .iconst 0, 0), (58, .ireturn, 0), (59, .iinc 2 1, 0), (62, .goto (-38), 24), (65, .iconst 1, 0), (66, .ireturn, 0)]
theorem kkX3_hasEachWordOnce : mm_chk cX3_hasEachWordOnce kdX3_hasEachWordOnce = true := by decide +kernel
def kdX3_digestOfTown : List mm_E := [(0, .lload_n 1, 0), (1, .aload_n 0, 0), (2, .getfield 10, 0), (5, .invokevirtual 55, 0), (8, .i2l, 0), (9, .invokestatic 320, 0), (12, .lstore_n 3, 0), (13, .iconst 0, 0), (14, .istore 5, 0), (16, .iload 5, 0), (18, .aload_n 0, 0), (19, .getfield 10, 0), (22, .invokevirtual 55, 0), (25, .if_icmp .ge 39, 64), (28, .lload_n 3, 0), (29, .aload_n 0, 0), (30, .getfield 10, 0), (33, .iload 5, 0), (35, .invokevirtual 108, 0), (38, .i2l, 0), (39, .invokestatic 320, 0), (42, .lstore_n 3, 0), (43, .lload_n 3, 0), (44, .aload_n 0, 0), (45, .getfield 10, 0), (48, .iload 5, 0), (50, .invokevirtual 105, 0), (53, .i2l, 0), (54, .invokestatic 320, 0), (57, .lstore_n 3, 0), (58, .iinc 5 1, 0), (61, .goto (-45), 16), (64, .iconst 0, 0), (65, .istore 5, 0), (67, .iload 5, 0), (69, .bipush 10, 0), (71, .if_icmp .ge 74, 145), (74, .lload_n 3, 0), (75, .aload_n 0, 0), (76, .getfield 10, 0), (79, .iload 5, 0), (81, .invokevirtual 111, 0), (84, .aload_n 0, 0), (85, .getfield 10, 0), (88, .iload 5, 0), (90, .invokevirtual 114, 0), (93, .iadd, 0), (94, .i2l, 0), (95, .invokestatic 320, 0), (98, .lstore_n 3, 0), (99, .lload_n 3, 0), (100, .aload_n 0, 0), (101, .getfield 10, 0), (104, .iload 5, 0), (106, .invokevirtual 111, 0), (109, .i2l, 0), (110, .invokestatic 320, 0), (113, .lstore_n 3, 0), (114, .lload_n 3, 0), (115, .aload_n 0, 0), (116, .getfield 10, 0), (119, .aload_n 0, 0), (120, .getfield 10, 0), (123, .invokevirtual 117, 0), (126, .iload 5, 0), (128, .invokevirtual 135, 0), (131, .invokestatic 327, 0), (134, .i2l, 0), (135, .invokestatic 320, 0), (138, .lstore_n 3, 0), (139, .iinc 5 1, 0), (142, .goto (-75), 67), (145, .lload_n 3, 0), (146, .aload_n 0, 0), (147, .invokevirtual 129, 0), (150, .i2l, 0), (151, .invokestatic 320, 0), (154, .lstore_n 3, 0), (155, .lload_n 3, 0), (156, .aload_n 0, 0), (157, .invokevirtual 126, 0), (160, .invokestatic 327, 0), (163, .i2l, 0), (164, .invokestatic 320, 0), (167, .lstore_n 3, 0), (168, .lload_n 3, 0), (169, .aload_n 0, 0), (170, .invokevirtual 298, 0), (173, .i2l, 0), (174, .invokestatic 320, 0), (177, .lstore_n 3, 0), (178, .lload_n 3, 0), (179, .aload_n 0, 0), (180, .getfield 10, 0), (183, .invokevirtual 139, 0), (186, .i2l, 0), (187, .invokestatic 320, 0), (190, .lstore_n 3, 0), (191, .lload_n 3, 0), (192, .aload_n 0, 0), (193, .getfield 10, 0), (196, .invokevirtual 142, 0), (199, .i2l, 0), (200, .invokestatic 320, 0), (203, .lstore_n 3, 0), (204, .lload_n 3, 0), (205, .aload_n 0, 0), (206, .getfield 10, 0), (209, .invokevirtual 92, 0), (212, .invokestatic 327, 0), (215, .i2l, 0), (216, .invokestatic 320, 0), (219, .lreturn, 0)]
theorem kkX3_digestOfTown : mm_chk cX3_digestOfTown kdX3_digestOfTown = true := by decide +kernel
def kdX3_digestOfWalk : List mm_E := [(0, .aload_n 0, 0), (1, .iload_n 3, 0), (2, .invokevirtual 145, 0), (5, .astore 4, 0), (7, .aload_n 0, 0), (8, .iload_n 3, 0), (9, .iconst 1, 0), (10, .iadd, 0), (11, .iconst 3, 0), (12, .if_icmp .ge 9, 21), (15, .iload_n 3, 0), (16, .iconst 1, 0), (17, .iadd, 0), (18, .goto 4, 22), (21, .iconst 0, 0), (22, .invokevirtual 145, 0), (25, .astore 5, 0), (27, .lload_n 1, 0), (28, .aload 4, 0), (30, .invokevirtual 149, 0), (33, .i2l, 0), (34, .invokestatic 320, 0), (37, .lstore 6, 0), (39, .lload 6, 0), (41, .aload 4, 0), (43, .invokevirtual 175, 0), (46, .i2l, 0), (47, .invokestatic 320, 0), (50, .lstore 6, 0), (52, .lload 6, 0), (54, .aload 4, 0), (56, .invokevirtual 366, 0), (59, .i2l, 0), (60, .invokestatic 320, 0), (63, .lstore 6, 0), (65, .iconst 0, 0), (66, .istore 8, 0), (68, .iload 8, 0), (70, .aload 4, 0), (72, .invokevirtual 149, 0), (75, .if_icmp .ge 24, 99), (78, .lload 6, 0), (80, .aload 4, 0), (82, .iload 8, 0), (84, .invokevirtual 227, 0), (87, .i2l, 0), (88, .invokestatic 320, 0), (91, .lstore 6, 0), (93, .iinc 8 1, 0), (96, .goto (-28), 68), (99, .lload 6, 0), (101, .aload 4, 0), (103, .invokevirtual 218, 0), (106, .invokestatic 327, 0), (109, .i2l, 0), (110, .invokestatic 320, 0), (113, .lstore 6, 0), (115, .lload 6, 0), (117, .aload 4, 0), (119, .aload 5, 0), (121, .invokevirtual 234, 0), (124, .i2l, 0), (125, .invokestatic 320, 0), (128, .lreturn, 0)]
theorem kkX3_digestOfWalk : mm_chk cX3_digestOfWalk kdX3_digestOfWalk = true := by decide +kernel
def kdX3_mixed : List mm_E := [(0, .lload_n 0, 0), (1, .ldc2_w 369, 0), (4, .lmul, 0), (5, .lload_n 2, 0), (6, .ladd, 0), (7, .lreturn, 0)]
theorem kkX3_mixed : mm_chk cX3_mixed kdX3_mixed = true := by decide +kernel
def kdX3_numberOf : List mm_E := [(0, .iload_n 0, 0), (1, .ifCond .eq 7, 8), (4, .iconst 1, 0), (5, .goto 4, 9), (8, .iconst 0, 0), (9, .ireturn, 0)]
theorem kkX3_numberOf : mm_chk cX3_numberOf kdX3_numberOf = true := by decide +kernel
def kdX3_powerOf : List mm_E := [(0, .iconst 1, 0), (1, .istore_n 2, 0), (2, .iconst 0, 0), (3, .istore_n 3, 0), (4, .iload_n 3, 0), (5, .iload_n 1, 0), (6, .if_icmp .ge 13, 19), (9, .iload_n 2, 0), (10, .iload_n 0, 0), (11, .imul, 0), (12, .istore_n 2, 0), (13, .iinc 3 1, 0), (16, .goto (-12), 4), (19, .iload_n 2, 0), (20, .ireturn, 0)]
theorem kkX3_powerOf : mm_chk cX3_powerOf kdX3_powerOf = true := by decide +kernel
def kdX4_init : List mm_E := [(0, .aload_n 0, 0), (1, .invokespecial 1, 0), (4, .return_, 0)]
theorem kkX4_init : mm_chk cX4_init kdX4_init = true := by decide +kernel
def kdX5_init : List mm_E := [(0, .aload_n 0, 0), (1, .invokespecial 1, 0), (4, .aload_n 0, 0), (5, .bipush 30, 0), (7, .newarray .int, 0), (9, .putfield 9, 0), (12, .aload_n 0, 0), (13, .bipush 30, 0), (15, .newarray .int, 0), (17, .putfield 13, 0), (20, .aload_n 0, 0), (21, .bipush 120, 0), (23, .newarray .int, 0), (25, .putfield 16, 0), (28, .aload_n 0, 0), (29, .iconst 4, 0), (30, .newarray .int, 0), (32, .putfield 19, 0), (35, .aload_n 0, 0), (36, .iconst 4, 0), (37, .newarray .int, 0), (39, .putfield 22, 0), (42, .aload_n 0, 0), (43, .iconst (-1), 0), (44, .putfield 25, 0), (47, .aload_n 0, 0), (48, .iconst (-1), 0), (49, .putfield 29, 0), (52, .return_, 0)]
theorem kkX5_init : mm_chk cX5_init kdX5_init = true := by decide +kernel
def kdX5_isIn : List mm_E := [(0, .iload_n 0, 0), (1, .iload_n 1, 0), (2, .if_icmp .lt 12, 14), (5, .iload_n 0, 0), (6, .iload_n 2, 0), (7, .if_icmp .gt 7, 14), (10, .iconst 1, 0), (11, .goto 4, 15), (14, .iconst 0, 0), (15, .ireturn, 0)]
theorem kkX5_isIn : mm_chk cX5_isIn kdX5_isIn = true := by decide +kernel
def kdX5_one : List mm_E := [(0, .iload_n 0, 0), (1, .ifCond .eq 7, 8), (4, .iconst 1, 0), (5, .goto 4, 9), (8, .iconst 0, 0), (9, .ireturn, 0)]
theorem kkX5_one : mm_chk cX5_one kdX5_one = true := by decide +kernel
def kdX5_refuse : List mm_E := [(0, .iload_n 1, 0), (1, .ifCond .eq 15, 16), (4, .aload_n 0, 0), (5, .getfield 32, 0), (8, .ifCond .ne 8, 16), (11, .aload_n 0, 0), (12, .iload_n 2, 0), (13, .putfield 32, 0), (16, .aload_n 0, 0), (17, .getfield 32, 0), (20, .ifCond .le 7, 27), (23, .iconst 1, 0), (24, .goto 4, 28), (27, .iconst 0, 0), (28, .ireturn, 0)]
theorem kkX5_refuse : mm_chk cX5_refuse kdX5_refuse = true := by decide +kernel
def kdX5_start : List mm_E := [(0, .aload_n 0, 0), (1, .iconst 0, 0), (2, .putfield 32, 0), (5, .aload_n 0, 0), (6, .iload_n 1, 0), (7, .iload_n 2, 0), (8, .invokevirtual 35, 0), (11, .ireturn, 0)]
theorem kkX5_start : mm_chk cX5_start kdX5_start = true := by decide +kernel
def kdX5_act : List mm_E := [(0, .aload_n 0, 0), (1, .dup, 0), (2, .getfield 39, 0), (5, .iconst 1, 0), (6, .iadd, 0), (7, .putfield 39, 0), (10, .iload_n 1, 0), (11, .ireturn, 0)]
theorem kkX5_act : mm_chk cX5_act kdX5_act = true := by decide +kernel
def kdX5_cannot : List mm_E := [(0, .aload_n 0, 0), (1, .dup, 0), (2, .getfield 42, 0), (5, .iconst 1, 0), (6, .iadd, 0), (7, .putfield 42, 0), (10, .bipush (-9), 0), (12, .ireturn, 0)]
theorem kkX5_cannot : mm_chk cX5_cannot kdX5_cannot = true := by decide +kernel
def kdX5_isNoCorner : List mm_E := [(0, .iload_n 1, 0), (1, .iconst 0, 0), (2, .bipush 9, 0), (4, .invokestatic 45, 0), (7, .ifCond .ne 7, 14), (10, .iconst 1, 0), (11, .goto 4, 15), (14, .iconst 0, 0), (15, .ireturn, 0)]
theorem kkX5_isNoCorner : mm_chk cX5_isNoCorner kdX5_isNoCorner = true := by decide +kernel
def kdX5_isNoStreet : List mm_E := [(0, .iload_n 1, 0), (1, .iconst 0, 0), (2, .aload_n 0, 0), (3, .getfield 49, 0), (6, .iconst 1, 0), (7, .isub, 0), (8, .invokestatic 45, 0), (11, .ifCond .ne 7, 18), (14, .iconst 1, 0), (15, .goto 4, 19), (18, .iconst 0, 0), (19, .ireturn, 0)]
theorem kkX5_isNoStreet : mm_chk cX5_isNoStreet kdX5_isNoStreet = true := by decide +kernel
def kdX5_isNoWalk : List mm_E := [(0, .iload_n 1, 0), (1, .iconst 0, 0), (2, .iconst 2, 0), (3, .invokestatic 45, 0), (6, .ifCond .ne 7, 13), (9, .iconst 1, 0), (10, .goto 4, 14), (13, .iconst 0, 0), (14, .ireturn, 0)]
theorem kkX5_isNoWalk : mm_chk cX5_isNoWalk kdX5_isNoWalk = true := by decide +kernel
def kdX5_all : List mm_E := [(0, .iconst 1, 0), (1, .aload_n 0, 0), (2, .getfield 49, 0), (5, .ishl, 0), (6, .iconst 1, 0), (7, .isub, 0), (8, .ireturn, 0)]
theorem kkX5_all : mm_chk cX5_all kdX5_all = true := by decide +kernel
def kdX5_has : List mm_E := [(0, .iload_n 0, 0), (1, .iload_n 1, 0), (2, .ishr, 0), (3, .iconst 1, 0), (4, .iand, 0), (5, .iconst 1, 0), (6, .if_icmp .ne 7, 13), (9, .iconst 1, 0), (10, .goto 4, 14), (13, .iconst 0, 0), (14, .ireturn, 0)]
theorem kkX5_has : mm_chk cX5_has kdX5_has = true := by decide +kernel
def kdX5_waysOf : List mm_E := [(0, .iconst 0, 0), (1, .istore 4, 0), (3, .iconst 0, 0), (4, .istore 5, 0), (6, .iconst 0, 0), (7, .istore 6, 0), (9, .iload 6, 0), (11, .aload_n 0, 0), (12, .getfield 49, 0), (15, .if_icmp .ge 69, 84), (18, .iload_n 1, 0), (19, .iload 6, 0), (21, .invokestatic 52, 0), (24, .ifCond .ne 6, 30), (27, .goto 51, 78), (30, .iload 4, 0), (32, .aload_n 0, 0), (33, .getfield 9, 0), (36, .iload 6, 0), (38, .iaload, 0), (39, .iload_n 2, 0), (40, .if_icmp .ne 7, 47), (43, .iconst 1, 0), (44, .goto 4, 48), (47, .iconst 0, 0), (48, .invokestatic 56, 0), (51, .iadd, 0), (52, .istore 4, 0), (54, .iload 5, 0), (56, .aload_n 0, 0), (57, .getfield 13, 0), (60, .iload 6, 0), (62, .iaload, 0), (63, .iload_n 2, 0), (64, .if_icmp .ne 7, 71), (67, .iconst 1, 0), (68, .goto 4, 72), (71, .iconst 0, 0), (72, .invokestatic 56, 0), (75, .iadd, 0), (76, .istore 5, 0), (78, .iinc 6 1, 0), (81, .goto (-72), 9), (84, .iload_n 3, 0), (85, .ifCond .ne 11, 96), (88, .iload 4, 0), (90, .iload 5, 0), (92, .iadd, 0), (93, .goto 15, 108), (96, .iload_n 3, 0), (97, .iconst 1, 0), (98, .if_icmp .ne 8, 106), (101, .iload 4, 0), (103, .goto 5, 108), (106, .iload 5, 0), (108, .ireturn, 0)]
theorem kkX5_waysOf : mm_chk cX5_waysOf kdX5_waysOf = true := by decide +kernel
def kdX5_isOdd : List mm_E := [(0, .aload_n 0, 0), (1, .getfield 60, 0), (4, .ifCond .eq 26, 30), (7, .aload_n 0, 0), (8, .iload_n 1, 0), (9, .iload_n 2, 0), (10, .iconst 1, 0), (11, .invokevirtual 64, 0), (14, .aload_n 0, 0), (15, .iload_n 1, 0), (16, .iload_n 2, 0), (17, .iconst 2, 0), (18, .invokevirtual 64, 0), (21, .if_icmp .eq 7, 28), (24, .iconst 1, 0), (25, .goto 4, 29), (28, .iconst 0, 0), (29, .ireturn, 0), (30, .aload_n 0, 0), (31, .iload_n 1, 0), (32, .iload_n 2, 0), (33, .iconst 0, 0), (34, .invokevirtual 64, 0), (37, .iconst 2, 0), (38, .irem, 0), (39, .iconst 1, 0), (40, .if_icmp .ne 7, 47), (43, .iconst 1, 0), (44, .goto 4, 48), (47, .iconst 0, 0), (48, .ireturn, 0)]
theorem kkX5_isOdd : mm_chk cX5_isOdd kdX5_isOdd = true := by decide +kernel
def kdX5_oddOf : List mm_E := [(0, .iconst 0, 0), (1, .istore_n 2, 0), (2, .iconst 0, 0), (3, .istore_n 3, 0), (4, .iload_n 3, 0), (5, .bipush 10, 0), (7, .if_icmp .ge 21, 28), (10, .iload_n 2, 0), (11, .aload_n 0, 0), (12, .iload_n 1, 0), (13, .iload_n 3, 0), (14, .invokevirtual 68, 0), (17, .invokestatic 56, 0), (20, .iadd, 0), (21, .istore_n 2, 0), (22, .iinc 3 1, 0), (25, .goto (-21), 4), (28, .iload_n 2, 0), (29, .ireturn, 0)]
theorem kkX5_oddOf : mm_chk cX5_oddOf kdX5_oddOf = true := by decide +kernel
def kdX5_hang : List mm_E := [(0, .iload_n 1, 0), (1, .iload_n 1, 0), (2, .ineg, 0), (3, .iand, 0), (4, .istore_n 2, 0), (5, .iconst 0, 0), (6, .istore_n 3, 0), (7, .iconst (-1), 0), (8, .istore 4, 0), (10, .iload_n 2, 0), (11, .iload 4, 0), (13, .if_icmp .eq 105, 118), (16, .iload_n 2, 0), (17, .istore 4, 0), (19, .iconst 0, 0), (20, .istore 5, 0), (22, .iload 5, 0), (24, .aload_n 0, 0), (25, .getfield 49, 0), (28, .if_icmp .ge 87, 115), (31, .iload_n 1, 0), (32, .iload 5, 0), (34, .invokestatic 52, 0), (37, .ifCond .ne 6, 43), (40, .goto 69, 109), (43, .iload_n 3, 0), (44, .aload_n 0, 0), (45, .getfield 9, 0), (48, .iload 5, 0), (50, .iaload, 0), (51, .invokestatic 52, 0), (54, .ifCond .ne 17, 71), (57, .iload_n 3, 0), (58, .aload_n 0, 0), (59, .getfield 13, 0), (62, .iload 5, 0), (64, .iaload, 0), (65, .invokestatic 52, 0), (68, .ifCond .eq 10, 78), (71, .iload_n 2, 0), (72, .iconst 1, 0), (73, .iload 5, 0), (75, .ishl, 0), (76, .ior, 0), (77, .istore_n 2, 0), (78, .iload_n 2, 0), (79, .iload 5, 0), (81, .invokestatic 52, 0), (84, .ifCond .eq 25, 109), (87, .iload_n 3, 0), (88, .iconst 1, 0), (89, .aload_n 0, 0), (90, .getfield 9, 0), (93, .iload 5, 0), (95, .iaload, 0), (96, .ishl, 0), (97, .iconst 1, 0), (98, .aload_n 0, 0), (99, .getfield 13, 0), (102, .iload 5, 0), (104, .iaload, 0), (105, .ishl, 0), (106, .ior, 0), (107, .ior, 0), (108, .istore_n 3, 0), (109, .iinc 5 1, 0), (112, .goto (-90), 22), (115, .goto (-105), 10), (118, .iload_n 2, 0), (119, .iload_n 1, 0), (120, .if_icmp .ne 7, 127), (123, .iconst 1, 0), (124, .goto 4, 128), (127, .iconst 0, 0), (128, .ireturn, 0)]
theorem kkX5_hang : mm_chk cX5_hang kdX5_hang = true := by decide +kernel
def kdX5_isStartOf : List mm_E := [(0, .aload_n 0, 0), (1, .iload_n 1, 0), (2, .invokevirtual 71, 0), (5, .ifCond .ne 5, 10), (8, .iconst 0, 0), (9, .ireturn, 0), (10, .iload_n 1, 0), (11, .ifCond .ne 5, 16), (14, .iconst 1, 0), (15, .ireturn, 0), (16, .aload_n 0, 0), (17, .iload_n 1, 0), (18, .invokevirtual 75, 0), (21, .istore_n 3, 0), (22, .iload_n 3, 0), (23, .ifCond .ne 19, 42), (26, .aload_n 0, 0), (27, .iload_n 1, 0), (28, .iload_n 2, 0), (29, .iconst 0, 0), (30, .invokevirtual 64, 0), (33, .ifCond .le 7, 40), (36, .iconst 1, 0), (37, .goto 4, 41), (40, .iconst 0, 0), (41, .ireturn, 0), (42, .iload_n 3, 0), (43, .iconst 2, 0), (44, .if_icmp .ne 42, 86), (47, .aload_n 0, 0), (48, .iload_n 1, 0), (49, .iload_n 2, 0), (50, .invokevirtual 68, 0), (53, .ifCond .eq 33, 86), (56, .aload_n 0, 0), (57, .getfield 60, 0), (60, .ifCond .eq 22, 82), (63, .aload_n 0, 0), (64, .iload_n 1, 0), (65, .iload_n 2, 0), (66, .iconst 1, 0), (67, .invokevirtual 64, 0), (70, .aload_n 0, 0), (71, .iload_n 1, 0), (72, .iload_n 2, 0), (73, .iconst 2, 0), (74, .invokevirtual 64, 0), (77, .iconst 1, 0), (78, .iadd, 0), (79, .if_icmp .ne 7, 86), (82, .iconst 1, 0), (83, .goto 4, 87), (86, .iconst 0, 0), (87, .ireturn, 0)]
theorem kkX5_isStartOf : mm_chk cX5_isStartOf kdX5_isStartOf = true := by decide +kernel
def kdX5_leastStart : List mm_E := [(0, .iconst 0, 0), (1, .istore_n 1, 0), (2, .iload_n 1, 0), (3, .bipush 10, 0), (5, .if_icmp .ge 23, 28), (8, .aload_n 0, 0), (9, .aload_n 0, 0), (10, .invokevirtual 79, 0), (13, .iload_n 1, 0), (14, .invokevirtual 83, 0), (17, .ifCond .eq 5, 22), (20, .iload_n 1, 0), (21, .ireturn, 0), (22, .iinc 1 1, 0), (25, .goto (-23), 2), (28, .iconst (-1), 0), (29, .ireturn, 0)]
theorem kkX5_leastStart : mm_chk cX5_leastStart kdX5_leastStart = true := by decide +kernel
def kdX5_kindOf : List mm_E := [(0, .aload_n 0, 0), (1, .aload_n 0, 0), (2, .invokevirtual 79, 0), (5, .invokevirtual 71, 0), (8, .ifCond .eq 16, 24), (11, .aload_n 0, 0), (12, .aload_n 0, 0), (13, .invokevirtual 79, 0), (16, .invokevirtual 75, 0), (19, .ifCond .ne 5, 24), (22, .iconst 2, 0), (23, .ireturn, 0), (24, .aload_n 0, 0), (25, .invokevirtual 86, 0), (28, .iconst (-1), 0), (29, .if_icmp .eq 7, 36), (32, .iconst 1, 0), (33, .goto 4, 37), (36, .iconst 0, 0), (37, .invokestatic 56, 0), (40, .ireturn, 0)]
theorem kkX5_kindOf : mm_chk cX5_kindOf kdX5_kindOf = true := by decide +kernel
def kdX5_laid : List mm_E := [(0, .aload_n 0, 0), (1, .getfield 9, 0), (4, .aload_n 0, 0), (5, .getfield 49, 0), (8, .iload_n 1, 0), (9, .iastore, 0), (10, .aload_n 0, 0), (11, .getfield 13, 0), (14, .aload_n 0, 0), (15, .getfield 49, 0), (18, .iload_n 2, 0), (19, .iastore, 0), (20, .aload_n 0, 0), (21, .dup, 0), (22, .getfield 49, 0), (25, .iconst 1, 0), (26, .iadd, 0), (27, .putfield 49, 0), (30, .return_, 0)]
theorem kkX5_laid : mm_chk cX5_laid kdX5_laid = true := by decide +kernel
def kdX5_endWords : List mm_E := [(0, .aload_n 0, 0), (1, .iconst 0, 0), (2, .putfield 89, 0), (5, .aload_n 0, 0), (6, .iconst 0, 0), (7, .putfield 92, 0), (10, .return_, 0)]
theorem kkX5_endWords : mm_chk cX5_endWords kdX5_endWords = true := by decide +kernel
def kdX5_emptied : List mm_E := [(0, .aload_n 0, 0), (1, .iconst 0, 0), (2, .putfield 49, 0), (5, .iconst 0, 0), (6, .istore_n 1, 0), (7, .iload_n 1, 0), (8, .iconst 3, 0), (9, .if_icmp .ge 23, 32), (12, .aload_n 0, 0), (13, .getfield 19, 0), (16, .iload_n 1, 0), (17, .iconst 0, 0), (18, .iastore, 0), (19, .aload_n 0, 0), (20, .getfield 22, 0), (23, .iload_n 1, 0), (24, .iconst 0, 0), (25, .iastore, 0), (26, .iinc 1 1, 0), (29, .goto (-22), 7), (32, .aload_n 0, 0), (33, .iconst (-1), 0), (34, .putfield 25, 0), (37, .aload_n 0, 0), (38, .invokevirtual 95, 0), (41, .return_, 0)]
theorem kkX5_emptied : mm_chk cX5_emptied kdX5_emptied = true := by decide +kernel
def kdX5_goesFrom : List mm_E := [(0, .iload_n 1, 0), (1, .iconst 2, 0), (2, .irem, 0), (3, .ifCond .ne 14, 17), (6, .aload_n 0, 0), (7, .getfield 9, 0), (10, .iload_n 1, 0), (11, .iconst 2, 0), (12, .idiv, 0), (13, .iaload, 0), (14, .goto 11, 25), (17, .aload_n 0, 0), (18, .getfield 13, 0), (21, .iload_n 1, 0), (22, .iconst 2, 0), (23, .idiv, 0), (24, .iaload, 0), (25, .ireturn, 0)]
theorem kkX5_goesFrom : mm_chk cX5_goesFrom kdX5_goesFrom = true := by decide +kernel
def kdX5_comesTo : List mm_E := [(0, .iload_n 1, 0), (1, .iconst 2, 0), (2, .irem, 0), (3, .ifCond .ne 14, 17), (6, .aload_n 0, 0), (7, .getfield 13, 0), (10, .iload_n 1, 0), (11, .iconst 2, 0), (12, .idiv, 0), (13, .iaload, 0), (14, .goto 11, 25), (17, .aload_n 0, 0), (18, .getfield 9, 0), (21, .iload_n 1, 0), (22, .iconst 2, 0), (23, .idiv, 0), (24, .iaload, 0), (25, .ireturn, 0)]
theorem kkX5_comesTo : mm_chk cX5_comesTo kdX5_comesTo = true := by decide +kernel
def kdX5_between : List mm_E := [(0, .aload_n 0, 0), (1, .getfield 9, 0), (4, .iload_n 1, 0), (5, .iaload, 0), (6, .iload_n 2, 0), (7, .if_icmp .ne 17, 24), (10, .aload_n 0, 0), (11, .getfield 13, 0), (14, .iload_n 1, 0), (15, .iaload, 0), (16, .iload_n 3, 0), (17, .if_icmp .ne 7, 24), (20, .iconst 2, 0), (21, .iload_n 1, 0), (22, .imul, 0), (23, .ireturn, 0), (24, .aload_n 0, 0), (25, .getfield 60, 0), (28, .ifCond .ne 31, 59), (31, .aload_n 0, 0), (32, .getfield 9, 0), (35, .iload_n 1, 0), (36, .iaload, 0), (37, .iload_n 3, 0), (38, .if_icmp .ne 21, 59), (41, .aload_n 0, 0), (42, .getfield 13, 0), (45, .iload_n 1, 0), (46, .iaload, 0), (47, .iload_n 2, 0), (48, .if_icmp .ne 11, 59), (51, .iconst 2, 0), (52, .iload_n 1, 0), (53, .imul, 0), (54, .iconst 1, 0), (55, .iadd, 0), (56, .goto 4, 60), (59, .iconst (-1), 0), (60, .ireturn, 0)]
theorem kkX5_between : mm_chk cX5_between kdX5_between = true := by decide +kernel
def kdX5_leaving : List mm_E := [(0, .aload_n 0, 0), (1, .getfield 9, 0), (4, .iload_n 1, 0), (5, .iaload, 0), (6, .iload_n 2, 0), (7, .if_icmp .ne 7, 14), (10, .iconst 2, 0), (11, .iload_n 1, 0), (12, .imul, 0), (13, .ireturn, 0), (14, .aload_n 0, 0), (15, .getfield 60, 0), (18, .ifCond .ne 21, 39), (21, .aload_n 0, 0), (22, .getfield 13, 0), (25, .iload_n 1, 0), (26, .iaload, 0), (27, .iload_n 2, 0), (28, .if_icmp .ne 11, 39), (31, .iconst 2, 0), (32, .iload_n 1, 0), (33, .imul, 0), (34, .iconst 1, 0), (35, .iadd, 0), (36, .goto 4, 40), (39, .iconst (-1), 0), (40, .ireturn, 0)]
theorem kkX5_leaving : mm_chk cX5_leaving kdX5_leaving = true := by decide +kernel
def kdX5_coming : List mm_E := [(0, .aload_n 0, 0), (1, .getfield 13, 0), (4, .iload_n 1, 0), (5, .iaload, 0), (6, .iload_n 2, 0), (7, .if_icmp .ne 7, 14), (10, .iconst 2, 0), (11, .iload_n 1, 0), (12, .imul, 0), (13, .ireturn, 0), (14, .aload_n 0, 0), (15, .getfield 60, 0), (18, .ifCond .ne 21, 39), (21, .aload_n 0, 0), (22, .getfield 9, 0), (25, .iload_n 1, 0), (26, .iaload, 0), (27, .iload_n 2, 0), (28, .if_icmp .ne 11, 39), (31, .iconst 2, 0), (32, .iload_n 1, 0), (33, .imul, 0), (34, .iconst 1, 0), (35, .iadd, 0), (36, .goto 4, 40), (39, .iconst (-1), 0), (40, .ireturn, 0)]
theorem kkX5_coming : mm_chk cX5_coming kdX5_coming = true := by decide +kernel
def kdX5_stepOf : List mm_E := [(0, .aload_n 0, 0), (1, .getfield 16, 0), (4, .iload_n 1, 0), (5, .bipush 30, 0), (7, .imul, 0), (8, .iload_n 2, 0), (9, .iadd, 0), (10, .iaload, 0), (11, .ireturn, 0)]
theorem kkX5_stepOf : mm_chk cX5_stepOf kdX5_stepOf = true := by decide +kernel
def kdX5_cornerOf : List mm_E := [(0, .iload_n 2, 0), (1, .ifCond .ne 12, 13), (4, .aload_n 0, 0), (5, .getfield 22, 0), (8, .iload_n 1, 0), (9, .iaload, 0), (10, .goto 15, 25), (13, .aload_n 0, 0), (14, .aload_n 0, 0), (15, .iload_n 1, 0), (16, .iload_n 2, 0), (17, .iconst 1, 0), (18, .isub, 0), (19, .invokevirtual 98, 0), (22, .invokevirtual 102, 0), (25, .ireturn, 0)]
theorem kkX5_cornerOf : mm_chk cX5_cornerOf kdX5_cornerOf = true := by decide +kernel
def kdX5_endOf : List mm_E := [(0, .aload_n 0, 0), (1, .iload_n 1, 0), (2, .aload_n 0, 0), (3, .getfield 19, 0), (6, .iload_n 1, 0), (7, .iaload, 0), (8, .invokevirtual 105, 0), (11, .ireturn, 0)]
theorem kkX5_endOf : mm_chk cX5_endOf kdX5_endOf = true := by decide +kernel
def kdX5_placeOf : List mm_E := [(0, .iconst 0, 0), (1, .istore_n 3, 0), (2, .iload_n 3, 0), (3, .aload_n 0, 0), (4, .getfield 19, 0), (7, .iload_n 1, 0), (8, .iaload, 0), (9, .if_icmp .ge 23, 32), (12, .aload_n 0, 0), (13, .iload_n 1, 0), (14, .iload_n 3, 0), (15, .invokevirtual 98, 0), (18, .iconst 2, 0), (19, .idiv, 0), (20, .iload_n 2, 0), (21, .if_icmp .ne 5, 26), (24, .iload_n 3, 0), (25, .ireturn, 0), (26, .iinc 3 1, 0), (29, .goto (-27), 2), (32, .iconst (-1), 0), (33, .ireturn, 0)]
theorem kkX5_placeOf : mm_chk cX5_placeOf kdX5_placeOf = true := by decide +kernel
def kdX5_setOf : List mm_E := [(0, .iconst 0, 0), (1, .istore_n 2, 0), (2, .iconst 0, 0), (3, .istore_n 3, 0), (4, .iload_n 3, 0), (5, .aload_n 0, 0), (6, .getfield 19, 0), (9, .iload_n 1, 0), (10, .iaload, 0), (11, .if_icmp .ge 22, 33), (14, .iload_n 2, 0), (15, .iconst 1, 0), (16, .aload_n 0, 0), (17, .iload_n 1, 0), (18, .iload_n 3, 0), (19, .invokevirtual 98, 0), (22, .iconst 2, 0), (23, .idiv, 0), (24, .ishl, 0), (25, .ior, 0), (26, .istore_n 2, 0), (27, .iinc 3 1, 0), (30, .goto (-26), 4), (33, .iload_n 2, 0), (34, .ireturn, 0)]
theorem kkX5_setOf : mm_chk cX5_setOf kdX5_setOf = true := by decide +kernel
def kdX5_isHome : List mm_E := [(0, .aload_n 0, 0), (1, .iload_n 1, 0), (2, .invokevirtual 108, 0), (5, .aload_n 0, 0), (6, .getfield 22, 0), (9, .iload_n 1, 0), (10, .iaload, 0), (11, .if_icmp .ne 7, 18), (14, .iconst 1, 0), (15, .goto 4, 19), (18, .iconst 0, 0), (19, .ireturn, 0)]
theorem kkX5_isHome : mm_chk cX5_isHome kdX5_isHome = true := by decide +kernel
def kdX5_isWhole : List mm_E := [(0, .aload_n 0, 0), (1, .iload_n 1, 0), (2, .invokevirtual 111, 0), (5, .aload_n 0, 0), (6, .invokevirtual 79, 0), (9, .if_icmp .ne 7, 16), (12, .iconst 1, 0), (13, .goto 4, 17), (16, .iconst 0, 0), (17, .ireturn, 0)]
theorem kkX5_isWhole : mm_chk cX5_isWhole kdX5_isWhole = true := by decide +kernel
def kdX5_put : List mm_E := [(0, .aload_n 0, 0), (1, .getfield 19, 0), (4, .iload_n 1, 0), (5, .iaload, 0), (6, .istore 4, 0), (8, .iload 4, 0), (10, .iload_n 2, 0), (11, .if_icmp .le 30, 41), (14, .aload_n 0, 0), (15, .getfield 16, 0), (18, .iload_n 1, 0), (19, .bipush 30, 0), (21, .imul, 0), (22, .iload 4, 0), (24, .iadd, 0), (25, .aload_n 0, 0), (26, .iload_n 1, 0), (27, .iload 4, 0), (29, .iconst 1, 0), (30, .isub, 0), (31, .invokevirtual 98, 0), (34, .iastore, 0), (35, .iinc 4 (-1), 0), (38, .goto (-30), 8), (41, .aload_n 0, 0), (42, .getfield 16, 0), (45, .iload_n 1, 0), (46, .bipush 30, 0), (48, .imul, 0), (49, .iload_n 2, 0), (50, .iadd, 0), (51, .iload_n 3, 0), (52, .iastore, 0), (53, .aload_n 0, 0), (54, .getfield 19, 0), (57, .iload_n 1, 0), (58, .dup2, 0), (59, .iaload, 0), (60, .iconst 1, 0), (61, .iadd, 0), (62, .iastore, 0), (63, .return_, 0)]
theorem kkX5_put : mm_chk cX5_put kdX5_put = true := by decide +kernel
def kdX5_take : List mm_E := [(0, .aload_n 0, 0), (1, .iload_n 1, 0), (2, .iload_n 2, 0), (3, .invokevirtual 98, 0), (6, .istore_n 3, 0), (7, .aload_n 0, 0), (8, .getfield 19, 0), (11, .iload_n 1, 0), (12, .dup2, 0), (13, .iaload, 0), (14, .iconst 1, 0), (15, .isub, 0), (16, .iastore, 0), (17, .iload_n 2, 0), (18, .istore 4, 0), (20, .iload 4, 0), (22, .aload_n 0, 0), (23, .getfield 19, 0), (26, .iload_n 1, 0), (27, .iaload, 0), (28, .if_icmp .ge 30, 58), (31, .aload_n 0, 0), (32, .getfield 16, 0), (35, .iload_n 1, 0), (36, .bipush 30, 0), (38, .imul, 0), (39, .iload 4, 0), (41, .iadd, 0), (42, .aload_n 0, 0), (43, .iload_n 1, 0), (44, .iload 4, 0), (46, .iconst 1, 0), (47, .iadd, 0), (48, .invokevirtual 98, 0), (51, .iastore, 0), (52, .iinc 4 1, 0), (55, .goto (-35), 20), (58, .iload_n 3, 0), (59, .ireturn, 0)]
theorem kkX5_take : mm_chk cX5_take kdX5_take = true := by decide +kernel
def kdX5_lose : List mm_E := [(0, .aload_n 0, 0), (1, .dup, 0), (2, .getfield 114, 0), (5, .aload_n 0, 0), (6, .getfield 25, 0), (9, .iload_n 1, 0), (10, .if_icmp .ne 7, 17), (13, .iconst 1, 0), (14, .goto 4, 18), (17, .iconst 0, 0), (18, .ior, 0), (19, .putfield 114, 0), (22, .return_, 0)]
theorem kkX5_lose : mm_chk cX5_lose kdX5_lose = true := by decide +kernel
def kdX5_copied : List mm_E := [(0, .aload_n 0, 0), (1, .getfield 22, 0), (4, .iload_n 2, 0), (5, .aload_n 0, 0), (6, .getfield 22, 0), (9, .iload_n 1, 0), (10, .iaload, 0), (11, .iastore, 0), (12, .aload_n 0, 0), (13, .getfield 19, 0), (16, .iload_n 2, 0), (17, .aload_n 0, 0), (18, .getfield 19, 0), (21, .iload_n 1, 0), (22, .iaload, 0), (23, .iastore, 0), (24, .iconst 0, 0), (25, .istore_n 3, 0), (26, .iload_n 3, 0), (27, .aload_n 0, 0), (28, .getfield 19, 0), (31, .iload_n 1, 0), (32, .iaload, 0), (33, .if_icmp .ge 26, 59), (36, .aload_n 0, 0), (37, .getfield 16, 0), (40, .iload_n 2, 0), (41, .bipush 30, 0), (43, .imul, 0), (44, .iload_n 3, 0), (45, .iadd, 0), (46, .aload_n 0, 0), (47, .iload_n 1, 0), (48, .iload_n 3, 0), (49, .invokevirtual 98, 0), (52, .iastore, 0), (53, .iinc 3 1, 0), (56, .goto (-30), 26), (59, .return_, 0)]
theorem kkX5_copied : mm_chk cX5_copied kdX5_copied = true := by decide +kernel
def kdX5_turned : List mm_E := [(0, .aload_n 0, 0), (1, .getfield 22, 0), (4, .iload_n 1, 0), (5, .aload_n 0, 0), (6, .iload_n 1, 0), (7, .invokevirtual 108, 0), (10, .iastore, 0), (11, .aload_n 0, 0), (12, .getfield 19, 0), (15, .iload_n 1, 0), (16, .iaload, 0), (17, .istore_n 2, 0), (18, .iconst 0, 0), (19, .istore_n 3, 0), (20, .iload_n 3, 0), (21, .iload_n 2, 0), (22, .if_icmp .ge 23, 45), (25, .aload_n 0, 0), (26, .iload_n 1, 0), (27, .iload_n 3, 0), (28, .aload_n 0, 0), (29, .iload_n 1, 0), (30, .iload_n 2, 0), (31, .iconst 1, 0), (32, .isub, 0), (33, .invokevirtual 117, 0), (36, .invokevirtual 120, 0), (39, .iinc 3 1, 0), (42, .goto (-22), 20), (45, .return_, 0)]
theorem kkX5_turned : mm_chk cX5_turned kdX5_turned = true := by decide +kernel
def kdX5_rotated : List mm_E := [(0, .iconst 0, 0), (1, .istore_n 3, 0), (2, .iload_n 3, 0), (3, .iload_n 2, 0), (4, .if_icmp .ge 51, 55), (7, .aload_n 0, 0), (8, .getfield 19, 0), (11, .iload_n 1, 0), (12, .iaload, 0), (13, .ifCond .le 42, 55), (16, .aload_n 0, 0), (17, .iload_n 1, 0), (18, .iconst 0, 0), (19, .invokevirtual 117, 0), (22, .istore 4, 0), (24, .aload_n 0, 0), (25, .getfield 22, 0), (28, .iload_n 1, 0), (29, .aload_n 0, 0), (30, .iload 4, 0), (32, .invokevirtual 102, 0), (35, .iastore, 0), (36, .aload_n 0, 0), (37, .iload_n 1, 0), (38, .aload_n 0, 0), (39, .getfield 19, 0), (42, .iload_n 1, 0), (43, .iaload, 0), (44, .iload 4, 0), (46, .invokevirtual 120, 0), (49, .iinc 3 1, 0), (52, .goto (-50), 2), (55, .return_, 0)]
theorem kkX5_rotated : mm_chk cX5_rotated kdX5_rotated = true := by decide +kernel
def kdX5_gone : List mm_E := [(0, .iconst 0, 0), (1, .istore 4, 0), (3, .aload_n 0, 0), (4, .iload_n 1, 0), (5, .invokevirtual 111, 0), (8, .istore 5, 0), (10, .aload_n 0, 0), (11, .iload_n 1, 0), (12, .iload_n 2, 0), (13, .iload 4, 0), (15, .iadd, 0), (16, .invokevirtual 105, 0), (19, .istore 6, 0), (21, .iconst (-1), 0), (22, .istore 7, 0), (24, .iconst 0, 0), (25, .istore 8, 0), (27, .iload 8, 0), (29, .aload_n 0, 0), (30, .getfield 49, 0), (33, .if_icmp .ge 55, 88), (36, .iload 7, 0), (38, .iconst (-1), 0), (39, .if_icmp .ne 49, 88), (42, .iload_n 3, 0), (43, .ifCond .eq 8, 51), (46, .iload 8, 0), (48, .goto 12, 60), (51, .aload_n 0, 0), (52, .getfield 49, 0), (55, .iconst 1, 0), (56, .isub, 0), (57, .iload 8, 0), (59, .isub, 0), (60, .istore 9, 0), (62, .iload 5, 0), (64, .iload 9, 0), (66, .invokestatic 52, 0), (69, .ifCond .ne 13, 82), (72, .aload_n 0, 0), (73, .iload 9, 0), (75, .iload 6, 0), (77, .invokevirtual 124, 0), (80, .istore 7, 0), (82, .iinc 8 1, 0), (85, .goto (-58), 27), (88, .iload 7, 0), (90, .iconst (-1), 0), (91, .if_icmp .ne 6, 97), (94, .iload 4, 0), (96, .ireturn, 0), (97, .aload_n 0, 0), (98, .iload_n 1, 0), (99, .iload_n 2, 0), (100, .iload 4, 0), (102, .iadd, 0), (103, .iload 7, 0), (105, .invokevirtual 120, 0), (108, .iinc 4 1, 0), (111, .goto (-108), 3)]
theorem kkX5_gone : mm_chk cX5_gone kdX5_gone = true := by decide +kernel
def kdX5_completed : List mm_E := [(0, .aload_n 0, 0), (1, .iload_n 1, 0), (2, .aload_n 0, 0), (3, .getfield 19, 0), (6, .iload_n 1, 0), (7, .iaload, 0), (8, .iload_n 2, 0), (9, .invokevirtual 127, 0), (12, .istore_n 3, 0), (13, .iconst 0, 0), (14, .istore 4, 0), (16, .iload 4, 0), (18, .aload_n 0, 0), (19, .getfield 19, 0), (22, .iload_n 1, 0), (23, .iaload, 0), (24, .if_icmp .gt 20, 44), (27, .iload_n 3, 0), (28, .aload_n 0, 0), (29, .iload_n 1, 0), (30, .iload 4, 0), (32, .iload_n 2, 0), (33, .invokevirtual 127, 0), (36, .iadd, 0), (37, .istore_n 3, 0), (38, .iinc 4 1, 0), (41, .goto (-25), 16), (44, .iload_n 3, 0), (45, .ireturn, 0)]
theorem kkX5_completed : mm_chk cX5_completed kdX5_completed = true := by decide +kernel
def kdX5_fitting : List mm_E := [(0, .aload_n 0, 0), (1, .invokevirtual 79, 0), (4, .aload_n 0, 0), (5, .iload_n 1, 0), (6, .invokevirtual 111, 0), (9, .iconst (-1), 0), (10, .ixor, 0), (11, .iand, 0), (12, .istore 4, 0), (14, .iload_n 2, 0), (15, .istore 5, 0), (17, .iload 5, 0), (19, .ifCond .lt 87, 106), (22, .iload 5, 0), (24, .aload_n 0, 0), (25, .getfield 49, 0), (28, .if_icmp .ge 78, 106), (31, .iload 4, 0), (33, .iload 5, 0), (35, .invokestatic 52, 0), (38, .ifCond .eq 17, 55), (41, .aload_n 0, 0), (42, .iload 5, 0), (44, .aload_n 0, 0), (45, .iload_n 1, 0), (46, .invokevirtual 108, 0), (49, .invokevirtual 124, 0), (52, .goto 4, 56), (55, .iconst (-1), 0), (56, .istore 6, 0), (58, .iload 6, 0), (60, .iconst (-1), 0), (61, .if_icmp .eq 28, 89), (64, .aload_n 0, 0), (65, .iload 4, 0), (67, .iconst 1, 0), (68, .iload 5, 0), (70, .ishl, 0), (71, .iconst (-1), 0), (72, .ixor, 0), (73, .iand, 0), (74, .aload_n 0, 0), (75, .iload 6, 0), (77, .invokevirtual 102, 0), (80, .invokevirtual 83, 0), (83, .ifCond .eq 6, 89), (86, .iload 6, 0), (88, .ireturn, 0), (89, .iload 5, 0), (91, .iload_n 3, 0), (92, .ifCond .eq 7, 99), (95, .iconst 1, 0), (96, .goto 4, 100), (99, .iconst (-1), 0), (100, .iadd, 0), (101, .istore 5, 0), (103, .goto (-86), 17), (106, .iconst (-1), 0), (107, .ireturn, 0)]
theorem kkX5_fitting : mm_chk cX5_fitting kdX5_fitting = true := by decide +kernel
def kdX5_filled : List mm_E := [(0, .iload_n 2, 0), (1, .ifCond .eq 7, 8), (4, .iconst 0, 0), (5, .goto 9, 14), (8, .aload_n 0, 0), (9, .getfield 49, 0), (12, .iconst 1, 0), (13, .isub, 0), (14, .istore_n 3, 0), (15, .aload_n 0, 0), (16, .iload_n 1, 0), (17, .iload_n 3, 0), (18, .iload_n 2, 0), (19, .invokevirtual 131, 0), (22, .istore 4, 0), (24, .iload 4, 0), (26, .iconst (-1), 0), (27, .if_icmp .eq 28, 55), (30, .aload_n 0, 0), (31, .iload_n 1, 0), (32, .aload_n 0, 0), (33, .getfield 19, 0), (36, .iload_n 1, 0), (37, .iaload, 0), (38, .iload 4, 0), (40, .invokevirtual 120, 0), (43, .aload_n 0, 0), (44, .iload_n 1, 0), (45, .iload_n 3, 0), (46, .iload_n 2, 0), (47, .invokevirtual 131, 0), (50, .istore 4, 0), (52, .goto (-28), 24), (55, .return_, 0)]
theorem kkX5_filled : mm_chk cX5_filled kdX5_filled = true := by decide +kernel
def kdX5_isSame : List mm_E := [(0, .aload_n 0, 0), (1, .getfield 22, 0), (4, .iload_n 1, 0), (5, .iaload, 0), (6, .aload_n 0, 0), (7, .getfield 22, 0), (10, .iload_n 2, 0), (11, .iaload, 0), (12, .if_icmp .ne 18, 30), (15, .aload_n 0, 0), (16, .getfield 19, 0), (19, .iload_n 1, 0), (20, .iaload, 0), (21, .aload_n 0, 0), (22, .getfield 19, 0), (25, .iload_n 2, 0), (26, .iaload, 0), (27, .if_icmp .eq 5, 32), (30, .iconst 0, 0), (31, .ireturn, 0), (32, .iconst 0, 0), (33, .istore_n 3, 0), (34, .iload_n 3, 0), (35, .aload_n 0, 0), (36, .getfield 19, 0), (39, .iload_n 1, 0), (40, .iaload, 0), (41, .if_icmp .ge 26, 67), (44, .aload_n 0, 0), (45, .iload_n 1, 0), (46, .iload_n 3, 0), (47, .invokevirtual 98, 0), (50, .aload_n 0, 0), (51, .iload_n 2, 0), (52, .iload_n 3, 0), (53, .invokevirtual 98, 0), (56, .if_icmp .eq 5, 61), (59, .iconst 0, 0), (60, .ireturn, 0), (61, .iinc 3 1, 0), (64, .goto (-30), 34), (67, .iconst 1, 0), (68, .ireturn, 0)]
theorem kkX5_isSame : mm_chk cX5_isSame kdX5_isSame = true := by decide +kernel
def kdX5_isTurnedBy : List mm_E := [(0, .aload_n 0, 0), (1, .iload_n 1, 0), (2, .iload_n 3, 0), (3, .invokevirtual 105, 0), (6, .aload_n 0, 0), (7, .getfield 22, 0), (10, .iload_n 2, 0), (11, .iaload, 0), (12, .if_icmp .eq 5, 17), (15, .iconst 0, 0), (16, .ireturn, 0), (17, .iconst 0, 0), (18, .istore 4, 0), (20, .iload 4, 0), (22, .aload_n 0, 0), (23, .getfield 19, 0), (26, .iload_n 1, 0), (27, .iaload, 0), (28, .if_icmp .ge 37, 65), (31, .aload_n 0, 0), (32, .iload_n 1, 0), (33, .iload 4, 0), (35, .iload_n 3, 0), (36, .iadd, 0), (37, .aload_n 0, 0), (38, .getfield 19, 0), (41, .iload_n 1, 0), (42, .iaload, 0), (43, .irem, 0), (44, .invokevirtual 98, 0), (47, .aload_n 0, 0), (48, .iload_n 2, 0), (49, .iload 4, 0), (51, .invokevirtual 98, 0), (54, .if_icmp .eq 5, 59), (57, .iconst 0, 0), (58, .ireturn, 0), (59, .iinc 4 1, 0), (62, .goto (-42), 20), (65, .iconst 1, 0), (66, .ireturn, 0)]
theorem kkX5_isTurnedBy : mm_chk cX5_isTurnedBy kdX5_isTurnedBy = true := by decide +kernel
def kdX5_turnTo : List mm_E := [(0, .aload_n 0, 0), (1, .iload_n 1, 0), (2, .iload_n 2, 0), (3, .invokevirtual 134, 0), (6, .ifCond .eq 5, 11), (9, .iconst 0, 0), (10, .ireturn, 0), (11, .aload_n 0, 0), (12, .iload_n 1, 0), (13, .invokevirtual 137, 0), (16, .ifCond .eq 18, 34), (19, .aload_n 0, 0), (20, .getfield 19, 0), (23, .iload_n 1, 0), (24, .iaload, 0), (25, .aload_n 0, 0), (26, .getfield 19, 0), (29, .iload_n 2, 0), (30, .iaload, 0), (31, .if_icmp .eq 5, 36), (34, .iconst (-1), 0), (35, .ireturn, 0), (36, .iconst 1, 0), (37, .istore_n 3, 0), (38, .iload_n 3, 0), (39, .aload_n 0, 0), (40, .getfield 19, 0), (43, .iload_n 1, 0), (44, .iaload, 0), (45, .if_icmp .ge 21, 66), (48, .aload_n 0, 0), (49, .iload_n 1, 0), (50, .iload_n 2, 0), (51, .iload_n 3, 0), (52, .invokevirtual 140, 0), (55, .ifCond .eq 5, 60), (58, .iload_n 3, 0), (59, .ireturn, 0), (60, .iinc 3 1, 0), (63, .goto (-25), 38), (66, .iconst (-1), 0), (67, .ireturn, 0)]
theorem kkX5_turnTo : mm_chk cX5_turnTo kdX5_turnTo = true := by decide +kernel
def kdX5_wordIn : List mm_E := [(0, .aload_n 0, 0), (1, .getfield 89, 0), (4, .ifCond .eq 11, 15), (7, .iload_n 2, 0), (8, .aload_n 0, 0), (9, .getfield 49, 0), (12, .if_icmp .lt 5, 17), (15, .iconst (-1), 0), (16, .ireturn, 0), (17, .iload_n 3, 0), (18, .istore 4, 0), (20, .iload 4, 0), (22, .aload_n 0, 0), (23, .getfield 19, 0), (26, .iload_n 1, 0), (27, .iaload, 0), (28, .if_icmp .ge 73, 101), (31, .iconst 0, 0), (32, .istore 5, 0), (34, .iconst 0, 0), (35, .istore 6, 0), (37, .iload 6, 0), (39, .aload_n 0, 0), (40, .getfield 92, 0), (43, .if_icmp .ge 43, 86), (46, .iload 5, 0), (48, .aload_n 0, 0), (49, .getfield 89, 0), (52, .imul, 0), (53, .aload_n 0, 0), (54, .iload_n 1, 0), (55, .iload 4, 0), (57, .iload 6, 0), (59, .iadd, 0), (60, .aload_n 0, 0), (61, .getfield 19, 0), (64, .iload_n 1, 0), (65, .iaload, 0), (66, .irem, 0), (67, .invokevirtual 98, 0), (70, .iconst 2, 0), (71, .idiv, 0), (72, .aload_n 0, 0), (73, .getfield 89, 0), (76, .irem, 0), (77, .iadd, 0), (78, .istore 5, 0), (80, .iinc 6 1, 0), (83, .goto (-46), 37), (86, .iload 5, 0), (88, .iload_n 2, 0), (89, .if_icmp .ne 6, 95), (92, .iload 4, 0), (94, .ireturn, 0), (95, .iinc 4 1, 0), (98, .goto (-78), 20), (101, .iconst (-1), 0), (102, .ireturn, 0)]
theorem kkX5_wordIn : mm_chk cX5_wordIn kdX5_wordIn = true := by decide +kernel
def kdX5_lay : List mm_E := [(0, .aload_n 0, 0), (1, .aload_n 0, 0), (2, .iload_n 1, 0), (3, .invokevirtual 143, 0), (6, .ifCond .ne 11, 17), (9, .aload_n 0, 0), (10, .iload_n 2, 0), (11, .invokevirtual 143, 0), (14, .ifCond .eq 7, 21), (17, .iconst 1, 0), (18, .goto 4, 22), (21, .iconst 0, 0), (22, .iconst 1, 0), (23, .invokevirtual 146, 0), (26, .ifCond .eq 5, 31), (29, .iconst 0, 0), (30, .ireturn, 0), (31, .aload_n 0, 0), (32, .getfield 49, 0), (35, .bipush 30, 0), (37, .if_icmp .ne 8, 45), (40, .aload_n 0, 0), (41, .invokevirtual 149, 0), (44, .ireturn, 0), (45, .aload_n 0, 0), (46, .iload_n 1, 0), (47, .iload_n 2, 0), (48, .invokevirtual 152, 0), (51, .aload_n 0, 0), (52, .invokevirtual 95, 0), (55, .aload_n 0, 0), (56, .aload_n 0, 0), (57, .getfield 49, 0), (60, .iconst 1, 0), (61, .isub, 0), (62, .invokevirtual 156, 0), (65, .ireturn, 0)]
theorem kkX5_lay : mm_chk cX5_lay kdX5_lay = true := by decide +kernel
def kdX5_layRing : List mm_E := [(0, .aload_n 0, 0), (1, .iload_n 1, 0), (2, .iconst 1, 0), (3, .bipush 10, 0), (5, .invokestatic 45, 0), (8, .ifCond .eq 13, 21), (11, .iload_n 2, 0), (12, .iconst 0, 0), (13, .bipush 9, 0), (15, .invokestatic 45, 0), (18, .ifCond .ne 7, 25), (21, .iconst 1, 0), (22, .goto 4, 26), (25, .iconst 0, 0), (26, .iconst 1, 0), (27, .invokevirtual 146, 0), (30, .ifCond .eq 5, 35), (33, .iconst 0, 0), (34, .ireturn, 0), (35, .aload_n 0, 0), (36, .getfield 49, 0), (39, .iload_n 1, 0), (40, .iadd, 0), (41, .bipush 30, 0), (43, .if_icmp .le 8, 51), (46, .aload_n 0, 0), (47, .invokevirtual 149, 0), (50, .ireturn, 0), (51, .iconst 0, 0), (52, .istore_n 3, 0), (53, .iload_n 3, 0), (54, .iload_n 1, 0), (55, .if_icmp .ge 19, 74), (58, .aload_n 0, 0), (59, .iload_n 3, 0), (60, .iload_n 3, 0), (61, .iload_n 2, 0), (62, .iadd, 0), (63, .iload_n 1, 0), (64, .irem, 0), (65, .invokevirtual 152, 0), (68, .iinc 3 1, 0), (71, .goto (-18), 53), (74, .aload_n 0, 0), (75, .invokevirtual 95, 0), (78, .aload_n 0, 0), (79, .aload_n 0, 0), (80, .getfield 49, 0), (83, .invokevirtual 156, 0), (86, .ireturn, 0)]
theorem kkX5_layRing : mm_chk cX5_layRing kdX5_layRing = true := by decide +kernel
def kdX5_words : List mm_E := [(0, .aload_n 0, 0), (1, .iload_n 1, 0), (2, .iconst 2, 0), (3, .iconst 5, 0), (4, .invokestatic 45, 0), (7, .ifCond .eq 12, 19), (10, .iload_n 2, 0), (11, .iconst 1, 0), (12, .iconst 4, 0), (13, .invokestatic 45, 0), (16, .ifCond .ne 7, 23), (19, .iconst 1, 0), (20, .goto 4, 24), (23, .iconst 0, 0), (24, .iconst 1, 0), (25, .invokevirtual 146, 0), (28, .ifCond .eq 5, 33), (31, .iconst 0, 0), (32, .ireturn, 0), (33, .iconst 1, 0), (34, .istore_n 3, 0), (35, .iconst 1, 0), (36, .istore 4, 0), (38, .iload 4, 0), (40, .iload_n 2, 0), (41, .if_icmp .ge 13, 54), (44, .iload_n 3, 0), (45, .iload_n 1, 0), (46, .imul, 0), (47, .istore_n 3, 0), (48, .iinc 4 1, 0), (51, .goto (-13), 38), (54, .iload_n 3, 0), (55, .iload_n 1, 0), (56, .imul, 0), (57, .bipush 30, 0), (59, .if_icmp .le 8, 67), (62, .aload_n 0, 0), (63, .invokevirtual 149, 0), (66, .ireturn, 0), (67, .aload_n 0, 0), (68, .invokevirtual 159, 0), (71, .iconst 0, 0), (72, .istore 4, 0), (74, .iload 4, 0), (76, .iload_n 3, 0), (77, .iload_n 1, 0), (78, .imul, 0), (79, .if_icmp .ge 21, 100), (82, .aload_n 0, 0), (83, .iload 4, 0), (85, .iload_n 1, 0), (86, .idiv, 0), (87, .iload 4, 0), (89, .iload_n 3, 0), (90, .irem, 0), (91, .invokevirtual 152, 0), (94, .iinc 4 1, 0), (97, .goto (-23), 74), (100, .aload_n 0, 0), (101, .iconst 1, 0), (102, .putfield 60, 0), (105, .aload_n 0, 0), (106, .iload_n 1, 0), (107, .putfield 89, 0), (110, .aload_n 0, 0), (111, .iload_n 2, 0), (112, .putfield 92, 0), (115, .aload_n 0, 0), (116, .aload_n 0, 0), (117, .getfield 49, 0), (120, .invokevirtual 156, 0), (123, .ireturn, 0)]
theorem kkX5_words : mm_chk cX5_words kdX5_words = true := by decide +kernel
def kdX5_close : List mm_E := [(0, .aload_n 0, 0), (1, .aload_n 0, 0), (2, .iload_n 1, 0), (3, .invokevirtual 162, 0), (6, .iconst 1, 0), (7, .invokevirtual 146, 0), (10, .ifCond .eq 5, 15), (13, .iconst 0, 0), (14, .ireturn, 0), (15, .iconst 0, 0), (16, .istore_n 2, 0), (17, .iload_n 2, 0), (18, .iconst 3, 0), (19, .if_icmp .ge 24, 43), (22, .aload_n 0, 0), (23, .iload_n 2, 0), (24, .iload_n 1, 0), (25, .invokevirtual 165, 0), (28, .iconst (-1), 0), (29, .if_icmp .eq 8, 37), (32, .aload_n 0, 0), (33, .invokevirtual 149, 0), (36, .ireturn, 0), (37, .iinc 2 1, 0), (40, .goto (-23), 17), (43, .aload_n 0, 0), (44, .dup, 0), (45, .getfield 49, 0), (48, .iconst 1, 0), (49, .isub, 0), (50, .putfield 49, 0), (53, .iload_n 1, 0), (54, .istore_n 2, 0), (55, .iload_n 2, 0), (56, .aload_n 0, 0), (57, .getfield 49, 0), (60, .if_icmp .ge 37, 97), (63, .aload_n 0, 0), (64, .getfield 9, 0), (67, .iload_n 2, 0), (68, .aload_n 0, 0), (69, .getfield 9, 0), (72, .iload_n 2, 0), (73, .iconst 1, 0), (74, .iadd, 0), (75, .iaload, 0), (76, .iastore, 0), (77, .aload_n 0, 0), (78, .getfield 13, 0), (81, .iload_n 2, 0), (82, .aload_n 0, 0), (83, .getfield 13, 0), (86, .iload_n 2, 0), (87, .iconst 1, 0), (88, .iadd, 0), (89, .iaload, 0), (90, .iastore, 0), (91, .iinc 2 1, 0), (94, .goto (-39), 55), (97, .iconst 0, 0), (98, .istore_n 2, 0), (99, .iload_n 2, 0), (100, .iconst 3, 0), (101, .if_icmp .ge 54, 155), (104, .iconst 0, 0), (105, .istore_n 3, 0), (106, .iload_n 3, 0), (107, .aload_n 0, 0), (108, .getfield 19, 0), (111, .iload_n 2, 0), (112, .iaload, 0), (113, .if_icmp .ge 36, 149), (116, .aload_n 0, 0), (117, .iload_n 2, 0), (118, .iload_n 3, 0), (119, .invokevirtual 98, 0), (122, .iconst 2, 0), (123, .idiv, 0), (124, .iload_n 1, 0), (125, .if_icmp .le 18, 143), (128, .aload_n 0, 0), (129, .getfield 16, 0), (132, .iload_n 2, 0), (133, .bipush 30, 0), (135, .imul, 0), (136, .iload_n 3, 0), (137, .iadd, 0), (138, .dup2, 0), (139, .iaload, 0), (140, .iconst 2, 0), (141, .isub, 0), (142, .iastore, 0), (143, .iinc 3 1, 0), (146, .goto (-40), 106), (149, .iinc 2 1, 0), (152, .goto (-53), 99), (155, .aload_n 0, 0), (156, .invokevirtual 95, 0), (159, .aload_n 0, 0), (160, .aload_n 0, 0), (161, .getfield 49, 0), (164, .invokevirtual 156, 0), (167, .ireturn, 0)]
theorem kkX5_close : mm_chk cX5_close kdX5_close = true := by decide +kernel
def kdX5_clear : List mm_E := [(0, .aload_n 0, 0), (1, .iconst 0, 0), (2, .putfield 32, 0), (5, .aload_n 0, 0), (6, .getfield 49, 0), (9, .istore_n 1, 0), (10, .aload_n 0, 0), (11, .invokevirtual 159, 0), (14, .aload_n 0, 0), (15, .iconst 0, 0), (16, .putfield 60, 0), (19, .aload_n 0, 0), (20, .iload_n 1, 0), (21, .invokevirtual 156, 0), (24, .ireturn, 0)]
theorem kkX5_clear : mm_chk cX5_clear kdX5_clear = true := by decide +kernel
def kdX5_oneWay : List mm_E := [(0, .aload_n 0, 0), (1, .iconst 0, 0), (2, .putfield 32, 0), (5, .iconst 0, 0), (6, .istore_n 2, 0), (7, .iload_n 2, 0), (8, .iconst 3, 0), (9, .if_icmp .ge 48, 57), (12, .iconst 0, 0), (13, .istore_n 3, 0), (14, .iload_n 3, 0), (15, .aload_n 0, 0), (16, .getfield 19, 0), (19, .iload_n 2, 0), (20, .iaload, 0), (21, .if_icmp .ge 30, 51), (24, .iload_n 1, 0), (25, .ifCond .eq 20, 45), (28, .aload_n 0, 0), (29, .iload_n 2, 0), (30, .iload_n 3, 0), (31, .invokevirtual 98, 0), (34, .iconst 2, 0), (35, .irem, 0), (36, .iconst 1, 0), (37, .if_icmp .ne 8, 45), (40, .aload_n 0, 0), (41, .invokevirtual 149, 0), (44, .ireturn, 0), (45, .iinc 3 1, 0), (48, .goto (-34), 14), (51, .iinc 2 1, 0), (54, .goto (-47), 7), (57, .aload_n 0, 0), (58, .getfield 60, 0), (61, .istore_n 2, 0), (62, .aload_n 0, 0), (63, .iload_n 1, 0), (64, .putfield 60, 0), (67, .aload_n 0, 0), (68, .iload_n 2, 0), (69, .iload_n 1, 0), (70, .if_icmp .eq 7, 77), (73, .iconst 1, 0), (74, .goto 4, 78), (77, .iconst 0, 0), (78, .invokestatic 56, 0), (81, .invokevirtual 156, 0), (84, .ireturn, 0)]
theorem kkX5_oneWay : mm_chk cX5_oneWay kdX5_oneWay = true := by decide +kernel
def kdX5_turnTown : List mm_E := [(0, .aload_n 0, 0), (1, .iconst 0, 0), (2, .putfield 32, 0), (5, .iconst 0, 0), (6, .istore_n 1, 0), (7, .iload_n 1, 0), (8, .iconst 3, 0), (9, .if_icmp .ge 14, 23), (12, .aload_n 0, 0), (13, .iload_n 1, 0), (14, .invokevirtual 168, 0), (17, .iinc 1 1, 0), (20, .goto (-13), 7), (23, .iconst 0, 0), (24, .istore_n 1, 0), (25, .iload_n 1, 0), (26, .aload_n 0, 0), (27, .getfield 49, 0), (30, .if_icmp .ge 35, 65), (33, .aload_n 0, 0), (34, .getfield 9, 0), (37, .iload_n 1, 0), (38, .iaload, 0), (39, .istore_n 2, 0), (40, .aload_n 0, 0), (41, .getfield 9, 0), (44, .iload_n 1, 0), (45, .aload_n 0, 0), (46, .getfield 13, 0), (49, .iload_n 1, 0), (50, .iaload, 0), (51, .iastore, 0), (52, .aload_n 0, 0), (53, .getfield 13, 0), (56, .iload_n 1, 0), (57, .iload_n 2, 0), (58, .iastore, 0), (59, .iinc 1 1, 0), (62, .goto (-37), 25), (65, .aload_n 0, 0), (66, .invokevirtual 95, 0), (69, .aload_n 0, 0), (70, .aload_n 0, 0), (71, .getfield 49, 0), (74, .invokevirtual 156, 0), (77, .ireturn, 0)]
theorem kkX5_turnTown : mm_chk cX5_turnTown kdX5_turnTown = true := by decide +kernel
def kdX5_streets : List mm_E := [(0, .aload_n 0, 0), (1, .iconst 0, 0), (2, .putfield 32, 0), (5, .aload_n 0, 0), (6, .getfield 49, 0), (9, .ireturn, 0)]
theorem kkX5_streets : mm_chk cX5_streets kdX5_streets = true := by decide +kernel
def kdX5_end : List mm_E := [(0, .aload_n 0, 0), (1, .aload_n 0, 0), (2, .iload_n 1, 0), (3, .invokevirtual 162, 0), (6, .iconst 1, 0), (7, .invokevirtual 146, 0), (10, .ifCond .eq 5, 15), (13, .iconst 0, 0), (14, .ireturn, 0), (15, .iload_n 2, 0), (16, .ifCond .eq 12, 28), (19, .aload_n 0, 0), (20, .getfield 13, 0), (23, .iload_n 1, 0), (24, .iaload, 0), (25, .goto 9, 34), (28, .aload_n 0, 0), (29, .getfield 9, 0), (32, .iload_n 1, 0), (33, .iaload, 0), (34, .ireturn, 0)]
theorem kkX5_end : mm_chk cX5_end kdX5_end = true := by decide +kernel
def kdX5_ways : List mm_E := [(0, .aload_n 0, 0), (1, .aload_n 0, 0), (2, .iload_n 1, 0), (3, .invokevirtual 143, 0), (6, .iconst 1, 0), (7, .invokevirtual 146, 0), (10, .ifCond .ne 25, 35), (13, .aload_n 0, 0), (14, .iload_n 2, 0), (15, .iconst 0, 0), (16, .iconst 2, 0), (17, .invokestatic 45, 0), (20, .ifCond .ne 7, 27), (23, .iconst 1, 0), (24, .goto 4, 28), (27, .iconst 0, 0), (28, .iconst 2, 0), (29, .invokevirtual 35, 0), (32, .ifCond .eq 7, 39), (35, .iconst 0, 0), (36, .goto 13, 49), (39, .aload_n 0, 0), (40, .aload_n 0, 0), (41, .invokevirtual 79, 0), (44, .iload_n 1, 0), (45, .iload_n 2, 0), (46, .invokevirtual 64, 0), (49, .ireturn, 0)]
theorem kkX5_ways : mm_chk cX5_ways kdX5_ways = true := by decide +kernel
def kdX5_odd : List mm_E := [(0, .aload_n 0, 0), (1, .iconst 0, 0), (2, .putfield 32, 0), (5, .aload_n 0, 0), (6, .aload_n 0, 0), (7, .invokevirtual 79, 0), (10, .invokevirtual 75, 0), (13, .ireturn, 0)]
theorem kkX5_odd : mm_chk cX5_odd kdX5_odd = true := by decide +kernel
def kdX5_hangs : List mm_E := [(0, .aload_n 0, 0), (1, .iconst 0, 0), (2, .putfield 32, 0), (5, .aload_n 0, 0), (6, .aload_n 0, 0), (7, .invokevirtual 79, 0), (10, .invokevirtual 71, 0), (13, .ireturn, 0)]
theorem kkX5_hangs : mm_chk cX5_hangs kdX5_hangs = true := by decide +kernel
def kdX5_kind : List mm_E := [(0, .aload_n 0, 0), (1, .iconst 0, 0), (2, .putfield 32, 0), (5, .aload_n 0, 0), (6, .invokevirtual 172, 0), (9, .ireturn, 0)]
theorem kkX5_kind : mm_chk cX5_kind kdX5_kind = true := by decide +kernel
def kdX5_isStart : List mm_E := [(0, .aload_n 0, 0), (1, .aload_n 0, 0), (2, .iload_n 1, 0), (3, .invokevirtual 143, 0), (6, .iconst 1, 0), (7, .invokevirtual 146, 0), (10, .ifCond .ne 19, 29), (13, .aload_n 0, 0), (14, .aload_n 0, 0), (15, .invokevirtual 79, 0), (18, .iload_n 1, 0), (19, .invokevirtual 83, 0), (22, .ifCond .eq 7, 29), (25, .iconst 1, 0), (26, .goto 4, 30), (29, .iconst 0, 0), (30, .ireturn, 0)]
theorem kkX5_isStart : mm_chk cX5_isStart kdX5_isStart = true := by decide +kernel
def kdX5_ruleOf : List mm_E := [(0, .iload_n 1, 0), (1, .ifCond .ne 10, 11), (4, .aload_n 0, 0), (5, .getfield 89, 0), (8, .goto 22, 30), (11, .iload_n 1, 0), (12, .iconst 1, 0), (13, .if_icmp .ne 10, 23), (16, .aload_n 0, 0), (17, .getfield 92, 0), (20, .goto 10, 30), (23, .aload_n 0, 0), (24, .getfield 60, 0), (27, .invokestatic 56, 0), (30, .ireturn, 0)]
theorem kkX5_ruleOf : mm_chk cX5_ruleOf kdX5_ruleOf = true := by decide +kernel
def kdX5_rule : List mm_E := [(0, .aload_n 0, 0), (1, .iload_n 1, 0), (2, .iconst 0, 0), (3, .iconst 2, 0), (4, .invokestatic 45, 0), (7, .ifCond .ne 7, 14), (10, .iconst 1, 0), (11, .goto 4, 15), (14, .iconst 0, 0), (15, .iconst 1, 0), (16, .invokevirtual 146, 0), (19, .ifCond .eq 7, 26), (22, .iconst 0, 0), (23, .goto 8, 31), (26, .aload_n 0, 0), (27, .iload_n 1, 0), (28, .invokevirtual 175, 0), (31, .ireturn, 0)]
theorem kkX5_rule : mm_chk cX5_rule kdX5_rule = true := by decide +kernel
def kdX5_begin : List mm_E := [(0, .aload_n 0, 0), (1, .aload_n 0, 0), (2, .iload_n 1, 0), (3, .invokevirtual 178, 0), (6, .ifCond .ne 11, 17), (9, .aload_n 0, 0), (10, .iload_n 2, 0), (11, .invokevirtual 143, 0), (14, .ifCond .eq 7, 21), (17, .iconst 1, 0), (18, .goto 4, 22), (21, .iconst 0, 0), (22, .iconst 1, 0), (23, .invokevirtual 146, 0), (26, .ifCond .eq 5, 31), (29, .iconst 0, 0), (30, .ireturn, 0), (31, .aload_n 0, 0), (32, .getfield 19, 0), (35, .iload_n 1, 0), (36, .iaload, 0), (37, .istore_n 3, 0), (38, .iload_n 3, 0), (39, .ifCond .le 8, 47), (42, .aload_n 0, 0), (43, .iload_n 1, 0), (44, .invokevirtual 181, 0), (47, .aload_n 0, 0), (48, .getfield 19, 0), (51, .iload_n 1, 0), (52, .iconst 0, 0), (53, .iastore, 0), (54, .aload_n 0, 0), (55, .getfield 22, 0), (58, .iload_n 1, 0), (59, .iload_n 2, 0), (60, .iastore, 0), (61, .aload_n 0, 0), (62, .iload_n 3, 0), (63, .invokevirtual 156, 0), (66, .ireturn, 0)]
theorem kkX5_begin : mm_chk cX5_begin kdX5_begin = true := by decide +kernel
def kdX5_step : List mm_E := [(0, .aload_n 0, 0), (1, .aload_n 0, 0), (2, .iload_n 1, 0), (3, .invokevirtual 178, 0), (6, .ifCond .ne 11, 17), (9, .aload_n 0, 0), (10, .iload_n 2, 0), (11, .invokevirtual 162, 0), (14, .ifCond .eq 7, 21), (17, .iconst 1, 0), (18, .goto 4, 22), (21, .iconst 0, 0), (22, .iconst 1, 0), (23, .invokevirtual 146, 0), (26, .ifCond .eq 5, 31), (29, .iconst 0, 0), (30, .ireturn, 0), (31, .iload_n 3, 0), (32, .ifCond .eq 17, 49), (35, .aload_n 0, 0), (36, .iload_n 2, 0), (37, .aload_n 0, 0), (38, .getfield 22, 0), (41, .iload_n 1, 0), (42, .iaload, 0), (43, .invokevirtual 184, 0), (46, .goto 13, 59), (49, .aload_n 0, 0), (50, .iload_n 2, 0), (51, .aload_n 0, 0), (52, .iload_n 1, 0), (53, .invokevirtual 108, 0), (56, .invokevirtual 124, 0), (59, .istore 4, 0), (61, .aload_n 0, 0), (62, .iload_n 1, 0), (63, .iload_n 2, 0), (64, .invokevirtual 165, 0), (67, .iconst (-1), 0), (68, .if_icmp .ne 9, 77), (71, .iload 4, 0), (73, .iconst (-1), 0), (74, .if_icmp .ne 8, 82), (77, .aload_n 0, 0), (78, .invokevirtual 149, 0), (81, .ireturn, 0), (82, .aload_n 0, 0), (83, .iload_n 1, 0), (84, .iload_n 3, 0), (85, .ifCond .eq 7, 92), (88, .iconst 0, 0), (89, .goto 9, 98), (92, .aload_n 0, 0), (93, .getfield 19, 0), (96, .iload_n 1, 0), (97, .iaload, 0), (98, .iload 4, 0), (100, .invokevirtual 120, 0), (103, .iload_n 3, 0), (104, .ifCond .eq 15, 119), (107, .aload_n 0, 0), (108, .getfield 22, 0), (111, .iload_n 1, 0), (112, .aload_n 0, 0), (113, .iload 4, 0), (115, .invokevirtual 187, 0), (118, .iastore, 0), (119, .aload_n 0, 0), (120, .iload_n 1, 0), (121, .invokevirtual 181, 0), (124, .aload_n 0, 0), (125, .iload_n 3, 0), (126, .ifCond .eq 12, 138), (129, .aload_n 0, 0), (130, .getfield 22, 0), (133, .iload_n 1, 0), (134, .iaload, 0), (135, .goto 8, 143), (138, .aload_n 0, 0), (139, .iload_n 1, 0), (140, .invokevirtual 108, 0), (143, .invokevirtual 156, 0), (146, .ireturn, 0)]
theorem kkX5_step : mm_chk cX5_step kdX5_step = true := by decide +kernel
def kdX5_back : List mm_E := [(0, .aload_n 0, 0), (1, .aload_n 0, 0), (2, .iload_n 1, 0), (3, .invokevirtual 178, 0), (6, .iconst 1, 0), (7, .invokevirtual 146, 0), (10, .ifCond .eq 5, 15), (13, .iconst 0, 0), (14, .ireturn, 0), (15, .aload_n 0, 0), (16, .getfield 19, 0), (19, .iload_n 1, 0), (20, .iaload, 0), (21, .ifCond .ne 8, 29), (24, .aload_n 0, 0), (25, .invokevirtual 149, 0), (28, .ireturn, 0), (29, .aload_n 0, 0), (30, .iload_n 1, 0), (31, .iload_n 2, 0), (32, .ifCond .eq 7, 39), (35, .iconst 0, 0), (36, .goto 11, 47), (39, .aload_n 0, 0), (40, .getfield 19, 0), (43, .iload_n 1, 0), (44, .iaload, 0), (45, .iconst 1, 0), (46, .isub, 0), (47, .invokevirtual 117, 0), (50, .istore_n 3, 0), (51, .iload_n 2, 0), (52, .ifCond .eq 14, 66), (55, .aload_n 0, 0), (56, .getfield 22, 0), (59, .iload_n 1, 0), (60, .aload_n 0, 0), (61, .iload_n 3, 0), (62, .invokevirtual 102, 0), (65, .iastore, 0), (66, .aload_n 0, 0), (67, .iload_n 1, 0), (68, .invokevirtual 181, 0), (71, .aload_n 0, 0), (72, .iload_n 3, 0), (73, .invokevirtual 156, 0), (76, .ireturn, 0)]
theorem kkX5_back : mm_chk cX5_back kdX5_back = true := by decide +kernel
def kdX5_on : List mm_E := [(0, .aload_n 0, 0), (1, .aload_n 0, 0), (2, .iload_n 1, 0), (3, .invokevirtual 178, 0), (6, .iconst 1, 0), (7, .invokevirtual 146, 0), (10, .ifCond .eq 5, 15), (13, .iconst 0, 0), (14, .ireturn, 0), (15, .aload_n 0, 0), (16, .iload_n 1, 0), (17, .aload_n 0, 0), (18, .getfield 19, 0), (21, .iload_n 1, 0), (22, .iaload, 0), (23, .iload_n 2, 0), (24, .invokevirtual 127, 0), (27, .istore_n 3, 0), (28, .iload_n 3, 0), (29, .ifCond .le 8, 37), (32, .aload_n 0, 0), (33, .iload_n 1, 0), (34, .invokevirtual 181, 0), (37, .aload_n 0, 0), (38, .iload_n 3, 0), (39, .invokevirtual 156, 0), (42, .ireturn, 0)]
theorem kkX5_on : mm_chk cX5_on kdX5_on = true := by decide +kernel
def kdX5_complete : List mm_E := [(0, .aload_n 0, 0), (1, .aload_n 0, 0), (2, .iload_n 1, 0), (3, .invokevirtual 178, 0), (6, .iconst 1, 0), (7, .invokevirtual 146, 0), (10, .ifCond .eq 5, 15), (13, .iconst 0, 0), (14, .ireturn, 0), (15, .aload_n 0, 0), (16, .aload_n 0, 0), (17, .invokevirtual 79, 0), (20, .aload_n 0, 0), (21, .getfield 22, 0), (24, .iload_n 1, 0), (25, .iaload, 0), (26, .invokevirtual 83, 0), (29, .ifCond .ne 8, 37), (32, .aload_n 0, 0), (33, .invokevirtual 149, 0), (36, .ireturn, 0), (37, .aload_n 0, 0), (38, .iload_n 1, 0), (39, .iload_n 2, 0), (40, .invokevirtual 190, 0), (43, .istore_n 3, 0), (44, .iload_n 3, 0), (45, .ifCond .le 8, 53), (48, .aload_n 0, 0), (49, .iload_n 1, 0), (50, .invokevirtual 181, 0), (53, .aload_n 0, 0), (54, .iload_n 3, 0), (55, .invokevirtual 156, 0), (58, .ireturn, 0)]
theorem kkX5_complete : mm_chk cX5_complete kdX5_complete = true := by decide +kernel
def kdX5_isNoRound : List mm_E := [(0, .iload_n 1, 0), (1, .iload_n 2, 0), (2, .if_icmp .eq 34, 36), (5, .aload_n 0, 0), (6, .getfield 19, 0), (9, .iload_n 2, 0), (10, .iaload, 0), (11, .ifCond .eq 25, 36), (14, .aload_n 0, 0), (15, .iload_n 2, 0), (16, .invokevirtual 137, 0), (19, .ifCond .eq 17, 36), (22, .aload_n 0, 0), (23, .iload_n 1, 0), (24, .invokevirtual 111, 0), (27, .aload_n 0, 0), (28, .iload_n 2, 0), (29, .invokevirtual 111, 0), (32, .iand, 0), (33, .ifCond .eq 7, 40), (36, .iconst 1, 0), (37, .goto 4, 41), (40, .iconst 0, 0), (41, .ireturn, 0)]
theorem kkX5_isNoRound : mm_chk cX5_isNoRound kdX5_isNoRound = true := by decide +kernel
def kdX5_spliced : List mm_E := [(0, .iconst 0, 0), (1, .istore 4, 0), (3, .iload 4, 0), (5, .aload_n 0, 0), (6, .getfield 19, 0), (9, .iload_n 2, 0), (10, .iaload, 0), (11, .if_icmp .ge 25, 36), (14, .aload_n 0, 0), (15, .iload_n 1, 0), (16, .iload_n 3, 0), (17, .iload 4, 0), (19, .iadd, 0), (20, .aload_n 0, 0), (21, .iload_n 2, 0), (22, .iload 4, 0), (24, .invokevirtual 98, 0), (27, .invokevirtual 120, 0), (30, .iinc 4 1, 0), (33, .goto (-30), 3), (36, .aload_n 0, 0), (37, .getfield 19, 0), (40, .iload_n 2, 0), (41, .iconst 0, 0), (42, .iastore, 0), (43, .aload_n 0, 0), (44, .iload_n 1, 0), (45, .invokevirtual 181, 0), (48, .aload_n 0, 0), (49, .iload_n 2, 0), (50, .invokevirtual 181, 0), (53, .return_, 0)]
theorem kkX5_spliced : mm_chk cX5_spliced kdX5_spliced = true := by decide +kernel
def kdX5_splice : List mm_E := [(0, .aload_n 0, 0), (1, .aload_n 0, 0), (2, .iload_n 1, 0), (3, .invokevirtual 178, 0), (6, .ifCond .ne 25, 31), (9, .aload_n 0, 0), (10, .iload_n 2, 0), (11, .invokevirtual 178, 0), (14, .ifCond .ne 17, 31), (17, .iload_n 3, 0), (18, .iconst 0, 0), (19, .aload_n 0, 0), (20, .getfield 19, 0), (23, .iload_n 1, 0), (24, .iaload, 0), (25, .invokestatic 45, 0), (28, .ifCond .ne 7, 35), (31, .iconst 1, 0), (32, .goto 4, 36), (35, .iconst 0, 0), (36, .iconst 1, 0), (37, .invokevirtual 146, 0), (40, .ifCond .eq 5, 45), (43, .iconst 0, 0), (44, .ireturn, 0), (45, .aload_n 0, 0), (46, .iload_n 1, 0), (47, .iload_n 2, 0), (48, .invokevirtual 194, 0), (51, .ifCond .ne 18, 69), (54, .aload_n 0, 0), (55, .getfield 22, 0), (58, .iload_n 2, 0), (59, .iaload, 0), (60, .aload_n 0, 0), (61, .iload_n 1, 0), (62, .iload_n 3, 0), (63, .invokevirtual 105, 0), (66, .if_icmp .eq 8, 74), (69, .aload_n 0, 0), (70, .invokevirtual 149, 0), (73, .ireturn, 0), (74, .aload_n 0, 0), (75, .iload_n 1, 0), (76, .iload_n 2, 0), (77, .iload_n 3, 0), (78, .invokevirtual 197, 0), (81, .aload_n 0, 0), (82, .aload_n 0, 0), (83, .getfield 19, 0), (86, .iload_n 1, 0), (87, .iaload, 0), (88, .invokevirtual 156, 0), (91, .ireturn, 0)]
theorem kkX5_splice : mm_chk cX5_splice kdX5_splice = true := by decide +kernel
def kdX5_join : List mm_E := [(0, .aload_n 0, 0), (1, .aload_n 0, 0), (2, .iload_n 1, 0), (3, .invokevirtual 178, 0), (6, .ifCond .ne 11, 17), (9, .aload_n 0, 0), (10, .iload_n 2, 0), (11, .invokevirtual 178, 0), (14, .ifCond .eq 7, 21), (17, .iconst 1, 0), (18, .goto 4, 22), (21, .iconst 0, 0), (22, .iconst 1, 0), (23, .invokevirtual 146, 0), (26, .ifCond .eq 5, 31), (29, .iconst 0, 0), (30, .ireturn, 0), (31, .aload_n 0, 0), (32, .iload_n 1, 0), (33, .iload_n 2, 0), (34, .invokevirtual 194, 0), (37, .ifCond .eq 8, 45), (40, .aload_n 0, 0), (41, .invokevirtual 149, 0), (44, .ireturn, 0), (45, .iconst 0, 0), (46, .istore_n 3, 0), (47, .iload_n 3, 0), (48, .aload_n 0, 0), (49, .getfield 19, 0), (52, .iload_n 1, 0), (53, .iaload, 0), (54, .if_icmp .gt 68, 122), (57, .iconst 0, 0), (58, .istore 4, 0), (60, .iload 4, 0), (62, .aload_n 0, 0), (63, .getfield 19, 0), (66, .iload_n 2, 0), (67, .iaload, 0), (68, .if_icmp .ge 48, 116), (71, .aload_n 0, 0), (72, .iload_n 1, 0), (73, .iload_n 3, 0), (74, .invokevirtual 105, 0), (77, .aload_n 0, 0), (78, .iload_n 2, 0), (79, .iload 4, 0), (81, .invokevirtual 105, 0), (84, .if_icmp .eq 6, 90), (87, .goto 23, 110), (90, .aload_n 0, 0), (91, .iload_n 2, 0), (92, .iload 4, 0), (94, .invokevirtual 200, 0), (97, .aload_n 0, 0), (98, .iload_n 1, 0), (99, .iload_n 2, 0), (100, .iload_n 3, 0), (101, .invokevirtual 197, 0), (104, .aload_n 0, 0), (105, .iload_n 3, 0), (106, .invokevirtual 156, 0), (109, .ireturn, 0), (110, .iinc 4 1, 0), (113, .goto (-53), 60), (116, .iinc 3 1, 0), (119, .goto (-72), 47), (122, .aload_n 0, 0), (123, .invokevirtual 149, 0), (126, .ireturn, 0)]
theorem kkX5_join : mm_chk cX5_join kdX5_join = true := by decide +kernel
def kdX5_cut : List mm_E := [(0, .aload_n 0, 0), (1, .aload_n 0, 0), (2, .iload_n 1, 0), (3, .invokevirtual 178, 0), (6, .ifCond .ne 40, 46), (9, .aload_n 0, 0), (10, .iload 4, 0), (12, .invokevirtual 178, 0), (15, .ifCond .ne 31, 46), (18, .iload_n 2, 0), (19, .iconst 0, 0), (20, .aload_n 0, 0), (21, .getfield 19, 0), (24, .iload_n 1, 0), (25, .iaload, 0), (26, .invokestatic 45, 0), (29, .ifCond .eq 17, 46), (32, .iload_n 3, 0), (33, .iconst 0, 0), (34, .aload_n 0, 0), (35, .getfield 19, 0), (38, .iload_n 1, 0), (39, .iaload, 0), (40, .invokestatic 45, 0), (43, .ifCond .ne 7, 50), (46, .iconst 1, 0), (47, .goto 4, 51), (50, .iconst 0, 0), (51, .iconst 1, 0), (52, .invokevirtual 146, 0), (55, .ifCond .eq 5, 60), (58, .iconst 0, 0), (59, .ireturn, 0), (60, .iload_n 1, 0), (61, .iload 4, 0), (63, .if_icmp .eq 23, 86), (66, .iload_n 2, 0), (67, .iload_n 3, 0), (68, .if_icmp .ge 18, 86), (71, .aload_n 0, 0), (72, .iload_n 1, 0), (73, .iload_n 2, 0), (74, .invokevirtual 105, 0), (77, .aload_n 0, 0), (78, .iload_n 1, 0), (79, .iload_n 3, 0), (80, .invokevirtual 105, 0), (83, .if_icmp .eq 8, 91), (86, .aload_n 0, 0), (87, .invokevirtual 149, 0), (90, .ireturn, 0), (91, .aload_n 0, 0), (92, .getfield 22, 0), (95, .iload 4, 0), (97, .aload_n 0, 0), (98, .iload_n 1, 0), (99, .iload_n 2, 0), (100, .invokevirtual 105, 0), (103, .iastore, 0), (104, .aload_n 0, 0), (105, .getfield 19, 0), (108, .iload 4, 0), (110, .iconst 0, 0), (111, .iastore, 0), (112, .iload_n 2, 0), (113, .istore 5, 0), (115, .iload 5, 0), (117, .iload_n 3, 0), (118, .if_icmp .ge 28, 146), (121, .aload_n 0, 0), (122, .iload 4, 0), (124, .aload_n 0, 0), (125, .getfield 19, 0), (128, .iload 4, 0), (130, .iaload, 0), (131, .aload_n 0, 0), (132, .iload_n 1, 0), (133, .iload_n 2, 0), (134, .invokevirtual 117, 0), (137, .invokevirtual 120, 0), (140, .iinc 5 1, 0), (143, .goto (-28), 115), (146, .aload_n 0, 0), (147, .iload_n 1, 0), (148, .invokevirtual 181, 0), (151, .aload_n 0, 0), (152, .iload 4, 0), (154, .invokevirtual 181, 0), (157, .aload_n 0, 0), (158, .iload_n 3, 0), (159, .iload_n 2, 0), (160, .isub, 0), (161, .invokevirtual 156, 0), (164, .ireturn, 0)]
theorem kkX5_cut : mm_chk cX5_cut kdX5_cut = true := by decide +kernel
def kdX5_turnRound : List mm_E := [(0, .aload_n 0, 0), (1, .aload_n 0, 0), (2, .iload_n 1, 0), (3, .invokevirtual 178, 0), (6, .iconst 1, 0), (7, .invokevirtual 146, 0), (10, .ifCond .eq 5, 15), (13, .iconst 0, 0), (14, .ireturn, 0), (15, .aload_n 0, 0), (16, .getfield 60, 0), (19, .ifCond .eq 8, 27), (22, .aload_n 0, 0), (23, .invokevirtual 149, 0), (26, .ireturn, 0), (27, .aload_n 0, 0), (28, .iload_n 1, 0), (29, .invokevirtual 168, 0), (32, .iconst 0, 0), (33, .istore_n 2, 0), (34, .iload_n 2, 0), (35, .aload_n 0, 0), (36, .getfield 19, 0), (39, .iload_n 1, 0), (40, .iaload, 0), (41, .if_icmp .ge 55, 96), (44, .aload_n 0, 0), (45, .iload_n 1, 0), (46, .iload_n 2, 0), (47, .invokevirtual 98, 0), (50, .istore_n 3, 0), (51, .aload_n 0, 0), (52, .iload_n 3, 0), (53, .invokevirtual 187, 0), (56, .aload_n 0, 0), (57, .iload_n 3, 0), (58, .invokevirtual 102, 0), (61, .if_icmp .eq 29, 90), (64, .aload_n 0, 0), (65, .getfield 16, 0), (68, .iload_n 1, 0), (69, .bipush 30, 0), (71, .imul, 0), (72, .iload_n 2, 0), (73, .iadd, 0), (74, .iload_n 3, 0), (75, .iconst 2, 0), (76, .irem, 0), (77, .ifCond .ne 9, 86), (80, .iload_n 3, 0), (81, .iconst 1, 0), (82, .iadd, 0), (83, .goto 6, 89), (86, .iload_n 3, 0), (87, .iconst 1, 0), (88, .isub, 0), (89, .iastore, 0), (90, .iinc 2 1, 0), (93, .goto (-59), 34), (96, .aload_n 0, 0), (97, .aload_n 0, 0), (98, .getfield 22, 0), (101, .iload_n 1, 0), (102, .iaload, 0), (103, .invokevirtual 156, 0), (106, .ireturn, 0)]
theorem kkX5_turnRound : mm_chk cX5_turnRound kdX5_turnRound = true := by decide +kernel
def kdX5_rotate : List mm_E := [(0, .aload_n 0, 0), (1, .aload_n 0, 0), (2, .iload_n 1, 0), (3, .invokevirtual 178, 0), (6, .iconst 1, 0), (7, .invokevirtual 146, 0), (10, .ifCond .ne 26, 36), (13, .aload_n 0, 0), (14, .iload_n 2, 0), (15, .iconst 0, 0), (16, .bipush 30, 0), (18, .invokestatic 45, 0), (21, .ifCond .ne 7, 28), (24, .iconst 1, 0), (25, .goto 4, 29), (28, .iconst 0, 0), (29, .iconst 2, 0), (30, .invokevirtual 35, 0), (33, .ifCond .eq 5, 38), (36, .iconst 0, 0), (37, .ireturn, 0), (38, .aload_n 0, 0), (39, .iload_n 1, 0), (40, .invokevirtual 137, 0), (43, .ifCond .ne 8, 51), (46, .aload_n 0, 0), (47, .invokevirtual 149, 0), (50, .ireturn, 0), (51, .aload_n 0, 0), (52, .iload_n 1, 0), (53, .iload_n 2, 0), (54, .invokevirtual 200, 0), (57, .iload_n 2, 0), (58, .ifCond .le 17, 75), (61, .aload_n 0, 0), (62, .getfield 19, 0), (65, .iload_n 1, 0), (66, .iaload, 0), (67, .ifCond .le 8, 75), (70, .aload_n 0, 0), (71, .iload_n 1, 0), (72, .invokevirtual 181, 0), (75, .aload_n 0, 0), (76, .aload_n 0, 0), (77, .getfield 22, 0), (80, .iload_n 1, 0), (81, .iaload, 0), (82, .invokevirtual 156, 0), (85, .ireturn, 0)]
theorem kkX5_rotate : mm_chk cX5_rotate kdX5_rotate = true := by decide +kernel
def kdX5_first : List mm_E := [(0, .aload_n 0, 0), (1, .aload_n 0, 0), (2, .iload_n 1, 0), (3, .invokevirtual 178, 0), (6, .ifCond .ne 11, 17), (9, .aload_n 0, 0), (10, .iload_n 2, 0), (11, .invokevirtual 143, 0), (14, .ifCond .eq 7, 21), (17, .iconst 1, 0), (18, .goto 4, 22), (21, .iconst 0, 0), (22, .iconst 1, 0), (23, .invokevirtual 146, 0), (26, .ifCond .eq 5, 31), (29, .iconst 0, 0), (30, .ireturn, 0), (31, .aload_n 0, 0), (32, .aload_n 0, 0), (33, .invokevirtual 79, 0), (36, .iload_n 2, 0), (37, .invokevirtual 83, 0), (40, .ifCond .ne 8, 48), (43, .aload_n 0, 0), (44, .invokevirtual 149, 0), (47, .ireturn, 0), (48, .aload_n 0, 0), (49, .getfield 19, 0), (52, .iload_n 1, 0), (53, .iaload, 0), (54, .ifCond .gt 10, 64), (57, .aload_n 0, 0), (58, .getfield 49, 0), (61, .ifCond .le 8, 69), (64, .aload_n 0, 0), (65, .iload_n 1, 0), (66, .invokevirtual 181, 0), (69, .aload_n 0, 0), (70, .getfield 22, 0), (73, .iload_n 1, 0), (74, .iload_n 2, 0), (75, .iastore, 0), (76, .aload_n 0, 0), (77, .getfield 19, 0), (80, .iload_n 1, 0), (81, .iconst 0, 0), (82, .iastore, 0), (83, .aload_n 0, 0), (84, .iload_n 1, 0), (85, .iload_n 3, 0), (86, .invokevirtual 203, 0), (89, .aload_n 0, 0), (90, .aload_n 0, 0), (91, .getfield 19, 0), (94, .iload_n 1, 0), (95, .iaload, 0), (96, .invokevirtual 156, 0), (99, .ireturn, 0)]
theorem kkX5_first : mm_chk cX5_first kdX5_first = true := by decide +kernel
def kdX5_next : List mm_E := [(0, .aload_n 0, 0), (1, .aload_n 0, 0), (2, .iload_n 1, 0), (3, .invokevirtual 178, 0), (6, .iconst 1, 0), (7, .invokevirtual 146, 0), (10, .ifCond .eq 5, 15), (13, .iconst 0, 0), (14, .ireturn, 0), (15, .aload_n 0, 0), (16, .iload_n 1, 0), (17, .invokevirtual 207, 0), (20, .ifCond .ne 8, 28), (23, .aload_n 0, 0), (24, .invokevirtual 149, 0), (27, .ireturn, 0), (28, .aload_n 0, 0), (29, .iload_n 1, 0), (30, .iconst 3, 0), (31, .invokevirtual 210, 0), (34, .aload_n 0, 0), (35, .getfield 19, 0), (38, .iload_n 1, 0), (39, .iaload, 0), (40, .iconst 1, 0), (41, .isub, 0), (42, .istore_n 3, 0), (43, .iload_n 3, 0), (44, .ifCond .lt 89, 133), (47, .aload_n 0, 0), (48, .iload_n 1, 0), (49, .iload_n 3, 0), (50, .invokevirtual 98, 0), (53, .iconst 2, 0), (54, .idiv, 0), (55, .istore 4, 0), (57, .aload_n 0, 0), (58, .getfield 19, 0), (61, .iconst 3, 0), (62, .iload_n 3, 0), (63, .iastore, 0), (64, .aload_n 0, 0), (65, .iconst 3, 0), (66, .iload_n 2, 0), (67, .ifCond .eq 10, 77), (70, .iload 4, 0), (72, .iconst 1, 0), (73, .iadd, 0), (74, .goto 7, 81), (77, .iload 4, 0), (79, .iconst 1, 0), (80, .isub, 0), (81, .iload_n 2, 0), (82, .invokevirtual 131, 0), (85, .istore 5, 0), (87, .iload 5, 0), (89, .iconst (-1), 0), (90, .if_icmp .ne 6, 96), (93, .goto 34, 127), (96, .aload_n 0, 0), (97, .iconst 3, 0), (98, .iload_n 3, 0), (99, .iload 5, 0), (101, .invokevirtual 120, 0), (104, .aload_n 0, 0), (105, .iconst 3, 0), (106, .iload_n 2, 0), (107, .invokevirtual 203, 0), (110, .aload_n 0, 0), (111, .iconst 3, 0), (112, .iload_n 1, 0), (113, .invokevirtual 210, 0), (116, .aload_n 0, 0), (117, .iload_n 1, 0), (118, .invokevirtual 181, 0), (121, .aload_n 0, 0), (122, .iload_n 3, 0), (123, .invokevirtual 156, 0), (126, .ireturn, 0), (127, .iinc 3 (-1), 0), (130, .goto (-87), 43), (133, .aload_n 0, 0), (134, .invokevirtual 149, 0), (137, .ireturn, 0)]
theorem kkX5_next : mm_chk cX5_next kdX5_next = true := by decide +kernel
def kdX5_copy : List mm_E := [(0, .aload_n 0, 0), (1, .aload_n 0, 0), (2, .iload_n 1, 0), (3, .invokevirtual 178, 0), (6, .ifCond .ne 11, 17), (9, .aload_n 0, 0), (10, .iload_n 2, 0), (11, .invokevirtual 178, 0), (14, .ifCond .eq 7, 21), (17, .iconst 1, 0), (18, .goto 4, 22), (21, .iconst 0, 0), (22, .iconst 1, 0), (23, .invokevirtual 146, 0), (26, .ifCond .eq 5, 31), (29, .iconst 0, 0), (30, .ireturn, 0), (31, .iload_n 1, 0), (32, .iload_n 2, 0), (33, .if_icmp .ne 8, 41), (36, .aload_n 0, 0), (37, .invokevirtual 149, 0), (40, .ireturn, 0), (41, .aload_n 0, 0), (42, .getfield 19, 0), (45, .iload_n 1, 0), (46, .iaload, 0), (47, .ifCond .gt 12, 59), (50, .aload_n 0, 0), (51, .getfield 19, 0), (54, .iload_n 2, 0), (55, .iaload, 0), (56, .ifCond .le 8, 64), (59, .aload_n 0, 0), (60, .iload_n 2, 0), (61, .invokevirtual 181, 0), (64, .aload_n 0, 0), (65, .iload_n 1, 0), (66, .iload_n 2, 0), (67, .invokevirtual 210, 0), (70, .aload_n 0, 0), (71, .aload_n 0, 0), (72, .getfield 19, 0), (75, .iload_n 2, 0), (76, .iaload, 0), (77, .invokevirtual 156, 0), (80, .ireturn, 0)]
theorem kkX5_copy : mm_chk cX5_copy kdX5_copy = true := by decide +kernel
def kdX5_length : List mm_E := [(0, .aload_n 0, 0), (1, .aload_n 0, 0), (2, .iload_n 1, 0), (3, .invokevirtual 178, 0), (6, .iconst 1, 0), (7, .invokevirtual 146, 0), (10, .ifCond .eq 7, 17), (13, .iconst 0, 0), (14, .goto 9, 23), (17, .aload_n 0, 0), (18, .getfield 19, 0), (21, .iload_n 1, 0), (22, .iaload, 0), (23, .ireturn, 0)]
theorem kkX5_length : mm_chk cX5_length kdX5_length = true := by decide +kernel
def kdX5_cornerAt : List mm_E := [(0, .aload_n 0, 0), (1, .aload_n 0, 0), (2, .iload_n 1, 0), (3, .invokevirtual 178, 0), (6, .ifCond .ne 17, 23), (9, .iload_n 2, 0), (10, .iconst 0, 0), (11, .aload_n 0, 0), (12, .getfield 19, 0), (15, .iload_n 1, 0), (16, .iaload, 0), (17, .invokestatic 45, 0), (20, .ifCond .ne 7, 27), (23, .iconst 1, 0), (24, .goto 4, 28), (27, .iconst 0, 0), (28, .iconst 1, 0), (29, .invokevirtual 146, 0), (32, .ifCond .eq 7, 39), (35, .iconst 0, 0), (36, .goto 9, 45), (39, .aload_n 0, 0), (40, .iload_n 1, 0), (41, .iload_n 2, 0), (42, .invokevirtual 105, 0), (45, .ireturn, 0)]
theorem kkX5_cornerAt : mm_chk cX5_cornerAt kdX5_cornerAt = true := by decide +kernel
def kdX5_stepAt : List mm_E := [(0, .aload_n 0, 0), (1, .aload_n 0, 0), (2, .iload_n 1, 0), (3, .invokevirtual 178, 0), (6, .ifCond .ne 19, 25), (9, .iload_n 2, 0), (10, .iconst 0, 0), (11, .aload_n 0, 0), (12, .getfield 19, 0), (15, .iload_n 1, 0), (16, .iaload, 0), (17, .iconst 1, 0), (18, .isub, 0), (19, .invokestatic 45, 0), (22, .ifCond .ne 7, 29), (25, .iconst 1, 0), (26, .goto 4, 30), (29, .iconst 0, 0), (30, .iconst 1, 0), (31, .invokevirtual 146, 0), (34, .ifCond .eq 7, 41), (37, .iconst 0, 0), (38, .goto 9, 47), (41, .aload_n 0, 0), (42, .iload_n 1, 0), (43, .iload_n 2, 0), (44, .invokevirtual 98, 0), (47, .ireturn, 0)]
theorem kkX5_stepAt : mm_chk cX5_stepAt kdX5_stepAt = true := by decide +kernel
def kdX5_find : List mm_E := [(0, .aload_n 0, 0), (1, .aload_n 0, 0), (2, .iload_n 1, 0), (3, .invokevirtual 178, 0), (6, .ifCond .ne 11, 17), (9, .aload_n 0, 0), (10, .iload_n 2, 0), (11, .invokevirtual 162, 0), (14, .ifCond .eq 7, 21), (17, .iconst 1, 0), (18, .goto 4, 22), (21, .iconst 0, 0), (22, .iconst 1, 0), (23, .invokevirtual 146, 0), (26, .ifCond .eq 7, 33), (29, .iconst 0, 0), (30, .goto 9, 39), (33, .aload_n 0, 0), (34, .iload_n 1, 0), (35, .iload_n 2, 0), (36, .invokevirtual 165, 0), (39, .ireturn, 0)]
theorem kkX5_find : mm_chk cX5_find kdX5_find = true := by decide +kernel
def kdX5_is : List mm_E := [(0, .aload_n 0, 0), (1, .aload_n 0, 0), (2, .iload_n 1, 0), (3, .invokevirtual 178, 0), (6, .iconst 1, 0), (7, .invokevirtual 146, 0), (10, .ifCond .eq 5, 15), (13, .iconst 0, 0), (14, .ireturn, 0), (15, .iload_n 2, 0), (16, .ifCond .eq 11, 27), (19, .aload_n 0, 0), (20, .iload_n 1, 0), (21, .invokevirtual 207, 0), (24, .goto 8, 32), (27, .aload_n 0, 0), (28, .iload_n 1, 0), (29, .invokevirtual 137, 0), (32, .ireturn, 0)]
theorem kkX5_is : mm_chk cX5_is kdX5_is = true := by decide +kernel
def kdX5_same : List mm_E := [(0, .aload_n 0, 0), (1, .aload_n 0, 0), (2, .iload_n 1, 0), (3, .invokevirtual 178, 0), (6, .ifCond .ne 11, 17), (9, .aload_n 0, 0), (10, .iload_n 2, 0), (11, .invokevirtual 178, 0), (14, .ifCond .eq 7, 21), (17, .iconst 1, 0), (18, .goto 4, 22), (21, .iconst 0, 0), (22, .iconst 1, 0), (23, .invokevirtual 146, 0), (26, .ifCond .ne 16, 42), (29, .aload_n 0, 0), (30, .iload_n 1, 0), (31, .iload_n 2, 0), (32, .invokevirtual 134, 0), (35, .ifCond .eq 7, 42), (38, .iconst 1, 0), (39, .goto 4, 43), (42, .iconst 0, 0), (43, .ireturn, 0)]
theorem kkX5_same : mm_chk cX5_same kdX5_same = true := by decide +kernel
def kdX5_turnOf : List mm_E := [(0, .aload_n 0, 0), (1, .aload_n 0, 0), (2, .iload_n 1, 0), (3, .invokevirtual 178, 0), (6, .ifCond .ne 11, 17), (9, .aload_n 0, 0), (10, .iload_n 2, 0), (11, .invokevirtual 178, 0), (14, .ifCond .eq 7, 21), (17, .iconst 1, 0), (18, .goto 4, 22), (21, .iconst 0, 0), (22, .iconst 1, 0), (23, .invokevirtual 146, 0), (26, .ifCond .eq 7, 33), (29, .iconst 0, 0), (30, .goto 9, 39), (33, .aload_n 0, 0), (34, .iload_n 1, 0), (35, .iload_n 2, 0), (36, .invokevirtual 213, 0), (39, .ireturn, 0)]
theorem kkX5_turnOf : mm_chk cX5_turnOf kdX5_turnOf = true := by decide +kernel
def kdX5_text : List mm_E := [(0, .aload_n 0, 0), (1, .aload_n 0, 0), (2, .iload_n 1, 0), (3, .invokevirtual 178, 0), (6, .iconst 1, 0), (7, .invokevirtual 146, 0), (10, .ifCond .ne 37, 47), (13, .aload_n 0, 0), (14, .iload_n 2, 0), (15, .iconst 0, 0), (16, .iconst 2, 0), (17, .invokestatic 45, 0), (20, .ifCond .ne 7, 27), (23, .iconst 1, 0), (24, .goto 4, 28), (27, .iconst 0, 0), (28, .iconst 2, 0), (29, .invokevirtual 35, 0), (32, .ifCond .ne 15, 47), (35, .iload_n 2, 0), (36, .iconst 2, 0), (37, .if_icmp .ne 13, 50), (40, .aload_n 0, 0), (41, .getfield 89, 0), (44, .ifCond .ne 6, 50), (47, .ldc 216, 0), (49, .areturn, 0), (50, .new 218, 0), (53, .dup, 0), (54, .invokespecial 220, 0), (57, .astore_n 3, 0), (58, .iconst 0, 0), (59, .istore 4, 0), (61, .iload 4, 0), (63, .aload_n 0, 0), (64, .getfield 19, 0), (67, .iload_n 1, 0), (68, .iaload, 0), (69, .iload_n 2, 0), (70, .ifCond .ne 7, 77), (73, .iconst 1, 0), (74, .goto 4, 78), (77, .iconst 0, 0), (78, .invokestatic 56, 0), (81, .iadd, 0), (82, .if_icmp .ge 71, 153), (85, .iload 4, 0), (87, .ifCond .le 10, 97), (90, .aload_n 3, 0), (91, .ldc 221, 0), (93, .invokevirtual 223, 0), (96, .pop, 0), (97, .aload_n 3, 0), (98, .iload_n 2, 0), (99, .ifCond .ne 13, 112), (102, .aload_n 0, 0), (103, .iload_n 1, 0), (104, .iload 4, 0), (106, .invokevirtual 105, 0), (109, .goto 34, 143), (112, .iload_n 2, 0), (113, .iconst 1, 0), (114, .if_icmp .ne 15, 129), (117, .aload_n 0, 0), (118, .iload_n 1, 0), (119, .iload 4, 0), (121, .invokevirtual 98, 0), (124, .iconst 2, 0), (125, .idiv, 0), (126, .goto 17, 143), (129, .aload_n 0, 0), (130, .iload_n 1, 0), (131, .iload 4, 0), (133, .invokevirtual 98, 0), (136, .iconst 2, 0), (137, .idiv, 0), (138, .aload_n 0, 0), (139, .getfield 89, 0), (142, .irem, 0), (143, .invokevirtual 227, 0), (146, .pop, 0), (147, .iinc 4 1, 0), (150, .goto (-89), 61), (153, .aload_n 3, 0), (154, .invokevirtual 230, 0), (157, .areturn, 0)]
theorem kkX5_text : mm_chk cX5_text kdX5_text = true := by decide +kernel
def kdX5_wordAt : List mm_E := [(0, .aload_n 0, 0), (1, .aload_n 0, 0), (2, .iload_n 1, 0), (3, .invokevirtual 178, 0), (6, .iconst 1, 0), (7, .invokevirtual 146, 0), (10, .ifCond .ne 36, 46), (13, .aload_n 0, 0), (14, .iload_n 2, 0), (15, .iconst 0, 0), (16, .bipush 29, 0), (18, .invokestatic 45, 0), (21, .ifCond .eq 13, 34), (24, .iload_n 3, 0), (25, .iconst 0, 0), (26, .bipush 29, 0), (28, .invokestatic 45, 0), (31, .ifCond .ne 7, 38), (34, .iconst 1, 0), (35, .goto 4, 39), (38, .iconst 0, 0), (39, .iconst 2, 0), (40, .invokevirtual 35, 0), (43, .ifCond .eq 7, 50), (46, .iconst 0, 0), (47, .goto 10, 57), (50, .aload_n 0, 0), (51, .iload_n 1, 0), (52, .iload_n 2, 0), (53, .iload_n 3, 0), (54, .invokevirtual 234, 0), (57, .ireturn, 0)]
theorem kkX5_wordAt : mm_chk cX5_wordAt kdX5_wordAt = true := by decide +kernel
def kdX5_isThere : List mm_E := [(0, .aload_n 0, 0), (1, .getfield 25, 0), (4, .iconst (-1), 0), (5, .if_icmp .eq 14, 19), (8, .aload_n 0, 0), (9, .getfield 114, 0), (12, .ifCond .ne 7, 19), (15, .iconst 1, 0), (16, .goto 4, 20), (19, .iconst 0, 0), (20, .ireturn, 0)]
theorem kkX5_isThere : mm_chk cX5_isThere kdX5_isThere = true := by decide +kernel
def kdX5_cursor : List mm_E := [(0, .aload_n 0, 0), (1, .aload_n 0, 0), (2, .iload_n 1, 0), (3, .invokevirtual 178, 0), (6, .ifCond .ne 17, 23), (9, .iload_n 2, 0), (10, .iconst 0, 0), (11, .aload_n 0, 0), (12, .getfield 19, 0), (15, .iload_n 1, 0), (16, .iaload, 0), (17, .invokestatic 45, 0), (20, .ifCond .ne 7, 27), (23, .iconst 1, 0), (24, .goto 4, 28), (27, .iconst 0, 0), (28, .iconst 1, 0), (29, .invokevirtual 146, 0), (32, .ifCond .eq 5, 37), (35, .iconst 0, 0), (36, .ireturn, 0), (37, .aload_n 0, 0), (38, .iload_n 1, 0), (39, .putfield 25, 0), (42, .aload_n 0, 0), (43, .iload_n 2, 0), (44, .putfield 237, 0), (47, .aload_n 0, 0), (48, .iconst (-1), 0), (49, .putfield 29, 0), (52, .aload_n 0, 0), (53, .iconst 0, 0), (54, .putfield 114, 0), (57, .aload_n 0, 0), (58, .aload_n 0, 0), (59, .iload_n 1, 0), (60, .iload_n 2, 0), (61, .invokevirtual 105, 0), (64, .invokevirtual 156, 0), (67, .ireturn, 0)]
theorem kkX5_cursor : mm_chk cX5_cursor kdX5_cursor = true := by decide +kernel
def kdX5_canGo : List mm_E := [(0, .aload_n 0, 0), (1, .invokevirtual 240, 0), (4, .ifCond .eq 37, 41), (7, .iload_n 1, 0), (8, .ifCond .eq 22, 30), (11, .aload_n 0, 0), (12, .getfield 237, 0), (15, .aload_n 0, 0), (16, .getfield 19, 0), (19, .aload_n 0, 0), (20, .getfield 25, 0), (23, .iaload, 0), (24, .if_icmp .ge 17, 41), (27, .goto 10, 37), (30, .aload_n 0, 0), (31, .getfield 237, 0), (34, .ifCond .le 7, 41), (37, .iconst 1, 0), (38, .goto 4, 42), (41, .iconst 0, 0), (42, .ireturn, 0)]
theorem kkX5_canGo : mm_chk cX5_canGo kdX5_canGo = true := by decide +kernel
def kdX5_cursorGo : List mm_E := [(0, .aload_n 0, 0), (1, .iconst 0, 0), (2, .putfield 32, 0), (5, .aload_n 0, 0), (6, .iload_n 1, 0), (7, .invokevirtual 244, 0), (10, .ifCond .ne 8, 18), (13, .aload_n 0, 0), (14, .invokevirtual 149, 0), (17, .ireturn, 0), (18, .aload_n 0, 0), (19, .iload_n 1, 0), (20, .ifCond .eq 10, 30), (23, .aload_n 0, 0), (24, .getfield 237, 0), (27, .goto 9, 36), (30, .aload_n 0, 0), (31, .getfield 237, 0), (34, .iconst 1, 0), (35, .isub, 0), (36, .putfield 29, 0), (39, .aload_n 0, 0), (40, .iload_n 1, 0), (41, .ifCond .eq 12, 53), (44, .aload_n 0, 0), (45, .getfield 237, 0), (48, .iconst 1, 0), (49, .iadd, 0), (50, .goto 9, 59), (53, .aload_n 0, 0), (54, .getfield 237, 0), (57, .iconst 1, 0), (58, .isub, 0), (59, .putfield 237, 0), (62, .aload_n 0, 0), (63, .aload_n 0, 0), (64, .aload_n 0, 0), (65, .getfield 25, 0), (68, .aload_n 0, 0), (69, .getfield 29, 0), (72, .invokevirtual 98, 0), (75, .invokevirtual 156, 0), (78, .ireturn, 0)]
theorem kkX5_cursorGo : mm_chk cX5_cursorGo kdX5_cursorGo = true := by decide +kernel
def kdX5_cursorSet : List mm_E := [(0, .aload_n 0, 0), (1, .aload_n 0, 0), (2, .iload_n 1, 0), (3, .invokevirtual 162, 0), (6, .iconst 1, 0), (7, .invokevirtual 146, 0), (10, .ifCond .eq 5, 15), (13, .iconst 0, 0), (14, .ireturn, 0), (15, .aload_n 0, 0), (16, .invokevirtual 240, 0), (19, .ifCond .eq 11, 30), (22, .aload_n 0, 0), (23, .getfield 29, 0), (26, .iconst (-1), 0), (27, .if_icmp .ne 8, 35), (30, .aload_n 0, 0), (31, .invokevirtual 149, 0), (34, .ireturn, 0), (35, .aload_n 0, 0), (36, .aload_n 0, 0), (37, .getfield 25, 0), (40, .aload_n 0, 0), (41, .getfield 29, 0), (44, .invokevirtual 98, 0), (47, .istore_n 2, 0), (48, .aload_n 0, 0), (49, .iload_n 1, 0), (50, .aload_n 0, 0), (51, .iload_n 2, 0), (52, .invokevirtual 187, 0), (55, .aload_n 0, 0), (56, .iload_n 2, 0), (57, .invokevirtual 102, 0), (60, .invokevirtual 248, 0), (63, .istore_n 3, 0), (64, .aload_n 0, 0), (65, .aload_n 0, 0), (66, .getfield 25, 0), (69, .iload_n 1, 0), (70, .invokevirtual 165, 0), (73, .istore 4, 0), (75, .iload_n 3, 0), (76, .iconst (-1), 0), (77, .if_icmp .eq 18, 95), (80, .iload 4, 0), (82, .iconst (-1), 0), (83, .if_icmp .eq 17, 100), (86, .iload 4, 0), (88, .aload_n 0, 0), (89, .getfield 29, 0), (92, .if_icmp .eq 8, 100), (95, .aload_n 0, 0), (96, .invokevirtual 149, 0), (99, .ireturn, 0), (100, .aload_n 0, 0), (101, .getfield 16, 0), (104, .aload_n 0, 0), (105, .getfield 25, 0), (108, .bipush 30, 0), (110, .imul, 0), (111, .aload_n 0, 0), (112, .getfield 29, 0), (115, .iadd, 0), (116, .iload_n 3, 0), (117, .iastore, 0), (118, .aload_n 0, 0), (119, .iload_n 2, 0), (120, .invokevirtual 156, 0), (123, .ireturn, 0)]
theorem kkX5_cursorSet : mm_chk cX5_cursorSet kdX5_cursorSet = true := by decide +kernel
def kdX5_fittingHere : List mm_E := [(0, .aload_n 0, 0), (1, .aload_n 0, 0), (2, .getfield 25, 0), (5, .aload_n 0, 0), (6, .getfield 237, 0), (9, .invokevirtual 105, 0), (12, .istore_n 2, 0), (13, .aload_n 0, 0), (14, .getfield 237, 0), (17, .aload_n 0, 0), (18, .getfield 19, 0), (21, .aload_n 0, 0), (22, .getfield 25, 0), (25, .iaload, 0), (26, .if_icmp .ne 10, 36), (29, .aload_n 0, 0), (30, .iload_n 1, 0), (31, .iload_n 2, 0), (32, .invokevirtual 124, 0), (35, .ireturn, 0), (36, .aload_n 0, 0), (37, .getfield 237, 0), (40, .ifCond .ne 10, 50), (43, .aload_n 0, 0), (44, .iload_n 1, 0), (45, .iload_n 2, 0), (46, .invokevirtual 184, 0), (49, .ireturn, 0), (50, .aload_n 0, 0), (51, .getfield 9, 0), (54, .iload_n 1, 0), (55, .iaload, 0), (56, .iload_n 2, 0), (57, .if_icmp .ne 19, 76), (60, .aload_n 0, 0), (61, .getfield 13, 0), (64, .iload_n 1, 0), (65, .iaload, 0), (66, .iload_n 2, 0), (67, .if_icmp .ne 9, 76), (70, .iconst 2, 0), (71, .iload_n 1, 0), (72, .imul, 0), (73, .goto 4, 77), (76, .iconst (-1), 0), (77, .ireturn, 0)]
theorem kkX5_fittingHere : mm_chk cX5_fittingHere kdX5_fittingHere = true := by decide +kernel
def kdX5_cursorAdd : List mm_E := [(0, .aload_n 0, 0), (1, .aload_n 0, 0), (2, .iload_n 1, 0), (3, .invokevirtual 162, 0), (6, .iconst 1, 0), (7, .invokevirtual 146, 0), (10, .ifCond .eq 5, 15), (13, .iconst 0, 0), (14, .ireturn, 0), (15, .aload_n 0, 0), (16, .invokevirtual 240, 0), (19, .ifCond .eq 25, 44), (22, .aload_n 0, 0), (23, .aload_n 0, 0), (24, .getfield 25, 0), (27, .iload_n 1, 0), (28, .invokevirtual 165, 0), (31, .iconst (-1), 0), (32, .if_icmp .ne 12, 44), (35, .aload_n 0, 0), (36, .iload_n 1, 0), (37, .invokevirtual 251, 0), (40, .iconst (-1), 0), (41, .if_icmp .ne 8, 49), (44, .aload_n 0, 0), (45, .invokevirtual 149, 0), (48, .ireturn, 0), (49, .aload_n 0, 0), (50, .iload_n 1, 0), (51, .invokevirtual 251, 0), (54, .istore_n 2, 0), (55, .aload_n 0, 0), (56, .getfield 237, 0), (59, .ifCond .ne 17, 76), (62, .aload_n 0, 0), (63, .getfield 22, 0), (66, .aload_n 0, 0), (67, .getfield 25, 0), (70, .aload_n 0, 0), (71, .iload_n 2, 0), (72, .invokevirtual 187, 0), (75, .iastore, 0), (76, .aload_n 0, 0), (77, .aload_n 0, 0), (78, .getfield 25, 0), (81, .aload_n 0, 0), (82, .getfield 237, 0), (85, .iload_n 2, 0), (86, .invokevirtual 120, 0), (89, .aload_n 0, 0), (90, .dup, 0), (91, .getfield 237, 0), (94, .iconst 1, 0), (95, .iadd, 0), (96, .putfield 237, 0), (99, .aload_n 0, 0), (100, .iconst (-1), 0), (101, .putfield 29, 0), (104, .aload_n 0, 0), (105, .aload_n 0, 0), (106, .getfield 237, 0), (109, .invokevirtual 156, 0), (112, .ireturn, 0)]
theorem kkX5_cursorAdd : mm_chk cX5_cursorAdd kdX5_cursorAdd = true := by decide +kernel
def kdX5_cursorRemove : List mm_E := [(0, .aload_n 0, 0), (1, .iconst 0, 0), (2, .putfield 32, 0), (5, .aload_n 0, 0), (6, .invokevirtual 240, 0), (9, .ifCond .eq 11, 20), (12, .aload_n 0, 0), (13, .getfield 29, 0), (16, .iconst (-1), 0), (17, .if_icmp .ne 8, 25), (20, .aload_n 0, 0), (21, .invokevirtual 149, 0), (24, .ireturn, 0), (25, .aload_n 0, 0), (26, .aload_n 0, 0), (27, .getfield 25, 0), (30, .aload_n 0, 0), (31, .getfield 29, 0), (34, .invokevirtual 98, 0), (37, .istore_n 1, 0), (38, .aload_n 0, 0), (39, .getfield 29, 0), (42, .aload_n 0, 0), (43, .getfield 19, 0), (46, .aload_n 0, 0), (47, .getfield 25, 0), (50, .iaload, 0), (51, .iconst 1, 0), (52, .isub, 0), (53, .if_icmp .ne 7, 60), (56, .iconst 1, 0), (57, .goto 4, 61), (60, .iconst 0, 0), (61, .istore_n 2, 0), (62, .aload_n 0, 0), (63, .iload_n 1, 0), (64, .invokevirtual 187, 0), (67, .aload_n 0, 0), (68, .iload_n 1, 0), (69, .invokevirtual 102, 0), (72, .if_icmp .eq 19, 91), (75, .iload_n 2, 0), (76, .ifCond .ne 15, 91), (79, .aload_n 0, 0), (80, .getfield 29, 0), (83, .ifCond .le 8, 91), (86, .aload_n 0, 0), (87, .invokevirtual 149, 0), (90, .ireturn, 0), (91, .aload_n 0, 0), (92, .getfield 29, 0), (95, .ifCond .ne 21, 116), (98, .iload_n 2, 0), (99, .ifCond .ne 17, 116), (102, .aload_n 0, 0), (103, .getfield 22, 0), (106, .aload_n 0, 0), (107, .getfield 25, 0), (110, .aload_n 0, 0), (111, .iload_n 1, 0), (112, .invokevirtual 102, 0), (115, .iastore, 0), (116, .aload_n 0, 0), (117, .aload_n 0, 0), (118, .getfield 25, 0), (121, .aload_n 0, 0), (122, .getfield 29, 0), (125, .invokevirtual 117, 0), (128, .pop, 0), (129, .aload_n 0, 0), (130, .getfield 29, 0), (133, .aload_n 0, 0), (134, .getfield 237, 0), (137, .if_icmp .ge 13, 150), (140, .aload_n 0, 0), (141, .dup, 0), (142, .getfield 237, 0), (145, .iconst 1, 0), (146, .isub, 0), (147, .putfield 237, 0), (150, .aload_n 0, 0), (151, .iconst (-1), 0), (152, .putfield 29, 0), (155, .aload_n 0, 0), (156, .iload_n 1, 0), (157, .invokevirtual 156, 0), (160, .ireturn, 0)]
theorem kkX5_cursorRemove : mm_chk cX5_cursorRemove kdX5_cursorRemove = true := by decide +kernel
def kdX5_cursorCan : List mm_E := [(0, .aload_n 0, 0), (1, .iconst 0, 0), (2, .putfield 32, 0), (5, .aload_n 0, 0), (6, .iload_n 1, 0), (7, .invokevirtual 244, 0), (10, .ireturn, 0)]
theorem kkX5_cursorCan : mm_chk cX5_cursorCan kdX5_cursorCan = true := by decide +kernel
def kdX5_placeTold : List mm_E := [(0, .aload_n 0, 0), (1, .invokevirtual 240, 0), (4, .ifCond .ne 8, 12), (7, .bipush (-2), 0), (9, .goto 20, 29), (12, .iload_n 1, 0), (13, .ifCond .eq 10, 23), (16, .aload_n 0, 0), (17, .getfield 237, 0), (20, .goto 9, 29), (23, .aload_n 0, 0), (24, .getfield 237, 0), (27, .iconst 1, 0), (28, .isub, 0), (29, .ireturn, 0)]
theorem kkX5_placeTold : mm_chk cX5_placeTold kdX5_placeTold = true := by decide +kernel
def kdX5_cursorPlace : List mm_E := [(0, .aload_n 0, 0), (1, .iconst 0, 0), (2, .putfield 32, 0), (5, .aload_n 0, 0), (6, .iload_n 1, 0), (7, .invokevirtual 254, 0), (10, .ireturn, 0)]
theorem kkX5_cursorPlace : mm_chk cX5_cursorPlace kdX5_cursorPlace = true := by decide +kernel
def kdX5_houseOf : List mm_E := [(0, .iload_n 1, 0), (1, .ifCond .ne 10, 11), (4, .aload_n 0, 0), (5, .getfield 39, 0), (8, .goto 19, 27), (11, .iload_n 1, 0), (12, .iconst 1, 0), (13, .if_icmp .ne 10, 23), (16, .aload_n 0, 0), (17, .getfield 42, 0), (20, .goto 7, 27), (23, .aload_n 0, 0), (24, .getfield 257, 0), (27, .ireturn, 0)]
theorem kkX5_houseOf : mm_chk cX5_houseOf kdX5_houseOf = true := by decide +kernel
def kdX5_house : List mm_E := [(0, .aload_n 0, 0), (1, .iload_n 1, 0), (2, .iconst 0, 0), (3, .iconst 2, 0), (4, .invokestatic 45, 0), (7, .ifCond .ne 7, 14), (10, .iconst 1, 0), (11, .goto 4, 15), (14, .iconst 0, 0), (15, .iconst 1, 0), (16, .invokevirtual 146, 0), (19, .ifCond .eq 7, 26), (22, .iconst 0, 0), (23, .goto 8, 31), (26, .aload_n 0, 0), (27, .iload_n 1, 0), (28, .invokevirtual 260, 0), (31, .ireturn, 0)]
theorem kkX5_house : mm_chk cX5_house kdX5_house = true := by decide +kernel
def kdX5_knock : List mm_E := [(0, .aload_n 0, 0), (1, .iconst 0, 0), (2, .putfield 32, 0), (5, .aload_n 0, 0), (6, .dup, 0), (7, .getfield 257, 0), (10, .iconst 1, 0), (11, .iadd, 0), (12, .putfield 257, 0), (15, .aload_n 0, 0), (16, .getfield 257, 0), (19, .ireturn, 0)]
theorem kkX5_knock : mm_chk cX5_knock kdX5_knock = true := by decide +kernel
def kdX5_isWalk : List mm_E := [(0, .aload_n 0, 0), (1, .iload_n 1, 0), (2, .invokevirtual 108, 0), (5, .istore_n 2, 0), (6, .aload_n 0, 0), (7, .getfield 19, 0), (10, .iload_n 1, 0), (11, .iaload, 0), (12, .iconst 1, 0), (13, .isub, 0), (14, .istore_n 3, 0), (15, .iload_n 3, 0), (16, .ifCond .lt 98, 114), (19, .aload_n 0, 0), (20, .iload_n 1, 0), (21, .iload_n 3, 0), (22, .invokevirtual 98, 0), (25, .istore 4, 0), (27, .iload 4, 0), (29, .iconst 2, 0), (30, .idiv, 0), (31, .aload_n 0, 0), (32, .getfield 49, 0), (35, .if_icmp .ge 26, 61), (38, .aload_n 0, 0), (39, .iload 4, 0), (41, .invokevirtual 102, 0), (44, .iload_n 2, 0), (45, .if_icmp .ne 16, 61), (48, .aload_n 0, 0), (49, .iload_n 1, 0), (50, .iload 4, 0), (52, .iconst 2, 0), (53, .idiv, 0), (54, .invokevirtual 165, 0), (57, .iload_n 3, 0), (58, .if_icmp .eq 5, 63), (61, .iconst 0, 0), (62, .ireturn, 0), (63, .iload 4, 0), (65, .iconst 2, 0), (66, .irem, 0), (67, .iconst 1, 0), (68, .if_icmp .ne 33, 101), (71, .aload_n 0, 0), (72, .getfield 60, 0), (75, .ifCond .ne 24, 99), (78, .aload_n 0, 0), (79, .getfield 9, 0), (82, .iload 4, 0), (84, .iconst 2, 0), (85, .idiv, 0), (86, .iaload, 0), (87, .aload_n 0, 0), (88, .getfield 13, 0), (91, .iload 4, 0), (93, .iconst 2, 0), (94, .idiv, 0), (95, .iaload, 0), (96, .if_icmp .ne 5, 101), (99, .iconst 0, 0), (100, .ireturn, 0), (101, .aload_n 0, 0), (102, .iload 4, 0), (104, .invokevirtual 187, 0), (107, .istore_n 2, 0), (108, .iinc 3 (-1), 0), (111, .goto (-96), 15), (114, .iload_n 2, 0), (115, .aload_n 0, 0), (116, .getfield 22, 0), (119, .iload_n 1, 0), (120, .iaload, 0), (121, .if_icmp .ne 7, 128), (124, .iconst 1, 0), (125, .goto 4, 129), (128, .iconst 0, 0), (129, .ireturn, 0)]
theorem kkX5_isWalk : mm_chk cX5_isWalk kdX5_isWalk = true := by decide +kernel
def kdX5_isCounted : List mm_E := [(0, .iconst 0, 0), (1, .istore_n 1, 0), (2, .iconst 0, 0), (3, .istore_n 2, 0), (4, .iconst 0, 0), (5, .istore_n 3, 0), (6, .iload_n 3, 0), (7, .bipush 10, 0), (9, .if_icmp .ge 35, 44), (12, .iload_n 1, 0), (13, .aload_n 0, 0), (14, .aload_n 0, 0), (15, .invokevirtual 79, 0), (18, .iload_n 3, 0), (19, .iconst 1, 0), (20, .invokevirtual 64, 0), (23, .iadd, 0), (24, .istore_n 1, 0), (25, .iload_n 2, 0), (26, .aload_n 0, 0), (27, .aload_n 0, 0), (28, .invokevirtual 79, 0), (31, .iload_n 3, 0), (32, .iconst 2, 0), (33, .invokevirtual 64, 0), (36, .iadd, 0), (37, .istore_n 2, 0), (38, .iinc 3 1, 0), (41, .goto (-35), 6), (44, .iload_n 1, 0), (45, .aload_n 0, 0), (46, .getfield 49, 0), (49, .if_icmp .ne 35, 84), (52, .iload_n 2, 0), (53, .aload_n 0, 0), (54, .getfield 49, 0), (57, .if_icmp .ne 27, 84), (60, .aload_n 0, 0), (61, .getfield 60, 0), (64, .ifCond .ne 16, 80), (67, .aload_n 0, 0), (68, .aload_n 0, 0), (69, .invokevirtual 79, 0), (72, .invokevirtual 75, 0), (75, .iconst 2, 0), (76, .irem, 0), (77, .ifCond .ne 7, 84), (80, .iconst 1, 0), (81, .goto 4, 85), (84, .iconst 0, 0), (85, .ireturn, 0)]
theorem kkX5_isCounted : mm_chk cX5_isCounted kdX5_isCounted = true := by decide +kernel
def kdX5_isCompleted : List mm_E := [(0, .aload_n 0, 0), (1, .invokevirtual 172, 0), (4, .istore_n 1, 0), (5, .aload_n 0, 0), (6, .invokevirtual 86, 0), (9, .istore_n 2, 0), (10, .iload_n 1, 0), (11, .ifCond .le 7, 18), (14, .iconst 1, 0), (15, .goto 4, 19), (18, .iconst 0, 0), (19, .iload_n 2, 0), (20, .iconst (-1), 0), (21, .if_icmp .eq 7, 28), (24, .iconst 1, 0), (25, .goto 4, 29), (28, .iconst 0, 0), (29, .if_icmp .eq 5, 34), (32, .iconst 0, 0), (33, .ireturn, 0), (34, .iload_n 2, 0), (35, .iconst (-1), 0), (36, .if_icmp .ne 5, 41), (39, .iconst 1, 0), (40, .ireturn, 0), (41, .aload_n 0, 0), (42, .getfield 22, 0), (45, .iconst 3, 0), (46, .iload_n 2, 0), (47, .iastore, 0), (48, .aload_n 0, 0), (49, .getfield 19, 0), (52, .iconst 3, 0), (53, .iconst 0, 0), (54, .iastore, 0), (55, .aload_n 0, 0), (56, .iconst 3, 0), (57, .iconst 1, 0), (58, .invokevirtual 190, 0), (61, .pop, 0), (62, .aload_n 0, 0), (63, .iconst 3, 0), (64, .invokevirtual 207, 0), (67, .ifCond .eq 21, 88), (70, .aload_n 0, 0), (71, .iconst 3, 0), (72, .invokevirtual 137, 0), (75, .iload_n 1, 0), (76, .iconst 2, 0), (77, .if_icmp .ne 7, 84), (80, .iconst 1, 0), (81, .goto 4, 85), (84, .iconst 0, 0), (85, .if_icmp .eq 5, 90), (88, .iconst 0, 0), (89, .ireturn, 0), (90, .iconst 0, 0), (91, .istore_n 3, 0), (92, .aload_n 0, 0), (93, .getfield 60, 0), (96, .ifCond .eq 55, 151), (99, .aload_n 0, 0), (100, .getfield 89, 0), (103, .ifCond .le 48, 151), (106, .iload_n 3, 0), (107, .aload_n 0, 0), (108, .getfield 49, 0), (111, .if_icmp .ge 40, 151), (114, .aload_n 0, 0), (115, .iconst 3, 0), (116, .iload_n 3, 0), (117, .iconst 0, 0), (118, .invokevirtual 234, 0), (121, .istore 4, 0), (123, .iload 4, 0), (125, .iconst (-1), 0), (126, .if_icmp .eq 17, 143), (129, .aload_n 0, 0), (130, .iconst 3, 0), (131, .iload_n 3, 0), (132, .iload 4, 0), (134, .iconst 1, 0), (135, .iadd, 0), (136, .invokevirtual 234, 0), (139, .iconst (-1), 0), (140, .if_icmp .eq 5, 145), (143, .iconst 0, 0), (144, .ireturn, 0), (145, .iinc 3 1, 0), (148, .goto (-56), 92), (151, .iconst 1, 0), (152, .ireturn, 0)]
theorem kkX5_isCompleted : mm_chk cX5_isCompleted kdX5_isCompleted = true := by decide +kernel
def kdX5_isAllSo : List mm_E := [(0, .aload_n 0, 0), (1, .iconst 0, 0), (2, .invokevirtual 263, 0), (5, .ifCond .eq 37, 42), (8, .aload_n 0, 0), (9, .iconst 1, 0), (10, .invokevirtual 263, 0), (13, .ifCond .eq 29, 42), (16, .aload_n 0, 0), (17, .iconst 2, 0), (18, .invokevirtual 263, 0), (21, .ifCond .eq 21, 42), (24, .aload_n 0, 0), (25, .invokevirtual 266, 0), (28, .ifCond .eq 14, 42), (31, .aload_n 0, 0), (32, .invokevirtual 269, 0), (35, .ifCond .eq 7, 42), (38, .iconst 1, 0), (39, .goto 4, 43), (42, .iconst 0, 0), (43, .ireturn, 0)]
theorem kkX5_isAllSo : mm_chk cX5_isAllSo kdX5_isAllSo = true := by decide +kernel
def kdX5_isSound : List mm_E := [(0, .aload_n 0, 0), (1, .iconst 0, 0), (2, .putfield 32, 0), (5, .aload_n 0, 0), (6, .invokevirtual 272, 0), (9, .ireturn, 0)]
theorem kkX5_isSound : mm_chk cX5_isSound kdX5_isSound = true := by decide +kernel
def kdX5_add : List mm_E := [(0, .lload_n 0, 0), (1, .ldc2_w 275, 0), (4, .lmul, 0), (5, .lload_n 2, 0), (6, .ladd, 0), (7, .lreturn, 0)]
theorem kkX5_add : mm_chk cX5_add kdX5_add = true := by decide +kernel
def kdX5_addTown : List mm_E := [(0, .lload_n 1, 0), (1, .aload_n 0, 0), (2, .getfield 49, 0), (5, .i2l, 0), (6, .invokestatic 277, 0), (9, .lstore_n 3, 0), (10, .iconst 0, 0), (11, .istore 5, 0), (13, .iload 5, 0), (15, .aload_n 0, 0), (16, .getfield 49, 0), (19, .if_icmp .ge 33, 52), (22, .lload_n 3, 0), (23, .aload_n 0, 0), (24, .getfield 9, 0), (27, .iload 5, 0), (29, .iaload, 0), (30, .i2l, 0), (31, .invokestatic 277, 0), (34, .aload_n 0, 0), (35, .getfield 13, 0), (38, .iload 5, 0), (40, .iaload, 0), (41, .i2l, 0), (42, .invokestatic 277, 0), (45, .lstore_n 3, 0), (46, .iinc 5 1, 0), (49, .goto (-36), 13), (52, .iconst 0, 0), (53, .istore 5, 0), (55, .iload 5, 0), (57, .bipush 10, 0), (59, .if_icmp .ge 61, 120), (62, .iconst 0, 0), (63, .istore 6, 0), (65, .iload 6, 0), (67, .iconst 2, 0), (68, .if_icmp .ge 27, 95), (71, .lload_n 3, 0), (72, .aload_n 0, 0), (73, .aload_n 0, 0), (74, .invokevirtual 79, 0), (77, .iload 5, 0), (79, .iload 6, 0), (81, .invokevirtual 64, 0), (84, .i2l, 0), (85, .invokestatic 277, 0), (88, .lstore_n 3, 0), (89, .iinc 6 1, 0), (92, .goto (-27), 65), (95, .lload_n 3, 0), (96, .aload_n 0, 0), (97, .aload_n 0, 0), (98, .invokevirtual 79, 0), (101, .iload 5, 0), (103, .invokevirtual 83, 0), (106, .invokestatic 56, 0), (109, .i2l, 0), (110, .invokestatic 277, 0), (113, .lstore_n 3, 0), (114, .iinc 5 1, 0), (117, .goto (-62), 55), (120, .lload_n 3, 0), (121, .aload_n 0, 0), (122, .aload_n 0, 0), (123, .invokevirtual 79, 0), (126, .invokevirtual 75, 0), (129, .i2l, 0), (130, .invokestatic 277, 0), (133, .aload_n 0, 0), (134, .aload_n 0, 0), (135, .invokevirtual 79, 0), (138, .invokevirtual 71, 0), (141, .invokestatic 56, 0), (144, .i2l, 0), (145, .invokestatic 277, 0), (148, .aload_n 0, 0), (149, .invokevirtual 172, 0), (152, .i2l, 0), (153, .invokestatic 277, 0), (156, .lstore_n 3, 0), (157, .iconst 0, 0), (158, .istore 5, 0), (160, .iload 5, 0), (162, .iconst 3, 0), (163, .if_icmp .ge 21, 184), (166, .lload_n 3, 0), (167, .aload_n 0, 0), (168, .iload 5, 0), (170, .invokevirtual 175, 0), (173, .i2l, 0), (174, .invokestatic 277, 0), (177, .lstore_n 3, 0), (178, .iinc 5 1, 0), (181, .goto (-21), 160), (184, .lload_n 3, 0), (185, .lreturn, 0)]
theorem kkX5_addTown : mm_chk cX5_addTown kdX5_addTown = true := by decide +kernel
def kdX5_addWalk : List mm_E := [(0, .lload_n 1, 0), (1, .aload_n 0, 0), (2, .getfield 19, 0), (5, .iload_n 3, 0), (6, .iaload, 0), (7, .i2l, 0), (8, .invokestatic 277, 0), (11, .aload_n 0, 0), (12, .getfield 22, 0), (15, .iload_n 3, 0), (16, .iaload, 0), (17, .i2l, 0), (18, .invokestatic 277, 0), (21, .aload_n 0, 0), (22, .iload_n 3, 0), (23, .invokevirtual 108, 0), (26, .i2l, 0), (27, .invokestatic 277, 0), (30, .lstore 4, 0), (32, .iconst 0, 0), (33, .istore 6, 0), (35, .iload 6, 0), (37, .aload_n 0, 0), (38, .getfield 19, 0), (41, .iload_n 3, 0), (42, .iaload, 0), (43, .if_icmp .ge 24, 67), (46, .lload 4, 0), (48, .aload_n 0, 0), (49, .iload_n 3, 0), (50, .iload 6, 0), (52, .invokevirtual 98, 0), (55, .i2l, 0), (56, .invokestatic 277, 0), (59, .lstore 4, 0), (61, .iinc 6 1, 0), (64, .goto (-29), 35), (67, .lload 4, 0), (69, .aload_n 0, 0), (70, .iload_n 3, 0), (71, .invokevirtual 207, 0), (74, .invokestatic 56, 0), (77, .i2l, 0), (78, .invokestatic 277, 0), (81, .aload_n 0, 0), (82, .iload_n 3, 0), (83, .iload_n 3, 0), (84, .iconst 1, 0), (85, .iadd, 0), (86, .iconst 3, 0), (87, .irem, 0), (88, .invokevirtual 213, 0), (91, .i2l, 0), (92, .invokestatic 277, 0), (95, .lreturn, 0)]
theorem kkX5_addWalk : mm_chk cX5_addWalk kdX5_addWalk = true := by decide +kernel
def kdX5_digest : List mm_E := [(0, .aload_n 0, 0), (1, .iconst 0, 0), (2, .putfield 32, 0), (5, .aload_n 0, 0), (6, .ldc2_w 281, 0), (9, .invokevirtual 283, 0), (12, .lstore_n 1, 0), (13, .iconst 0, 0), (14, .istore_n 3, 0), (15, .iload_n 3, 0), (16, .iconst 3, 0), (17, .if_icmp .ge 16, 33), (20, .aload_n 0, 0), (21, .lload_n 1, 0), (22, .iload_n 3, 0), (23, .invokevirtual 287, 0), (26, .lstore_n 1, 0), (27, .iinc 3 1, 0), (30, .goto (-15), 15), (33, .lload_n 1, 0), (34, .aload_n 0, 0), (35, .iconst 1, 0), (36, .invokevirtual 254, 0), (39, .i2l, 0), (40, .invokestatic 277, 0), (43, .aload_n 0, 0), (44, .iconst 0, 0), (45, .invokevirtual 254, 0), (48, .i2l, 0), (49, .invokestatic 277, 0), (52, .lstore_n 1, 0), (53, .lload_n 1, 0), (54, .aload_n 0, 0), (55, .iconst 1, 0), (56, .invokevirtual 244, 0), (59, .invokestatic 56, 0), (62, .i2l, 0), (63, .invokestatic 277, 0), (66, .aload_n 0, 0), (67, .iconst 0, 0), (68, .invokevirtual 244, 0), (71, .invokestatic 56, 0), (74, .i2l, 0), (75, .invokestatic 277, 0), (78, .lstore_n 1, 0), (79, .iconst 0, 0), (80, .istore_n 3, 0), (81, .iload_n 3, 0), (82, .iconst 3, 0), (83, .if_icmp .ge 20, 103), (86, .lload_n 1, 0), (87, .aload_n 0, 0), (88, .iload_n 3, 0), (89, .invokevirtual 260, 0), (92, .i2l, 0), (93, .invokestatic 277, 0), (96, .lstore_n 1, 0), (97, .iinc 3 1, 0), (100, .goto (-19), 81), (103, .lload_n 1, 0), (104, .aload_n 0, 0), (105, .invokevirtual 272, 0), (108, .invokestatic 56, 0), (111, .i2l, 0), (112, .invokestatic 277, 0), (115, .lreturn, 0)]
theorem kkX5_digest : mm_chk cX5_digest kdX5_digest = true := by decide +kernel
def kdL_lay : List mm_E := [(0, .aload_n 3, 0), (1, .aload_n 0, 0), (2, .iload_n 1, 0), (3, .iload_n 2, 0), (4, .invokevirtual 7, 0), (7, .i2l, 0), (8, .putfield 13, 0), (11, .goto 7, 18), (14, .astore 4, 0), (16, .iconst 1, 0), (17, .ireturn, 0), (18, .iconst 0, 0), (19, .ireturn, 0)]
theorem kkL_lay : mm_chk cL_lay kdL_lay = true := by decide +kernel
def kdL_layRing : List mm_E := [(0, .aload_n 3, 0), (1, .aload_n 0, 0), (2, .iload_n 1, 0), (3, .iload_n 2, 0), (4, .invokevirtual 21, 0), (7, .i2l, 0), (8, .putfield 13, 0), (11, .goto 7, 18), (14, .astore 4, 0), (16, .iconst 1, 0), (17, .ireturn, 0), (18, .iconst 0, 0), (19, .ireturn, 0)]
theorem kkL_layRing : mm_chk cL_layRing kdL_layRing = true := by decide +kernel
def kdL_words : List mm_E := [(0, .aload_n 3, 0), (1, .aload_n 0, 0), (2, .iload_n 1, 0), (3, .iload_n 2, 0), (4, .invokevirtual 26, 0), (7, .i2l, 0), (8, .putfield 13, 0), (11, .goto 7, 18), (14, .astore 4, 0), (16, .iconst 1, 0), (17, .ireturn, 0), (18, .iconst 0, 0), (19, .ireturn, 0)]
theorem kkL_words : mm_chk cL_words kdL_words = true := by decide +kernel
def kdL_close : List mm_E := [(0, .aload_n 2, 0), (1, .aload_n 0, 0), (2, .iload_n 1, 0), (3, .invokevirtual 29, 0), (6, .i2l, 0), (7, .putfield 13, 0), (10, .goto 6, 16), (13, .astore_n 3, 0), (14, .iconst 1, 0), (15, .ireturn, 0), (16, .iconst 0, 0), (17, .ireturn, 0)]
theorem kkL_close : mm_chk cL_close kdL_close = true := by decide +kernel
def kdL_end : List mm_E := [(0, .aload_n 3, 0), (1, .aload_n 0, 0), (2, .iload_n 1, 0), (3, .iload_n 2, 0), (4, .invokevirtual 33, 0), (7, .i2l, 0), (8, .putfield 13, 0), (11, .goto 7, 18), (14, .astore 4, 0), (16, .iconst 1, 0), (17, .ireturn, 0), (18, .iconst 0, 0), (19, .ireturn, 0)]
theorem kkL_end : mm_chk cL_end kdL_end = true := by decide +kernel
def kdL_ways : List mm_E := [(0, .aload_n 3, 0), (1, .aload_n 0, 0), (2, .iload_n 1, 0), (3, .iload_n 2, 0), (4, .invokevirtual 37, 0), (7, .i2l, 0), (8, .putfield 13, 0), (11, .goto 11, 22), (14, .astore 4, 0), (16, .iconst 1, 0), (17, .ireturn, 0), (18, .astore 4, 0), (20, .iconst 2, 0), (21, .ireturn, 0), (22, .iconst 0, 0), (23, .ireturn, 0)]
theorem kkL_ways : mm_chk cL_ways kdL_ways = true := by decide +kernel
def kdL_isStart : List mm_E := [(0, .aload_n 2, 0), (1, .aload_n 0, 0), (2, .iload_n 1, 0), (3, .invokevirtual 40, 0), (6, .ifCond .eq 7, 13), (9, .lconst 1, 0), (10, .goto 4, 14), (13, .lconst 0, 0), (14, .putfield 13, 0), (17, .goto 6, 23), (20, .astore_n 3, 0), (21, .iconst 1, 0), (22, .ireturn, 0), (23, .iconst 0, 0), (24, .ireturn, 0)]
theorem kkL_isStart : mm_chk cL_isStart kdL_isStart = true := by decide +kernel
def kdL_rule : List mm_E := [(0, .aload_n 2, 0), (1, .aload_n 0, 0), (2, .iload_n 1, 0), (3, .invokevirtual 44, 0), (6, .i2l, 0), (7, .putfield 13, 0), (10, .goto 6, 16), (13, .astore_n 3, 0), (14, .iconst 1, 0), (15, .ireturn, 0), (16, .iconst 0, 0), (17, .ireturn, 0)]
theorem kkL_rule : mm_chk cL_rule kdL_rule = true := by decide +kernel
def kdL_begin : List mm_E := [(0, .aload_n 3, 0), (1, .aload_n 0, 0), (2, .iload_n 1, 0), (3, .iload_n 2, 0), (4, .invokevirtual 47, 0), (7, .i2l, 0), (8, .putfield 13, 0), (11, .goto 7, 18), (14, .astore 4, 0), (16, .iconst 1, 0), (17, .ireturn, 0), (18, .iconst 0, 0), (19, .ireturn, 0)]
theorem kkL_begin : mm_chk cL_begin kdL_begin = true := by decide +kernel
def kdL_step : List mm_E := [(0, .aload 4, 0), (2, .aload_n 0, 0), (3, .iload_n 1, 0), (4, .iload_n 2, 0), (5, .iload_n 3, 0), (6, .invokevirtual 50, 0), (9, .i2l, 0), (10, .putfield 13, 0), (13, .goto 7, 20), (16, .astore 5, 0), (18, .iconst 1, 0), (19, .ireturn, 0), (20, .iconst 0, 0), (21, .ireturn, 0)]
theorem kkL_step : mm_chk cL_step kdL_step = true := by decide +kernel
def kdL_back : List mm_E := [(0, .aload_n 3, 0), (1, .aload_n 0, 0), (2, .iload_n 1, 0), (3, .iload_n 2, 0), (4, .invokevirtual 54, 0), (7, .i2l, 0), (8, .putfield 13, 0), (11, .goto 7, 18), (14, .astore 4, 0), (16, .iconst 1, 0), (17, .ireturn, 0), (18, .iconst 0, 0), (19, .ireturn, 0)]
theorem kkL_back : mm_chk cL_back kdL_back = true := by decide +kernel
def kdL_on : List mm_E := [(0, .aload_n 3, 0), (1, .aload_n 0, 0), (2, .iload_n 1, 0), (3, .iload_n 2, 0), (4, .invokevirtual 57, 0), (7, .i2l, 0), (8, .putfield 13, 0), (11, .goto 7, 18), (14, .astore 4, 0), (16, .iconst 1, 0), (17, .ireturn, 0), (18, .iconst 0, 0), (19, .ireturn, 0)]
theorem kkL_on : mm_chk cL_on kdL_on = true := by decide +kernel
def kdL_complete : List mm_E := [(0, .aload_n 3, 0), (1, .aload_n 0, 0), (2, .iload_n 1, 0), (3, .iload_n 2, 0), (4, .invokevirtual 60, 0), (7, .i2l, 0), (8, .putfield 13, 0), (11, .goto 7, 18), (14, .astore 4, 0), (16, .iconst 1, 0), (17, .ireturn, 0), (18, .iconst 0, 0), (19, .ireturn, 0)]
theorem kkL_complete : mm_chk cL_complete kdL_complete = true := by decide +kernel
def kdL_splice : List mm_E := [(0, .aload 4, 0), (2, .aload_n 0, 0), (3, .iload_n 1, 0), (4, .iload_n 2, 0), (5, .iload_n 3, 0), (6, .invokevirtual 63, 0), (9, .i2l, 0), (10, .putfield 13, 0), (13, .goto 7, 20), (16, .astore 5, 0), (18, .iconst 1, 0), (19, .ireturn, 0), (20, .iconst 0, 0), (21, .ireturn, 0)]
theorem kkL_splice : mm_chk cL_splice kdL_splice = true := by decide +kernel
def kdL_join : List mm_E := [(0, .aload_n 3, 0), (1, .aload_n 0, 0), (2, .iload_n 1, 0), (3, .iload_n 2, 0), (4, .invokevirtual 67, 0), (7, .i2l, 0), (8, .putfield 13, 0), (11, .goto 7, 18), (14, .astore 4, 0), (16, .iconst 1, 0), (17, .ireturn, 0), (18, .iconst 0, 0), (19, .ireturn, 0)]
theorem kkL_join : mm_chk cL_join kdL_join = true := by decide +kernel
def kdL_cut : List mm_E := [(0, .aload 5, 0), (2, .aload_n 0, 0), (3, .iload_n 1, 0), (4, .iload_n 2, 0), (5, .iload_n 3, 0), (6, .iload 4, 0), (8, .invokevirtual 70, 0), (11, .i2l, 0), (12, .putfield 13, 0), (15, .goto 7, 22), (18, .astore 6, 0), (20, .iconst 1, 0), (21, .ireturn, 0), (22, .iconst 0, 0), (23, .ireturn, 0)]
theorem kkL_cut : mm_chk cL_cut kdL_cut = true := by decide +kernel
def kdL_turnRound : List mm_E := [(0, .aload_n 2, 0), (1, .aload_n 0, 0), (2, .iload_n 1, 0), (3, .invokevirtual 74, 0), (6, .i2l, 0), (7, .putfield 13, 0), (10, .goto 6, 16), (13, .astore_n 3, 0), (14, .iconst 1, 0), (15, .ireturn, 0), (16, .iconst 0, 0), (17, .ireturn, 0)]
theorem kkL_turnRound : mm_chk cL_turnRound kdL_turnRound = true := by decide +kernel
def kdL_rotate : List mm_E := [(0, .aload_n 3, 0), (1, .aload_n 0, 0), (2, .iload_n 1, 0), (3, .iload_n 2, 0), (4, .invokevirtual 77, 0), (7, .i2l, 0), (8, .putfield 13, 0), (11, .goto 11, 22), (14, .astore 4, 0), (16, .iconst 1, 0), (17, .ireturn, 0), (18, .astore 4, 0), (20, .iconst 2, 0), (21, .ireturn, 0), (22, .iconst 0, 0), (23, .ireturn, 0)]
theorem kkL_rotate : mm_chk cL_rotate kdL_rotate = true := by decide +kernel
def kdL_first : List mm_E := [(0, .aload 4, 0), (2, .aload_n 0, 0), (3, .iload_n 1, 0), (4, .iload_n 2, 0), (5, .iload_n 3, 0), (6, .invokevirtual 80, 0), (9, .i2l, 0), (10, .putfield 13, 0), (13, .goto 7, 20), (16, .astore 5, 0), (18, .iconst 1, 0), (19, .ireturn, 0), (20, .iconst 0, 0), (21, .ireturn, 0)]
theorem kkL_first : mm_chk cL_first kdL_first = true := by decide +kernel
def kdL_next : List mm_E := [(0, .aload_n 3, 0), (1, .aload_n 0, 0), (2, .iload_n 1, 0), (3, .iload_n 2, 0), (4, .invokevirtual 83, 0), (7, .i2l, 0), (8, .putfield 13, 0), (11, .goto 7, 18), (14, .astore 4, 0), (16, .iconst 1, 0), (17, .ireturn, 0), (18, .iconst 0, 0), (19, .ireturn, 0)]
theorem kkL_next : mm_chk cL_next kdL_next = true := by decide +kernel
def kdL_copy : List mm_E := [(0, .aload_n 3, 0), (1, .aload_n 0, 0), (2, .iload_n 1, 0), (3, .iload_n 2, 0), (4, .invokevirtual 86, 0), (7, .i2l, 0), (8, .putfield 13, 0), (11, .goto 7, 18), (14, .astore 4, 0), (16, .iconst 1, 0), (17, .ireturn, 0), (18, .iconst 0, 0), (19, .ireturn, 0)]
theorem kkL_copy : mm_chk cL_copy kdL_copy = true := by decide +kernel
def kdL_length : List mm_E := [(0, .aload_n 2, 0), (1, .aload_n 0, 0), (2, .iload_n 1, 0), (3, .invokevirtual 89, 0), (6, .i2l, 0), (7, .putfield 13, 0), (10, .goto 6, 16), (13, .astore_n 3, 0), (14, .iconst 1, 0), (15, .ireturn, 0), (16, .iconst 0, 0), (17, .ireturn, 0)]
theorem kkL_length : mm_chk cL_length kdL_length = true := by decide +kernel
def kdL_cornerAt : List mm_E := [(0, .aload_n 3, 0), (1, .aload_n 0, 0), (2, .iload_n 1, 0), (3, .iload_n 2, 0), (4, .invokevirtual 92, 0), (7, .i2l, 0), (8, .putfield 13, 0), (11, .goto 7, 18), (14, .astore 4, 0), (16, .iconst 1, 0), (17, .ireturn, 0), (18, .iconst 0, 0), (19, .ireturn, 0)]
theorem kkL_cornerAt : mm_chk cL_cornerAt kdL_cornerAt = true := by decide +kernel
def kdL_stepAt : List mm_E := [(0, .aload_n 3, 0), (1, .aload_n 0, 0), (2, .iload_n 1, 0), (3, .iload_n 2, 0), (4, .invokevirtual 95, 0), (7, .i2l, 0), (8, .putfield 13, 0), (11, .goto 7, 18), (14, .astore 4, 0), (16, .iconst 1, 0), (17, .ireturn, 0), (18, .iconst 0, 0), (19, .ireturn, 0)]
theorem kkL_stepAt : mm_chk cL_stepAt kdL_stepAt = true := by decide +kernel
def kdL_find : List mm_E := [(0, .aload_n 3, 0), (1, .aload_n 0, 0), (2, .iload_n 1, 0), (3, .iload_n 2, 0), (4, .invokevirtual 98, 0), (7, .i2l, 0), (8, .putfield 13, 0), (11, .goto 7, 18), (14, .astore 4, 0), (16, .iconst 1, 0), (17, .ireturn, 0), (18, .iconst 0, 0), (19, .ireturn, 0)]
theorem kkL_find : mm_chk cL_find kdL_find = true := by decide +kernel
def kdL_is : List mm_E := [(0, .aload_n 3, 0), (1, .aload_n 0, 0), (2, .iload_n 1, 0), (3, .iload_n 2, 0), (4, .invokevirtual 101, 0), (7, .ifCond .eq 7, 14), (10, .lconst 1, 0), (11, .goto 4, 15), (14, .lconst 0, 0), (15, .putfield 13, 0), (18, .goto 7, 25), (21, .astore 4, 0), (23, .iconst 1, 0), (24, .ireturn, 0), (25, .iconst 0, 0), (26, .ireturn, 0)]
theorem kkL_is : mm_chk cL_is kdL_is = true := by decide +kernel
def kdL_same : List mm_E := [(0, .aload_n 3, 0), (1, .aload_n 0, 0), (2, .iload_n 1, 0), (3, .iload_n 2, 0), (4, .invokevirtual 105, 0), (7, .ifCond .eq 7, 14), (10, .lconst 1, 0), (11, .goto 4, 15), (14, .lconst 0, 0), (15, .putfield 13, 0), (18, .goto 7, 25), (21, .astore 4, 0), (23, .iconst 1, 0), (24, .ireturn, 0), (25, .iconst 0, 0), (26, .ireturn, 0)]
theorem kkL_same : mm_chk cL_same kdL_same = true := by decide +kernel
def kdL_turnOf : List mm_E := [(0, .aload_n 3, 0), (1, .aload_n 0, 0), (2, .iload_n 1, 0), (3, .iload_n 2, 0), (4, .invokevirtual 109, 0), (7, .i2l, 0), (8, .putfield 13, 0), (11, .goto 7, 18), (14, .astore 4, 0), (16, .iconst 1, 0), (17, .ireturn, 0), (18, .iconst 0, 0), (19, .ireturn, 0)]
theorem kkL_turnOf : mm_chk cL_turnOf kdL_turnOf = true := by decide +kernel
def kdL_text : List mm_E := [(0, .aload_n 3, 0), (1, .aload_n 0, 0), (2, .iload_n 1, 0), (3, .iload_n 2, 0), (4, .invokevirtual 112, 0), (7, .putfield 116, 0), (10, .goto 11, 21), (13, .astore 4, 0), (15, .iconst 1, 0), (16, .ireturn, 0), (17, .astore 4, 0), (19, .iconst 2, 0), (20, .ireturn, 0), (21, .iconst 0, 0), (22, .ireturn, 0)]
theorem kkL_text : mm_chk cL_text kdL_text = true := by decide +kernel
def kdL_wordAt : List mm_E := [(0, .aload 4, 0), (2, .aload_n 0, 0), (3, .iload_n 1, 0), (4, .iload_n 2, 0), (5, .iload_n 3, 0), (6, .invokevirtual 120, 0), (9, .i2l, 0), (10, .putfield 13, 0), (13, .goto 11, 24), (16, .astore 5, 0), (18, .iconst 1, 0), (19, .ireturn, 0), (20, .astore 5, 0), (22, .iconst 2, 0), (23, .ireturn, 0), (24, .iconst 0, 0), (25, .ireturn, 0)]
theorem kkL_wordAt : mm_chk cL_wordAt kdL_wordAt = true := by decide +kernel
def kdL_cursor : List mm_E := [(0, .aload_n 3, 0), (1, .aload_n 0, 0), (2, .iload_n 1, 0), (3, .iload_n 2, 0), (4, .invokevirtual 123, 0), (7, .i2l, 0), (8, .putfield 13, 0), (11, .goto 7, 18), (14, .astore 4, 0), (16, .iconst 1, 0), (17, .ireturn, 0), (18, .iconst 0, 0), (19, .ireturn, 0)]
theorem kkL_cursor : mm_chk cL_cursor kdL_cursor = true := by decide +kernel
def kdL_cursorSet : List mm_E := [(0, .aload_n 2, 0), (1, .aload_n 0, 0), (2, .iload_n 1, 0), (3, .invokevirtual 126, 0), (6, .i2l, 0), (7, .putfield 13, 0), (10, .goto 6, 16), (13, .astore_n 3, 0), (14, .iconst 1, 0), (15, .ireturn, 0), (16, .iconst 0, 0), (17, .ireturn, 0)]
theorem kkL_cursorSet : mm_chk cL_cursorSet kdL_cursorSet = true := by decide +kernel
def kdL_cursorAdd : List mm_E := [(0, .aload_n 2, 0), (1, .aload_n 0, 0), (2, .iload_n 1, 0), (3, .invokevirtual 129, 0), (6, .i2l, 0), (7, .putfield 13, 0), (10, .goto 6, 16), (13, .astore_n 3, 0), (14, .iconst 1, 0), (15, .ireturn, 0), (16, .iconst 0, 0), (17, .ireturn, 0)]
theorem kkL_cursorAdd : mm_chk cL_cursorAdd kdL_cursorAdd = true := by decide +kernel
def kdL_house : List mm_E := [(0, .aload_n 2, 0), (1, .aload_n 0, 0), (2, .iload_n 1, 0), (3, .invokevirtual 132, 0), (6, .i2l, 0), (7, .putfield 13, 0), (10, .goto 6, 16), (13, .astore_n 3, 0), (14, .iconst 1, 0), (15, .ireturn, 0), (16, .iconst 0, 0), (17, .ireturn, 0)]
theorem kkL_house : mm_chk cL_house kdL_house = true := by decide +kernel
end
section
/-! each method's words, the pools of fields, by program -/
theorem mm_t0 {w : Jvm.Cond} (i : Nat) (h : (k2_sels lw_privs)[i]? = some w) (g : goodWord w = true) : w ∈ mm_T := List.mem_filter.mpr ⟨List.mem_append_left _ (List.mem_of_getElem? h), g⟩
theorem mm_t1 {w : Jvm.Cond} (i : Nat) (h : tables_1_1[i]? = some w) (g : goodWord w = true) : w ∈ mm_T := List.mem_filter.mpr ⟨List.mem_append_right _ (show w ∈ tables_1 from List.mem_append_left _ (List.mem_of_getElem? h)), g⟩
theorem mm_t2 {w : Jvm.Cond} (i : Nat) (h : tables_1_2[i]? = some w) (g : goodWord w = true) : w ∈ mm_T := List.mem_filter.mpr ⟨List.mem_append_right _ (show w ∈ tables_1 from List.mem_append_right _ (List.mem_append_left _ (List.mem_of_getElem? h))), g⟩
theorem mm_t3 {w : Jvm.Cond} (i : Nat) (h : tables_1_3[i]? = some w) (g : goodWord w = true) : w ∈ mm_T := List.mem_filter.mpr ⟨List.mem_append_right _ (show w ∈ tables_1 from List.mem_append_right _ (List.mem_append_right _ (List.mem_append_left _ (List.mem_of_getElem? h)))), g⟩
theorem mm_t4 {w : Jvm.Cond} (i : Nat) (h : tables_1_4[i]? = some w) (g : goodWord w = true) : w ∈ mm_T := List.mem_filter.mpr ⟨List.mem_append_right _ (show w ∈ tables_1 from List.mem_append_right _ (List.mem_append_right _ (List.mem_append_right _ (List.mem_append_left _ (List.mem_of_getElem? h))))), g⟩
theorem mm_t5 {w : Jvm.Cond} (i : Nat) (h : tables_1_5[i]? = some w) (g : goodWord w = true) : w ∈ mm_T := List.mem_filter.mpr ⟨List.mem_append_right _ (show w ∈ tables_1 from List.mem_append_right _ (List.mem_append_right _ (List.mem_append_right _ (List.mem_append_right _ (List.mem_append_left _ (List.mem_of_getElem? h)))))), g⟩
theorem mm_t6 {w : Jvm.Cond} (i : Nat) (h : tables_1_6[i]? = some w) (g : goodWord w = true) : w ∈ mm_T := List.mem_filter.mpr ⟨List.mem_append_right _ (show w ∈ tables_1 from List.mem_append_right _ (List.mem_append_right _ (List.mem_append_right _ (List.mem_append_right _ (List.mem_append_right _ (List.mem_append_left _ (List.mem_of_getElem? h))))))), g⟩
theorem mm_t7 {w : Jvm.Cond} (i : Nat) (h : tables_1_7[i]? = some w) (g : goodWord w = true) : w ∈ mm_T := List.mem_filter.mpr ⟨List.mem_append_right _ (show w ∈ tables_1 from List.mem_append_right _ (List.mem_append_right _ (List.mem_append_right _ (List.mem_append_right _ (List.mem_append_right _ (List.mem_append_right _ (List.mem_append_left _ (List.mem_of_getElem? h)))))))), g⟩
theorem mm_t8 {w : Jvm.Cond} (i : Nat) (h : tables_1_8[i]? = some w) (g : goodWord w = true) : w ∈ mm_T := List.mem_filter.mpr ⟨List.mem_append_right _ (show w ∈ tables_1 from List.mem_append_right _ (List.mem_append_right _ (List.mem_append_right _ (List.mem_append_right _ (List.mem_append_right _ (List.mem_append_right _ (List.mem_append_right _ (List.mem_of_getElem? h)))))))), g⟩
def mm_MW (y : MethodName) (b : ByteArray) (maxL : Nat) (ret : Option FieldType) (hh : List (Nat × Nat × Nat × Nat)) (how rc n : Nat) : Prop :=
  mm_cw y b maxL ret hh ∈ mm_T ∧ Jvm.Cond.initialized y.cls ∈ mm_T ∧ (y.cls ≠ "java/lang/invoke/MethodHandle" ∧ y.cls ≠ "java/lang/invoke/VarHandle") ∧ ∃ (T : u_T) (N : Nat),
    ((how = 0 ∧ hh = [] ∧ Jvm.Cond.instanceMethod y ∈ mm_T ∧ Jvm.Cond.selects y.cls y y ∈ mm_T ∧ 10 ≤ rc ∧ mm_cl[rc - 10]? = some (y.cls, T, N) ∧ (parseMethodDescriptor y.desc).map (fun d => d.parameters.length + 1) = some n) ∨
     (how = 1 ∧ Jvm.Cond.static y ∈ mm_T ∧ (parseMethodDescriptor y.desc).map (fun d => d.parameters.length) = some n))
def mm_look {α : Type} : List (Nat × α) → Nat → Option α
  | [], _ => none
  | q :: r, n => bif q.1 == n then some q.2 else mm_look r n
/-- what a method's runs owe -/
def mm_RN (fl : List (Nat × Nat × Nat)) (ct : List (Nat × mm_Ca)) (xt : Nat → Nat → Nat → Option Nat) (lc : List (Nat × Int)) (rt mu maxL : Nat) (cd : List mm_E) (sp : mm_S) : Prop :=
  ∀ av M d Q, sp av M d Q → (mm_fl av).length ≤ maxL ∧ mm_run (mm_look fl) (mm_look ct) xt (mm_look lc) (fun _ => none) rt mu (fun _ _ => none) Q cd 0 (mm_ent maxL av) [] M d 0
def mm_F0 : Nat → mm_K := fun _ _ _ _ _ _ => False
def mm_x0 : Nat → Nat → Nat → Option Nat := fun _ _ _ => none
/-- the five throws of the class -/
def mm_x3 : Nat → Nat → Nat → Option Nat := fun idx is ic => bif idx == 342 && ic == 346 && (is == 344 || is == 352 || is == 354 || is == 356) then some 0 else bif idx == 358 && ic == 362 && is == 360 then some 1 else none
theorem mm_look_mem {α : Type} {n : Nat} {a : α} : ∀ l : List (Nat × α), mm_look l n = some a → (n, a) ∈ l
  | [], h => by simp [mm_look] at h
  | q :: r, h => by
    simp only [mm_look] at h
    cases e : q.1 == n
    · rw [e] at h
      exact List.mem_cons_of_mem _ (mm_look_mem r h)
    · rw [e] at h
      have e1 := eq_of_beq e
      simp only [cond_true, Option.some.injEq] at h
      rw [← e1, ← h]
      exact List.mem_cons_self
/-- a method's call table, entry by entry -/
def mm_PEs (l : Launch) (own : String) (R : Room) : List (Nat × mm_Ca) → Prop
  | [] => True
  | q :: r => mm_PE l own mm_U R q.1 q.2 ∧ mm_PEs l own R r
theorem mm_PEs_look {l : Launch} {own : String} {R : Room} {idx : Nat} {ca : mm_Ca} : ∀ t : List (Nat × mm_Ca), mm_PEs l own R t → mm_look t idx = some ca → mm_PE l own mm_U R idx ca
  | [], _, h => by simp [mm_look] at h
  | q :: r, hp, h => by
    simp only [mm_look] at h
    cases e : q.1 == idx
    · rw [e] at h
      exact mm_PEs_look r hp.2 h
    · rw [e] at h
      have e1 := eq_of_beq e
      simp only [cond_true, Option.some.injEq] at h
      rw [← e1, ← h]
      exact hp.1
theorem mm_pe {l : Launch} {own : String} {y : MethodName} {b : ByteArray} {maxL : Nat} {ret : Option FieldType} {hh : List (Nat × Nat × Nat × Nat)} {fr lo mu how rc n idx FR LO MU : Nat} {sp : mm_S}
    (hM : mm_Met l y b maxL ret hh fr lo mu sp) (hw : mm_MW y b maxL ret hh how rc n) (hl : Jvm.Cond.methodLink own idx y ∈ mm_T) (hfr : fr + 1 ≤ FR) (hlo : 8 + (maxL + 11) + lo ≤ LO) : mm_PE l own mm_U (mm_rm FR LO MU) idx (how, n, rc, sp, mu) := by
  obtain ⟨h1, h2, h3, T, N, h4⟩ := hw
  refine Or.inr ⟨y, b, maxL, ret, hh, fr, lo, T, N, hM, h1, mm_T_U _ h2, h3, hfr, hlo, Or.inl (mm_T_U _ hl), mm_T_U, ?_⟩
  rcases h4 with ⟨a, b, c, d, e, f, g⟩ | ⟨a, b, c⟩
  · exact Or.inl ⟨a, b, mm_T_U _ c, mm_T_U _ d, e, f, g⟩
  · exact Or.inr ⟨a, mm_T_U _ b, c⟩
theorem mm_peN {l : Launch} {own host : String} {y : MethodName} {b : ByteArray} {maxL : Nat} {ret : Option FieldType} {fr lo mu how rc n idx FR LO MU : Nat} {sp : mm_S}
    (hM : mm_Met l y b maxL ret [] fr lo mu sp) (hw : mm_MW y b maxL ret [] how rc n) (hl : Jvm.Cond.methodLinkNest own idx y host ∈ mm_nw) (hfr : fr + 1 ≤ FR) (hlo : 8 + (maxL + 11) + lo ≤ LO) : mm_PE l own mm_U (mm_rm FR LO MU) idx (how, n, rc, sp, mu) := by
  obtain ⟨h1, h2, h3, T, N, h4⟩ := hw
  refine Or.inr ⟨y, b, maxL, ret, [], fr, lo, T, N, hM, h1, mm_T_U _ h2, h3, hfr, hlo, Or.inr ⟨rfl, host, List.mem_append_right _ hl⟩, mm_T_U, ?_⟩
  rcases h4 with ⟨a, b, c, d, e, f, g⟩ | ⟨a, b, c⟩
  · exact Or.inl ⟨a, b, mm_T_U _ c, mm_T_U _ d, e, f, g⟩
  · exact Or.inr ⟨a, mm_T_U _ b, c⟩
theorem mm_xe0 (own : String) : ∀ idx is ic k, mm_x0 idx is ic = some k → mm_XE own mm_U idx is ic k := fun _ _ _ _ h => nomatch h
theorem mm_F0h {F : Nat → Option (Nat × Nat)} {C : Nat → Option mm_Ca} {X0 : Nat → Nat → Nat → Option Nat} {LC : Nat → Option Int} {SC : Nat → Option (Nat × (Nat → Int32))} {rt mu : Nat} {hn : Nat → Nat → Option Nat} {Qr : mm_Q} {cd : List mm_E} :
    ∀ t ls st M d u, mm_in t [] = true → mm_F0 t ls st M d u → mm_run F C X0 LC SC rt mu hn Qr cd t ls st M d u := fun _ _ _ _ _ _ h _ => nomatch h
theorem mm_mt {l : Launch} {y : MethodName} {b : ByteArray} {maxL : Nat} {ret : Option FieldType} {fr lo mu rt : Nat} {own : String} {sp : mm_S} {cd : List mm_E} {fl : List (Nat × Nat × Nat)} {ct : List (Nat × mm_Ca)} {xt : Nat → Nat → Nat → Option Nat} {lc : List (Nat × Int)}
    (hl : l.stackTraces = false) (h : mm_RN fl ct xt lc rt mu maxL cd sp) (hy : plainName y.cls = true ∧ y.cls = own) (hk : mm_chk b cd = true) (hrt : mm_rtOK rt ret = true) (hfl : 5 < fr ∧ 82 ≤ lo)
    (hf : ∀ q ∈ fl, mm_lk own mm_U q.2.1 q.2.2 q.1) (hlc : ∀ q ∈ lc, Jvm.Cond.constantLong own q.1 (Int64.ofInt q.2) ∈ mm_U) (hPE : mm_PEs l own (mm_rm fr lo mu) ct) (hXE : ∀ idx is ic k, xt idx is ic = some k → mm_XE own mm_U idx is ic k) (hn9 : ∀ q ∈ fl, q.2.2 < 90 := by decide) : mm_Met l y b maxL ret [] fr lo mu sp :=
  mm_meth (F := mm_look fl) (C := mm_look ct) (X0 := xt) (LC := mm_look lc) hl hy.1 hy.2 hk hrt hfl.1 hfl.2 ⟨fun k rc n e => Or.inl ⟨hn9 _ (mm_look_mem fl e), hf (k, rc, n) (mm_look_mem fl e)⟩, fun k x e => hlc (k, x) (mm_look_mem lc e)⟩ (fun idx ca e => mm_PEs_look ct hPE e) hXE (fun k rc e => absurd (hn9 _ (mm_look_mem fl e)) (by simp)) (fun av M d Q hs => h av M d Q hs)
def isW (w : Nat) : Prop := w = 8 ∨ w = 10 ∨ w = 12 ∨ w = 14
theorem mm_isW {w : Nat} (h : isW w) {M : mm_M} {d : List Nat} : mm_is M d w 12 := by
  rcases h with rfl | rfl | rfl | rfl <;> exact ⟨rfl, List.mem_append_left _ (by decide)⟩
theorem mm_isA {w : Nat} (h : isW w) {M : mm_M} {d : List Nat} : mm_is M d (w + 1) 1 := by
  rcases h with rfl | rfl | rfl | rfl <;> exact ⟨rfl, List.mem_append_left _ (by decide)⟩
theorem mm_lnA {w : Nat} (h : isW w) {M : mm_M} : mm_ln M (w + 1) = 30 := by
  rcases h with rfl | rfl | rfl | rfl <;> rfl
theorem mm_i1 {M : mm_M} {d : List Nat} : mm_is M d 1 10 := ⟨rfl, List.mem_append_left _ (by decide)⟩
theorem mm_i2 {M : mm_M} {d : List Nat} : mm_is M d 2 11 := ⟨rfl, List.mem_append_left _ (by decide)⟩
theorem mm_i3 {M : mm_M} {d : List Nat} : mm_is M d 3 1 := ⟨rfl, List.mem_append_left _ (by decide)⟩
theorem mm_i4 {M : mm_M} {d : List Nat} : mm_is M d 4 1 := ⟨rfl, List.mem_append_left _ (by decide)⟩
theorem mm_i5 {M : mm_M} {d : List Nat} : mm_is M d 5 1 := ⟨rfl, List.mem_append_left _ (by decide)⟩
theorem mm_i6 {M : mm_M} {d : List Nat} : mm_is M d 6 1 := ⟨rfl, List.mem_append_left _ (by decide)⟩
theorem mm_i7 {M : mm_M} {d : List Nat} : mm_is M d 7 2 := ⟨rfl, List.mem_append_left _ (by decide)⟩
theorem mm_i16 {M : mm_M} {d : List Nat} : mm_is M d 16 13 := ⟨rfl, List.mem_append_left _ (by decide)⟩
theorem mm_i17 {M : mm_M} {d : List Nat} : mm_is M d 17 14 := ⟨rfl, List.mem_append_left _ (by decide)⟩
theorem mm_i18 {M : mm_M} {d : List Nat} : mm_is M d 18 1 := ⟨rfl, List.mem_append_left _ (by decide)⟩
theorem mm_i19 {M : mm_M} {d : List Nat} : mm_is M d 19 1 := ⟨rfl, List.mem_append_left _ (by decide)⟩
theorem mm_i20 {M : mm_M} {d : List Nat} : mm_is M d 20 1 := ⟨rfl, List.mem_append_left _ (by decide)⟩
theorem mm_i21 {M : mm_M} {d : List Nat} : mm_is M d 21 1 := ⟨rfl, List.mem_append_left _ (by decide)⟩
theorem mm_i22 {M : mm_M} {d : List Nat} : mm_is M d 22 1 := ⟨rfl, List.mem_append_left _ (by decide)⟩
theorem mm_i23 {M : mm_M} {d : List Nat} : mm_is M d 23 15 := ⟨rfl, List.mem_append_left _ (by decide)⟩
theorem mm_l3 {M : mm_M} : mm_ln M 3 = 30 := rfl
theorem mm_l4 {M : mm_M} : mm_ln M 4 = 30 := rfl
theorem mm_l5 {M : mm_M} : mm_ln M 5 = 10 := rfl
theorem mm_l6 {M : mm_M} : mm_ln M 6 = 10 := rfl
theorem mm_l7 {M : mm_M} : mm_ln M 7 = 3 := rfl
theorem mm_l18 {M : mm_M} : mm_ln M 18 = 30 := rfl
theorem mm_l19 {M : mm_M} : mm_ln M 19 = 30 := rfl
theorem mm_l20 {M : mm_M} : mm_ln M 20 = 120 := rfl
theorem mm_l21 {M : mm_M} : mm_ln M 21 = 4 := rfl
theorem mm_l22 {M : mm_M} : mm_ln M 22 = 4 := rfl
theorem mwX3_clear : mm_MW yX3_clear cX3_clear 2 (some .int) [] 0 10 1 := ⟨mm_t1 130 rfl rfl, mm_t1 1 rfl rfl, ⟨by decide +kernel, by decide +kernel⟩, TX3, _, Or.inl ⟨rfl, rfl, mm_t1 128 rfl rfl, mm_t1 129 rfl rfl, by decide, rfl, by decide +kernel⟩⟩
theorem mwX1_size : mm_MW yX1_size cX1_size 1 (some .int) [] 0 11 1 := ⟨mm_t1 134 rfl rfl, mm_t1 2 rfl rfl, ⟨by decide +kernel, by decide +kernel⟩, TX1, _, Or.inl ⟨rfl, rfl, mm_t1 132 rfl rfl, mm_t1 133 rfl rfl, by decide, rfl, by decide +kernel⟩⟩
theorem mwX3_empty : mm_MW yX3_empty cX3_empty 2 none [] 0 10 1 := ⟨mm_t1 138 rfl rfl, mm_t1 1 rfl rfl, ⟨by decide +kernel, by decide +kernel⟩, TX3, _, Or.inl ⟨rfl, rfl, mm_t1 137 rfl rfl, mm_t0 0 rfl rfl, by decide, rfl, by decide +kernel⟩⟩
theorem mwX1_dropAll : mm_MW yX1_dropAll cX1_dropAll 1 none [] 0 11 1 := ⟨mm_t1 142 rfl rfl, mm_t1 2 rfl rfl, ⟨by decide +kernel, by decide +kernel⟩, TX1, _, Or.inl ⟨rfl, rfl, mm_t1 140 rfl rfl, mm_t1 141 rfl rfl, by decide, rfl, by decide +kernel⟩⟩
theorem mwX1_endWords : mm_MW yX1_endWords cX1_endWords 1 none [] 0 11 1 := ⟨mm_t1 146 rfl rfl, mm_t1 2 rfl rfl, ⟨by decide +kernel, by decide +kernel⟩, TX1, _, Or.inl ⟨rfl, rfl, mm_t1 144 rfl rfl, mm_t1 145 rfl rfl, by decide, rfl, by decide +kernel⟩⟩
theorem mwX2_restart : mm_MW yX2_restart cX2_restart 2 none [] 0 12 2 := ⟨mm_t1 150 rfl rfl, mm_t1 3 rfl rfl, ⟨by decide +kernel, by decide +kernel⟩, TX2, _, Or.inl ⟨rfl, rfl, mm_t1 148 rfl rfl, mm_t1 149 rfl rfl, by decide, rfl, by decide +kernel⟩⟩
theorem mwX0_vanish : mm_MW yX0_vanish cX0_vanish 1 none [] 0 13 1 := ⟨mm_t1 154 rfl rfl, mm_t1 4 rfl rfl, ⟨by decide +kernel, by decide +kernel⟩, TX0, _, Or.inl ⟨rfl, rfl, mm_t1 152 rfl rfl, mm_t1 153 rfl rfl, by decide, rfl, by decide +kernel⟩⟩
theorem mwX3_counted : mm_MW yX3_counted cX3_counted 2 (some .int) [] 0 10 2 := ⟨mm_t1 158 rfl rfl, mm_t1 1 rfl rfl, ⟨by decide +kernel, by decide +kernel⟩, TX3, _, Or.inl ⟨rfl, rfl, mm_t1 157 rfl rfl, mm_t0 1 rfl rfl, by decide, rfl, by decide +kernel⟩⟩
theorem mwX3_oneWay : mm_MW yX3_oneWay cX3_oneWay 3 (some .int) [] 0 10 2 := ⟨mm_t1 162 rfl rfl, mm_t1 1 rfl rfl, ⟨by decide +kernel, by decide +kernel⟩, TX3, _, Or.inl ⟨rfl, rfl, mm_t1 160 rfl rfl, mm_t1 161 rfl rfl, by decide, rfl, by decide +kernel⟩⟩
theorem mwX3_anyIsBackward : mm_MW yX3_anyIsBackward cX3_anyIsBackward 2 (some .boolean) [] 0 10 1 := ⟨mm_t1 166 rfl rfl, mm_t1 1 rfl rfl, ⟨by decide +kernel, by decide +kernel⟩, TX3, _, Or.inl ⟨rfl, rfl, mm_t1 165 rfl rfl, mm_t0 2 rfl rfl, by decide, rfl, by decide +kernel⟩⟩
theorem mwX2_hasBackward : mm_MW yX2_hasBackward cX2_hasBackward 2 (some .boolean) [] 0 12 1 := ⟨mm_t1 170 rfl rfl, mm_t1 3 rfl rfl, ⟨by decide +kernel, by decide +kernel⟩, TX2, _, Or.inl ⟨rfl, rfl, mm_t1 168 rfl rfl, mm_t1 169 rfl rfl, by decide, rfl, by decide +kernel⟩⟩
theorem mwX1_isOneWay : mm_MW yX1_isOneWay cX1_isOneWay 1 (some .boolean) [] 0 11 1 := ⟨mm_t1 174 rfl rfl, mm_t1 2 rfl rfl, ⟨by decide +kernel, by decide +kernel⟩, TX1, _, Or.inl ⟨rfl, rfl, mm_t1 172 rfl rfl, mm_t1 173 rfl rfl, by decide, rfl, by decide +kernel⟩⟩
theorem mwX1_setOneWay : mm_MW yX1_setOneWay cX1_setOneWay 2 none [] 0 11 2 := ⟨mm_t1 178 rfl rfl, mm_t1 2 rfl rfl, ⟨by decide +kernel, by decide +kernel⟩, TX1, _, Or.inl ⟨rfl, rfl, mm_t1 176 rfl rfl, mm_t1 177 rfl rfl, by decide, rfl, by decide +kernel⟩⟩
theorem mwX3_turnTown : mm_MW yX3_turnTown cX3_turnTown 2 (some .int) [] 0 10 1 := ⟨mm_t1 182 rfl rfl, mm_t1 1 rfl rfl, ⟨by decide +kernel, by decide +kernel⟩, TX3, _, Or.inl ⟨rfl, rfl, mm_t1 180 rfl rfl, mm_t1 181 rfl rfl, by decide, rfl, by decide +kernel⟩⟩
theorem mwX2_turnOrder : mm_MW yX2_turnOrder cX2_turnOrder 4 none [] 0 12 1 := ⟨mm_t1 186 rfl rfl, mm_t1 3 rfl rfl, ⟨by decide +kernel, by decide +kernel⟩, TX2, _, Or.inl ⟨rfl, rfl, mm_t1 184 rfl rfl, mm_t1 185 rfl rfl, by decide, rfl, by decide +kernel⟩⟩
theorem mwX2_lastCorner : mm_MW yX2_lastCorner cX2_lastCorner 1 (some .int) [] 0 12 1 := ⟨mm_t1 190 rfl rfl, mm_t1 3 rfl rfl, ⟨by decide +kernel, by decide +kernel⟩, TX2, _, Or.inl ⟨rfl, rfl, mm_t1 188 rfl rfl, mm_t1 189 rfl rfl, by decide, rfl, by decide +kernel⟩⟩
theorem mwX2_cornerOf : mm_MW yX2_cornerOf cX2_cornerOf 2 (some .int) [] 0 12 2 := ⟨mm_t1 194 rfl rfl, mm_t1 3 rfl rfl, ⟨by decide +kernel, by decide +kernel⟩, TX2, _, Or.inl ⟨rfl, rfl, mm_t1 192 rfl rfl, mm_t1 193 rfl rfl, by decide, rfl, by decide +kernel⟩⟩
theorem mwX1_goalOf : mm_MW yX1_goalOf cX1_goalOf 3 (some .int) [] 0 11 2 := ⟨mm_t1 198 rfl rfl, mm_t1 2 rfl rfl, ⟨by decide +kernel, by decide +kernel⟩, TX1, _, Or.inl ⟨rfl, rfl, mm_t1 196 rfl rfl, mm_t1 197 rfl rfl, by decide, rfl, by decide +kernel⟩⟩
theorem mwX1_toOf : mm_MW yX1_toOf cX1_toOf 2 (some .int) [] 0 11 2 := ⟨mm_t1 202 rfl rfl, mm_t1 2 rfl rfl, ⟨by decide +kernel, by decide +kernel⟩, TX1, _, Or.inl ⟨rfl, rfl, mm_t1 200 rfl rfl, mm_t1 201 rfl rfl, by decide, rfl, by decide +kernel⟩⟩
theorem mwX1_fromOf : mm_MW yX1_fromOf cX1_fromOf 2 (some .int) [] 0 11 2 := ⟨mm_t1 206 rfl rfl, mm_t1 2 rfl rfl, ⟨by decide +kernel, by decide +kernel⟩, TX1, _, Or.inl ⟨rfl, rfl, mm_t1 204 rfl rfl, mm_t1 205 rfl rfl, by decide, rfl, by decide +kernel⟩⟩
theorem mwX1_swapEnds : mm_MW yX1_swapEnds cX1_swapEnds 3 none [] 0 11 1 := ⟨mm_t1 211 rfl rfl, mm_t1 2 rfl rfl, ⟨by decide +kernel, by decide +kernel⟩, TX1, _, Or.inl ⟨rfl, rfl, mm_t1 209 rfl rfl, mm_t1 210 rfl rfl, by decide, rfl, by decide +kernel⟩⟩
theorem mwX3_streets : mm_MW yX3_streets cX3_streets 1 (some .int) [] 0 10 1 := ⟨mm_t1 215 rfl rfl, mm_t1 1 rfl rfl, ⟨by decide +kernel, by decide +kernel⟩, TX3, _, Or.inl ⟨rfl, rfl, mm_t1 213 rfl rfl, mm_t1 214 rfl rfl, by decide, rfl, by decide +kernel⟩⟩
theorem mwX3_odd : mm_MW yX3_odd cX3_odd 1 (some .int) [] 0 10 1 := ⟨mm_t1 219 rfl rfl, mm_t1 1 rfl rfl, ⟨by decide +kernel, by decide +kernel⟩, TX3, _, Or.inl ⟨rfl, rfl, mm_t1 217 rfl rfl, mm_t1 218 rfl rfl, by decide, rfl, by decide +kernel⟩⟩
theorem mwX1_allStreets : mm_MW yX1_allStreets cX1_allStreets 1 (some .int) [] 0 11 1 := ⟨mm_t1 223 rfl rfl, mm_t1 2 rfl rfl, ⟨by decide +kernel, by decide +kernel⟩, TX1, _, Or.inl ⟨rfl, rfl, mm_t1 221 rfl rfl, mm_t1 222 rfl rfl, by decide, rfl, by decide +kernel⟩⟩
theorem mwX1_oddCount : mm_MW yX1_oddCount cX1_oddCount 4 (some .int) [] 0 11 2 := ⟨mm_t1 227 rfl rfl, mm_t1 2 rfl rfl, ⟨by decide +kernel, by decide +kernel⟩, TX1, _, Or.inl ⟨rfl, rfl, mm_t1 225 rfl rfl, mm_t1 226 rfl rfl, by decide, rfl, by decide +kernel⟩⟩
theorem mwX1_countWays : mm_MW yX1_countWays cX1_countWays 4 none [] 0 11 2 := ⟨mm_t1 231 rfl rfl, mm_t1 2 rfl rfl, ⟨by decide +kernel, by decide +kernel⟩, TX1, _, Or.inl ⟨rfl, rfl, mm_t1 230 rfl rfl, mm_t0 3 rfl rfl, by decide, rfl, by decide +kernel⟩⟩
theorem mwX1_isOddAsCounted : mm_MW yX1_isOddAsCounted cX1_isOddAsCounted 2 (some .boolean) [] 0 11 2 := ⟨mm_t1 235 rfl rfl, mm_t1 2 rfl rfl, ⟨by decide +kernel, by decide +kernel⟩, TX1, _, Or.inl ⟨rfl, rfl, mm_t1 234 rfl rfl, mm_t0 4 rfl rfl, by decide, rfl, by decide +kernel⟩⟩
theorem mwX1_isCorner : mm_MW yX1_isCorner cX1_isCorner 1 (some .boolean) [] 1 0 1 := ⟨mm_t1 238 rfl rfl, mm_t1 2 rfl rfl, ⟨by decide +kernel, by decide +kernel⟩, (fun _ => default), 0, Or.inr ⟨rfl, mm_t1 237 rfl rfl, by decide +kernel⟩⟩
theorem mwX3_hangs : mm_MW yX3_hangs cX3_hangs 1 (some .boolean) [] 0 10 1 := ⟨mm_t2 2 rfl rfl, mm_t1 1 rfl rfl, ⟨by decide +kernel, by decide +kernel⟩, TX3, _, Or.inl ⟨rfl, rfl, mm_t2 0 rfl rfl, mm_t2 1 rfl rfl, by decide, rfl, by decide +kernel⟩⟩
theorem mwX1_hangTogether : mm_MW yX1_hangTogether cX1_hangTogether 6 (some .boolean) [] 0 11 2 := ⟨mm_t2 6 rfl rfl, mm_t1 2 rfl rfl, ⟨by decide +kernel, by decide +kernel⟩, TX1, _, Or.inl ⟨rfl, rfl, mm_t2 4 rfl rfl, mm_t2 5 rfl rfl, by decide, rfl, by decide +kernel⟩⟩
theorem mwX1_reachedInOnePass : mm_MW yX1_reachedInOnePass cX1_reachedInOnePass 7 (some .int) [] 0 11 3 := ⟨mm_t2 10 rfl rfl, mm_t1 2 rfl rfl, ⟨by decide +kernel, by decide +kernel⟩, TX1, _, Or.inl ⟨rfl, rfl, mm_t2 9 rfl rfl, mm_t0 5 rfl rfl, by decide, rfl, by decide +kernel⟩⟩
theorem mwX1_isIn : mm_MW yX1_isIn cX1_isIn 2 (some .boolean) [] 1 0 2 := ⟨mm_t2 13 rfl rfl, mm_t1 2 rfl rfl, ⟨by decide +kernel, by decide +kernel⟩, (fun _ => default), 0, Or.inr ⟨rfl, mm_t2 12 rfl rfl, by decide +kernel⟩⟩
theorem mwX3_kind : mm_MW yX3_kind cX3_kind 1 (some .int) [] 0 10 1 := ⟨mm_t2 17 rfl rfl, mm_t1 1 rfl rfl, ⟨by decide +kernel, by decide +kernel⟩, TX3, _, Or.inl ⟨rfl, rfl, mm_t2 15 rfl rfl, mm_t2 16 rfl rfl, by decide, rfl, by decide +kernel⟩⟩
theorem mwX1_leastStart : mm_MW yX1_leastStart cX1_leastStart 2 (some .int) [] 0 11 1 := ⟨mm_t2 23 rfl rfl, mm_t1 2 rfl rfl, ⟨by decide +kernel, by decide +kernel⟩, TX1, _, Or.inl ⟨rfl, rfl, mm_t2 21 rfl rfl, mm_t2 22 rfl rfl, by decide, rfl, by decide +kernel⟩⟩
theorem mwX1_isStartOf : mm_MW yX1_isStartOf cX1_isStartOf 4 (some .boolean) [] 0 11 3 := ⟨mm_t2 28 rfl rfl, mm_t1 2 rfl rfl, ⟨by decide +kernel, by decide +kernel⟩, TX1, _, Or.inl ⟨rfl, rfl, mm_t2 26 rfl rfl, mm_t2 27 rfl rfl, by decide, rfl, by decide +kernel⟩⟩
theorem mwX3_cursorGo : mm_MW yX3_cursorGo cX3_cursorGo 2 (some .int) [] 0 10 2 := ⟨mm_t2 34 rfl rfl, mm_t1 1 rfl rfl, ⟨by decide +kernel, by decide +kernel⟩, TX3, _, Or.inl ⟨rfl, rfl, mm_t2 32 rfl rfl, mm_t2 33 rfl rfl, by decide, rfl, by decide +kernel⟩⟩
theorem mwX0_tell : mm_MW yX0_tell cX0_tell 2 (some .int) [] 0 13 2 := ⟨mm_t2 38 rfl rfl, mm_t1 4 rfl rfl, ⟨by decide +kernel, by decide +kernel⟩, TX0, _, Or.inl ⟨rfl, rfl, mm_t2 36 rfl rfl, mm_t2 37 rfl rfl, by decide, rfl, by decide +kernel⟩⟩
theorem mwX0_hasStep : mm_MW yX0_hasStep cX0_hasStep 3 (some .boolean) [] 0 13 2 := ⟨mm_t2 42 rfl rfl, mm_t1 4 rfl rfl, ⟨by decide +kernel, by decide +kernel⟩, TX0, _, Or.inl ⟨rfl, rfl, mm_t2 40 rfl rfl, mm_t2 41 rfl rfl, by decide, rfl, by decide +kernel⟩⟩
theorem mwX2_size : mm_MW yX2_size cX2_size 1 (some .int) [] 0 12 1 := ⟨mm_t2 46 rfl rfl, mm_t1 3 rfl rfl, ⟨by decide +kernel, by decide +kernel⟩, TX2, _, Or.inl ⟨rfl, rfl, mm_t2 44 rfl rfl, mm_t2 45 rfl rfl, by decide, rfl, by decide +kernel⟩⟩
theorem mwX0_placeAsked : mm_MW yX0_placeAsked cX0_placeAsked 2 (some .int) [] 0 13 2 := ⟨mm_t2 50 rfl rfl, mm_t1 4 rfl rfl, ⟨by decide +kernel, by decide +kernel⟩, TX0, _, Or.inl ⟨rfl, rfl, mm_t2 48 rfl rfl, mm_t2 49 rfl rfl, by decide, rfl, by decide +kernel⟩⟩
theorem mwX2_stepOf : mm_MW yX2_stepOf cX2_stepOf 2 (some .int) [] 0 12 2 := ⟨mm_t2 54 rfl rfl, mm_t1 3 rfl rfl, ⟨by decide +kernel, by decide +kernel⟩, TX2, _, Or.inl ⟨rfl, rfl, mm_t2 52 rfl rfl, mm_t2 53 rfl rfl, by decide, rfl, by decide +kernel⟩⟩
theorem mwX3_cursorRemove : mm_MW yX3_cursorRemove cX3_cursorRemove 1 (some .int) [] 0 10 1 := ⟨mm_t2 58 rfl rfl, mm_t1 1 rfl rfl, ⟨by decide +kernel, by decide +kernel⟩, TX3, _, Or.inl ⟨rfl, rfl, mm_t2 56 rfl rfl, mm_t2 57 rfl rfl, by decide, rfl, by decide +kernel⟩⟩
theorem mwX0_removeTold : mm_MW yX0_removeTold cX0_removeTold 3 (some .int) [] 0 13 1 := ⟨mm_t2 62 rfl rfl, mm_t1 4 rfl rfl, ⟨by decide +kernel, by decide +kernel⟩, TX0, _, Or.inl ⟨rfl, rfl, mm_t2 60 rfl rfl, mm_t2 61 rfl rfl, by decide, rfl, by decide +kernel⟩⟩
theorem mwX1_isLoop : mm_MW yX1_isLoop cX1_isLoop 2 (some .boolean) [] 0 11 2 := ⟨mm_t2 66 rfl rfl, mm_t1 2 rfl rfl, ⟨by decide +kernel, by decide +kernel⟩, TX1, _, Or.inl ⟨rfl, rfl, mm_t2 64 rfl rfl, mm_t2 65 rfl rfl, by decide, rfl, by decide +kernel⟩⟩
theorem mwX2_takeOutFirst : mm_MW yX2_takeOutFirst cX2_takeOutFirst 1 none [] 0 12 1 := ⟨mm_t2 70 rfl rfl, mm_t1 3 rfl rfl, ⟨by decide +kernel, by decide +kernel⟩, TX2, _, Or.inl ⟨rfl, rfl, mm_t2 68 rfl rfl, mm_t2 69 rfl rfl, by decide, rfl, by decide +kernel⟩⟩
theorem mwX2_takeOut : mm_MW yX2_takeOut cX2_takeOut 3 none [] 0 12 2 := ⟨mm_t2 74 rfl rfl, mm_t1 3 rfl rfl, ⟨by decide +kernel, by decide +kernel⟩, TX2, _, Or.inl ⟨rfl, rfl, mm_t2 72 rfl rfl, mm_t2 73 rfl rfl, by decide, rfl, by decide +kernel⟩⟩
theorem mwX3_cursorCan : mm_MW yX3_cursorCan cX3_cursorCan 2 (some .boolean) [] 0 10 2 := ⟨mm_t2 79 rfl rfl, mm_t1 1 rfl rfl, ⟨by decide +kernel, by decide +kernel⟩, TX3, _, Or.inl ⟨rfl, rfl, mm_t2 77 rfl rfl, mm_t2 78 rfl rfl, by decide, rfl, by decide +kernel⟩⟩
theorem mwX3_cursorPlace : mm_MW yX3_cursorPlace cX3_cursorPlace 2 (some .int) [] 0 10 2 := ⟨mm_t2 84 rfl rfl, mm_t1 1 rfl rfl, ⟨by decide +kernel, by decide +kernel⟩, TX3, _, Or.inl ⟨rfl, rfl, mm_t2 82 rfl rfl, mm_t2 83 rfl rfl, by decide, rfl, by decide +kernel⟩⟩
theorem mwX3_knock : mm_MW yX3_knock cX3_knock 1 (some .int) [] 0 10 1 := ⟨mm_t2 89 rfl rfl, mm_t1 1 rfl rfl, ⟨by decide +kernel, by decide +kernel⟩, TX3, _, Or.inl ⟨rfl, rfl, mm_t2 87 rfl rfl, mm_t2 88 rfl rfl, by decide, rfl, by decide +kernel⟩⟩
theorem mwX3_isSound : mm_MW yX3_isSound cX3_isSound 3 (some .boolean) [] 0 10 1 := ⟨mm_t2 93 rfl rfl, mm_t1 1 rfl rfl, ⟨by decide +kernel, by decide +kernel⟩, TX3, _, Or.inl ⟨rfl, rfl, mm_t2 91 rfl rfl, mm_t2 92 rfl rfl, by decide, rfl, by decide +kernel⟩⟩
theorem mwX2_isTrueWalk : mm_MW yX2_isTrueWalk cX2_isTrueWalk 5 (some .boolean) [] 0 12 1 := ⟨mm_t2 97 rfl rfl, mm_t1 3 rfl rfl, ⟨by decide +kernel, by decide +kernel⟩, TX2, _, Or.inl ⟨rfl, rfl, mm_t2 95 rfl rfl, mm_t2 96 rfl rfl, by decide, rfl, by decide +kernel⟩⟩
theorem mwX1_leaving : mm_MW yX1_leaving cX1_leaving 3 (some .int) [] 0 11 3 := ⟨mm_t2 101 rfl rfl, mm_t1 2 rfl rfl, ⟨by decide +kernel, by decide +kernel⟩, TX1, _, Or.inl ⟨rfl, rfl, mm_t2 99 rfl rfl, mm_t2 100 rfl rfl, by decide, rfl, by decide +kernel⟩⟩
theorem mwX2_leadsBack : mm_MW yX2_leadsBack cX2_leadsBack 3 (some .boolean) [] 0 12 1 := ⟨mm_t2 105 rfl rfl, mm_t1 3 rfl rfl, ⟨by decide +kernel, by decide +kernel⟩, TX2, _, Or.inl ⟨rfl, rfl, mm_t2 104 rfl rfl, mm_t0 6 rfl rfl, by decide, rfl, by decide +kernel⟩⟩
theorem mwX1_sourceOf : mm_MW yX1_sourceOf cX1_sourceOf 2 (some .int) [] 0 11 2 := ⟨mm_t2 109 rfl rfl, mm_t1 2 rfl rfl, ⟨by decide +kernel, by decide +kernel⟩, TX1, _, Or.inl ⟨rfl, rfl, mm_t2 107 rfl rfl, mm_t2 108 rfl rfl, by decide, rfl, by decide +kernel⟩⟩
theorem mwX1_waysAddUp : mm_MW yX1_waysAddUp cX1_waysAddUp 5 (some .boolean) [] 0 11 1 := ⟨mm_t2 115 rfl rfl, mm_t1 2 rfl rfl, ⟨by decide +kernel, by decide +kernel⟩, TX1, _, Or.inl ⟨rfl, rfl, mm_t2 113 rfl rfl, mm_t2 114 rfl rfl, by decide, rfl, by decide +kernel⟩⟩
theorem mwX2_fillUp : mm_MW yX2_fillUp cX2_fillUp 4 (some .int) [] 0 12 2 := ⟨mm_t2 119 rfl rfl, mm_t1 3 rfl rfl, ⟨by decide +kernel, by decide +kernel⟩, TX2, _, Or.inl ⟨rfl, rfl, mm_t2 117 rfl rfl, mm_t2 118 rfl rfl, by decide, rfl, by decide +kernel⟩⟩
theorem mwX2_goOn : mm_MW yX2_goOn cX2_goOn 8 (some .int) [] 0 12 3 := ⟨mm_t2 123 rfl rfl, mm_t1 3 rfl rfl, ⟨by decide +kernel, by decide +kernel⟩, TX2, _, Or.inl ⟨rfl, rfl, mm_t2 121 rfl rfl, mm_t2 122 rfl rfl, by decide, rfl, by decide +kernel⟩⟩
theorem mwX2_notWalked : mm_MW yX2_notWalked cX2_notWalked 3 (some .int) [] 0 12 1 := ⟨mm_t2 127 rfl rfl, mm_t1 3 rfl rfl, ⟨by decide +kernel, by decide +kernel⟩, TX2, _, Or.inl ⟨rfl, rfl, mm_t2 126 rfl rfl, mm_t0 7 rfl rfl, by decide, rfl, by decide +kernel⟩⟩
theorem mwX1_stepOn : mm_MW yX1_stepOn cX1_stepOn 7 (some .int) [] 0 11 4 := ⟨mm_t2 132 rfl rfl, mm_t1 2 rfl rfl, ⟨by decide +kernel, by decide +kernel⟩, TX1, _, Or.inl ⟨rfl, rfl, mm_t2 130 rfl rfl, mm_t2 131 rfl rfl, by decide, rfl, by decide +kernel⟩⟩
theorem mwX2_putIn : mm_MW yX2_putIn cX2_putIn 4 none [] 0 12 3 := ⟨mm_t2 137 rfl rfl, mm_t1 3 rfl rfl, ⟨by decide +kernel, by decide +kernel⟩, TX2, _, Or.inl ⟨rfl, rfl, mm_t2 135 rfl rfl, mm_t2 136 rfl rfl, by decide, rfl, by decide +kernel⟩⟩
theorem mwX2_isWhole : mm_MW yX2_isWhole cX2_isWhole 1 (some .boolean) [] 0 12 1 := ⟨mm_t2 141 rfl rfl, mm_t1 3 rfl rfl, ⟨by decide +kernel, by decide +kernel⟩, TX2, _, Or.inl ⟨rfl, rfl, mm_t2 139 rfl rfl, mm_t2 140 rfl rfl, by decide, rfl, by decide +kernel⟩⟩
theorem mwX2_isHome : mm_MW yX2_isHome cX2_isHome 1 (some .boolean) [] 0 12 1 := ⟨mm_t2 146 rfl rfl, mm_t1 3 rfl rfl, ⟨by decide +kernel, by decide +kernel⟩, TX2, _, Or.inl ⟨rfl, rfl, mm_t2 144 rfl rfl, mm_t2 145 rfl rfl, by decide, rfl, by decide +kernel⟩⟩
theorem mwX3_hasEachWordOnce : mm_MW yX3_hasEachWordOnce cX3_hasEachWordOnce 4 (some .boolean) [] 0 10 2 := ⟨mm_t2 150 rfl rfl, mm_t1 1 rfl rfl, ⟨by decide +kernel, by decide +kernel⟩, TX3, _, Or.inl ⟨rfl, rfl, mm_t2 149 rfl rfl, mm_t0 8 rfl rfl, by decide, rfl, by decide +kernel⟩⟩
theorem mwX1_isOfWords : mm_MW yX1_isOfWords cX1_isOfWords 1 (some .boolean) [] 0 11 1 := ⟨mm_t2 154 rfl rfl, mm_t1 2 rfl rfl, ⟨by decide +kernel, by decide +kernel⟩, TX1, _, Or.inl ⟨rfl, rfl, mm_t2 152 rfl rfl, mm_t2 153 rfl rfl, by decide, rfl, by decide +kernel⟩⟩
theorem mwX2_placeOfWord : mm_MW yX2_placeOfWord cX2_placeOfWord 4 (some .int) [] 0 12 3 := ⟨mm_t2 158 rfl rfl, mm_t1 3 rfl rfl, ⟨by decide +kernel, by decide +kernel⟩, TX2, _, Or.inl ⟨rfl, rfl, mm_t2 156 rfl rfl, mm_t2 157 rfl rfl, by decide, rfl, by decide +kernel⟩⟩
theorem mwX2_hasWord : mm_MW yX2_hasWord cX2_hasWord 6 (some .boolean) [] 0 12 3 := ⟨mm_t2 163 rfl rfl, mm_t1 3 rfl rfl, ⟨by decide +kernel, by decide +kernel⟩, TX2, _, Or.inl ⟨rfl, rfl, mm_t2 162 rfl rfl, mm_t0 9 rfl rfl, by decide, rfl, by decide +kernel⟩⟩
theorem mwX1_signCount : mm_MW yX1_signCount cX1_signCount 1 (some .int) [] 0 11 1 := ⟨mm_t2 167 rfl rfl, mm_t1 2 rfl rfl, ⟨by decide +kernel, by decide +kernel⟩, TX1, _, Or.inl ⟨rfl, rfl, mm_t2 165 rfl rfl, mm_t2 166 rfl rfl, by decide, rfl, by decide +kernel⟩⟩
theorem mwX1_wordSize : mm_MW yX1_wordSize cX1_wordSize 1 (some .int) [] 0 11 1 := ⟨mm_t2 171 rfl rfl, mm_t1 2 rfl rfl, ⟨by decide +kernel, by decide +kernel⟩, TX1, _, Or.inl ⟨rfl, rfl, mm_t2 169 rfl rfl, mm_t2 170 rfl rfl, by decide, rfl, by decide +kernel⟩⟩
theorem mwX1_signOf : mm_MW yX1_signOf cX1_signOf 2 (some .int) [] 0 11 2 := ⟨mm_t2 175 rfl rfl, mm_t1 2 rfl rfl, ⟨by decide +kernel, by decide +kernel⟩, TX1, _, Or.inl ⟨rfl, rfl, mm_t2 173 rfl rfl, mm_t2 174 rfl rfl, by decide, rfl, by decide +kernel⟩⟩
theorem mwX3_digest : mm_MW yX3_digest cX3_digest 4 (some .long) [] 0 10 1 := ⟨mm_t2 179 rfl rfl, mm_t1 1 rfl rfl, ⟨by decide +kernel, by decide +kernel⟩, TX3, _, Or.inl ⟨rfl, rfl, mm_t2 177 rfl rfl, mm_t2 178 rfl rfl, by decide, rfl, by decide +kernel⟩⟩
theorem mwX3_digestOfTown : mm_MW yX3_digestOfTown cX3_digestOfTown 6 (some .long) [] 0 10 2 := ⟨mm_t2 184 rfl rfl, mm_t1 1 rfl rfl, ⟨by decide +kernel, by decide +kernel⟩, TX3, _, Or.inl ⟨rfl, rfl, mm_t2 183 rfl rfl, mm_t0 10 rfl rfl, by decide, rfl, by decide +kernel⟩⟩
theorem mwX3_mixed : mm_MW yX3_mixed cX3_mixed 4 (some .long) [] 1 0 2 := ⟨mm_t2 187 rfl rfl, mm_t1 1 rfl rfl, ⟨by decide +kernel, by decide +kernel⟩, (fun _ => default), 0, Or.inr ⟨rfl, mm_t2 186 rfl rfl, by decide +kernel⟩⟩
theorem mwX1_outOf : mm_MW yX1_outOf cX1_outOf 2 (some .int) [] 0 11 2 := ⟨mm_t2 194 rfl rfl, mm_t1 2 rfl rfl, ⟨by decide +kernel, by decide +kernel⟩, TX1, _, Or.inl ⟨rfl, rfl, mm_t2 192 rfl rfl, mm_t2 193 rfl rfl, by decide, rfl, by decide +kernel⟩⟩
theorem mwX1_inOf : mm_MW yX1_inOf cX1_inOf 2 (some .int) [] 0 11 2 := ⟨mm_t2 198 rfl rfl, mm_t1 2 rfl rfl, ⟨by decide +kernel, by decide +kernel⟩, TX1, _, Or.inl ⟨rfl, rfl, mm_t2 196 rfl rfl, mm_t2 197 rfl rfl, by decide, rfl, by decide +kernel⟩⟩
theorem mwX3_numberOf : mm_MW yX3_numberOf cX3_numberOf 1 (some .int) [] 1 0 1 := ⟨mm_t2 202 rfl rfl, mm_t1 1 rfl rfl, ⟨by decide +kernel, by decide +kernel⟩, (fun _ => default), 0, Or.inr ⟨rfl, mm_t2 201 rfl rfl, by decide +kernel⟩⟩
theorem mwX3_digestOfWalk : mm_MW yX3_digestOfWalk cX3_digestOfWalk 9 (some .long) [] 0 10 3 := ⟨mm_t2 208 rfl rfl, mm_t1 1 rfl rfl, ⟨by decide +kernel, by decide +kernel⟩, TX3, _, Or.inl ⟨rfl, rfl, mm_t2 207 rfl rfl, mm_t0 11 rfl rfl, by decide, rfl, by decide +kernel⟩⟩
theorem mwX3_walkOf : mm_MW yX3_walkOf cX3_walkOf 2 (some (.object "Allstreets$Walk")) [] 0 10 2 := ⟨mm_t2 212 rfl rfl, mm_t1 1 rfl rfl, ⟨by decide +kernel, by decide +kernel⟩, TX3, _, Or.inl ⟨rfl, rfl, mm_t2 211 rfl rfl, mm_t0 12 rfl rfl, by decide, rfl, by decide +kernel⟩⟩
theorem mwX2_firstCorner : mm_MW yX2_firstCorner cX2_firstCorner 1 (some .int) [] 0 12 1 := ⟨mm_t3 44 rfl rfl, mm_t1 3 rfl rfl, ⟨by decide +kernel, by decide +kernel⟩, TX2, _, Or.inl ⟨rfl, rfl, mm_t3 42 rfl rfl, mm_t3 43 rfl rfl, by decide, rfl, by decide +kernel⟩⟩
theorem mwX2_turnTo : mm_MW yX2_turnTo cX2_turnTo 3 (some .int) [] 0 12 2 := ⟨mm_t3 50 rfl rfl, mm_t1 3 rfl rfl, ⟨by decide +kernel, by decide +kernel⟩, TX2, _, Or.inl ⟨rfl, rfl, mm_t3 48 rfl rfl, mm_t3 49 rfl rfl, by decide, rfl, by decide +kernel⟩⟩
theorem mwX2_isSameTurned : mm_MW yX2_isSameTurned cX2_isSameTurned 4 (some .boolean) [] 0 12 3 := ⟨mm_t3 54 rfl rfl, mm_t1 3 rfl rfl, ⟨by decide +kernel, by decide +kernel⟩, TX2, _, Or.inl ⟨rfl, rfl, mm_t3 52 rfl rfl, mm_t3 53 rfl rfl, by decide, rfl, by decide +kernel⟩⟩
theorem mwL_lay : mm_MW yL_lay cL_lay 5 (some .int) [(0, 11, 14, 19)] 1 0 4 := ⟨mm_t3 74 rfl rfl, mm_t1 0 rfl rfl, ⟨by decide +kernel, by decide +kernel⟩, (fun _ => default), 0, Or.inr ⟨rfl, mm_t3 73 rfl rfl, by decide +kernel⟩⟩
theorem mwX3_lay : mm_MW yX3_lay cX3_lay 3 (some .int) [] 0 10 3 := ⟨mm_t3 79 rfl rfl, mm_t1 1 rfl rfl, ⟨by decide +kernel, by decide +kernel⟩, TX3, _, Or.inl ⟨rfl, rfl, mm_t3 77 rfl rfl, mm_t3 78 rfl rfl, by decide, rfl, by decide +kernel⟩⟩
theorem mwX3_checkCorner : mm_MW yX3_checkCorner cX3_checkCorner 2 none [] 0 10 2 := ⟨mm_t3 83 rfl rfl, mm_t1 1 rfl rfl, ⟨by decide +kernel, by decide +kernel⟩, TX3, _, Or.inl ⟨rfl, rfl, mm_t3 82 rfl rfl, mm_t0 14 rfl rfl, by decide, rfl, by decide +kernel⟩⟩
theorem mwX1_hasRoomFor : mm_MW yX1_hasRoomFor cX1_hasRoomFor 2 (some .boolean) [] 0 11 2 := ⟨mm_t3 89 rfl rfl, mm_t1 2 rfl rfl, ⟨by decide +kernel, by decide +kernel⟩, TX1, _, Or.inl ⟨rfl, rfl, mm_t3 87 rfl rfl, mm_t3 88 rfl rfl, by decide, rfl, by decide +kernel⟩⟩
theorem mwX1_addStreet : mm_MW yX1_addStreet cX1_addStreet 3 none [] 0 11 3 := ⟨mm_t3 93 rfl rfl, mm_t1 2 rfl rfl, ⟨by decide +kernel, by decide +kernel⟩, TX1, _, Or.inl ⟨rfl, rfl, mm_t3 91 rfl rfl, mm_t3 92 rfl rfl, by decide, rfl, by decide +kernel⟩⟩
theorem mwL_layRing : mm_MW yL_layRing cL_layRing 5 (some .int) [(0, 11, 14, 24)] 1 0 4 := ⟨mm_t3 96 rfl rfl, mm_t1 0 rfl rfl, ⟨by decide +kernel, by decide +kernel⟩, (fun _ => default), 0, Or.inr ⟨rfl, mm_t3 95 rfl rfl, by decide +kernel⟩⟩
theorem mwX3_layRing : mm_MW yX3_layRing cX3_layRing 3 (some .int) [] 0 10 3 := ⟨mm_t3 101 rfl rfl, mm_t1 1 rfl rfl, ⟨by decide +kernel, by decide +kernel⟩, TX3, _, Or.inl ⟨rfl, rfl, mm_t3 99 rfl rfl, mm_t3 100 rfl rfl, by decide, rfl, by decide +kernel⟩⟩
theorem mwX3_checkRange : mm_MW yX3_checkRange cX3_checkRange 3 none [] 1 0 3 := ⟨mm_t3 104 rfl rfl, mm_t1 1 rfl rfl, ⟨by decide +kernel, by decide +kernel⟩, (fun _ => default), 0, Or.inr ⟨rfl, mm_t3 103 rfl rfl, by decide +kernel⟩⟩
theorem mwX1_addRing : mm_MW yX1_addRing cX1_addRing 4 none [] 0 11 3 := ⟨mm_t3 124 rfl rfl, mm_t1 2 rfl rfl, ⟨by decide +kernel, by decide +kernel⟩, TX1, _, Or.inl ⟨rfl, rfl, mm_t3 122 rfl rfl, mm_t3 123 rfl rfl, by decide, rfl, by decide +kernel⟩⟩
theorem mwL_words : mm_MW yL_words cL_words 5 (some .int) [(0, 11, 14, 24)] 1 0 4 := ⟨mm_t3 128 rfl rfl, mm_t1 0 rfl rfl, ⟨by decide +kernel, by decide +kernel⟩, (fun _ => default), 0, Or.inr ⟨rfl, mm_t3 127 rfl rfl, by decide +kernel⟩⟩
theorem mwX3_words : mm_MW yX3_words cX3_words 3 (some .int) [] 0 10 3 := ⟨mm_t3 132 rfl rfl, mm_t1 1 rfl rfl, ⟨by decide +kernel, by decide +kernel⟩, TX3, _, Or.inl ⟨rfl, rfl, mm_t3 130 rfl rfl, mm_t3 131 rfl rfl, by decide, rfl, by decide +kernel⟩⟩
theorem mwX3_powerOf : mm_MW yX3_powerOf cX3_powerOf 4 (some .int) [] 1 0 2 := ⟨mm_t3 135 rfl rfl, mm_t1 1 rfl rfl, ⟨by decide +kernel, by decide +kernel⟩, (fun _ => default), 0, Or.inr ⟨rfl, mm_t3 134 rfl rfl, by decide +kernel⟩⟩
theorem mwX1_becomeWords : mm_MW yX1_becomeWords cX1_becomeWords 5 none [] 0 11 3 := ⟨mm_t3 139 rfl rfl, mm_t1 2 rfl rfl, ⟨by decide +kernel, by decide +kernel⟩, TX1, _, Or.inl ⟨rfl, rfl, mm_t3 137 rfl rfl, mm_t3 138 rfl rfl, by decide, rfl, by decide +kernel⟩⟩
theorem mwL_close : mm_MW yL_close cL_close 4 (some .int) [(0, 10, 13, 19)] 1 0 3 := ⟨mm_t3 143 rfl rfl, mm_t1 0 rfl rfl, ⟨by decide +kernel, by decide +kernel⟩, (fun _ => default), 0, Or.inr ⟨rfl, mm_t3 142 rfl rfl, by decide +kernel⟩⟩
theorem mwX3_close : mm_MW yX3_close cX3_close 3 (some .int) [] 0 10 2 := ⟨mm_t3 147 rfl rfl, mm_t1 1 rfl rfl, ⟨by decide +kernel, by decide +kernel⟩, TX3, _, Or.inl ⟨rfl, rfl, mm_t3 145 rfl rfl, mm_t3 146 rfl rfl, by decide, rfl, by decide +kernel⟩⟩
theorem mwX3_checkStreet : mm_MW yX3_checkStreet cX3_checkStreet 2 none [] 0 10 2 := ⟨mm_t3 151 rfl rfl, mm_t1 1 rfl rfl, ⟨by decide +kernel, by decide +kernel⟩, TX3, _, Or.inl ⟨rfl, rfl, mm_t3 150 rfl rfl, mm_t0 15 rfl rfl, by decide, rfl, by decide +kernel⟩⟩
theorem mwX2_placeOf : mm_MW yX2_placeOf cX2_placeOf 3 (some .int) [] 0 12 2 := ⟨mm_t3 156 rfl rfl, mm_t1 3 rfl rfl, ⟨by decide +kernel, by decide +kernel⟩, TX2, _, Or.inl ⟨rfl, rfl, mm_t3 154 rfl rfl, mm_t3 155 rfl rfl, by decide, rfl, by decide +kernel⟩⟩
theorem mwX1_dropStreet : mm_MW yX1_dropStreet cX1_dropStreet 3 none [] 0 11 2 := ⟨mm_t3 160 rfl rfl, mm_t1 2 rfl rfl, ⟨by decide +kernel, by decide +kernel⟩, TX1, _, Or.inl ⟨rfl, rfl, mm_t3 158 rfl rfl, mm_t3 159 rfl rfl, by decide, rfl, by decide +kernel⟩⟩
theorem mwX2_renumberBehind : mm_MW yX2_renumberBehind cX2_renumberBehind 3 none [] 0 12 2 := ⟨mm_t3 164 rfl rfl, mm_t1 3 rfl rfl, ⟨by decide +kernel, by decide +kernel⟩, TX2, _, Or.inl ⟨rfl, rfl, mm_t3 162 rfl rfl, mm_t3 163 rfl rfl, by decide, rfl, by decide +kernel⟩⟩
theorem mwL_end : mm_MW yL_end cL_end 5 (some .int) [(0, 11, 14, 19)] 1 0 4 := ⟨mm_t3 167 rfl rfl, mm_t1 0 rfl rfl, ⟨by decide +kernel, by decide +kernel⟩, (fun _ => default), 0, Or.inr ⟨rfl, mm_t3 166 rfl rfl, by decide +kernel⟩⟩
theorem mwX3_end : mm_MW yX3_end cX3_end 3 (some .int) [] 0 10 3 := ⟨mm_t3 171 rfl rfl, mm_t1 1 rfl rfl, ⟨by decide +kernel, by decide +kernel⟩, TX3, _, Or.inl ⟨rfl, rfl, mm_t3 169 rfl rfl, mm_t3 170 rfl rfl, by decide, rfl, by decide +kernel⟩⟩
theorem mwL_ways : mm_MW yL_ways cL_ways 5 (some .int) [(0, 11, 14, 19), (0, 11, 18, 24)] 1 0 4 := ⟨mm_t3 174 rfl rfl, mm_t1 0 rfl rfl, ⟨by decide +kernel, by decide +kernel⟩, (fun _ => default), 0, Or.inr ⟨rfl, mm_t3 173 rfl rfl, by decide +kernel⟩⟩
theorem mwX3_ways : mm_MW yX3_ways cX3_ways 3 (some .int) [] 0 10 3 := ⟨mm_t3 178 rfl rfl, mm_t1 1 rfl rfl, ⟨by decide +kernel, by decide +kernel⟩, TX3, _, Or.inl ⟨rfl, rfl, mm_t3 176 rfl rfl, mm_t3 177 rfl rfl, by decide, rfl, by decide +kernel⟩⟩
theorem mwL_isStart : mm_MW yL_isStart cL_isStart 4 (some .int) [(0, 17, 20, 19)] 1 0 3 := ⟨mm_t3 181 rfl rfl, mm_t1 0 rfl rfl, ⟨by decide +kernel, by decide +kernel⟩, (fun _ => default), 0, Or.inr ⟨rfl, mm_t3 180 rfl rfl, by decide +kernel⟩⟩
theorem mwX3_isStart : mm_MW yX3_isStart cX3_isStart 2 (some .boolean) [] 0 10 2 := ⟨mm_t3 185 rfl rfl, mm_t1 1 rfl rfl, ⟨by decide +kernel, by decide +kernel⟩, TX3, _, Or.inl ⟨rfl, rfl, mm_t3 183 rfl rfl, mm_t3 184 rfl rfl, by decide, rfl, by decide +kernel⟩⟩
theorem mwL_rule : mm_MW yL_rule cL_rule 4 (some .int) [(0, 10, 13, 24)] 1 0 3 := ⟨mm_t3 188 rfl rfl, mm_t1 0 rfl rfl, ⟨by decide +kernel, by decide +kernel⟩, (fun _ => default), 0, Or.inr ⟨rfl, mm_t3 187 rfl rfl, by decide +kernel⟩⟩
theorem mwX3_rule : mm_MW yX3_rule cX3_rule 2 (some .int) [] 0 10 2 := ⟨mm_t3 192 rfl rfl, mm_t1 1 rfl rfl, ⟨by decide +kernel, by decide +kernel⟩, TX3, _, Or.inl ⟨rfl, rfl, mm_t3 190 rfl rfl, mm_t3 191 rfl rfl, by decide, rfl, by decide +kernel⟩⟩
theorem mwL_begin : mm_MW yL_begin cL_begin 5 (some .int) [(0, 11, 14, 19)] 1 0 4 := ⟨mm_t3 195 rfl rfl, mm_t1 0 rfl rfl, ⟨by decide +kernel, by decide +kernel⟩, (fun _ => default), 0, Or.inr ⟨rfl, mm_t3 194 rfl rfl, by decide +kernel⟩⟩
theorem mwX3_begin : mm_MW yX3_begin cX3_begin 5 (some .int) [] 0 10 3 := ⟨mm_t3 199 rfl rfl, mm_t1 1 rfl rfl, ⟨by decide +kernel, by decide +kernel⟩, TX3, _, Or.inl ⟨rfl, rfl, mm_t3 197 rfl rfl, mm_t3 198 rfl rfl, by decide, rfl, by decide +kernel⟩⟩
theorem mwX0_loseOn : mm_MW yX0_loseOn cX0_loseOn 2 none [] 0 13 2 := ⟨mm_t3 203 rfl rfl, mm_t1 4 rfl rfl, ⟨by decide +kernel, by decide +kernel⟩, TX0, _, Or.inl ⟨rfl, rfl, mm_t3 201 rfl rfl, mm_t3 202 rfl rfl, by decide, rfl, by decide +kernel⟩⟩
theorem mwL_step : mm_MW yL_step cL_step 6 (some .int) [(0, 13, 16, 19)] 1 0 5 := ⟨mm_t3 206 rfl rfl, mm_t1 0 rfl rfl, ⟨by decide +kernel, by decide +kernel⟩, (fun _ => default), 0, Or.inr ⟨rfl, mm_t3 205 rfl rfl, by decide +kernel⟩⟩
theorem mwX3_step : mm_MW yX3_step cX3_step 5 (some .int) [] 0 10 4 := ⟨mm_t3 210 rfl rfl, mm_t1 1 rfl rfl, ⟨by decide +kernel, by decide +kernel⟩, TX3, _, Or.inl ⟨rfl, rfl, mm_t3 208 rfl rfl, mm_t3 209 rfl rfl, by decide, rfl, by decide +kernel⟩⟩
theorem mwX2_walkStreet : mm_MW yX2_walkStreet cX2_walkStreet 4 (some .int) [] 0 12 3 := ⟨mm_t3 214 rfl rfl, mm_t1 3 rfl rfl, ⟨by decide +kernel, by decide +kernel⟩, TX2, _, Or.inl ⟨rfl, rfl, mm_t3 212 rfl rfl, mm_t3 213 rfl rfl, by decide, rfl, by decide +kernel⟩⟩
theorem mwX1_comingTo : mm_MW yX1_comingTo cX1_comingTo 3 (some .int) [] 0 11 3 := ⟨mm_t3 218 rfl rfl, mm_t1 2 rfl rfl, ⟨by decide +kernel, by decide +kernel⟩, TX1, _, Or.inl ⟨rfl, rfl, mm_t3 216 rfl rfl, mm_t3 217 rfl rfl, by decide, rfl, by decide +kernel⟩⟩
theorem mwX2_putAhead : mm_MW yX2_putAhead cX2_putAhead 2 none [] 0 12 2 := ⟨mm_t3 223 rfl rfl, mm_t1 3 rfl rfl, ⟨by decide +kernel, by decide +kernel⟩, TX2, _, Or.inl ⟨rfl, rfl, mm_t3 221 rfl rfl, mm_t3 222 rfl rfl, by decide, rfl, by decide +kernel⟩⟩
theorem mwX3_countedMove : mm_MW yX3_countedMove cX3_countedMove 3 (some .int) [] 0 10 3 := ⟨mm_t3 227 rfl rfl, mm_t1 1 rfl rfl, ⟨by decide +kernel, by decide +kernel⟩, TX3, _, Or.inl ⟨rfl, rfl, mm_t3 226 rfl rfl, mm_t0 16 rfl rfl, by decide, rfl, by decide +kernel⟩⟩
theorem mwL_back : mm_MW yL_back cL_back 5 (some .int) [(0, 11, 14, 19)] 1 0 4 := ⟨mm_t3 230 rfl rfl, mm_t1 0 rfl rfl, ⟨by decide +kernel, by decide +kernel⟩, (fun _ => default), 0, Or.inr ⟨rfl, mm_t3 229 rfl rfl, by decide +kernel⟩⟩
theorem mwX3_back : mm_MW yX3_back cX3_back 4 (some .int) [] 0 10 3 := ⟨mm_t3 234 rfl rfl, mm_t1 1 rfl rfl, ⟨by decide +kernel, by decide +kernel⟩, TX3, _, Or.inl ⟨rfl, rfl, mm_t3 232 rfl rfl, mm_t3 233 rfl rfl, by decide, rfl, by decide +kernel⟩⟩
theorem mwX2_stepBack : mm_MW yX2_stepBack cX2_stepBack 3 (some .int) [] 0 12 2 := ⟨mm_t3 238 rfl rfl, mm_t1 3 rfl rfl, ⟨by decide +kernel, by decide +kernel⟩, TX2, _, Or.inl ⟨rfl, rfl, mm_t3 236 rfl rfl, mm_t3 237 rfl rfl, by decide, rfl, by decide +kernel⟩⟩
theorem mwL_on : mm_MW yL_on cL_on 5 (some .int) [(0, 11, 14, 19)] 1 0 4 := ⟨mm_t4 3 rfl rfl, mm_t1 0 rfl rfl, ⟨by decide +kernel, by decide +kernel⟩, (fun _ => default), 0, Or.inr ⟨rfl, mm_t4 2 rfl rfl, by decide +kernel⟩⟩
theorem mwX3_on : mm_MW yX3_on cX3_on 4 (some .int) [] 0 10 3 := ⟨mm_t4 7 rfl rfl, mm_t1 1 rfl rfl, ⟨by decide +kernel, by decide +kernel⟩, TX3, _, Or.inl ⟨rfl, rfl, mm_t4 5 rfl rfl, mm_t4 6 rfl rfl, by decide, rfl, by decide +kernel⟩⟩
theorem mwX3_countedGrowth : mm_MW yX3_countedGrowth cX3_countedGrowth 3 (some .int) [] 0 10 3 := ⟨mm_t4 12 rfl rfl, mm_t1 1 rfl rfl, ⟨by decide +kernel, by decide +kernel⟩, TX3, _, Or.inl ⟨rfl, rfl, mm_t4 11 rfl rfl, mm_t0 17 rfl rfl, by decide, rfl, by decide +kernel⟩⟩
theorem mwL_complete : mm_MW yL_complete cL_complete 5 (some .int) [(0, 11, 14, 19)] 1 0 4 := ⟨mm_t4 15 rfl rfl, mm_t1 0 rfl rfl, ⟨by decide +kernel, by decide +kernel⟩, (fun _ => default), 0, Or.inr ⟨rfl, mm_t4 14 rfl rfl, by decide +kernel⟩⟩
theorem mwX3_complete : mm_MW yX3_complete cX3_complete 4 (some .int) [] 0 10 3 := ⟨mm_t4 19 rfl rfl, mm_t1 1 rfl rfl, ⟨by decide +kernel, by decide +kernel⟩, TX3, _, Or.inl ⟨rfl, rfl, mm_t4 17 rfl rfl, mm_t4 18 rfl rfl, by decide, rfl, by decide +kernel⟩⟩
theorem mwL_splice : mm_MW yL_splice cL_splice 6 (some .int) [(0, 13, 16, 19)] 1 0 5 := ⟨mm_t4 22 rfl rfl, mm_t1 0 rfl rfl, ⟨by decide +kernel, by decide +kernel⟩, (fun _ => default), 0, Or.inr ⟨rfl, mm_t4 21 rfl rfl, by decide +kernel⟩⟩
theorem mwX3_splice : mm_MW yX3_splice cX3_splice 6 (some .int) [] 0 10 4 := ⟨mm_t4 26 rfl rfl, mm_t1 1 rfl rfl, ⟨by decide +kernel, by decide +kernel⟩, TX3, _, Or.inl ⟨rfl, rfl, mm_t4 24 rfl rfl, mm_t4 25 rfl rfl, by decide, rfl, by decide +kernel⟩⟩
theorem mwX3_checkIndex : mm_MW yX3_checkIndex cX3_checkIndex 2 none [] 1 0 2 := ⟨mm_t4 29 rfl rfl, mm_t1 1 rfl rfl, ⟨by decide +kernel, by decide +kernel⟩, (fun _ => default), 0, Or.inr ⟨rfl, mm_t4 28 rfl rfl, by decide +kernel⟩⟩
theorem mwX2_canTakeIn : mm_MW yX2_canTakeIn cX2_canTakeIn 2 (some .boolean) [] 0 12 2 := ⟨mm_t4 34 rfl rfl, mm_t1 3 rfl rfl, ⟨by decide +kernel, by decide +kernel⟩, TX2, _, Or.inl ⟨rfl, rfl, mm_t4 32 rfl rfl, mm_t4 33 rfl rfl, by decide, rfl, by decide +kernel⟩⟩
theorem mwX2_takeIn : mm_MW yX2_takeIn cX2_takeIn 5 none [] 0 12 3 := ⟨mm_t4 39 rfl rfl, mm_t1 3 rfl rfl, ⟨by decide +kernel, by decide +kernel⟩, TX2, _, Or.inl ⟨rfl, rfl, mm_t4 37 rfl rfl, mm_t4 38 rfl rfl, by decide, rfl, by decide +kernel⟩⟩
theorem mwL_join : mm_MW yL_join cL_join 5 (some .int) [(0, 11, 14, 19)] 1 0 4 := ⟨mm_t4 42 rfl rfl, mm_t1 0 rfl rfl, ⟨by decide +kernel, by decide +kernel⟩, (fun _ => default), 0, Or.inr ⟨rfl, mm_t4 41 rfl rfl, by decide +kernel⟩⟩
theorem mwX3_join : mm_MW yX3_join cX3_join 6 (some .int) [] 0 10 3 := ⟨mm_t4 46 rfl rfl, mm_t1 1 rfl rfl, ⟨by decide +kernel, by decide +kernel⟩, TX3, _, Or.inl ⟨rfl, rfl, mm_t4 44 rfl rfl, mm_t4 45 rfl rfl, by decide, rfl, by decide +kernel⟩⟩
theorem mwX2_meetingPlace : mm_MW yX2_meetingPlace cX2_meetingPlace 3 (some .int) [] 0 12 2 := ⟨mm_t4 50 rfl rfl, mm_t1 3 rfl rfl, ⟨by decide +kernel, by decide +kernel⟩, TX2, _, Or.inl ⟨rfl, rfl, mm_t4 48 rfl rfl, mm_t4 49 rfl rfl, by decide, rfl, by decide +kernel⟩⟩
theorem mwX2_placeOfCorner : mm_MW yX2_placeOfCorner cX2_placeOfCorner 3 (some .int) [] 0 12 2 := ⟨mm_t4 54 rfl rfl, mm_t1 3 rfl rfl, ⟨by decide +kernel, by decide +kernel⟩, TX2, _, Or.inl ⟨rfl, rfl, mm_t4 52 rfl rfl, mm_t4 53 rfl rfl, by decide, rfl, by decide +kernel⟩⟩
theorem mwX2_turnBy : mm_MW yX2_turnBy cX2_turnBy 5 none [] 0 12 2 := ⟨mm_t4 59 rfl rfl, mm_t1 3 rfl rfl, ⟨by decide +kernel, by decide +kernel⟩, TX2, _, Or.inl ⟨rfl, rfl, mm_t4 57 rfl rfl, mm_t4 58 rfl rfl, by decide, rfl, by decide +kernel⟩⟩
theorem mwL_cut : mm_MW yL_cut cL_cut 7 (some .int) [(0, 15, 18, 19)] 1 0 6 := ⟨mm_t4 62 rfl rfl, mm_t1 0 rfl rfl, ⟨by decide +kernel, by decide +kernel⟩, (fun _ => default), 0, Or.inr ⟨rfl, mm_t4 61 rfl rfl, by decide +kernel⟩⟩
theorem mwX3_cut : mm_MW yX3_cut cX3_cut 7 (some .int) [] 0 10 5 := ⟨mm_t4 66 rfl rfl, mm_t1 1 rfl rfl, ⟨by decide +kernel, by decide +kernel⟩, TX3, _, Or.inl ⟨rfl, rfl, mm_t4 64 rfl rfl, mm_t4 65 rfl rfl, by decide, rfl, by decide +kernel⟩⟩
theorem mwX2_giveOut : mm_MW yX2_giveOut cX2_giveOut 5 none [] 0 12 4 := ⟨mm_t4 70 rfl rfl, mm_t1 3 rfl rfl, ⟨by decide +kernel, by decide +kernel⟩, TX2, _, Or.inl ⟨rfl, rfl, mm_t4 68 rfl rfl, mm_t4 69 rfl rfl, by decide, rfl, by decide +kernel⟩⟩
theorem mwL_turnRound : mm_MW yL_turnRound cL_turnRound 4 (some .int) [(0, 10, 13, 19)] 1 0 3 := ⟨mm_t4 74 rfl rfl, mm_t1 0 rfl rfl, ⟨by decide +kernel, by decide +kernel⟩, (fun _ => default), 0, Or.inr ⟨rfl, mm_t4 73 rfl rfl, by decide +kernel⟩⟩
theorem mwX3_turnRound : mm_MW yX3_turnRound cX3_turnRound 3 (some .int) [] 0 10 2 := ⟨mm_t4 78 rfl rfl, mm_t1 1 rfl rfl, ⟨by decide +kernel, by decide +kernel⟩, TX3, _, Or.inl ⟨rfl, rfl, mm_t4 76 rfl rfl, mm_t4 77 rfl rfl, by decide, rfl, by decide +kernel⟩⟩
theorem mwX2_turnSteps : mm_MW yX2_turnSteps cX2_turnSteps 2 none [] 0 12 1 := ⟨mm_t4 82 rfl rfl, mm_t1 3 rfl rfl, ⟨by decide +kernel, by decide +kernel⟩, TX2, _, Or.inl ⟨rfl, rfl, mm_t4 80 rfl rfl, mm_t4 81 rfl rfl, by decide, rfl, by decide +kernel⟩⟩
theorem mwL_rotate : mm_MW yL_rotate cL_rotate 5 (some .int) [(0, 11, 14, 19), (0, 11, 18, 24)] 1 0 4 := ⟨mm_t4 86 rfl rfl, mm_t1 0 rfl rfl, ⟨by decide +kernel, by decide +kernel⟩, (fun _ => default), 0, Or.inr ⟨rfl, mm_t4 85 rfl rfl, by decide +kernel⟩⟩
theorem mwX3_rotate : mm_MW yX3_rotate cX3_rotate 4 (some .int) [] 0 10 3 := ⟨mm_t4 90 rfl rfl, mm_t1 1 rfl rfl, ⟨by decide +kernel, by decide +kernel⟩, TX3, _, Or.inl ⟨rfl, rfl, mm_t4 88 rfl rfl, mm_t4 89 rfl rfl, by decide, rfl, by decide +kernel⟩⟩
theorem mwL_first : mm_MW yL_first cL_first 6 (some .int) [(0, 13, 16, 19)] 1 0 5 := ⟨mm_t4 93 rfl rfl, mm_t1 0 rfl rfl, ⟨by decide +kernel, by decide +kernel⟩, (fun _ => default), 0, Or.inr ⟨rfl, mm_t4 92 rfl rfl, by decide +kernel⟩⟩
theorem mwX3_first : mm_MW yX3_first cX3_first 6 (some .int) [] 0 10 4 := ⟨mm_t4 97 rfl rfl, mm_t1 1 rfl rfl, ⟨by decide +kernel, by decide +kernel⟩, TX3, _, Or.inl ⟨rfl, rfl, mm_t4 95 rfl rfl, mm_t4 96 rfl rfl, by decide, rfl, by decide +kernel⟩⟩
theorem mwX2_fillInOrder : mm_MW yX2_fillInOrder cX2_fillInOrder 5 none [] 0 12 2 := ⟨mm_t4 101 rfl rfl, mm_t1 3 rfl rfl, ⟨by decide +kernel, by decide +kernel⟩, TX2, _, Or.inl ⟨rfl, rfl, mm_t4 99 rfl rfl, mm_t4 100 rfl rfl, by decide, rfl, by decide +kernel⟩⟩
theorem mwX1_stepToWhole : mm_MW yX1_stepToWhole cX1_stepToWhole 8 (some .int) [] 0 11 5 := ⟨mm_t4 105 rfl rfl, mm_t1 2 rfl rfl, ⟨by decide +kernel, by decide +kernel⟩, TX1, _, Or.inl ⟨rfl, rfl, mm_t4 103 rfl rfl, mm_t4 104 rfl rfl, by decide, rfl, by decide +kernel⟩⟩
theorem mwL_next : mm_MW yL_next cL_next 5 (some .int) [(0, 11, 14, 19)] 1 0 4 := ⟨mm_t4 108 rfl rfl, mm_t1 0 rfl rfl, ⟨by decide +kernel, by decide +kernel⟩, (fun _ => default), 0, Or.inr ⟨rfl, mm_t4 107 rfl rfl, by decide +kernel⟩⟩
theorem mwX3_next : mm_MW yX3_next cX3_next 5 (some .int) [] 0 10 3 := ⟨mm_t4 112 rfl rfl, mm_t1 1 rfl rfl, ⟨by decide +kernel, by decide +kernel⟩, TX3, _, Or.inl ⟨rfl, rfl, mm_t4 110 rfl rfl, mm_t4 111 rfl rfl, by decide, rfl, by decide +kernel⟩⟩
theorem mwX2_takeAllOf : mm_MW yX2_takeAllOf cX2_takeAllOf 4 none [] 0 12 2 := ⟨mm_t4 116 rfl rfl, mm_t1 3 rfl rfl, ⟨by decide +kernel, by decide +kernel⟩, TX2, _, Or.inl ⟨rfl, rfl, mm_t4 114 rfl rfl, mm_t4 115 rfl rfl, by decide, rfl, by decide +kernel⟩⟩
theorem mwX2_becomeNeighbour : mm_MW yX2_becomeNeighbour cX2_becomeNeighbour 5 (some .int) [] 0 12 2 := ⟨mm_t4 120 rfl rfl, mm_t1 3 rfl rfl, ⟨by decide +kernel, by decide +kernel⟩, TX2, _, Or.inl ⟨rfl, rfl, mm_t4 118 rfl rfl, mm_t4 119 rfl rfl, by decide, rfl, by decide +kernel⟩⟩
theorem mwL_copy : mm_MW yL_copy cL_copy 5 (some .int) [(0, 11, 14, 19)] 1 0 4 := ⟨mm_t4 125 rfl rfl, mm_t1 0 rfl rfl, ⟨by decide +kernel, by decide +kernel⟩, (fun _ => default), 0, Or.inr ⟨rfl, mm_t4 124 rfl rfl, by decide +kernel⟩⟩
theorem mwX3_copy : mm_MW yX3_copy cX3_copy 5 (some .int) [] 0 10 3 := ⟨mm_t4 129 rfl rfl, mm_t1 1 rfl rfl, ⟨by decide +kernel, by decide +kernel⟩, TX3, _, Or.inl ⟨rfl, rfl, mm_t4 127 rfl rfl, mm_t4 128 rfl rfl, by decide, rfl, by decide +kernel⟩⟩
theorem mwL_length : mm_MW yL_length cL_length 4 (some .int) [(0, 10, 13, 19)] 1 0 3 := ⟨mm_t4 132 rfl rfl, mm_t1 0 rfl rfl, ⟨by decide +kernel, by decide +kernel⟩, (fun _ => default), 0, Or.inr ⟨rfl, mm_t4 131 rfl rfl, by decide +kernel⟩⟩
theorem mwX3_length : mm_MW yX3_length cX3_length 2 (some .int) [] 0 10 2 := ⟨mm_t4 136 rfl rfl, mm_t1 1 rfl rfl, ⟨by decide +kernel, by decide +kernel⟩, TX3, _, Or.inl ⟨rfl, rfl, mm_t4 134 rfl rfl, mm_t4 135 rfl rfl, by decide, rfl, by decide +kernel⟩⟩
theorem mwL_cornerAt : mm_MW yL_cornerAt cL_cornerAt 5 (some .int) [(0, 11, 14, 19)] 1 0 4 := ⟨mm_t4 139 rfl rfl, mm_t1 0 rfl rfl, ⟨by decide +kernel, by decide +kernel⟩, (fun _ => default), 0, Or.inr ⟨rfl, mm_t4 138 rfl rfl, by decide +kernel⟩⟩
theorem mwX3_cornerAt : mm_MW yX3_cornerAt cX3_cornerAt 4 (some .int) [] 0 10 3 := ⟨mm_t4 143 rfl rfl, mm_t1 1 rfl rfl, ⟨by decide +kernel, by decide +kernel⟩, TX3, _, Or.inl ⟨rfl, rfl, mm_t4 141 rfl rfl, mm_t4 142 rfl rfl, by decide, rfl, by decide +kernel⟩⟩
theorem mwL_stepAt : mm_MW yL_stepAt cL_stepAt 5 (some .int) [(0, 11, 14, 19)] 1 0 4 := ⟨mm_t4 146 rfl rfl, mm_t1 0 rfl rfl, ⟨by decide +kernel, by decide +kernel⟩, (fun _ => default), 0, Or.inr ⟨rfl, mm_t4 145 rfl rfl, by decide +kernel⟩⟩
theorem mwX3_stepAt : mm_MW yX3_stepAt cX3_stepAt 4 (some .int) [] 0 10 3 := ⟨mm_t4 150 rfl rfl, mm_t1 1 rfl rfl, ⟨by decide +kernel, by decide +kernel⟩, TX3, _, Or.inl ⟨rfl, rfl, mm_t4 148 rfl rfl, mm_t4 149 rfl rfl, by decide, rfl, by decide +kernel⟩⟩
theorem mwL_find : mm_MW yL_find cL_find 5 (some .int) [(0, 11, 14, 19)] 1 0 4 := ⟨mm_t4 153 rfl rfl, mm_t1 0 rfl rfl, ⟨by decide +kernel, by decide +kernel⟩, (fun _ => default), 0, Or.inr ⟨rfl, mm_t4 152 rfl rfl, by decide +kernel⟩⟩
theorem mwX3_find : mm_MW yX3_find cX3_find 4 (some .int) [] 0 10 3 := ⟨mm_t4 157 rfl rfl, mm_t1 1 rfl rfl, ⟨by decide +kernel, by decide +kernel⟩, TX3, _, Or.inl ⟨rfl, rfl, mm_t4 155 rfl rfl, mm_t4 156 rfl rfl, by decide, rfl, by decide +kernel⟩⟩
theorem mwL_is : mm_MW yL_is cL_is 5 (some .int) [(0, 18, 21, 19)] 1 0 4 := ⟨mm_t4 160 rfl rfl, mm_t1 0 rfl rfl, ⟨by decide +kernel, by decide +kernel⟩, (fun _ => default), 0, Or.inr ⟨rfl, mm_t4 159 rfl rfl, by decide +kernel⟩⟩
theorem mwX3_is : mm_MW yX3_is cX3_is 4 (some .boolean) [] 0 10 3 := ⟨mm_t4 164 rfl rfl, mm_t1 1 rfl rfl, ⟨by decide +kernel, by decide +kernel⟩, TX3, _, Or.inl ⟨rfl, rfl, mm_t4 162 rfl rfl, mm_t4 163 rfl rfl, by decide, rfl, by decide +kernel⟩⟩
theorem mwL_same : mm_MW yL_same cL_same 5 (some .int) [(0, 18, 21, 19)] 1 0 4 := ⟨mm_t4 167 rfl rfl, mm_t1 0 rfl rfl, ⟨by decide +kernel, by decide +kernel⟩, (fun _ => default), 0, Or.inr ⟨rfl, mm_t4 166 rfl rfl, by decide +kernel⟩⟩
theorem mwX3_same : mm_MW yX3_same cX3_same 5 (some .boolean) [] 0 10 3 := ⟨mm_t4 171 rfl rfl, mm_t1 1 rfl rfl, ⟨by decide +kernel, by decide +kernel⟩, TX3, _, Or.inl ⟨rfl, rfl, mm_t4 169 rfl rfl, mm_t4 170 rfl rfl, by decide, rfl, by decide +kernel⟩⟩
theorem mwL_turnOf : mm_MW yL_turnOf cL_turnOf 5 (some .int) [(0, 11, 14, 19)] 1 0 4 := ⟨mm_t4 175 rfl rfl, mm_t1 0 rfl rfl, ⟨by decide +kernel, by decide +kernel⟩, (fun _ => default), 0, Or.inr ⟨rfl, mm_t4 174 rfl rfl, by decide +kernel⟩⟩
theorem mwX3_turnOf : mm_MW yX3_turnOf cX3_turnOf 5 (some .int) [] 0 10 3 := ⟨mm_t4 179 rfl rfl, mm_t1 1 rfl rfl, ⟨by decide +kernel, by decide +kernel⟩, TX3, _, Or.inl ⟨rfl, rfl, mm_t4 177 rfl rfl, mm_t4 178 rfl rfl, by decide, rfl, by decide +kernel⟩⟩
theorem mwL_text : mm_MW yL_text cL_text 5 (some .int) [(0, 10, 13, 19), (0, 10, 17, 24)] 1 0 4 := ⟨mm_t4 182 rfl rfl, mm_t1 0 rfl rfl, ⟨by decide +kernel, by decide +kernel⟩, (fun _ => default), 0, Or.inr ⟨rfl, mm_t4 181 rfl rfl, by decide +kernel⟩⟩
theorem mwX3_text : mm_MW yX3_text cX3_text 7 (some (.object "java/lang/String")) [] 0 10 3 := ⟨mm_t4 186 rfl rfl, mm_t1 1 rfl rfl, ⟨by decide +kernel, by decide +kernel⟩, TX3, _, Or.inl ⟨rfl, rfl, mm_t4 184 rfl rfl, mm_t4 185 rfl rfl, by decide, rfl, by decide +kernel⟩⟩
theorem mwX3_numberAt : mm_MW yX3_numberAt cX3_numberAt 5 (some .int) [] 0 10 4 := ⟨mm_t5 77 rfl rfl, mm_t1 1 rfl rfl, ⟨by decide +kernel, by decide +kernel⟩, TX3, _, Or.inl ⟨rfl, rfl, mm_t5 76 rfl rfl, mm_t0 18 rfl rfl, by decide, rfl, by decide +kernel⟩⟩
theorem mwL_wordAt : mm_MW yL_wordAt cL_wordAt 6 (some .int) [(0, 13, 16, 19), (0, 13, 20, 24)] 1 0 5 := ⟨mm_t5 220 rfl rfl, mm_t1 0 rfl rfl, ⟨by decide +kernel, by decide +kernel⟩, (fun _ => default), 0, Or.inr ⟨rfl, mm_t5 219 rfl rfl, by decide +kernel⟩⟩
theorem mwX3_wordAt : mm_MW yX3_wordAt cX3_wordAt 5 (some .int) [] 0 10 4 := ⟨mm_t5 224 rfl rfl, mm_t1 1 rfl rfl, ⟨by decide +kernel, by decide +kernel⟩, TX3, _, Or.inl ⟨rfl, rfl, mm_t5 222 rfl rfl, mm_t5 223 rfl rfl, by decide, rfl, by decide +kernel⟩⟩
theorem mwL_cursor : mm_MW yL_cursor cL_cursor 5 (some .int) [(0, 11, 14, 19)] 1 0 4 := ⟨mm_t5 227 rfl rfl, mm_t1 0 rfl rfl, ⟨by decide +kernel, by decide +kernel⟩, (fun _ => default), 0, Or.inr ⟨rfl, mm_t5 226 rfl rfl, by decide +kernel⟩⟩
theorem mwX3_cursor : mm_MW yX3_cursor cX3_cursor 4 (some .int) [] 0 10 3 := ⟨mm_t5 231 rfl rfl, mm_t1 1 rfl rfl, ⟨by decide +kernel, by decide +kernel⟩, TX3, _, Or.inl ⟨rfl, rfl, mm_t5 229 rfl rfl, mm_t5 230 rfl rfl, by decide, rfl, by decide +kernel⟩⟩
theorem mwX0_standOn : mm_MW yX0_standOn cX0_standOn 3 none [] 0 13 3 := ⟨mm_t5 235 rfl rfl, mm_t1 4 rfl rfl, ⟨by decide +kernel, by decide +kernel⟩, TX0, _, Or.inl ⟨rfl, rfl, mm_t5 233 rfl rfl, mm_t5 234 rfl rfl, by decide, rfl, by decide +kernel⟩⟩
theorem mwL_cursorSet : mm_MW yL_cursorSet cL_cursorSet 4 (some .int) [(0, 10, 13, 19)] 1 0 3 := ⟨mm_t5 238 rfl rfl, mm_t1 0 rfl rfl, ⟨by decide +kernel, by decide +kernel⟩, (fun _ => default), 0, Or.inr ⟨rfl, mm_t5 237 rfl rfl, by decide +kernel⟩⟩
theorem mwX3_cursorSet : mm_MW yX3_cursorSet cX3_cursorSet 2 (some .int) [] 0 10 2 := ⟨mm_t6 2 rfl rfl, mm_t1 1 rfl rfl, ⟨by decide +kernel, by decide +kernel⟩, TX3, _, Or.inl ⟨rfl, rfl, mm_t6 0 rfl rfl, mm_t6 1 rfl rfl, by decide, rfl, by decide +kernel⟩⟩
theorem mwX0_exchangeTold : mm_MW yX0_exchangeTold cX0_exchangeTold 5 (some .int) [] 0 13 2 := ⟨mm_t6 6 rfl rfl, mm_t1 4 rfl rfl, ⟨by decide +kernel, by decide +kernel⟩, TX0, _, Or.inl ⟨rfl, rfl, mm_t6 4 rfl rfl, mm_t6 5 rfl rfl, by decide, rfl, by decide +kernel⟩⟩
theorem mwX1_between : mm_MW yX1_between cX1_between 5 (some .int) [] 0 11 4 := ⟨mm_t6 13 rfl rfl, mm_t1 2 rfl rfl, ⟨by decide +kernel, by decide +kernel⟩, TX1, _, Or.inl ⟨rfl, rfl, mm_t6 11 rfl rfl, mm_t6 12 rfl rfl, by decide, rfl, by decide +kernel⟩⟩
theorem mwX2_exchange : mm_MW yX2_exchange cX2_exchange 3 none [] 0 12 3 := ⟨mm_t6 17 rfl rfl, mm_t1 3 rfl rfl, ⟨by decide +kernel, by decide +kernel⟩, TX2, _, Or.inl ⟨rfl, rfl, mm_t6 15 rfl rfl, mm_t6 16 rfl rfl, by decide, rfl, by decide +kernel⟩⟩
theorem mwL_cursorAdd : mm_MW yL_cursorAdd cL_cursorAdd 4 (some .int) [(0, 10, 13, 19)] 1 0 3 := ⟨mm_t6 20 rfl rfl, mm_t1 0 rfl rfl, ⟨by decide +kernel, by decide +kernel⟩, (fun _ => default), 0, Or.inr ⟨rfl, mm_t6 19 rfl rfl, by decide +kernel⟩⟩
theorem mwX3_cursorAdd : mm_MW yX3_cursorAdd cX3_cursorAdd 2 (some .int) [] 0 10 2 := ⟨mm_t6 24 rfl rfl, mm_t1 1 rfl rfl, ⟨by decide +kernel, by decide +kernel⟩, TX3, _, Or.inl ⟨rfl, rfl, mm_t6 22 rfl rfl, mm_t6 23 rfl rfl, by decide, rfl, by decide +kernel⟩⟩
theorem mwX0_letIn : mm_MW yX0_letIn cX0_letIn 6 (some .int) [] 0 13 2 := ⟨mm_t6 28 rfl rfl, mm_t1 4 rfl rfl, ⟨by decide +kernel, by decide +kernel⟩, TX0, _, Or.inl ⟨rfl, rfl, mm_t6 26 rfl rfl, mm_t6 27 rfl rfl, by decide, rfl, by decide +kernel⟩⟩
theorem mwL_house : mm_MW yL_house cL_house 4 (some .int) [(0, 10, 13, 24)] 1 0 3 := ⟨mm_t6 36 rfl rfl, mm_t1 0 rfl rfl, ⟨by decide +kernel, by decide +kernel⟩, (fun _ => default), 0, Or.inr ⟨rfl, mm_t6 35 rfl rfl, by decide +kernel⟩⟩
theorem mwX3_house : mm_MW yX3_house cX3_house 2 (some .int) [] 0 10 2 := ⟨mm_t6 40 rfl rfl, mm_t1 1 rfl rfl, ⟨by decide +kernel, by decide +kernel⟩, TX3, _, Or.inl ⟨rfl, rfl, mm_t6 38 rfl rfl, mm_t6 39 rfl rfl, by decide, rfl, by decide +kernel⟩⟩
theorem mwX5_lay : mm_MW yX5_lay cX5_lay 3 (some .int) [] 0 14 3 := ⟨mm_t6 102 rfl rfl, mm_t1 5 rfl rfl, ⟨by decide +kernel, by decide +kernel⟩, TX5, _, Or.inl ⟨rfl, rfl, mm_t6 100 rfl rfl, mm_t6 101 rfl rfl, by decide, rfl, by decide +kernel⟩⟩
theorem mwX5_isNoCorner : mm_MW yX5_isNoCorner cX5_isNoCorner 2 (some .boolean) [] 0 14 2 := ⟨mm_t6 106 rfl rfl, mm_t1 5 rfl rfl, ⟨by decide +kernel, by decide +kernel⟩, TX5, _, Or.inl ⟨rfl, rfl, mm_t6 105 rfl rfl, mm_t0 19 rfl rfl, by decide, rfl, by decide +kernel⟩⟩
theorem mwX5_isIn : mm_MW yX5_isIn cX5_isIn 3 (some .boolean) [] 1 0 3 := ⟨mm_t6 109 rfl rfl, mm_t1 5 rfl rfl, ⟨by decide +kernel, by decide +kernel⟩, (fun _ => default), 0, Or.inr ⟨rfl, mm_t6 108 rfl rfl, by decide +kernel⟩⟩
theorem mwX5_start : mm_MW yX5_start cX5_start 3 (some .boolean) [] 0 14 3 := ⟨mm_t6 113 rfl rfl, mm_t1 5 rfl rfl, ⟨by decide +kernel, by decide +kernel⟩, TX5, _, Or.inl ⟨rfl, rfl, mm_t6 112 rfl rfl, mm_t0 20 rfl rfl, by decide, rfl, by decide +kernel⟩⟩
theorem mwX5_refuse : mm_MW yX5_refuse cX5_refuse 3 (some .boolean) [] 0 14 3 := ⟨mm_t6 117 rfl rfl, mm_t1 5 rfl rfl, ⟨by decide +kernel, by decide +kernel⟩, TX5, _, Or.inl ⟨rfl, rfl, mm_t6 116 rfl rfl, mm_t0 21 rfl rfl, by decide, rfl, by decide +kernel⟩⟩
theorem mwX5_cannot : mm_MW yX5_cannot cX5_cannot 1 (some .int) [] 0 14 1 := ⟨mm_t6 121 rfl rfl, mm_t1 5 rfl rfl, ⟨by decide +kernel, by decide +kernel⟩, TX5, _, Or.inl ⟨rfl, rfl, mm_t6 120 rfl rfl, mm_t0 22 rfl rfl, by decide, rfl, by decide +kernel⟩⟩
theorem mwX5_laid : mm_MW yX5_laid cX5_laid 3 none [] 0 14 3 := ⟨mm_t6 125 rfl rfl, mm_t1 5 rfl rfl, ⟨by decide +kernel, by decide +kernel⟩, TX5, _, Or.inl ⟨rfl, rfl, mm_t6 124 rfl rfl, mm_t0 23 rfl rfl, by decide, rfl, by decide +kernel⟩⟩
theorem mwX5_endWords : mm_MW yX5_endWords cX5_endWords 1 none [] 0 14 1 := ⟨mm_t6 129 rfl rfl, mm_t1 5 rfl rfl, ⟨by decide +kernel, by decide +kernel⟩, TX5, _, Or.inl ⟨rfl, rfl, mm_t6 128 rfl rfl, mm_t0 24 rfl rfl, by decide, rfl, by decide +kernel⟩⟩
theorem mwX5_act : mm_MW yX5_act cX5_act 2 (some .int) [] 0 14 2 := ⟨mm_t6 133 rfl rfl, mm_t1 5 rfl rfl, ⟨by decide +kernel, by decide +kernel⟩, TX5, _, Or.inl ⟨rfl, rfl, mm_t6 132 rfl rfl, mm_t0 25 rfl rfl, by decide, rfl, by decide +kernel⟩⟩
theorem mwX5_layRing : mm_MW yX5_layRing cX5_layRing 4 (some .int) [] 0 14 3 := ⟨mm_t6 137 rfl rfl, mm_t1 5 rfl rfl, ⟨by decide +kernel, by decide +kernel⟩, TX5, _, Or.inl ⟨rfl, rfl, mm_t6 135 rfl rfl, mm_t6 136 rfl rfl, by decide, rfl, by decide +kernel⟩⟩
theorem mwX5_words : mm_MW yX5_words cX5_words 5 (some .int) [] 0 14 3 := ⟨mm_t6 141 rfl rfl, mm_t1 5 rfl rfl, ⟨by decide +kernel, by decide +kernel⟩, TX5, _, Or.inl ⟨rfl, rfl, mm_t6 139 rfl rfl, mm_t6 140 rfl rfl, by decide, rfl, by decide +kernel⟩⟩
theorem mwX5_emptied : mm_MW yX5_emptied cX5_emptied 2 none [] 0 14 1 := ⟨mm_t6 145 rfl rfl, mm_t1 5 rfl rfl, ⟨by decide +kernel, by decide +kernel⟩, TX5, _, Or.inl ⟨rfl, rfl, mm_t6 144 rfl rfl, mm_t0 26 rfl rfl, by decide, rfl, by decide +kernel⟩⟩
theorem mwX5_close : mm_MW yX5_close cX5_close 4 (some .int) [] 0 14 2 := ⟨mm_t6 149 rfl rfl, mm_t1 5 rfl rfl, ⟨by decide +kernel, by decide +kernel⟩, TX5, _, Or.inl ⟨rfl, rfl, mm_t6 147 rfl rfl, mm_t6 148 rfl rfl, by decide, rfl, by decide +kernel⟩⟩
theorem mwX5_isNoStreet : mm_MW yX5_isNoStreet cX5_isNoStreet 2 (some .boolean) [] 0 14 2 := ⟨mm_t6 153 rfl rfl, mm_t1 5 rfl rfl, ⟨by decide +kernel, by decide +kernel⟩, TX5, _, Or.inl ⟨rfl, rfl, mm_t6 152 rfl rfl, mm_t0 27 rfl rfl, by decide, rfl, by decide +kernel⟩⟩
theorem mwX5_placeOf : mm_MW yX5_placeOf cX5_placeOf 4 (some .int) [] 0 14 3 := ⟨mm_t6 157 rfl rfl, mm_t1 5 rfl rfl, ⟨by decide +kernel, by decide +kernel⟩, TX5, _, Or.inl ⟨rfl, rfl, mm_t6 156 rfl rfl, mm_t0 28 rfl rfl, by decide, rfl, by decide +kernel⟩⟩
theorem mwX5_stepOf : mm_MW yX5_stepOf cX5_stepOf 3 (some .int) [] 0 14 3 := ⟨mm_t6 161 rfl rfl, mm_t1 5 rfl rfl, ⟨by decide +kernel, by decide +kernel⟩, TX5, _, Or.inl ⟨rfl, rfl, mm_t6 160 rfl rfl, mm_t0 29 rfl rfl, by decide, rfl, by decide +kernel⟩⟩
theorem mwX5_clear : mm_MW yX5_clear cX5_clear 2 (some .int) [] 0 14 1 := ⟨mm_t6 165 rfl rfl, mm_t1 5 rfl rfl, ⟨by decide +kernel, by decide +kernel⟩, TX5, _, Or.inl ⟨rfl, rfl, mm_t6 163 rfl rfl, mm_t6 164 rfl rfl, by decide, rfl, by decide +kernel⟩⟩
theorem mwX5_oneWay : mm_MW yX5_oneWay cX5_oneWay 4 (some .int) [] 0 14 2 := ⟨mm_t6 169 rfl rfl, mm_t1 5 rfl rfl, ⟨by decide +kernel, by decide +kernel⟩, TX5, _, Or.inl ⟨rfl, rfl, mm_t6 167 rfl rfl, mm_t6 168 rfl rfl, by decide, rfl, by decide +kernel⟩⟩
theorem mwX5_one : mm_MW yX5_one cX5_one 1 (some .int) [] 1 0 1 := ⟨mm_t6 172 rfl rfl, mm_t1 5 rfl rfl, ⟨by decide +kernel, by decide +kernel⟩, (fun _ => default), 0, Or.inr ⟨rfl, mm_t6 171 rfl rfl, by decide +kernel⟩⟩
theorem mwX5_turnTown : mm_MW yX5_turnTown cX5_turnTown 3 (some .int) [] 0 14 1 := ⟨mm_t6 176 rfl rfl, mm_t1 5 rfl rfl, ⟨by decide +kernel, by decide +kernel⟩, TX5, _, Or.inl ⟨rfl, rfl, mm_t6 174 rfl rfl, mm_t6 175 rfl rfl, by decide, rfl, by decide +kernel⟩⟩
theorem mwX5_turned : mm_MW yX5_turned cX5_turned 4 none [] 0 14 2 := ⟨mm_t6 180 rfl rfl, mm_t1 5 rfl rfl, ⟨by decide +kernel, by decide +kernel⟩, TX5, _, Or.inl ⟨rfl, rfl, mm_t6 179 rfl rfl, mm_t0 30 rfl rfl, by decide, rfl, by decide +kernel⟩⟩
theorem mwX5_endOf : mm_MW yX5_endOf cX5_endOf 2 (some .int) [] 0 14 2 := ⟨mm_t6 184 rfl rfl, mm_t1 5 rfl rfl, ⟨by decide +kernel, by decide +kernel⟩, TX5, _, Or.inl ⟨rfl, rfl, mm_t6 183 rfl rfl, mm_t0 31 rfl rfl, by decide, rfl, by decide +kernel⟩⟩
theorem mwX5_cornerOf : mm_MW yX5_cornerOf cX5_cornerOf 3 (some .int) [] 0 14 3 := ⟨mm_t6 188 rfl rfl, mm_t1 5 rfl rfl, ⟨by decide +kernel, by decide +kernel⟩, TX5, _, Or.inl ⟨rfl, rfl, mm_t6 187 rfl rfl, mm_t0 32 rfl rfl, by decide, rfl, by decide +kernel⟩⟩
theorem mwX5_comesTo : mm_MW yX5_comesTo cX5_comesTo 2 (some .int) [] 0 14 2 := ⟨mm_t6 192 rfl rfl, mm_t1 5 rfl rfl, ⟨by decide +kernel, by decide +kernel⟩, TX5, _, Or.inl ⟨rfl, rfl, mm_t6 191 rfl rfl, mm_t0 33 rfl rfl, by decide, rfl, by decide +kernel⟩⟩
theorem mwX5_take : mm_MW yX5_take cX5_take 5 (some .int) [] 0 14 3 := ⟨mm_t6 196 rfl rfl, mm_t1 5 rfl rfl, ⟨by decide +kernel, by decide +kernel⟩, TX5, _, Or.inl ⟨rfl, rfl, mm_t6 195 rfl rfl, mm_t0 34 rfl rfl, by decide, rfl, by decide +kernel⟩⟩
theorem mwX5_put : mm_MW yX5_put cX5_put 5 none [] 0 14 4 := ⟨mm_t6 200 rfl rfl, mm_t1 5 rfl rfl, ⟨by decide +kernel, by decide +kernel⟩, TX5, _, Or.inl ⟨rfl, rfl, mm_t6 199 rfl rfl, mm_t0 35 rfl rfl, by decide, rfl, by decide +kernel⟩⟩
theorem mwX5_streets : mm_MW yX5_streets cX5_streets 1 (some .int) [] 0 14 1 := ⟨mm_t6 204 rfl rfl, mm_t1 5 rfl rfl, ⟨by decide +kernel, by decide +kernel⟩, TX5, _, Or.inl ⟨rfl, rfl, mm_t6 202 rfl rfl, mm_t6 203 rfl rfl, by decide, rfl, by decide +kernel⟩⟩
theorem mwX5_end : mm_MW yX5_end cX5_end 3 (some .int) [] 0 14 3 := ⟨mm_t6 208 rfl rfl, mm_t1 5 rfl rfl, ⟨by decide +kernel, by decide +kernel⟩, TX5, _, Or.inl ⟨rfl, rfl, mm_t6 206 rfl rfl, mm_t6 207 rfl rfl, by decide, rfl, by decide +kernel⟩⟩
theorem mwX5_ways : mm_MW yX5_ways cX5_ways 3 (some .int) [] 0 14 3 := ⟨mm_t6 212 rfl rfl, mm_t1 5 rfl rfl, ⟨by decide +kernel, by decide +kernel⟩, TX5, _, Or.inl ⟨rfl, rfl, mm_t6 210 rfl rfl, mm_t6 211 rfl rfl, by decide, rfl, by decide +kernel⟩⟩
theorem mwX5_all : mm_MW yX5_all cX5_all 1 (some .int) [] 0 14 1 := ⟨mm_t6 216 rfl rfl, mm_t1 5 rfl rfl, ⟨by decide +kernel, by decide +kernel⟩, TX5, _, Or.inl ⟨rfl, rfl, mm_t6 215 rfl rfl, mm_t0 36 rfl rfl, by decide, rfl, by decide +kernel⟩⟩
theorem mwX5_waysOf : mm_MW yX5_waysOf cX5_waysOf 7 (some .int) [] 0 14 4 := ⟨mm_t6 220 rfl rfl, mm_t1 5 rfl rfl, ⟨by decide +kernel, by decide +kernel⟩, TX5, _, Or.inl ⟨rfl, rfl, mm_t6 219 rfl rfl, mm_t0 37 rfl rfl, by decide, rfl, by decide +kernel⟩⟩
theorem mwX5_has : mm_MW yX5_has cX5_has 2 (some .boolean) [] 1 0 2 := ⟨mm_t6 223 rfl rfl, mm_t1 5 rfl rfl, ⟨by decide +kernel, by decide +kernel⟩, (fun _ => default), 0, Or.inr ⟨rfl, mm_t6 222 rfl rfl, by decide +kernel⟩⟩
theorem mwX5_odd : mm_MW yX5_odd cX5_odd 1 (some .int) [] 0 14 1 := ⟨mm_t6 227 rfl rfl, mm_t1 5 rfl rfl, ⟨by decide +kernel, by decide +kernel⟩, TX5, _, Or.inl ⟨rfl, rfl, mm_t6 225 rfl rfl, mm_t6 226 rfl rfl, by decide, rfl, by decide +kernel⟩⟩
theorem mwX5_oddOf : mm_MW yX5_oddOf cX5_oddOf 4 (some .int) [] 0 14 2 := ⟨mm_t6 231 rfl rfl, mm_t1 5 rfl rfl, ⟨by decide +kernel, by decide +kernel⟩, TX5, _, Or.inl ⟨rfl, rfl, mm_t6 230 rfl rfl, mm_t0 38 rfl rfl, by decide, rfl, by decide +kernel⟩⟩
theorem mwX5_isOdd : mm_MW yX5_isOdd cX5_isOdd 3 (some .boolean) [] 0 14 3 := ⟨mm_t6 235 rfl rfl, mm_t1 5 rfl rfl, ⟨by decide +kernel, by decide +kernel⟩, TX5, _, Or.inl ⟨rfl, rfl, mm_t6 234 rfl rfl, mm_t0 39 rfl rfl, by decide, rfl, by decide +kernel⟩⟩
theorem mwX5_hangs : mm_MW yX5_hangs cX5_hangs 1 (some .boolean) [] 0 14 1 := ⟨mm_t6 239 rfl rfl, mm_t1 5 rfl rfl, ⟨by decide +kernel, by decide +kernel⟩, TX5, _, Or.inl ⟨rfl, rfl, mm_t6 237 rfl rfl, mm_t6 238 rfl rfl, by decide, rfl, by decide +kernel⟩⟩
theorem mwX5_hang : mm_MW yX5_hang cX5_hang 6 (some .boolean) [] 0 14 2 := ⟨mm_t7 3 rfl rfl, mm_t1 5 rfl rfl, ⟨by decide +kernel, by decide +kernel⟩, TX5, _, Or.inl ⟨rfl, rfl, mm_t7 2 rfl rfl, mm_t0 40 rfl rfl, by decide, rfl, by decide +kernel⟩⟩
theorem mwX5_kind : mm_MW yX5_kind cX5_kind 1 (some .int) [] 0 14 1 := ⟨mm_t7 7 rfl rfl, mm_t1 5 rfl rfl, ⟨by decide +kernel, by decide +kernel⟩, TX5, _, Or.inl ⟨rfl, rfl, mm_t7 5 rfl rfl, mm_t7 6 rfl rfl, by decide, rfl, by decide +kernel⟩⟩
theorem mwX5_kindOf : mm_MW yX5_kindOf cX5_kindOf 1 (some .int) [] 0 14 1 := ⟨mm_t7 11 rfl rfl, mm_t1 5 rfl rfl, ⟨by decide +kernel, by decide +kernel⟩, TX5, _, Or.inl ⟨rfl, rfl, mm_t7 10 rfl rfl, mm_t0 41 rfl rfl, by decide, rfl, by decide +kernel⟩⟩
theorem mwX5_leastStart : mm_MW yX5_leastStart cX5_leastStart 2 (some .int) [] 0 14 1 := ⟨mm_t7 15 rfl rfl, mm_t1 5 rfl rfl, ⟨by decide +kernel, by decide +kernel⟩, TX5, _, Or.inl ⟨rfl, rfl, mm_t7 14 rfl rfl, mm_t0 42 rfl rfl, by decide, rfl, by decide +kernel⟩⟩
theorem mwX5_isStartOf : mm_MW yX5_isStartOf cX5_isStartOf 4 (some .boolean) [] 0 14 3 := ⟨mm_t7 19 rfl rfl, mm_t1 5 rfl rfl, ⟨by decide +kernel, by decide +kernel⟩, TX5, _, Or.inl ⟨rfl, rfl, mm_t7 18 rfl rfl, mm_t0 43 rfl rfl, by decide, rfl, by decide +kernel⟩⟩
theorem mwX5_isStart : mm_MW yX5_isStart cX5_isStart 2 (some .boolean) [] 0 14 2 := ⟨mm_t7 23 rfl rfl, mm_t1 5 rfl rfl, ⟨by decide +kernel, by decide +kernel⟩, TX5, _, Or.inl ⟨rfl, rfl, mm_t7 21 rfl rfl, mm_t7 22 rfl rfl, by decide, rfl, by decide +kernel⟩⟩
theorem mwX5_rule : mm_MW yX5_rule cX5_rule 2 (some .int) [] 0 14 2 := ⟨mm_t7 27 rfl rfl, mm_t1 5 rfl rfl, ⟨by decide +kernel, by decide +kernel⟩, TX5, _, Or.inl ⟨rfl, rfl, mm_t7 25 rfl rfl, mm_t7 26 rfl rfl, by decide, rfl, by decide +kernel⟩⟩
theorem mwX5_ruleOf : mm_MW yX5_ruleOf cX5_ruleOf 2 (some .int) [] 0 14 2 := ⟨mm_t7 31 rfl rfl, mm_t1 5 rfl rfl, ⟨by decide +kernel, by decide +kernel⟩, TX5, _, Or.inl ⟨rfl, rfl, mm_t7 30 rfl rfl, mm_t0 44 rfl rfl, by decide, rfl, by decide +kernel⟩⟩
theorem mwX5_begin : mm_MW yX5_begin cX5_begin 4 (some .int) [] 0 14 3 := ⟨mm_t7 35 rfl rfl, mm_t1 5 rfl rfl, ⟨by decide +kernel, by decide +kernel⟩, TX5, _, Or.inl ⟨rfl, rfl, mm_t7 33 rfl rfl, mm_t7 34 rfl rfl, by decide, rfl, by decide +kernel⟩⟩
theorem mwX5_isNoWalk : mm_MW yX5_isNoWalk cX5_isNoWalk 2 (some .boolean) [] 0 14 2 := ⟨mm_t7 39 rfl rfl, mm_t1 5 rfl rfl, ⟨by decide +kernel, by decide +kernel⟩, TX5, _, Or.inl ⟨rfl, rfl, mm_t7 38 rfl rfl, mm_t0 45 rfl rfl, by decide, rfl, by decide +kernel⟩⟩
theorem mwX5_lose : mm_MW yX5_lose cX5_lose 2 none [] 0 14 2 := ⟨mm_t7 43 rfl rfl, mm_t1 5 rfl rfl, ⟨by decide +kernel, by decide +kernel⟩, TX5, _, Or.inl ⟨rfl, rfl, mm_t7 42 rfl rfl, mm_t0 46 rfl rfl, by decide, rfl, by decide +kernel⟩⟩
theorem mwX5_step : mm_MW yX5_step cX5_step 5 (some .int) [] 0 14 4 := ⟨mm_t7 47 rfl rfl, mm_t1 5 rfl rfl, ⟨by decide +kernel, by decide +kernel⟩, TX5, _, Or.inl ⟨rfl, rfl, mm_t7 45 rfl rfl, mm_t7 46 rfl rfl, by decide, rfl, by decide +kernel⟩⟩
theorem mwX5_coming : mm_MW yX5_coming cX5_coming 3 (some .int) [] 0 14 3 := ⟨mm_t7 51 rfl rfl, mm_t1 5 rfl rfl, ⟨by decide +kernel, by decide +kernel⟩, TX5, _, Or.inl ⟨rfl, rfl, mm_t7 50 rfl rfl, mm_t0 47 rfl rfl, by decide, rfl, by decide +kernel⟩⟩
theorem mwX5_leaving : mm_MW yX5_leaving cX5_leaving 3 (some .int) [] 0 14 3 := ⟨mm_t7 55 rfl rfl, mm_t1 5 rfl rfl, ⟨by decide +kernel, by decide +kernel⟩, TX5, _, Or.inl ⟨rfl, rfl, mm_t7 54 rfl rfl, mm_t0 48 rfl rfl, by decide, rfl, by decide +kernel⟩⟩
theorem mwX5_goesFrom : mm_MW yX5_goesFrom cX5_goesFrom 2 (some .int) [] 0 14 2 := ⟨mm_t7 59 rfl rfl, mm_t1 5 rfl rfl, ⟨by decide +kernel, by decide +kernel⟩, TX5, _, Or.inl ⟨rfl, rfl, mm_t7 58 rfl rfl, mm_t0 49 rfl rfl, by decide, rfl, by decide +kernel⟩⟩
theorem mwX5_back : mm_MW yX5_back cX5_back 4 (some .int) [] 0 14 3 := ⟨mm_t7 63 rfl rfl, mm_t1 5 rfl rfl, ⟨by decide +kernel, by decide +kernel⟩, TX5, _, Or.inl ⟨rfl, rfl, mm_t7 61 rfl rfl, mm_t7 62 rfl rfl, by decide, rfl, by decide +kernel⟩⟩
theorem mwX5_on : mm_MW yX5_on cX5_on 4 (some .int) [] 0 14 3 := ⟨mm_t7 67 rfl rfl, mm_t1 5 rfl rfl, ⟨by decide +kernel, by decide +kernel⟩, TX5, _, Or.inl ⟨rfl, rfl, mm_t7 65 rfl rfl, mm_t7 66 rfl rfl, by decide, rfl, by decide +kernel⟩⟩
theorem mwX5_gone : mm_MW yX5_gone cX5_gone 10 (some .int) [] 0 14 4 := ⟨mm_t7 71 rfl rfl, mm_t1 5 rfl rfl, ⟨by decide +kernel, by decide +kernel⟩, TX5, _, Or.inl ⟨rfl, rfl, mm_t7 70 rfl rfl, mm_t0 50 rfl rfl, by decide, rfl, by decide +kernel⟩⟩
theorem mwX5_setOf : mm_MW yX5_setOf cX5_setOf 4 (some .int) [] 0 14 2 := ⟨mm_t7 75 rfl rfl, mm_t1 5 rfl rfl, ⟨by decide +kernel, by decide +kernel⟩, TX5, _, Or.inl ⟨rfl, rfl, mm_t7 74 rfl rfl, mm_t0 51 rfl rfl, by decide, rfl, by decide +kernel⟩⟩
theorem mwX5_complete : mm_MW yX5_complete cX5_complete 4 (some .int) [] 0 14 3 := ⟨mm_t7 79 rfl rfl, mm_t1 5 rfl rfl, ⟨by decide +kernel, by decide +kernel⟩, TX5, _, Or.inl ⟨rfl, rfl, mm_t7 77 rfl rfl, mm_t7 78 rfl rfl, by decide, rfl, by decide +kernel⟩⟩
theorem mwX5_completed : mm_MW yX5_completed cX5_completed 5 (some .int) [] 0 14 3 := ⟨mm_t7 83 rfl rfl, mm_t1 5 rfl rfl, ⟨by decide +kernel, by decide +kernel⟩, TX5, _, Or.inl ⟨rfl, rfl, mm_t7 82 rfl rfl, mm_t0 52 rfl rfl, by decide, rfl, by decide +kernel⟩⟩
theorem mwX5_splice : mm_MW yX5_splice cX5_splice 4 (some .int) [] 0 14 4 := ⟨mm_t7 87 rfl rfl, mm_t1 5 rfl rfl, ⟨by decide +kernel, by decide +kernel⟩, TX5, _, Or.inl ⟨rfl, rfl, mm_t7 85 rfl rfl, mm_t7 86 rfl rfl, by decide, rfl, by decide +kernel⟩⟩
theorem mwX5_isNoRound : mm_MW yX5_isNoRound cX5_isNoRound 3 (some .boolean) [] 0 14 3 := ⟨mm_t7 91 rfl rfl, mm_t1 5 rfl rfl, ⟨by decide +kernel, by decide +kernel⟩, TX5, _, Or.inl ⟨rfl, rfl, mm_t7 90 rfl rfl, mm_t0 53 rfl rfl, by decide, rfl, by decide +kernel⟩⟩
theorem mwX5_isHome : mm_MW yX5_isHome cX5_isHome 2 (some .boolean) [] 0 14 2 := ⟨mm_t7 95 rfl rfl, mm_t1 5 rfl rfl, ⟨by decide +kernel, by decide +kernel⟩, TX5, _, Or.inl ⟨rfl, rfl, mm_t7 94 rfl rfl, mm_t0 54 rfl rfl, by decide, rfl, by decide +kernel⟩⟩
theorem mwX5_spliced : mm_MW yX5_spliced cX5_spliced 5 none [] 0 14 4 := ⟨mm_t7 99 rfl rfl, mm_t1 5 rfl rfl, ⟨by decide +kernel, by decide +kernel⟩, TX5, _, Or.inl ⟨rfl, rfl, mm_t7 98 rfl rfl, mm_t0 55 rfl rfl, by decide, rfl, by decide +kernel⟩⟩
theorem mwX5_join : mm_MW yX5_join cX5_join 5 (some .int) [] 0 14 3 := ⟨mm_t7 103 rfl rfl, mm_t1 5 rfl rfl, ⟨by decide +kernel, by decide +kernel⟩, TX5, _, Or.inl ⟨rfl, rfl, mm_t7 101 rfl rfl, mm_t7 102 rfl rfl, by decide, rfl, by decide +kernel⟩⟩
theorem mwX5_rotated : mm_MW yX5_rotated cX5_rotated 5 none [] 0 14 3 := ⟨mm_t7 107 rfl rfl, mm_t1 5 rfl rfl, ⟨by decide +kernel, by decide +kernel⟩, TX5, _, Or.inl ⟨rfl, rfl, mm_t7 106 rfl rfl, mm_t0 56 rfl rfl, by decide, rfl, by decide +kernel⟩⟩
theorem mwX5_cut : mm_MW yX5_cut cX5_cut 6 (some .int) [] 0 14 5 := ⟨mm_t7 111 rfl rfl, mm_t1 5 rfl rfl, ⟨by decide +kernel, by decide +kernel⟩, TX5, _, Or.inl ⟨rfl, rfl, mm_t7 109 rfl rfl, mm_t7 110 rfl rfl, by decide, rfl, by decide +kernel⟩⟩
theorem mwX5_turnRound : mm_MW yX5_turnRound cX5_turnRound 4 (some .int) [] 0 14 2 := ⟨mm_t7 115 rfl rfl, mm_t1 5 rfl rfl, ⟨by decide +kernel, by decide +kernel⟩, TX5, _, Or.inl ⟨rfl, rfl, mm_t7 113 rfl rfl, mm_t7 114 rfl rfl, by decide, rfl, by decide +kernel⟩⟩
theorem mwX5_rotate : mm_MW yX5_rotate cX5_rotate 3 (some .int) [] 0 14 3 := ⟨mm_t7 119 rfl rfl, mm_t1 5 rfl rfl, ⟨by decide +kernel, by decide +kernel⟩, TX5, _, Or.inl ⟨rfl, rfl, mm_t7 117 rfl rfl, mm_t7 118 rfl rfl, by decide, rfl, by decide +kernel⟩⟩
theorem mwX5_first : mm_MW yX5_first cX5_first 4 (some .int) [] 0 14 4 := ⟨mm_t7 123 rfl rfl, mm_t1 5 rfl rfl, ⟨by decide +kernel, by decide +kernel⟩, TX5, _, Or.inl ⟨rfl, rfl, mm_t7 121 rfl rfl, mm_t7 122 rfl rfl, by decide, rfl, by decide +kernel⟩⟩
theorem mwX5_filled : mm_MW yX5_filled cX5_filled 5 none [] 0 14 3 := ⟨mm_t7 127 rfl rfl, mm_t1 5 rfl rfl, ⟨by decide +kernel, by decide +kernel⟩, TX5, _, Or.inl ⟨rfl, rfl, mm_t7 126 rfl rfl, mm_t0 57 rfl rfl, by decide, rfl, by decide +kernel⟩⟩
theorem mwX5_fitting : mm_MW yX5_fitting cX5_fitting 7 (some .int) [] 0 14 4 := ⟨mm_t7 131 rfl rfl, mm_t1 5 rfl rfl, ⟨by decide +kernel, by decide +kernel⟩, TX5, _, Or.inl ⟨rfl, rfl, mm_t7 130 rfl rfl, mm_t0 58 rfl rfl, by decide, rfl, by decide +kernel⟩⟩
theorem mwX5_next : mm_MW yX5_next cX5_next 6 (some .int) [] 0 14 3 := ⟨mm_t7 135 rfl rfl, mm_t1 5 rfl rfl, ⟨by decide +kernel, by decide +kernel⟩, TX5, _, Or.inl ⟨rfl, rfl, mm_t7 133 rfl rfl, mm_t7 134 rfl rfl, by decide, rfl, by decide +kernel⟩⟩
theorem mwX5_isWhole : mm_MW yX5_isWhole cX5_isWhole 2 (some .boolean) [] 0 14 2 := ⟨mm_t7 139 rfl rfl, mm_t1 5 rfl rfl, ⟨by decide +kernel, by decide +kernel⟩, TX5, _, Or.inl ⟨rfl, rfl, mm_t7 138 rfl rfl, mm_t0 59 rfl rfl, by decide, rfl, by decide +kernel⟩⟩
theorem mwX5_copied : mm_MW yX5_copied cX5_copied 4 none [] 0 14 3 := ⟨mm_t7 143 rfl rfl, mm_t1 5 rfl rfl, ⟨by decide +kernel, by decide +kernel⟩, TX5, _, Or.inl ⟨rfl, rfl, mm_t7 142 rfl rfl, mm_t0 60 rfl rfl, by decide, rfl, by decide +kernel⟩⟩
theorem mwX5_copy : mm_MW yX5_copy cX5_copy 3 (some .int) [] 0 14 3 := ⟨mm_t7 147 rfl rfl, mm_t1 5 rfl rfl, ⟨by decide +kernel, by decide +kernel⟩, TX5, _, Or.inl ⟨rfl, rfl, mm_t7 145 rfl rfl, mm_t7 146 rfl rfl, by decide, rfl, by decide +kernel⟩⟩
theorem mwX5_length : mm_MW yX5_length cX5_length 2 (some .int) [] 0 14 2 := ⟨mm_t7 151 rfl rfl, mm_t1 5 rfl rfl, ⟨by decide +kernel, by decide +kernel⟩, TX5, _, Or.inl ⟨rfl, rfl, mm_t7 149 rfl rfl, mm_t7 150 rfl rfl, by decide, rfl, by decide +kernel⟩⟩
theorem mwX5_cornerAt : mm_MW yX5_cornerAt cX5_cornerAt 3 (some .int) [] 0 14 3 := ⟨mm_t7 155 rfl rfl, mm_t1 5 rfl rfl, ⟨by decide +kernel, by decide +kernel⟩, TX5, _, Or.inl ⟨rfl, rfl, mm_t7 153 rfl rfl, mm_t7 154 rfl rfl, by decide, rfl, by decide +kernel⟩⟩
theorem mwX5_stepAt : mm_MW yX5_stepAt cX5_stepAt 3 (some .int) [] 0 14 3 := ⟨mm_t7 159 rfl rfl, mm_t1 5 rfl rfl, ⟨by decide +kernel, by decide +kernel⟩, TX5, _, Or.inl ⟨rfl, rfl, mm_t7 157 rfl rfl, mm_t7 158 rfl rfl, by decide, rfl, by decide +kernel⟩⟩
theorem mwX5_find : mm_MW yX5_find cX5_find 3 (some .int) [] 0 14 3 := ⟨mm_t7 163 rfl rfl, mm_t1 5 rfl rfl, ⟨by decide +kernel, by decide +kernel⟩, TX5, _, Or.inl ⟨rfl, rfl, mm_t7 161 rfl rfl, mm_t7 162 rfl rfl, by decide, rfl, by decide +kernel⟩⟩
theorem mwX5_is : mm_MW yX5_is cX5_is 3 (some .boolean) [] 0 14 3 := ⟨mm_t7 167 rfl rfl, mm_t1 5 rfl rfl, ⟨by decide +kernel, by decide +kernel⟩, TX5, _, Or.inl ⟨rfl, rfl, mm_t7 165 rfl rfl, mm_t7 166 rfl rfl, by decide, rfl, by decide +kernel⟩⟩
theorem mwX5_same : mm_MW yX5_same cX5_same 3 (some .boolean) [] 0 14 3 := ⟨mm_t7 171 rfl rfl, mm_t1 5 rfl rfl, ⟨by decide +kernel, by decide +kernel⟩, TX5, _, Or.inl ⟨rfl, rfl, mm_t7 169 rfl rfl, mm_t7 170 rfl rfl, by decide, rfl, by decide +kernel⟩⟩
theorem mwX5_isSame : mm_MW yX5_isSame cX5_isSame 4 (some .boolean) [] 0 14 3 := ⟨mm_t7 175 rfl rfl, mm_t1 5 rfl rfl, ⟨by decide +kernel, by decide +kernel⟩, TX5, _, Or.inl ⟨rfl, rfl, mm_t7 174 rfl rfl, mm_t0 61 rfl rfl, by decide, rfl, by decide +kernel⟩⟩
theorem mwX5_turnOf : mm_MW yX5_turnOf cX5_turnOf 3 (some .int) [] 0 14 3 := ⟨mm_t7 179 rfl rfl, mm_t1 5 rfl rfl, ⟨by decide +kernel, by decide +kernel⟩, TX5, _, Or.inl ⟨rfl, rfl, mm_t7 177 rfl rfl, mm_t7 178 rfl rfl, by decide, rfl, by decide +kernel⟩⟩
theorem mwX5_turnTo : mm_MW yX5_turnTo cX5_turnTo 4 (some .int) [] 0 14 3 := ⟨mm_t7 183 rfl rfl, mm_t1 5 rfl rfl, ⟨by decide +kernel, by decide +kernel⟩, TX5, _, Or.inl ⟨rfl, rfl, mm_t7 182 rfl rfl, mm_t0 62 rfl rfl, by decide, rfl, by decide +kernel⟩⟩
theorem mwX5_isTurnedBy : mm_MW yX5_isTurnedBy cX5_isTurnedBy 5 (some .boolean) [] 0 14 4 := ⟨mm_t7 187 rfl rfl, mm_t1 5 rfl rfl, ⟨by decide +kernel, by decide +kernel⟩, TX5, _, Or.inl ⟨rfl, rfl, mm_t7 186 rfl rfl, mm_t0 63 rfl rfl, by decide, rfl, by decide +kernel⟩⟩
theorem mwX5_text : mm_MW yX5_text cX5_text 5 (some (.object "java/lang/String")) [] 0 14 3 := ⟨mm_t7 191 rfl rfl, mm_t1 5 rfl rfl, ⟨by decide +kernel, by decide +kernel⟩, TX5, _, Or.inl ⟨rfl, rfl, mm_t7 189 rfl rfl, mm_t7 190 rfl rfl, by decide, rfl, by decide +kernel⟩⟩
theorem mwX5_wordAt : mm_MW yX5_wordAt cX5_wordAt 4 (some .int) [] 0 14 4 := ⟨mm_t7 202 rfl rfl, mm_t1 5 rfl rfl, ⟨by decide +kernel, by decide +kernel⟩, TX5, _, Or.inl ⟨rfl, rfl, mm_t7 200 rfl rfl, mm_t7 201 rfl rfl, by decide, rfl, by decide +kernel⟩⟩
theorem mwX5_wordIn : mm_MW yX5_wordIn cX5_wordIn 7 (some .int) [] 0 14 4 := ⟨mm_t7 206 rfl rfl, mm_t1 5 rfl rfl, ⟨by decide +kernel, by decide +kernel⟩, TX5, _, Or.inl ⟨rfl, rfl, mm_t7 205 rfl rfl, mm_t0 64 rfl rfl, by decide, rfl, by decide +kernel⟩⟩
theorem mwX5_cursor : mm_MW yX5_cursor cX5_cursor 3 (some .int) [] 0 14 3 := ⟨mm_t7 210 rfl rfl, mm_t1 5 rfl rfl, ⟨by decide +kernel, by decide +kernel⟩, TX5, _, Or.inl ⟨rfl, rfl, mm_t7 208 rfl rfl, mm_t7 209 rfl rfl, by decide, rfl, by decide +kernel⟩⟩
theorem mwX5_cursorGo : mm_MW yX5_cursorGo cX5_cursorGo 2 (some .int) [] 0 14 2 := ⟨mm_t7 214 rfl rfl, mm_t1 5 rfl rfl, ⟨by decide +kernel, by decide +kernel⟩, TX5, _, Or.inl ⟨rfl, rfl, mm_t7 212 rfl rfl, mm_t7 213 rfl rfl, by decide, rfl, by decide +kernel⟩⟩
theorem mwX5_canGo : mm_MW yX5_canGo cX5_canGo 2 (some .boolean) [] 0 14 2 := ⟨mm_t7 218 rfl rfl, mm_t1 5 rfl rfl, ⟨by decide +kernel, by decide +kernel⟩, TX5, _, Or.inl ⟨rfl, rfl, mm_t7 217 rfl rfl, mm_t0 65 rfl rfl, by decide, rfl, by decide +kernel⟩⟩
theorem mwX5_isThere : mm_MW yX5_isThere cX5_isThere 1 (some .boolean) [] 0 14 1 := ⟨mm_t7 222 rfl rfl, mm_t1 5 rfl rfl, ⟨by decide +kernel, by decide +kernel⟩, TX5, _, Or.inl ⟨rfl, rfl, mm_t7 221 rfl rfl, mm_t0 66 rfl rfl, by decide, rfl, by decide +kernel⟩⟩
theorem mwX5_cursorSet : mm_MW yX5_cursorSet cX5_cursorSet 5 (some .int) [] 0 14 2 := ⟨mm_t7 226 rfl rfl, mm_t1 5 rfl rfl, ⟨by decide +kernel, by decide +kernel⟩, TX5, _, Or.inl ⟨rfl, rfl, mm_t7 224 rfl rfl, mm_t7 225 rfl rfl, by decide, rfl, by decide +kernel⟩⟩
theorem mwX5_between : mm_MW yX5_between cX5_between 4 (some .int) [] 0 14 4 := ⟨mm_t7 230 rfl rfl, mm_t1 5 rfl rfl, ⟨by decide +kernel, by decide +kernel⟩, TX5, _, Or.inl ⟨rfl, rfl, mm_t7 229 rfl rfl, mm_t0 67 rfl rfl, by decide, rfl, by decide +kernel⟩⟩
theorem mwX5_cursorAdd : mm_MW yX5_cursorAdd cX5_cursorAdd 3 (some .int) [] 0 14 2 := ⟨mm_t7 234 rfl rfl, mm_t1 5 rfl rfl, ⟨by decide +kernel, by decide +kernel⟩, TX5, _, Or.inl ⟨rfl, rfl, mm_t7 232 rfl rfl, mm_t7 233 rfl rfl, by decide, rfl, by decide +kernel⟩⟩
theorem mwX5_fittingHere : mm_MW yX5_fittingHere cX5_fittingHere 3 (some .int) [] 0 14 2 := ⟨mm_t7 238 rfl rfl, mm_t1 5 rfl rfl, ⟨by decide +kernel, by decide +kernel⟩, TX5, _, Or.inl ⟨rfl, rfl, mm_t7 237 rfl rfl, mm_t0 68 rfl rfl, by decide, rfl, by decide +kernel⟩⟩
theorem mwX5_cursorRemove : mm_MW yX5_cursorRemove cX5_cursorRemove 3 (some .int) [] 0 14 1 := ⟨mm_t8 2 rfl rfl, mm_t1 5 rfl rfl, ⟨by decide +kernel, by decide +kernel⟩, TX5, _, Or.inl ⟨rfl, rfl, mm_t8 0 rfl rfl, mm_t8 1 rfl rfl, by decide, rfl, by decide +kernel⟩⟩
theorem mwX5_cursorCan : mm_MW yX5_cursorCan cX5_cursorCan 2 (some .boolean) [] 0 14 2 := ⟨mm_t8 6 rfl rfl, mm_t1 5 rfl rfl, ⟨by decide +kernel, by decide +kernel⟩, TX5, _, Or.inl ⟨rfl, rfl, mm_t8 4 rfl rfl, mm_t8 5 rfl rfl, by decide, rfl, by decide +kernel⟩⟩
theorem mwX5_cursorPlace : mm_MW yX5_cursorPlace cX5_cursorPlace 2 (some .int) [] 0 14 2 := ⟨mm_t8 10 rfl rfl, mm_t1 5 rfl rfl, ⟨by decide +kernel, by decide +kernel⟩, TX5, _, Or.inl ⟨rfl, rfl, mm_t8 8 rfl rfl, mm_t8 9 rfl rfl, by decide, rfl, by decide +kernel⟩⟩
theorem mwX5_placeTold : mm_MW yX5_placeTold cX5_placeTold 2 (some .int) [] 0 14 2 := ⟨mm_t8 14 rfl rfl, mm_t1 5 rfl rfl, ⟨by decide +kernel, by decide +kernel⟩, TX5, _, Or.inl ⟨rfl, rfl, mm_t8 13 rfl rfl, mm_t0 69 rfl rfl, by decide, rfl, by decide +kernel⟩⟩
theorem mwX5_house : mm_MW yX5_house cX5_house 2 (some .int) [] 0 14 2 := ⟨mm_t8 18 rfl rfl, mm_t1 5 rfl rfl, ⟨by decide +kernel, by decide +kernel⟩, TX5, _, Or.inl ⟨rfl, rfl, mm_t8 16 rfl rfl, mm_t8 17 rfl rfl, by decide, rfl, by decide +kernel⟩⟩
theorem mwX5_houseOf : mm_MW yX5_houseOf cX5_houseOf 2 (some .int) [] 0 14 2 := ⟨mm_t8 22 rfl rfl, mm_t1 5 rfl rfl, ⟨by decide +kernel, by decide +kernel⟩, TX5, _, Or.inl ⟨rfl, rfl, mm_t8 21 rfl rfl, mm_t0 70 rfl rfl, by decide, rfl, by decide +kernel⟩⟩
theorem mwX5_knock : mm_MW yX5_knock cX5_knock 1 (some .int) [] 0 14 1 := ⟨mm_t8 26 rfl rfl, mm_t1 5 rfl rfl, ⟨by decide +kernel, by decide +kernel⟩, TX5, _, Or.inl ⟨rfl, rfl, mm_t8 24 rfl rfl, mm_t8 25 rfl rfl, by decide, rfl, by decide +kernel⟩⟩
theorem mwX5_isSound : mm_MW yX5_isSound cX5_isSound 1 (some .boolean) [] 0 14 1 := ⟨mm_t8 30 rfl rfl, mm_t1 5 rfl rfl, ⟨by decide +kernel, by decide +kernel⟩, TX5, _, Or.inl ⟨rfl, rfl, mm_t8 28 rfl rfl, mm_t8 29 rfl rfl, by decide, rfl, by decide +kernel⟩⟩
theorem mwX5_isAllSo : mm_MW yX5_isAllSo cX5_isAllSo 1 (some .boolean) [] 0 14 1 := ⟨mm_t8 34 rfl rfl, mm_t1 5 rfl rfl, ⟨by decide +kernel, by decide +kernel⟩, TX5, _, Or.inl ⟨rfl, rfl, mm_t8 33 rfl rfl, mm_t0 71 rfl rfl, by decide, rfl, by decide +kernel⟩⟩
theorem mwX5_isWalk : mm_MW yX5_isWalk cX5_isWalk 5 (some .boolean) [] 0 14 2 := ⟨mm_t8 38 rfl rfl, mm_t1 5 rfl rfl, ⟨by decide +kernel, by decide +kernel⟩, TX5, _, Or.inl ⟨rfl, rfl, mm_t8 37 rfl rfl, mm_t0 72 rfl rfl, by decide, rfl, by decide +kernel⟩⟩
theorem mwX5_isCounted : mm_MW yX5_isCounted cX5_isCounted 4 (some .boolean) [] 0 14 1 := ⟨mm_t8 42 rfl rfl, mm_t1 5 rfl rfl, ⟨by decide +kernel, by decide +kernel⟩, TX5, _, Or.inl ⟨rfl, rfl, mm_t8 41 rfl rfl, mm_t0 73 rfl rfl, by decide, rfl, by decide +kernel⟩⟩
theorem mwX5_isCompleted : mm_MW yX5_isCompleted cX5_isCompleted 5 (some .boolean) [] 0 14 1 := ⟨mm_t8 46 rfl rfl, mm_t1 5 rfl rfl, ⟨by decide +kernel, by decide +kernel⟩, TX5, _, Or.inl ⟨rfl, rfl, mm_t8 45 rfl rfl, mm_t0 74 rfl rfl, by decide, rfl, by decide +kernel⟩⟩
theorem mwX5_digest : mm_MW yX5_digest cX5_digest 4 (some .long) [] 0 14 1 := ⟨mm_t8 50 rfl rfl, mm_t1 5 rfl rfl, ⟨by decide +kernel, by decide +kernel⟩, TX5, _, Or.inl ⟨rfl, rfl, mm_t8 48 rfl rfl, mm_t8 49 rfl rfl, by decide, rfl, by decide +kernel⟩⟩
theorem mwX5_addTown : mm_MW yX5_addTown cX5_addTown 7 (some .long) [] 0 14 2 := ⟨mm_t8 55 rfl rfl, mm_t1 5 rfl rfl, ⟨by decide +kernel, by decide +kernel⟩, TX5, _, Or.inl ⟨rfl, rfl, mm_t8 54 rfl rfl, mm_t0 75 rfl rfl, by decide, rfl, by decide +kernel⟩⟩
theorem mwX5_add : mm_MW yX5_add cX5_add 4 (some .long) [] 1 0 2 := ⟨mm_t8 58 rfl rfl, mm_t1 5 rfl rfl, ⟨by decide +kernel, by decide +kernel⟩, (fun _ => default), 0, Or.inr ⟨rfl, mm_t8 57 rfl rfl, by decide +kernel⟩⟩
theorem mwX5_addWalk : mm_MW yX5_addWalk cX5_addWalk 7 (some .long) [] 0 14 3 := ⟨mm_t8 63 rfl rfl, mm_t1 5 rfl rfl, ⟨by decide +kernel, by decide +kernel⟩, TX5, _, Or.inl ⟨rfl, rfl, mm_t8 62 rfl rfl, mm_t0 76 rfl rfl, by decide, rfl, by decide +kernel⟩⟩
def flX1 : List (Nat × Nat × Nat) := [(9, 11, 0), (15, 11, 1), (18, 11, 2), (21, 11, 3), (24, 11, 4), (28, 11, 5), (32, 11, 6), (35, 11, 7)]
theorem flkX1 : ∀ q ∈ flX1, mm_lk RX1 mm_U q.2.1 q.2.2 q.1 := by
  intro q hq
  simp only [flX1, List.mem_cons, List.not_mem_nil, or_false] at hq
  rcases hq with rfl | rfl | rfl | rfl | rfl | rfl | rfl | rfl
  · exact Or.inl (mm_T_U _ (mm_t1 37 rfl rfl))
  · exact Or.inl (mm_T_U _ (mm_t1 38 rfl rfl))
  · exact Or.inl (mm_T_U _ (mm_t1 39 rfl rfl))
  · exact Or.inl (mm_T_U _ (mm_t1 40 rfl rfl))
  · exact Or.inl (mm_T_U _ (mm_t1 41 rfl rfl))
  · exact Or.inl (mm_T_U _ (mm_t1 42 rfl rfl))
  · exact Or.inl (mm_T_U _ (mm_t1 43 rfl rfl))
  · exact Or.inl (mm_T_U _ (mm_t1 44 rfl rfl))
def flX2 : List (Nat × Nat × Nat) := [(9, 12, 0), (15, 12, 1), (19, 12, 2), (23, 12, 3)]
theorem flkX2 : ∀ q ∈ flX2, mm_lk RX2 mm_U q.2.1 q.2.2 q.1 := by
  intro q hq
  simp only [flX2, List.mem_cons, List.not_mem_nil, or_false] at hq
  rcases hq with rfl | rfl | rfl | rfl
  · exact Or.inl (mm_T_U _ (mm_t1 70 rfl rfl))
  · exact Or.inl (mm_T_U _ (mm_t1 71 rfl rfl))
  · exact Or.inl (mm_T_U _ (mm_t1 72 rfl rfl))
  · exact Or.inl (mm_T_U _ (mm_t1 73 rfl rfl))
def flX0 : List (Nat × Nat × Nat) := [(9, 13, 0), (19, 13, 1), (23, 13, 2), (15, 13, 3), (26, 13, 4)]
theorem flkX0 : ∀ q ∈ flX0, mm_lk RX0 mm_U q.2.1 q.2.2 q.1 := by
  intro q hq
  simp only [flX0, List.mem_cons, List.not_mem_nil, or_false] at hq
  rcases hq with rfl | rfl | rfl | rfl | rfl
  · exact Or.inl (mm_T_U _ (mm_t1 89 rfl rfl))
  · exact Or.inl (mm_T_U _ (mm_t1 90 rfl rfl))
  · exact Or.inl (mm_T_U _ (mm_t1 91 rfl rfl))
  · exact Or.inl (mm_T_U _ (mm_t1 92 rfl rfl))
  · exact Or.inl (mm_T_U _ (mm_t1 93 rfl rfl))
def flX3 : List (Nat × Nat × Nat) := [(10, 10, 0), (18, 10, 1), (25, 10, 2), (32, 10, 3), (285, 10, 4), (289, 10, 5), (292, 10, 6)]
theorem flkX3 : ∀ q ∈ flX3, mm_lk RX3 mm_U q.2.1 q.2.2 q.1 := by
  intro q hq
  simp only [flX3, List.mem_cons, List.not_mem_nil, or_false] at hq
  rcases hq with rfl | rfl | rfl | rfl | rfl | rfl | rfl
  · exact Or.inl (mm_T_U _ (mm_t1 105 rfl rfl))
  · exact Or.inl (mm_T_U _ (mm_t1 106 rfl rfl))
  · exact Or.inl (mm_T_U _ (mm_t1 107 rfl rfl))
  · exact Or.inl (mm_T_U _ (mm_t1 108 rfl rfl))
  · exact Or.inl (mm_T_U _ (mm_t1 109 rfl rfl))
  · exact Or.inl (mm_T_U _ (mm_t1 110 rfl rfl))
  · exact Or.inl (mm_T_U _ (mm_t1 111 rfl rfl))
def flL : List (Nat × Nat × Nat) := [(13, 15, 0), (116, 15, 1)]
theorem flkL : ∀ q ∈ flL, mm_lk RL mm_U q.2.1 q.2.2 q.1 := by
  intro q hq
  simp only [flL, List.mem_cons, List.not_mem_nil, or_false] at hq
  rcases hq with rfl | rfl
  · exact Or.inr ⟨RL, List.mem_append_right _ (by decide +kernel)⟩
  · exact Or.inr ⟨RL, List.mem_append_right _ (by decide +kernel)⟩
def flX5 : List (Nat × Nat × Nat) := [(32, 14, 0), (49, 14, 1), (9, 14, 2), (13, 14, 3), (60, 14, 4), (89, 14, 5), (92, 14, 6), (16, 14, 7), (19, 14, 8), (22, 14, 9), (25, 14, 10), (237, 14, 11), (29, 14, 12), (114, 14, 13), (39, 14, 14), (42, 14, 15), (257, 14, 16)]
theorem flkX5 : ∀ q ∈ flX5, mm_lk RX5 mm_U q.2.1 q.2.2 q.1 := by
  intro q hq
  simp only [flX5, List.mem_cons, List.not_mem_nil, or_false] at hq
  rcases hq with rfl | rfl | rfl | rfl | rfl | rfl | rfl | rfl | rfl | rfl | rfl | rfl | rfl | rfl | rfl | rfl | rfl
  · exact Or.inl (mm_T_U _ (mm_t6 47 rfl rfl))
  · exact Or.inl (mm_T_U _ (mm_t6 48 rfl rfl))
  · exact Or.inl (mm_T_U _ (mm_t6 49 rfl rfl))
  · exact Or.inl (mm_T_U _ (mm_t6 50 rfl rfl))
  · exact Or.inl (mm_T_U _ (mm_t6 51 rfl rfl))
  · exact Or.inl (mm_T_U _ (mm_t6 52 rfl rfl))
  · exact Or.inl (mm_T_U _ (mm_t6 53 rfl rfl))
  · exact Or.inl (mm_T_U _ (mm_t6 54 rfl rfl))
  · exact Or.inl (mm_T_U _ (mm_t6 55 rfl rfl))
  · exact Or.inl (mm_T_U _ (mm_t6 56 rfl rfl))
  · exact Or.inl (mm_T_U _ (mm_t6 57 rfl rfl))
  · exact Or.inl (mm_T_U _ (mm_t6 58 rfl rfl))
  · exact Or.inl (mm_T_U _ (mm_t6 59 rfl rfl))
  · exact Or.inl (mm_T_U _ (mm_t6 60 rfl rfl))
  · exact Or.inl (mm_T_U _ (mm_t6 61 rfl rfl))
  · exact Or.inl (mm_T_U _ (mm_t6 62 rfl rfl))
  · exact Or.inl (mm_T_U _ (mm_t6 63 rfl rfl))
end
section
/-! the system's methods that texts are made by: they never throw; a text's content is not looked at -/
/-- a JDK method's call table, entry by entry -/
def mm_PJs (l : Launch) (own : String) (fr lo : Nat) : List (Nat × mm_Ca) → Prop
  | [] => True
  | q :: r => mm_sem l own fr lo q.1 q.2 ∧ mm_PJs l own fr lo r
theorem mm_PJs_look {l : Launch} {own : String} {fr lo idx : Nat} {ca : mm_Ca} : ∀ t : List (Nat × mm_Ca), mm_PJs l own fr lo t → mm_look t idx = some ca → mm_sem l own fr lo idx ca
  | [], _, h => by simp [mm_look] at h
  | q :: r, hp, h => by
    simp only [mm_look] at h
    cases e : q.1 == idx
    · rw [e] at h
      exact mm_PJs_look r hp.2 h
    · rw [e] at h
      have e1 := eq_of_beq e
      simp only [cond_true, Option.some.injEq] at h
      rw [← e1, ← h]
      exact hp.1
theorem mm_mtJ {l : Launch} {y : MethodName} {b : ByteArray} {maxL : Nat} {ret : Option FieldType} {fr lo mu rt : Nat} {own : String} {sp : mm_S} {cd : List mm_E} {fl : List (Nat × Nat × Nat)} {ct : List (Nat × mm_Ca)}
    (h : mm_RN fl ct mm_x0 [] rt mu maxL cd sp) (hy : plainFor y = true ∧ y.cls = own) (hk : mm_chk b cd = true) (hrt : mm_rtOK rt ret = true) (hfl : 5 < fr ∧ 82 ≤ lo)
    (hf : ∀ q ∈ fl, mm_lj own mm_U q.2.1 q.2.2 q.1) (hPE : mm_PJs l own fr lo ct) (h91 : ∀ q ∈ fl, q.2.2 = 91 → y.name = "<init>") : mm_Jet l y b maxL ret fr lo mu sp :=
  mm_methJ (F := mm_look fl) (C := mm_look ct) (LC := mm_look ([] : List (Nat × Int))) hy.1 hy.2 hk hrt hfl.1 hfl.2 ⟨fun k rc n e => hf (k, rc, n) (mm_look_mem fl e), fun k x e => nomatch e⟩ (fun idx ca e => mm_PJs_look ct hPE e) (fun k rc e => h91 (k, rc, 91) (mm_look_mem fl e) rfl) (fun av M d Q hs => h av M d Q hs)
theorem mm_mtX {l : Launch} {y : MethodName} {b : ByteArray} {maxL : Nat} {ret : Option FieldType} {fr lo mu rt : Nat} {own : String} {sp : mm_S} {cd : List mm_E} {fl : List (Nat × Nat × Nat)} {ct : List (Nat × mm_Ca)} {xt : Nat → Nat → Nat → Option Nat} {lc : List (Nat × Int)}
    (hl : l.stackTraces = false) (h : mm_RN fl ct xt lc rt mu maxL cd sp) (hy : plainName y.cls = true ∧ y.cls = own) (hk : mm_chk b cd = true) (hrt : mm_rtOK rt ret = true) (hfl : 5 < fr ∧ 82 ≤ lo)
    (hf : ∀ q ∈ fl, mm_lj own mm_U q.2.1 q.2.2 q.1) (hlc : ∀ q ∈ lc, Jvm.Cond.constantLong own q.1 (Int64.ofInt q.2) ∈ mm_U) (hPE : mm_PEs l own (mm_rm fr lo mu) ct) (hXE : ∀ idx is ic k, xt idx is ic = some k → mm_XE own mm_U idx is ic k) (hn9 : ∀ q ∈ fl, q.2.2 ≠ 91) : mm_Met l y b maxL ret [] fr lo mu sp :=
  mm_meth (F := mm_look fl) (C := mm_look ct) (X0 := xt) (LC := mm_look lc) hl hy.1 hy.2 hk hrt hfl.1 hfl.2 ⟨fun k rc n e => hf (k, rc, n) (mm_look_mem fl e), fun k x e => hlc (k, x) (mm_look_mem lc e)⟩ (fun idx ca e => mm_PEs_look ct hPE e) hXE (fun k rc e => hn9 _ (mm_look_mem fl e) rfl) (fun av M d Q hs => h av M d Q hs)
/-- what was there before stays: the base -/
def bX (M0 : mm_M) (d0 : List Nat) (M : mm_M) (d : List Nat) : Prop := (∃ d1, d = d0 ++ d1) ∧ ∀ o, o ∈ mm_ids d0 → o ≠ 0 → M o = M0 o ∧ mm_kd M o = mm_kd M0 o ∧ mm_ln M o = mm_ln M0 o
/-- a new object of kind k -/
def bO (d0 : List Nat) (M : mm_M) (d : List Nat) (o k : Nat) : Prop := mm_is M d o k ∧ 100 ≤ o ∧ o ∉ d0
theorem bX.rf {M : mm_M} {d : List Nat} : bX M d M d := ⟨⟨[], by simp⟩, fun _ _ _ => ⟨rfl, rfl, rfl⟩⟩
theorem mm_ids_new {d : List Nat} {o : Nat} (ho : 100 ≤ o) (hd : o ∉ d) : o ∉ mm_ids d := by
  intro h
  rcases List.mem_append.mp h with h | h
  · simp only [mm_st, List.mem_cons, List.not_mem_nil, or_false] at h
    omega
  · exact hd h
theorem bX.same {M0 M M' : mm_M} {d0 d : List Nat} {o : Nat} (h : bX M0 d0 M d) (ho : 100 ≤ o ∧ o ∉ d0) (e : ∀ x, x ≠ o → M' x = M x) : bX M0 d0 M' d := by
  refine ⟨h.1, fun x hx h0 => ?_⟩
  have hxo : x ≠ o := fun q => mm_ids_new ho.1 ho.2 (q ▸ hx)
  have ek := mm_kd_up (M := M) (M' := M') (o' := x) (by omega) e
  rw [e x hxo, ek.1, ek.2]
  exact h.2 x hx h0
theorem bO.same {d0 d : List Nat} {M M' : mm_M} {x k o : Nat} (h : bO d0 M d x k) (ho : 100 ≤ o) (e : ∀ x, x ≠ o → M' x = M x) : bO d0 M' d x k := by
  have ek := mm_kd_up (M := M) (M' := M') (o' := x) (by omega) e
  exact ⟨⟨by rw [ek.1]; exact h.1.1, h.1.2⟩, h.2⟩
theorem bX.new {M0 M : mm_M} {d0 d : List Nat} {o k : Nat} {n : Int} (h : bX M0 d0 M d) (ho : 100 ≤ o) (hd : o ∉ d) : bX M0 d0 (mm_nob M o k n) (d ++ [o]) := by
  obtain ⟨⟨d1, rfl⟩, h2⟩ := h
  refine ⟨⟨d1 ++ [o], by simp⟩, fun x hx h0 => ?_⟩
  have hxo : x ≠ o := fun q => mm_ids_new ho (fun z => hd (List.mem_append_left _ z)) (q ▸ hx)
  have ek := mm_nob_kd2 (M := M) (k := k) (n := n) ho hxo
  rw [mm_nob_o hxo h0, ek.1, ek.2]
  exact h2 x hx h0
theorem bO.new {d0 d : List Nat} {M : mm_M} {x k o k' : Nat} {n : Int} (h : bO d0 M d x k) (ho : 100 ≤ o) (hd : o ∉ d) : bO d0 (mm_nob M o k' n) (d ++ [o]) x k := by
  have hxo : x ≠ o := fun q => mm_ids_new ho hd (q ▸ h.1.2)
  have ek := mm_nob_kd2 (M := M) (k := k') (n := n) ho hxo
  refine ⟨⟨by rw [ek.1]; exact h.1.1, ?_⟩, h.2⟩
  rcases List.mem_append.mp h.1.2 with z | z
  · exact List.mem_append_left _ z
  · exact List.mem_append_right _ (List.mem_append_left _ z)
theorem bO.mk' {M0 M : mm_M} {d0 d : List Nat} {o k : Nat} {n : Int} (h : bX M0 d0 M d) (ho : 100 ≤ o) (hd : o ∉ d) (hn : 0 ≤ n) : bO d0 (mm_nob M o k n) (d ++ [o]) o k := by
  obtain ⟨⟨d1, rfl⟩, h2⟩ := h
  exact ⟨⟨(mm_nob_kd ho hn).1, List.mem_append_right _ (List.mem_append_right _ (by simp))⟩, ho, fun z => hd (List.mem_append_left _ z)⟩
/-- a text under way: b holds n letters, and has room for q at least -/
def sC (M0 : mm_M) (d0 : List Nat) (M : mm_M) (d : List Nat) (b : Nat) (n q : Int) : Prop := bX M0 d0 M d ∧ bO d0 M d b 16 ∧ M b 1 = 0 ∧ M b 3 = n ∧ 0 ≤ n ∧ bO d0 M d (M b 0).toNat 3 ∧ n ≤ (mm_ln M (M b 0).toNat : Int) ∧ q ≤ (mm_ln M (M b 0).toNat : Int) ∧ mm_ln M (M b 0).toNat ≤ 220
theorem sC.w {M0 M : mm_M} {d0 d : List Nat} {b : Nat} {n q q' : Int} (h : sC M0 d0 M d b n q) (hq : q' ≤ q ∨ q' ≤ n) : sC M0 d0 M d b n q' := by
  obtain ⟨h1, h2, h3, h4, h5, h7, h8, h9, h10⟩ := h
  exact ⟨h1, h2, h3, h4, h5, h7, h8, by omega, h10⟩
theorem bO.ne {d0 d : List Nat} {M : mm_M} {x y k k' : Nat} (h : bO d0 M d x k) (h' : bO d0 M d y k') (hk : k ≠ k') : x ≠ y := by
  intro e
  subst e
  exact hk (h.1.1.symm.trans h'.1.1)
theorem sC.row {M0 M M' : mm_M} {d0 d : List Nat} {b a k : Nat} {n q : Int} (h : sC M0 d0 M d b n q) (ha : bO d0 M d a k) (hk : k ≠ 16) (e : ∀ x, x ≠ a → M' x = M x) : sC M0 d0 M' d b n q := by
  obtain ⟨h1, h2, h3, h4, h5, h7, h8, h9, h10⟩ := h
  have hne := h2.ne ha (Ne.symm hk)
  have ek := mm_kd_up (M := M) (M' := M') (o' := (M b 0).toNat) (by have := ha.2.1; omega) e
  have eb := e b hne
  refine ⟨h1.same ha.2 e, h2.same ha.2.1 e, by rw [eb]; exact h3, by rw [eb]; exact h4, h5, by rw [eb]; exact h7.same ha.2.1 e, ?_⟩
  rw [eb, ek.2]
  exact ⟨h8, h9, h10⟩
theorem sC.cnt {M0 M : mm_M} {d0 d : List Nat} {b : Nat} {n q n' : Int} (h : sC M0 d0 M d b n q) (h0 : 0 ≤ n' ∧ n' ≤ q) : sC M0 d0 (mm_up M b 3 n') d b n' q := by
  obtain ⟨h1, h2, h3, h4, h5, h7, h8, h9, h10⟩ := h
  have e : ∀ x, x ≠ b → mm_up M b 3 n' x = M x := mm_up_o
  have ek := mm_kd_up (M := M) (M' := mm_up M b 3 n') (o' := (M b 0).toNat) (by have := h2.2.1; omega) e
  have e0 : mm_up M b 3 n' b 0 = M b 0 := by simp [mm_up]
  refine ⟨h1.same h2.2 e, h2.same h2.2.1 e, by simpa [mm_up] using h3, by simp [mm_up], h0.1, by rw [e0]; exact h7.same h2.2.1 e, ?_⟩
  rw [e0, ek.2]
  exact ⟨by omega, h9, h10⟩
theorem sC.set {M0 M : mm_M} {d0 d : List Nat} {b o : Nat} {n q : Int} (h1 : bX M0 d0 M d) (h2 : bO d0 M d b 16) (h3 : M b 1 = 0) (h4 : M b 3 = n) (h5 : 0 ≤ n) (h7 : bO d0 M d o 3) (h8 : n ≤ (mm_ln M o : Int) ∧ q ≤ (mm_ln M o : Int) ∧ mm_ln M o ≤ 220) : sC M0 d0 (mm_up M b 0 (o : Int)) d b n q := by
  have e : ∀ x, x ≠ b → mm_up M b 0 (o : Int) x = M x := mm_up_o
  have ek := mm_kd_up (M := M) (M' := mm_up M b 0 (o : Int)) (o' := o) (by have := h2.2.1; omega) e
  have e0 : (mm_up M b 0 (o : Int) b 0).toNat = o := by simp [mm_up]
  refine ⟨h1.same h2.2 e, h2.same h2.2.1 e, by simpa [mm_up] using h3, by simpa [mm_up] using h4, h5, by rw [e0]; exact h7.same h2.2.1 e, ?_⟩
  rw [e0, ek.2]
  exact h8
theorem sC.new {M0 M : mm_M} {d0 d : List Nat} {b o k : Nat} {n q n' : Int} (h : sC M0 d0 M d b n q) (ho : 100 ≤ o) (hd : o ∉ d) : sC M0 d0 (mm_nob M o k n') (d ++ [o]) b n q := by
  obtain ⟨h1, h2, h3, h4, h5, h7, h8, h9, h10⟩ := h
  have hb : b ≠ o := fun z => mm_ids_new ho hd (z ▸ h2.1.2)
  have ha : (M b 0).toNat ≠ o := fun z => mm_ids_new ho hd (z ▸ h7.1.2)
  have eb : mm_nob M o k n' b = M b := mm_nob_o hb (by have := h2.2.1; omega)
  have ek := mm_nob_kd2 (M := M) (k := k) (n := n') ho ha
  refine ⟨h1.new ho hd, h2.new ho hd, by rw [eb]; exact h3, by rw [eb]; exact h4, h5, by rw [eb]; exact h7.new ho hd, ?_⟩
  rw [eb, ek.2]
  exact ⟨h8, h9, h10⟩
/-- an object and its row through a change elsewhere, a change of itself, a new object -/
theorem isU {M : mm_M} {d : List Nat} {o i a k : Nat} {x : Int} (h : mm_is M d a k) (ho : o ≠ 0) : mm_is (mm_up M o i x) d a k := ⟨by rw [(mm_kd_up (M := M) (M' := mm_up M o i x) (o' := a) ho mm_up_o).1]; exact h.1, h.2⟩
theorem lnU {M : mm_M} {o i a : Nat} {x : Int} (ho : o ≠ 0) : mm_ln (mm_up M o i x) a = mm_ln M a := (mm_kd_up (M := M) (M' := mm_up M o i x) (o' := a) ho mm_up_o).2
theorem isY {M : mm_M} {d : List Nat} {o a k : Nat} {h9 : Nat → Int} (h : mm_is M d a k) (ho : o ≠ 0) : mm_is (mm_any M o h9) d a k := ⟨by rw [(mm_kd_up (M := M) (M' := mm_any M o h9) (o' := a) ho mm_any_o).1]; exact h.1, h.2⟩
theorem lnY {M : mm_M} {o a : Nat} {h9 : Nat → Int} (ho : o ≠ 0) : mm_ln (mm_any M o h9) a = mm_ln M a := (mm_kd_up (M := M) (M' := mm_any M o h9) (o' := a) ho mm_any_o).2
theorem isN {M : mm_M} {d : List Nat} {o a k k' : Nat} {n : Int} (h : mm_is M d a k) (ho : 100 ≤ o) (hd : o ∉ d) : mm_is (mm_nob M o k' n) (d ++ [o]) a k ∧ mm_ln (mm_nob M o k' n) a = mm_ln M a := by
  have hne : a ≠ o := fun z => mm_ids_new ho hd (z ▸ h.2)
  have ek := mm_nob_kd2 (M := M) (k := k') (n := n) ho hne
  refine ⟨⟨by rw [ek.1]; exact h.1, ?_⟩, ek.2⟩
  rcases List.mem_append.mp h.2 with z | z
  · exact List.mem_append_left _ z
  · exact List.mem_append_right _ (List.mem_append_left _ z)
theorem isNo {M : mm_M} {d : List Nat} {o k : Nat} {n : Int} (ho : 100 ≤ o) (hn : 0 ≤ n) : mm_is (mm_nob M o k n) (d ++ [o]) o k ∧ mm_ln (mm_nob M o k n) o = n.toNat := by
  have ek := mm_nob_kd (M := M) (k := k) ho hn
  exact ⟨⟨ek.1, List.mem_append_right _ (by simp)⟩, ek.2⟩
theorem mm_is.c {M : mm_M} {d : List Nat} {o k : Nat} (h : mm_is M d o k) : mm_isC M d o k := ⟨h.1, Or.inl h.2⟩
theorem tp0 (x : Int) : x / 2 ^ (0 : Int).toNat = x := by simp
theorem tm0 (x : Int) : x * 2 ^ (0 : Int).toNat = x := by simp
theorem mm_up_any {M : mm_M} {a i : Nat} {x : Int} : mm_up M a i x = mm_any M a (fun k => if k = i then x else M a k) := by
  funext y k
  by_cases hy : y = a
  · subst hy
    by_cases hk : k = i <;> simp [mm_up, mm_any, hk]
  · simp [mm_up, mm_any, hy]
theorem mm_any_any {M : mm_M} {a : Nat} {h h' : Nat → Int} : mm_any (mm_any M a h) a h' = mm_any M a h' := by
  funext y k
  by_cases hy : y = a <;> simp [mm_any, hy]
theorem mj5 {A B C D E S : Prop} (a : A) (b : B) (c : C) (d : D) (e : E) (s : S) : A ∧ B ∧ C ∧ D ∧ E ∧ S := ⟨a, b, c, d, e, s⟩
def sp_J_max : mm_S := fun av M d Q => match av with
  | [.inl a, .inl b] => InI a ∧ InI b ∧ ∀ r, (b ≤ a → r = a) ∧ (a < b → r = b) → Q (.inl (some (mm_I r))) M d
  | _ => False
def sp_J_min : mm_S := fun av M d Q => match av with
  | [.inl a, .inl b] => InI a ∧ InI b ∧ ∀ r, (a ≤ b → r = a) ∧ (b < a → r = b) → Q (.inl (some (mm_I r))) M d
  | _ => False
theorem mm_semMax {l : Launch} {own : String} {idx FR LO : Nat} (hl : Jvm.Cond.methodLink own idx Lib.Math.max.name ∈ mm_T) (hs : Jvm.Cond.static Lib.Math.max.name ∈ mm_T) (hi : Jvm.Cond.initialized "java/lang/Math" ∈ mm_T) (hc : Jvm.Cond.code Lib.Math.max.name Lib.Math.max.code 2 (some .int) ∈ mm_T) (h1 : 1 ≤ FR) (h2 : 21 ≤ LO) : mm_sem l own FR LO idx (1, 2, 0, sp_J_max, 0) := by
  intro p e R s m args below meth c Qm cc nL D E Ad A MU X hG hR hRf hRl pc ls st M d u Kn QX hd hn hrv hcat hu hsp kn H locs L hL hP hD hS
  have ww : ∀ w ∈ mm_T, w.before args s = true := fun w h => X.2.2.2.2.1 _ (mm_T_U _ h)
  dsimp only at hsp hd hn hcat hu
  match st, hn, hsp, hcat with
  | v :: w :: r, _, hsp, hcat =>
    simp only [List.take_succ_cons, List.take_zero, List.reverse_cons, List.reverse_nil, List.nil_append, List.cons_append, List.drop_succ_cons, List.drop_zero] at hsp hcat
    unfold sp_J_max at hsp
    split at hsp
    · rename_i a b heq
      cases heq
      obtain ⟨ha, hb, hq⟩ := hsp
      refine va_mmax (x := Int32.ofInt a) (y := Int32.ofInt b) X.1 X.2.1 (X.2.2.1.trans hL.1.symm) X.2.2.2.1 (ww _ hl) (ww _ hs) (ww _ hi) (ww _ hc) (by omega) (by rw [mm_catsum]; omega) (by omega) (by omega) hd ?_
      by_cases h : a < b
      · rw [if_pos ((mm_lt ha hb).mpr h)]
        exact kn _ _ _ _ _ (hq b ⟨fun _ => by omega, fun _ => rfl⟩) H locs L hL hP hD hS
      · rw [if_neg (fun z => h ((mm_lt ha hb).mp z))]
        exact kn _ _ _ _ _ (hq a ⟨fun _ => rfl, fun _ => by omega⟩) H locs L hL hP hD hS
    · exact hsp.elim
theorem mm_semMin {l : Launch} {own : String} {idx FR LO : Nat} (hl : Jvm.Cond.methodLink own idx Lib.Math.min.name ∈ mm_T) (hs : Jvm.Cond.static Lib.Math.min.name ∈ mm_T) (hi : Jvm.Cond.initialized "java/lang/Math" ∈ mm_T) (hc : Jvm.Cond.code Lib.Math.min.name Lib.Math.min.code 2 (some .int) ∈ mm_T) (h1 : 1 ≤ FR) (h2 : 21 ≤ LO) : mm_sem l own FR LO idx (1, 2, 0, sp_J_min, 0) := by
  intro p e R s m args below meth c Qm cc nL D E Ad A MU X hG hR hRf hRl pc ls st M d u Kn QX hd hn hrv hcat hu hsp kn H locs L hL hP hD hS
  have ww : ∀ w ∈ mm_T, w.before args s = true := fun w h => X.2.2.2.2.1 _ (mm_T_U _ h)
  dsimp only at hsp hd hn hcat hu
  match st, hn, hsp, hcat with
  | v :: w :: r, _, hsp, hcat =>
    simp only [List.take_succ_cons, List.take_zero, List.reverse_cons, List.reverse_nil, List.nil_append, List.cons_append, List.drop_succ_cons, List.drop_zero] at hsp hcat
    unfold sp_J_min at hsp
    split at hsp
    · rename_i a b heq
      cases heq
      obtain ⟨ha, hb, hq⟩ := hsp
      refine va_mmin (x := Int32.ofInt a) (y := Int32.ofInt b) X.1 X.2.1 (X.2.2.1.trans hL.1.symm) X.2.2.2.1 (ww _ hl) (ww _ hs) (ww _ hi) (ww _ hc) (by omega) (by rw [mm_catsum]; omega) (by omega) (by omega) hd ?_
      by_cases h : b < a
      · rw [if_pos ((mm_lt hb ha).mpr h)]
        exact kn _ _ _ _ _ (hq b ⟨fun _ => by omega, fun _ => rfl⟩) H locs L hL hP hD hS
      · rw [if_neg (fun z => h ((mm_lt hb ha).mp z))]
        exact kn _ _ _ _ _ (hq a ⟨fun _ => rfl, fun _ => by omega⟩) H locs L hL hP hD hS
    · exact hsp.elim
def kdJ_newLength : List mm_E := [(0, .iload_n 0, 0), (1, .iload_n 1, 0), (2, .iload_n 2, 0), (3, .invokestatic 194, 0), (6, .iadd, 0), (7, .istore_n 3, 0), (8, .iconst 0, 0), (9, .iload_n 3, 0), (10, .if_icmp .ge 11, 21), (13, .iload_n 3, 0), (14, .ldc 200, 0), (16, .if_icmp .gt 5, 21), (19, .iload_n 3, 0), (20, .ireturn, 0), (21, .iload_n 0, 0), (22, .iload_n 1, 0), (23, .invokestatic 201, 0), (26, .ireturn, 0)]
theorem kkJ_newLength : mm_chk prog_23_method_27_code kdJ_newLength = true := by decide +kernel
def yJ_newLength : MethodName := ⟨"jdk/internal/util/ArraysSupport", "newLength", "(III)I"⟩
theorem jw_newLength : mm_JW yJ_newLength prog_23_method_27_code 4 (some .int) := ⟨(mm_t4 236 rfl rfl), (mm_t1 16 rfl rfl), ⟨by decide, by decide⟩⟩
def sp_J_newLength : mm_S := fun av M d Q => match av with
  | [.inl a, .inl b, .inl c] =>  (0 ≤ a ∧ a ≤ 1000) ∧ (0 ≤ b ∧ b ≤ 1000) ∧ (1 ≤ c ∧ c ≤ 1000) ∧ ∀ r, (c ≤ b → r = a + b) ∧ (b < c → r = a + c) → Q (.inl (some (mm_I r))) M d
  | _ => False
def ct_J_newLength : List (Nat × mm_Ca) := [(194, (1, 2, 0, sp_J_max, 0))]
def flJ_newLength : List (Nat × Nat × Nat) := [(200, 0, 96)]
theorem flJ_newLength_k : ∀ q ∈ flJ_newLength, mm_lj "jdk/internal/util/ArraysSupport" mm_U q.2.1 q.2.2 q.1 := by
  intro q hq
  simp only [flJ_newLength, List.mem_cons, List.not_mem_nil, or_false] at hq
  subst hq
  · exact Or.inr ⟨by decide, (List.forall_mem_cons.mpr ⟨mm_T_U _ (mm_t5 0 rfl rfl), (fun _ h => nomatch h)⟩), (fun h => absurd h (by decide)), (fun h => absurd h (by decide))⟩
abbrev rr_J_newLength (Q : mm_Q) := mm_run (mm_look flJ_newLength) (mm_look ct_J_newLength) mm_x0 (mm_look ([] : List (Nat × Int))) (fun _ => none) 1 0 (fun _ _ => none) Q kdJ_newLength
set_option maxRecDepth 20000 in
theorem rn_J_newLength : mm_RN flJ_newLength ct_J_newLength mm_x0 [] 1 0 4 kdJ_newLength sp_J_newLength := by
  intro av M d Q h
  unfold sp_J_newLength at h
  split at h
  · rename_i a b c
    obtain ⟨ha, hb, hc, hq⟩ := h
    obtain ⟨K, hK, hK2⟩ : ∃ K : Nat → mm_K, (∀ t ls st M d u, K t ls st M d u → rr_J_newLength Q t ls st M d u) ∧ (∀ t ls st M d u, rr_J_newLength Q t ls st M d u → K t ls st M d u) := ⟨rr_J_newLength Q, fun _ _ _ _ _ _ h => h, fun _ _ _ _ _ _ h => h⟩
    refine ⟨Nat.le_of_ble_eq_true rfl, mm_run_at (stop := []) (S := K) kkJ_newLength 90 ?_ (fun _ _ _ _ _ _ _ h => hK _ _ _ _ _ _ h)⟩
    repeat' (first | with_reducible assumption | with_reducible exact True.intro | ((with_reducible show mm_rv _ _ _ _ _); first | exact True.intro) | ((with_reducible show mm_bool _ _); first | exact True.intro | exact Or.inl rfl | exact Or.inr rfl | (show (_ : Int) = 0 ∨ _ = 1)) | rfl | with_reducible exact Or.inl rfl | with_reducible exact Or.inr rfl | exact Nat.le_of_ble_eq_true rfl | refine And.intro ?_ ?_ | intro _)
    all_goals (try simp (disch := omega) only [InI, Int.toNat_natCast, Int.tmod_eq_emod_of_nonneg, Int.tdiv_eq_ediv_of_nonneg, true_implies, true_or, or_true, mm_l18, mm_l19, mm_l20, mm_l21, mm_l22] at *)
    all_goals first | omega | (exact hq _ ⟨fun _ => by omega, fun _ => by omega⟩) | skip
  · exact h.elim
theorem je_newLength {l : Launch} : mm_Jet l yJ_newLength prog_23_method_27_code 4 (some .int) 6 100 0 sp_J_newLength := mm_mtJ (own := "jdk/internal/util/ArraysSupport") rn_J_newLength ⟨by decide +kernel, rfl⟩ kkJ_newLength rfl ⟨by decide, by decide⟩ flJ_newLength_k (⟨mm_semMax (mm_t4 237 rfl rfl) (mm_t4 238 rfl rfl) (mm_t1 17 rfl rfl) (mm_t4 239 rfl rfl) (Nat.le_of_ble_eq_true rfl) (Nat.le_of_ble_eq_true rfl), trivial⟩) (by decide)
def kdJ_canEncode : List mm_E := [(0, .iload_n 0, 0), (1, .sipush 255, 0), (4, .if_icmp .gt 7, 11), (7, .iconst 1, 0), (8, .goto 4, 12), (11, .iconst 0, 0), (12, .ireturn, 0)]
theorem kkJ_canEncode : mm_chk prog_18_method_3_code kdJ_canEncode = true := by decide +kernel
def yJ_canEncode : MethodName := ⟨"java/lang/StringLatin1", "canEncode", "(C)Z"⟩
theorem jw_canEncode : mm_JW yJ_canEncode prog_18_method_3_code 1 (some .boolean) := ⟨(mm_t5 28 rfl rfl), (mm_t1 20 rfl rfl), ⟨by decide, by decide⟩⟩
def sp_J_canEncode : mm_S := fun av M d Q => match av with
  | [.inl c] =>  (0 ≤ c ∧ c ≤ 255) ∧ Q (.inl (some (mm_I 1))) M d
  | _ => False
def ct_J_canEncode : List (Nat × mm_Ca) := []
def flJ_canEncode : List (Nat × Nat × Nat) := []
theorem flJ_canEncode_k : ∀ q ∈ flJ_canEncode, mm_lj "java/lang/StringLatin1" mm_U q.2.1 q.2.2 q.1 := fun _ h => nomatch h
abbrev rr_J_canEncode (Q : mm_Q) := mm_run (mm_look flJ_canEncode) (mm_look ct_J_canEncode) mm_x0 (mm_look ([] : List (Nat × Int))) (fun _ => none) 2 0 (fun _ _ => none) Q kdJ_canEncode
set_option maxRecDepth 20000 in
theorem rn_J_canEncode : mm_RN flJ_canEncode ct_J_canEncode mm_x0 [] 2 0 1 kdJ_canEncode sp_J_canEncode := by
  intro av M d Q h
  unfold sp_J_canEncode at h
  split at h
  · rename_i c
    obtain ⟨hc, hq⟩ := h
    obtain ⟨K, hK, hK2⟩ : ∃ K : Nat → mm_K, (∀ t ls st M d u, K t ls st M d u → rr_J_canEncode Q t ls st M d u) ∧ (∀ t ls st M d u, rr_J_canEncode Q t ls st M d u → K t ls st M d u) := ⟨rr_J_canEncode Q, fun _ _ _ _ _ _ h => h, fun _ _ _ _ _ _ h => h⟩
    refine ⟨Nat.le_of_ble_eq_true rfl, mm_run_at (stop := []) (S := K) kkJ_canEncode 90 ?_ (fun _ _ _ _ _ _ _ h => hK _ _ _ _ _ _ h)⟩
    repeat' (first | with_reducible assumption | with_reducible exact True.intro | ((with_reducible show mm_rv _ _ _ _ _); first | exact True.intro) | ((with_reducible show mm_bool _ _); first | exact True.intro | exact Or.inl rfl | exact Or.inr rfl | (show (_ : Int) = 0 ∨ _ = 1)) | rfl | with_reducible exact Or.inl rfl | with_reducible exact Or.inr rfl | exact Nat.le_of_ble_eq_true rfl | refine And.intro ?_ ?_ | intro _)
    all_goals (try simp (disch := omega) only [InI, Int.toNat_natCast, Int.tmod_eq_emod_of_nonneg, Int.tdiv_eq_ediv_of_nonneg, true_implies, true_or, or_true, mm_l18, mm_l19, mm_l20, mm_l21, mm_l22] at *)
    all_goals first | omega | skip
  · exact h.elim
theorem je_canEncode {l : Launch} : mm_Jet l yJ_canEncode prog_18_method_3_code 1 (some .boolean) 6 100 0 sp_J_canEncode := mm_mtJ (own := "java/lang/StringLatin1") rn_J_canEncode ⟨by decide +kernel, rfl⟩ kkJ_canEncode rfl ⟨by decide, by decide⟩ flJ_canEncode_k (trivial) (by decide)
def kdJ_stringSize : List mm_E := [(0, .iconst 1, 0), (1, .istore_n 1, 0), (2, .iload_n 0, 0), (3, .ifCond .lt 8, 11), (6, .iconst 0, 0), (7, .istore_n 1, 0), (8, .iload_n 0, 0), (9, .ineg, 0), (10, .istore_n 0, 0), (11, .bipush (-10), 0), (13, .istore_n 2, 0), (14, .iconst 1, 0), (15, .istore_n 3, 0), (16, .iload_n 3, 0), (17, .bipush 10, 0), (19, .if_icmp .ge 23, 42), (22, .iload_n 0, 0), (23, .iload_n 2, 0), (24, .if_icmp .le 7, 31), (27, .iload_n 3, 0), (28, .iload_n 1, 0), (29, .iadd, 0), (30, .ireturn, 0), (31, .bipush 10, 0), (33, .iload_n 2, 0), (34, .imul, 0), (35, .istore_n 2, 0), (36, .iinc 3 1, 0), (39, .goto (-23), 16), (42, .bipush 10, 0), (44, .iload_n 1, 0), (45, .iadd, 0), (46, .ireturn, 0)]
theorem kkJ_stringSize : mm_chk prog_13_method_13_code kdJ_stringSize = true := by decide +kernel
def yJ_stringSize : MethodName := ⟨"java/lang/Integer", "stringSize", "(I)I"⟩
theorem jw_stringSize : mm_JW yJ_stringSize prog_13_method_13_code 4 (some .int) := ⟨(mm_t5 88 rfl rfl), (mm_t1 22 rfl rfl), ⟨by decide, by decide⟩⟩
def sp_J_stringSize : mm_S := fun av M d Q => match av with
  | [.inl x] =>  (0 ≤ x ∧ x < 100) ∧ ∀ r, (x < 10 → r = 1) ∧ (10 ≤ x → r = 2) → Q (.inl (some (mm_I r))) M d
  | _ => False
def ct_J_stringSize : List (Nat × mm_Ca) := []
def flJ_stringSize : List (Nat × Nat × Nat) := []
theorem flJ_stringSize_k : ∀ q ∈ flJ_stringSize, mm_lj "java/lang/Integer" mm_U q.2.1 q.2.2 q.1 := fun _ h => nomatch h
abbrev rr_J_stringSize (Q : mm_Q) := mm_run (mm_look flJ_stringSize) (mm_look ct_J_stringSize) mm_x0 (mm_look ([] : List (Nat × Int))) (fun _ => none) 1 0 (fun _ _ => none) Q kdJ_stringSize
set_option maxRecDepth 20000 in
theorem rn_J_stringSize : mm_RN flJ_stringSize ct_J_stringSize mm_x0 [] 1 0 4 kdJ_stringSize sp_J_stringSize := by
  intro av M d Q h
  unfold sp_J_stringSize at h
  split at h
  · rename_i x
    obtain ⟨hx, hq⟩ := h
    obtain ⟨K, hK, hK2⟩ : ∃ K : Nat → mm_K, (∀ t ls st M d u, K t ls st M d u → rr_J_stringSize Q t ls st M d u) ∧ (∀ t ls st M d u, rr_J_stringSize Q t ls st M d u → K t ls st M d u) := ⟨rr_J_stringSize Q, fun _ _ _ _ _ _ h => h, fun _ _ _ _ _ _ h => h⟩
    have k16b : ∀ p i : Int, p = -100 → i = 2 → 10 ≤ x → K 16 [some (mm_I (-x)), some (mm_I 0), some (mm_I p), some (mm_I i)] [] M d 0 := by
      intro p i hp hi hx1
      refine hK2 _ _ _ _ _ _ ?_
      refine mm_run_at (stop := [16]) (S := K) kkJ_stringSize 90 ?_ (fun _ _ _ _ _ _ _ h => hK _ _ _ _ _ _ h)
      repeat' (first | with_reducible assumption | with_reducible exact True.intro | ((with_reducible show mm_rv _ _ _ _ _); first | exact True.intro) | ((with_reducible show mm_bool _ _); first | exact True.intro | exact Or.inl rfl | exact Or.inr rfl | (show (_ : Int) = 0 ∨ _ = 1)) | rfl | with_reducible exact Or.inl rfl | with_reducible exact Or.inr rfl | exact Nat.le_of_ble_eq_true rfl | refine And.intro ?_ ?_ | intro _)
      all_goals (try simp (disch := omega) only [InI, Int.toNat_natCast, Int.tmod_eq_emod_of_nonneg, Int.tdiv_eq_ediv_of_nonneg, true_implies, true_or, or_true, mm_l18, mm_l19, mm_l20, mm_l21, mm_l22] at *)
      all_goals first | omega | (exact hq _ ⟨fun _ => by omega, fun _ => by omega⟩) | skip
    have k16a : ∀ p i : Int, p = -10 → i = 1 → K 16 [some (mm_I (-x)), some (mm_I 0), some (mm_I p), some (mm_I i)] [] M d 0 := by
      intro p i hp hi
      refine hK2 _ _ _ _ _ _ ?_
      refine mm_run_at (stop := [16]) (S := K) kkJ_stringSize 90 ?_ (fun _ _ _ _ _ _ _ h => hK _ _ _ _ _ _ h)
      repeat' (first | with_reducible assumption | with_reducible exact True.intro | ((with_reducible show mm_rv _ _ _ _ _); first | exact True.intro) | ((with_reducible show mm_bool _ _); first | exact True.intro | exact Or.inl rfl | exact Or.inr rfl | (show (_ : Int) = 0 ∨ _ = 1)) | rfl | with_reducible exact Or.inl rfl | with_reducible exact Or.inr rfl | exact Nat.le_of_ble_eq_true rfl | refine And.intro ?_ ?_ | intro _)
      all_goals (try simp (disch := omega) only [InI, Int.toNat_natCast, Int.tmod_eq_emod_of_nonneg, Int.tdiv_eq_ediv_of_nonneg, true_implies, true_or, or_true, mm_l18, mm_l19, mm_l20, mm_l21, mm_l22] at *)
      all_goals first | omega | (exact hq _ ⟨fun _ => by omega, fun _ => by omega⟩) | exact k16b _ _ (by omega) (by omega) (by omega) | skip
    refine ⟨Nat.le_of_ble_eq_true rfl, ?_⟩
    refine mm_run_at (stop := [16]) (S := K) kkJ_stringSize 90 ?_ (fun _ _ _ _ _ _ _ h => hK _ _ _ _ _ _ h)
    repeat' (first | with_reducible assumption | with_reducible exact True.intro | ((with_reducible show mm_rv _ _ _ _ _); first | exact True.intro) | ((with_reducible show mm_bool _ _); first | exact True.intro | exact Or.inl rfl | exact Or.inr rfl | (show (_ : Int) = 0 ∨ _ = 1)) | rfl | with_reducible exact Or.inl rfl | with_reducible exact Or.inr rfl | exact Nat.le_of_ble_eq_true rfl | refine And.intro ?_ ?_ | intro _)
    all_goals (try simp (disch := omega) only [InI, Int.toNat_natCast, Int.tmod_eq_emod_of_nonneg, Int.tdiv_eq_ediv_of_nonneg, true_implies, true_or, or_true, mm_l18, mm_l19, mm_l20, mm_l21, mm_l22] at *)
    all_goals first | omega | exact k16a _ _ rfl rfl | skip
  · exact h.elim
theorem je_stringSize {l : Launch} : mm_Jet l yJ_stringSize prog_13_method_13_code 4 (some .int) 6 100 0 sp_J_stringSize := mm_mtJ (own := "java/lang/Integer") rn_J_stringSize ⟨by decide +kernel, rfl⟩ kkJ_stringSize rfl ⟨by decide, by decide⟩ flJ_stringSize_k (trivial) (by decide)
def kdJ_getChars : List mm_E := [(0, .iload_n 1, 0), (1, .istore 5, 0), (3, .iload_n 0, 0), (4, .ifCond .ge 7, 11), (7, .iconst 1, 0), (8, .goto 4, 12), (11, .iconst 0, 0), (12, .istore 6, 0), (14, .iload 6, 0), (16, .ifCond .ne 6, 22), (19, .iload_n 0, 0), (20, .ineg, 0), (21, .istore_n 0, 0), (22, .iload_n 0, 0), (23, .bipush (-100), 0), (25, .if_icmp .gt 47, 72), (28, .iload_n 0, 0), (29, .bipush 100, 0), (31, .idiv, 0), (32, .istore_n 3, 0), (33, .iload_n 3, 0), (34, .bipush 100, 0), (36, .imul, 0), (37, .iload_n 0, 0), (38, .isub, 0), (39, .istore 4, 0), (41, .iload_n 3, 0), (42, .istore_n 0, 0), (43, .aload_n 2, 0), (44, .iinc 5 (-1), 0), (47, .iload 5, 0), (49, .getstatic 83, 0), (52, .iload 4, 0), (54, .baload, 0), (55, .bastore, 0), (56, .aload_n 2, 0), (57, .iinc 5 (-1), 0), (60, .iload 5, 0), (62, .getstatic 87, 0), (65, .iload 4, 0), (67, .baload, 0), (68, .bastore, 0), (69, .goto (-47), 22), (72, .aload_n 2, 0), (73, .iinc 5 (-1), 0), (76, .iload 5, 0), (78, .getstatic 83, 0), (81, .iload_n 0, 0), (82, .ineg, 0), (83, .baload, 0), (84, .bastore, 0), (85, .iload_n 0, 0), (86, .bipush (-9), 0), (88, .if_icmp .ge 16, 104), (91, .aload_n 2, 0), (92, .iinc 5 (-1), 0), (95, .iload 5, 0), (97, .getstatic 87, 0), (100, .iload_n 0, 0), (101, .ineg, 0), (102, .baload, 0), (103, .bastore, 0), (104, .iload 6, 0), (106, .ifCond .eq 12, 118), (109, .aload_n 2, 0), (110, .iinc 5 (-1), 0), (113, .iload 5, 0), (115, .bipush 45, 0), (117, .bastore, 0), (118, .iload 5, 0), (120, .ireturn, 0)]
theorem kkJ_getChars : mm_chk prog_13_method_12_code kdJ_getChars = true := by decide +kernel
def yJ_getChars : MethodName := ⟨"java/lang/Integer", "getChars", "(II[B)I"⟩
theorem jw_getChars : mm_JW yJ_getChars prog_13_method_12_code 7 (some .int) := ⟨(mm_t5 91 rfl rfl), (mm_t1 22 rfl rfl), ⟨by decide, by decide⟩⟩
def sp_J_getChars : mm_S := fun av M d Q => match av with
  | [.inl x, .inl i, .inr (.inr (.inl a))] =>  (0 ≤ x ∧ x < 100) ∧ mm_is M d a 3 ∧ (x < 10 → 1 ≤ i) ∧ (10 ≤ x → 2 ≤ i) ∧ i ≤ (mm_ln M a : Int) ∧ mm_ln M a ≤ 220 ∧ ∀ h9 r, Q (.inl (some (mm_I r))) (mm_any M a h9) d
  | _ => False
def ct_J_getChars : List (Nat × mm_Ca) := []
def flJ_getChars : List (Nat × Nat × Nat) := [(83, 24, 98), (87, 25, 98)]
theorem flJ_getChars_k : ∀ q ∈ flJ_getChars, mm_lj "java/lang/Integer" mm_U q.2.1 q.2.2 q.1 := by
  intro q hq
  simp only [flJ_getChars, List.mem_cons, List.not_mem_nil, or_false] at hq
  rcases hq with rfl | rfl
  · exact Or.inr ⟨by decide, (List.forall_mem_cons.mpr ⟨mm_T_U _ (mm_t5 92 rfl rfl), (fun _ h => nomatch h)⟩), (fun h => absurd h (by decide)), (fun h => absurd h (by decide))⟩
  · exact Or.inr ⟨by decide, (List.forall_mem_cons.mpr ⟨mm_T_U _ (mm_t5 94 rfl rfl), (fun _ h => nomatch h)⟩), (fun h => absurd h (by decide)), (fun h => absurd h (by decide))⟩
abbrev rr_J_getChars (Q : mm_Q) := mm_run (mm_look flJ_getChars) (mm_look ct_J_getChars) mm_x0 (mm_look ([] : List (Nat × Int))) (fun _ => none) 1 0 (fun _ _ => none) Q kdJ_getChars
set_option maxRecDepth 20000 in
theorem rn_J_getChars : mm_RN flJ_getChars ct_J_getChars mm_x0 [] 1 0 7 kdJ_getChars sp_J_getChars := by
  intro av M d Q h
  unfold sp_J_getChars at h
  split at h
  · rename_i x i a
    obtain ⟨hx, ha, h1, h2, h3, h4, hq⟩ := h
    have hne := mm_is0 ha
    obtain ⟨K, hK, hK2⟩ : ∃ K : Nat → mm_K, (∀ t ls st M d u, K t ls st M d u → rr_J_getChars Q t ls st M d u) ∧ (∀ t ls st M d u, rr_J_getChars Q t ls st M d u → K t ls st M d u) := ⟨rr_J_getChars Q, fun _ _ _ _ _ _ h => h, fun _ _ _ _ _ _ h => h⟩
    have k22 : K 22 [some (mm_I (-x)), some (mm_I i), some (mm_R a), none, none, some (mm_I i), some (mm_I 0)] [] M d 0 := by
      refine hK2 _ _ _ _ _ _ ?_
      refine mm_run_at (stop := [22, 28]) (S := K) kkJ_getChars 90 ?_ (fun _ _ _ _ _ _ _ h => hK _ _ _ _ _ _ h)
      repeat' (first | with_reducible assumption | with_reducible exact True.intro | ((with_reducible show mm_rv _ _ _ _ _); first | exact True.intro | exact isU ha hne) | exact isU ha hne | ((with_reducible show mm_bool _ _); first | exact True.intro | exact Or.inl rfl | exact Or.inr rfl | (show (_ : Int) = 0 ∨ _ = 1)) | rfl | with_reducible exact Or.inl rfl | with_reducible exact Or.inr rfl | exact Nat.le_of_ble_eq_true rfl | refine And.intro ?_ ?_ | intro _)
      all_goals (try simp (disch := omega) only [lnU hne, InI, Int.toNat_natCast, Int.tmod_eq_emod_of_nonneg, Int.tdiv_eq_ediv_of_nonneg, true_implies, true_or, or_true, mm_l18, mm_l19, mm_l20, mm_l21, mm_l22] at *)
      all_goals first | omega | (simp only [mm_up_any, mm_any_any]; exact hq _ _) | skip
    refine ⟨Nat.le_of_ble_eq_true rfl, ?_⟩
    refine mm_run_at (stop := [22]) (S := K) kkJ_getChars 90 ?_ (fun _ _ _ _ _ _ _ h => hK _ _ _ _ _ _ h)
    repeat' (first | with_reducible assumption | with_reducible exact True.intro | ((with_reducible show mm_rv _ _ _ _ _); first | exact True.intro) | ((with_reducible show mm_bool _ _); first | exact True.intro | exact Or.inl rfl | exact Or.inr rfl | (show (_ : Int) = 0 ∨ _ = 1)) | rfl | with_reducible exact Or.inl rfl | with_reducible exact Or.inr rfl | exact Nat.le_of_ble_eq_true rfl | refine And.intro ?_ ?_ | intro _)
    all_goals (try simp (disch := omega) only [InI, Int.toNat_natCast, Int.tmod_eq_emod_of_nonneg, Int.tdiv_eq_ediv_of_nonneg, true_implies, true_or, or_true, mm_l18, mm_l19, mm_l20, mm_l21, mm_l22] at *)
    all_goals first | omega | exact k22 | skip
  · exact h.elim
theorem je_getChars {l : Launch} : mm_Jet l yJ_getChars prog_13_method_12_code 7 (some .int) 6 100 0 sp_J_getChars := mm_mtJ (own := "java/lang/Integer") rn_J_getChars ⟨by decide +kernel, rfl⟩ kkJ_getChars rfl ⟨by decide, by decide⟩ flJ_getChars_k (trivial) (by decide)
def kdJ_checkLength : List mm_E := [(0, .iload_n 1, 0), (1, .iload_n 0, 0), (2, .if_icmp .ge 35, 37), (5, .new 43, 0), (8, .dup, 0), (9, .new 45, 0), (12, .dup, 0), (13, .invokespecial 47, 0), (16, .iload_n 0, 0), (17, .invokevirtual 54, 0), (20, .ldc_w 337, 0), (23, .invokevirtual 50, 0), (26, .iload_n 1, 0), (27, .invokevirtual 54, 0), (30, .invokevirtual 61, 0), (33, .invokespecial 65, 0), (36, .athrow, 0), (37, .return_, 0)]
theorem kkJ_checkLength : mm_chk prog_22_method_131_code kdJ_checkLength = true := by decide +kernel
def yJ_checkLength : MethodName := ⟨"java/util/Arrays", "checkLength", "(II)V"⟩
theorem jw_checkLength : mm_JW yJ_checkLength prog_22_method_131_code 2 none := ⟨(mm_t5 148 rfl rfl), (mm_t1 18 rfl rfl), ⟨by decide, by decide⟩⟩
def sp_J_checkLength : mm_S := fun av M d Q => match av with
  | [.inl a, .inl b] =>  (a = 0 ∧ 0 ≤ b ∧ b ≤ 1000) ∧ Q (.inl none) M d
  | _ => False
def ct_J_checkLength : List (Nat × mm_Ca) := []
def flJ_checkLength : List (Nat × Nat × Nat) := []
theorem flJ_checkLength_k : ∀ q ∈ flJ_checkLength, mm_lj "java/util/Arrays" mm_U q.2.1 q.2.2 q.1 := fun _ h => nomatch h
abbrev rr_J_checkLength (Q : mm_Q) := mm_run (mm_look flJ_checkLength) (mm_look ct_J_checkLength) mm_x0 (mm_look ([] : List (Nat × Int))) (fun _ => none) 0 0 (fun _ _ => none) Q kdJ_checkLength
set_option maxRecDepth 20000 in
theorem rn_J_checkLength : mm_RN flJ_checkLength ct_J_checkLength mm_x0 [] 0 0 2 kdJ_checkLength sp_J_checkLength := by
  intro av M d Q h
  unfold sp_J_checkLength at h
  split at h
  · rename_i a b
    obtain ⟨⟨rfl, hb⟩, hq⟩ := h
    obtain ⟨K, hK, hK2⟩ : ∃ K : Nat → mm_K, (∀ t ls st M d u, K t ls st M d u → rr_J_checkLength Q t ls st M d u) ∧ (∀ t ls st M d u, rr_J_checkLength Q t ls st M d u → K t ls st M d u) := ⟨rr_J_checkLength Q, fun _ _ _ _ _ _ h => h, fun _ _ _ _ _ _ h => h⟩
    refine ⟨Nat.le_of_ble_eq_true rfl, mm_run_at (stop := []) (S := K) kkJ_checkLength 90 ?_ (fun _ _ _ _ _ _ _ h => hK _ _ _ _ _ _ h)⟩
    repeat' (first | with_reducible assumption | with_reducible exact True.intro | ((with_reducible show mm_rv _ _ _ _ _); first | exact True.intro) | ((with_reducible show mm_bool _ _); first | exact True.intro | exact Or.inl rfl | exact Or.inr rfl | (show (_ : Int) = 0 ∨ _ = 1)) | rfl | with_reducible exact Or.inl rfl | with_reducible exact Or.inr rfl | exact Nat.le_of_ble_eq_true rfl | refine And.intro ?_ ?_ | intro _)
    all_goals (try simp (disch := omega) only [InI, Int.toNat_natCast, Int.tmod_eq_emod_of_nonneg, Int.tdiv_eq_ediv_of_nonneg, true_implies, true_or, or_true, mm_l18, mm_l19, mm_l20, mm_l21, mm_l22] at *)
    all_goals first | omega | skip
  · exact h.elim
theorem je_checkLength {l : Launch} : mm_Jet l yJ_checkLength prog_22_method_131_code 2 none 6 100 0 sp_J_checkLength := mm_mtJ (own := "java/util/Arrays") rn_J_checkLength ⟨by decide +kernel, rfl⟩ kkJ_checkLength rfl ⟨by decide, by decide⟩ flJ_checkLength_k (trivial) (by decide)
def kdJ_copyOf : List mm_E := [(0, .iload_n 1, 0), (1, .aload_n 0, 0), (2, .arraylength, 0), (3, .if_icmp .ne 11, 14), (6, .aload_n 0, 0), (7, .invokevirtual 310, 0), (10, .checkcast 311, 0), (13, .areturn, 0), (14, .iload_n 1, 0), (15, .newarray .byte, 0), (17, .astore_n 2, 0), (18, .aload_n 0, 0), (19, .iconst 0, 0), (20, .aload_n 2, 0), (21, .iconst 0, 0), (22, .aload_n 0, 0), (23, .arraylength, 0), (24, .iload_n 1, 0), (25, .invokestatic 304, 0), (28, .invokestatic 150, 0), (31, .aload_n 2, 0), (32, .areturn, 0)]
theorem kkJ_copyOf : mm_chk prog_22_method_121_code kdJ_copyOf = true := by decide +kernel
def yJ_copyOf : MethodName := ⟨"java/util/Arrays", "copyOf", "([BI)[B"⟩
theorem jw_copyOf : mm_JW yJ_copyOf prog_22_method_121_code 3 (some (.array .byte)) := ⟨(mm_t5 7 rfl rfl), (mm_t1 18 rfl rfl), ⟨by decide, by decide⟩⟩
def sp_J_copyOf : mm_S := fun av M d Q => match av with
  | [.inr (.inr (.inl a)), .inl n] =>  mm_is M d a 3 ∧ (mm_ln M a : Int) < n ∧ n ≤ 220 ∧ ∀ o h9, 100 ≤ o → o ∉ d → Q (.inl (some (mm_R o))) (mm_any (mm_nob M o 3 n) o h9) (d ++ [o])
  | _ => False
def ct_J_copyOf : List (Nat × mm_Ca) := [(304, (1, 2, 0, sp_J_min, 0))]
def flJ_copyOf : List (Nat × Nat × Nat) := [(310, 0, 94), (311, 0, 93), (150, 0, 95)]
theorem flJ_copyOf_k : ∀ q ∈ flJ_copyOf, mm_lj "java/util/Arrays" mm_U q.2.1 q.2.2 q.1 := by
  intro q hq
  simp only [flJ_copyOf, List.mem_cons, List.not_mem_nil, or_false] at hq
  rcases hq with rfl | rfl | rfl
  · exact Or.inr ⟨by decide, (List.forall_mem_cons.mpr ⟨mm_T_U _ (mm_t5 8 rfl rfl), (List.forall_mem_cons.mpr ⟨mm_T_U _ (mm_t5 9 rfl rfl), (List.forall_mem_cons.mpr ⟨mm_T_U _ (mm_t5 10 rfl rfl), (List.forall_mem_cons.mpr ⟨mm_T_U _ (mm_t5 11 rfl rfl), (List.forall_mem_cons.mpr ⟨mm_T_U _ (mm_t5 12 rfl rfl), (fun _ h => nomatch h)⟩)⟩)⟩)⟩)⟩), (fun h => absurd h (by decide)), (fun h => absurd h (by decide))⟩
  · exact Or.inr ⟨by decide, (List.forall_mem_cons.mpr ⟨mm_T_U _ (mm_t5 14 rfl rfl), (fun _ h => nomatch h)⟩), (fun h => absurd h (by decide)), (fun h => absurd h (by decide))⟩
  · exact Or.inr ⟨by decide, (List.forall_mem_cons.mpr ⟨mm_T_U _ (mm_t5 18 rfl rfl), (List.forall_mem_cons.mpr ⟨mm_T_U _ (mm_t5 20 rfl rfl), (List.forall_mem_cons.mpr ⟨mm_T_U _ (mm_t5 19 rfl rfl), (List.forall_mem_cons.mpr ⟨mm_T_U _ (mm_t1 19 rfl rfl), (fun _ h => nomatch h)⟩)⟩)⟩)⟩), (fun h => absurd h (by decide)), (fun h => absurd h (by decide))⟩
abbrev rr_J_copyOf (Q : mm_Q) := mm_run (mm_look flJ_copyOf) (mm_look ct_J_copyOf) mm_x0 (mm_look ([] : List (Nat × Int))) (fun _ => none) 24 19 (fun _ _ => none) Q kdJ_copyOf
set_option maxRecDepth 20000 in
theorem rn_J_copyOf : mm_RN flJ_copyOf ct_J_copyOf mm_x0 [] 24 19 3 kdJ_copyOf sp_J_copyOf := by
  intro av M d Q h
  unfold sp_J_copyOf at h
  split at h
  · rename_i a n
    obtain ⟨ha, h1, h2, hq⟩ := h
    obtain ⟨K, hK, hK2⟩ : ∃ K : Nat → mm_K, (∀ t ls st M d u, K t ls st M d u → rr_J_copyOf Q t ls st M d u) ∧ (∀ t ls st M d u, rr_J_copyOf Q t ls st M d u → K t ls st M d u) := ⟨rr_J_copyOf Q, fun _ _ _ _ _ _ h => h, fun _ _ _ _ _ _ h => h⟩
    have k17 : ∀ o, 100 ≤ o → o ∉ d → K 17 [some (mm_R a), some (mm_I n), none] [mm_R o] (mm_nob M o 3 n) (d ++ [o]) (1 + n.toNat / 12) := by
      intro o ho hd
      have hq := hq o
      obtain ⟨b1, b2⟩ := isN (k' := 3) (n := n) ha ho hd
      obtain ⟨b3, b4⟩ := isNo (M := M) (d := d) (k := 3) (n := n) ho (by omega)
      obtain ⟨M1, e1⟩ : ∃ M1, mm_nob M o 3 n = M1 := ⟨_, rfl⟩
      rw [e1] at b1 b2 b3 b4 hq ⊢
      refine hK2 _ _ _ _ _ _ ?_
      refine mm_run_at (stop := []) (S := K) kkJ_copyOf 90 ?_ (fun _ _ _ _ _ _ _ h => hK _ _ _ _ _ _ h)
      repeat' (first | with_reducible assumption | with_reducible exact True.intro | ((with_reducible show mm_rv _ _ _ _ _); first | exact True.intro | exact b1.c) | exact b1.c | ((with_reducible show mm_bool _ _); first | exact True.intro | exact Or.inl rfl | exact Or.inr rfl | (show (_ : Int) = 0 ∨ _ = 1)) | rfl | with_reducible exact Or.inl rfl | with_reducible exact Or.inr rfl | exact Nat.le_of_ble_eq_true rfl | refine And.intro ?_ ?_ | intro _)
      all_goals (try simp (disch := omega) only [b2, b4, InI, Int.toNat_natCast, Int.tmod_eq_emod_of_nonneg, Int.tdiv_eq_ediv_of_nonneg, true_implies, true_or, or_true, mm_l18, mm_l19, mm_l20, mm_l21, mm_l22] at *)
      all_goals first | omega | exact hq _ ho hd | skip
    refine ⟨Nat.le_of_ble_eq_true rfl, ?_⟩
    refine mm_run_at (stop := [17]) (S := K) kkJ_copyOf 90 ?_ (fun _ _ _ _ _ _ _ h => hK _ _ _ _ _ _ h)
    repeat' (first | with_reducible assumption | with_reducible exact True.intro | ((with_reducible show mm_rv _ _ _ _ _); first | exact True.intro | exact ha.c) | exact ha.c | ((with_reducible show mm_bool _ _); first | exact True.intro | exact Or.inl rfl | exact Or.inr rfl | (show (_ : Int) = 0 ∨ _ = 1)) | rfl | with_reducible exact Or.inl rfl | with_reducible exact Or.inr rfl | exact Nat.le_of_ble_eq_true rfl | refine And.intro ?_ ?_ | intro _)
    all_goals (try simp (disch := omega) only [InI, Int.toNat_natCast, Int.tmod_eq_emod_of_nonneg, Int.tdiv_eq_ediv_of_nonneg, true_implies, true_or, or_true, mm_l18, mm_l19, mm_l20, mm_l21, mm_l22] at *)
    all_goals first | omega | exact k17 _ (by assumption) (by assumption) | skip
  · exact h.elim
theorem je_copyOf {l : Launch} : mm_Jet l yJ_copyOf prog_22_method_121_code 3 (some (.array .byte)) 6 100 19 sp_J_copyOf := mm_mtJ (own := "java/util/Arrays") rn_J_copyOf ⟨by decide +kernel, rfl⟩ kkJ_copyOf rfl ⟨by decide, by decide⟩ flJ_copyOf_k (⟨mm_semMin (mm_t5 15 rfl rfl) (mm_t5 16 rfl rfl) (mm_t1 17 rfl rfl) (mm_t5 17 rfl rfl) (Nat.le_of_ble_eq_true rfl) (Nat.le_of_ble_eq_true rfl), trivial⟩) (by decide)
def kdJ_copyOfRangeByte : List mm_E := [(0, .iload_n 1, 0), (1, .iload_n 2, 0), (2, .invokestatic 343, 0), (5, .iload_n 2, 0), (6, .iload_n 1, 0), (7, .isub, 0), (8, .istore_n 3, 0), (9, .iload_n 3, 0), (10, .newarray .byte, 0), (12, .astore 4, 0), (14, .aload_n 0, 0), (15, .iload_n 1, 0), (16, .aload 4, 0), (18, .iconst 0, 0), (19, .aload_n 0, 0), (20, .arraylength, 0), (21, .iload_n 1, 0), (22, .isub, 0), (23, .iload_n 3, 0), (24, .invokestatic 304, 0), (27, .invokestatic 150, 0), (30, .aload 4, 0), (32, .areturn, 0)]
theorem kkJ_copyOfRangeByte : mm_chk prog_22_method_133_code kdJ_copyOfRangeByte = true := by decide +kernel
def yJ_copyOfRangeByte : MethodName := ⟨"java/util/Arrays", "copyOfRangeByte", "([BII)[B"⟩
theorem jw_copyOfRangeByte : mm_JW yJ_copyOfRangeByte prog_22_method_133_code 5 (some (.array .byte)) := ⟨(mm_t5 145 rfl rfl), (mm_t1 18 rfl rfl), ⟨by decide, by decide⟩⟩
def sp_J_copyOfRangeByte : mm_S := fun av M d Q => match av with
  | [.inr (.inr (.inl a)), .inl z, .inl n] =>  z = 0 ∧ mm_is M d a 3 ∧ (0 ≤ n ∧ n ≤ (mm_ln M a : Int)) ∧ mm_ln M a ≤ 220 ∧ ∀ o h9, 100 ≤ o → o ∉ d → Q (.inl (some (mm_R o))) (mm_any (mm_nob M o 3 n) o h9) (d ++ [o])
  | _ => False
def ct_J_copyOfRangeByte : List (Nat × mm_Ca) := [(343, (1, 2, 0, sp_J_checkLength, 0)), (304, (1, 2, 0, sp_J_min, 0))]
def flJ_copyOfRangeByte : List (Nat × Nat × Nat) := [(150, 0, 95)]
theorem flJ_copyOfRangeByte_k : ∀ q ∈ flJ_copyOfRangeByte, mm_lj "java/util/Arrays" mm_U q.2.1 q.2.2 q.1 := by
  intro q hq
  simp only [flJ_copyOfRangeByte, List.mem_cons, List.not_mem_nil, or_false] at hq
  subst hq
  · exact Or.inr ⟨by decide, (List.forall_mem_cons.mpr ⟨mm_T_U _ (mm_t5 18 rfl rfl), (List.forall_mem_cons.mpr ⟨mm_T_U _ (mm_t5 20 rfl rfl), (List.forall_mem_cons.mpr ⟨mm_T_U _ (mm_t5 19 rfl rfl), (List.forall_mem_cons.mpr ⟨mm_T_U _ (mm_t1 19 rfl rfl), (fun _ h => nomatch h)⟩)⟩)⟩)⟩), (fun h => absurd h (by decide)), (fun h => absurd h (by decide))⟩
abbrev rr_J_copyOfRangeByte (Q : mm_Q) := mm_run (mm_look flJ_copyOfRangeByte) (mm_look ct_J_copyOfRangeByte) mm_x0 (mm_look ([] : List (Nat × Int))) (fun _ => none) 24 19 (fun _ _ => none) Q kdJ_copyOfRangeByte
set_option maxRecDepth 20000 in
theorem rn_J_copyOfRangeByte : mm_RN flJ_copyOfRangeByte ct_J_copyOfRangeByte mm_x0 [] 24 19 5 kdJ_copyOfRangeByte sp_J_copyOfRangeByte := by
  intro av M d Q h
  unfold sp_J_copyOfRangeByte at h
  split at h
  · rename_i a z n
    obtain ⟨rfl, ha, h1, h2, hq⟩ := h
    obtain ⟨K, hK, hK2⟩ : ∃ K : Nat → mm_K, (∀ t ls st M d u, K t ls st M d u → rr_J_copyOfRangeByte Q t ls st M d u) ∧ (∀ t ls st M d u, rr_J_copyOfRangeByte Q t ls st M d u → K t ls st M d u) := ⟨rr_J_copyOfRangeByte Q, fun _ _ _ _ _ _ h => h, fun _ _ _ _ _ _ h => h⟩
    have k12 : ∀ o (m : Int), m = n → 100 ≤ o → o ∉ d → K 12 [some (mm_R a), some (mm_I 0), some (mm_I n), some (mm_I m), none] [mm_R o] (mm_nob M o 3 m) (d ++ [o]) (1 + m.toNat / 12) := by
      intro o m hm ho hd
      subst hm
      have hq := hq o
      obtain ⟨b1, b2⟩ := isN (k' := 3) (n := m) ha ho hd
      obtain ⟨b3, b4⟩ := isNo (M := M) (d := d) (k := 3) (n := m) ho (by omega)
      obtain ⟨M1, e1⟩ : ∃ M1, mm_nob M o 3 m = M1 := ⟨_, rfl⟩
      rw [e1] at b1 b2 b3 b4 hq ⊢
      refine hK2 _ _ _ _ _ _ ?_
      refine mm_run_at (stop := []) (S := K) kkJ_copyOfRangeByte 90 ?_ (fun _ _ _ _ _ _ _ h => hK _ _ _ _ _ _ h)
      repeat' (first | with_reducible assumption | with_reducible exact True.intro | ((with_reducible show mm_rv _ _ _ _ _); first | exact True.intro | exact b1.c) | exact b1.c | ((with_reducible show mm_bool _ _); first | exact True.intro | exact Or.inl rfl | exact Or.inr rfl | (show (_ : Int) = 0 ∨ _ = 1)) | rfl | with_reducible exact Or.inl rfl | with_reducible exact Or.inr rfl | exact Nat.le_of_ble_eq_true rfl | refine And.intro ?_ ?_ | intro _)
      all_goals (try simp (disch := omega) only [b2, b4, InI, Int.toNat_natCast, Int.tmod_eq_emod_of_nonneg, Int.tdiv_eq_ediv_of_nonneg, true_implies, true_or, or_true, mm_l18, mm_l19, mm_l20, mm_l21, mm_l22] at *)
      all_goals first | omega | exact hq _ ho hd | skip
    refine ⟨Nat.le_of_ble_eq_true rfl, ?_⟩
    refine mm_run_at (stop := [12]) (S := K) kkJ_copyOfRangeByte 90 ?_ (fun _ _ _ _ _ _ _ h => hK _ _ _ _ _ _ h)
    repeat' (first | with_reducible assumption | with_reducible exact True.intro | ((with_reducible show mm_rv _ _ _ _ _); first | exact True.intro | exact ha.c) | exact ha.c | ((with_reducible show mm_bool _ _); first | exact True.intro | exact Or.inl rfl | exact Or.inr rfl | (show (_ : Int) = 0 ∨ _ = 1)) | rfl | with_reducible exact Or.inl rfl | with_reducible exact Or.inr rfl | exact Nat.le_of_ble_eq_true rfl | refine And.intro ?_ ?_ | intro _)
    all_goals (try simp (disch := omega) only [InI, Int.toNat_natCast, Int.tmod_eq_emod_of_nonneg, Int.tdiv_eq_ediv_of_nonneg, true_implies, true_or, or_true, mm_l18, mm_l19, mm_l20, mm_l21, mm_l22] at *)
    all_goals first | omega | exact k12 _ _ (by omega) (by assumption) (by assumption) | skip
  · exact h.elim
theorem je_copyOfRangeByte {l : Launch} : mm_Jet l yJ_copyOfRangeByte prog_22_method_133_code 5 (some (.array .byte)) 7 121 19 sp_J_copyOfRangeByte := mm_mtJ (own := "java/util/Arrays") rn_J_copyOfRangeByte ⟨by decide +kernel, rfl⟩ kkJ_copyOfRangeByte rfl ⟨by decide, by decide⟩ flJ_copyOfRangeByte_k (⟨mm_semS (je_checkLength (l := l)) jw_checkLength (mm_t5 146 rfl rfl) (mm_t5 147 rfl rfl) (by decide +kernel) (Nat.le_of_ble_eq_true rfl) (Nat.le_of_ble_eq_true rfl), mm_semMin (mm_t5 15 rfl rfl) (mm_t5 16 rfl rfl) (mm_t1 17 rfl rfl) (mm_t5 17 rfl rfl) (Nat.le_of_ble_eq_true rfl) (Nat.le_of_ble_eq_true rfl), trivial⟩) (by decide)
def kdJ_copyOfRange : List mm_E := [(0, .iload_n 1, 0), (1, .ifCond .ne 9, 10), (4, .iload_n 2, 0), (5, .aload_n 0, 0), (6, .arraylength, 0), (7, .if_icmp .eq 10, 17), (10, .aload_n 0, 0), (11, .iload_n 1, 0), (12, .iload_n 2, 0), (13, .invokestatic 339, 0), (16, .areturn, 0), (17, .aload_n 0, 0), (18, .invokevirtual 310, 0), (21, .checkcast 311, 0), (24, .areturn, 0)]
theorem kkJ_copyOfRange : mm_chk prog_22_method_132_code kdJ_copyOfRange = true := by decide +kernel
def yJ_copyOfRange : MethodName := ⟨"java/util/Arrays", "copyOfRange", "([BII)[B"⟩
theorem jw_copyOfRange : mm_JW yJ_copyOfRange prog_22_method_132_code 3 (some (.array .byte)) := ⟨(mm_t5 142 rfl rfl), (mm_t1 18 rfl rfl), ⟨by decide, by decide⟩⟩
def sp_J_copyOfRange : mm_S := fun av M d Q => match av with
  | [.inr (.inr (.inl a)), .inl z, .inl n] =>  z = 0 ∧ mm_is M d a 3 ∧ (0 ≤ n ∧ n ≤ (mm_ln M a : Int)) ∧ mm_ln M a ≤ 220 ∧ ∀ o h9, 100 ≤ o → o ∉ d → Q (.inl (some (mm_R o))) (mm_any (mm_nob M o 3 n) o h9) (d ++ [o])
  | _ => False
def ct_J_copyOfRange : List (Nat × mm_Ca) := [(339, (1, 3, 0, sp_J_copyOfRangeByte, 19))]
def flJ_copyOfRange : List (Nat × Nat × Nat) := [(310, 0, 94), (311, 0, 93)]
theorem flJ_copyOfRange_k : ∀ q ∈ flJ_copyOfRange, mm_lj "java/util/Arrays" mm_U q.2.1 q.2.2 q.1 := by
  intro q hq
  simp only [flJ_copyOfRange, List.mem_cons, List.not_mem_nil, or_false] at hq
  rcases hq with rfl | rfl
  · exact Or.inr ⟨by decide, (List.forall_mem_cons.mpr ⟨mm_T_U _ (mm_t5 8 rfl rfl), (List.forall_mem_cons.mpr ⟨mm_T_U _ (mm_t5 9 rfl rfl), (List.forall_mem_cons.mpr ⟨mm_T_U _ (mm_t5 10 rfl rfl), (List.forall_mem_cons.mpr ⟨mm_T_U _ (mm_t5 11 rfl rfl), (List.forall_mem_cons.mpr ⟨mm_T_U _ (mm_t5 12 rfl rfl), (fun _ h => nomatch h)⟩)⟩)⟩)⟩)⟩), (fun h => absurd h (by decide)), (fun h => absurd h (by decide))⟩
  · exact Or.inr ⟨by decide, (List.forall_mem_cons.mpr ⟨mm_T_U _ (mm_t5 14 rfl rfl), (fun _ h => nomatch h)⟩), (fun h => absurd h (by decide)), (fun h => absurd h (by decide))⟩
abbrev rr_J_copyOfRange (Q : mm_Q) := mm_run (mm_look flJ_copyOfRange) (mm_look ct_J_copyOfRange) mm_x0 (mm_look ([] : List (Nat × Int))) (fun _ => none) 24 19 (fun _ _ => none) Q kdJ_copyOfRange
set_option maxRecDepth 20000 in
theorem rn_J_copyOfRange : mm_RN flJ_copyOfRange ct_J_copyOfRange mm_x0 [] 24 19 3 kdJ_copyOfRange sp_J_copyOfRange := by
  intro av M d Q h
  unfold sp_J_copyOfRange at h
  split at h
  · rename_i a z n
    obtain ⟨rfl, ha, h1, h2, hq⟩ := h
    obtain ⟨K, hK, hK2⟩ : ∃ K : Nat → mm_K, (∀ t ls st M d u, K t ls st M d u → rr_J_copyOfRange Q t ls st M d u) ∧ (∀ t ls st M d u, rr_J_copyOfRange Q t ls st M d u → K t ls st M d u) := ⟨rr_J_copyOfRange Q, fun _ _ _ _ _ _ h => h, fun _ _ _ _ _ _ h => h⟩
    have k21 : ∀ o (h9 : Nat → Int), n = (mm_ln M a : Int) → 100 ≤ o → o ∉ d → K 21 [some (mm_R a), some (mm_I 0), some (mm_I n)] [mm_R o] (mm_any (mm_nob M o 3 (mm_ln M a : Int)) o h9) (d ++ [o]) (1 + mm_ln M a / 12) := by
      intro o h9 hn ho hd
      obtain ⟨b3, b4⟩ := isNo (M := M) (d := d) (k := 3) (n := n) ho (by omega)
      rw [← hn]
      refine hK2 _ _ _ _ _ _ ?_
      refine mm_run_at (stop := []) (S := K) kkJ_copyOfRange 90 ?_ (fun _ _ _ _ _ _ _ h => hK _ _ _ _ _ _ h)
      repeat' (first | with_reducible assumption | with_reducible exact True.intro | ((with_reducible show mm_rv _ _ _ _ _); first | exact True.intro | exact isY b3 (by omega)) | exact isY b3 (by omega) | ((with_reducible show mm_bool _ _); first | exact True.intro | exact Or.inl rfl | exact Or.inr rfl | (show (_ : Int) = 0 ∨ _ = 1)) | rfl | with_reducible exact Or.inl rfl | with_reducible exact Or.inr rfl | exact Nat.le_of_ble_eq_true rfl | refine And.intro ?_ ?_ | intro _)
      all_goals (try simp (disch := omega) only [InI, Int.toNat_natCast, Int.tmod_eq_emod_of_nonneg, Int.tdiv_eq_ediv_of_nonneg, true_implies, true_or, or_true, mm_l18, mm_l19, mm_l20, mm_l21, mm_l22] at *)
      all_goals first | omega | exact hq _ _ ho hd | skip
    refine ⟨Nat.le_of_ble_eq_true rfl, ?_⟩
    refine mm_run_at (stop := [21]) (S := K) kkJ_copyOfRange 90 ?_ (fun _ _ _ _ _ _ _ h => hK _ _ _ _ _ _ h)
    repeat' (first | with_reducible assumption | with_reducible exact True.intro | ((with_reducible show mm_rv _ _ _ _ _); first | exact True.intro | exact ha.c) | exact ha.c | ((with_reducible show mm_bool _ _); first | exact True.intro | exact Or.inl rfl | exact Or.inr rfl | (show (_ : Int) = 0 ∨ _ = 1)) | rfl | with_reducible exact Or.inl rfl | with_reducible exact Or.inr rfl | exact Nat.le_of_ble_eq_true rfl | refine And.intro ?_ ?_ | intro _)
    all_goals (try simp (disch := omega) only [InI, Int.toNat_natCast, Int.tmod_eq_emod_of_nonneg, Int.tdiv_eq_ediv_of_nonneg, true_implies, true_or, or_true, mm_l18, mm_l19, mm_l20, mm_l21, mm_l22] at *)
    all_goals first | omega | exact k21 _ _ (by omega) (by assumption) (by assumption) | exact hq _ _ (by assumption) (by assumption) | skip
  · exact h.elim
theorem je_copyOfRange {l : Launch} : mm_Jet l yJ_copyOfRange prog_22_method_132_code 3 (some (.array .byte)) 8 145 19 sp_J_copyOfRange := mm_mtJ (own := "java/util/Arrays") rn_J_copyOfRange ⟨by decide +kernel, rfl⟩ kkJ_copyOfRange rfl ⟨by decide, by decide⟩ flJ_copyOfRange_k (⟨mm_semS (je_copyOfRangeByte (l := l)) jw_copyOfRangeByte (mm_t5 143 rfl rfl) (mm_t5 144 rfl rfl) (by decide +kernel) (Nat.le_of_ble_eq_true rfl) (Nat.le_of_ble_eq_true rfl), trivial⟩) (by decide)
def kdJ_isLatin1 : List mm_E := [(0, .getstatic 18, 0), (3, .ifCond .eq 14, 17), (6, .aload_n 0, 0), (7, .getfield 22, 0), (10, .ifCond .ne 7, 17), (13, .iconst 1, 0), (14, .goto 4, 18), (17, .iconst 0, 0), (18, .ireturn, 0)]
theorem kkJ_isLatin1 : mm_chk prog_8_method_68_code kdJ_isLatin1 = true := by decide +kernel
def yJ_isLatin1 : MethodName := ⟨"java/lang/AbstractStringBuilder", "isLatin1", "()Z"⟩
theorem jw_isLatin1 : mm_JW yJ_isLatin1 prog_8_method_68_code 1 (some .boolean) := ⟨(mm_t5 25 rfl rfl), (mm_t1 12 rfl rfl), ⟨by decide, by decide⟩⟩
def sp_J_isLatin1 : mm_S := fun av M d Q => match av with
  | [.inr (.inr (.inl b))] =>  mm_is M d b 16 ∧ M b 1 = 0 ∧ Q (.inl (some (mm_I 1))) M d
  | _ => False
def ct_J_isLatin1 : List (Nat × mm_Ca) := []
def flJ_isLatin1 : List (Nat × Nat × Nat) := [(22, 16, 1), (18, 0, 98)]
theorem flJ_isLatin1_k : ∀ q ∈ flJ_isLatin1, mm_lj "java/lang/AbstractStringBuilder" mm_U q.2.1 q.2.2 q.1 := by
  intro q hq
  simp only [flJ_isLatin1, List.mem_cons, List.not_mem_nil, or_false] at hq
  rcases hq with rfl | rfl
  · exact Or.inl ⟨by decide, Or.inl (mm_T_U _ (mm_t4 207 rfl rfl))⟩
  · exact Or.inr ⟨by decide, (List.forall_mem_cons.mpr ⟨mm_T_U _ (mm_t4 197 rfl rfl), (fun _ h => nomatch h)⟩), (fun h => absurd h (by decide)), (fun h => absurd h (by decide))⟩
abbrev rr_J_isLatin1 (Q : mm_Q) := mm_run (mm_look flJ_isLatin1) (mm_look ct_J_isLatin1) mm_x0 (mm_look ([] : List (Nat × Int))) (fun _ => none) 2 0 (fun _ _ => none) Q kdJ_isLatin1
set_option maxRecDepth 20000 in
theorem rn_J_isLatin1 : mm_RN flJ_isLatin1 ct_J_isLatin1 mm_x0 [] 2 0 1 kdJ_isLatin1 sp_J_isLatin1 := by
  intro av M d Q h
  unfold sp_J_isLatin1 at h
  split at h
  · rename_i b
    obtain ⟨hb, h1, hq⟩ := h
    obtain ⟨K, hK, hK2⟩ : ∃ K : Nat → mm_K, (∀ t ls st M d u, K t ls st M d u → rr_J_isLatin1 Q t ls st M d u) ∧ (∀ t ls st M d u, rr_J_isLatin1 Q t ls st M d u → K t ls st M d u) := ⟨rr_J_isLatin1 Q, fun _ _ _ _ _ _ h => h, fun _ _ _ _ _ _ h => h⟩
    refine ⟨Nat.le_of_ble_eq_true rfl, mm_run_at (stop := []) (S := K) kkJ_isLatin1 90 ?_ (fun _ _ _ _ _ _ _ h => hK _ _ _ _ _ _ h)⟩
    repeat' (first | with_reducible assumption | with_reducible exact True.intro | ((with_reducible show mm_rv _ _ _ _ _); first | exact True.intro) | ((with_reducible show mm_bool _ _); first | exact True.intro | exact Or.inl rfl | exact Or.inr rfl | (show (_ : Int) = 0 ∨ _ = 1)) | rfl | with_reducible exact Or.inl rfl | with_reducible exact Or.inr rfl | exact Nat.le_of_ble_eq_true rfl | refine And.intro ?_ ?_ | intro _)
    all_goals (try simp (disch := omega) only [h1, InI, Int.toNat_natCast, Int.tmod_eq_emod_of_nonneg, Int.tdiv_eq_ediv_of_nonneg, true_implies, true_or, or_true, mm_l18, mm_l19, mm_l20, mm_l21, mm_l22] at *)
    all_goals first | omega | skip
  · exact h.elim
theorem je_isLatin1 {l : Launch} : mm_Jet l yJ_isLatin1 prog_8_method_68_code 1 (some .boolean) 6 100 0 sp_J_isLatin1 := mm_mtJ (own := "java/lang/AbstractStringBuilder") rn_J_isLatin1 ⟨by decide +kernel, rfl⟩ kkJ_isLatin1 rfl ⟨by decide, by decide⟩ flJ_isLatin1_k (trivial) (by decide)
def kdJ_getValue : List mm_E := [(0, .aload_n 0, 0), (1, .getfield 15, 0), (4, .areturn, 0)]
theorem kkJ_getValue : mm_chk prog_8_method_64_code kdJ_getValue = true := by decide +kernel
def yJ_getValue : MethodName := ⟨"java/lang/AbstractStringBuilder", "getValue", "()[B"⟩
theorem jw_getValue : mm_JW yJ_getValue prog_8_method_64_code 1 (some (.array .byte)) := ⟨(mm_t5 130 rfl rfl), (mm_t1 12 rfl rfl), ⟨by decide, by decide⟩⟩
def sp_J_getValue : mm_S := fun av M d Q => match av with
  | [.inr (.inr (.inl b))] =>  mm_is M d b 16 ∧ Q (.inl (some (mm_R (M b 0).toNat))) M d
  | _ => False
def ct_J_getValue : List (Nat × mm_Ca) := []
def flJ_getValue : List (Nat × Nat × Nat) := [(15, 16, 0)]
theorem flJ_getValue_k : ∀ q ∈ flJ_getValue, mm_lj "java/lang/AbstractStringBuilder" mm_U q.2.1 q.2.2 q.1 := by
  intro q hq
  simp only [flJ_getValue, List.mem_cons, List.not_mem_nil, or_false] at hq
  subst hq
  · exact Or.inl ⟨by decide, Or.inl (mm_T_U _ (mm_t4 206 rfl rfl))⟩
abbrev rr_J_getValue (Q : mm_Q) := mm_run (mm_look flJ_getValue) (mm_look ct_J_getValue) mm_x0 (mm_look ([] : List (Nat × Int))) (fun _ => none) 24 0 (fun _ _ => none) Q kdJ_getValue
set_option maxRecDepth 20000 in
theorem rn_J_getValue : mm_RN flJ_getValue ct_J_getValue mm_x0 [] 24 0 1 kdJ_getValue sp_J_getValue := by
  intro av M d Q h
  unfold sp_J_getValue at h
  split at h
  · rename_i b
    obtain ⟨hb, hq⟩ := h
    obtain ⟨K, hK, hK2⟩ : ∃ K : Nat → mm_K, (∀ t ls st M d u, K t ls st M d u → rr_J_getValue Q t ls st M d u) ∧ (∀ t ls st M d u, rr_J_getValue Q t ls st M d u → K t ls st M d u) := ⟨rr_J_getValue Q, fun _ _ _ _ _ _ h => h, fun _ _ _ _ _ _ h => h⟩
    refine ⟨Nat.le_of_ble_eq_true rfl, mm_run_at (stop := []) (S := K) kkJ_getValue 90 ?_ (fun _ _ _ _ _ _ _ h => hK _ _ _ _ _ _ h)⟩
    repeat' (first | with_reducible assumption | with_reducible exact True.intro | ((with_reducible show mm_rv _ _ _ _ _); first | exact True.intro) | ((with_reducible show mm_bool _ _); first | exact True.intro | exact Or.inl rfl | exact Or.inr rfl | (show (_ : Int) = 0 ∨ _ = 1)) | rfl | with_reducible exact Or.inl rfl | with_reducible exact Or.inr rfl | exact Nat.le_of_ble_eq_true rfl | refine And.intro ?_ ?_ | intro _)
    all_goals (try simp (disch := omega) only [InI, Int.toNat_natCast, Int.tmod_eq_emod_of_nonneg, Int.tdiv_eq_ediv_of_nonneg, true_implies, true_or, or_true, mm_l18, mm_l19, mm_l20, mm_l21, mm_l22] at *)
    all_goals first | omega | skip
  · exact h.elim
theorem je_getValue {l : Launch} : mm_Jet l yJ_getValue prog_8_method_64_code 1 (some (.array .byte)) 6 100 0 sp_J_getValue := mm_mtJ (own := "java/lang/AbstractStringBuilder") rn_J_getValue ⟨by decide +kernel, rfl⟩ kkJ_getValue rfl ⟨by decide, by decide⟩ flJ_getValue_k (trivial) (by decide)
def kdJ_alength : List mm_E := [(0, .aload_n 0, 0), (1, .getfield 79, 0), (4, .ireturn, 0)]
theorem kkJ_alength : mm_chk prog_8_method_6_code kdJ_alength = true := by decide +kernel
def yJ_alength : MethodName := ⟨"java/lang/AbstractStringBuilder", "length", "()I"⟩
theorem jw_alength : mm_JW yJ_alength prog_8_method_6_code 1 (some .int) := ⟨(mm_t5 138 rfl rfl), (mm_t1 12 rfl rfl), ⟨by decide, by decide⟩⟩
def sp_J_alength : mm_S := fun av M d Q => match av with
  | [.inr (.inr (.inl b))] =>  mm_is M d b 16 ∧ Q (.inl (some (mm_I (M b 3)))) M d
  | _ => False
def ct_J_alength : List (Nat × mm_Ca) := []
def flJ_alength : List (Nat × Nat × Nat) := [(79, 16, 3)]
theorem flJ_alength_k : ∀ q ∈ flJ_alength, mm_lj "java/lang/AbstractStringBuilder" mm_U q.2.1 q.2.2 q.1 := by
  intro q hq
  simp only [flJ_alength, List.mem_cons, List.not_mem_nil, or_false] at hq
  subst hq
  · exact Or.inl ⟨by decide, Or.inl (mm_T_U _ (mm_t4 209 rfl rfl))⟩
abbrev rr_J_alength (Q : mm_Q) := mm_run (mm_look flJ_alength) (mm_look ct_J_alength) mm_x0 (mm_look ([] : List (Nat × Int))) (fun _ => none) 1 0 (fun _ _ => none) Q kdJ_alength
set_option maxRecDepth 20000 in
theorem rn_J_alength : mm_RN flJ_alength ct_J_alength mm_x0 [] 1 0 1 kdJ_alength sp_J_alength := by
  intro av M d Q h
  unfold sp_J_alength at h
  split at h
  · rename_i b
    obtain ⟨hb, hq⟩ := h
    obtain ⟨K, hK, hK2⟩ : ∃ K : Nat → mm_K, (∀ t ls st M d u, K t ls st M d u → rr_J_alength Q t ls st M d u) ∧ (∀ t ls st M d u, rr_J_alength Q t ls st M d u → K t ls st M d u) := ⟨rr_J_alength Q, fun _ _ _ _ _ _ h => h, fun _ _ _ _ _ _ h => h⟩
    refine ⟨Nat.le_of_ble_eq_true rfl, mm_run_at (stop := []) (S := K) kkJ_alength 90 ?_ (fun _ _ _ _ _ _ _ h => hK _ _ _ _ _ _ h)⟩
    repeat' (first | with_reducible assumption | with_reducible exact True.intro | ((with_reducible show mm_rv _ _ _ _ _); first | exact True.intro) | ((with_reducible show mm_bool _ _); first | exact True.intro | exact Or.inl rfl | exact Or.inr rfl | (show (_ : Int) = 0 ∨ _ = 1)) | rfl | with_reducible exact Or.inl rfl | with_reducible exact Or.inr rfl | exact Nat.le_of_ble_eq_true rfl | refine And.intro ?_ ?_ | intro _)
    all_goals (try simp (disch := omega) only [InI, Int.toNat_natCast, Int.tmod_eq_emod_of_nonneg, Int.tdiv_eq_ediv_of_nonneg, true_implies, true_or, or_true, mm_l18, mm_l19, mm_l20, mm_l21, mm_l22] at *)
    all_goals first | omega | skip
  · exact h.elim
theorem je_alength {l : Launch} : mm_Jet l yJ_alength prog_8_method_6_code 1 (some .int) 6 100 0 sp_J_alength := mm_mtJ (own := "java/lang/AbstractStringBuilder") rn_J_alength ⟨by decide +kernel, rfl⟩ kkJ_alength rfl ⟨by decide, by decide⟩ flJ_alength_k (trivial) (by decide)
def kdJ_blength : List mm_E := [(0, .aload_n 0, 0), (1, .invokespecial 343, 0), (4, .ireturn, 0)]
theorem kkJ_blength : mm_chk prog_17_method_93_code kdJ_blength = true := by decide +kernel
def yJ_blength : MethodName := ⟨"java/lang/StringBuilder", "length", "()I"⟩
theorem jw_blength : mm_JW yJ_blength prog_17_method_93_code 1 (some .int) := ⟨(mm_t5 136 rfl rfl), (mm_t1 13 rfl rfl), ⟨by decide, by decide⟩⟩
def sp_J_blength : mm_S := fun av M d Q => match av with
  | [.inr (.inr (.inl b))] =>  mm_is M d b 16 ∧ Q (.inl (some (mm_I (M b 3)))) M d
  | _ => False
def ct_J_blength : List (Nat × mm_Ca) := [(343, (2, 1, 16, sp_J_alength, 0))]
def flJ_blength : List (Nat × Nat × Nat) := []
theorem flJ_blength_k : ∀ q ∈ flJ_blength, mm_lj "java/lang/StringBuilder" mm_U q.2.1 q.2.2 q.1 := fun _ h => nomatch h
abbrev rr_J_blength (Q : mm_Q) := mm_run (mm_look flJ_blength) (mm_look ct_J_blength) mm_x0 (mm_look ([] : List (Nat × Int))) (fun _ => none) 1 0 (fun _ _ => none) Q kdJ_blength
set_option maxRecDepth 20000 in
theorem rn_J_blength : mm_RN flJ_blength ct_J_blength mm_x0 [] 1 0 1 kdJ_blength sp_J_blength := by
  intro av M d Q h
  unfold sp_J_blength at h
  split at h
  · rename_i b
    obtain ⟨hb, hq⟩ := h
    obtain ⟨K, hK, hK2⟩ : ∃ K : Nat → mm_K, (∀ t ls st M d u, K t ls st M d u → rr_J_blength Q t ls st M d u) ∧ (∀ t ls st M d u, rr_J_blength Q t ls st M d u → K t ls st M d u) := ⟨rr_J_blength Q, fun _ _ _ _ _ _ h => h, fun _ _ _ _ _ _ h => h⟩
    refine ⟨Nat.le_of_ble_eq_true rfl, mm_run_at (stop := []) (S := K) kkJ_blength 90 ?_ (fun _ _ _ _ _ _ _ h => hK _ _ _ _ _ _ h)⟩
    repeat' (first | with_reducible assumption | with_reducible exact True.intro | ((with_reducible show mm_rv _ _ _ _ _); first | exact True.intro | exact hb) | exact hb | ((with_reducible show mm_bool _ _); first | exact True.intro | exact Or.inl rfl | exact Or.inr rfl | (show (_ : Int) = 0 ∨ _ = 1)) | rfl | with_reducible exact Or.inl rfl | with_reducible exact Or.inr rfl | exact Nat.le_of_ble_eq_true rfl | refine And.intro ?_ ?_ | intro _)
    all_goals (try simp (disch := omega) only [InI, Int.toNat_natCast, Int.tmod_eq_emod_of_nonneg, Int.tdiv_eq_ediv_of_nonneg, true_implies, true_or, or_true, mm_l18, mm_l19, mm_l20, mm_l21, mm_l22] at *)
    all_goals first | omega | skip
  · exact h.elim
theorem je_blength {l : Launch} : mm_Jet l yJ_blength prog_17_method_93_code 1 (some .int) 7 120 0 sp_J_blength := mm_mtJ (own := "java/lang/StringBuilder") rn_J_blength ⟨by decide +kernel, rfl⟩ kkJ_blength rfl ⟨by decide, by decide⟩ flJ_blength_k (⟨mm_semV (C := RXB) (T := TXB) (N := 4) (x := ⟨"java/lang/AbstractStringBuilder", "length", "()I"⟩) (je_alength (l := l)) jw_alength (mm_t5 137 rfl rfl) (mm_t5 132 rfl rfl) (Or.inr ⟨by decide, rfl⟩) (by decide +kernel) (Nat.le_of_ble_eq_true rfl) (Nat.le_of_ble_eq_true rfl) (Or.inr (Or.inr (Or.inr ⟨rfl, rfl, by decide, (mm_t5 133 rfl rfl), (mm_t4 218 rfl rfl), 4, (mm_t4 189 rfl rfl)⟩))), trivial⟩) (by decide)
def kdJ_newCapacity : List mm_E := [(0, .aload_n 0, 0), (1, .getfield 15, 0), (4, .arraylength, 0), (5, .istore_n 2, 0), (6, .iload_n 1, 0), (7, .aload_n 0, 0), (8, .getfield 22, 0), (11, .ishl, 0), (12, .istore_n 3, 0), (13, .iload_n 3, 0), (14, .iload_n 2, 0), (15, .isub, 0), (16, .istore 4, 0), (18, .iload_n 2, 0), (19, .iload 4, 0), (21, .iload_n 2, 0), (22, .iconst 2, 0), (23, .aload_n 0, 0), (24, .getfield 22, 0), (27, .ishl, 0), (28, .iadd, 0), (29, .invokestatic 114, 0), (32, .istore 5, 0), (34, .iload 5, 0), (36, .ldc 39, 0), (38, .if_icmp .ne 13, 51), (41, .new 120, 0), (44, .dup, 0), (45, .ldc 122, 0), (47, .invokespecial 124, 0), (50, .athrow, 0), (51, .iload 5, 0), (53, .aload_n 0, 0), (54, .getfield 22, 0), (57, .ishr, 0), (58, .ireturn, 0)]
theorem kkJ_newCapacity : mm_chk prog_8_method_10_code kdJ_newCapacity = true := by decide +kernel
def yJ_newCapacity : MethodName := ⟨"java/lang/AbstractStringBuilder", "newCapacity", "(I)I"⟩
theorem jw_newCapacity : mm_JW yJ_newCapacity prog_8_method_10_code 6 (some .int) := ⟨(mm_t4 233 rfl rfl), (mm_t1 12 rfl rfl), ⟨by decide, by decide⟩⟩
def sp_J_newCapacity : mm_S := fun av M d Q => match av with
  | [.inr (.inr (.inl b)), .inl q] =>  mm_is M d b 16 ∧ M b 1 = 0 ∧ mm_is M d (M b 0).toNat 3 ∧ mm_ln M (M b 0).toNat ≤ 220 ∧ ((mm_ln M (M b 0).toNat : Int) < q ∧ q ≤ 103) ∧ ∀ r, q ≤ r ∧ r ≤ 206 → Q (.inl (some (mm_I r))) M d
  | _ => False
def ct_J_newCapacity : List (Nat × mm_Ca) := [(114, (1, 3, 0, sp_J_newLength, 0))]
def flJ_newCapacity : List (Nat × Nat × Nat) := [(15, 16, 0), (22, 16, 1), (39, 1, 96), (3, 0, 90)]
theorem flJ_newCapacity_k : ∀ q ∈ flJ_newCapacity, mm_lj "java/lang/AbstractStringBuilder" mm_U q.2.1 q.2.2 q.1 := by
  intro q hq
  simp only [flJ_newCapacity, List.mem_cons, List.not_mem_nil, or_false] at hq
  rcases hq with rfl | rfl | rfl | rfl
  · exact Or.inl ⟨by decide, Or.inl (mm_T_U _ (mm_t4 206 rfl rfl))⟩
  · exact Or.inl ⟨by decide, Or.inl (mm_T_U _ (mm_t4 207 rfl rfl))⟩
  · exact Or.inr ⟨by decide, (List.forall_mem_cons.mpr ⟨mm_T_U _ (mm_t5 4 rfl rfl), (fun _ h => nomatch h)⟩), (fun h => absurd h (by decide)), (fun h => absurd h (by decide))⟩
  · exact Or.inr ⟨by decide, (List.forall_mem_cons.mpr ⟨mm_T_U _ (mm_t4 196 rfl rfl), (List.forall_mem_cons.mpr ⟨mm_T_U _ (mm_t1 29 rfl rfl), (List.forall_mem_cons.mpr ⟨mm_T_U _ (mm_t1 30 rfl rfl), (fun _ h => nomatch h)⟩)⟩)⟩), (fun h => absurd h (by decide)), (fun h => absurd h (by decide))⟩
abbrev rr_J_newCapacity (Q : mm_Q) := mm_run (mm_look flJ_newCapacity) (mm_look ct_J_newCapacity) mm_x0 (mm_look ([] : List (Nat × Int))) (fun _ => none) 21 0 (fun _ _ => none) Q kdJ_newCapacity
set_option maxRecDepth 20000 in
theorem rn_J_newCapacity : mm_RN flJ_newCapacity ct_J_newCapacity mm_x0 [] 21 0 6 kdJ_newCapacity sp_J_newCapacity := by
  intro av M d Q h
  unfold sp_J_newCapacity at h
  split at h
  · rename_i b q
    obtain ⟨hb, h1, ha, h2, h3, hq⟩ := h
    obtain ⟨K, hK, hK2⟩ : ∃ K : Nat → mm_K, (∀ t ls st M d u, K t ls st M d u → rr_J_newCapacity Q t ls st M d u) ∧ (∀ t ls st M d u, rr_J_newCapacity Q t ls st M d u → K t ls st M d u) := ⟨rr_J_newCapacity Q, fun _ _ _ _ _ _ h => h, fun _ _ _ _ _ _ h => h⟩
    refine ⟨Nat.le_of_ble_eq_true rfl, mm_run_at (stop := []) (S := K) kkJ_newCapacity 90 ?_ (fun _ _ _ _ _ _ _ h => hK _ _ _ _ _ _ h)⟩
    repeat' (first | with_reducible assumption | with_reducible exact True.intro | ((with_reducible show mm_rv _ _ _ _ _); first | exact True.intro | exact ha.c) | exact ha.c | ((with_reducible show mm_bool _ _); first | exact True.intro | exact Or.inl rfl | exact Or.inr rfl | (show (_ : Int) = 0 ∨ _ = 1)) | rfl | with_reducible exact Or.inl rfl | with_reducible exact Or.inr rfl | exact Nat.le_of_ble_eq_true rfl | refine And.intro ?_ ?_ | intro _)
    all_goals (try simp (disch := omega) only [h1, tp0, tm0, InI, Int.toNat_natCast, Int.tmod_eq_emod_of_nonneg, Int.tdiv_eq_ediv_of_nonneg, true_implies, true_or, or_true, mm_l18, mm_l19, mm_l20, mm_l21, mm_l22] at *)
    all_goals first | omega | exact hq _ ⟨by omega, by omega⟩ | skip
  · exact h.elim
theorem je_newCapacity {l : Launch} : mm_Jet l yJ_newCapacity prog_8_method_10_code 6 (some .int) 7 123 0 sp_J_newCapacity := mm_mtJ (own := "java/lang/AbstractStringBuilder") rn_J_newCapacity ⟨by decide +kernel, rfl⟩ kkJ_newCapacity rfl ⟨by decide, by decide⟩ flJ_newCapacity_k (⟨mm_semS (je_newLength (l := l)) jw_newLength (mm_t4 234 rfl rfl) (mm_t4 235 rfl rfl) (by decide +kernel) (Nat.le_of_ble_eq_true rfl) (Nat.le_of_ble_eq_true rfl), trivial⟩) (by decide)
def kdJ_ensure : List mm_E := [(0, .aload_n 0, 0), (1, .getfield 15, 0), (4, .arraylength, 0), (5, .aload_n 0, 0), (6, .getfield 22, 0), (9, .ishr, 0), (10, .istore_n 2, 0), (11, .iload_n 1, 0), (12, .iload_n 2, 0), (13, .isub, 0), (14, .ifCond .le 24, 38), (17, .aload_n 0, 0), (18, .aload_n 0, 0), (19, .getfield 15, 0), (22, .aload_n 0, 0), (23, .iload_n 1, 0), (24, .invokevirtual 104, 0), (27, .aload_n 0, 0), (28, .getfield 22, 0), (31, .ishl, 0), (32, .invokestatic 108, 0), (35, .putfield 15, 0), (38, .return_, 0)]
theorem kkJ_ensure : mm_chk prog_8_method_9_code kdJ_ensure = true := by decide +kernel
def yJ_ensure : MethodName := ⟨"java/lang/AbstractStringBuilder", "ensureCapacityInternal", "(I)V"⟩
theorem jw_ensure : mm_JW yJ_ensure prog_8_method_9_code 3 none := ⟨(mm_t4 229 rfl rfl), (mm_t1 12 rfl rfl), ⟨by decide, by decide⟩⟩
def sp_J_ensure : mm_S := fun av M d Q => match av with
  | [.inr (.inr (.inl b)), .inl q] =>  ∃ M0 d0 n, sC M0 d0 M d b n 0 ∧ (0 ≤ q ∧ q ≤ 103) ∧ ∀ M' d', sC M0 d0 M' d' b n q → Q (.inl none) M' d'
  | _ => False
def ct_J_ensure : List (Nat × mm_Ca) := [(104, (0, 2, 16, sp_J_newCapacity, 0)), (108, (1, 2, 0, sp_J_copyOf, 19))]
def flJ_ensure : List (Nat × Nat × Nat) := [(15, 16, 0), (22, 16, 1)]
theorem flJ_ensure_k : ∀ q ∈ flJ_ensure, mm_lj "java/lang/AbstractStringBuilder" mm_U q.2.1 q.2.2 q.1 := by
  intro q hq
  simp only [flJ_ensure, List.mem_cons, List.not_mem_nil, or_false] at hq
  rcases hq with rfl | rfl
  · exact Or.inl ⟨by decide, Or.inl (mm_T_U _ (mm_t4 206 rfl rfl))⟩
  · exact Or.inl ⟨by decide, Or.inl (mm_T_U _ (mm_t4 207 rfl rfl))⟩
abbrev rr_J_ensure (Q : mm_Q) := mm_run (mm_look flJ_ensure) (mm_look ct_J_ensure) mm_x0 (mm_look ([] : List (Nat × Int))) (fun _ => none) 20 19 (fun _ _ => none) Q kdJ_ensure
set_option maxRecDepth 20000 in
theorem rn_J_ensure : mm_RN flJ_ensure ct_J_ensure mm_x0 [] 20 19 3 kdJ_ensure sp_J_ensure := by
  intro av M d Q h
  unfold sp_J_ensure at h
  split at h
  · rename_i b q
    obtain ⟨M0, d0, n, hs, hq1, hq⟩ := h
    obtain ⟨h1, h2, h3, h4, h5, h7, h8, h9, h10⟩ := id hs
    have hb := h2.1
    have ha := h7.1
    obtain ⟨K, hK, hK2⟩ : ∃ K : Nat → mm_K, (∀ t ls st M d u, K t ls st M d u → rr_J_ensure Q t ls st M d u) ∧ (∀ t ls st M d u, rr_J_ensure Q t ls st M d u → K t ls st M d u) := ⟨rr_J_ensure Q, fun _ _ _ _ _ _ h => h, fun _ _ _ _ _ _ h => h⟩
    have k35 : ∀ o (h9 : Nat → Int) (r v : Int), q ≤ r → r ≤ 206 → (mm_ln M (M b 0).toNat : Int) < q → 100 ≤ o → o ∉ d → K 35 [some (mm_R b), some (mm_I q), some (mm_I v)] [mm_R o, mm_R b] (mm_any (mm_nob M o 3 r) o h9) (d ++ [o]) 19 := by
      intro o h9 r v hr1 hr2 hlt ho hd
      obtain ⟨b1, b2⟩ := isN (k' := 3) (n := r) hb ho hd
      have hbo : b ≠ o := fun z => mm_ids_new ho hd (z ▸ hb.2)
      have hb0 : b ≠ 0 := mm_is0 (rc := 15) hb
      have e9 : ∀ x, x ≠ o → mm_any (mm_nob M o 3 r) o h9 x = mm_nob M o 3 r x := mm_any_o
      have eb : mm_any (mm_nob M o 3 r) o h9 b = M b := by rw [e9 b hbo, mm_nob_o hbo hb0]
      have g1 := (h1.new (k := 3) (n := r) ho hd).same ⟨ho, fun z => hd (h1.1.elim (fun d1 e => by rw [e]; exact List.mem_append_left _ z))⟩ e9
      have g2 := (h2.new (k' := 3) (n := r) ho hd).same ho e9
      have g3 := (bO.mk' (k := 3) (n := r) h1 ho hd (by omega)).same ho e9
      have g4 : mm_ln (mm_any (mm_nob M o 3 r) o h9) o = r.toNat := by rw [lnY (by omega), (isNo (M := M) (d := d) (k := 3) (n := r) ho (by omega)).2]
      have fin := hq _ _ (sC.set (q := q) g1 g2 (by rw [eb]; exact h3) (by rw [eb]; exact h4) h5 g3 ⟨by rw [g4]; omega, by rw [g4]; omega, by rw [g4]; omega⟩)
      have g5 := g2.1
      obtain ⟨M1, e1⟩ : ∃ M1, mm_any (mm_nob M o 3 r) o h9 = M1 := ⟨_, rfl⟩
      rw [e1] at g5 fin ⊢
      refine hK2 _ _ _ _ _ _ ?_
      refine mm_run_at (stop := []) (S := K) kkJ_ensure 90 ?_ (fun _ _ _ _ _ _ _ h => hK _ _ _ _ _ _ h)
      repeat' (first | with_reducible assumption | with_reducible exact True.intro | ((with_reducible show mm_rv _ _ _ _ _); first | exact True.intro) | ((with_reducible show mm_bool _ _); first | exact True.intro | exact Or.inl rfl | exact Or.inr rfl | (show (_ : Int) = 0 ∨ _ = 1)) | rfl | with_reducible exact Or.inl rfl | with_reducible exact Or.inr rfl | exact Nat.le_of_ble_eq_true rfl | refine And.intro ?_ ?_ | intro _)
      all_goals (try simp (disch := omega) only [InI, Int.toNat_natCast, Int.tmod_eq_emod_of_nonneg, Int.tdiv_eq_ediv_of_nonneg, true_implies, true_or, or_true, mm_l18, mm_l19, mm_l20, mm_l21, mm_l22] at *)
      all_goals first | omega | skip
    have sret : q - (mm_ln M (M b 0).toNat : Int) ≤ 0 → Q (.inl none) M d := fun z => hq _ _ ⟨h1, h2, h3, h4, h5, h7, h8, by omega, h10⟩
    refine ⟨Nat.le_of_ble_eq_true rfl, ?_⟩
    refine mm_run_at (stop := [35]) (S := K) kkJ_ensure 90 ?_ (fun _ _ _ _ _ _ _ h => hK _ _ _ _ _ _ h)
    repeat' (first | with_reducible assumption | with_reducible exact True.intro | ((with_reducible show mm_rv _ _ _ _ _); first | exact True.intro | exact ha.c | exact hb) | exact ha.c | exact hb | ((with_reducible show mm_bool _ _); first | exact True.intro | exact Or.inl rfl | exact Or.inr rfl | (show (_ : Int) = 0 ∨ _ = 1)) | rfl | with_reducible exact Or.inl rfl | with_reducible exact Or.inr rfl | exact Nat.le_of_ble_eq_true rfl | refine And.intro ?_ ?_ | intro _)
    all_goals (try simp (disch := omega) only [h3, tp0, tm0, InI, Int.toNat_natCast, Int.tmod_eq_emod_of_nonneg, Int.tdiv_eq_ediv_of_nonneg, true_implies, true_or, or_true, mm_l18, mm_l19, mm_l20, mm_l21, mm_l22] at *)
    all_goals first | omega | exact k35 _ _ _ _ (by omega) (by omega) (by omega) (by assumption) (by assumption) | exact sret (by assumption) | skip
  · exact h.elim
theorem je_ensure {l : Launch} : mm_Jet l yJ_ensure prog_8_method_9_code 3 none 8 148 19 sp_J_ensure := mm_mtJ (own := "java/lang/AbstractStringBuilder") rn_J_ensure ⟨by decide +kernel, rfl⟩ kkJ_ensure rfl ⟨by decide, by decide⟩ flJ_ensure_k (⟨mm_semV (C := RXB) (T := TXB) (N := 4) (x := ⟨"java/lang/AbstractStringBuilder", "newCapacity", "(I)I"⟩) (je_newCapacity (l := l)) jw_newCapacity (mm_t4 230 rfl rfl) (mm_t4 232 rfl rfl) (Or.inr ⟨by decide, rfl⟩) (by decide +kernel) (Nat.le_of_ble_eq_true rfl) (Nat.le_of_ble_eq_true rfl) (Or.inl ⟨rfl, rfl, fun _ _ h => h _ (List.mem_append_right _ (by decide +kernel))⟩), mm_semS (je_copyOf (l := l)) jw_copyOf (mm_t5 5 rfl rfl) (mm_t5 6 rfl rfl) (by decide +kernel) (Nat.le_of_ble_eq_true rfl) (Nat.le_of_ble_eq_true rfl), trivial⟩) (by decide)
def kdJ_scoder : List mm_E := [(0, .getstatic 38, 0), (3, .ifCond .eq 10, 13), (6, .aload_n 0, 0), (7, .getfield 15, 0), (10, .goto 4, 14), (13, .iconst 1, 0), (14, .ireturn, 0)]
theorem kkJ_scoder : mm_chk prog_16_method_152_code kdJ_scoder = true := by decide +kernel
def yJ_scoder : MethodName := ⟨"java/lang/String", "coder", "()B"⟩
theorem jw_scoder : mm_JW yJ_scoder prog_16_method_152_code 1 (some .byte) := ⟨(mm_t5 175 rfl rfl), (mm_t1 14 rfl rfl), ⟨by decide, by decide⟩⟩
def sp_J_scoder : mm_S := fun av M d Q => match av with
  | [.inr (.inr (.inl b))] =>  b = 28 ∧ Q (.inl (some (mm_I 0))) M d
  | _ => False
def ct_J_scoder : List (Nat × mm_Ca) := []
def flJ_scoder : List (Nat × Nat × Nat) := [(38, 0, 98), (1, 0, 90), (15, 1, 92)]
theorem flJ_scoder_k : ∀ q ∈ flJ_scoder, mm_lj "java/lang/String" mm_U q.2.1 q.2.2 q.1 := by
  intro q hq
  simp only [flJ_scoder, List.mem_cons, List.not_mem_nil, or_false] at hq
  rcases hq with rfl | rfl | rfl
  · exact Or.inr ⟨by decide, (List.forall_mem_cons.mpr ⟨mm_T_U _ (mm_t5 176 rfl rfl), (fun _ h => nomatch h)⟩), (fun h => absurd h (by decide)), (fun h => absurd h (by decide))⟩
  · exact Or.inr ⟨by decide, (List.forall_mem_cons.mpr ⟨mm_T_U _ (mm_t5 125 rfl rfl), (List.forall_mem_cons.mpr ⟨mm_T_U _ (mm_t1 29 rfl rfl), (List.forall_mem_cons.mpr ⟨mm_T_U _ (mm_t1 30 rfl rfl), (fun _ h => nomatch h)⟩)⟩)⟩), (fun h => absurd h (by decide)), (fun h => absurd h (by decide))⟩
  · exact Or.inr ⟨by decide, (List.forall_mem_cons.mpr ⟨mm_T_U _ (mm_t5 208 rfl rfl), (fun _ h => nomatch h)⟩), (fun h => absurd h (by decide)), (fun h => absurd h (by decide))⟩
abbrev rr_J_scoder (Q : mm_Q) := mm_run (mm_look flJ_scoder) (mm_look ct_J_scoder) mm_x0 (mm_look ([] : List (Nat × Int))) (fun _ => none) 5 0 (fun _ _ => none) Q kdJ_scoder
set_option maxRecDepth 20000 in
theorem rn_J_scoder : mm_RN flJ_scoder ct_J_scoder mm_x0 [] 5 0 1 kdJ_scoder sp_J_scoder := by
  intro av M d Q h
  unfold sp_J_scoder at h
  split at h
  · rename_i b
    obtain ⟨rfl, hq⟩ := h
    obtain ⟨K, hK, hK2⟩ : ∃ K : Nat → mm_K, (∀ t ls st M d u, K t ls st M d u → rr_J_scoder Q t ls st M d u) ∧ (∀ t ls st M d u, rr_J_scoder Q t ls st M d u → K t ls st M d u) := ⟨rr_J_scoder Q, fun _ _ _ _ _ _ h => h, fun _ _ _ _ _ _ h => h⟩
    refine ⟨Nat.le_of_ble_eq_true rfl, mm_run_at (stop := []) (S := K) kkJ_scoder 90 ?_ (fun _ _ _ _ _ _ _ h => hK _ _ _ _ _ _ h)⟩
    repeat' (first | with_reducible assumption | with_reducible exact True.intro | ((with_reducible show mm_rv _ _ _ _ _); first | exact True.intro) | ((with_reducible show mm_bool _ _); first | exact True.intro | exact Or.inl rfl | exact Or.inr rfl | (show (_ : Int) = 0 ∨ _ = 1)) | rfl | with_reducible exact Or.inl rfl | with_reducible exact Or.inr rfl | exact Nat.le_of_ble_eq_true rfl | refine And.intro ?_ ?_ | intro _)
    all_goals (try simp (disch := omega) only [InI, Int.toNat_natCast, Int.tmod_eq_emod_of_nonneg, Int.tdiv_eq_ediv_of_nonneg, true_implies, true_or, or_true, mm_l18, mm_l19, mm_l20, mm_l21, mm_l22] at *)
    all_goals first | omega | skip
  · exact h.elim
theorem je_scoder {l : Launch} : mm_Jet l yJ_scoder prog_16_method_152_code 1 (some .byte) 6 100 0 sp_J_scoder := mm_mtJ (own := "java/lang/String") rn_J_scoder ⟨by decide +kernel, rfl⟩ kkJ_scoder rfl ⟨by decide, by decide⟩ flJ_scoder_k (trivial) (by decide)
def kdJ_slength : List mm_E := [(0, .aload_n 0, 0), (1, .getfield 9, 0), (4, .arraylength, 0), (5, .aload_n 0, 0), (6, .invokevirtual 335, 0), (9, .ishr, 0), (10, .ireturn, 0)]
theorem kkJ_slength : mm_chk prog_16_method_54_code kdJ_slength = true := by decide +kernel
def yJ_slength : MethodName := ⟨"java/lang/String", "length", "()I"⟩
theorem jw_slength : mm_JW yJ_slength prog_16_method_54_code 1 (some .int) := ⟨(mm_t5 171 rfl rfl), (mm_t1 14 rfl rfl), ⟨by decide, by decide⟩⟩
def sp_J_slength : mm_S := fun av M d Q => match av with
  | [.inr (.inr (.inl b))] =>  b = 28 ∧ ∀ r, r = 1 → Q (.inl (some (mm_I r))) M d
  | _ => False
def ct_J_slength : List (Nat × mm_Ca) := [(335, (0, 1, 6, sp_J_scoder, 0))]
def flJ_slength : List (Nat × Nat × Nat) := [(9, 0, 92)]
theorem flJ_slength_k : ∀ q ∈ flJ_slength, mm_lj "java/lang/String" mm_U q.2.1 q.2.2 q.1 := by
  intro q hq
  simp only [flJ_slength, List.mem_cons, List.not_mem_nil, or_false] at hq
  subst hq
  · exact Or.inr ⟨by decide, (List.forall_mem_cons.mpr ⟨mm_T_U _ (mm_t5 207 rfl rfl), (fun _ h => nomatch h)⟩), (fun h => absurd h (by decide)), (fun h => absurd h (by decide))⟩
abbrev rr_J_slength (Q : mm_Q) := mm_run (mm_look flJ_slength) (mm_look ct_J_slength) mm_x0 (mm_look ([] : List (Nat × Int))) (fun _ => none) 21 0 (fun _ _ => none) Q kdJ_slength
set_option maxRecDepth 20000 in
theorem rn_J_slength : mm_RN flJ_slength ct_J_slength mm_x0 [] 21 0 1 kdJ_slength sp_J_slength := by
  intro av M d Q h
  unfold sp_J_slength at h
  split at h
  · rename_i b
    obtain ⟨rfl, hq⟩ := h
    have e1 : mm_ln M 29 = 1 := rfl
    have c1 : mm_isC M d 29 3 := ⟨rfl, Or.inr rfl⟩
    obtain ⟨K, hK, hK2⟩ : ∃ K : Nat → mm_K, (∀ t ls st M d u, K t ls st M d u → rr_J_slength Q t ls st M d u) ∧ (∀ t ls st M d u, rr_J_slength Q t ls st M d u → K t ls st M d u) := ⟨rr_J_slength Q, fun _ _ _ _ _ _ h => h, fun _ _ _ _ _ _ h => h⟩
    refine ⟨Nat.le_of_ble_eq_true rfl, mm_run_at (stop := []) (S := K) kkJ_slength 90 ?_ (fun _ _ _ _ _ _ _ h => hK _ _ _ _ _ _ h)⟩
    repeat' (first | with_reducible assumption | with_reducible exact True.intro | ((with_reducible show mm_rv _ _ _ _ _); first | exact True.intro) | ((with_reducible show mm_bool _ _); first | exact True.intro | exact Or.inl rfl | exact Or.inr rfl | (show (_ : Int) = 0 ∨ _ = 1)) | rfl | with_reducible exact Or.inl rfl | with_reducible exact Or.inr rfl | exact Nat.le_of_ble_eq_true rfl | refine And.intro ?_ ?_ | intro _)
    all_goals (try simp (disch := omega) only [e1, tp0, InI, Int.toNat_natCast, Int.tmod_eq_emod_of_nonneg, Int.tdiv_eq_ediv_of_nonneg, true_implies, true_or, or_true, mm_l18, mm_l19, mm_l20, mm_l21, mm_l22] at *)
    all_goals first | omega | exact hq _ (by simp) | skip
  · exact h.elim
theorem je_slength {l : Launch} : mm_Jet l yJ_slength prog_16_method_54_code 1 (some .int) 7 120 0 sp_J_slength := mm_mtJ (own := "java/lang/String") rn_J_slength ⟨by decide +kernel, rfl⟩ kkJ_slength rfl ⟨by decide, by decide⟩ flJ_slength_k (⟨mm_semV (C := RXS) (T := TXS) (N := 4) (x := ⟨"java/lang/String", "coder", "()B"⟩) (je_scoder (l := l)) jw_scoder (mm_t5 172 rfl rfl) (mm_t5 173 rfl rfl) (Or.inl ⟨rfl, rfl⟩) (by decide +kernel) (Nat.le_of_ble_eq_true rfl) (Nat.le_of_ble_eq_true rfl) (Or.inl ⟨rfl, rfl, fun _ _ h => h _ (mm_T_U _ (mm_t5 174 rfl rfl))⟩), trivial⟩) (by decide)
def kdJ_getBytes : List mm_E := [(0, .aload_n 0, 0), (1, .invokevirtual 335, 0), (4, .iload_n 3, 0), (5, .if_icmp .ne 23, 28), (8, .aload_n 0, 0), (9, .getfield 9, 0), (12, .iconst 0, 0), (13, .aload_n 1, 0), (14, .iload_n 2, 0), (15, .iload_n 3, 0), (16, .ishl, 0), (17, .aload_n 0, 0), (18, .getfield 9, 0), (21, .arraylength, 0), (22, .invokestatic 212, 0), (25, .goto 18, 43), (28, .aload_n 0, 0), (29, .getfield 9, 0), (32, .iconst 0, 0), (33, .aload_n 1, 0), (34, .iload_n 2, 0), (35, .aload_n 0, 0), (36, .getfield 9, 0), (39, .arraylength, 0), (40, .invokestatic 106, 0), (43, .return_, 0)]
theorem kkJ_getBytes : mm_chk prog_16_method_147_code kdJ_getBytes = true := by decide +kernel
def yJ_getBytes : MethodName := ⟨"java/lang/String", "getBytes", "([BIB)V"⟩
theorem jw_getBytes : mm_JW yJ_getBytes prog_16_method_147_code 4 none := ⟨(mm_t5 189 rfl rfl), (mm_t1 14 rfl rfl), ⟨by decide, by decide⟩⟩
def sp_J_getBytes : mm_S := fun av M d Q => match av with
  | [.inr (.inr (.inl b)), .inr (.inr (.inl a)), .inl i, .inl z] =>  b = 28 ∧ z = 0 ∧ mm_is M d a 3 ∧ (0 ≤ i ∧ i + 1 ≤ (mm_ln M a : Int)) ∧ mm_ln M a ≤ 220 ∧ ∀ h9, Q (.inl none) (mm_any M a h9) d
  | _ => False
def ct_J_getBytes : List (Nat × mm_Ca) := [(335, (0, 1, 6, sp_J_scoder, 0))]
def flJ_getBytes : List (Nat × Nat × Nat) := [(1, 0, 90), (212, 0, 95), (9, 0, 92)]
theorem flJ_getBytes_k : ∀ q ∈ flJ_getBytes, mm_lj "java/lang/String" mm_U q.2.1 q.2.2 q.1 := by
  intro q hq
  simp only [flJ_getBytes, List.mem_cons, List.not_mem_nil, or_false] at hq
  rcases hq with rfl | rfl | rfl
  · exact Or.inr ⟨by decide, (List.forall_mem_cons.mpr ⟨mm_T_U _ (mm_t5 125 rfl rfl), (List.forall_mem_cons.mpr ⟨mm_T_U _ (mm_t1 29 rfl rfl), (List.forall_mem_cons.mpr ⟨mm_T_U _ (mm_t1 30 rfl rfl), (fun _ h => nomatch h)⟩)⟩)⟩), (fun h => absurd h (by decide)), (fun h => absurd h (by decide))⟩
  · exact Or.inr ⟨by decide, (List.forall_mem_cons.mpr ⟨mm_T_U _ (mm_t5 190 rfl rfl), (List.forall_mem_cons.mpr ⟨mm_T_U _ (mm_t5 20 rfl rfl), (List.forall_mem_cons.mpr ⟨mm_T_U _ (mm_t5 19 rfl rfl), (List.forall_mem_cons.mpr ⟨mm_T_U _ (mm_t1 19 rfl rfl), (fun _ h => nomatch h)⟩)⟩)⟩)⟩), (fun h => absurd h (by decide)), (fun h => absurd h (by decide))⟩
  · exact Or.inr ⟨by decide, (List.forall_mem_cons.mpr ⟨mm_T_U _ (mm_t5 207 rfl rfl), (fun _ h => nomatch h)⟩), (fun h => absurd h (by decide)), (fun h => absurd h (by decide))⟩
abbrev rr_J_getBytes (Q : mm_Q) := mm_run (mm_look flJ_getBytes) (mm_look ct_J_getBytes) mm_x0 (mm_look ([] : List (Nat × Int))) (fun _ => none) 20 0 (fun _ _ => none) Q kdJ_getBytes
set_option maxRecDepth 20000 in
theorem rn_J_getBytes : mm_RN flJ_getBytes ct_J_getBytes mm_x0 [] 20 0 4 kdJ_getBytes sp_J_getBytes := by
  intro av M d Q h
  unfold sp_J_getBytes at h
  split at h
  · rename_i b a i z
    obtain ⟨rfl, rfl, ha, h1, h2, hq⟩ := h
    have e1 : mm_ln M 29 = 1 := rfl
    have c1 : mm_isC M d 29 3 := ⟨rfl, Or.inr rfl⟩
    obtain ⟨K, hK, hK2⟩ : ∃ K : Nat → mm_K, (∀ t ls st M d u, K t ls st M d u → rr_J_getBytes Q t ls st M d u) ∧ (∀ t ls st M d u, rr_J_getBytes Q t ls st M d u → K t ls st M d u) := ⟨rr_J_getBytes Q, fun _ _ _ _ _ _ h => h, fun _ _ _ _ _ _ h => h⟩
    refine ⟨Nat.le_of_ble_eq_true rfl, mm_run_at (stop := []) (S := K) kkJ_getBytes 90 ?_ (fun _ _ _ _ _ _ _ h => hK _ _ _ _ _ _ h)⟩
    repeat' (first | with_reducible assumption | with_reducible exact True.intro | ((with_reducible show mm_rv _ _ _ _ _); first | exact True.intro) | ((with_reducible show mm_bool _ _); first | exact True.intro | exact Or.inl rfl | exact Or.inr rfl | (show (_ : Int) = 0 ∨ _ = 1)) | rfl | with_reducible exact Or.inl rfl | with_reducible exact Or.inr rfl | exact Nat.le_of_ble_eq_true rfl | refine And.intro ?_ ?_ | intro _)
    all_goals (try simp (disch := omega) only [e1, tm0, InI, Int.toNat_natCast, Int.tmod_eq_emod_of_nonneg, Int.tdiv_eq_ediv_of_nonneg, true_implies, true_or, or_true, mm_l18, mm_l19, mm_l20, mm_l21, mm_l22] at *)
    all_goals first | omega | exact hq _ | skip
  · exact h.elim
theorem je_getBytes {l : Launch} : mm_Jet l yJ_getBytes prog_16_method_147_code 4 none 7 120 0 sp_J_getBytes := mm_mtJ (own := "java/lang/String") rn_J_getBytes ⟨by decide +kernel, rfl⟩ kkJ_getBytes rfl ⟨by decide, by decide⟩ flJ_getBytes_k (⟨mm_semV (C := RXS) (T := TXS) (N := 4) (x := ⟨"java/lang/String", "coder", "()B"⟩) (je_scoder (l := l)) jw_scoder (mm_t5 172 rfl rfl) (mm_t5 173 rfl rfl) (Or.inl ⟨rfl, rfl⟩) (by decide +kernel) (Nat.le_of_ble_eq_true rfl) (Nat.le_of_ble_eq_true rfl) (Or.inl ⟨rfl, rfl, fun _ _ h => h _ (mm_T_U _ (mm_t5 174 rfl rfl))⟩), trivial⟩) (by decide)
def kdJ_inflateIf : List mm_E := [(0, .getstatic 18, 0), (3, .ifCond .eq 18, 21), (6, .aload_n 0, 0), (7, .getfield 22, 0), (10, .aload_n 1, 0), (11, .invokevirtual 40, 0), (14, .if_icmp .eq 7, 21), (17, .aload_n 0, 0), (18, .invokevirtual 195, 0), (21, .return_, 0)]
theorem kkJ_inflateIf : mm_chk prog_8_method_71_code kdJ_inflateIf = true := by decide +kernel
def yJ_inflateIf : MethodName := ⟨"java/lang/AbstractStringBuilder", "inflateIfNeededFor", "(Ljava/lang/String;)V"⟩
theorem jw_inflateIf : mm_JW yJ_inflateIf prog_8_method_71_code 2 none := ⟨(mm_t5 184 rfl rfl), (mm_t1 12 rfl rfl), ⟨by decide, by decide⟩⟩
def sp_J_inflateIf : mm_S := fun av M d Q => match av with
  | [.inr (.inr (.inl b)), .inr (.inr (.inl t))] =>  t = 28 ∧ mm_is M d b 16 ∧ M b 1 = 0 ∧ Q (.inl none) M d
  | _ => False
def ct_J_inflateIf : List (Nat × mm_Ca) := [(40, (0, 1, 6, sp_J_scoder, 0))]
def flJ_inflateIf : List (Nat × Nat × Nat) := [(22, 16, 1), (18, 0, 98)]
theorem flJ_inflateIf_k : ∀ q ∈ flJ_inflateIf, mm_lj "java/lang/AbstractStringBuilder" mm_U q.2.1 q.2.2 q.1 := by
  intro q hq
  simp only [flJ_inflateIf, List.mem_cons, List.not_mem_nil, or_false] at hq
  rcases hq with rfl | rfl
  · exact Or.inl ⟨by decide, Or.inl (mm_T_U _ (mm_t4 207 rfl rfl))⟩
  · exact Or.inr ⟨by decide, (List.forall_mem_cons.mpr ⟨mm_T_U _ (mm_t4 197 rfl rfl), (fun _ h => nomatch h)⟩), (fun h => absurd h (by decide)), (fun h => absurd h (by decide))⟩
abbrev rr_J_inflateIf (Q : mm_Q) := mm_run (mm_look flJ_inflateIf) (mm_look ct_J_inflateIf) mm_x0 (mm_look ([] : List (Nat × Int))) (fun _ => none) 0 0 (fun _ _ => none) Q kdJ_inflateIf
set_option maxRecDepth 20000 in
theorem rn_J_inflateIf : mm_RN flJ_inflateIf ct_J_inflateIf mm_x0 [] 0 0 2 kdJ_inflateIf sp_J_inflateIf := by
  intro av M d Q h
  unfold sp_J_inflateIf at h
  split at h
  · rename_i b t
    obtain ⟨rfl, hb, h1, hq⟩ := h
    obtain ⟨K, hK, hK2⟩ : ∃ K : Nat → mm_K, (∀ t ls st M d u, K t ls st M d u → rr_J_inflateIf Q t ls st M d u) ∧ (∀ t ls st M d u, rr_J_inflateIf Q t ls st M d u → K t ls st M d u) := ⟨rr_J_inflateIf Q, fun _ _ _ _ _ _ h => h, fun _ _ _ _ _ _ h => h⟩
    refine ⟨Nat.le_of_ble_eq_true rfl, mm_run_at (stop := []) (S := K) kkJ_inflateIf 90 ?_ (fun _ _ _ _ _ _ _ h => hK _ _ _ _ _ _ h)⟩
    repeat' (first | with_reducible assumption | with_reducible exact True.intro | ((with_reducible show mm_rv _ _ _ _ _); first | exact True.intro) | ((with_reducible show mm_bool _ _); first | exact True.intro | exact Or.inl rfl | exact Or.inr rfl | (show (_ : Int) = 0 ∨ _ = 1)) | rfl | with_reducible exact Or.inl rfl | with_reducible exact Or.inr rfl | exact Nat.le_of_ble_eq_true rfl | refine And.intro ?_ ?_ | intro _)
    all_goals (try simp (disch := omega) only [h1, InI, Int.toNat_natCast, Int.tmod_eq_emod_of_nonneg, Int.tdiv_eq_ediv_of_nonneg, true_implies, true_or, or_true, mm_l18, mm_l19, mm_l20, mm_l21, mm_l22] at *)
    all_goals first | omega | skip
  · exact h.elim
theorem je_inflateIf {l : Launch} : mm_Jet l yJ_inflateIf prog_8_method_71_code 2 none 7 120 0 sp_J_inflateIf := mm_mtJ (own := "java/lang/AbstractStringBuilder") rn_J_inflateIf ⟨by decide +kernel, rfl⟩ kkJ_inflateIf rfl ⟨by decide, by decide⟩ flJ_inflateIf_k (⟨mm_semV (C := RXS) (T := TXS) (N := 4) (x := ⟨"java/lang/String", "coder", "()B"⟩) (je_scoder (l := l)) jw_scoder (mm_t5 185 rfl rfl) (mm_t5 173 rfl rfl) (Or.inl ⟨rfl, rfl⟩) (by decide +kernel) (Nat.le_of_ble_eq_true rfl) (Nat.le_of_ble_eq_true rfl) (Or.inl ⟨rfl, rfl, fun _ _ h => h _ (mm_T_U _ (mm_t5 174 rfl rfl))⟩), trivial⟩) (by decide)
def kdJ_putStringAt : List mm_E := [(0, .aload_n 0, 0), (1, .aload_n 2, 0), (2, .invokevirtual 397, 0), (5, .aload_n 2, 0), (6, .aload_n 0, 0), (7, .getfield 15, 0), (10, .iload_n 1, 0), (11, .aload_n 0, 0), (12, .getfield 22, 0), (15, .invokevirtual 399, 0), (18, .return_, 0)]
theorem kkJ_putStringAt : mm_chk prog_8_method_73_code kdJ_putStringAt = true := by decide +kernel
def yJ_putStringAt : MethodName := ⟨"java/lang/AbstractStringBuilder", "putStringAt", "(ILjava/lang/String;)V"⟩
theorem jw_putStringAt : mm_JW yJ_putStringAt prog_8_method_73_code 3 none := ⟨(mm_t5 180 rfl rfl), (mm_t1 12 rfl rfl), ⟨by decide, by decide⟩⟩
def sp_J_putStringAt : mm_S := fun av M d Q => match av with
  | [.inr (.inr (.inl b)), .inl i, .inr (.inr (.inl t))] =>  t = 28 ∧ mm_is M d b 16 ∧ M b 1 = 0 ∧ mm_is M d (M b 0).toNat 3 ∧ (0 ≤ i ∧ i + 1 ≤ (mm_ln M (M b 0).toNat : Int)) ∧ mm_ln M (M b 0).toNat ≤ 220 ∧ ∀ h9, Q (.inl none) (mm_any M (M b 0).toNat h9) d
  | _ => False
def ct_J_putStringAt : List (Nat × mm_Ca) := [(397, (0, 2, 16, sp_J_inflateIf, 0)), (399, (0, 4, 6, sp_J_getBytes, 0))]
def flJ_putStringAt : List (Nat × Nat × Nat) := [(15, 16, 0), (22, 16, 1)]
theorem flJ_putStringAt_k : ∀ q ∈ flJ_putStringAt, mm_lj "java/lang/AbstractStringBuilder" mm_U q.2.1 q.2.2 q.1 := by
  intro q hq
  simp only [flJ_putStringAt, List.mem_cons, List.not_mem_nil, or_false] at hq
  rcases hq with rfl | rfl
  · exact Or.inl ⟨by decide, Or.inl (mm_T_U _ (mm_t4 206 rfl rfl))⟩
  · exact Or.inl ⟨by decide, Or.inl (mm_T_U _ (mm_t4 207 rfl rfl))⟩
abbrev rr_J_putStringAt (Q : mm_Q) := mm_run (mm_look flJ_putStringAt) (mm_look ct_J_putStringAt) mm_x0 (mm_look ([] : List (Nat × Int))) (fun _ => none) 0 0 (fun _ _ => none) Q kdJ_putStringAt
set_option maxRecDepth 20000 in
theorem rn_J_putStringAt : mm_RN flJ_putStringAt ct_J_putStringAt mm_x0 [] 0 0 3 kdJ_putStringAt sp_J_putStringAt := by
  intro av M d Q h
  unfold sp_J_putStringAt at h
  split at h
  · rename_i b i t
    obtain ⟨rfl, hb, h1, ha, h2, h3, hq⟩ := h
    obtain ⟨K, hK, hK2⟩ : ∃ K : Nat → mm_K, (∀ t ls st M d u, K t ls st M d u → rr_J_putStringAt Q t ls st M d u) ∧ (∀ t ls st M d u, rr_J_putStringAt Q t ls st M d u → K t ls st M d u) := ⟨rr_J_putStringAt Q, fun _ _ _ _ _ _ h => h, fun _ _ _ _ _ _ h => h⟩
    refine ⟨Nat.le_of_ble_eq_true rfl, mm_run_at (stop := []) (S := K) kkJ_putStringAt 90 ?_ (fun _ _ _ _ _ _ _ h => hK _ _ _ _ _ _ h)⟩
    repeat' (first | with_reducible assumption | with_reducible exact True.intro | ((with_reducible show mm_rv _ _ _ _ _); first | exact True.intro | exact hb) | exact hb | ((with_reducible show mm_bool _ _); first | exact True.intro | exact Or.inl rfl | exact Or.inr rfl | (show (_ : Int) = 0 ∨ _ = 1)) | rfl | with_reducible exact Or.inl rfl | with_reducible exact Or.inr rfl | exact Nat.le_of_ble_eq_true rfl | refine And.intro ?_ ?_ | intro _)
    all_goals (try simp (disch := omega) only [h1, InI, Int.toNat_natCast, Int.tmod_eq_emod_of_nonneg, Int.tdiv_eq_ediv_of_nonneg, true_implies, true_or, or_true, mm_l18, mm_l19, mm_l20, mm_l21, mm_l22] at *)
    all_goals first | omega | exact hq _ | skip
  · exact h.elim
theorem je_putStringAt {l : Launch} : mm_Jet l yJ_putStringAt prog_8_method_73_code 3 none 8 143 0 sp_J_putStringAt := mm_mtJ (own := "java/lang/AbstractStringBuilder") rn_J_putStringAt ⟨by decide +kernel, rfl⟩ kkJ_putStringAt rfl ⟨by decide, by decide⟩ flJ_putStringAt_k (⟨mm_semV (C := RXB) (T := TXB) (N := 4) (x := ⟨"java/lang/AbstractStringBuilder", "inflateIfNeededFor", "(Ljava/lang/String;)V"⟩) (je_inflateIf (l := l)) jw_inflateIf (mm_t5 181 rfl rfl) (mm_t5 183 rfl rfl) (Or.inr ⟨by decide, rfl⟩) (by decide +kernel) (Nat.le_of_ble_eq_true rfl) (Nat.le_of_ble_eq_true rfl) (Or.inl ⟨rfl, rfl, fun _ _ h => h _ (List.mem_append_right _ (by decide +kernel))⟩), mm_semV (C := RXS) (T := TXS) (N := 4) (x := ⟨"java/lang/String", "getBytes", "([BIB)V"⟩) (je_getBytes (l := l)) jw_getBytes (mm_t5 186 rfl rfl) (mm_t5 187 rfl rfl) (Or.inl ⟨rfl, rfl⟩) (by decide +kernel) (Nat.le_of_ble_eq_true rfl) (Nat.le_of_ble_eq_true rfl) (Or.inl ⟨rfl, rfl, fun _ _ h => h _ (mm_T_U _ (mm_t5 188 rfl rfl))⟩), trivial⟩) (by decide)
def kdJ_ainit : List mm_E := [(0, .aload_n 0, 0), (1, .invokespecial 3, 0), (4, .getstatic 18, 0), (7, .ifCond .eq 18, 25), (10, .aload_n 0, 0), (11, .iload_n 1, 0), (12, .newarray .byte, 0), (14, .putfield 15, 0), (17, .aload_n 0, 0), (18, .iconst 0, 0), (19, .putfield 22, 0), (22, .goto 16, 38), (25, .aload_n 0, 0), (26, .iload_n 1, 0), (27, .invokestatic 26, 0), (30, .putfield 15, 0), (33, .aload_n 0, 0), (34, .iconst 1, 0), (35, .putfield 22, 0), (38, .return_, 0)]
theorem kkJ_ainit : mm_chk prog_8_method_2_code kdJ_ainit = true := by decide +kernel
def yJ_ainit : MethodName := ⟨"java/lang/AbstractStringBuilder", "<init>", "(I)V"⟩
theorem jw_ainit : mm_JW yJ_ainit prog_8_method_2_code 2 none := ⟨(mm_t4 195 rfl rfl), (mm_t1 12 rfl rfl), ⟨by decide, by decide⟩⟩
def sp_J_ainit : mm_S := fun av M d Q => match av with
  | [.inr (.inr (.inl b)), .inl z] =>  ∃ M0 d0, bX M0 d0 M d ∧ bO d0 M d b 16 ∧ M b 1 = 0 ∧ M b 3 = 0 ∧ z = 16 ∧ ∀ M' d', sC M0 d0 M' d' b 0 0 → Q (.inl none) M' d'
  | _ => False
def ct_J_ainit : List (Nat × mm_Ca) := []
def flJ_ainit : List (Nat × Nat × Nat) := [(15, 16, 0), (22, 16, 1), (18, 0, 98), (3, 0, 90)]
theorem flJ_ainit_k : ∀ q ∈ flJ_ainit, mm_lj "java/lang/AbstractStringBuilder" mm_U q.2.1 q.2.2 q.1 := by
  intro q hq
  simp only [flJ_ainit, List.mem_cons, List.not_mem_nil, or_false] at hq
  rcases hq with rfl | rfl | rfl | rfl
  · exact Or.inl ⟨by decide, Or.inl (mm_T_U _ (mm_t4 206 rfl rfl))⟩
  · exact Or.inl ⟨by decide, Or.inl (mm_T_U _ (mm_t4 207 rfl rfl))⟩
  · exact Or.inr ⟨by decide, (List.forall_mem_cons.mpr ⟨mm_T_U _ (mm_t4 197 rfl rfl), (fun _ h => nomatch h)⟩), (fun h => absurd h (by decide)), (fun h => absurd h (by decide))⟩
  · exact Or.inr ⟨by decide, (List.forall_mem_cons.mpr ⟨mm_T_U _ (mm_t4 196 rfl rfl), (List.forall_mem_cons.mpr ⟨mm_T_U _ (mm_t1 29 rfl rfl), (List.forall_mem_cons.mpr ⟨mm_T_U _ (mm_t1 30 rfl rfl), (fun _ h => nomatch h)⟩)⟩)⟩), (fun h => absurd h (by decide)), (fun h => absurd h (by decide))⟩
abbrev rr_J_ainit (Q : mm_Q) := mm_run (mm_look flJ_ainit) (mm_look ct_J_ainit) mm_x0 (mm_look ([] : List (Nat × Int))) (fun _ => none) 0 2 (fun _ _ => none) Q kdJ_ainit
set_option maxRecDepth 20000 in
theorem rn_J_ainit : mm_RN flJ_ainit ct_J_ainit mm_x0 [] 0 2 2 kdJ_ainit sp_J_ainit := by
  intro av M d Q h
  unfold sp_J_ainit at h
  split at h
  · rename_i b z
    obtain ⟨M0, d0, h1, h2, h3, h4, rfl, hq⟩ := h
    have hb := h2.1
    have hb0 : b ≠ 0 := mm_is0 hb
    obtain ⟨K, hK, hK2⟩ : ∃ K : Nat → mm_K, (∀ t ls st M d u, K t ls st M d u → rr_J_ainit Q t ls st M d u) ∧ (∀ t ls st M d u, rr_J_ainit Q t ls st M d u → K t ls st M d u) := ⟨rr_J_ainit Q, fun _ _ _ _ _ _ h => h, fun _ _ _ _ _ _ h => h⟩
    have k14 : ∀ o (r : Int), r = 16 → 100 ≤ o → o ∉ d → K 14 [some (mm_R b), some (mm_I 16)] [mm_R o, mm_R b] (mm_nob M o 3 r) (d ++ [o]) (1 + r.toNat / 12) := by
      intro o r hr ho hd
      subst hr
      have hbo : b ≠ o := fun z => mm_ids_new ho hd (z ▸ hb.2)
      have eb : mm_nob M o 3 16 b = M b := mm_nob_o hbo hb0
      have g1 := h1.new (k := 3) (n := 16) ho hd
      have g2 := h2.new (k' := 3) (n := 16) ho hd
      have g3 := bO.mk' (k := 3) (n := 16) h1 ho hd (by omega)
      have g4 := (isNo (M := M) (d := d) (k := 3) (n := 16) ho (by omega)).2
      have s1 := sC.set (q := 0) g1 g2 (by rw [eb]; exact h3) (by rw [eb]; exact h4) (Int.le_refl 0) g3 ⟨by rw [g4]; omega, by rw [g4]; omega, by rw [g4]; omega⟩
      have e5 : mm_up (mm_up (mm_nob M o 3 16) b 0 (o : Int)) b 1 0 = mm_up (mm_nob M o 3 16) b 0 (o : Int) := by
        funext x k
        by_cases hx : x = b ∧ k = 1
        · obtain ⟨rfl, rfl⟩ := hx
          have : mm_nob M o 3 16 x 1 = M x 1 := by rw [eb]
          simp [mm_up, this, h3]
        · simp only [mm_up, hx, if_false]
      have fin := hq _ _ s1
      have g5 := g2.1
      obtain ⟨M1, e1⟩ : ∃ M1, mm_nob M o 3 16 = M1 := ⟨_, rfl⟩
      rw [e1] at g5 fin e5 ⊢
      refine hK2 _ _ _ _ _ _ ?_
      refine mm_run_at (stop := []) (S := K) kkJ_ainit 90 ?_ (fun _ _ _ _ _ _ _ h => hK _ _ _ _ _ _ h)
      repeat' (first | with_reducible assumption | with_reducible exact True.intro | ((with_reducible show mm_rv _ _ _ _ _); first | exact True.intro | exact isU g5 hb0) | exact isU g5 hb0 | ((with_reducible show mm_bool _ _); first | exact True.intro | exact Or.inl rfl | exact Or.inr rfl | (show (_ : Int) = 0 ∨ _ = 1)) | rfl | with_reducible exact Or.inl rfl | with_reducible exact Or.inr rfl | exact Nat.le_of_ble_eq_true rfl | refine And.intro ?_ ?_ | intro _)
      all_goals (try simp (disch := omega) only [InI, Int.toNat_natCast, Int.tmod_eq_emod_of_nonneg, Int.tdiv_eq_ediv_of_nonneg, true_implies, true_or, or_true, mm_l18, mm_l19, mm_l20, mm_l21, mm_l22] at *)
      all_goals first | omega | (rw [e5]; exact fin) | skip
    refine ⟨Nat.le_of_ble_eq_true rfl, ?_⟩
    refine mm_run_at (stop := [14]) (S := K) kkJ_ainit 90 ?_ (fun _ _ _ _ _ _ _ h => hK _ _ _ _ _ _ h)
    repeat' (first | with_reducible assumption | with_reducible exact True.intro | ((with_reducible show mm_rv _ _ _ _ _); first | exact True.intro) | ((with_reducible show mm_bool _ _); first | exact True.intro | exact Or.inl rfl | exact Or.inr rfl | (show (_ : Int) = 0 ∨ _ = 1)) | rfl | with_reducible exact Or.inl rfl | with_reducible exact Or.inr rfl | exact Nat.le_of_ble_eq_true rfl | refine And.intro ?_ ?_ | intro _)
    all_goals (try simp (disch := omega) only [InI, Int.toNat_natCast, Int.tmod_eq_emod_of_nonneg, Int.tdiv_eq_ediv_of_nonneg, true_implies, true_or, or_true, mm_l18, mm_l19, mm_l20, mm_l21, mm_l22] at *)
    all_goals first | omega | exact k14 _ _ rfl (by assumption) (by assumption) | skip
  · exact h.elim
theorem je_ainit {l : Launch} : mm_Jet l yJ_ainit prog_8_method_2_code 2 none 6 100 2 sp_J_ainit := mm_mtJ (own := "java/lang/AbstractStringBuilder") rn_J_ainit ⟨by decide +kernel, rfl⟩ kkJ_ainit rfl ⟨by decide, by decide⟩ flJ_ainit_k (trivial) (by decide)
def kdJ_binit : List mm_E := [(0, .aload_n 0, 0), (1, .bipush 16, 0), (3, .invokespecial 1, 0), (6, .return_, 0)]
theorem kkJ_binit : mm_chk prog_17_method_1_code kdJ_binit = true := by decide +kernel
def yJ_binit : MethodName := ⟨"java/lang/StringBuilder", "<init>", "()V"⟩
theorem jw_binit : mm_JW yJ_binit prog_17_method_1_code 1 none := ⟨(mm_t4 192 rfl rfl), (mm_t1 13 rfl rfl), ⟨by decide, by decide⟩⟩
def sp_J_binit : mm_S := fun av M d Q => match av with
  | [.inr (.inr (.inl b))] =>  ∃ M0 d0, bX M0 d0 M d ∧ bO d0 M d b 16 ∧ M b 1 = 0 ∧ M b 3 = 0 ∧ ∀ M' d', sC M0 d0 M' d' b 0 0 → Q (.inl none) M' d'
  | _ => False
def ct_J_binit : List (Nat × mm_Ca) := [(1, (2, 2, 16, sp_J_ainit, 2))]
def flJ_binit : List (Nat × Nat × Nat) := []
theorem flJ_binit_k : ∀ q ∈ flJ_binit, mm_lj "java/lang/StringBuilder" mm_U q.2.1 q.2.2 q.1 := fun _ h => nomatch h
abbrev rr_J_binit (Q : mm_Q) := mm_run (mm_look flJ_binit) (mm_look ct_J_binit) mm_x0 (mm_look ([] : List (Nat × Int))) (fun _ => none) 0 2 (fun _ _ => none) Q kdJ_binit
set_option maxRecDepth 20000 in
theorem rn_J_binit : mm_RN flJ_binit ct_J_binit mm_x0 [] 0 2 1 kdJ_binit sp_J_binit := by
  intro av M d Q h
  unfold sp_J_binit at h
  split at h
  · rename_i b
    obtain ⟨M0, d0, h1, h2, h3, h4, hq⟩ := h
    have hb := h2.1
    obtain ⟨K, hK, hK2⟩ : ∃ K : Nat → mm_K, (∀ t ls st M d u, K t ls st M d u → rr_J_binit Q t ls st M d u) ∧ (∀ t ls st M d u, rr_J_binit Q t ls st M d u → K t ls st M d u) := ⟨rr_J_binit Q, fun _ _ _ _ _ _ h => h, fun _ _ _ _ _ _ h => h⟩
    have k6 : ∀ M' d', sC M0 d0 M' d' b 0 0 → K 6 [some (mm_R b)] [] M' d' 2 := by
      intro M' d' hs
      have fin := hq _ _ hs
      refine hK2 _ _ _ _ _ _ ?_
      refine mm_run_at (stop := []) (S := K) kkJ_binit 90 ?_ (fun _ _ _ _ _ _ _ h => hK _ _ _ _ _ _ h)
      repeat' (first | with_reducible assumption | with_reducible exact True.intro | ((with_reducible show mm_rv _ _ _ _ _); first | exact True.intro) | ((with_reducible show mm_bool _ _); first | exact True.intro | exact Or.inl rfl | exact Or.inr rfl | (show (_ : Int) = 0 ∨ _ = 1)) | rfl | with_reducible exact Or.inl rfl | with_reducible exact Or.inr rfl | exact Nat.le_of_ble_eq_true rfl | refine And.intro ?_ ?_ | intro _)
      all_goals (try simp (disch := omega) only [InI, Int.toNat_natCast, Int.tmod_eq_emod_of_nonneg, Int.tdiv_eq_ediv_of_nonneg, true_implies, true_or, or_true, mm_l18, mm_l19, mm_l20, mm_l21, mm_l22] at *)
      all_goals first | omega | skip
    refine ⟨Nat.le_of_ble_eq_true rfl, ?_⟩
    refine mm_run_at (stop := [6]) (S := K) kkJ_binit 90 ?_ (fun _ _ _ _ _ _ _ h => hK _ _ _ _ _ _ h)
    refine And.intro ⟨by decide, by decide⟩ (mj5 rfl (Nat.le_of_ble_eq_true rfl) (by exact hb) (Nat.le_of_ble_eq_true rfl) (Nat.le_of_ble_eq_true rfl) ⟨M0, d0, h1, h2, h3, h4, rfl, fun M' d' hs => k6 M' d' hs⟩)
  · exact h.elim
theorem je_binit {l : Launch} : mm_Jet l yJ_binit prog_17_method_1_code 1 none 7 121 2 sp_J_binit := mm_mtJ (own := "java/lang/StringBuilder") rn_J_binit ⟨by decide +kernel, rfl⟩ kkJ_binit rfl ⟨by decide, by decide⟩ flJ_binit_k (⟨mm_semV (C := RXB) (T := TXB) (N := 4) (x := ⟨"java/lang/AbstractStringBuilder", "<init>", "(I)V"⟩) (je_ainit (l := l)) jw_ainit (mm_t4 193 rfl rfl) (mm_t4 194 rfl rfl) (Or.inr ⟨by decide, rfl⟩) (by decide +kernel) (Nat.le_of_ble_eq_true rfl) (Nat.le_of_ble_eq_true rfl) (Or.inr (Or.inr (Or.inl ⟨rfl, rfl, rfl, rfl⟩))), trivial⟩) (by decide)
def kdJ_aappC : List mm_E := [(0, .aload_n 0, 0), (1, .aload_n 0, 0), (2, .getfield 79, 0), (5, .iconst 1, 0), (6, .iadd, 0), (7, .invokevirtual 100, 0), (10, .aload_n 0, 0), (11, .invokevirtual 83, 0), (14, .ifCond .eq 31, 45), (17, .iload_n 1, 0), (18, .invokestatic 191, 0), (21, .ifCond .eq 24, 45), (24, .aload_n 0, 0), (25, .getfield 15, 0), (28, .aload_n 0, 0), (29, .dup, 0), (30, .getfield 79, 0), (33, .dup_x1, 0), (34, .iconst 1, 0), (35, .iadd, 0), (36, .putfield 79, 0), (39, .iload_n 1, 0), (40, .i2b, 0), (41, .bastore, 0), (42, .goto 33, 75), (45, .aload_n 0, 0), (46, .invokevirtual 83, 0), (49, .ifCond .eq 7, 56), (52, .aload_n 0, 0), (53, .invokevirtual 195, 0), (56, .aload_n 0, 0), (57, .getfield 15, 0), (60, .aload_n 0, 0), (61, .dup, 0), (62, .getfield 79, 0), (65, .dup_x1, 0), (66, .iconst 1, 0), (67, .iadd, 0), (68, .putfield 79, 0), (71, .iload_n 1, 0), (72, .invokestatic 197, 0), (75, .aload_n 0, 0), (76, .areturn, 0)]
theorem kkJ_aappC : mm_chk prog_8_method_31_code kdJ_aappC = true := by decide +kernel
def yJ_aappC : MethodName := ⟨"java/lang/AbstractStringBuilder", "append", "(C)Ljava/lang/AbstractStringBuilder;"⟩
theorem jw_aappC : mm_JW yJ_aappC prog_8_method_31_code 2 (some (.object "java/lang/AbstractStringBuilder")) := ⟨(mm_t4 225 rfl rfl), (mm_t1 12 rfl rfl), ⟨by decide, by decide⟩⟩
def sp_J_aappC : mm_S := fun av M d Q => match av with
  | [.inr (.inr (.inl b)), .inl c] =>  ∃ M0 d0 n, sC M0 d0 M d b n 0 ∧ n ≤ 100 ∧ (0 ≤ c ∧ c ≤ 255) ∧ ∀ M' d', sC M0 d0 M' d' b (n + 1) 0 → Q (.inl (some (mm_R b))) M' d'
  | _ => False
def ct_J_aappC : List (Nat × mm_Ca) := [(100, (0, 2, 16, sp_J_ensure, 19)), (83, (0, 1, 16, sp_J_isLatin1, 0)), (191, (1, 1, 0, sp_J_canEncode, 0))]
def flJ_aappC : List (Nat × Nat × Nat) := [(15, 16, 0), (79, 16, 3)]
theorem flJ_aappC_k : ∀ q ∈ flJ_aappC, mm_lj "java/lang/AbstractStringBuilder" mm_U q.2.1 q.2.2 q.1 := by
  intro q hq
  simp only [flJ_aappC, List.mem_cons, List.not_mem_nil, or_false] at hq
  rcases hq with rfl | rfl
  · exact Or.inl ⟨by decide, Or.inl (mm_T_U _ (mm_t4 206 rfl rfl))⟩
  · exact Or.inl ⟨by decide, Or.inl (mm_T_U _ (mm_t4 209 rfl rfl))⟩
abbrev rr_J_aappC (Q : mm_Q) := mm_run (mm_look flJ_aappC) (mm_look ct_J_aappC) mm_x0 (mm_look ([] : List (Nat × Int))) (fun _ => none) 4 19 (fun _ _ => none) Q kdJ_aappC
set_option maxRecDepth 20000 in
theorem rn_J_aappC : mm_RN flJ_aappC ct_J_aappC mm_x0 [] 4 19 2 kdJ_aappC sp_J_aappC := by
  intro av M d Q h
  unfold sp_J_aappC at h
  split at h
  · rename_i b c
    obtain ⟨M0, d0, n, hs, hn, hc, hq⟩ := h
    have hn0 := hs.2.2.2.2.1
    have e3 := hs.2.2.2.1
    have hb := hs.2.1.1
    obtain ⟨K, hK, hK2⟩ : ∃ K : Nat → mm_K, (∀ t ls st M d u, K t ls st M d u → rr_J_aappC Q t ls st M d u) ∧ (∀ t ls st M d u, rr_J_aappC Q t ls st M d u → K t ls st M d u) := ⟨rr_J_aappC Q, fun _ _ _ _ _ _ h => h, fun _ _ _ _ _ _ h => h⟩
    have k10 : ∀ M' d', sC M0 d0 M' d' b n (n + 1) → K 10 [some (mm_R b), some (mm_I c)] [] M' d' 19 := by
      intro M' d' h
      have hb := h.2.1.1
      have hb0 : b ≠ 0 := mm_is0 hb
      have e1 := h.2.2.1
      have e3 := h.2.2.2.1
      have ha := h.2.2.2.2.2.1
      have ha1 := ha.1
      have l1 := h.2.2.2.2.2.2.1
      have l2 := h.2.2.2.2.2.2.2.1
      have l3 := h.2.2.2.2.2.2.2.2
      have s1 := h.cnt (n' := n + 1) ⟨by omega, by omega⟩
      have s2 : ∀ x, sC M0 d0 (mm_up (mm_up M' b 3 (n + 1)) (M' b 0).toNat n.toNat x) d' b (n + 1) (n + 1) := fun x => s1.row (ha.same (by have := h.2.1.2.1; omega) mm_up_o) (by decide) mm_up_o
      have fin := fun x => hq _ _ ((s2 x).w (Or.inr (by omega)))
      refine hK2 _ _ _ _ _ _ ?_
      refine mm_run_at (stop := []) (S := K) kkJ_aappC 90 ?_ (fun _ _ _ _ _ _ _ h => hK _ _ _ _ _ _ h)
      repeat' (first | with_reducible assumption | with_reducible exact True.intro | ((with_reducible show mm_rv _ _ _ _ _); first | exact True.intro | exact hb | exact isU ha1 hb0) | exact hb | exact isU ha1 hb0 | ((with_reducible show mm_bool _ _); first | exact True.intro | exact Or.inl rfl | exact Or.inr rfl | (show (_ : Int) = 0 ∨ _ = 1)) | rfl | with_reducible exact Or.inl rfl | with_reducible exact Or.inr rfl | exact Nat.le_of_ble_eq_true rfl | refine And.intro ?_ ?_ | intro _)
      all_goals (try simp (disch := omega) only [lnU hb0, e1, e3, InI, Int.toNat_natCast, Int.tmod_eq_emod_of_nonneg, Int.tdiv_eq_ediv_of_nonneg, true_implies, true_or, or_true, mm_l18, mm_l19, mm_l20, mm_l21, mm_l22] at *)
      all_goals first | omega | exact fin _ | skip
    refine ⟨Nat.le_of_ble_eq_true rfl, ?_⟩
    refine mm_run_at (stop := [10]) (S := K) kkJ_aappC 90 ?_ (fun _ _ _ _ _ _ _ h => hK _ _ _ _ _ _ h)
    repeat' (first | with_reducible assumption | with_reducible exact True.intro | ((with_reducible show mm_rv _ _ _ _ _); first | exact True.intro | exact hb) | exact hb | ((with_reducible show mm_bool _ _); first | exact True.intro | exact Or.inl rfl | exact Or.inr rfl | (show (_ : Int) = 0 ∨ _ = 1)) | rfl | with_reducible exact Or.inl rfl | with_reducible exact Or.inr rfl | exact Nat.le_of_ble_eq_true rfl | refine And.intro ?_ ?_ | intro _)
    all_goals (try simp (disch := omega) only [InI, Int.toNat_natCast, Int.tmod_eq_emod_of_nonneg, Int.tdiv_eq_ediv_of_nonneg, true_implies, true_or, or_true, mm_l18, mm_l19, mm_l20, mm_l21, mm_l22] at *)
    all_goals first | omega | exact ⟨M0, d0, n, hs, ⟨by omega, by omega⟩, fun M' d' h => k10 M' d' (by rw [e3] at h; exact h)⟩ | skip
  · exact h.elim
theorem je_aappC {l : Launch} : mm_Jet l yJ_aappC prog_8_method_31_code 2 (some (.object "java/lang/AbstractStringBuilder")) 9 170 19 sp_J_aappC := mm_mtJ (own := "java/lang/AbstractStringBuilder") rn_J_aappC ⟨by decide +kernel, rfl⟩ kkJ_aappC rfl ⟨by decide, by decide⟩ flJ_aappC_k (⟨mm_semV (C := RXB) (T := TXB) (N := 4) (x := ⟨"java/lang/AbstractStringBuilder", "ensureCapacityInternal", "(I)V"⟩) (je_ensure (l := l)) jw_ensure (mm_t4 226 rfl rfl) (mm_t4 228 rfl rfl) (Or.inr ⟨by decide, rfl⟩) (by decide +kernel) (Nat.le_of_ble_eq_true rfl) (Nat.le_of_ble_eq_true rfl) (Or.inl ⟨rfl, rfl, fun _ _ h => h _ (List.mem_append_right _ (by decide +kernel))⟩), mm_semV (C := RXB) (T := TXB) (N := 4) (x := ⟨"java/lang/AbstractStringBuilder", "isLatin1", "()Z"⟩) (je_isLatin1 (l := l)) jw_isLatin1 (mm_t5 21 rfl rfl) (mm_t5 22 rfl rfl) (Or.inr ⟨by decide, rfl⟩) (by decide +kernel) (Nat.le_of_ble_eq_true rfl) (Nat.le_of_ble_eq_true rfl) (Or.inl ⟨rfl, rfl, fun _ _ h => h _ (mm_T_U _ (mm_t5 24 rfl rfl))⟩), mm_semS (je_canEncode (l := l)) jw_canEncode (mm_t5 26 rfl rfl) (mm_t5 27 rfl rfl) (by decide +kernel) (Nat.le_of_ble_eq_true rfl) (Nat.le_of_ble_eq_true rfl), trivial⟩) (by decide)
def kdJ_bappC : List mm_E := [(0, .aload_n 0, 0), (1, .iload_n 1, 0), (2, .invokespecial 50, 0), (5, .pop, 0), (6, .aload_n 0, 0), (7, .areturn, 0)]
theorem kkJ_bappC : mm_chk prog_17_method_14_code kdJ_bappC = true := by decide +kernel
def yJ_bappC : MethodName := ⟨"java/lang/StringBuilder", "append", "(C)Ljava/lang/StringBuilder;"⟩
theorem jw_bappC : mm_JW yJ_bappC prog_17_method_14_code 2 (some (.object "java/lang/StringBuilder")) := ⟨(mm_t4 222 rfl rfl), (mm_t1 13 rfl rfl), ⟨by decide, by decide⟩⟩
def sp_J_bappC : mm_S := fun av M d Q => match av with
  | [.inr (.inr (.inl b)), .inl c] =>  ∃ M0 d0 n, sC M0 d0 M d b n 0 ∧ n ≤ 100 ∧ (0 ≤ c ∧ c ≤ 255) ∧ ∀ M' d', sC M0 d0 M' d' b (n + 1) 0 → Q (.inl (some (mm_R b))) M' d'
  | _ => False
def ct_J_bappC : List (Nat × mm_Ca) := [(50, (2, 2, 16, sp_J_aappC, 19))]
def flJ_bappC : List (Nat × Nat × Nat) := []
theorem flJ_bappC_k : ∀ q ∈ flJ_bappC, mm_lj "java/lang/StringBuilder" mm_U q.2.1 q.2.2 q.1 := fun _ h => nomatch h
abbrev rr_J_bappC (Q : mm_Q) := mm_run (mm_look flJ_bappC) (mm_look ct_J_bappC) mm_x0 (mm_look ([] : List (Nat × Int))) (fun _ => none) 4 19 (fun _ _ => none) Q kdJ_bappC
set_option maxRecDepth 20000 in
theorem rn_J_bappC : mm_RN flJ_bappC ct_J_bappC mm_x0 [] 4 19 2 kdJ_bappC sp_J_bappC := by
  intro av M d Q h
  unfold sp_J_bappC at h
  split at h
  · rename_i b c
    obtain ⟨M0, d0, n, hs, hn, hc, hq⟩ := h
    have hb := hs.2.1.1
    obtain ⟨K, hK, hK2⟩ : ∃ K : Nat → mm_K, (∀ t ls st M d u, K t ls st M d u → rr_J_bappC Q t ls st M d u) ∧ (∀ t ls st M d u, rr_J_bappC Q t ls st M d u → K t ls st M d u) := ⟨rr_J_bappC Q, fun _ _ _ _ _ _ h => h, fun _ _ _ _ _ _ h => h⟩
    have k5 : ∀ M' d', sC M0 d0 M' d' b (n + 1) 0 → K 5 [some (mm_R b), some (mm_I c)] [mm_R b] M' d' 19 := by
      intro M' d' h
      have fin := hq _ _ h
      refine hK2 _ _ _ _ _ _ ?_
      refine mm_run_at (stop := []) (S := K) kkJ_bappC 90 ?_ (fun _ _ _ _ _ _ _ h => hK _ _ _ _ _ _ h)
      repeat' (first | with_reducible assumption | with_reducible exact True.intro | ((with_reducible show mm_rv _ _ _ _ _); first | exact True.intro) | ((with_reducible show mm_bool _ _); first | exact True.intro | exact Or.inl rfl | exact Or.inr rfl | (show (_ : Int) = 0 ∨ _ = 1)) | rfl | with_reducible exact Or.inl rfl | with_reducible exact Or.inr rfl | exact Nat.le_of_ble_eq_true rfl | refine And.intro ?_ ?_ | intro _)
      all_goals (try simp (disch := omega) only [InI, Int.toNat_natCast, Int.tmod_eq_emod_of_nonneg, Int.tdiv_eq_ediv_of_nonneg, true_implies, true_or, or_true, mm_l18, mm_l19, mm_l20, mm_l21, mm_l22] at *)
      all_goals first | omega | skip
    refine ⟨Nat.le_of_ble_eq_true rfl, ?_⟩
    refine mm_run_at (stop := [5]) (S := K) kkJ_bappC 90 ?_ (fun _ _ _ _ _ _ _ h => hK _ _ _ _ _ _ h)
    refine mj5 rfl (Nat.le_of_ble_eq_true rfl) (by exact hb) (Nat.le_of_ble_eq_true rfl) (Nat.le_of_ble_eq_true rfl) ⟨M0, d0, n, hs, hn, hc, fun M' d' h => k5 M' d' h⟩
  · exact h.elim
theorem je_bappC {l : Launch} : mm_Jet l yJ_bappC prog_17_method_14_code 2 (some (.object "java/lang/StringBuilder")) 10 191 19 sp_J_bappC := mm_mtJ (own := "java/lang/StringBuilder") rn_J_bappC ⟨by decide +kernel, rfl⟩ kkJ_bappC rfl ⟨by decide, by decide⟩ flJ_bappC_k (⟨mm_semV (C := RXB) (T := TXB) (N := 4) (x := ⟨"java/lang/AbstractStringBuilder", "append", "(C)Ljava/lang/AbstractStringBuilder;"⟩) (je_aappC (l := l)) jw_aappC (mm_t4 223 rfl rfl) (mm_t4 224 rfl rfl) (Or.inr ⟨by decide, rfl⟩) (by decide +kernel) (Nat.le_of_ble_eq_true rfl) (Nat.le_of_ble_eq_true rfl) (Or.inr (Or.inr (Or.inr ⟨rfl, rfl, by decide, (mm_t8 65 rfl rfl), (mm_t4 218 rfl rfl), 4, (mm_t4 189 rfl rfl)⟩))), trivial⟩) (by decide)
def kdJ_aappI : List mm_E := [(0, .aload_n 0, 0), (1, .getfield 79, 0), (4, .istore_n 2, 0), (5, .iload_n 2, 0), (6, .iload_n 1, 0), (7, .invokestatic 245, 0), (10, .iadd, 0), (11, .istore_n 3, 0), (12, .aload_n 0, 0), (13, .iload_n 3, 0), (14, .invokevirtual 100, 0), (17, .aload_n 0, 0), (18, .invokevirtual 83, 0), (21, .ifCond .eq 16, 37), (24, .iload_n 1, 0), (25, .iload_n 3, 0), (26, .aload_n 0, 0), (27, .getfield 15, 0), (30, .invokestatic 248, 0), (33, .pop, 0), (34, .goto 14, 48), (37, .iload_n 1, 0), (38, .iload_n 2, 0), (39, .iload_n 3, 0), (40, .aload_n 0, 0), (41, .getfield 15, 0), (44, .invokestatic 251, 0), (47, .pop, 0), (48, .aload_n 0, 0), (49, .iload_n 3, 0), (50, .putfield 79, 0), (53, .aload_n 0, 0), (54, .areturn, 0)]
theorem kkJ_aappI : mm_chk prog_8_method_32_code kdJ_aappI = true := by decide +kernel
def yJ_aappI : MethodName := ⟨"java/lang/AbstractStringBuilder", "append", "(I)Ljava/lang/AbstractStringBuilder;"⟩
theorem jw_aappI : mm_JW yJ_aappI prog_8_method_32_code 4 (some (.object "java/lang/AbstractStringBuilder")) := ⟨(mm_t5 85 rfl rfl), (mm_t1 12 rfl rfl), ⟨by decide, by decide⟩⟩
def sp_J_aappI : mm_S := fun av M d Q => match av with
  | [.inr (.inr (.inl b)), .inl x] =>  ∃ M0 d0 n, sC M0 d0 M d b n 0 ∧ n ≤ 100 ∧ (0 ≤ x ∧ x < 100) ∧ ∀ M' d' n', n' ≤ n + 2 → sC M0 d0 M' d' b n' 0 → Q (.inl (some (mm_R b))) M' d'
  | _ => False
def ct_J_aappI : List (Nat × mm_Ca) := [(245, (1, 1, 0, sp_J_stringSize, 0)), (100, (0, 2, 16, sp_J_ensure, 19)), (83, (0, 1, 16, sp_J_isLatin1, 0)), (248, (1, 3, 0, sp_J_getChars, 0))]
def flJ_aappI : List (Nat × Nat × Nat) := [(15, 16, 0), (79, 16, 3), (3, 0, 90)]
theorem flJ_aappI_k : ∀ q ∈ flJ_aappI, mm_lj "java/lang/AbstractStringBuilder" mm_U q.2.1 q.2.2 q.1 := by
  intro q hq
  simp only [flJ_aappI, List.mem_cons, List.not_mem_nil, or_false] at hq
  rcases hq with rfl | rfl | rfl
  · exact Or.inl ⟨by decide, Or.inl (mm_T_U _ (mm_t4 206 rfl rfl))⟩
  · exact Or.inl ⟨by decide, Or.inl (mm_T_U _ (mm_t4 209 rfl rfl))⟩
  · exact Or.inr ⟨by decide, (List.forall_mem_cons.mpr ⟨mm_T_U _ (mm_t4 196 rfl rfl), (List.forall_mem_cons.mpr ⟨mm_T_U _ (mm_t1 29 rfl rfl), (List.forall_mem_cons.mpr ⟨mm_T_U _ (mm_t1 30 rfl rfl), (fun _ h => nomatch h)⟩)⟩)⟩), (fun h => absurd h (by decide)), (fun h => absurd h (by decide))⟩
abbrev rr_J_aappI (Q : mm_Q) := mm_run (mm_look flJ_aappI) (mm_look ct_J_aappI) mm_x0 (mm_look ([] : List (Nat × Int))) (fun _ => none) 4 19 (fun _ _ => none) Q kdJ_aappI
set_option maxRecDepth 20000 in
theorem rn_J_aappI : mm_RN flJ_aappI ct_J_aappI mm_x0 [] 4 19 4 kdJ_aappI sp_J_aappI := by
  intro av M d Q h
  unfold sp_J_aappI at h
  split at h
  · rename_i b x
    obtain ⟨M0, d0, n, hs, hn, hx, hq⟩ := h
    have hn0 := hs.2.2.2.2.1
    have e3 := hs.2.2.2.1
    have hb := hs.2.1.1
    obtain ⟨K, hK, hK2⟩ : ∃ K : Nat → mm_K, (∀ t ls st M d u, K t ls st M d u → rr_J_aappI Q t ls st M d u) ∧ (∀ t ls st M d u, rr_J_aappI Q t ls st M d u → K t ls st M d u) := ⟨rr_J_aappI Q, fun _ _ _ _ _ _ h => h, fun _ _ _ _ _ _ h => h⟩
    have k17 : ∀ M' d' (n2 : Int), ((x < 10 → n2 = n + 1) ∧ (10 ≤ x → n2 = n + 2)) → sC M0 d0 M' d' b n n2 → K 17 [some (mm_R b), some (mm_I x), some (mm_I n), some (mm_I n2)] [] M' d' 19 := by
      intro M' d' n2 hn2 h
      have hn3 : n + 1 ≤ n2 ∧ n2 ≤ n + 2 := by omega
      have hb := h.2.1.1
      have e1 := h.2.2.1
      have ha := h.2.2.2.2.2.1
      have ha1 := ha.1
      have ha0 : (M' b 0).toNat ≠ 0 := mm_is0 ha1
      have l1 := h.2.2.2.2.2.2.1
      have l2 := h.2.2.2.2.2.2.2.1
      have l3 := h.2.2.2.2.2.2.2.2
      have s2 : ∀ h9, sC M0 d0 (mm_up (mm_any M' (M' b 0).toNat h9) b 3 n2) d' b n2 n2 := fun h9 => (h.row ha (by decide) mm_any_o).cnt ⟨by omega, by omega⟩
      have fin := fun h9 => hq _ _ n2 (by omega) ((s2 h9).w (Or.inr (by omega)))
      have k48 : ∀ h9, K 48 [some (mm_R b), some (mm_I x), some (mm_I n), some (mm_I n2)] [] (mm_any M' (M' b 0).toNat h9) d' 19 := by
        intro h9
        have fin := fin h9
        have hb2 := isY (h9 := h9) hb ha0
        refine hK2 _ _ _ _ _ _ ?_
        refine mm_run_at (stop := []) (S := K) kkJ_aappI 90 ?_ (fun _ _ _ _ _ _ _ h => hK _ _ _ _ _ _ h)
        repeat' (first | with_reducible assumption | with_reducible exact True.intro | ((with_reducible show mm_rv _ _ _ _ _); first | exact True.intro) | ((with_reducible show mm_bool _ _); first | exact True.intro | exact Or.inl rfl | exact Or.inr rfl | (show (_ : Int) = 0 ∨ _ = 1)) | rfl | with_reducible exact Or.inl rfl | with_reducible exact Or.inr rfl | exact Nat.le_of_ble_eq_true rfl | refine And.intro ?_ ?_ | intro _)
        all_goals (try simp (disch := omega) only [InI, Int.toNat_natCast, Int.tmod_eq_emod_of_nonneg, Int.tdiv_eq_ediv_of_nonneg, true_implies, true_or, or_true, mm_l18, mm_l19, mm_l20, mm_l21, mm_l22] at *)
        all_goals first | omega | skip
      refine hK2 _ _ _ _ _ _ ?_
      refine mm_run_at (stop := [48]) (S := K) kkJ_aappI 90 ?_ (fun _ _ _ _ _ _ _ h => hK _ _ _ _ _ _ h)
      repeat' (first | with_reducible assumption | with_reducible exact True.intro | ((with_reducible show mm_rv _ _ _ _ _); first | exact True.intro | exact hb) | exact hb | ((with_reducible show mm_bool _ _); first | exact True.intro | exact Or.inl rfl | exact Or.inr rfl | (show (_ : Int) = 0 ∨ _ = 1)) | rfl | with_reducible exact Or.inl rfl | with_reducible exact Or.inr rfl | exact Nat.le_of_ble_eq_true rfl | refine And.intro ?_ ?_ | intro _)
      all_goals (try simp (disch := omega) only [e1, InI, Int.toNat_natCast, Int.tmod_eq_emod_of_nonneg, Int.tdiv_eq_ediv_of_nonneg, true_implies, true_or, or_true, mm_l18, mm_l19, mm_l20, mm_l21, mm_l22] at *)
      all_goals first | omega | exact k48 _ | skip
    have k10 : ∀ w : Int, ((x < 10 → w = 1) ∧ (10 ≤ x → w = 2)) → K 10 [some (mm_R b), some (mm_I x), some (mm_I n), none] [mm_I w, mm_I n] M d 0 := by
      intro w hw
      refine hK2 _ _ _ _ _ _ ?_
      refine mm_run_at (stop := [17]) (S := K) kkJ_aappI 90 ?_ (fun _ _ _ _ _ _ _ h => hK _ _ _ _ _ _ h)
      repeat' (first | with_reducible assumption | with_reducible exact True.intro | ((with_reducible show mm_rv _ _ _ _ _); first | exact True.intro | exact hb) | exact hb | ((with_reducible show mm_bool _ _); first | exact True.intro | exact Or.inl rfl | exact Or.inr rfl | (show (_ : Int) = 0 ∨ _ = 1)) | rfl | with_reducible exact Or.inl rfl | with_reducible exact Or.inr rfl | exact Nat.le_of_ble_eq_true rfl | refine And.intro ?_ ?_ | intro _)
      all_goals (try simp (disch := omega) only [InI, Int.toNat_natCast, Int.tmod_eq_emod_of_nonneg, Int.tdiv_eq_ediv_of_nonneg, true_implies, true_or, or_true, mm_l18, mm_l19, mm_l20, mm_l21, mm_l22] at *)
      all_goals first | omega | exact ⟨M0, d0, n, hs, ⟨by omega, by omega⟩, fun M' d' h => k17 M' d' _ ⟨fun _ => by omega, fun _ => by omega⟩ h⟩ | skip
    refine ⟨Nat.le_of_ble_eq_true rfl, ?_⟩
    refine mm_run_at (stop := [10]) (S := K) kkJ_aappI 90 ?_ (fun _ _ _ _ _ _ _ h => hK _ _ _ _ _ _ h)
    repeat' (first | with_reducible assumption | with_reducible exact True.intro | ((with_reducible show mm_rv _ _ _ _ _); first | exact True.intro | exact hb) | exact hb | ((with_reducible show mm_bool _ _); first | exact True.intro | exact Or.inl rfl | exact Or.inr rfl | (show (_ : Int) = 0 ∨ _ = 1)) | rfl | with_reducible exact Or.inl rfl | with_reducible exact Or.inr rfl | exact Nat.le_of_ble_eq_true rfl | refine And.intro ?_ ?_ | intro _)
    all_goals (try simp (disch := omega) only [InI, Int.toNat_natCast, Int.tmod_eq_emod_of_nonneg, Int.tdiv_eq_ediv_of_nonneg, true_implies, true_or, or_true, mm_l18, mm_l19, mm_l20, mm_l21, mm_l22] at *)
    all_goals first | omega | (rw [e3]; exact k10 _ (by assumption)) | (rw [e3]; exact k10 _ ⟨by assumption, by assumption⟩) | skip
  · exact h.elim
theorem je_aappI {l : Launch} : mm_Jet l yJ_aappI prog_8_method_32_code 4 (some (.object "java/lang/AbstractStringBuilder")) 9 170 19 sp_J_aappI := mm_mtJ (own := "java/lang/AbstractStringBuilder") rn_J_aappI ⟨by decide +kernel, rfl⟩ kkJ_aappI rfl ⟨by decide, by decide⟩ flJ_aappI_k (⟨mm_semS (je_stringSize (l := l)) jw_stringSize (mm_t5 86 rfl rfl) (mm_t5 87 rfl rfl) (by decide +kernel) (Nat.le_of_ble_eq_true rfl) (Nat.le_of_ble_eq_true rfl), mm_semV (C := RXB) (T := TXB) (N := 4) (x := ⟨"java/lang/AbstractStringBuilder", "ensureCapacityInternal", "(I)V"⟩) (je_ensure (l := l)) jw_ensure (mm_t4 226 rfl rfl) (mm_t4 228 rfl rfl) (Or.inr ⟨by decide, rfl⟩) (by decide +kernel) (Nat.le_of_ble_eq_true rfl) (Nat.le_of_ble_eq_true rfl) (Or.inl ⟨rfl, rfl, fun _ _ h => h _ (List.mem_append_right _ (by decide +kernel))⟩), mm_semV (C := RXB) (T := TXB) (N := 4) (x := ⟨"java/lang/AbstractStringBuilder", "isLatin1", "()Z"⟩) (je_isLatin1 (l := l)) jw_isLatin1 (mm_t5 21 rfl rfl) (mm_t5 22 rfl rfl) (Or.inr ⟨by decide, rfl⟩) (by decide +kernel) (Nat.le_of_ble_eq_true rfl) (Nat.le_of_ble_eq_true rfl) (Or.inl ⟨rfl, rfl, fun _ _ h => h _ (mm_T_U _ (mm_t5 24 rfl rfl))⟩), mm_semS (je_getChars (l := l)) jw_getChars (mm_t5 89 rfl rfl) (mm_t5 90 rfl rfl) (by decide +kernel) (Nat.le_of_ble_eq_true rfl) (Nat.le_of_ble_eq_true rfl), trivial⟩) (by decide)
def kdJ_bappI : List mm_E := [(0, .aload_n 0, 0), (1, .iload_n 1, 0), (2, .invokespecial 53, 0), (5, .pop, 0), (6, .aload_n 0, 0), (7, .areturn, 0)]
theorem kkJ_bappI : mm_chk prog_17_method_15_code kdJ_bappI = true := by decide +kernel
def yJ_bappI : MethodName := ⟨"java/lang/StringBuilder", "append", "(I)Ljava/lang/StringBuilder;"⟩
theorem jw_bappI : mm_JW yJ_bappI prog_17_method_15_code 2 (some (.object "java/lang/StringBuilder")) := ⟨(mm_t5 82 rfl rfl), (mm_t1 13 rfl rfl), ⟨by decide, by decide⟩⟩
def sp_J_bappI : mm_S := fun av M d Q => match av with
  | [.inr (.inr (.inl b)), .inl x] =>  ∃ M0 d0 n, sC M0 d0 M d b n 0 ∧ n ≤ 100 ∧ (0 ≤ x ∧ x < 100) ∧ ∀ M' d' n', n' ≤ n + 2 → sC M0 d0 M' d' b n' 0 → Q (.inl (some (mm_R b))) M' d'
  | _ => False
def ct_J_bappI : List (Nat × mm_Ca) := [(53, (2, 2, 16, sp_J_aappI, 19))]
def flJ_bappI : List (Nat × Nat × Nat) := []
theorem flJ_bappI_k : ∀ q ∈ flJ_bappI, mm_lj "java/lang/StringBuilder" mm_U q.2.1 q.2.2 q.1 := fun _ h => nomatch h
abbrev rr_J_bappI (Q : mm_Q) := mm_run (mm_look flJ_bappI) (mm_look ct_J_bappI) mm_x0 (mm_look ([] : List (Nat × Int))) (fun _ => none) 4 19 (fun _ _ => none) Q kdJ_bappI
set_option maxRecDepth 20000 in
theorem rn_J_bappI : mm_RN flJ_bappI ct_J_bappI mm_x0 [] 4 19 2 kdJ_bappI sp_J_bappI := by
  intro av M d Q h
  unfold sp_J_bappI at h
  split at h
  · rename_i b x
    obtain ⟨M0, d0, n, hs, hn, hx, hq⟩ := h
    have hb := hs.2.1.1
    obtain ⟨K, hK, hK2⟩ : ∃ K : Nat → mm_K, (∀ t ls st M d u, K t ls st M d u → rr_J_bappI Q t ls st M d u) ∧ (∀ t ls st M d u, rr_J_bappI Q t ls st M d u → K t ls st M d u) := ⟨rr_J_bappI Q, fun _ _ _ _ _ _ h => h, fun _ _ _ _ _ _ h => h⟩
    have k5 : ∀ M' d' n', n' ≤ n + 2 → sC M0 d0 M' d' b n' 0 → K 5 [some (mm_R b), some (mm_I x)] [mm_R b] M' d' 19 := by
      intro M' d' n' hn' h
      have fin := hq _ _ _ hn' h
      refine hK2 _ _ _ _ _ _ ?_
      refine mm_run_at (stop := []) (S := K) kkJ_bappI 90 ?_ (fun _ _ _ _ _ _ _ h => hK _ _ _ _ _ _ h)
      repeat' (first | with_reducible assumption | with_reducible exact True.intro | ((with_reducible show mm_rv _ _ _ _ _); first | exact True.intro) | ((with_reducible show mm_bool _ _); first | exact True.intro | exact Or.inl rfl | exact Or.inr rfl | (show (_ : Int) = 0 ∨ _ = 1)) | rfl | with_reducible exact Or.inl rfl | with_reducible exact Or.inr rfl | exact Nat.le_of_ble_eq_true rfl | refine And.intro ?_ ?_ | intro _)
      all_goals (try simp (disch := omega) only [InI, Int.toNat_natCast, Int.tmod_eq_emod_of_nonneg, Int.tdiv_eq_ediv_of_nonneg, true_implies, true_or, or_true, mm_l18, mm_l19, mm_l20, mm_l21, mm_l22] at *)
      all_goals first | omega | skip
    refine ⟨Nat.le_of_ble_eq_true rfl, ?_⟩
    refine mm_run_at (stop := [5]) (S := K) kkJ_bappI 90 ?_ (fun _ _ _ _ _ _ _ h => hK _ _ _ _ _ _ h)
    refine mj5 rfl (Nat.le_of_ble_eq_true rfl) (by exact hb) (Nat.le_of_ble_eq_true rfl) (Nat.le_of_ble_eq_true rfl) ⟨M0, d0, n, hs, hn, hx, fun M' d' n' h9 h => k5 M' d' n' h9 h⟩
  · exact h.elim
theorem je_bappI {l : Launch} : mm_Jet l yJ_bappI prog_17_method_15_code 2 (some (.object "java/lang/StringBuilder")) 10 193 19 sp_J_bappI := mm_mtJ (own := "java/lang/StringBuilder") rn_J_bappI ⟨by decide +kernel, rfl⟩ kkJ_bappI rfl ⟨by decide, by decide⟩ flJ_bappI_k (⟨mm_semV (C := RXB) (T := TXB) (N := 4) (x := ⟨"java/lang/AbstractStringBuilder", "append", "(I)Ljava/lang/AbstractStringBuilder;"⟩) (je_aappI (l := l)) jw_aappI (mm_t5 83 rfl rfl) (mm_t5 84 rfl rfl) (Or.inr ⟨by decide, rfl⟩) (by decide +kernel) (Nat.le_of_ble_eq_true rfl) (Nat.le_of_ble_eq_true rfl) (Or.inr (Or.inr (Or.inr ⟨rfl, rfl, by decide, (mm_t8 69 rfl rfl), (mm_t4 218 rfl rfl), 4, (mm_t4 189 rfl rfl)⟩))), trivial⟩) (by decide)
def kdJ_aappS : List mm_E := [(0, .aload_n 1, 0), (1, .ifnonnull 8, 9), (4, .aload_n 0, 0), (5, .invokevirtual 204, 0), (8, .areturn, 0), (9, .aload_n 1, 0), (10, .invokevirtual 32, 0), (13, .istore_n 2, 0), (14, .aload_n 0, 0), (15, .aload_n 0, 0), (16, .getfield 79, 0), (19, .iload_n 2, 0), (20, .iadd, 0), (21, .invokevirtual 100, 0), (24, .aload_n 0, 0), (25, .aload_n 0, 0), (26, .getfield 79, 0), (29, .aload_n 1, 0), (30, .invokevirtual 208, 0), (33, .aload_n 0, 0), (34, .dup, 0), (35, .getfield 79, 0), (38, .iload_n 2, 0), (39, .iadd, 0), (40, .putfield 79, 0), (43, .aload_n 0, 0), (44, .areturn, 0)]
theorem kkJ_aappS : mm_chk prog_8_method_22_code kdJ_aappS = true := by decide +kernel
def yJ_aappS : MethodName := ⟨"java/lang/AbstractStringBuilder", "append", "(Ljava/lang/String;)Ljava/lang/AbstractStringBuilder;"⟩
theorem jw_aappS : mm_JW yJ_aappS prog_8_method_22_code 3 (some (.object "java/lang/AbstractStringBuilder")) := ⟨(mm_t5 160 rfl rfl), (mm_t1 12 rfl rfl), ⟨by decide, by decide⟩⟩
def sp_J_aappS : mm_S := fun av M d Q => match av with
  | [.inr (.inr (.inl b)), .inr (.inr (.inl t))] =>  t = 28 ∧ ∃ M0 d0 n, sC M0 d0 M d b n 0 ∧ n ≤ 100 ∧ ∀ M' d', sC M0 d0 M' d' b (n + 1) 0 → Q (.inl (some (mm_R b))) M' d'
  | _ => False
def ct_J_aappS : List (Nat × mm_Ca) := [(32, (0, 1, 6, sp_J_slength, 0)), (100, (0, 2, 16, sp_J_ensure, 19)), (208, (0, 3, 16, sp_J_putStringAt, 0))]
def flJ_aappS : List (Nat × Nat × Nat) := [(79, 16, 3)]
theorem flJ_aappS_k : ∀ q ∈ flJ_aappS, mm_lj "java/lang/AbstractStringBuilder" mm_U q.2.1 q.2.2 q.1 := by
  intro q hq
  simp only [flJ_aappS, List.mem_cons, List.not_mem_nil, or_false] at hq
  subst hq
  · exact Or.inl ⟨by decide, Or.inl (mm_T_U _ (mm_t4 209 rfl rfl))⟩
abbrev rr_J_aappS (Q : mm_Q) := mm_run (mm_look flJ_aappS) (mm_look ct_J_aappS) mm_x0 (mm_look ([] : List (Nat × Int))) (fun _ => none) 4 19 (fun _ _ => none) Q kdJ_aappS
set_option maxRecDepth 20000 in
theorem rn_J_aappS : mm_RN flJ_aappS ct_J_aappS mm_x0 [] 4 19 3 kdJ_aappS sp_J_aappS := by
  intro av M d Q h
  unfold sp_J_aappS at h
  split at h
  · rename_i b t
    obtain ⟨rfl, M0, d0, n, hs, hn, hq⟩ := h
    have hn0 := hs.2.2.2.2.1
    have e3 := hs.2.2.2.1
    have hb := hs.2.1.1
    obtain ⟨K, hK, hK2⟩ : ∃ K : Nat → mm_K, (∀ t ls st M d u, K t ls st M d u → rr_J_aappS Q t ls st M d u) ∧ (∀ t ls st M d u, rr_J_aappS Q t ls st M d u → K t ls st M d u) := ⟨rr_J_aappS Q, fun _ _ _ _ _ _ h => h, fun _ _ _ _ _ _ h => h⟩
    have k24 : ∀ M' d', sC M0 d0 M' d' b n (n + 1) → K 24 [some (mm_R b), some (mm_R 28), some (mm_I 1)] [] M' d' 19 := by
      intro M' d' h
      have hb := h.2.1.1
      have e1 := h.2.2.1
      have e3 := h.2.2.2.1
      have ha := h.2.2.2.2.2.1
      have ha1 := ha.1
      have ha0 : (M' b 0).toNat ≠ 0 := mm_is0 ha1
      have l1 := h.2.2.2.2.2.2.1
      have l2 := h.2.2.2.2.2.2.2.1
      have l3 := h.2.2.2.2.2.2.2.2
      have s2 : ∀ h9, sC M0 d0 (mm_up (mm_any M' (M' b 0).toNat h9) b 3 (n + 1)) d' b (n + 1) (n + 1) := fun h9 => (h.row ha (by decide) mm_any_o).cnt ⟨by omega, by omega⟩
      have fin := fun h9 => hq _ _ ((s2 h9).w (Or.inr (by omega)))
      have k33 : ∀ h9, K 33 [some (mm_R b), some (mm_R 28), some (mm_I 1)] [] (mm_any M' (M' b 0).toNat h9) d' 19 := by
        intro h9
        have fin := fin h9
        have hb2 := isY (h9 := h9) hb ha0
        have e4 : mm_any M' (M' b 0).toNat h9 b 3 = n := by rw [mm_any_o b (h.2.1.ne ha (by decide))]; exact e3
        rw [← e4] at fin
        refine hK2 _ _ _ _ _ _ ?_
        refine mm_run_at (stop := []) (S := K) kkJ_aappS 90 ?_ (fun _ _ _ _ _ _ _ h => hK _ _ _ _ _ _ h)
        repeat' (first | with_reducible assumption | with_reducible exact True.intro | ((with_reducible show mm_rv _ _ _ _ _); first | exact True.intro) | ((with_reducible show mm_bool _ _); first | exact True.intro | exact Or.inl rfl | exact Or.inr rfl | (show (_ : Int) = 0 ∨ _ = 1)) | rfl | with_reducible exact Or.inl rfl | with_reducible exact Or.inr rfl | exact Nat.le_of_ble_eq_true rfl | refine And.intro ?_ ?_ | intro _)
        all_goals (try simp (disch := omega) only [InI, Int.toNat_natCast, Int.tmod_eq_emod_of_nonneg, Int.tdiv_eq_ediv_of_nonneg, true_implies, true_or, or_true, mm_l18, mm_l19, mm_l20, mm_l21, mm_l22] at *)
        all_goals first | omega | skip
      refine hK2 _ _ _ _ _ _ ?_
      refine mm_run_at (stop := [33]) (S := K) kkJ_aappS 90 ?_ (fun _ _ _ _ _ _ _ h => hK _ _ _ _ _ _ h)
      repeat' (first | with_reducible assumption | with_reducible exact True.intro | ((with_reducible show mm_rv _ _ _ _ _); first | exact True.intro | exact hb) | exact hb | ((with_reducible show mm_bool _ _); first | exact True.intro | exact Or.inl rfl | exact Or.inr rfl | (show (_ : Int) = 0 ∨ _ = 1)) | rfl | with_reducible exact Or.inl rfl | with_reducible exact Or.inr rfl | exact Nat.le_of_ble_eq_true rfl | refine And.intro ?_ ?_ | intro _)
      all_goals (try simp (disch := omega) only [e1, e3, InI, Int.toNat_natCast, Int.tmod_eq_emod_of_nonneg, Int.tdiv_eq_ediv_of_nonneg, true_implies, true_or, or_true, mm_l18, mm_l19, mm_l20, mm_l21, mm_l22] at *)
      all_goals first | omega | exact k33 _ | skip
    refine ⟨Nat.le_of_ble_eq_true rfl, ?_⟩
    refine mm_run_at (stop := [24]) (S := K) kkJ_aappS 90 ?_ (fun _ _ _ _ _ _ _ h => hK _ _ _ _ _ _ h)
    repeat' (first | with_reducible assumption | with_reducible exact True.intro | ((with_reducible show mm_rv _ _ _ _ _); first | exact True.intro | exact hb) | exact hb | ((with_reducible show mm_bool _ _); first | exact True.intro | exact Or.inl rfl | exact Or.inr rfl | (show (_ : Int) = 0 ∨ _ = 1)) | rfl | with_reducible exact Or.inl rfl | with_reducible exact Or.inr rfl | exact Nat.le_of_ble_eq_true rfl | refine And.intro ?_ ?_ | intro _)
    all_goals (try simp (disch := omega) only [InI, Int.toNat_natCast, Int.tmod_eq_emod_of_nonneg, Int.tdiv_eq_ediv_of_nonneg, true_implies, true_or, or_true, mm_l18, mm_l19, mm_l20, mm_l21, mm_l22] at *)
    all_goals first | omega | (rename_i r hr; cases hr; exact ⟨M0, d0, n, hs, ⟨by omega, by omega⟩, fun M' d' h => k24 M' d' (by rw [e3] at h; exact h)⟩) | skip
  · exact h.elim
theorem je_aappS {l : Launch} : mm_Jet l yJ_aappS prog_8_method_22_code 3 (some (.object "java/lang/AbstractStringBuilder")) 9 170 19 sp_J_aappS := mm_mtJ (own := "java/lang/AbstractStringBuilder") rn_J_aappS ⟨by decide +kernel, rfl⟩ kkJ_aappS rfl ⟨by decide, by decide⟩ flJ_aappS_k (⟨mm_semV (C := RXS) (T := TXS) (N := 4) (x := ⟨"java/lang/String", "length", "()I"⟩) (je_slength (l := l)) jw_slength (mm_t5 168 rfl rfl) (mm_t5 169 rfl rfl) (Or.inl ⟨rfl, rfl⟩) (by decide +kernel) (Nat.le_of_ble_eq_true rfl) (Nat.le_of_ble_eq_true rfl) (Or.inl ⟨rfl, rfl, fun _ _ h => h _ (mm_T_U _ (mm_t5 170 rfl rfl))⟩), mm_semV (C := RXB) (T := TXB) (N := 4) (x := ⟨"java/lang/AbstractStringBuilder", "ensureCapacityInternal", "(I)V"⟩) (je_ensure (l := l)) jw_ensure (mm_t4 226 rfl rfl) (mm_t4 228 rfl rfl) (Or.inr ⟨by decide, rfl⟩) (by decide +kernel) (Nat.le_of_ble_eq_true rfl) (Nat.le_of_ble_eq_true rfl) (Or.inl ⟨rfl, rfl, fun _ _ h => h _ (List.mem_append_right _ (by decide +kernel))⟩), mm_semV (C := RXB) (T := TXB) (N := 4) (x := ⟨"java/lang/AbstractStringBuilder", "putStringAt", "(ILjava/lang/String;)V"⟩) (je_putStringAt (l := l)) jw_putStringAt (mm_t5 177 rfl rfl) (mm_t5 179 rfl rfl) (Or.inr ⟨by decide, rfl⟩) (by decide +kernel) (Nat.le_of_ble_eq_true rfl) (Nat.le_of_ble_eq_true rfl) (Or.inl ⟨rfl, rfl, fun _ _ h => h _ (List.mem_append_right _ (by decide +kernel))⟩), trivial⟩) (by decide)
def kdJ_bappS : List mm_E := [(0, .aload_n 0, 0), (1, .aload_n 1, 0), (2, .invokespecial 29, 0), (5, .pop, 0), (6, .aload_n 0, 0), (7, .areturn, 0)]
theorem kkJ_bappS : mm_chk prog_17_method_7_code kdJ_bappS = true := by decide +kernel
def yJ_bappS : MethodName := ⟨"java/lang/StringBuilder", "append", "(Ljava/lang/String;)Ljava/lang/StringBuilder;"⟩
theorem jw_bappS : mm_JW yJ_bappS prog_17_method_7_code 2 (some (.object "java/lang/StringBuilder")) := ⟨(mm_t5 157 rfl rfl), (mm_t1 13 rfl rfl), ⟨by decide, by decide⟩⟩
def sp_J_bappS : mm_S := fun av M d Q => match av with
  | [.inr (.inr (.inl b)), .inr (.inr (.inl t))] =>  t = 28 ∧ ∃ M0 d0 n, sC M0 d0 M d b n 0 ∧ n ≤ 100 ∧ ∀ M' d', sC M0 d0 M' d' b (n + 1) 0 → Q (.inl (some (mm_R b))) M' d'
  | _ => False
def ct_J_bappS : List (Nat × mm_Ca) := [(29, (2, 2, 16, sp_J_aappS, 19))]
def flJ_bappS : List (Nat × Nat × Nat) := []
theorem flJ_bappS_k : ∀ q ∈ flJ_bappS, mm_lj "java/lang/StringBuilder" mm_U q.2.1 q.2.2 q.1 := fun _ h => nomatch h
abbrev rr_J_bappS (Q : mm_Q) := mm_run (mm_look flJ_bappS) (mm_look ct_J_bappS) mm_x0 (mm_look ([] : List (Nat × Int))) (fun _ => none) 4 19 (fun _ _ => none) Q kdJ_bappS
set_option maxRecDepth 20000 in
theorem rn_J_bappS : mm_RN flJ_bappS ct_J_bappS mm_x0 [] 4 19 2 kdJ_bappS sp_J_bappS := by
  intro av M d Q h
  unfold sp_J_bappS at h
  split at h
  · rename_i b t
    obtain ⟨rfl, M0, d0, n, hs, hn, hq⟩ := h
    have hb := hs.2.1.1
    obtain ⟨K, hK, hK2⟩ : ∃ K : Nat → mm_K, (∀ t ls st M d u, K t ls st M d u → rr_J_bappS Q t ls st M d u) ∧ (∀ t ls st M d u, rr_J_bappS Q t ls st M d u → K t ls st M d u) := ⟨rr_J_bappS Q, fun _ _ _ _ _ _ h => h, fun _ _ _ _ _ _ h => h⟩
    have k5 : ∀ M' d', sC M0 d0 M' d' b (n + 1) 0 → K 5 [some (mm_R b), some (mm_R 28)] [mm_R b] M' d' 19 := by
      intro M' d' h
      have fin := hq _ _ h
      refine hK2 _ _ _ _ _ _ ?_
      refine mm_run_at (stop := []) (S := K) kkJ_bappS 90 ?_ (fun _ _ _ _ _ _ _ h => hK _ _ _ _ _ _ h)
      repeat' (first | with_reducible assumption | with_reducible exact True.intro | ((with_reducible show mm_rv _ _ _ _ _); first | exact True.intro) | ((with_reducible show mm_bool _ _); first | exact True.intro | exact Or.inl rfl | exact Or.inr rfl | (show (_ : Int) = 0 ∨ _ = 1)) | rfl | with_reducible exact Or.inl rfl | with_reducible exact Or.inr rfl | exact Nat.le_of_ble_eq_true rfl | refine And.intro ?_ ?_ | intro _)
      all_goals (try simp (disch := omega) only [InI, Int.toNat_natCast, Int.tmod_eq_emod_of_nonneg, Int.tdiv_eq_ediv_of_nonneg, true_implies, true_or, or_true, mm_l18, mm_l19, mm_l20, mm_l21, mm_l22] at *)
      all_goals first | omega | skip
    refine ⟨Nat.le_of_ble_eq_true rfl, ?_⟩
    refine mm_run_at (stop := [5]) (S := K) kkJ_bappS 90 ?_ (fun _ _ _ _ _ _ _ h => hK _ _ _ _ _ _ h)
    refine mj5 rfl (Nat.le_of_ble_eq_true rfl) (by exact hb) (Nat.le_of_ble_eq_true rfl) (Nat.le_of_ble_eq_true rfl) ⟨rfl, M0, d0, n, hs, hn, fun M' d' h => k5 M' d' h⟩
  · exact h.elim
theorem je_bappS {l : Launch} : mm_Jet l yJ_bappS prog_17_method_7_code 2 (some (.object "java/lang/StringBuilder")) 10 192 19 sp_J_bappS := mm_mtJ (own := "java/lang/StringBuilder") rn_J_bappS ⟨by decide +kernel, rfl⟩ kkJ_bappS rfl ⟨by decide, by decide⟩ flJ_bappS_k (⟨mm_semV (C := RXB) (T := TXB) (N := 4) (x := ⟨"java/lang/AbstractStringBuilder", "append", "(Ljava/lang/String;)Ljava/lang/AbstractStringBuilder;"⟩) (je_aappS (l := l)) jw_aappS (mm_t5 158 rfl rfl) (mm_t5 159 rfl rfl) (Or.inr ⟨by decide, rfl⟩) (by decide +kernel) (Nat.le_of_ble_eq_true rfl) (Nat.le_of_ble_eq_true rfl) (Or.inr (Or.inr (Or.inr ⟨rfl, rfl, by decide, (mm_t8 70 rfl rfl), (mm_t4 218 rfl rfl), 4, (mm_t4 189 rfl rfl)⟩))), trivial⟩) (by decide)
def kdJ_sinit2 : List mm_E := [(0, .aload_n 0, 0), (1, .invokespecial 1, 0), (4, .aload_n 1, 0), (5, .invokevirtual 552, 0), (8, .astore_n 3, 0), (9, .aload_n 1, 0), (10, .invokevirtual 549, 0), (13, .istore 4, 0), (15, .aload_n 1, 0), (16, .invokevirtual 1047, 0), (19, .ifCond .eq 22, 41), (22, .aload_n 0, 0), (23, .iconst 0, 0), (24, .putfield 15, 0), (27, .aload_n 0, 0), (28, .aload_n 3, 0), (29, .iconst 0, 0), (30, .iload 4, 0), (32, .invokestatic 54, 0), (35, .putfield 9, 0), (38, .goto 59, 97), (41, .getstatic 38, 0), (44, .ifCond .eq 35, 79), (47, .aload_n 1, 0), (48, .getfield 1048, 0), (51, .ifCond .eq 28, 79), (54, .aload_n 0, 0), (55, .aload_n 3, 0), (56, .iconst 0, 0), (57, .iload 4, 0), (59, .invokestatic 1051, 0), (62, .putfield 9, 0), (65, .aload_n 0, 0), (66, .aload_n 0, 0), (67, .getfield 9, 0), (70, .iload 4, 0), (72, .invokestatic 47, 0), (75, .putfield 15, 0), (78, .return_, 0), (79, .aload_n 0, 0), (80, .iconst 1, 0), (81, .putfield 15, 0), (84, .aload_n 0, 0), (85, .aload_n 3, 0), (86, .iconst 0, 0), (87, .iload 4, 0), (89, .iconst 1, 0), (90, .ishl, 0), (91, .invokestatic 54, 0), (94, .putfield 9, 0), (97, .return_, 0)]
theorem kkJ_sinit2 : mm_chk prog_16_method_150_code kdJ_sinit2 = true := by decide +kernel
def yJ_sinit2 : MethodName := ⟨"java/lang/String", "<init>", "(Ljava/lang/AbstractStringBuilder;Ljava/lang/Void;)V"⟩
theorem jw_sinit2 : mm_JW yJ_sinit2 prog_16_method_150_code 5 none := ⟨(mm_t5 124 rfl rfl), (mm_t1 14 rfl rfl), ⟨by decide, by decide⟩⟩
def sp_J_sinit2 : mm_S := fun av M d Q => match av with
  | [.inr (.inr (.inl t)), .inr (.inr (.inl b)), .inr (.inr (.inl z))] =>  z = 0 ∧ ∃ M0 d0 n, sC M0 d0 M d b n 0 ∧ bO d0 M d t 17 ∧ ∀ M' d', bX M0 d0 M' d' → Q (.inl none) M' d'
  | _ => False
def ct_J_sinit2 : List (Nat × mm_Ca) := [(552, (0, 1, 16, sp_J_getValue, 0)), (549, (0, 1, 16, sp_J_blength, 0)), (1047, (0, 1, 16, sp_J_isLatin1, 0)), (54, (1, 3, 0, sp_J_copyOfRange, 19))]
def flJ_sinit2 : List (Nat × Nat × Nat) := [(38, 0, 98), (1, 0, 90), (9, 0, 91), (15, 1, 91)]
theorem flJ_sinit2_k : ∀ q ∈ flJ_sinit2, mm_lj "java/lang/String" mm_U q.2.1 q.2.2 q.1 := by
  intro q hq
  simp only [flJ_sinit2, List.mem_cons, List.not_mem_nil, or_false] at hq
  rcases hq with rfl | rfl | rfl | rfl
  · exact Or.inr ⟨by decide, (List.forall_mem_cons.mpr ⟨mm_T_U _ (mm_t5 176 rfl rfl), (fun _ h => nomatch h)⟩), (fun h => absurd h (by decide)), (fun h => absurd h (by decide))⟩
  · exact Or.inr ⟨by decide, (List.forall_mem_cons.mpr ⟨mm_T_U _ (mm_t5 125 rfl rfl), (List.forall_mem_cons.mpr ⟨mm_T_U _ (mm_t1 29 rfl rfl), (List.forall_mem_cons.mpr ⟨mm_T_U _ (mm_t1 30 rfl rfl), (fun _ h => nomatch h)⟩)⟩)⟩), (fun h => absurd h (by decide)), (fun h => absurd h (by decide))⟩
  · exact Or.inr ⟨by decide, (List.forall_mem_cons.mpr ⟨mm_T_U _ (mm_t5 207 rfl rfl), (fun _ h => nomatch h)⟩), (fun h => absurd h (by decide)), (fun _ => rfl)⟩
  · exact Or.inr ⟨by decide, (List.forall_mem_cons.mpr ⟨mm_T_U _ (mm_t5 208 rfl rfl), (fun _ h => nomatch h)⟩), (fun h => absurd h (by decide)), (fun _ => rfl)⟩
abbrev rr_J_sinit2 (Q : mm_Q) := mm_run (mm_look flJ_sinit2) (mm_look ct_J_sinit2) mm_x0 (mm_look ([] : List (Nat × Int))) (fun _ => none) 0 19 (fun _ _ => none) Q kdJ_sinit2
set_option maxRecDepth 20000 in
theorem rn_J_sinit2 : mm_RN flJ_sinit2 ct_J_sinit2 mm_x0 [] 0 19 5 kdJ_sinit2 sp_J_sinit2 := by
  intro av M d Q h
  unfold sp_J_sinit2 at h
  split at h
  · rename_i t b z
    obtain ⟨rfl, M0, d0, n, hs, ht, hq⟩ := h
    have hb := hs.2.1.1
    have ht1 := ht.1
    have ht0 : t ≠ 0 := mm_is0 ht1
    have e1 := hs.2.2.1
    have e3 := hs.2.2.2.1
    have n0 := hs.2.2.2.2.1
    have h1 := hs.1
    have ha := hs.2.2.2.2.2.1
    have ha1 := isU (i := 1) (x := 0) ha.1 ht0
    have l1 := hs.2.2.2.2.2.2.1
    have l3 := hs.2.2.2.2.2.2.2.2
    have la : mm_ln (mm_up M t 1 0) (M b 0).toNat = mm_ln M (M b 0).toNat := lnU ht0
    obtain ⟨K, hK, hK2⟩ : ∃ K : Nat → mm_K, (∀ t ls st M d u, K t ls st M d u → rr_J_sinit2 Q t ls st M d u) ∧ (∀ t ls st M d u, rr_J_sinit2 Q t ls st M d u → K t ls st M d u) := ⟨rr_J_sinit2 Q, fun _ _ _ _ _ _ h => h, fun _ _ _ _ _ _ h => h⟩
    have k35 : ∀ o (h9 : Nat → Int) (m v : Int) l3 l4, 100 ≤ o → o ∉ d → K 35 [some (mm_R t), some (mm_R b), some (mm_R 0), l3, l4] [mm_R o, mm_R t] (mm_any (mm_nob (mm_up M t 1 0) o 3 m) o h9) (d ++ [o]) 19 := by
      intro o h9 m v l3 l4 ho hd
      have g0 : bX M0 d0 (mm_up M t 1 0) d := h1.same ht.2 mm_up_o
      have g1 := (g0.new (k := 3) (n := m) ho hd).same ⟨ho, fun z => hd (h1.1.elim (fun d1 e => by rw [e]; exact List.mem_append_left _ z))⟩ (mm_any_o (h := h9))
      have g2 := ((ht.same ht.2.1 (mm_up_o (n := 1) (x := 0))).new (k' := 3) (n := m) ho hd).same ho (mm_any_o (h := h9))
      have fin := hq _ _ (g1.same g2.2 (mm_up_o (n := 0) (x := (o : Int))))
      have g3 := g2.1
      obtain ⟨M1, e1⟩ : ∃ M1, mm_any (mm_nob (mm_up M t 1 0) o 3 m) o h9 = M1 := ⟨_, rfl⟩
      rw [e1] at g3 fin ⊢
      refine hK2 _ _ _ _ _ _ ?_
      refine mm_run_at (stop := []) (S := K) kkJ_sinit2 90 ?_ (fun _ _ _ _ _ _ _ h => hK _ _ _ _ _ _ h)
      repeat' (first | with_reducible assumption | with_reducible exact True.intro | ((with_reducible show mm_rv _ _ _ _ _); first | exact True.intro) | ((with_reducible show mm_bool _ _); first | exact True.intro | exact Or.inl rfl | exact Or.inr rfl | (show (_ : Int) = 0 ∨ _ = 1)) | rfl | with_reducible exact Or.inl rfl | with_reducible exact Or.inr rfl | exact Nat.le_of_ble_eq_true rfl | refine And.intro ?_ ?_ | intro _)
      all_goals (try simp (disch := omega) only [InI, Int.toNat_natCast, Int.tmod_eq_emod_of_nonneg, Int.tdiv_eq_ediv_of_nonneg, true_implies, true_or, or_true, mm_l18, mm_l19, mm_l20, mm_l21, mm_l22] at *)
      all_goals first | omega | skip
    refine ⟨Nat.le_of_ble_eq_true rfl, ?_⟩
    refine mm_run_at (stop := [35]) (S := K) kkJ_sinit2 90 ?_ (fun _ _ _ _ _ _ _ h => hK _ _ _ _ _ _ h)
    repeat' (first | with_reducible assumption | with_reducible exact True.intro | ((with_reducible show mm_rv _ _ _ _ _); first | exact True.intro | exact hb | exact ht0) | exact hb | exact ht0 | ((with_reducible show mm_bool _ _); first | exact True.intro | exact Or.inl rfl | exact Or.inr rfl | (show (_ : Int) = 0 ∨ _ = 1)) | rfl | with_reducible exact Or.inl rfl | with_reducible exact Or.inr rfl | exact Nat.le_of_ble_eq_true rfl | refine And.intro ?_ ?_ | intro _)
    all_goals (try simp (disch := omega) only [la, e3, InI, Int.toNat_natCast, Int.tmod_eq_emod_of_nonneg, Int.tdiv_eq_ediv_of_nonneg, true_implies, true_or, or_true, mm_l18, mm_l19, mm_l20, mm_l21, mm_l22] at *)
    all_goals first | omega | exact k35 _ _ _ 0 _ _ (by assumption) (by assumption) | skip
  · exact h.elim
theorem je_sinit2 {l : Launch} : mm_Jet l yJ_sinit2 prog_16_method_150_code 5 none 9 167 19 sp_J_sinit2 := mm_mtJ (own := "java/lang/String") rn_J_sinit2 ⟨by decide +kernel, rfl⟩ kkJ_sinit2 rfl ⟨by decide, by decide⟩ flJ_sinit2_k (⟨mm_semV (C := RXB) (T := TXB) (N := 4) (x := ⟨"java/lang/AbstractStringBuilder", "getValue", "()[B"⟩) (je_getValue (l := l)) jw_getValue (mm_t5 126 rfl rfl) (mm_t5 127 rfl rfl) (Or.inr ⟨by decide, rfl⟩) (by decide +kernel) (Nat.le_of_ble_eq_true rfl) (Nat.le_of_ble_eq_true rfl) (Or.inl ⟨rfl, rfl, fun _ _ h => h _ (mm_T_U _ (mm_t5 129 rfl rfl))⟩), mm_semV (C := RXB) (T := TXB) (N := 4) (x := ⟨"java/lang/AbstractStringBuilder", "length", "()I"⟩) (je_blength (l := l)) jw_blength (mm_t5 131 rfl rfl) (mm_t5 135 rfl rfl) (Or.inr ⟨by decide, rfl⟩) (by decide +kernel) (Nat.le_of_ble_eq_true rfl) (Nat.le_of_ble_eq_true rfl) (Or.inr (Or.inl ⟨rfl, _, _, _, (mm_t5 134 rfl rfl), (mm_t5 133 rfl rfl), (mm_t5 132 rfl rfl), (mm_t5 138 rfl rfl), ⟨by decide, by decide⟩⟩)), mm_semV (C := RXB) (T := TXB) (N := 4) (x := ⟨"java/lang/AbstractStringBuilder", "isLatin1", "()Z"⟩) (je_isLatin1 (l := l)) jw_isLatin1 (mm_t5 139 rfl rfl) (mm_t5 22 rfl rfl) (Or.inr ⟨by decide, rfl⟩) (by decide +kernel) (Nat.le_of_ble_eq_true rfl) (Nat.le_of_ble_eq_true rfl) (Or.inl ⟨rfl, rfl, fun _ _ h => h _ (mm_T_U _ (mm_t5 24 rfl rfl))⟩), mm_semS (je_copyOfRange (l := l)) jw_copyOfRange (mm_t5 140 rfl rfl) (mm_t5 141 rfl rfl) (by decide +kernel) (Nat.le_of_ble_eq_true rfl) (Nat.le_of_ble_eq_true rfl), trivial⟩) (fun _ _ _ => rfl)
def kdJ_sinit1 : List mm_E := [(0, .aload_n 0, 0), (1, .aload_n 1, 0), (2, .aconst_null, 0), (3, .invokespecial 489, 0), (6, .return_, 0)]
theorem kkJ_sinit1 : mm_chk prog_16_method_53_code kdJ_sinit1 = true := by decide +kernel
def yJ_sinit1 : MethodName := ⟨"java/lang/String", "<init>", "(Ljava/lang/StringBuilder;)V"⟩
theorem jw_sinit1 : mm_JW yJ_sinit1 prog_16_method_53_code 2 none := ⟨(mm_t5 121 rfl rfl), (mm_t1 14 rfl rfl), ⟨by decide, by decide⟩⟩
def sp_J_sinit1 : mm_S := fun av M d Q => match av with
  | [.inr (.inr (.inl t)), .inr (.inr (.inl b))] =>  ∃ M0 d0 n, sC M0 d0 M d b n 0 ∧ bO d0 M d t 17 ∧ ∀ M' d', bX M0 d0 M' d' → Q (.inl none) M' d'
  | _ => False
def ct_J_sinit1 : List (Nat × mm_Ca) := [(489, (2, 3, 17, sp_J_sinit2, 19))]
def flJ_sinit1 : List (Nat × Nat × Nat) := [(1, 0, 90)]
theorem flJ_sinit1_k : ∀ q ∈ flJ_sinit1, mm_lj "java/lang/String" mm_U q.2.1 q.2.2 q.1 := by
  intro q hq
  simp only [flJ_sinit1, List.mem_cons, List.not_mem_nil, or_false] at hq
  subst hq
  · exact Or.inr ⟨by decide, (List.forall_mem_cons.mpr ⟨mm_T_U _ (mm_t5 125 rfl rfl), (List.forall_mem_cons.mpr ⟨mm_T_U _ (mm_t1 29 rfl rfl), (List.forall_mem_cons.mpr ⟨mm_T_U _ (mm_t1 30 rfl rfl), (fun _ h => nomatch h)⟩)⟩)⟩), (fun h => absurd h (by decide)), (fun h => absurd h (by decide))⟩
abbrev rr_J_sinit1 (Q : mm_Q) := mm_run (mm_look flJ_sinit1) (mm_look ct_J_sinit1) mm_x0 (mm_look ([] : List (Nat × Int))) (fun _ => none) 0 19 (fun _ _ => none) Q kdJ_sinit1
set_option maxRecDepth 20000 in
theorem rn_J_sinit1 : mm_RN flJ_sinit1 ct_J_sinit1 mm_x0 [] 0 19 2 kdJ_sinit1 sp_J_sinit1 := by
  intro av M d Q h
  unfold sp_J_sinit1 at h
  split at h
  · rename_i t b
    obtain ⟨M0, d0, n, hs, ht, hq⟩ := h
    have ht1 := ht.1
    obtain ⟨K, hK, hK2⟩ : ∃ K : Nat → mm_K, (∀ t ls st M d u, K t ls st M d u → rr_J_sinit1 Q t ls st M d u) ∧ (∀ t ls st M d u, rr_J_sinit1 Q t ls st M d u → K t ls st M d u) := ⟨rr_J_sinit1 Q, fun _ _ _ _ _ _ h => h, fun _ _ _ _ _ _ h => h⟩
    have k6 : ∀ M' d', bX M0 d0 M' d' → K 6 [some (mm_R t), some (mm_R b)] [] M' d' 19 := by
      intro M' d' h
      have fin := hq _ _ h
      refine hK2 _ _ _ _ _ _ ?_
      refine mm_run_at (stop := []) (S := K) kkJ_sinit1 90 ?_ (fun _ _ _ _ _ _ _ h => hK _ _ _ _ _ _ h)
      repeat' (first | with_reducible assumption | with_reducible exact True.intro | ((with_reducible show mm_rv _ _ _ _ _); first | exact True.intro) | ((with_reducible show mm_bool _ _); first | exact True.intro | exact Or.inl rfl | exact Or.inr rfl | (show (_ : Int) = 0 ∨ _ = 1)) | rfl | with_reducible exact Or.inl rfl | with_reducible exact Or.inr rfl | exact Nat.le_of_ble_eq_true rfl | refine And.intro ?_ ?_ | intro _)
      all_goals (try simp (disch := omega) only [InI, Int.toNat_natCast, Int.tmod_eq_emod_of_nonneg, Int.tdiv_eq_ediv_of_nonneg, true_implies, true_or, or_true, mm_l18, mm_l19, mm_l20, mm_l21, mm_l22] at *)
      all_goals first | omega | skip
    refine ⟨Nat.le_of_ble_eq_true rfl, ?_⟩
    refine mm_run_at (stop := [6]) (S := K) kkJ_sinit1 90 ?_ (fun _ _ _ _ _ _ _ h => hK _ _ _ _ _ _ h)
    refine mj5 rfl (Nat.le_of_ble_eq_true rfl) (by exact ht1) (Nat.le_of_ble_eq_true rfl) (Nat.le_of_ble_eq_true rfl) ⟨rfl, M0, d0, n, hs, ht, fun M' d' h => k6 M' d' h⟩
  · exact h.elim
theorem je_sinit1 {l : Launch} : mm_Jet l yJ_sinit1 prog_16_method_53_code 2 none 10 191 19 sp_J_sinit1 := mm_mtJ (own := "java/lang/String") rn_J_sinit1 ⟨by decide +kernel, rfl⟩ kkJ_sinit1 rfl ⟨by decide, by decide⟩ flJ_sinit1_k (⟨mm_semV (C := RXS) (T := TXS) (N := 4) (x := ⟨"java/lang/String", "<init>", "(Ljava/lang/AbstractStringBuilder;Ljava/lang/Void;)V"⟩) (je_sinit2 (l := l)) jw_sinit2 (mm_t5 122 rfl rfl) (mm_t5 123 rfl rfl) (Or.inr ⟨by decide, rfl⟩) (by decide +kernel) (Nat.le_of_ble_eq_true rfl) (Nat.le_of_ble_eq_true rfl) (Or.inr (Or.inr (Or.inl ⟨rfl, rfl, rfl, rfl⟩))), trivial⟩) (by decide)
def kdJ_toString : List mm_E := [(0, .new 18, 0), (3, .dup, 0), (4, .aload_n 0, 0), (5, .invokespecial 137, 0), (8, .areturn, 0)]
theorem kkJ_toString : mm_chk prog_17_method_42_code kdJ_toString = true := by decide +kernel
def yJ_toString : MethodName := ⟨"java/lang/StringBuilder", "toString", "()Ljava/lang/String;"⟩
theorem jw_toString : mm_JW yJ_toString prog_17_method_42_code 1 (some (.object "java/lang/String")) := ⟨(mm_t5 116 rfl rfl), (mm_t1 13 rfl rfl), ⟨by decide, by decide⟩⟩
def sp_J_toString : mm_S := fun av M d Q => match av with
  | [.inr (.inr (.inl b))] =>  ∃ M0 d0 n, sC M0 d0 M d b n 0 ∧ ∀ M' d' o, bX M0 d0 M' d' → 100 ≤ o → Q (.inl (some (mm_R o))) M' d'
  | _ => False
def ct_J_toString : List (Nat × mm_Ca) := [(137, (2, 2, 17, sp_J_sinit1, 19))]
def flJ_toString : List (Nat × Nat × Nat) := [(18, 17, 99)]
theorem flJ_toString_k : ∀ q ∈ flJ_toString, mm_lj "java/lang/StringBuilder" mm_U q.2.1 q.2.2 q.1 := by
  intro q hq
  simp only [flJ_toString, List.mem_cons, List.not_mem_nil, or_false] at hq
  subst hq
  · exact Or.inr ⟨by decide, (List.forall_mem_cons.mpr ⟨mm_T_U _ (mm_t5 117 rfl rfl), (List.forall_mem_cons.mpr ⟨mm_T_U _ (mm_t5 118 rfl rfl), (List.forall_mem_cons.mpr ⟨mm_T_U _ (mm_t1 14 rfl rfl), (fun _ h => nomatch h)⟩)⟩)⟩), (fun h => absurd h (by decide)), (fun h => absurd h (by decide))⟩
abbrev rr_J_toString (Q : mm_Q) := mm_run (mm_look flJ_toString) (mm_look ct_J_toString) mm_x0 (mm_look ([] : List (Nat × Int))) (fun _ => none) 24 20 (fun _ _ => none) Q kdJ_toString
set_option maxRecDepth 20000 in
theorem rn_J_toString : mm_RN flJ_toString ct_J_toString mm_x0 [] 24 20 1 kdJ_toString sp_J_toString := by
  intro av M d Q h
  unfold sp_J_toString at h
  split at h
  · rename_i b
    obtain ⟨M0, d0, n, hs, hq⟩ := h
    obtain ⟨K, hK, hK2⟩ : ∃ K : Nat → mm_K, (∀ t ls st M d u, K t ls st M d u → rr_J_toString Q t ls st M d u) ∧ (∀ t ls st M d u, rr_J_toString Q t ls st M d u → K t ls st M d u) := ⟨rr_J_toString Q, fun _ _ _ _ _ _ h => h, fun _ _ _ _ _ _ h => h⟩
    have k8 : ∀ o M' d', 100 ≤ o → bX M0 d0 M' d' → K 8 [some (mm_R b)] [mm_R o] M' d' 20 := by
      intro o M' d' ho h
      have fin := hq _ _ o h ho
      refine hK2 _ _ _ _ _ _ ?_
      refine mm_run_at (stop := []) (S := K) kkJ_toString 90 ?_ (fun _ _ _ _ _ _ _ h => hK _ _ _ _ _ _ h)
      repeat' (first | with_reducible assumption | with_reducible exact True.intro | ((with_reducible show mm_rv _ _ _ _ _); first | exact True.intro) | ((with_reducible show mm_bool _ _); first | exact True.intro | exact Or.inl rfl | exact Or.inr rfl | (show (_ : Int) = 0 ∨ _ = 1)) | rfl | with_reducible exact Or.inl rfl | with_reducible exact Or.inr rfl | exact Nat.le_of_ble_eq_true rfl | refine And.intro ?_ ?_ | intro _)
      all_goals (try simp (disch := omega) only [InI, Int.toNat_natCast, Int.tmod_eq_emod_of_nonneg, Int.tdiv_eq_ediv_of_nonneg, true_implies, true_or, or_true, mm_l18, mm_l19, mm_l20, mm_l21, mm_l22] at *)
      all_goals first | omega | skip
    have k3 : ∀ o, 100 ≤ o → o ∉ d → K 3 [some (mm_R b)] [mm_R o] (mm_nob M o 17 0) (d ++ [o]) 1 := by
      intro o ho hd
      have g1 := hs.new (k := 17) (n' := 0) ho hd
      have g2 := bO.mk' (k := 17) (n := 0) hs.1 ho hd (by omega)
      have g3 := g2.1
      refine hK2 _ _ _ _ _ _ ?_
      refine mm_run_at (stop := [8]) (S := K) kkJ_toString 90 ?_ (fun _ _ _ _ _ _ _ h => hK _ _ _ _ _ _ h)
      refine mj5 rfl (Nat.le_of_ble_eq_true rfl) (by exact g3) (Nat.le_of_ble_eq_true rfl) (Nat.le_of_ble_eq_true rfl) ⟨M0, d0, n, g1, g2, fun M' d' h => k8 o M' d' ho h⟩
    refine ⟨Nat.le_of_ble_eq_true rfl, ?_⟩
    refine mm_run_at (stop := [3]) (S := K) kkJ_toString 90 ?_ (fun _ _ _ _ _ _ _ h => hK _ _ _ _ _ _ h)
    refine ⟨Or.inr rfl, Nat.le_of_ble_eq_true rfl, fun o ho hd => k3 o ho hd⟩
  · exact h.elim
theorem je_toString {l : Launch} : mm_Jet l yJ_toString prog_17_method_42_code 1 (some (.object "java/lang/String")) 11 212 20 sp_J_toString := mm_mtJ (own := "java/lang/StringBuilder") rn_J_toString ⟨by decide +kernel, rfl⟩ kkJ_toString rfl ⟨by decide, by decide⟩ flJ_toString_k (⟨mm_semV (C := RXS) (T := TXS) (N := 4) (x := ⟨"java/lang/String", "<init>", "(Ljava/lang/StringBuilder;)V"⟩) (je_sinit1 (l := l)) jw_sinit1 (mm_t5 119 rfl rfl) (mm_t5 120 rfl rfl) (Or.inr ⟨by decide, rfl⟩) (by decide +kernel) (Nat.le_of_ble_eq_true rfl) (Nat.le_of_ble_eq_true rfl) (Or.inr (Or.inr (Or.inl ⟨rfl, rfl, rfl, rfl⟩))), trivial⟩) (by decide)
end
