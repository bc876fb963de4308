section
-- ===== PART A: goes FIRST, ahead of the names: the tables' words, and 'selects' of the private methods out of them =====
/-- a private method of a class that the tables say can be made, by its rows of tables_1 -/
def lw_okq (q : MethodName × Nat) : Prop := (q.1.cls ≠ "java/lang/invoke/MethodHandle" ∧ q.1.cls ≠ "java/lang/invoke/VarHandle") ∧ Cond.instantiable q.1.cls q.2 ∈ tables_1 ∧ Cond.privateMethod q.1 ∈ tables_1 ∧ Cond.instanceMethod q.1 ∈ tables_1
theorem lw_p0 : lw_okq (⟨"java/lang/Throwable", "fillInStackTrace", "(I)Ljava/lang/Throwable;"⟩, 6) := ⟨⟨by decide +kernel, by decide +kernel⟩, List.mem_of_getElem? (i := 653) (by decide +kernel), List.mem_of_getElem? (i := 651) (by decide +kernel), List.mem_of_getElem? (i := 652) (by decide +kernel)⟩
theorem lw_p1 : lw_okq (⟨"BurntOak", "needPlace", "(I)V"⟩, 12) := ⟨⟨by decide +kernel, by decide +kernel⟩, List.mem_of_getElem? (i := 35) (by decide +kernel), List.mem_of_getElem? (i := 691) (by decide +kernel), List.mem_of_getElem? (i := 692) (by decide +kernel)⟩
theorem lw_p2 : lw_okq (⟨"BurntOak", "needYears", "(II)V"⟩, 12) := ⟨⟨by decide +kernel, by decide +kernel⟩, List.mem_of_getElem? (i := 35) (by decide +kernel), List.mem_of_getElem? (i := 710) (by decide +kernel), List.mem_of_getElem? (i := 711) (by decide +kernel)⟩
theorem lw_p3 : lw_okq (⟨"BurntOak", "needState", "(I)V"⟩, 12) := ⟨⟨by decide +kernel, by decide +kernel⟩, List.mem_of_getElem? (i := 35) (by decide +kernel), List.mem_of_getElem? (i := 751) (by decide +kernel), List.mem_of_getElem? (i := 752) (by decide +kernel)⟩
theorem lw_p4 : lw_okq (⟨"BurntOak", "needYear", "(I)V"⟩, 12) := ⟨⟨by decide +kernel, by decide +kernel⟩, List.mem_of_getElem? (i := 35) (by decide +kernel), List.mem_of_getElem? (i := 762) (by decide +kernel), List.mem_of_getElem? (i := 763) (by decide +kernel)⟩
theorem lw_p5 : lw_okq (⟨"BurntOak$YearMap", "isThere", "(III)Z"⟩, 12) := ⟨⟨by decide +kernel, by decide +kernel⟩, List.mem_of_getElem? (i := 223) (by decide +kernel), List.mem_of_getElem? (i := 774) (by decide +kernel), List.mem_of_getElem? (i := 775) (by decide +kernel)⟩
theorem lw_p6 : lw_okq (⟨"BurntOak$YearMap", "layWays", "(J)V"⟩, 12) := ⟨⟨by decide +kernel, by decide +kernel⟩, List.mem_of_getElem? (i := 223) (by decide +kernel), List.mem_of_getElem? (i := 784) (by decide +kernel), List.mem_of_getElem? (i := 785) (by decide +kernel)⟩
theorem lw_p7 : lw_okq (⟨"BurntOak$YearMap", "addWay", "(I)V"⟩, 12) := ⟨⟨by decide +kernel, by decide +kernel⟩, List.mem_of_getElem? (i := 223) (by decide +kernel), List.mem_of_getElem? (i := 794) (by decide +kernel), List.mem_of_getElem? (i := 795) (by decide +kernel)⟩
theorem lw_p8 : lw_okq (⟨"BurntOak$YearMap", "addMark", "(IJZ)V"⟩, 12) := ⟨⟨by decide +kernel, by decide +kernel⟩, List.mem_of_getElem? (i := 223) (by decide +kernel), List.mem_of_getElem? (i := 798) (by decide +kernel), List.mem_of_getElem? (i := 799) (by decide +kernel)⟩
theorem lw_p9 : lw_okq (⟨"BurntOak", "needTongue", "(I)V"⟩, 12) := ⟨⟨by decide +kernel, by decide +kernel⟩, List.mem_of_getElem? (i := 35) (by decide +kernel), List.mem_of_getElem? (i := 1130) (by decide +kernel), List.mem_of_getElem? (i := 1131) (by decide +kernel)⟩
theorem lw_p10 : lw_okq (⟨"BurntOak", "needName", "(I)V"⟩, 12) := ⟨⟨by decide +kernel, by decide +kernel⟩, List.mem_of_getElem? (i := 35) (by decide +kernel), List.mem_of_getElem? (i := 1134) (by decide +kernel), List.mem_of_getElem? (i := 1135) (by decide +kernel)⟩
theorem lw_p11 : lw_okq (⟨"BurntOak", "needKinds", "(I)V"⟩, 12) := ⟨⟨by decide +kernel, by decide +kernel⟩, List.mem_of_getElem? (i := 35) (by decide +kernel), List.mem_of_getElem? (i := 1138) (by decide +kernel), List.mem_of_getElem? (i := 1139) (by decide +kernel)⟩
theorem lw_p12 : lw_okq (⟨"BurntOak", "needWalker", "(I)V"⟩, 12) := ⟨⟨by decide +kernel, by decide +kernel⟩, List.mem_of_getElem? (i := 35) (by decide +kernel), List.mem_of_getElem? (i := 1160) (by decide +kernel), List.mem_of_getElem? (i := 1161) (by decide +kernel)⟩
theorem lw_p13 : lw_okq (⟨"BurntOak", "setOut", "(II)V"⟩, 12) := ⟨⟨by decide +kernel, by decide +kernel⟩, List.mem_of_getElem? (i := 35) (by decide +kernel), List.mem_of_getElem? (i := 1164) (by decide +kernel), List.mem_of_getElem? (i := 1165) (by decide +kernel)⟩
theorem lw_p14 : lw_okq (⟨"BurntOak", "needWalkers", "(I)V"⟩, 12) := ⟨⟨by decide +kernel, by decide +kernel⟩, List.mem_of_getElem? (i := 35) (by decide +kernel), List.mem_of_getElem? (i := 1205) (by decide +kernel), List.mem_of_getElem? (i := 1206) (by decide +kernel)⟩
theorem lw_p15 : lw_okq (⟨"BurntOak", "needTeller", "(I)V"⟩, 12) := ⟨⟨by decide +kernel, by decide +kernel⟩, List.mem_of_getElem? (i := 35) (by decide +kernel), List.mem_of_getElem? (i := 1226) (by decide +kernel), List.mem_of_getElem? (i := 1227) (by decide +kernel)⟩
def lw_privs_1 : List (MethodName × Nat) := [(⟨"java/lang/Throwable", "fillInStackTrace", "(I)Ljava/lang/Throwable;"⟩, 6), (⟨"BurntOak", "needPlace", "(I)V"⟩, 12), (⟨"BurntOak", "needYears", "(II)V"⟩, 12), (⟨"BurntOak", "needState", "(I)V"⟩, 12), (⟨"BurntOak", "needYear", "(I)V"⟩, 12), (⟨"BurntOak$YearMap", "isThere", "(III)Z"⟩, 12), (⟨"BurntOak$YearMap", "layWays", "(J)V"⟩, 12), (⟨"BurntOak$YearMap", "addWay", "(I)V"⟩, 12), (⟨"BurntOak$YearMap", "addMark", "(IJZ)V"⟩, 12), (⟨"BurntOak", "needTongue", "(I)V"⟩, 12), (⟨"BurntOak", "needName", "(I)V"⟩, 12), (⟨"BurntOak", "needKinds", "(I)V"⟩, 12), (⟨"BurntOak", "needWalker", "(I)V"⟩, 12), (⟨"BurntOak", "setOut", "(II)V"⟩, 12), (⟨"BurntOak", "needWalkers", "(I)V"⟩, 12), (⟨"BurntOak", "needTeller", "(I)V"⟩, 12)]
theorem lw_r1 : ∀ q ∈ lw_privs_1, lw_okq q := List.forall_mem_cons.mpr ⟨lw_p0, List.forall_mem_cons.mpr ⟨lw_p1, List.forall_mem_cons.mpr ⟨lw_p2, List.forall_mem_cons.mpr ⟨lw_p3, List.forall_mem_cons.mpr ⟨lw_p4, List.forall_mem_cons.mpr ⟨lw_p5, List.forall_mem_cons.mpr ⟨lw_p6, List.forall_mem_cons.mpr ⟨lw_p7, List.forall_mem_cons.mpr ⟨lw_p8, List.forall_mem_cons.mpr ⟨lw_p9, List.forall_mem_cons.mpr ⟨lw_p10, List.forall_mem_cons.mpr ⟨lw_p11, List.forall_mem_cons.mpr ⟨lw_p12, List.forall_mem_cons.mpr ⟨lw_p13, List.forall_mem_cons.mpr ⟨lw_p14, List.forall_mem_cons.mpr ⟨lw_p15, fun _ h => absurd h List.not_mem_nil⟩⟩⟩⟩⟩⟩⟩⟩⟩⟩⟩⟩⟩⟩⟩⟩
theorem lw_p16 : lw_okq (⟨"BurntOak$Reader", "scan", "(I)V"⟩, 14) := ⟨⟨by decide +kernel, by decide +kernel⟩, List.mem_of_getElem? (i := 449) (by decide +kernel), List.mem_of_getElem? (i := 1237) (by decide +kernel), List.mem_of_getElem? (i := 1238) (by decide +kernel)⟩
theorem lw_p17 : lw_okq (⟨"BurntOak$Reader", "scanNumber", "(I)V"⟩, 14) := ⟨⟨by decide +kernel, by decide +kernel⟩, List.mem_of_getElem? (i := 449) (by decide +kernel), List.mem_of_getElem? (i := 1241) (by decide +kernel), List.mem_of_getElem? (i := 1242) (by decide +kernel)⟩
theorem lw_p18 : lw_okq (⟨"BurntOak$Reader", "scanWord", "(I)V"⟩, 14) := ⟨⟨by decide +kernel, by decide +kernel⟩, List.mem_of_getElem? (i := 449) (by decide +kernel), List.mem_of_getElem? (i := 1245) (by decide +kernel), List.mem_of_getElem? (i := 1246) (by decide +kernel)⟩
theorem lw_p19 : lw_okq (⟨"BurntOak$Reader", "isWord", "(I)Z"⟩, 14) := ⟨⟨by decide +kernel, by decide +kernel⟩, List.mem_of_getElem? (i := 449) (by decide +kernel), List.mem_of_getElem? (i := 1249) (by decide +kernel), List.mem_of_getElem? (i := 1250) (by decide +kernel)⟩
theorem lw_p20 : lw_okq (⟨"BurntOak$Reader", "take", "()I"⟩, 14) := ⟨⟨by decide +kernel, by decide +kernel⟩, List.mem_of_getElem? (i := 449) (by decide +kernel), List.mem_of_getElem? (i := 1278) (by decide +kernel), List.mem_of_getElem? (i := 1279) (by decide +kernel)⟩
theorem lw_p21 : lw_okq (⟨"BurntOak$Reader", "takeFirst", "()I"⟩, 14) := ⟨⟨by decide +kernel, by decide +kernel⟩, List.mem_of_getElem? (i := 449) (by decide +kernel), List.mem_of_getElem? (i := 1282) (by decide +kernel), List.mem_of_getElem? (i := 1283) (by decide +kernel)⟩
theorem lw_p22 : lw_okq (⟨"BurntOak$Reader", "takeWord", "()I"⟩, 14) := ⟨⟨by decide +kernel, by decide +kernel⟩, List.mem_of_getElem? (i := 449) (by decide +kernel), List.mem_of_getElem? (i := 1286) (by decide +kernel), List.mem_of_getElem? (i := 1287) (by decide +kernel)⟩
theorem lw_p23 : lw_okq (⟨"BurntOak$Reader", "await", "(II)I"⟩, 14) := ⟨⟨by decide +kernel, by decide +kernel⟩, List.mem_of_getElem? (i := 449) (by decide +kernel), List.mem_of_getElem? (i := 1290) (by decide +kernel), List.mem_of_getElem? (i := 1291) (by decide +kernel)⟩
theorem lw_p24 : lw_okq (⟨"BurntOak$Reader", "keep", "(II)I"⟩, 14) := ⟨⟨by decide +kernel, by decide +kernel⟩, List.mem_of_getElem? (i := 449) (by decide +kernel), List.mem_of_getElem? (i := 1297) (by decide +kernel), List.mem_of_getElem? (i := 1298) (by decide +kernel)⟩
theorem lw_p25 : lw_okq (⟨"BurntOak$Reader", "isBadNumber", "()Z"⟩, 14) := ⟨⟨by decide +kernel, by decide +kernel⟩, List.mem_of_getElem? (i := 449) (by decide +kernel), List.mem_of_getElem? (i := 1301) (by decide +kernel), List.mem_of_getElem? (i := 1302) (by decide +kernel)⟩
theorem lw_p26 : lw_okq (⟨"BurntOak$Reader", "takeAmount", "(I)I"⟩, 14) := ⟨⟨by decide +kernel, by decide +kernel⟩, List.mem_of_getElem? (i := 449) (by decide +kernel), List.mem_of_getElem? (i := 1305) (by decide +kernel), List.mem_of_getElem? (i := 1306) (by decide +kernel)⟩
theorem lw_p27 : lw_okq (⟨"BurntOak$Reader", "takeSide", "()I"⟩, 14) := ⟨⟨by decide +kernel, by decide +kernel⟩, List.mem_of_getElem? (i := 449) (by decide +kernel), List.mem_of_getElem? (i := 1309) (by decide +kernel), List.mem_of_getElem? (i := 1310) (by decide +kernel)⟩
theorem lw_p28 : lw_okq (⟨"BurntOak$Reader", "takeMore", "()I"⟩, 14) := ⟨⟨by decide +kernel, by decide +kernel⟩, List.mem_of_getElem? (i := 449) (by decide +kernel), List.mem_of_getElem? (i := 1313) (by decide +kernel), List.mem_of_getElem? (i := 1314) (by decide +kernel)⟩
theorem lw_p29 : lw_okq (⟨"BurntOak", "needTelling", "(I)V"⟩, 12) := ⟨⟨by decide +kernel, by decide +kernel⟩, List.mem_of_getElem? (i := 35) (by decide +kernel), List.mem_of_getElem? (i := 1329) (by decide +kernel), List.mem_of_getElem? (i := 1330) (by decide +kernel)⟩
theorem lw_p30 : lw_okq (⟨"BurntOak", "needTold", "(IIII)V"⟩, 12) := ⟨⟨by decide +kernel, by decide +kernel⟩, List.mem_of_getElem? (i := 35) (by decide +kernel), List.mem_of_getElem? (i := 1340) (by decide +kernel), List.mem_of_getElem? (i := 1341) (by decide +kernel)⟩
theorem lw_p31 : lw_okq (⟨"BurntOak$Walk", "goTimes", "(I[IILBurntOak$States;)V"⟩, 10) := ⟨⟨by decide +kernel, by decide +kernel⟩, List.mem_of_getElem? (i := 277) (by decide +kernel), List.mem_of_getElem? (i := 1367) (by decide +kernel), List.mem_of_getElem? (i := 1368) (by decide +kernel)⟩
def lw_privs_2 : List (MethodName × Nat) := [(⟨"BurntOak$Reader", "scan", "(I)V"⟩, 14), (⟨"BurntOak$Reader", "scanNumber", "(I)V"⟩, 14), (⟨"BurntOak$Reader", "scanWord", "(I)V"⟩, 14), (⟨"BurntOak$Reader", "isWord", "(I)Z"⟩, 14), (⟨"BurntOak$Reader", "take", "()I"⟩, 14), (⟨"BurntOak$Reader", "takeFirst", "()I"⟩, 14), (⟨"BurntOak$Reader", "takeWord", "()I"⟩, 14), (⟨"BurntOak$Reader", "await", "(II)I"⟩, 14), (⟨"BurntOak$Reader", "keep", "(II)I"⟩, 14), (⟨"BurntOak$Reader", "isBadNumber", "()Z"⟩, 14), (⟨"BurntOak$Reader", "takeAmount", "(I)I"⟩, 14), (⟨"BurntOak$Reader", "takeSide", "()I"⟩, 14), (⟨"BurntOak$Reader", "takeMore", "()I"⟩, 14), (⟨"BurntOak", "needTelling", "(I)V"⟩, 12), (⟨"BurntOak", "needTold", "(IIII)V"⟩, 12), (⟨"BurntOak$Walk", "goTimes", "(I[IILBurntOak$States;)V"⟩, 10)]
theorem lw_r2 : ∀ q ∈ lw_privs_2, lw_okq q := List.forall_mem_cons.mpr ⟨lw_p16, List.forall_mem_cons.mpr ⟨lw_p17, List.forall_mem_cons.mpr ⟨lw_p18, List.forall_mem_cons.mpr ⟨lw_p19, List.forall_mem_cons.mpr ⟨lw_p20, List.forall_mem_cons.mpr ⟨lw_p21, List.forall_mem_cons.mpr ⟨lw_p22, List.forall_mem_cons.mpr ⟨lw_p23, List.forall_mem_cons.mpr ⟨lw_p24, List.forall_mem_cons.mpr ⟨lw_p25, List.forall_mem_cons.mpr ⟨lw_p26, List.forall_mem_cons.mpr ⟨lw_p27, List.forall_mem_cons.mpr ⟨lw_p28, List.forall_mem_cons.mpr ⟨lw_p29, List.forall_mem_cons.mpr ⟨lw_p30, List.forall_mem_cons.mpr ⟨lw_p31, fun _ h => absurd h List.not_mem_nil⟩⟩⟩⟩⟩⟩⟩⟩⟩⟩⟩⟩⟩⟩⟩⟩
theorem lw_p32 : lw_okq (⟨"BurntOak$Steps", "clearNow", "()V"⟩, 11) := ⟨⟨by decide +kernel, by decide +kernel⟩, List.mem_of_getElem? (i := 294) (by decide +kernel), List.mem_of_getElem? (i := 1375) (by decide +kernel), List.mem_of_getElem? (i := 1376) (by decide +kernel)⟩
theorem lw_p33 : lw_okq (⟨"BurntOak$Steps", "carry", "(IJ)V"⟩, 11) := ⟨⟨by decide +kernel, by decide +kernel⟩, List.mem_of_getElem? (i := 294) (by decide +kernel), List.mem_of_getElem? (i := 1384) (by decide +kernel), List.mem_of_getElem? (i := 1385) (by decide +kernel)⟩
theorem lw_p34 : lw_okq (⟨"BurntOak$Walk", "goUntil", "(J[IIZLBurntOak$States;)V"⟩, 10) := ⟨⟨by decide +kernel, by decide +kernel⟩, List.mem_of_getElem? (i := 277) (by decide +kernel), List.mem_of_getElem? (i := 1390) (by decide +kernel), List.mem_of_getElem? (i := 1391) (by decide +kernel)⟩
theorem lw_p35 : lw_okq (⟨"BurntOak$Walk", "goFar", "(I[IILBurntOak$States;)V"⟩, 10) := ⟨⟨by decide +kernel, by decide +kernel⟩, List.mem_of_getElem? (i := 277) (by decide +kernel), List.mem_of_getElem? (i := 1397) (by decide +kernel), List.mem_of_getElem? (i := 1398) (by decide +kernel)⟩
theorem lw_p36 : lw_okq (⟨"BurntOak$Walk", "staySeeing", "(J[IILBurntOak$States;)V"⟩, 10) := ⟨⟨by decide +kernel, by decide +kernel⟩, List.mem_of_getElem? (i := 277) (by decide +kernel), List.mem_of_getElem? (i := 1402) (by decide +kernel), List.mem_of_getElem? (i := 1403) (by decide +kernel)⟩
theorem lw_p37 : lw_okq (⟨"BurntOak$Walk", "stayAheadOf", "(J[IILBurntOak$States;)V"⟩, 10) := ⟨⟨by decide +kernel, by decide +kernel⟩, List.mem_of_getElem? (i := 277) (by decide +kernel), List.mem_of_getElem? (i := 1406) (by decide +kernel), List.mem_of_getElem? (i := 1407) (by decide +kernel)⟩
theorem lw_p38 : lw_okq (⟨"BurntOak$Walk", "goBack", "([IILBurntOak$States;)V"⟩, 10) := ⟨⟨by decide +kernel, by decide +kernel⟩, List.mem_of_getElem? (i := 277) (by decide +kernel), List.mem_of_getElem? (i := 1411) (by decide +kernel), List.mem_of_getElem? (i := 1412) (by decide +kernel)⟩
theorem lw_p39 : lw_okq (⟨"BurntOak$Walk", "sideOf", "(II)I"⟩, 10) := ⟨⟨by decide +kernel, by decide +kernel⟩, List.mem_of_getElem? (i := 277) (by decide +kernel), List.mem_of_getElem? (i := 1415) (by decide +kernel), List.mem_of_getElem? (i := 1416) (by decide +kernel)⟩
theorem lw_p40 : lw_okq (⟨"BurntOak$Walk", "turn", "(I[IILBurntOak$States;)V"⟩, 10) := ⟨⟨by decide +kernel, by decide +kernel⟩, List.mem_of_getElem? (i := 277) (by decide +kernel), List.mem_of_getElem? (i := 1419) (by decide +kernel), List.mem_of_getElem? (i := 1420) (by decide +kernel)⟩
theorem lw_p41 : lw_okq (⟨"BurntOak$Walk", "turnAt", "(IIJLBurntOak$States;)V"⟩, 10) := ⟨⟨by decide +kernel, by decide +kernel⟩, List.mem_of_getElem? (i := 277) (by decide +kernel), List.mem_of_getElem? (i := 1423) (by decide +kernel), List.mem_of_getElem? (i := 1424) (by decide +kernel)⟩
theorem lw_p42 : lw_okq (⟨"BurntOak$Odds", "share", "(ILBurntOak$States;[I)V"⟩, 8) := ⟨⟨by decide +kernel, by decide +kernel⟩, List.mem_of_getElem? (i := 372) (by decide +kernel), List.mem_of_getElem? (i := 1490) (by decide +kernel), List.mem_of_getElem? (i := 1491) (by decide +kernel)⟩
theorem lw_p43 : lw_okq (⟨"BurntOak$Odds", "sumUp", "([I)V"⟩, 8) := ⟨⟨by decide +kernel, by decide +kernel⟩, List.mem_of_getElem? (i := 372) (by decide +kernel), List.mem_of_getElem? (i := 1534) (by decide +kernel), List.mem_of_getElem? (i := 1535) (by decide +kernel)⟩
theorem lw_p44 : lw_okq (⟨"BurntOak", "lossBehind", "(IIIII)I"⟩, 12) := ⟨⟨by decide +kernel, by decide +kernel⟩, List.mem_of_getElem? (i := 35) (by decide +kernel), List.mem_of_getElem? (i := 1547) (by decide +kernel), List.mem_of_getElem? (i := 1548) (by decide +kernel)⟩
theorem lw_p45 : lw_okq (⟨"BurntOak$Finder", "search", "(II)Z"⟩, 11) := ⟨⟨by decide +kernel, by decide +kernel⟩, List.mem_of_getElem? (i := 405) (by decide +kernel), List.mem_of_getElem? (i := 1573) (by decide +kernel), List.mem_of_getElem? (i := 1574) (by decide +kernel)⟩
theorem lw_p46 : lw_okq (⟨"BurntOak$Finder", "arriving", "(III)I"⟩, 11) := ⟨⟨by decide +kernel, by decide +kernel⟩, List.mem_of_getElem? (i := 405) (by decide +kernel), List.mem_of_getElem? (i := 1578) (by decide +kernel), List.mem_of_getElem? (i := 1579) (by decide +kernel)⟩
theorem lw_p47 : lw_okq (⟨"BurntOak$Finder", "judge", "(II)V"⟩, 11) := ⟨⟨by decide +kernel, by decide +kernel⟩, List.mem_of_getElem? (i := 405) (by decide +kernel), List.mem_of_getElem? (i := 1596) (by decide +kernel), List.mem_of_getElem? (i := 1597) (by decide +kernel)⟩
def lw_privs_3 : List (MethodName × Nat) := [(⟨"BurntOak$Steps", "clearNow", "()V"⟩, 11), (⟨"BurntOak$Steps", "carry", "(IJ)V"⟩, 11), (⟨"BurntOak$Walk", "goUntil", "(J[IIZLBurntOak$States;)V"⟩, 10), (⟨"BurntOak$Walk", "goFar", "(I[IILBurntOak$States;)V"⟩, 10), (⟨"BurntOak$Walk", "staySeeing", "(J[IILBurntOak$States;)V"⟩, 10), (⟨"BurntOak$Walk", "stayAheadOf", "(J[IILBurntOak$States;)V"⟩, 10), (⟨"BurntOak$Walk", "goBack", "([IILBurntOak$States;)V"⟩, 10), (⟨"BurntOak$Walk", "sideOf", "(II)I"⟩, 10), (⟨"BurntOak$Walk", "turn", "(I[IILBurntOak$States;)V"⟩, 10), (⟨"BurntOak$Walk", "turnAt", "(IIJLBurntOak$States;)V"⟩, 10), (⟨"BurntOak$Odds", "share", "(ILBurntOak$States;[I)V"⟩, 8), (⟨"BurntOak$Odds", "sumUp", "([I)V"⟩, 8), (⟨"BurntOak", "lossBehind", "(IIIII)I"⟩, 12), (⟨"BurntOak$Finder", "search", "(II)Z"⟩, 11), (⟨"BurntOak$Finder", "arriving", "(III)I"⟩, 11), (⟨"BurntOak$Finder", "judge", "(II)V"⟩, 11)]
theorem lw_r3 : ∀ q ∈ lw_privs_3, lw_okq q := List.forall_mem_cons.mpr ⟨lw_p32, List.forall_mem_cons.mpr ⟨lw_p33, List.forall_mem_cons.mpr ⟨lw_p34, List.forall_mem_cons.mpr ⟨lw_p35, List.forall_mem_cons.mpr ⟨lw_p36, List.forall_mem_cons.mpr ⟨lw_p37, List.forall_mem_cons.mpr ⟨lw_p38, List.forall_mem_cons.mpr ⟨lw_p39, List.forall_mem_cons.mpr ⟨lw_p40, List.forall_mem_cons.mpr ⟨lw_p41, List.forall_mem_cons.mpr ⟨lw_p42, List.forall_mem_cons.mpr ⟨lw_p43, List.forall_mem_cons.mpr ⟨lw_p44, List.forall_mem_cons.mpr ⟨lw_p45, List.forall_mem_cons.mpr ⟨lw_p46, List.forall_mem_cons.mpr ⟨lw_p47, fun _ h => absurd h List.not_mem_nil⟩⟩⟩⟩⟩⟩⟩⟩⟩⟩⟩⟩⟩⟩⟩⟩
theorem lw_p48 : lw_okq (⟨"BurntOak$Finder", "allGoOn", "(II)Z"⟩, 11) := ⟨⟨by decide +kernel, by decide +kernel⟩, List.mem_of_getElem? (i := 405) (by decide +kernel), List.mem_of_getElem? (i := 1601) (by decide +kernel), List.mem_of_getElem? (i := 1602) (by decide +kernel)⟩
theorem lw_p49 : lw_okq (⟨"BurntOak", "kindsThatFit", "(III)I"⟩, 12) := ⟨⟨by decide +kernel, by decide +kernel⟩, List.mem_of_getElem? (i := 35) (by decide +kernel), List.mem_of_getElem? (i := 1625) (by decide +kernel), List.mem_of_getElem? (i := 1626) (by decide +kernel)⟩
theorem lw_p50 : lw_okq (⟨"BurntOak", "needTray", "(I)V"⟩, 12) := ⟨⟨by decide +kernel, by decide +kernel⟩, List.mem_of_getElem? (i := 35) (by decide +kernel), List.mem_of_getElem? (i := 1648) (by decide +kernel), List.mem_of_getElem? (i := 1649) (by decide +kernel)⟩
theorem lw_p51 : lw_okq (⟨"BurntOak", "needLaid", "(I)V"⟩, 12) := ⟨⟨by decide +kernel, by decide +kernel⟩, List.mem_of_getElem? (i := 35) (by decide +kernel), List.mem_of_getElem? (i := 1666) (by decide +kernel), List.mem_of_getElem? (i := 1667) (by decide +kernel)⟩
theorem lw_p52 : lw_okq (⟨"BurntOak", "needImage", "(I)V"⟩, 12) := ⟨⟨by decide +kernel, by decide +kernel⟩, List.mem_of_getElem? (i := 35) (by decide +kernel), List.mem_of_getElem? (i := 1729) (by decide +kernel), List.mem_of_getElem? (i := 1730) (by decide +kernel)⟩
theorem lw_p53 : lw_okq (⟨"BurntOakModel", "fails", "(I)I"⟩, 40) := ⟨⟨by decide +kernel, by decide +kernel⟩, List.mem_of_getElem? (i := 1754) (by decide +kernel), List.mem_of_getElem? (i := 1893) (by decide +kernel), List.mem_of_getElem? (i := 1894) (by decide +kernel)⟩
theorem lw_p54 : lw_okq (⟨"BurntOakModel", "more", "(I)I"⟩, 40) := ⟨⟨by decide +kernel, by decide +kernel⟩, List.mem_of_getElem? (i := 1754) (by decide +kernel), List.mem_of_getElem? (i := 1897) (by decide +kernel), List.mem_of_getElem? (i := 1898) (by decide +kernel)⟩
theorem lw_p55 : lw_okq (⟨"BurntOakModel", "isPlace", "(I)Z"⟩, 40) := ⟨⟨by decide +kernel, by decide +kernel⟩, List.mem_of_getElem? (i := 1754) (by decide +kernel), List.mem_of_getElem? (i := 1905) (by decide +kernel), List.mem_of_getElem? (i := 1906) (by decide +kernel)⟩
theorem lw_p56 : lw_okq (⟨"BurntOakModel", "is", "(II)Z"⟩, 40) := ⟨⟨by decide +kernel, by decide +kernel⟩, List.mem_of_getElem? (i := 1754) (by decide +kernel), List.mem_of_getElem? (i := 1909) (by decide +kernel), List.mem_of_getElem? (i := 1910) (by decide +kernel)⟩
theorem lw_p57 : lw_okq (⟨"BurntOakModel", "wayOf", "(II)I"⟩, 40) := ⟨⟨by decide +kernel, by decide +kernel⟩, List.mem_of_getElem? (i := 1754) (by decide +kernel), List.mem_of_getElem? (i := 1918) (by decide +kernel), List.mem_of_getElem? (i := 1919) (by decide +kernel)⟩
theorem lw_p58 : lw_okq (⟨"BurntOakModel", "isState", "(I)Z"⟩, 40) := ⟨⟨by decide +kernel, by decide +kernel⟩, List.mem_of_getElem? (i := 1754) (by decide +kernel), List.mem_of_getElem? (i := 1938) (by decide +kernel), List.mem_of_getElem? (i := 1939) (by decide +kernel)⟩
theorem lw_p59 : lw_okq (⟨"BurntOakModel", "placeOf", "(I)I"⟩, 40) := ⟨⟨by decide +kernel, by decide +kernel⟩, List.mem_of_getElem? (i := 1754) (by decide +kernel), List.mem_of_getElem? (i := 1942) (by decide +kernel), List.mem_of_getElem? (i := 1943) (by decide +kernel)⟩
theorem lw_p60 : lw_okq (⟨"BurntOakModel", "endOf", "(II)I"⟩, 40) := ⟨⟨by decide +kernel, by decide +kernel⟩, List.mem_of_getElem? (i := 1754) (by decide +kernel), List.mem_of_getElem? (i := 1946) (by decide +kernel), List.mem_of_getElem? (i := 1947) (by decide +kernel)⟩
theorem lw_p61 : lw_okq (⟨"BurntOakModel", "isOut", "(III)Z"⟩, 40) := ⟨⟨by decide +kernel, by decide +kernel⟩, List.mem_of_getElem? (i := 1754) (by decide +kernel), List.mem_of_getElem? (i := 1954) (by decide +kernel), List.mem_of_getElem? (i := 1955) (by decide +kernel)⟩
theorem lw_p62 : lw_okq (⟨"BurntOakModel", "isThere", "(II)Z"⟩, 40) := ⟨⟨by decide +kernel, by decide +kernel⟩, List.mem_of_getElem? (i := 1754) (by decide +kernel), List.mem_of_getElem? (i := 1958) (by decide +kernel), List.mem_of_getElem? (i := 1959) (by decide +kernel)⟩
theorem lw_p63 : lw_okq (⟨"BurntOakModel", "cross", "(II)I"⟩, 40) := ⟨⟨by decide +kernel, by decide +kernel⟩, List.mem_of_getElem? (i := 1754) (by decide +kernel), List.mem_of_getElem? (i := 1962) (by decide +kernel), List.mem_of_getElem? (i := 1963) (by decide +kernel)⟩
def lw_privs_4 : List (MethodName × Nat) := [(⟨"BurntOak$Finder", "allGoOn", "(II)Z"⟩, 11), (⟨"BurntOak", "kindsThatFit", "(III)I"⟩, 12), (⟨"BurntOak", "needTray", "(I)V"⟩, 12), (⟨"BurntOak", "needLaid", "(I)V"⟩, 12), (⟨"BurntOak", "needImage", "(I)V"⟩, 12), (⟨"BurntOakModel", "fails", "(I)I"⟩, 40), (⟨"BurntOakModel", "more", "(I)I"⟩, 40), (⟨"BurntOakModel", "isPlace", "(I)Z"⟩, 40), (⟨"BurntOakModel", "is", "(II)Z"⟩, 40), (⟨"BurntOakModel", "wayOf", "(II)I"⟩, 40), (⟨"BurntOakModel", "isState", "(I)Z"⟩, 40), (⟨"BurntOakModel", "placeOf", "(I)I"⟩, 40), (⟨"BurntOakModel", "endOf", "(II)I"⟩, 40), (⟨"BurntOakModel", "isOut", "(III)Z"⟩, 40), (⟨"BurntOakModel", "isThere", "(II)Z"⟩, 40), (⟨"BurntOakModel", "cross", "(II)I"⟩, 40)]
theorem lw_r4 : ∀ q ∈ lw_privs_4, lw_okq q := List.forall_mem_cons.mpr ⟨lw_p48, List.forall_mem_cons.mpr ⟨lw_p49, List.forall_mem_cons.mpr ⟨lw_p50, List.forall_mem_cons.mpr ⟨lw_p51, List.forall_mem_cons.mpr ⟨lw_p52, List.forall_mem_cons.mpr ⟨lw_p53, List.forall_mem_cons.mpr ⟨lw_p54, List.forall_mem_cons.mpr ⟨lw_p55, List.forall_mem_cons.mpr ⟨lw_p56, List.forall_mem_cons.mpr ⟨lw_p57, List.forall_mem_cons.mpr ⟨lw_p58, List.forall_mem_cons.mpr ⟨lw_p59, List.forall_mem_cons.mpr ⟨lw_p60, List.forall_mem_cons.mpr ⟨lw_p61, List.forall_mem_cons.mpr ⟨lw_p62, List.forall_mem_cons.mpr ⟨lw_p63, fun _ h => absurd h List.not_mem_nil⟩⟩⟩⟩⟩⟩⟩⟩⟩⟩⟩⟩⟩⟩⟩⟩
theorem lw_p64 : lw_okq (⟨"BurntOakModel", "alongX", "(I)I"⟩, 40) := ⟨⟨by decide +kernel, by decide +kernel⟩, List.mem_of_getElem? (i := 1754) (by decide +kernel), List.mem_of_getElem? (i := 1966) (by decide +kernel), List.mem_of_getElem? (i := 1967) (by decide +kernel)⟩
theorem lw_p65 : lw_okq (⟨"BurntOakModel", "alongY", "(I)I"⟩, 40) := ⟨⟨by decide +kernel, by decide +kernel⟩, List.mem_of_getElem? (i := 1754) (by decide +kernel), List.mem_of_getElem? (i := 1970) (by decide +kernel), List.mem_of_getElem? (i := 1971) (by decide +kernel)⟩
theorem lw_p66 : lw_okq (⟨"BurntOakModel", "lay", "(I)V"⟩, 40) := ⟨⟨by decide +kernel, by decide +kernel⟩, List.mem_of_getElem? (i := 1754) (by decide +kernel), List.mem_of_getElem? (i := 1978) (by decide +kernel), List.mem_of_getElem? (i := 1979) (by decide +kernel)⟩
theorem lw_p67 : lw_okq (⟨"BurntOakModel", "layOne", "(II)V"⟩, 40) := ⟨⟨by decide +kernel, by decide +kernel⟩, List.mem_of_getElem? (i := 1754) (by decide +kernel), List.mem_of_getElem? (i := 1982) (by decide +kernel), List.mem_of_getElem? (i := 1983) (by decide +kernel)⟩
theorem lw_p68 : lw_okq (⟨"BurntOakModel", "isLessTurned", "(III)Z"⟩, 40) := ⟨⟨by decide +kernel, by decide +kernel⟩, List.mem_of_getElem? (i := 1754) (by decide +kernel), List.mem_of_getElem? (i := 1992) (by decide +kernel), List.mem_of_getElem? (i := 1993) (by decide +kernel)⟩
theorem lw_p69 : lw_okq (⟨"BurntOakModel", "dots", "(II)J"⟩, 40) := ⟨⟨by decide +kernel, by decide +kernel⟩, List.mem_of_getElem? (i := 1754) (by decide +kernel), List.mem_of_getElem? (i := 1996) (by decide +kernel), List.mem_of_getElem? (i := 1997) (by decide +kernel)⟩
theorem lw_p70 : lw_okq (⟨"BurntOakModel", "sizes", "(I)J"⟩, 40) := ⟨⟨by decide +kernel, by decide +kernel⟩, List.mem_of_getElem? (i := 1754) (by decide +kernel), List.mem_of_getElem? (i := 2000) (by decide +kernel), List.mem_of_getElem? (i := 2001) (by decide +kernel)⟩
theorem lw_p71 : lw_okq (⟨"BurntOakModel", "isWalker", "(I)Z"⟩, 40) := ⟨⟨by decide +kernel, by decide +kernel⟩, List.mem_of_getElem? (i := 1754) (by decide +kernel), List.mem_of_getElem? (i := 2031) (by decide +kernel), List.mem_of_getElem? (i := 2032) (by decide +kernel)⟩
theorem lw_p72 : lw_okq (⟨"BurntOakModel", "fell", "(I)Z"⟩, 40) := ⟨⟨by decide +kernel, by decide +kernel⟩, List.mem_of_getElem? (i := 1754) (by decide +kernel), List.mem_of_getElem? (i := 2035) (by decide +kernel), List.mem_of_getElem? (i := 2036) (by decide +kernel)⟩
theorem lw_p73 : lw_okq (⟨"BurntOakModel", "isSeenAt", "(IIII)Z"⟩, 40) := ⟨⟨by decide +kernel, by decide +kernel⟩, List.mem_of_getElem? (i := 1754) (by decide +kernel), List.mem_of_getElem? (i := 2039) (by decide +kernel), List.mem_of_getElem? (i := 2040) (by decide +kernel)⟩
theorem lw_p74 : lw_okq (⟨"BurntOakModel", "standsAt", "(IIII)Z"⟩, 40) := ⟨⟨by decide +kernel, by decide +kernel⟩, List.mem_of_getElem? (i := 1754) (by decide +kernel), List.mem_of_getElem? (i := 2043) (by decide +kernel), List.mem_of_getElem? (i := 2044) (by decide +kernel)⟩
theorem lw_p75 : lw_okq (⟨"BurntOakModel", "kindsOf", "(II)I"⟩, 40) := ⟨⟨by decide +kernel, by decide +kernel⟩, List.mem_of_getElem? (i := 1754) (by decide +kernel), List.mem_of_getElem? (i := 2047) (by decide +kernel), List.mem_of_getElem? (i := 2048) (by decide +kernel)⟩
theorem lw_p76 : lw_okq (⟨"BurntOakModel", "isMark", "(III)Z"⟩, 40) := ⟨⟨by decide +kernel, by decide +kernel⟩, List.mem_of_getElem? (i := 1754) (by decide +kernel), List.mem_of_getElem? (i := 2051) (by decide +kernel), List.mem_of_getElem? (i := 2052) (by decide +kernel)⟩
theorem lw_p77 : lw_okq (⟨"BurntOakModel", "areJoined", "(III)Z"⟩, 40) := ⟨⟨by decide +kernel, by decide +kernel⟩, List.mem_of_getElem? (i := 1754) (by decide +kernel), List.mem_of_getElem? (i := 2055) (by decide +kernel), List.mem_of_getElem? (i := 2056) (by decide +kernel)⟩
theorem lw_p78 : lw_okq (⟨"BurntOakModel", "next", "()V"⟩, 40) := ⟨⟨by decide +kernel, by decide +kernel⟩, List.mem_of_getElem? (i := 1754) (by decide +kernel), List.mem_of_getElem? (i := 2072) (by decide +kernel), List.mem_of_getElem? (i := 2073) (by decide +kernel)⟩
theorem lw_p79 : lw_okq (⟨"BurntOakModel", "see", "(I)I"⟩, 40) := ⟨⟨by decide +kernel, by decide +kernel⟩, List.mem_of_getElem? (i := 1754) (by decide +kernel), List.mem_of_getElem? (i := 2079) (by decide +kernel), List.mem_of_getElem? (i := 2080) (by decide +kernel)⟩
def lw_privs_5 : List (MethodName × Nat) := [(⟨"BurntOakModel", "alongX", "(I)I"⟩, 40), (⟨"BurntOakModel", "alongY", "(I)I"⟩, 40), (⟨"BurntOakModel", "lay", "(I)V"⟩, 40), (⟨"BurntOakModel", "layOne", "(II)V"⟩, 40), (⟨"BurntOakModel", "isLessTurned", "(III)Z"⟩, 40), (⟨"BurntOakModel", "dots", "(II)J"⟩, 40), (⟨"BurntOakModel", "sizes", "(I)J"⟩, 40), (⟨"BurntOakModel", "isWalker", "(I)Z"⟩, 40), (⟨"BurntOakModel", "fell", "(I)Z"⟩, 40), (⟨"BurntOakModel", "isSeenAt", "(IIII)Z"⟩, 40), (⟨"BurntOakModel", "standsAt", "(IIII)Z"⟩, 40), (⟨"BurntOakModel", "kindsOf", "(II)I"⟩, 40), (⟨"BurntOakModel", "isMark", "(III)Z"⟩, 40), (⟨"BurntOakModel", "areJoined", "(III)Z"⟩, 40), (⟨"BurntOakModel", "next", "()V"⟩, 40), (⟨"BurntOakModel", "see", "(I)I"⟩, 40)]
theorem lw_r5 : ∀ q ∈ lw_privs_5, lw_okq q := List.forall_mem_cons.mpr ⟨lw_p64, List.forall_mem_cons.mpr ⟨lw_p65, List.forall_mem_cons.mpr ⟨lw_p66, List.forall_mem_cons.mpr ⟨lw_p67, List.forall_mem_cons.mpr ⟨lw_p68, List.forall_mem_cons.mpr ⟨lw_p69, List.forall_mem_cons.mpr ⟨lw_p70, List.forall_mem_cons.mpr ⟨lw_p71, List.forall_mem_cons.mpr ⟨lw_p72, List.forall_mem_cons.mpr ⟨lw_p73, List.forall_mem_cons.mpr ⟨lw_p74, List.forall_mem_cons.mpr ⟨lw_p75, List.forall_mem_cons.mpr ⟨lw_p76, List.forall_mem_cons.mpr ⟨lw_p77, List.forall_mem_cons.mpr ⟨lw_p78, List.forall_mem_cons.mpr ⟨lw_p79, fun _ h => absurd h List.not_mem_nil⟩⟩⟩⟩⟩⟩⟩⟩⟩⟩⟩⟩⟩⟩⟩⟩
theorem lw_p80 : lw_okq (⟨"BurntOakModel", "readSaying", "(I)V"⟩, 40) := ⟨⟨by decide +kernel, by decide +kernel⟩, List.mem_of_getElem? (i := 1754) (by decide +kernel), List.mem_of_getElem? (i := 2086) (by decide +kernel), List.mem_of_getElem? (i := 2087) (by decide +kernel)⟩
theorem lw_p81 : lw_okq (⟨"BurntOakModel", "isBegun", "()Z"⟩, 40) := ⟨⟨by decide +kernel, by decide +kernel⟩, List.mem_of_getElem? (i := 1754) (by decide +kernel), List.mem_of_getElem? (i := 2090) (by decide +kernel), List.mem_of_getElem? (i := 2091) (by decide +kernel)⟩
theorem lw_p82 : lw_okq (⟨"BurntOakModel", "isWord", "(Ljava/lang/String;)Z"⟩, 40) := ⟨⟨by decide +kernel, by decide +kernel⟩, List.mem_of_getElem? (i := 1754) (by decide +kernel), List.mem_of_getElem? (i := 2095) (by decide +kernel), List.mem_of_getElem? (i := 2096) (by decide +kernel)⟩
theorem lw_p83 : lw_okq (⟨"BurntOakModel", "sideNow", "()I"⟩, 40) := ⟨⟨by decide +kernel, by decide +kernel⟩, List.mem_of_getElem? (i := 1754) (by decide +kernel), List.mem_of_getElem? (i := 2107) (by decide +kernel), List.mem_of_getElem? (i := 2108) (by decide +kernel)⟩
theorem lw_p84 : lw_okq (⟨"BurntOakModel", "wrong", "(I)V"⟩, 40) := ⟨⟨by decide +kernel, by decide +kernel⟩, List.mem_of_getElem? (i := 1754) (by decide +kernel), List.mem_of_getElem? (i := 2113) (by decide +kernel), List.mem_of_getElem? (i := 2114) (by decide +kernel)⟩
theorem lw_p85 : lw_okq (⟨"BurntOakModel", "readWord", "(I)V"⟩, 40) := ⟨⟨by decide +kernel, by decide +kernel⟩, List.mem_of_getElem? (i := 1754) (by decide +kernel), List.mem_of_getElem? (i := 2117) (by decide +kernel), List.mem_of_getElem? (i := 2118) (by decide +kernel)⟩
theorem lw_p86 : lw_okq (⟨"BurntOakModel", "readNth", "(I)V"⟩, 40) := ⟨⟨by decide +kernel, by decide +kernel⟩, List.mem_of_getElem? (i := 1754) (by decide +kernel), List.mem_of_getElem? (i := 2121) (by decide +kernel), List.mem_of_getElem? (i := 2122) (by decide +kernel)⟩
theorem lw_p87 : lw_okq (⟨"BurntOakModel", "readNumber", "()I"⟩, 40) := ⟨⟨by decide +kernel, by decide +kernel⟩, List.mem_of_getElem? (i := 1754) (by decide +kernel), List.mem_of_getElem? (i := 2125) (by decide +kernel), List.mem_of_getElem? (i := 2126) (by decide +kernel)⟩
theorem lw_p88 : lw_okq (⟨"BurntOakModel", "readName", "()I"⟩, 40) := ⟨⟨by decide +kernel, by decide +kernel⟩, List.mem_of_getElem? (i := 1754) (by decide +kernel), List.mem_of_getElem? (i := 2130) (by decide +kernel), List.mem_of_getElem? (i := 2131) (by decide +kernel)⟩
theorem lw_p89 : lw_okq (⟨"BurntOakModel", "nameNow", "()I"⟩, 40) := ⟨⟨by decide +kernel, by decide +kernel⟩, List.mem_of_getElem? (i := 1754) (by decide +kernel), List.mem_of_getElem? (i := 2134) (by decide +kernel), List.mem_of_getElem? (i := 2135) (by decide +kernel)⟩
theorem lw_p90 : lw_okq (⟨"BurntOakModel", "lays", "(IIII)V"⟩, 40) := ⟨⟨by decide +kernel, by decide +kernel⟩, List.mem_of_getElem? (i := 1754) (by decide +kernel), List.mem_of_getElem? (i := 2150) (by decide +kernel), List.mem_of_getElem? (i := 2151) (by decide +kernel)⟩
theorem lw_p91 : lw_okq (⟨"BurntOakModel", "keeps", "(III)I"⟩, 40) := ⟨⟨by decide +kernel, by decide +kernel⟩, List.mem_of_getElem? (i := 1754) (by decide +kernel), List.mem_of_getElem? (i := 2159) (by decide +kernel), List.mem_of_getElem? (i := 2160) (by decide +kernel)⟩
theorem lw_p92 : lw_okq (⟨"BurntOakModel", "isTelling", "(I)Z"⟩, 40) := ⟨⟨by decide +kernel, by decide +kernel⟩, List.mem_of_getElem? (i := 1754) (by decide +kernel), List.mem_of_getElem? (i := 2171) (by decide +kernel), List.mem_of_getElem? (i := 2172) (by decide +kernel)⟩
theorem lw_p93 : lw_okq (⟨"BurntOakModel", "sayingsOf", "(I)I"⟩, 40) := ⟨⟨by decide +kernel, by decide +kernel⟩, List.mem_of_getElem? (i := 1754) (by decide +kernel), List.mem_of_getElem? (i := 2175) (by decide +kernel), List.mem_of_getElem? (i := 2176) (by decide +kernel)⟩
theorem lw_p94 : lw_okq (⟨"BurntOakModel", "areThere", "(III)Z"⟩, 40) := ⟨⟨by decide +kernel, by decide +kernel⟩, List.mem_of_getElem? (i := 1754) (by decide +kernel), List.mem_of_getElem? (i := 2183) (by decide +kernel), List.mem_of_getElem? (i := 2184) (by decide +kernel)⟩
theorem lw_p95 : lw_okq (⟨"BurntOakModel", "goes", "(IIIII)I"⟩, 40) := ⟨⟨by decide +kernel, by decide +kernel⟩, List.mem_of_getElem? (i := 1754) (by decide +kernel), List.mem_of_getElem? (i := 2187) (by decide +kernel), List.mem_of_getElem? (i := 2188) (by decide +kernel)⟩
def lw_privs_6 : List (MethodName × Nat) := [(⟨"BurntOakModel", "readSaying", "(I)V"⟩, 40), (⟨"BurntOakModel", "isBegun", "()Z"⟩, 40), (⟨"BurntOakModel", "isWord", "(Ljava/lang/String;)Z"⟩, 40), (⟨"BurntOakModel", "sideNow", "()I"⟩, 40), (⟨"BurntOakModel", "wrong", "(I)V"⟩, 40), (⟨"BurntOakModel", "readWord", "(I)V"⟩, 40), (⟨"BurntOakModel", "readNth", "(I)V"⟩, 40), (⟨"BurntOakModel", "readNumber", "()I"⟩, 40), (⟨"BurntOakModel", "readName", "()I"⟩, 40), (⟨"BurntOakModel", "nameNow", "()I"⟩, 40), (⟨"BurntOakModel", "lays", "(IIII)V"⟩, 40), (⟨"BurntOakModel", "keeps", "(III)I"⟩, 40), (⟨"BurntOakModel", "isTelling", "(I)Z"⟩, 40), (⟨"BurntOakModel", "sayingsOf", "(I)I"⟩, 40), (⟨"BurntOakModel", "areThere", "(III)Z"⟩, 40), (⟨"BurntOakModel", "goes", "(IIIII)I"⟩, 40)]
theorem lw_r6 : ∀ q ∈ lw_privs_6, lw_okq q := List.forall_mem_cons.mpr ⟨lw_p80, List.forall_mem_cons.mpr ⟨lw_p81, List.forall_mem_cons.mpr ⟨lw_p82, List.forall_mem_cons.mpr ⟨lw_p83, List.forall_mem_cons.mpr ⟨lw_p84, List.forall_mem_cons.mpr ⟨lw_p85, List.forall_mem_cons.mpr ⟨lw_p86, List.forall_mem_cons.mpr ⟨lw_p87, List.forall_mem_cons.mpr ⟨lw_p88, List.forall_mem_cons.mpr ⟨lw_p89, List.forall_mem_cons.mpr ⟨lw_p90, List.forall_mem_cons.mpr ⟨lw_p91, List.forall_mem_cons.mpr ⟨lw_p92, List.forall_mem_cons.mpr ⟨lw_p93, List.forall_mem_cons.mpr ⟨lw_p94, List.forall_mem_cons.mpr ⟨lw_p95, fun _ h => absurd h List.not_mem_nil⟩⟩⟩⟩⟩⟩⟩⟩⟩⟩⟩⟩⟩⟩⟩⟩
theorem lw_p96 : lw_okq (⟨"BurntOakModel", "says", "(III)V"⟩, 40) := ⟨⟨by decide +kernel, by decide +kernel⟩, List.mem_of_getElem? (i := 1754) (by decide +kernel), List.mem_of_getElem? (i := 2194) (by decide +kernel), List.mem_of_getElem? (i := 2195) (by decide +kernel)⟩
theorem lw_p97 : lw_okq (⟨"BurntOakModel", "word", "(IIII[JI[JI)V"⟩, 40) := ⟨⟨by decide +kernel, by decide +kernel⟩, List.mem_of_getElem? (i := 1754) (by decide +kernel), List.mem_of_getElem? (i := 2198) (by decide +kernel), List.mem_of_getElem? (i := 2199) (by decide +kernel)⟩
theorem lw_p98 : lw_okq (⟨"BurntOakModel", "onTimes", "(II[JI[JI)V"⟩, 40) := ⟨⟨by decide +kernel, by decide +kernel⟩, List.mem_of_getElem? (i := 1754) (by decide +kernel), List.mem_of_getElem? (i := 2202) (by decide +kernel), List.mem_of_getElem? (i := 2203) (by decide +kernel)⟩
theorem lw_p99 : lw_okq (⟨"BurntOakModel", "patience", "(I)I"⟩, 40) := ⟨⟨by decide +kernel, by decide +kernel⟩, List.mem_of_getElem? (i := 1754) (by decide +kernel), List.mem_of_getElem? (i := 2206) (by decide +kernel), List.mem_of_getElem? (i := 2207) (by decide +kernel)⟩
theorem lw_p100 : lw_okq (⟨"BurntOakModel", "goOn", "([JI[JI)V"⟩, 40) := ⟨⟨by decide +kernel, by decide +kernel⟩, List.mem_of_getElem? (i := 1754) (by decide +kernel), List.mem_of_getElem? (i := 2213) (by decide +kernel), List.mem_of_getElem? (i := 2214) (by decide +kernel)⟩
theorem lw_p101 : lw_okq (⟨"BurntOakModel", "until", "(IIZ[JI[JI)V"⟩, 40) := ⟨⟨by decide +kernel, by decide +kernel⟩, List.mem_of_getElem? (i := 1754) (by decide +kernel), List.mem_of_getElem? (i := 2220) (by decide +kernel), List.mem_of_getElem? (i := 2221) (by decide +kernel)⟩
theorem lw_p102 : lw_okq (⟨"BurntOakModel", "standing", "(II)I"⟩, 40) := ⟨⟨by decide +kernel, by decide +kernel⟩, List.mem_of_getElem? (i := 1754) (by decide +kernel), List.mem_of_getElem? (i := 2224) (by decide +kernel), List.mem_of_getElem? (i := 2225) (by decide +kernel)⟩
theorem lw_p103 : lw_okq (⟨"BurntOakModel", "far", "(II[JI[JI)V"⟩, 40) := ⟨⟨by decide +kernel, by decide +kernel⟩, List.mem_of_getElem? (i := 1754) (by decide +kernel), List.mem_of_getElem? (i := 2232) (by decide +kernel), List.mem_of_getElem? (i := 2233) (by decide +kernel)⟩
theorem lw_p104 : lw_okq (⟨"BurntOakModel", "goOnFar", "(II)V"⟩, 40) := ⟨⟨by decide +kernel, by decide +kernel⟩, List.mem_of_getElem? (i := 1754) (by decide +kernel), List.mem_of_getElem? (i := 2236) (by decide +kernel), List.mem_of_getElem? (i := 2237) (by decide +kernel)⟩
theorem lw_p105 : lw_okq (⟨"BurntOakModel", "isOver", "(III)Z"⟩, 40) := ⟨⟨by decide +kernel, by decide +kernel⟩, List.mem_of_getElem? (i := 1754) (by decide +kernel), List.mem_of_getElem? (i := 2240) (by decide +kernel), List.mem_of_getElem? (i := 2241) (by decide +kernel)⟩
theorem lw_p106 : lw_okq (⟨"BurntOakModel", "sideOf", "(II)I"⟩, 40) := ⟨⟨by decide +kernel, by decide +kernel⟩, List.mem_of_getElem? (i := 1754) (by decide +kernel), List.mem_of_getElem? (i := 2244) (by decide +kernel), List.mem_of_getElem? (i := 2245) (by decide +kernel)⟩
theorem lw_p107 : lw_okq (⟨"BurntOakModel", "nth", "(IIII[JI[JI)V"⟩, 40) := ⟨⟨by decide +kernel, by decide +kernel⟩, List.mem_of_getElem? (i := 1754) (by decide +kernel), List.mem_of_getElem? (i := 2248) (by decide +kernel), List.mem_of_getElem? (i := 2249) (by decide +kernel)⟩
theorem lw_p108 : lw_okq (⟨"BurntOakModel", "countsPaths", "(I)Z"⟩, 40) := ⟨⟨by decide +kernel, by decide +kernel⟩, List.mem_of_getElem? (i := 1754) (by decide +kernel), List.mem_of_getElem? (i := 2252) (by decide +kernel), List.mem_of_getElem? (i := 2253) (by decide +kernel)⟩
theorem lw_p109 : lw_okq (⟨"BurntOakModel", "placesOf", "([Z)I"⟩, 40) := ⟨⟨by decide +kernel, by decide +kernel⟩, List.mem_of_getElem? (i := 1754) (by decide +kernel), List.mem_of_getElem? (i := 2264) (by decide +kernel), List.mem_of_getElem? (i := 2265) (by decide +kernel)⟩
theorem lw_p110 : lw_okq (⟨"BurntOakModel", "isRight", "(IIII)Z"⟩, 40) := ⟨⟨by decide +kernel, by decide +kernel⟩, List.mem_of_getElem? (i := 1754) (by decide +kernel), List.mem_of_getElem? (i := 2272) (by decide +kernel), List.mem_of_getElem? (i := 2273) (by decide +kernel)⟩
theorem lw_p111 : lw_okq (⟨"BurntOakModel", "goalOf", "(I)I"⟩, 40) := ⟨⟨by decide +kernel, by decide +kernel⟩, List.mem_of_getElem? (i := 1754) (by decide +kernel), List.mem_of_getElem? (i := 2276) (by decide +kernel), List.mem_of_getElem? (i := 2277) (by decide +kernel)⟩
def lw_privs_7 : List (MethodName × Nat) := [(⟨"BurntOakModel", "says", "(III)V"⟩, 40), (⟨"BurntOakModel", "word", "(IIII[JI[JI)V"⟩, 40), (⟨"BurntOakModel", "onTimes", "(II[JI[JI)V"⟩, 40), (⟨"BurntOakModel", "patience", "(I)I"⟩, 40), (⟨"BurntOakModel", "goOn", "([JI[JI)V"⟩, 40), (⟨"BurntOakModel", "until", "(IIZ[JI[JI)V"⟩, 40), (⟨"BurntOakModel", "standing", "(II)I"⟩, 40), (⟨"BurntOakModel", "far", "(II[JI[JI)V"⟩, 40), (⟨"BurntOakModel", "goOnFar", "(II)V"⟩, 40), (⟨"BurntOakModel", "isOver", "(III)Z"⟩, 40), (⟨"BurntOakModel", "sideOf", "(II)I"⟩, 40), (⟨"BurntOakModel", "nth", "(IIII[JI[JI)V"⟩, 40), (⟨"BurntOakModel", "countsPaths", "(I)Z"⟩, 40), (⟨"BurntOakModel", "placesOf", "([Z)I"⟩, 40), (⟨"BurntOakModel", "isRight", "(IIII)Z"⟩, 40), (⟨"BurntOakModel", "goalOf", "(I)I"⟩, 40)]
theorem lw_r7 : ∀ q ∈ lw_privs_7, lw_okq q := List.forall_mem_cons.mpr ⟨lw_p96, List.forall_mem_cons.mpr ⟨lw_p97, List.forall_mem_cons.mpr ⟨lw_p98, List.forall_mem_cons.mpr ⟨lw_p99, List.forall_mem_cons.mpr ⟨lw_p100, List.forall_mem_cons.mpr ⟨lw_p101, List.forall_mem_cons.mpr ⟨lw_p102, List.forall_mem_cons.mpr ⟨lw_p103, List.forall_mem_cons.mpr ⟨lw_p104, List.forall_mem_cons.mpr ⟨lw_p105, List.forall_mem_cons.mpr ⟨lw_p106, List.forall_mem_cons.mpr ⟨lw_p107, List.forall_mem_cons.mpr ⟨lw_p108, List.forall_mem_cons.mpr ⟨lw_p109, List.forall_mem_cons.mpr ⟨lw_p110, List.forall_mem_cons.mpr ⟨lw_p111, fun _ h => absurd h List.not_mem_nil⟩⟩⟩⟩⟩⟩⟩⟩⟩⟩⟩⟩⟩⟩⟩⟩
theorem lw_p112 : lw_okq (⟨"BurntOakModel", "oddsFrom", "(IIII)V"⟩, 40) := ⟨⟨by decide +kernel, by decide +kernel⟩, List.mem_of_getElem? (i := 1754) (by decide +kernel), List.mem_of_getElem? (i := 2284) (by decide +kernel), List.mem_of_getElem? (i := 2285) (by decide +kernel)⟩
theorem lw_p113 : lw_okq (⟨"BurntOakModel", "oddsOn", "(III)V"⟩, 40) := ⟨⟨by decide +kernel, by decide +kernel⟩, List.mem_of_getElem? (i := 1754) (by decide +kernel), List.mem_of_getElem? (i := 2289) (by decide +kernel), List.mem_of_getElem? (i := 2290) (by decide +kernel)⟩
theorem lw_p114 : lw_okq (⟨"BurntOakModel", "parted", "(I[J[I)V"⟩, 40) := ⟨⟨by decide +kernel, by decide +kernel⟩, List.mem_of_getElem? (i := 1754) (by decide +kernel), List.mem_of_getElem? (i := 2293) (by decide +kernel), List.mem_of_getElem? (i := 2294) (by decide +kernel)⟩
theorem lw_p115 : lw_okq (⟨"BurntOakModel", "shareAt", "(I)I"⟩, 40) := ⟨⟨by decide +kernel, by decide +kernel⟩, List.mem_of_getElem? (i := 1754) (by decide +kernel), List.mem_of_getElem? (i := 2297) (by decide +kernel), List.mem_of_getElem? (i := 2298) (by decide +kernel)⟩
theorem lw_p116 : lw_okq (⟨"BurntOakModel", "seek", "(II)Z"⟩, 40) := ⟨⟨by decide +kernel, by decide +kernel⟩, List.mem_of_getElem? (i := 1754) (by decide +kernel), List.mem_of_getElem? (i := 2327) (by decide +kernel), List.mem_of_getElem? (i := 2328) (by decide +kernel)⟩
theorem lw_p117 : lw_okq (⟨"BurntOakModel", "areAll", "(I)Z"⟩, 40) := ⟨⟨by decide +kernel, by decide +kernel⟩, List.mem_of_getElem? (i := 1754) (by decide +kernel), List.mem_of_getElem? (i := 2331) (by decide +kernel), List.mem_of_getElem? (i := 2332) (by decide +kernel)⟩
theorem lw_p118 : lw_okq (⟨"BurntOakModel", "tries", "(II)Z"⟩, 40) := ⟨⟨by decide +kernel, by decide +kernel⟩, List.mem_of_getElem? (i := 1754) (by decide +kernel), List.mem_of_getElem? (i := 2335) (by decide +kernel), List.mem_of_getElem? (i := 2336) (by decide +kernel)⟩
theorem lw_p119 : lw_okq (⟨"BurntOakModel", "isAsWent", "(I)Z"⟩, 40) := ⟨⟨by decide +kernel, by decide +kernel⟩, List.mem_of_getElem? (i := 1754) (by decide +kernel), List.mem_of_getElem? (i := 2347) (by decide +kernel), List.mem_of_getElem? (i := 2348) (by decide +kernel)⟩
theorem lw_p120 : lw_okq (⟨"BurntOakModel", "records", "(IZ)I"⟩, 40) := ⟨⟨by decide +kernel, by decide +kernel⟩, List.mem_of_getElem? (i := 1754) (by decide +kernel), List.mem_of_getElem? (i := 2355) (by decide +kernel), List.mem_of_getElem? (i := 2356) (by decide +kernel)⟩
def lw_privs_8 : List (MethodName × Nat) := [(⟨"BurntOakModel", "oddsFrom", "(IIII)V"⟩, 40), (⟨"BurntOakModel", "oddsOn", "(III)V"⟩, 40), (⟨"BurntOakModel", "parted", "(I[J[I)V"⟩, 40), (⟨"BurntOakModel", "shareAt", "(I)I"⟩, 40), (⟨"BurntOakModel", "seek", "(II)Z"⟩, 40), (⟨"BurntOakModel", "areAll", "(I)Z"⟩, 40), (⟨"BurntOakModel", "tries", "(II)Z"⟩, 40), (⟨"BurntOakModel", "isAsWent", "(I)Z"⟩, 40), (⟨"BurntOakModel", "records", "(IZ)I"⟩, 40)]
theorem lw_r8 : ∀ q ∈ lw_privs_8, lw_okq q := List.forall_mem_cons.mpr ⟨lw_p112, List.forall_mem_cons.mpr ⟨lw_p113, List.forall_mem_cons.mpr ⟨lw_p114, List.forall_mem_cons.mpr ⟨lw_p115, List.forall_mem_cons.mpr ⟨lw_p116, List.forall_mem_cons.mpr ⟨lw_p117, List.forall_mem_cons.mpr ⟨lw_p118, List.forall_mem_cons.mpr ⟨lw_p119, List.forall_mem_cons.mpr ⟨lw_p120, fun _ h => absurd h List.not_mem_nil⟩⟩⟩⟩⟩⟩⟩⟩⟩
def lw_privs : List (MethodName × Nat) := lw_privs_1 ++ (lw_privs_2 ++ (lw_privs_3 ++ (lw_privs_4 ++ (lw_privs_5 ++ (lw_privs_6 ++ (lw_privs_7 ++ (lw_privs_8)))))))
def lw_tbl : List Cond := k2_sels lw_privs ++ tables_1
theorem lw_privs_ok : ∀ q ∈ lw_privs, lw_okq q := by
  show ∀ q ∈ lw_privs_1 ++ (lw_privs_2 ++ (lw_privs_3 ++ (lw_privs_4 ++ (lw_privs_5 ++ (lw_privs_6 ++ (lw_privs_7 ++ (lw_privs_8))))))), lw_okq q
  exact List.forall_mem_append.mpr ⟨lw_r1, List.forall_mem_append.mpr ⟨lw_r2, List.forall_mem_append.mpr ⟨lw_r3, List.forall_mem_append.mpr ⟨lw_r4, List.forall_mem_append.mpr ⟨lw_r5, List.forall_mem_append.mpr ⟨lw_r6, List.forall_mem_append.mpr ⟨lw_r7, lw_r8⟩⟩⟩⟩⟩⟩⟩
end
section
/-! ===== BEGIN words of one list among another's, by their places ===== -/
theorem goodIn_r {big : List Cond} (ws : List Cond) (ps : List Nat) (hp : ws = ps.filterMap (fun i => big[i]?)) (h : ws.all goodWord = true) : GoodIn big ws := by
  intro w hw
  have h1 := List.all_eq_true.mp h w hw
  rw [hp] at hw
  obtain ⟨i, -, hi⟩ := List.mem_filterMap.mp hw
  have hm : w ∈ big := by first | exact List.mem_of_getElem? hi | exact List.getElem?_mem hi
  exact ⟨hm, good_of_word h1⟩
theorem goodIn_app {big a b : List Cond} (ha : GoodIn big a) (hb : GoodIn big b) : GoodIn big (a ++ b) := fun w h => (List.mem_append.mp h).elim (ha w) (hb w)
theorem goodIn_ca {big a b : List Cond} {c : Cond} (ha : GoodIn big (c :: a)) (hb : GoodIn big b) : GoodIn big (c :: (a ++ b)) := fun w h => (List.mem_cons.mp h).elim (fun e => ha w (List.mem_cons.mpr (Or.inl e))) (fun h => (List.mem_append.mp h).elim (fun h => ha w (List.mem_cons.mpr (Or.inr h))) (hb w))
theorem goodIn_sub {big ws : List Cond} (hm : ∀ w ∈ ws, w ∈ big) (h : ws.all goodWord = true) : GoodIn big ws := fun w hw => ⟨hm w hw, good_of_word (List.all_eq_true.mp h w hw)⟩
/-! ===== END ===== -/

/-! ===== BEGIN exceptions that leave a method, and their catching by the caller (launches without stack traces) ===== -/
section VXA
/-! The laws vx_back, vx_callV, vx_callS, vx_callSW, vx_throw0, vx_throwS follow proofs of the library, with one case more: JvmDerived/Free/Laws.lean (Back.of_free), Shelf42/LK1.lean (callV, callS), Shelf/KitTraced.lean (throwNew0V, throwNewS). -/
/-- where a method has thrown q: the class by its name, the cell, what was written, the world -/
def vx_T (XC : String → State → State → Prop) (st : State) (q : Addr) (t : State) (mc ms : Nat) (free : Addr → Prop) : Prop :=
  ∃ (E : String) (ce : Cell) (L : List Loc), XC E st t ∧ t.heap[q]? = some ce ∧ ce.vm = .none ∧ st.vm.findClass E = some ce.cls ∧ st.WarmedH t.vm ∧ st.sameButNew ({ t with vm := st.vm } : State) L mc ms ∧ ∀ z ∈ L, free z.base
def vx_Q (Qc : Array Value → State → Outcome → State → Prop) (XC : String → State → State → Prop) (mc ms : Nat) (free : Addr → Prop) : Array Value → State → Outcome → State → Prop := fun a st o t =>
  (Qc a st o t ∧ ∃ L, FrameEnd st o t L mc ms ∧ ∀ q ∈ L, free q.base) ∨ ∃ q, o = .threw q ∧ vx_T XC st q t mc ms free
/-- a callee that returns or throws -/
def vx_Met (l : Launch) (y : MethodName) (ws : List Cond) (rm : Room) (Pc : Array Value → State → Prop) (Qc : Array Value → State → Outcome → State → Prop) (XC : String → State → State → Prop) (mc ms : Nat) (free : Addr → Prop) : Prop :=
  MetFree l y (headSpec ws rm) Pc (fun _ _ _ _ _ => True) (vx_Q Qc XC mc ms free)
def vx_Post (XC : String → State → State → Prop) (mc ms : Nat) (free : Addr → Prop) : Pt → Array Value → Addr → Pt → Prop := fun A a q B =>
  ∃ (g : JFrame) (mk : MethodId) (t : State) (L : List Loc) (E : String) (ce : Cell), B.U.heap = t.heap ∧ B.U.vm = t.vm ∧ XC E (A.U.calling g mk a) t ∧ t.heap[q]? = some ce ∧ ce.vm = .none ∧ A.U.vm.findClass E = some ce.cls ∧ B.locs = A.locs ++ L ∧ (∀ z ∈ L, free z.base) ∧ B.cells = A.cells + mc ∧ B.slots = A.slots + ms
def vx_Back (l : Launch) (R : Room) (p : Program) (e : Env) (below : List Frame) (s : State) (sargs : Array Value) (y : MethodName) (len W9 : Nat)
    (Pre : Pt → Array Value → Prop) (Post : Pt → Array Value → Option Value → Pt → Prop) (PostX : Pt → Array Value → Addr → Pt → Prop) : Prop :=
  ∀ (m : MethodId) (meth : Method) (c : Code) (A : Pt) (g : JFrame) (ig : Instr) (mk : MethodId) (a : Array Value),
    Stand p l e R s m sargs below meth c A.U A.locs A.cells A.slots → g.method = m → g.locals.size = c.maxLocals → decode c.code g.pc = .ok (ig, len) →
    2 * g.monitorRoom + (g.stack.map fun v => v.category).sum ≤ W9 → A.U.methodNamed? y = some mk → Pre A a →
    (∃ (v : Option Value) (B : Pt), Stand p l e R s m sargs below meth c B.U B.locs B.cells B.slots ∧ Post A a v B ∧
      Steps p.tables e below (doInvoke e (A.U.setTop g) [] mk a).1 (B.U.setTop { g with pc := g.pc + len, stack := v.toList ++ g.stack })) ∨
    (∃ (q : Addr) (B : Pt), Stand p l e R s m sargs below meth c B.U B.locs B.cells B.slots ∧ PostX A a q B ∧
      Steps p.tables e below (doInvoke e (A.U.setTop g) [] mk a).1 ((B.U.setTop g).pushFrame (.throwing q)))
section Payer
variable {l : Launch} {R : Room} {p : Program} {e : Env} {below : List Frame} {s : State} {sargs : Array Value} {y : MethodName} {len W9 : Nat}
theorem vx_back {ws : List Cond} {rm : Room} {Pc : Array Value → State → Prop} {Qc : Array Value → State → Outcome → State → Prop} {XC : String → State → State → Prop} {mc ms : Nat} {free : Addr → Prop} {bytes : ByteArray} {maxL : Nat} {ret : Option FieldType}
    (hM : vx_Met l y ws rm Pc Qc XC mc ms free) (hblind : FrameBlind Pc) (hrc : rm.cells = mc) (hrs : rm.slots = ms)
    (hframes : rm.frames + 1 ≤ R.frames) (hlocals : W9 + (maxL + 11) + rm.locals ≤ R.locals)
    (hws : ∀ w ∈ ws, ∀ a' U, s.WarmedH U.vm → w.before a' U = true) (hcode : Cond.code y bytes maxL ret ∈ ws) (hinit : ∀ a' U, s.WarmedH U.vm → (Cond.initialized y.cls).before a' U = true) :
    vx_Back l R p e below s sargs y len W9 (PreOf R mc ms Pc) (PostOf Qc mc ms free) (vx_Post XC mc ms free) := by
  intro m meth c A g ig mk a X hg hsize hdg hW hn hp
  have h1 : (headSpec ws rm).pre.before a A.U = true := atoms_intro fun w hw => hws w hw _ _ X.warmed
  have h2 : (Cond.code y bytes maxL ret).before a A.U = true := hws _ hcode _ _ X.warmed
  have h3 : (Cond.initialized y.cls).before a A.U = true := hinit _ _ X.warmed
  have h4 : A.cells + (headSpec ws rm).room.cells ≤ R.cells := by rw [show (headSpec ws rm).room.cells = mc from hrc]; exact hp.1
  have h5 : A.slots + (headSpec ws rm).room.slots ≤ R.slots := by rw [show (headSpec ws rm).room.slots = ms from hrs]; exact hp.2.1
  have hPc : Pc a (A.U.calling g mk a) := hblind _ _ _ _ hp.2.2
  obtain ⟨U, Ls, c0, s0⟩ := A
  dsimp only [Pt.U, Pt.locs, Pt.cells, Pt.slots] at h1 h2 h3 h4 h5 X hn hPc ⊢
  obtain ⟨methY, cY, hmY, hcY, -, hlY, -, -, -, -⟩ := Cond.code_spec hn h2
  obtain ⟨kY, hkY, -⟩ := className_of_methodNamed hn
  have hinitY : kY.init = .initialized := Cond.initialized_spec (findClass_of_methodNamed hn) hkY h3
  have h : At U g.method c below := by rw [hg]; exact X.here
  have hlocals9 : W9 + (maxL + 11) + (headSpec ws rm).room.locals ≤ R.locals := hlocals
  have happ : (headSpec ws rm).appliesLoose y e.platform (U.calling g mk a) = true :=
    Spec.appliesLoose_calling (g := g) h hdg hn hkY hinitY
      (X.room_calling (g := g) (R' := (headSpec ws rm).room) hsize hmY hcY hframes (by rw [hlY]; omega) h4 h5) h1
  obtain ⟨mid, hmid⟩ := h.above
  have hfr : (U.setTop g).frames = (.java g :: mid) ++ below := by rw [State.frames_setTop' g h.top, hmid]; rfl
  obtain ⟨o, s₂, hsteps, -, hend, hq⟩ := Steps.callFree hM p X.admits X.cas X.clock (acts := []) hfr happ hPc trivial
  have hq' : vx_Q Qc XC mc ms free a (U.calling g mk a) o s₂ := hq
  rw [State.frames_setTop' g h.top] at hend
  obtain ⟨g₀, hg0⟩ := Option.isSome_iff_exists.mp h.top
  obtain ⟨r, hr⟩ := State.topJava?_eq_some.mp hg0
  have hr' : (({ U with heap := s₂.heap, slotsUsed := s₂.slotsUsed } : State).setVm s₂.vm).frames = .java g₀ :: r := hr
  rcases hq' with ⟨hqc, L, hfe, hL⟩ | ⟨q, rfl, E, ce, L, hx, hce, hcv, hcl, hW₂, hsm, hL⟩
  · obtain ⟨⟨v, rfl⟩, hW₂, e2, q2, q3, q4, q5, q6⟩ := id hfe
    have e3 : s₂ = ({ (U.calling g mk a).setFrames s₂.frames with heap := s₂.heap, slotsUsed := s₂.slotsUsed } : State).setVm s₂.vm := by
      have : s₂ = ({ s₂ with vm := (U.calling g mk a).vm } : State).setVm s₂.vm := rfl
      rw [e2] at this
      exact this
    obtain ⟨c₂, i₂, len₂, hc₂, hd₂, hf₂⟩ := hend
    have hW' : U.WarmedH s₂.vm := hW₂
    have hcc : c₂ = c := by
      have h1 : s₂.code? g.method = U.code? g.method := by
        rw [State.code?_eq, State.code?_eq, hW'.alike.method?]
      exact Option.some.inj (hc₂.symm.trans (h1.trans h.code))
    subst hcc
    have hlen : len₂ = len := by rw [hdg] at hd₂; cases hd₂; rfl
    subst hlen
    have hs₂ : s₂ = (({ U with heap := s₂.heap, slotsUsed := s₂.slotsUsed } : State).setVm s₂.vm).setTop { g with pc := g.pc + len₂, stack := v.toList ++ g.stack } := by
      refine e3.trans ?_
      rw [hf₂, State.calling_eq h.top, State.setFrames_setFrames, State.setTop_of_frames _ hr', hr]
      rfl
    have hsame : U.sameButNew ({ U with heap := s₂.heap, slotsUsed := s₂.slotsUsed } : State) L mc ms := by
      refine ⟨?_, q2, q3, q4, q5, q6⟩
      obtain ⟨t, ht, -⟩ := State.frames_cons hr
      show ({ U with heap := s₂.heap, slotsUsed := s₂.slotsUsed } : State) = { U.setFrames U.frames with heap := s₂.heap, slotsUsed := s₂.slotsUsed }
      rw [State.setFrames_self ht]
    subst hg
    refine Or.inl ⟨v, ⟨(({ U with heap := s₂.heap, slotsUsed := s₂.slotsUsed } : State).setVm s₂.vm), Ls ++ L, c0 + mc, s0 + ms⟩,
      ⟨X.admits, X.cas, X.clock, X.frames, X.room, X.hears, X.method, X.code, (X.here.setHeapUsed s₂.heap s₂.slotsUsed).setVm hW'.alike, X.tail, State.WarmedH.trans X.warmed hW', X.limits, X.bytes, X.same.trans (hsame.setVm s.vm)⟩,
      ⟨g, mk, s₂, L, rfl, rfl, hqc, rfl, hL, rfl, rfl⟩, ?_⟩
    show Steps p.tables e below _ ((({ U with heap := s₂.heap, slotsUsed := s₂.slotsUsed } : State).setVm s₂.vm).setTop { g with pc := g.pc + len₂, stack := v.toList ++ g.stack })
    rw [← hs₂]
    exact hsteps
  · obtain ⟨e2, q2, q3, q4, q5, q6⟩ := id hsm
    have e3 : s₂ = ({ (U.calling g mk a).setFrames s₂.frames with heap := s₂.heap, slotsUsed := s₂.slotsUsed } : State).setVm s₂.vm := by
      have : s₂ = ({ s₂ with vm := (U.calling g mk a).vm } : State).setVm s₂.vm := rfl
      rw [e2] at this
      exact this
    have hf₂ : s₂.frames = .throwing q :: .java g :: U.frames.tail := hend
    have hW' : U.WarmedH s₂.vm := hW₂
    have hs₂ : s₂ = ((({ U with heap := s₂.heap, slotsUsed := s₂.slotsUsed } : State).setVm s₂.vm).setTop g).pushFrame (.throwing q) := by
      refine e3.trans ?_
      rw [hf₂, State.calling_eq h.top, State.setFrames_setFrames, State.pushFrame, State.frames_setTop _ hr', State.setTop_of_frames _ hr', State.setFrames_setFrames, hr]
      rfl
    have hsame : U.sameButNew ({ U with heap := s₂.heap, slotsUsed := s₂.slotsUsed } : State) L mc ms := by
      refine ⟨?_, q2, q3, q4, q5, q6⟩
      obtain ⟨t, ht, -⟩ := State.frames_cons hr
      show ({ U with heap := s₂.heap, slotsUsed := s₂.slotsUsed } : State) = { U.setFrames U.frames with heap := s₂.heap, slotsUsed := s₂.slotsUsed }
      rw [State.setFrames_self ht]
    subst hg
    refine Or.inr ⟨q, ⟨(({ U with heap := s₂.heap, slotsUsed := s₂.slotsUsed } : State).setVm s₂.vm), Ls ++ L, c0 + mc, s0 + ms⟩,
      ⟨X.admits, X.cas, X.clock, X.frames, X.room, X.hears, X.method, X.code, (X.here.setHeapUsed s₂.heap s₂.slotsUsed).setVm hW'.alike, X.tail, State.WarmedH.trans X.warmed hW', X.limits, X.bytes, X.same.trans (hsame.setVm s.vm)⟩,
      ⟨g, mk, s₂, L, E, ce, rfl, rfl, hx, hce, hcv, hcl, rfl, hL, rfl, rfl⟩, ?_⟩
    show Steps p.tables e below _ (((({ U with heap := s₂.heap, slotsUsed := s₂.slotsUsed } : State).setVm s₂.vm).setTop g).pushFrame (.throwing q))
    rw [← hs₂]
    exact hsteps
end Payer
section Calls
variable {p : Program} {l : Launch} {e : Env} {R : Room} {s : State} {m : MethodId} {args : Array Value} {below : List Frame} {meth : Method} {c : Code} {T : State} {locs : List Loc} {cells slots : Nat}
theorem vx_callV (X : Stand p l e R s m args below meth c T locs cells slots) (hexec : p.tables.exec = Jvm.exec) {own C : String} {index : Nat} {y : MethodName} {bytes : ByteArray} {maxL : Nat} {ret : Option FieldType}
    (hown : s.vm.findClass own = some m.cls) (hlink : (Cond.methodLink own index y).before args s = true) (hinst : (Cond.instanceMethod y).before args s = true) (hsel : (Cond.selects C y y).before args s = true)
    (hcode : (Cond.code y bytes maxL ret).before args s = true) (hy : y.cls ≠ "java/lang/invoke/MethodHandle" ∧ y.cls ≠ "java/lang/invoke/VarHandle")
    {W9 : Nat} {Pre : Pt → Array Value → Prop} {Post : Pt → Array Value → Option Value → Pt → Prop} {PostX : Pt → Array Value → Addr → Pt → Prop} (hK : vx_Back l R p e below s args y 3 W9 Pre Post PostX)
    {b : Addr} {cellB : Cell} (hcell : T.heap[b]? = some cellB) (hobj : cellB.vm.isStatics = false) (hcls : s.vm.findClass C = some cellB.cls)
    {g : JFrame} (hg : g.method = m) (hsize : g.locals.size = c.maxLocals) {argsL rest : List Value} (hlen : ∀ sig, parseMethodDescriptor y.desc = some sig → argsL.length = sig.parameters.length)
    (hstack : g.stack = argsL.reverse ++ .ref b :: rest) (hW : 2 * g.monitorRoom + (rest.map fun v => v.category).sum ≤ W9) (hdg : decode c.code g.pc = .ok (.invokevirtual index, 3))
    (hpre : ∀ vm₁, s.WarmedH vm₁ → Pre ⟨T.setVm vm₁, locs, cells, slots⟩ (Value.ref b :: argsL).toArray) :
    (∃ (v : Option Value) (vm₁ : Vm) (B : Pt), s.WarmedH vm₁ ∧ Stand p l e R s m args below meth c B.U B.locs B.cells B.slots ∧ Post ⟨T.setVm vm₁, locs, cells, slots⟩ (Value.ref b :: argsL).toArray v B ∧
      ∀ target, Steps p.tables e below (B.U.setTop { g with pc := g.pc + 3, stack := v.toList ++ rest }) target → Steps p.tables e below (T.setTop g) target) ∨
    (∃ (q : Addr) (vm₁ : Vm) (B : Pt), s.WarmedH vm₁ ∧ Stand p l e R s m args below meth c B.U B.locs B.cells B.slots ∧ PostX ⟨T.setVm vm₁, locs, cells, slots⟩ (Value.ref b :: argsL).toArray q B ∧
      Steps p.tables e below (T.setTop g) ((B.U.setTop { g with stack := rest }).pushFrame (.throwing q))) := by
  obtain ⟨mk, methM, hnamed, hmethM, hstM, habM⟩ := Cond.instanceMethod_spec hinst
  obtain ⟨methM', cM, hmethM', -, -, -, -, -, -, hsigM⟩ := Cond.code_spec hnamed hcode
  cases hmethM.symm.trans hmethM'
  obtain ⟨c2, r2, m2, q1, q2, q3, q4, kP, hkP, hkPi⟩ := Cond.selects_spec hsel
  cases hcls.symm.trans q1
  cases (State.methodFound?_of_named hnamed hy).symm.trans q2
  cases hnamed.symm.trans q3
  have hselP : selectMethod e.platform s.vm cellB.cls mk = .method mk := by rw [Launch.admits_selectMethod X.admits]; exact q4
  obtain ⟨vm₁, X₁, hstep₁⟩ := X.invokevirtual hexec hown hlink hnamed hmethM hstM hkP hkPi hy (a := b) (cell := cellB) hcell
    (fun z h => by rw [h] at hobj; cases hobj) hselP hmethM habM hkP hkPi (g := g) hg (argsL := argsL) (rest := rest) (hlen _ hsigM) hstack hdg
  rcases hK m meth c ⟨T.setVm vm₁, locs, cells, slots⟩ { g with stack := rest } (.invokevirtual index) mk (Value.ref b :: argsL).toArray X₁ hg hsize hdg hW (X₁.named hnamed) (hpre vm₁ X₁.warmed) with ⟨v, B, X', hpost, hsteps⟩ | ⟨q, B, X', hpost, hsteps⟩
  · exact Or.inl ⟨v, vm₁, B, X₁.warmed, X', hpost, fun target h => hstep₁ _ fun acts => by rw [doInvoke_state]; exact hsteps.trans h⟩
  · exact Or.inr ⟨q, vm₁, B, X₁.warmed, X', hpost, hstep₁ _ fun acts => by rw [doInvoke_state]; exact hsteps⟩
theorem vx_callS (X : Stand p l e R s m args below meth c T locs cells slots) (hexec : p.tables.exec = Jvm.exec) {own : String} {index : Nat} {y : MethodName} {bytes : ByteArray} {maxL : Nat} {ret : Option FieldType}
    (hown : s.vm.findClass own = some m.cls) (hlink : (Cond.methodLink own index y).before args s = true) (hstat : (Cond.static y).before args s = true) (hinit : (Cond.initialized y.cls).before args s = true)
    (hcode : (Cond.code y bytes maxL ret).before args s = true) (hy : y.cls ≠ "java/lang/invoke/MethodHandle" ∧ y.cls ≠ "java/lang/invoke/VarHandle")
    {W9 : Nat} {Pre : Pt → Array Value → Prop} {Post : Pt → Array Value → Option Value → Pt → Prop} {PostX : Pt → Array Value → Addr → Pt → Prop} (hK : vx_Back l R p e below s args y 3 W9 Pre Post PostX)
    {g : JFrame} (hg : g.method = m) (hsize : g.locals.size = c.maxLocals) {argsL rest : List Value} (hlen : ∀ sig, parseMethodDescriptor y.desc = some sig → argsL.length = sig.parameters.length)
    (hstack : g.stack = argsL.reverse ++ rest) (hW : 2 * g.monitorRoom + (rest.map fun v => v.category).sum ≤ W9) (hdg : decode c.code g.pc = .ok (.invokestatic index, 3))
    (hpre : ∀ vm₁, s.WarmedH vm₁ → Pre ⟨T.setVm vm₁, locs, cells, slots⟩ argsL.toArray) :
    (∃ (v : Option Value) (vm₁ : Vm) (B : Pt), s.WarmedH vm₁ ∧ Stand p l e R s m args below meth c B.U B.locs B.cells B.slots ∧ Post ⟨T.setVm vm₁, locs, cells, slots⟩ argsL.toArray v B ∧
      ∀ target, Steps p.tables e below (B.U.setTop { g with pc := g.pc + 3, stack := v.toList ++ rest }) target → Steps p.tables e below (T.setTop g) target) ∨
    (∃ (q : Addr) (vm₁ : Vm) (B : Pt), s.WarmedH vm₁ ∧ Stand p l e R s m args below meth c B.U B.locs B.cells B.slots ∧ PostX ⟨T.setVm vm₁, locs, cells, slots⟩ argsL.toArray q B ∧
      Steps p.tables e below (T.setTop g) ((B.U.setTop { g with stack := rest }).pushFrame (.throwing q))) := by
  obtain ⟨mk, hnamed⟩ := Cond.code_named hcode
  obtain ⟨methM, cM, hmethM, -, -, -, -, -, -, hsigM⟩ := Cond.code_spec hnamed hcode
  have hstatic : methM.isStatic = true := Cond.static_spec hnamed hmethM hstat
  obtain ⟨kP, hkP, -⟩ := className_of_methodNamed hnamed
  have hinitP : kP.init = .initialized := Cond.initialized_spec (findClass_of_methodNamed hnamed) hkP hinit
  obtain ⟨vm₁, X₁, hstep₁⟩ := X.invokestatic hexec hown hlink hnamed hmethM hstatic hkP hinitP hy (g := g) hg (argsL := argsL) (rest := rest) (hlen _ hsigM) hstack hdg
  rcases hK m meth c ⟨T.setVm vm₁, locs, cells, slots⟩ { g with stack := rest } (.invokestatic index) mk argsL.toArray X₁ hg hsize hdg hW (X₁.named hnamed) (hpre vm₁ X₁.warmed) with ⟨v, B, X', hpost, hsteps⟩ | ⟨q, B, X', hpost, hsteps⟩
  · exact Or.inl ⟨v, vm₁, B, X₁.warmed, X', hpost, fun target h => hstep₁ _ fun acts => by rw [doInvoke_state]; exact hsteps.trans h⟩
  · exact Or.inr ⟨q, vm₁, B, X₁.warmed, X', hpost, hstep₁ _ fun acts => by rw [doInvoke_state]; exact hsteps⟩
end Calls
theorem vx_cls {s : State} {T : State} {vm₁ : Vm} {E : String} {k : ClassId} (hW : s.WarmedH vm₁) (h : (T.setVm vm₁).vm.findClass E = some k) : s.vm.findClass E = some k := by
  have h1 : vm₁.findClass E = some k := h
  rw [hW.alike.findClass] at h1
  exact h1
/-- the method's frame g, with q thrown over it -/
def vx_W (p : Program) (l : Launch) (e : Env) (R : Room) (s : State) (m : MethodId) (args : Array Value) (below : List Frame) (meth : Method) (c : Code) (H : Heap) (locs : List Loc) (cells slots : Nat) (Q : State → Prop) (g : JFrame) (q : Addr) : Prop :=
  ∀ T : State, T.heap = H → Stand p l e R s m args below meth c T locs cells slots → ∃ t, Steps p.tables e below ((T.setTop g).pushFrame (.throwing q)) t ∧ Q t
def vx_Run (p : Program) (l : Launch) (e : Env) (R : Room) (s : State) (m : MethodId) (args : Array Value) (below : List Frame) (meth : Method) (c : Code) (H : Heap) (locs : List Loc) (cells slots mc ms : Nat) (g : JFrame) (rest : List Value) (Qa : State → Outcome → State → Prop) (XC : String → State → State → Prop) (free : Addr → Prop) : Prop :=
  ∀ T : State, T.heap = H → Stand p l e R s m args below meth c T locs cells slots →
    (∃ (v : Option Value) (st₀ t T' : State) (L : List Loc), st₀.heap = H ∧ Stand p l e R s m args below meth c T' (locs ++ L) (cells + mc) (slots + ms) ∧ (∀ q ∈ L, free q.base) ∧ T'.heap = t.heap ∧ T'.vm = t.vm ∧ Qa st₀ (.returned v) t ∧
      Goes p e below T g T' { g with pc := g.pc + 3, stack := v.toList ++ rest }) ∨
    (∃ (q : Addr) (st₀ t T' : State) (L : List Loc) (E : String) (ce : Cell), st₀.heap = H ∧ Stand p l e R s m args below meth c T' (locs ++ L) (cells + mc) (slots + ms) ∧ (∀ z ∈ L, free z.base) ∧ T'.heap = t.heap ∧ T'.vm = t.vm ∧ XC E st₀ t ∧ t.heap[q]? = some ce ∧ ce.vm = .none ∧ s.vm.findClass E = some ce.cls ∧
      Steps p.tables e below (T.setTop g) ((T'.setTop { g with stack := rest }).pushFrame (.throwing q)))
def vx_X {S : Type} (px : S → Prop) (B : String → S → State → Prop) (A : Nat → Prop) : String → State → State → Prop := fun E st t => ∃ u : S, px u ∧ B E u t ∧ va_F A st t
section Runs
variable {p : Program} {l : Launch} {e : Env} {R : Room} {s : State} {m : MethodId} {args : Array Value} {below : List Frame} {meth : Method} {c : Code} {H : Heap} {locs : List Loc} {cells slots : Nat}
variable {y : MethodName} {bytes cc : ByteArray} {maxL nL mc ms n index : Nat} {ret : Option FieldType} {ws : List Cond} {rm : Room} {Pc : Array Value → State → Prop} {Qc : Array Value → State → Outcome → State → Prop} {XC : String → State → State → Prop} {free : Addr → Prop} {Ts : List Cond} {own C : String} {b : Addr} {As rest : List Value} {g : JFrame}
theorem vx_callBack (cb : CallB R s args own index y bytes maxL ret ws rm mc ms n) (hM : vx_Met l y ws rm Pc Qc XC mc ms free) (hbl : FrameBlind Pc) : vx_Back l R p e below s args y 3 8 (PreOf R mc ms Pc) (PostOf Qc mc ms free) (vx_Post XC mc ms free) := by
  obtain ⟨hrc, hrs, hfr, hlo, hws, hcw, -, hini, -⟩ := cb
  exact vx_back (bytes := bytes) (maxL := maxL) (ret := ret) hM hbl hrc hrs hfr hlo hws hcw (fun a' U hW => word_at hW (Or.inl (by first | rfl | simp [Cond.onTables, Cond.keeps, Cond.steady])) hini)
theorem vx_runV (S : CallFix p m c cc nL s args Ts own) (hM : vx_Met l y ws rm Pc Qc XC mc ms free) (cw : CallW R s args own C index y bytes maxL ret ws rm mc ms n) (hp : PreV s H C b Pc As)
    (hg : g.method = m) (hn : As.length = n) (hsize : g.locals.size = nL) (hstack : g.stack = As.reverse ++ .ref b :: rest) (hW : 2 * g.monitorRoom + (rest.map fun v => v.category).sum ≤ 8) (hdg : decode cc g.pc = .ok (.invokevirtual index, 3)) (hf : cells + mc ≤ R.cells ∧ slots + ms ≤ R.slots) :
    vx_Run p l e R s m args below meth c H locs cells slots mc ms g rest (Qc (Value.ref b :: As).toArray) XC free := by
  have hK : vx_Back l R p e below s args y 3 8 (PreOf R mc ms Pc) (PostOf Qc mc ms free) (vx_Post XC mc ms free) := vx_callBack cw.1 hM hp.1
  obtain ⟨⟨-, -, -, -, -, -, hcode, -, hy, hlen, hl⟩, hin, hse⟩ := cw
  obtain ⟨hx, hb, hml, ho, -⟩ := S
  obtain ⟨-, ⟨cellB, hcB, hoB, hclB⟩, hPc⟩ := hp
  intro T hT X
  rcases vx_callV X hx (C := C) (bytes := bytes) (maxL := maxL) (ret := ret) ho hl hin hse hcode hy hK (by rw [hT]; exact hcB) hoB hclB hg (hsize.trans hml.symm) (argsL := As) (rest := rest) (fun sig h => hn.trans (hlen sig h)) hstack hW (by rw [hb]; exact hdg)
    (fun vm₁ hW₁ => ⟨hf.1, hf.2, hPc (T.setVm vm₁) hT hW₁⟩) with ⟨v, vm₁, ⟨U', l2, c2, s2⟩, hW₁, X', ⟨g', mk, t, L, e1, e2, hq, h1, hL, h2, h3⟩, st⟩ | ⟨q, vm₁, ⟨U', l2, c2, s2⟩, hW₁, X', ⟨g', mk, t, L, E, ce, e1, e2, hq, hce, hcv, hcl, h1, hL, h2, h3⟩, st⟩
  · dsimp only [Pt.U, Pt.locs, Pt.cells, Pt.slots] at X' e1 e2 h1 h2 h3 st
    subst h1; subst h2; subst h3
    exact Or.inl ⟨v, (T.setVm vm₁).calling g' mk (Value.ref b :: As).toArray, t, U', L, hT, X', hL, e1, e2, hq, st⟩
  · dsimp only [Pt.U, Pt.locs, Pt.cells, Pt.slots] at X' e1 e2 h1 h2 h3 st hcl
    subst h1; subst h2; subst h3
    exact Or.inr ⟨q, (T.setVm vm₁).calling g' mk (Value.ref b :: As).toArray, t, U', L, E, ce, hT, X', hL, e1, e2, hq, hce, hcv, vx_cls hW₁ hcl, st⟩
theorem vx_runS (S : CallFix p m c cc nL s args Ts own) (hM : vx_Met l y ws rm Pc Qc XC mc ms free) (cw : CallB R s args own index y bytes maxL ret ws rm mc ms n ∧ (Cond.static y).before args s = true) (hp : PreS s H Pc As)
    (hg : g.method = m) (hn : As.length = n) (hsize : g.locals.size = nL) (hstack : g.stack = As.reverse ++ rest) (hW : 2 * g.monitorRoom + (rest.map fun v => v.category).sum ≤ 8) (hdg : decode cc g.pc = .ok (.invokestatic index, 3)) (hf : cells + mc ≤ R.cells ∧ slots + ms ≤ R.slots) :
    vx_Run p l e R s m args below meth c H locs cells slots mc ms g rest (Qc As.toArray) XC free := by
  have hK : vx_Back l R p e below s args y 3 8 (PreOf R mc ms Pc) (PostOf Qc mc ms free) (vx_Post XC mc ms free) := vx_callBack cw.1 hM hp.1
  obtain ⟨⟨-, -, -, -, -, -, hcode, hini, hy, hlen, hl⟩, hstt⟩ := cw
  obtain ⟨hx, hb, hml, ho, -⟩ := S
  intro T hT X
  rcases vx_callS X hx (bytes := bytes) (maxL := maxL) (ret := ret) ho hl hstt hini hcode hy hK hg (hsize.trans hml.symm) (argsL := As) (rest := rest) (fun sig h => hn.trans (hlen sig h)) hstack hW (by rw [hb]; exact hdg)
    (fun vm₁ hW₁ => ⟨hf.1, hf.2, hp.2 (T.setVm vm₁) hT hW₁⟩) with ⟨v, vm₁, ⟨U', l2, c2, s2⟩, hW₁, X', ⟨g', mk, t, L, e1, e2, hq, h1, hL, h2, h3⟩, st⟩ | ⟨q, vm₁, ⟨U', l2, c2, s2⟩, hW₁, X', ⟨g', mk, t, L, E, ce, e1, e2, hq, hce, hcv, hcl, h1, hL, h2, h3⟩, st⟩
  · dsimp only [Pt.U, Pt.locs, Pt.cells, Pt.slots] at X' e1 e2 h1 h2 h3 st
    subst h1; subst h2; subst h3
    exact Or.inl ⟨v, (T.setVm vm₁).calling g' mk As.toArray, t, U', L, hT, X', hL, e1, e2, hq, st⟩
  · dsimp only [Pt.U, Pt.locs, Pt.cells, Pt.slots] at X' e1 e2 h1 h2 h3 st hcl
    subst h1; subst h2; subst h3
    exact Or.inr ⟨q, (T.setVm vm₁).calling g' mk As.toArray, t, U', L, E, ce, hT, X', hL, e1, e2, hq, hce, hcv, vx_cls hW₁ hcl, st⟩
end Runs
section Rows
variable {p : Program} {l : Launch} {e : Env} {R : Room} {s : State} {m : MethodId} {args : Array Value} {below : List Frame} {meth : Method} {c : Code} {H : Heap} {locs : List Loc} {cells slots : Nat} {Q : State → Prop}
variable {mc ms : Nat} {free : Addr → Prop} {A0 A1 : Nat → Prop} {H0 : Heap} {a : Array Value} {pc : Nat} {ls : Array Slot} {st0 rest : List Value}
theorem vx_keep {st₀ t T' : State} {L : List Loc} (h0 : st₀.heap = H) (e1 : T'.heap = t.heap) (hS : va_S A0 H0 H locs) (hA : ∀ q, q < H.size → A1 q → A0 q) (hf : ∀ q, free q → A0 q) (hL : ∀ q ∈ L, free q.base) (hF : va_F A1 st₀ t) :
    H.size ≤ T'.heap.size ∧ (∀ q : Nat, q < H.size → ¬ A1 q → T'.heap[q]? = H[q]?) ∧ va_S A0 H0 T'.heap (locs ++ L) := by
  obtain ⟨hz, hk⟩ := hF
  rw [h0] at hz hk
  exact ⟨by rw [e1]; exact hz, fun q h1 h2 => by rw [e1]; exact hk q h1 h2,
    ⟨Nat.le_trans hS.1 (by rw [e1]; exact hz), fun q h1 h2 => by rw [e1, hk q (Nat.lt_of_lt_of_le h1 hS.1) (fun z => h2 (hA q (Nat.lt_of_lt_of_le h1 hS.1) z))]; exact hS.2.1 q h1 h2, fun q hq => by
      rcases List.mem_append.mp hq with h | h
      · exact hS.2.2 q h
      · exact hf _ (hL q h)⟩⟩
theorem vx_calli {S SX : Type} {post : Int32 → S → Prop} {px : SX → Prop} {B : S → State → Prop} {BX : String → SX → State → Prop} {AX : Nat → Prop} (hr : vx_Run p l e R s m args below meth c H locs cells slots mc ms (F0 m pc ls st0) rest (va_Qi post B A1 a) (vx_X px BX AX) free) (hS : va_S A0 H0 H locs) (hA : ∀ q, q < H.size → A1 q → A0 q) (hf : ∀ q, free q → A0 q) (hAX : ∀ q, q < H.size → AX q → A0 q)
    (kx : ∀ (E : String) (ce : Cell) (q9 : Addr) (u : SX) (t : State) (H1 : Heap) (locs1 : List Loc), t.heap = H1 → s.vm.Alike t.vm → px u → BX E u t → H.size ≤ H1.size → (∀ q : Nat, q < H.size → ¬ AX q → H1[q]? = H[q]?) → va_S A0 H0 H1 locs1 → H1[q9]? = some ce → ce.vm = .none → s.vm.findClass E = some ce.cls → vx_W p l e R s m args below meth c H1 locs1 (cells + mc) (slots + ms) Q (F0 m pc ls rest) q9)
    (kk : ∀ (r : Int32) (u : S) (t : State) (H1 : Heap) (locs1 : List Loc), t.heap = H1 → s.vm.Alike t.vm → post r u → B u t → H.size ≤ H1.size → (∀ q : Nat, q < H.size → ¬ A1 q → H1[q]? = H[q]?) → va_S A0 H0 H1 locs1 → W p l e R s m args below meth c H1 locs1 (cells + mc) (slots + ms) Q (F0 m (pc + 3) ls (.int r :: rest))) : W p l e R s m args below meth c H locs cells slots Q (F0 m pc ls st0) := by
  intro T hT X
  rcases hr T hT X with ⟨v, st₀, t, T', L, h0, X', hL, e1, e2, ⟨⟨r, u, hv, hp, hb⟩, hF⟩, st⟩ | ⟨q, st₀, t, T', L, E, ce, h0, X', hL, e1, e2, ⟨u, hp, hb, hF⟩, hce, hcv, hcl, st⟩
  · cases hv
    obtain ⟨k1, k2, k3⟩ := vx_keep h0 e1 hS hA hf hL hF
    obtain ⟨t2, a1, b1⟩ := kk r u t T'.heap (locs ++ L) e1.symm (by rw [← e2]; exact X'.warmed.alike) hp hb k1 k2 k3 T' rfl X'
    exact ⟨t2, st t2 a1, b1⟩
  · obtain ⟨k1, k2, k3⟩ := vx_keep h0 e1 hS hAX hf hL hF
    obtain ⟨t2, a1, b1⟩ := kx E ce q u t T'.heap (locs ++ L) e1.symm (by rw [← e2]; exact X'.warmed.alike) hp hb k1 k2 k3 (by rw [e1]; exact hce) hcv hcl T' rfl X'
    exact ⟨t2, st.trans a1, b1⟩
theorem vx_calll {S SX : Type} {post : Int64 → S → Prop} {px : SX → Prop} {B : S → State → Prop} {BX : String → SX → State → Prop} {AX : Nat → Prop} (hr : vx_Run p l e R s m args below meth c H locs cells slots mc ms (F0 m pc ls st0) rest (va_Ql post B A1 a) (vx_X px BX AX) free) (hS : va_S A0 H0 H locs) (hA : ∀ q, q < H.size → A1 q → A0 q) (hf : ∀ q, free q → A0 q) (hAX : ∀ q, q < H.size → AX q → A0 q)
    (kx : ∀ (E : String) (ce : Cell) (q9 : Addr) (u : SX) (t : State) (H1 : Heap) (locs1 : List Loc), t.heap = H1 → s.vm.Alike t.vm → px u → BX E u t → H.size ≤ H1.size → (∀ q : Nat, q < H.size → ¬ AX q → H1[q]? = H[q]?) → va_S A0 H0 H1 locs1 → H1[q9]? = some ce → ce.vm = .none → s.vm.findClass E = some ce.cls → vx_W p l e R s m args below meth c H1 locs1 (cells + mc) (slots + ms) Q (F0 m pc ls rest) q9)
    (kk : ∀ (r : Int64) (u : S) (t : State) (H1 : Heap) (locs1 : List Loc), t.heap = H1 → s.vm.Alike t.vm → post r u → B u t → H.size ≤ H1.size → (∀ q : Nat, q < H.size → ¬ A1 q → H1[q]? = H[q]?) → va_S A0 H0 H1 locs1 → W p l e R s m args below meth c H1 locs1 (cells + mc) (slots + ms) Q (F0 m (pc + 3) ls (.long r :: rest))) : W p l e R s m args below meth c H locs cells slots Q (F0 m pc ls st0) := by
  intro T hT X
  rcases hr T hT X with ⟨v, st₀, t, T', L, h0, X', hL, e1, e2, ⟨⟨r, u, hv, hp, hb⟩, hF⟩, st⟩ | ⟨q, st₀, t, T', L, E, ce, h0, X', hL, e1, e2, ⟨u, hp, hb, hF⟩, hce, hcv, hcl, st⟩
  · cases hv
    obtain ⟨k1, k2, k3⟩ := vx_keep h0 e1 hS hA hf hL hF
    obtain ⟨t2, a1, b1⟩ := kk r u t T'.heap (locs ++ L) e1.symm (by rw [← e2]; exact X'.warmed.alike) hp hb k1 k2 k3 T' rfl X'
    exact ⟨t2, st t2 a1, b1⟩
  · obtain ⟨k1, k2, k3⟩ := vx_keep h0 e1 hS hAX hf hL hF
    obtain ⟨t2, a1, b1⟩ := kx E ce q u t T'.heap (locs ++ L) e1.symm (by rw [← e2]; exact X'.warmed.alike) hp hb k1 k2 k3 (by rw [e1]; exact hce) hcv hcl T' rfl X'
    exact ⟨t2, st.trans a1, b1⟩
theorem vx_callf {S SX : Type} {post : UInt32 → S → Prop} {px : SX → Prop} {B : S → State → Prop} {BX : String → SX → State → Prop} {AX : Nat → Prop} (hr : vx_Run p l e R s m args below meth c H locs cells slots mc ms (F0 m pc ls st0) rest (va_Qf post B A1 a) (vx_X px BX AX) free) (hS : va_S A0 H0 H locs) (hA : ∀ q, q < H.size → A1 q → A0 q) (hf : ∀ q, free q → A0 q) (hAX : ∀ q, q < H.size → AX q → A0 q)
    (kx : ∀ (E : String) (ce : Cell) (q9 : Addr) (u : SX) (t : State) (H1 : Heap) (locs1 : List Loc), t.heap = H1 → s.vm.Alike t.vm → px u → BX E u t → H.size ≤ H1.size → (∀ q : Nat, q < H.size → ¬ AX q → H1[q]? = H[q]?) → va_S A0 H0 H1 locs1 → H1[q9]? = some ce → ce.vm = .none → s.vm.findClass E = some ce.cls → vx_W p l e R s m args below meth c H1 locs1 (cells + mc) (slots + ms) Q (F0 m pc ls rest) q9)
    (kk : ∀ (r : UInt32) (u : S) (t : State) (H1 : Heap) (locs1 : List Loc), t.heap = H1 → s.vm.Alike t.vm → post r u → B u t → H.size ≤ H1.size → (∀ q : Nat, q < H.size → ¬ A1 q → H1[q]? = H[q]?) → va_S A0 H0 H1 locs1 → W p l e R s m args below meth c H1 locs1 (cells + mc) (slots + ms) Q (F0 m (pc + 3) ls (.float r :: rest))) : W p l e R s m args below meth c H locs cells slots Q (F0 m pc ls st0) := by
  intro T hT X
  rcases hr T hT X with ⟨v, st₀, t, T', L, h0, X', hL, e1, e2, ⟨⟨r, u, hv, hp, hb⟩, hF⟩, st⟩ | ⟨q, st₀, t, T', L, E, ce, h0, X', hL, e1, e2, ⟨u, hp, hb, hF⟩, hce, hcv, hcl, st⟩
  · cases hv
    obtain ⟨k1, k2, k3⟩ := vx_keep h0 e1 hS hA hf hL hF
    obtain ⟨t2, a1, b1⟩ := kk r u t T'.heap (locs ++ L) e1.symm (by rw [← e2]; exact X'.warmed.alike) hp hb k1 k2 k3 T' rfl X'
    exact ⟨t2, st t2 a1, b1⟩
  · obtain ⟨k1, k2, k3⟩ := vx_keep h0 e1 hS hAX hf hL hF
    obtain ⟨t2, a1, b1⟩ := kx E ce q u t T'.heap (locs ++ L) e1.symm (by rw [← e2]; exact X'.warmed.alike) hp hb k1 k2 k3 (by rw [e1]; exact hce) hcv hcl T' rfl X'
    exact ⟨t2, st.trans a1, b1⟩
theorem vx_calld {S SX : Type} {post : UInt64 → S → Prop} {px : SX → Prop} {B : S → State → Prop} {BX : String → SX → State → Prop} {AX : Nat → Prop} (hr : vx_Run p l e R s m args below meth c H locs cells slots mc ms (F0 m pc ls st0) rest (va_Qd post B A1 a) (vx_X px BX AX) free) (hS : va_S A0 H0 H locs) (hA : ∀ q, q < H.size → A1 q → A0 q) (hf : ∀ q, free q → A0 q) (hAX : ∀ q, q < H.size → AX q → A0 q)
    (kx : ∀ (E : String) (ce : Cell) (q9 : Addr) (u : SX) (t : State) (H1 : Heap) (locs1 : List Loc), t.heap = H1 → s.vm.Alike t.vm → px u → BX E u t → H.size ≤ H1.size → (∀ q : Nat, q < H.size → ¬ AX q → H1[q]? = H[q]?) → va_S A0 H0 H1 locs1 → H1[q9]? = some ce → ce.vm = .none → s.vm.findClass E = some ce.cls → vx_W p l e R s m args below meth c H1 locs1 (cells + mc) (slots + ms) Q (F0 m pc ls rest) q9)
    (kk : ∀ (r : UInt64) (u : S) (t : State) (H1 : Heap) (locs1 : List Loc), t.heap = H1 → s.vm.Alike t.vm → post r u → B u t → H.size ≤ H1.size → (∀ q : Nat, q < H.size → ¬ A1 q → H1[q]? = H[q]?) → va_S A0 H0 H1 locs1 → W p l e R s m args below meth c H1 locs1 (cells + mc) (slots + ms) Q (F0 m (pc + 3) ls (.double r :: rest))) : W p l e R s m args below meth c H locs cells slots Q (F0 m pc ls st0) := by
  intro T hT X
  rcases hr T hT X with ⟨v, st₀, t, T', L, h0, X', hL, e1, e2, ⟨⟨r, u, hv, hp, hb⟩, hF⟩, st⟩ | ⟨q, st₀, t, T', L, E, ce, h0, X', hL, e1, e2, ⟨u, hp, hb, hF⟩, hce, hcv, hcl, st⟩
  · cases hv
    obtain ⟨k1, k2, k3⟩ := vx_keep h0 e1 hS hA hf hL hF
    obtain ⟨t2, a1, b1⟩ := kk r u t T'.heap (locs ++ L) e1.symm (by rw [← e2]; exact X'.warmed.alike) hp hb k1 k2 k3 T' rfl X'
    exact ⟨t2, st t2 a1, b1⟩
  · obtain ⟨k1, k2, k3⟩ := vx_keep h0 e1 hS hAX hf hL hF
    obtain ⟨t2, a1, b1⟩ := kx E ce q u t T'.heap (locs ++ L) e1.symm (by rw [← e2]; exact X'.warmed.alike) hp hb k1 k2 k3 (by rw [e1]; exact hce) hcv hcl T' rfl X'
    exact ⟨t2, st.trans a1, b1⟩
theorem vx_callv {S SX : Type} {post : S → Prop} {px : SX → Prop} {B : S → State → Prop} {BX : String → SX → State → Prop} {AX : Nat → Prop} (hr : vx_Run p l e R s m args below meth c H locs cells slots mc ms (F0 m pc ls st0) rest (va_Qv post B A1 a) (vx_X px BX AX) free) (hS : va_S A0 H0 H locs) (hA : ∀ q, q < H.size → A1 q → A0 q) (hf : ∀ q, free q → A0 q) (hAX : ∀ q, q < H.size → AX q → A0 q)
    (kx : ∀ (E : String) (ce : Cell) (q9 : Addr) (u : SX) (t : State) (H1 : Heap) (locs1 : List Loc), t.heap = H1 → s.vm.Alike t.vm → px u → BX E u t → H.size ≤ H1.size → (∀ q : Nat, q < H.size → ¬ AX q → H1[q]? = H[q]?) → va_S A0 H0 H1 locs1 → H1[q9]? = some ce → ce.vm = .none → s.vm.findClass E = some ce.cls → vx_W p l e R s m args below meth c H1 locs1 (cells + mc) (slots + ms) Q (F0 m pc ls rest) q9)
    (kk : ∀ (u : S) (t : State) (H1 : Heap) (locs1 : List Loc), t.heap = H1 → s.vm.Alike t.vm → post u → B u t → H.size ≤ H1.size → (∀ q : Nat, q < H.size → ¬ A1 q → H1[q]? = H[q]?) → va_S A0 H0 H1 locs1 → W p l e R s m args below meth c H1 locs1 (cells + mc) (slots + ms) Q (F0 m (pc + 3) ls (rest))) : W p l e R s m args below meth c H locs cells slots Q (F0 m pc ls st0) := by
  intro T hT X
  rcases hr T hT X with ⟨v, st₀, t, T', L, h0, X', hL, e1, e2, ⟨⟨u, hv, hp, hb⟩, hF⟩, st⟩ | ⟨q, st₀, t, T', L, E, ce, h0, X', hL, e1, e2, ⟨u, hp, hb, hF⟩, hce, hcv, hcl, st⟩
  · cases hv
    obtain ⟨k1, k2, k3⟩ := vx_keep h0 e1 hS hA hf hL hF
    obtain ⟨t2, a1, b1⟩ := kk u t T'.heap (locs ++ L) e1.symm (by rw [← e2]; exact X'.warmed.alike) hp hb k1 k2 k3 T' rfl X'
    exact ⟨t2, st t2 a1, b1⟩
  · obtain ⟨k1, k2, k3⟩ := vx_keep h0 e1 hS hAX hf hL hF
    obtain ⟨t2, a1, b1⟩ := kx E ce q u t T'.heap (locs ++ L) e1.symm (by rw [← e2]; exact X'.warmed.alike) hp hb k1 k2 k3 (by rw [e1]; exact hce) hcv hcl T' rfl X'
    exact ⟨t2, st.trans a1, b1⟩
/-- caught by the row x of this method's table; the rows ahead don't take it -/
theorem vx_catch {own name : String} {E : String} {ce : Cell} {q : Addr} (hown : s.vm.findClass own = some m.cls) (pre : List ExceptionTableEntry) (x : ExceptionTableEntry) (suf : List ExceptionTableEntry) (hsplit : c.exceptionTable.toList = pre ++ x :: suf)
    (hpass : ∀ z ∈ pre, covers z pc = false ∨ (z.catchType ≠ 0 ∧ ∃ nm : String, (Cond.classLink own z.catchType nm).before args s = true ∧ va_Nc E nm s)) (hx : covers x pc = true) (h0 : x.catchType ≠ 0)
    (hlink : (Cond.classLink own x.catchType name).before args s = true) (hcast : (Cond.castable E name).before args s = true) (hcell : H[q]? = some ce) (hv : ce.vm = .none) (hcl : s.vm.findClass E = some ce.cls)
    (kk : W p l e R s m args below meth c H locs cells slots Q (F0 m x.handlerPc ls [.ref q])) : vx_W p l e R s m args below meth c H locs cells slots Q (F0 m pc ls rest) q := by
  intro T hT X
  have hpl : e.platform.magicAccessors = ({} : Platform).magicAccessors := by rw [X.admits.platform]
  obtain ⟨c3, c4, hc3, hc4, hasg⟩ := Cond.castable_spec hcast
  cases Option.some.inj (hc3.symm.trans hcl)
  obtain ⟨c5, hc5, hcl5⟩ := Cond.classLink_spec hown hlink e.platform hpl
  cases Option.some.inj (hc4.symm.trans hc5)
  obtain ⟨vm', X', st⟩ := Stand.thenCaughtThrough X q (g := F0 m pc ls rest) rfl (Steps.refl _) (by rw [hT]; exact hcell) (by rw [hv]; rfl) (by obtain ⟨k9, h9, -⟩ := Vm.findClass_spec hcl; exact ⟨k9, h9⟩) pre x suf hsplit
    (fun z hz => by
      rcases hpass z hz with h | ⟨hz0, nm, hl1, hn1⟩
      · exact Or.inl h
      · obtain ⟨c6, hc6, hcl6⟩ := Cond.classLink_spec hown hl1 e.platform hpl
        obtain ⟨a8, b8, h1, h2, h3⟩ := hn1
        cases Option.some.inj (h1.symm.trans hcl)
        cases Option.some.inj (h2.symm.trans hc6)
        exact Or.inr ⟨hz0, _, hcl6, h3⟩) hx (Or.inr ⟨h0, c4, hcl5, hasg⟩)
  obtain ⟨t, a1, b1⟩ := kk (T.setVm vm') hT X'
  exact ⟨t, st.trans a1, b1⟩
end Rows
section Ends
variable {p : Program} {l : Launch} {e : Env} {R : Room} {s : State} {m : MethodId} {args : Array Value} {below : List Frame} {meth : Method} {c : Code} {H : Heap} {locs : List Loc} {cells slots : Nat} {Q : State → Prop}
variable {mc ms : Nat} {free : Addr → Prop} {A0 A1 : Nat → Prop} {H0 : Heap} {a : Array Value} {ls : Array Slot} {st0 rest : List Value}
variable {Qc : Array Value → State → Outcome → State → Prop} {XC : String → State → State → Prop}
/-- what a body that may throw owes at its end -/
def vx_MQ (below : List Frame) (Qc : Array Value → State → Outcome → State → Prop) (XC : String → State → State → Prop) (a : Array Value) (s : State) (mc ms : Nat) (free : Addr → Prop) : State → Prop := fun t =>
  ∃ o, t.status = .running ∧ Ended t below o ∧ vx_Q Qc XC mc ms free a s o t
theorem vx_ret {g : JFrame} {mc ms : Nat} (k : W p l e R s m args below meth c H locs cells slots (MQ below Qc args s mc ms free) g) : W p l e R s m args below meth c H locs cells slots (vx_MQ below Qc XC args s mc ms free) g := by
  intro T hT X
  obtain ⟨t, a1, o, b1, b2, b3, b4⟩ := k T hT X
  exact ⟨t, a1, o, b1, b2, Or.inl ⟨b3, b4⟩⟩
/-- not caught here: it goes on to the caller -/
theorem vx_widen {g : JFrame} {q : Addr} {k n : Nat} (h1 : cells ≤ k) (h2 : slots ≤ n) (kk : vx_W p l e R s m args below meth c H locs k n Q g q) : vx_W p l e R s m args below meth c H locs cells slots Q g q := fun T hT X => kk T hT (stand_widen X h1 h2)
theorem vx_out {pc : Nat} {E : String} {ce : Cell} {q : Addr} {mc ms : Nat} (hout : ∀ x ∈ c.exceptionTable.toList, covers x pc = false) (hlocks : meth.locks = false) (hcell : H[q]? = some ce) (hv : ce.vm = .none) (hcl : s.vm.findClass E = some ce.cls)
    (hx : ∀ t : State, t.heap = H → s.vm.Alike t.vm → XC E s t) (hf : ∀ z ∈ locs, free z.base) (hc : cells ≤ mc) (hs : slots ≤ ms) :
    vx_W p l e R s m args below meth c H locs cells slots (vx_MQ below Qc XC args s mc ms free) (F0 m pc ls rest) q := by
  intro T hT X
  obtain ⟨st1, hrun, hend, hW, hsm⟩ := X.leaveThrown q (g := F0 m pc ls rest) rfl rfl rfl hout hlocks
  have hcell9 : (T.setFrames (.throwing q :: below)).heap[q]? = some ce := by
    show T.heap[q]? = some ce
    rw [hT]; exact hcell
  exact ⟨_, st1, .threw q, hrun, hend, Or.inr ⟨q, rfl, E, ce, locs, hx _ hT hW.alike, hcell9, hv, hcl, hW, hsm.mono hc hs, hf⟩⟩
theorem vx_frame {U : State} {k n : Nat} (h : s.sameButNew ({ U with vm := s.vm } : State) locs k n) : s.heap.size ≤ U.heap.size ∧ ∀ q : Nat, q < s.heap.size → (∀ z ∈ locs, z.base ≠ q) → U.heap[q]? = s.heap[q]? := by
  obtain ⟨-, h2, -, -, -, h6⟩ := h
  refine ⟨h2, fun q hq hz => ?_⟩
  obtain ⟨c9, e1, e2, e3, e4⟩ := h6 q _ (Array.getElem?_eq_getElem hq)
  have hs : c9.slots = (s.heap[q]).slots := Array.ext_getElem? fun i => e4 i fun hm => hz _ hm rfl
  have h9 : c9 = s.heap[q] := by
    rw [hs] at e2
    exact e2
  have e5 : U.heap[q]? = some c9 := e1
  rw [e5, h9, Array.getElem?_eq_getElem hq]
/-- the words of a throw but the four that speak of the heap -/
def vx_no (w : Cond) : Bool := decide (w ≠ .isRef (.static Bundle.tN "UNASSIGNED_STACK" Bundle.steD)) && decide (w ≠ .isRef (.static Bundle.tN "SUPPRESSED_SENTINEL" Bundle.listD)) && decide (w ≠ .laysStatic Bundle.tN "UNASSIGNED_STACK" Bundle.steD) && decide (w ≠ .laysStatic Bundle.tN "SUPPRESSED_SENTINEL" Bundle.listD)
def vx_at0 (own : String) (ic : Nat) (X : String) (names : List String) : List Cond := (Bundle.ownAtoms0 own ic X names).filter vx_no
def vx_atS (own : String) (ic : Nat) (X : String) (names : List String) : List Cond := (Bundle.ownAtoms own ic X names).filter vx_no
/-- a word that the tables alone decide, or a good one -/
def vx_ot (w : Cond) : Bool := w.onTables || goodWord w
theorem vx_ot_at {args a' : Array Value} {s U : State} {w : Cond} (hW : s.WarmedH U.vm) (hvm : s.vm = U.vm) (hg : vx_ot w = true) (h : w.before args s = true) : w.before a' U = true := by
  simp only [vx_ot, Bool.or_eq_true] at hg
  rcases hg with hg | hg
  · exact va_tabs hg hvm h
  · exact word_at hW (good_of_word hg) h
/-- a list's words: the good ones out of the method's own list, the others by premises of their own -/
theorem vx_hat {args : Array Value} {s : State} {L B : List Cond} (h1 : ∀ w ∈ L.filter goodWord, w.before args s = true) (h2 : ∀ w ∈ L.filter (fun w => !goodWord w), w ∈ B) (h3 : ∀ w ∈ B, w.before args s = true) : ∀ w ∈ L, w.before args s = true := by
  intro w hw
  by_cases g : goodWord w = true
  · exact h1 w (List.mem_filter.mpr ⟨hw, g⟩)
  · refine h3 w (h2 w (List.mem_filter.mpr ⟨hw, ?_⟩))
    show (!goodWord w) = true
    cases hgw : goodWord w
    · rfl
    · exact absurd hgw g
theorem vx_c {args : Array Value} {s : State} {w : Cond} {B : List Cond} (h : w.before args s = true) (t : ∀ w ∈ B, w.before args s = true) : ∀ w' ∈ w :: B, w'.before args s = true := fun w' h' => (List.mem_cons.mp h').elim (fun e => by rw [e]; exact h) (t w')
theorem vx_n {args : Array Value} {s : State} : ∀ w ∈ ([] : List Cond), w.before args s = true := fun _ h => nomatch h
theorem vx_own {args : Array Value} {s : State} {L : List Cond} (h1 : ∀ w ∈ L.filter vx_no, w.before args s = true)
    (hU : (Cond.isRef (.static Bundle.tN "UNASSIGNED_STACK" Bundle.steD)).before args s = true) (hN : (Cond.isRef (.static Bundle.tN "SUPPRESSED_SENTINEL" Bundle.listD)).before args s = true)
    (lU : (Cond.laysStatic Bundle.tN "UNASSIGNED_STACK" Bundle.steD).before args s = true) (lN : (Cond.laysStatic Bundle.tN "SUPPRESSED_SENTINEL" Bundle.listD).before args s = true) : ∀ w ∈ L, w.before args s = true := by
  intro w hw
  by_cases e1 : w = .isRef (.static Bundle.tN "UNASSIGNED_STACK" Bundle.steD)
  · rw [e1]; exact hU
  · by_cases e2 : w = .isRef (.static Bundle.tN "SUPPRESSED_SENTINEL" Bundle.listD)
    · rw [e2]; exact hN
    · by_cases e3 : w = .laysStatic Bundle.tN "UNASSIGNED_STACK" Bundle.steD
      · rw [e3]; exact lU
      · by_cases e4 : w = .laysStatic Bundle.tN "SUPPRESSED_SENTINEL" Bundle.listD
        · rw [e4]; exact lN
        · exact h1 w (List.mem_filter.mpr ⟨hw, by unfold vx_no; rw [decide_eq_true e1, decide_eq_true e2, decide_eq_true e3, decide_eq_true e4]; rfl⟩)
/-- where a static field lies, its class's statics cell in H -/
def vx_L (C n d : String) (A : Nat → Prop) (U : State) (H : Heap) : Prop := ∃ (c : ClassId) (k : Class) (i : Nat) (f : Field) (a : Nat) (cell : Cell), U.vm.findClass C = some c ∧ U.fieldFound? C n d = some (c, k, i, f) ∧ f.isStatic = true ∧ k.statics = some a ∧ H[a]? = some cell ∧ cell.vm.isStatics = true ∧ cell.cls = c ∧ f.slot < cell.slots.size ∧ k.staticTypes[f.slot]? = some f.type ∧ ¬ A a
theorem vx_L.moved {C n d : String} {A : Nat → Prop} {u U : State} {H : Heap} (hvm : u.vm.Alike U.vm) (h : vx_L C n d A u H) : vx_L C n d A U H := by
  obtain ⟨c, k, i, f, a, cell, h1, h2, h3, h4, h5, h6, h7, h8, h9, h10⟩ := h
  obtain ⟨k', hi', he⟩ := State.fieldFound?_setVm hvm h2
  exact ⟨c, k', i, f, a, cell, by rw [hvm.findClass]; exact h1, hi', h3, by rw [he]; exact h4, h5, h6, h7, h8, by rw [he]; exact h9, h10⟩
theorem vx_L.kept {C n d : String} {A : Nat → Prop} {U : State} {H H1 : Heap} (h : vx_L C n d A U H) (hq : ∀ a : Nat, a < H.size → ¬ A a → H1[a]? = H[a]?) : vx_L C n d A U H1 := by
  obtain ⟨c, k, i, f, a, cell, h1, h2, h3, h4, h5, h6, h7, h8, h9, h10⟩ := h
  exact ⟨c, k, i, f, a, cell, h1, h2, h3, h4, by rw [hq a (Array.getElem?_eq_some_iff.mp h5).1 h10]; exact h5, h6, h7, h8, h9, h10⟩
theorem vx_L.narrow {C n d : String} {A B : Nat → Prop} {U : State} {H : Heap} (h : vx_L C n d A U H) (hAB : ∀ q, B q → A q) : vx_L C n d B U H := by
  obtain ⟨c, k, i, f, a, cell, h1, h2, h3, h4, h5, h6, h7, h8, h9, h10⟩ := h
  exact ⟨c, k, i, f, a, cell, h1, h2, h3, h4, h5, h6, h7, h8, h9, fun z => h10 (hAB _ z)⟩
theorem vx_L.word {C n d : String} {A : Nat → Prop} {s : State} {args : Array Value} (h : vx_L C n d A s s.heap) : (Cond.laysStatic C n d).before args s = true := by
  obtain ⟨c, k, i, f, a, cell, h1, h2, h3, h4, h5, h6, h7, h8, h9, -⟩ := h
  show (Cond.laysStatic C n d).holds args s none s [] = true
  exact Cond.laysStatic_of h1 h2 h3 h4 h5 h6 h7 h8 h9
/-- .. and what it holds: null or some reference -/
def vx_Zq (C n d : String) (A : Nat → Prop) (U : State) (H : Heap) : Prop := va_Zq C n d A U H ∧ vx_L C n d A U H
theorem vx_Zq.moved {C n d : String} {A : Nat → Prop} {u U : State} {H : Heap} (hvm : u.vm.Alike U.vm) (h : vx_Zq C n d A u H) : vx_Zq C n d A U H := ⟨va_Zq.moved hvm h.1, vx_L.moved hvm h.2⟩
theorem vx_Zq.kept {C n d : String} {A : Nat → Prop} {U : State} {H H1 : Heap} (h : vx_Zq C n d A U H) (hq : ∀ a : Nat, a < H.size → ¬ A a → H1[a]? = H[a]?) : vx_Zq C n d A U H1 := ⟨va_Zq.kept h.1 hq, vx_L.kept h.2 hq⟩
theorem vx_Zq.narrow {C n d : String} {A B : Nat → Prop} {U : State} {H : Heap} (h : vx_Zq C n d A U H) (hAB : ∀ q, B q → A q) : vx_Zq C n d B U H := ⟨va_Zq.narrow h.1 hAB, vx_L.narrow h.2 hAB⟩
theorem vx_Zqof {args : Array Value} {s : State} {C n d : String} {A : Nat → Prop} (hl : (Cond.laysStatic C n d).before args s = true) (hini : (Cond.initialized C).before args s = true) (h : (Cond.isRef (.static C n d)).before args s = true) (hA : ∀ a : Nat, a < s.heap.size → ¬ A a) : vx_Zq C n d A s s.heap := by
  refine ⟨va_Zqof hl hini h hA, ?_⟩
  obtain ⟨c, k, i, f, a, cell, h1, h2, h3, h4, h5, h6, h7, h8, h9⟩ := Cond.laysStatic_spec hl
  exact ⟨c, k, i, f, a, cell, h1, h2, h3, h4, h5, h6, h7, h8, h9, hA a (Array.getElem?_eq_some_iff.mp h5).1⟩
theorem vx_isRef {C n d : String} {v : Value} {A : Nat → Prop} {s : State} {args : Array Value} (h : va_Z C n d v A s s.heap) (hv : v.isRef = true) : (Cond.isRef (.static C n d)).before args s = true := by
  obtain ⟨cf, kf, fi, f, a, cell, h1, h2, h3, h4, h5, h6, h7, -⟩ := h
  have he : (Term.static C n d).eval args s none [] s = some v := by
    simp [Term.eval, State.fieldNamed?, h1, h2, h4, h5, h6, h7]
  simp only [Cond.before, Cond.holds, Cond.value, he]
  cases v <;> simp_all [Value.isRef]
theorem vx_isRefq {C n d : String} {A : Nat → Prop} {s : State} {args : Array Value} (h : va_Zq C n d A s s.heap) : (Cond.isRef (.static C n d)).before args s = true := by
  rcases h with h | ⟨t, h⟩
  · exact vx_isRef h rfl
  · exact vx_isRef h rfl
/-- the same frame, seen from here: as if the method were called anew in this heap -/
theorem vx_rebase {T : State} (X : Stand p l e R s m args below meth c T locs cells slots) {R' : Room} (hf : R'.frames ≤ R.frames) (hl : R'.locals ≤ R.locals) (hc : cells + R'.cells ≤ R.cells) (hs : slots + R'.slots ≤ R.slots) :
    Stand p l e R' ((T.setVm s.vm).setFrames (.invoking m args :: below)) m args below meth c T [] 0 0 := by
  have htop : (T.setVm s.vm).topJava?.isSome := X.here.top
  have hF : ((T.setVm s.vm).setFrames (.invoking m args :: below)).frames = .invoking m args :: below := State.frames_setFrames _ (State.cur_lt_of_top htop)
  obtain ⟨g₀, hg0⟩ := Option.isSome_iff_exists.mp htop
  obtain ⟨r, hr⟩ := State.topJava?_eq_some.mp hg0
  have hl9 : e.platform.stackLimits (T.setVm s.vm).me = e.platform.stackLimits s.me := X.limits
  have hb9 : (T.setVm s.vm).me.stackBytes = s.me.stackBytes := X.bytes
  refine ⟨X.admits, X.cas, X.clock, hF, ?_, X.hears, X.method, X.code, X.here, X.tail, X.warmed, ?_, ?_, ?_⟩
  · have h := X.room
    have hU : ((T.setVm s.vm).setFrames (.invoking m args :: below)).localsInUse = s.localsInUse := by
      rw [State.localsInUse_invoking hF (meth := meth) (c := c) X.method X.code, State.localsInUse_invoking X.frames X.method X.code]
    simp only [State.hasRoom, Bool.and_eq_true, decide_eq_true_eq] at h ⊢
    obtain ⟨⟨⟨⟨h1, h2, h3, h4, h5, h6⟩, h7⟩, h8⟩, h9⟩ := h
    rw [X.frames, List.length_cons] at h2 h3
    have q1 := X.heapSize
    have q2 := X.used
    simp only [hF, hU, List.length_cons, State.stackLimits_setFrames, State.stackBytes_setFrames, hl9, hb9]
    refine ⟨⟨⟨⟨by omega, by omega, by omega, by omega, by omega, h6⟩, ?_⟩, ?_⟩, X.book⟩
    · show T.heap.size + R'.cells ≤ e.platform.maxCells
      omega
    · show T.slotsUsed + R'.slots ≤ e.platform.maxSlots
      omega
  · rw [State.stackLimits_setFrames]; rfl
  · rw [State.stackBytes_setFrames]; rfl
  · refine ⟨?_, Nat.le_refl _, Nat.le_refl _, ?_, ?_, fun a c9 h9 => ⟨c9, h9, rfl, rfl, fun _ _ => rfl⟩⟩
    · obtain ⟨t, ht, -⟩ := State.frames_cons hr
      show T.setVm s.vm = { ((T.setVm s.vm).setFrames (.invoking m args :: below)).setFrames (T.setVm s.vm).frames with heap := T.heap, slotsUsed := T.slotsUsed }
      rw [State.setFrames_setFrames, State.setFrames_self ht]
      rfl
    · show T.slotsUsed = T.slotsUsed + ((T.heap.toList.drop T.heap.size).map (·.slots.size)).sum
      rw [List.drop_eq_nil_of_le (Nat.le_of_eq Array.length_toList)]
      rfl
    · show ((T.heap.toList.drop T.heap.size).map (·.slots.size)).sum ≤ 0
      rw [List.drop_eq_nil_of_le (Nat.le_of_eq Array.length_toList)]
      exact Nat.le_refl _
/-- 'throw new E()': new; dup; invokespecial; athrow -/
theorem vx_throw0 {cc : ByteArray} {pc : Nat} (hexec : p.tables.exec = Jvm.exec) (hb : c.code = cc) (hl : l.stackTraces = false) {own cls : String} {names : List String} {ik ic mc ms : Nat} {A : Nat → Prop}
    (hown : s.vm.findClass own = some m.cls) (hcls : Bundle.fit cls = true) (hnames : ∀ n ∈ names, Bundle.fit n = true)
    (hk : (Cond.classLink own ik cls).before args s = true) (hini : (Cond.initialized cls).before args s = true) (hat : ∀ w ∈ vx_at0 own ic cls names, w.before args s = true)
    (hgood : ∀ w ∈ Cond.classLink own ik cls :: Cond.initialized cls :: vx_at0 own ic cls names, vx_ot w = true)
    (hU : vx_Zq Bundle.tN "UNASSIGNED_STACK" Bundle.steD A s s.heap) (hN : vx_Zq Bundle.tN "SUPPRESSED_SENTINEL" Bundle.listD A s s.heap) (hS : va_S A s.heap H locs) (hsize : ls.size = c.maxLocals)
    (d0 : decode cc pc = .ok (.new ik, 3)) (d3 : decode cc (pc + 3) = .ok (.dup, 1)) (d4 : decode cc (pc + 4) = .ok (.invokespecial ic, 3)) (d7 : decode cc (pc + 7) = .ok (.athrow, 1))
    (hout : ∀ x ∈ c.exceptionTable.toList, covers x (pc + 7) = false)
    (hRframes : names.length + 3 < R.frames) (hRlocals : (rest.map fun v => v.category).sum + (13 * (names.length + 1) + 42) ≤ R.locals) (hRcells : cells + 1 ≤ R.cells) (hRslots : slots + 6 ≤ R.slots) (hlocks : meth.locks = false)
    (hx : ∀ t : State, s.vm.Alike t.vm → H.size ≤ t.heap.size → (∀ q : Nat, q < H.size → t.heap[q]? = H[q]?) → XC cls s t)
    (hf : ∀ z ∈ locs, free z.base) (hc : cells + 1 ≤ mc) (hs : slots + 6 ≤ ms) :
    W p l e R s m args below meth c H locs cells slots (vx_MQ below Qc XC args s mc ms free) (F0 m pc ls rest) := by
  intro T hT X
  have htr : e.platform.stackTraces = false := (show e.platform.stackTraces = l.stackTraces by rw [X.admits.platform]).trans hl
  have Y := vx_rebase X (R' := { frames := R.frames, locals := R.locals, cells := 1, slots := 6 }) (Nat.le_refl _) (Nat.le_refl _) hRcells hRslots
  obtain ⟨s', hA⟩ : ∃ z, z = (T.setVm s.vm).setFrames (.invoking m args :: below) := ⟨_, rfl⟩
  rw [← hA] at Y
  have hvm : s'.vm = s.vm := by rw [hA]; rfl
  have hhp : s'.heap = H := by rw [hA]; exact hT
  have hW0 : s.WarmedH s'.vm := by rw [hvm]; exact State.WarmedH.refl s
  have hat' : ∀ w ∈ vx_at0 own ic cls names, w.before args s' = true := fun w hw => vx_ot_at hW0 hvm.symm (hgood w (List.mem_cons_of_mem _ (List.mem_cons_of_mem _ hw))) (hat w hw)
  have hk' : (Cond.classLink own ik cls).before args s' = true := vx_ot_at hW0 hvm.symm (hgood _ List.mem_cons_self) hk
  have hini' : (Cond.initialized cls).before args s' = true := vx_ot_at hW0 hvm.symm (hgood _ (List.mem_cons_of_mem _ List.mem_cons_self)) hini
  have hU' : vx_Zq Bundle.tN "UNASSIGNED_STACK" Bundle.steD A s' s'.heap := by rw [hhp]; exact vx_Zq.moved hW0.alike (hU.kept hS.2.1)
  have hN' : vx_Zq Bundle.tN "SUPPRESSED_SENTINEL" Bundle.listD A s' s'.heap := by rw [hhp]; exact vx_Zq.moved hW0.alike (hN.kept hS.2.1)
  have h : ∀ w ∈ Bundle.ownAtoms0 own ic cls names, w.before args s' = true := vx_own hat' (vx_isRefq hU'.1) (vx_isRefq hN'.1) hU'.2.word hN'.2.word
  have hown' : s'.vm.findClass own = some m.cls := by rw [hvm]; exact hown
  have hins : (Cond.instantiable cls 6).before args s' = true := h _ (by simp [Bundle.ownAtoms0])
  obtain ⟨vm₁, cX, kX, hfX, hkX, -, -, X₁, st1⟩ := Y.newCold hexec (own := own) (C := cls) (index := ik) (n := 6) hown' hk' hins hini'
    (g := F0 m pc ls rest) rfl (by rw [hb]; exact d0) (Nat.le_refl _) (Nat.le_refl _)
  generalize hT1 : (T.setVm vm₁).pushCell { cls := cX, slots := kX.instanceTypes.map defaultValue, vm := .none } = T1 at X₁ st1
  have hcat : (Value.ref T.heap.size).category = 1 := rfl
  have hcellA : T1.heap[T.heap.size]? = some (freshCell cX kX) := by rw [← hT1]; exact State.heap_pushCell_size _ _
  have d3' : decode c.code (pc + 3) = .ok (.dup, 1) := by rw [hb]; exact d3
  obtain ⟨U, hsteps, hrun, hend, hW, hsame, ce, hce, hO⟩ := X₁.ctorThrow0 hexec htr (own := own) (cls := cls) (names := names) (ic := ic) hown' hcls hnames h (fun x hx => nomatch hx) hfX hkX hcellA (by rw [hhp, hT]; exact Nat.le_refl _)
    (g := { method := m, pc := pc + 4, locals := ls, stack := .ref T.heap.size :: .ref T.heap.size :: rest, locked := none }) rfl hsize rfl rfl (rest := rest) rfl
    (by rw [hb]; exact d4) (by rw [hb]; exact d7) hout hRframes (by simp only [List.map_cons, List.sum_cons, hcat]; omega) hlocks
  obtain ⟨f1, f2⟩ := vx_frame hsame
  rw [hhp] at f1 f2
  have hWs : s.WarmedH U.vm := State.WarmedH.trans hW0 hW
  have hcl : s.vm.findClass cls = some ce.cls := by
    have h9 := hO.cls
    rw [hvm] at h9
    exact h9
  have hall : s.sameButNew ({ U with vm := s.vm } : State) locs mc ms := by
    subst hA
    obtain ⟨e1, e2⟩ := hsame
    rw [State.setFrames_setFrames] at e1
    have h2 : (T.setVm s.vm).sameButNew ({ U with vm := s.vm } : State) [] (0 + 1) (0 + 6) := ⟨e1, e2⟩
    have h3 := X.same.trans h2
    rw [List.append_nil] at h3
    exact h3.mono hc hs
  refine ⟨U, ?_, .threw T.heap.size, hrun, hend, Or.inr ⟨T.heap.size, rfl, cls, ce, locs, hx U hWs.alike f1 (fun q hq => f2 q hq (fun z hz => nomatch hz)), hce, hO.vm, hcl, hWs, hall, hf⟩⟩
  refine st1 _ ?_
  show Steps p.tables e below (T1.setTop { method := m, pc := pc + 3, locals := ls, stack := .ref T.heap.size :: rest, locked := none }) _
  jvm_step X₁.here [X₁.here.top, hexec, d3', Value.category]
  exact hsteps
/-- 'throw new E("text")': new; dup; ldc; invokespecial; athrow -/
theorem vx_throwS {cc : ByteArray} {pc : Nat} (hexec : p.tables.exec = Jvm.exec) (hb : c.code = cc) (hl : l.stackTraces = false) {own cls text : String} {names : List String} {ik is ic mc ms sa : Nat} {A : Nat → Prop}
    (hown : s.vm.findClass own = some m.cls) (hcls : Bundle.fit cls = true) (hnames : ∀ n ∈ names, Bundle.fit n = true)
    (hk : (Cond.classLink own ik cls).before args s = true) (hini : (Cond.initialized cls).before args s = true) (hstr : vk_R own is text sa s) (hat : ∀ w ∈ vx_atS own ic cls names, w.before args s = true)
    (hgood : ∀ w ∈ Cond.classLink own ik cls :: Cond.initialized cls :: vx_atS own ic cls names, vx_ot w = true)
    (hU : vx_Zq Bundle.tN "UNASSIGNED_STACK" Bundle.steD A s s.heap) (hN : vx_Zq Bundle.tN "SUPPRESSED_SENTINEL" Bundle.listD A s s.heap) (hS : va_S A s.heap H locs) (hsize : ls.size = c.maxLocals)
    (d0 : decode cc pc = .ok (.new ik, 3)) (d3 : decode cc (pc + 3) = .ok (.dup, 1)) (d4 : decode cc (pc + 4) = .ok (.ldc is, 2)) (d6 : decode cc (pc + 6) = .ok (.invokespecial ic, 3)) (d9 : decode cc (pc + 9) = .ok (.athrow, 1))
    (hout : ∀ x ∈ c.exceptionTable.toList, covers x (pc + 9) = false)
    (hRframes : names.length + 3 < R.frames) (hRlocals : (rest.map fun v => v.category).sum + (13 * (names.length + 1) + 43) ≤ R.locals) (hRcells : cells + 1 ≤ R.cells) (hRslots : slots + 6 ≤ R.slots) (hlocks : meth.locks = false)
    (hx : ∀ t : State, s.vm.Alike t.vm → H.size ≤ t.heap.size → (∀ q : Nat, q < H.size → t.heap[q]? = H[q]?) → XC cls s t)
    (hf : ∀ z ∈ locs, free z.base) (hc : cells + 1 ≤ mc) (hs : slots + 6 ≤ ms) :
    W p l e R s m args below meth c H locs cells slots (vx_MQ below Qc XC args s mc ms free) (F0 m pc ls rest) := by
  intro T hT X
  have htr : e.platform.stackTraces = false := (show e.platform.stackTraces = l.stackTraces by rw [X.admits.platform]).trans hl
  have Y := vx_rebase X (R' := { frames := R.frames, locals := R.locals, cells := 1, slots := 6 }) (Nat.le_refl _) (Nat.le_refl _) hRcells hRslots
  obtain ⟨s', hA⟩ : ∃ z, z = (T.setVm s.vm).setFrames (.invoking m args :: below) := ⟨_, rfl⟩
  rw [← hA] at Y
  have hvm : s'.vm = s.vm := by rw [hA]; rfl
  have hhp : s'.heap = H := by rw [hA]; exact hT
  have hW0 : s.WarmedH s'.vm := by rw [hvm]; exact State.WarmedH.refl s
  have hat' : ∀ w ∈ vx_atS own ic cls names, w.before args s' = true := fun w hw => vx_ot_at hW0 hvm.symm (hgood w (List.mem_cons_of_mem _ (List.mem_cons_of_mem _ hw))) (hat w hw)
  have hk' : (Cond.classLink own ik cls).before args s' = true := vx_ot_at hW0 hvm.symm (hgood _ List.mem_cons_self) hk
  have hini' : (Cond.initialized cls).before args s' = true := vx_ot_at hW0 hvm.symm (hgood _ (List.mem_cons_of_mem _ List.mem_cons_self)) hini
  have hU' : vx_Zq Bundle.tN "UNASSIGNED_STACK" Bundle.steD A s' s'.heap := by rw [hhp]; exact vx_Zq.moved hW0.alike (hU.kept hS.2.1)
  have hN' : vx_Zq Bundle.tN "SUPPRESSED_SENTINEL" Bundle.listD A s' s'.heap := by rw [hhp]; exact vx_Zq.moved hW0.alike (hN.kept hS.2.1)
  have h : ∀ w ∈ Bundle.ownAtoms own ic cls names, w.before args s' = true := vx_own hat' (vx_isRefq hU'.1) (vx_isRefq hN'.1) hU'.2.word hN'.2.word
  have hown' : s'.vm.findClass own = some m.cls := by rw [hvm]; exact hown
  have hins : (Cond.instantiable cls 6).before args s' = true := h _ (by simp [Bundle.ownAtoms])
  obtain ⟨vm₁, cX, kX, hfX, hkX, -, -, X₁, st1⟩ := Y.newCold hexec (own := own) (C := cls) (index := ik) (n := 6) hown' hk' hins hini'
    (g := F0 m pc ls rest) rfl (by rw [hb]; exact d0) (Nat.le_refl _) (Nat.le_refl _)
  generalize hT1 : (T.setVm vm₁).pushCell { cls := cX, slots := kX.instanceTypes.map defaultValue, vm := .none } = T1 at X₁ st1
  have hcat : (Value.ref T.heap.size).category = 1 := rfl
  have hcellA : T1.heap[T.heap.size]? = some (freshCell cX kX) := by rw [← hT1]; exact State.heap_pushCell_size _ _
  have d3' : decode c.code (pc + 3) = .ok (.dup, 1) := by rw [hb]; exact d3
  have d4' : decode c.code (pc + 4) = .ok (.ldc is, 2) := by rw [hb]; exact d4
  have hstr' : vk_R own is text sa s' := vk_R.warm hW0 hstr
  obtain ⟨U, hsteps, hrun, hend, hW, hsame, ce, hce, hO⟩ := X₁.ctorThrowS hexec htr (own := own) (cls := cls) (names := names) (ic := ic) hown' hcls hnames h (fun x hx => nomatch hx) hfX hkX hcellA (by rw [hhp, hT]; exact Nat.le_refl _) (msg := .ref sa) rfl
    (g := { method := m, pc := pc + 6, locals := ls, stack := .ref sa :: .ref T.heap.size :: .ref T.heap.size :: rest, locked := none }) rfl hsize rfl rfl (rest := rest) rfl
    (by rw [hb]; exact d6) (by rw [hb]; exact d9) hout hRframes (by simp only [List.map_cons, List.sum_cons, hcat]; omega) hlocks
  obtain ⟨f1, f2⟩ := vx_frame hsame
  rw [hhp] at f1 f2
  have hWs : s.WarmedH U.vm := State.WarmedH.trans hW0 hW
  have hcl : s.vm.findClass cls = some ce.cls := by
    have h9 := hO.cls
    rw [hvm] at h9
    exact h9
  have hall : s.sameButNew ({ U with vm := s.vm } : State) locs mc ms := by
    subst hA
    obtain ⟨e1, e2⟩ := hsame
    rw [State.setFrames_setFrames] at e1
    have h2 : (T.setVm s.vm).sameButNew ({ U with vm := s.vm } : State) [] (0 + 1) (0 + 6) := ⟨e1, e2⟩
    have h3 := X.same.trans h2
    rw [List.append_nil] at h3
    exact h3.mono hc hs
  refine ⟨U, ?_, .threw T.heap.size, hrun, hend, Or.inr ⟨T.heap.size, rfl, cls, ce, locs, hx U hWs.alike f1 (fun q hq => f2 q hq (fun z hz => nomatch hz)), hce, hO.vm, hcl, hWs, hall, hf⟩⟩
  refine st1 _ ?_
  show Steps p.tables e below (T1.setTop { method := m, pc := pc + 3, locals := ls, stack := .ref T.heap.size :: rest, locked := none }) _
  jvm_step X₁.here [X₁.here.top, hexec, d3', Value.category]
  exact X₁.ldcString hexec (own := own) (text := text) (index := is) (a := sa) hown' hstr'.1 hstr'.2
    (g := { method := m, pc := pc + 4, locals := ls, stack := .ref T.heap.size :: .ref T.heap.size :: rest, locked := none }) rfl d4' _ hsteps
/-- 'throw new E("text")', the text by a wide index -/
theorem vx_throwSW {cc : ByteArray} {pc : Nat} (hexec : p.tables.exec = Jvm.exec) (hb : c.code = cc) (hl : l.stackTraces = false) {own cls text : String} {names : List String} {ik is ic mc ms sa : Nat} {A : Nat → Prop}
    (hown : s.vm.findClass own = some m.cls) (hcls : Bundle.fit cls = true) (hnames : ∀ n ∈ names, Bundle.fit n = true)
    (hk : (Cond.classLink own ik cls).before args s = true) (hini : (Cond.initialized cls).before args s = true) (hstr : vk_R own is text sa s) (hat : ∀ w ∈ vx_atS own ic cls names, w.before args s = true)
    (hgood : ∀ w ∈ Cond.classLink own ik cls :: Cond.initialized cls :: vx_atS own ic cls names, vx_ot w = true)
    (hU : vx_Zq Bundle.tN "UNASSIGNED_STACK" Bundle.steD A s s.heap) (hN : vx_Zq Bundle.tN "SUPPRESSED_SENTINEL" Bundle.listD A s s.heap) (hS : va_S A s.heap H locs) (hsize : ls.size = c.maxLocals)
    (d0 : decode cc pc = .ok (.new ik, 3)) (d3 : decode cc (pc + 3) = .ok (.dup, 1)) (d4 : decode cc (pc + 4) = .ok (.ldc_w is, 3)) (d7 : decode cc (pc + 7) = .ok (.invokespecial ic, 3)) (d10 : decode cc (pc + 10) = .ok (.athrow, 1))
    (hout : ∀ x ∈ c.exceptionTable.toList, covers x (pc + 10) = false)
    (hRframes : names.length + 3 < R.frames) (hRlocals : (rest.map fun v => v.category).sum + (13 * (names.length + 1) + 43) ≤ R.locals) (hRcells : cells + 1 ≤ R.cells) (hRslots : slots + 6 ≤ R.slots) (hlocks : meth.locks = false)
    (hx : ∀ t : State, s.vm.Alike t.vm → H.size ≤ t.heap.size → (∀ q : Nat, q < H.size → t.heap[q]? = H[q]?) → XC cls s t)
    (hf : ∀ z ∈ locs, free z.base) (hc : cells + 1 ≤ mc) (hs : slots + 6 ≤ ms) :
    W p l e R s m args below meth c H locs cells slots (vx_MQ below Qc XC args s mc ms free) (F0 m pc ls rest) := by
  intro T hT X
  have htr : e.platform.stackTraces = false := (show e.platform.stackTraces = l.stackTraces by rw [X.admits.platform]).trans hl
  have Y := vx_rebase X (R' := { frames := R.frames, locals := R.locals, cells := 1, slots := 6 }) (Nat.le_refl _) (Nat.le_refl _) hRcells hRslots
  obtain ⟨s', hA⟩ : ∃ z, z = (T.setVm s.vm).setFrames (.invoking m args :: below) := ⟨_, rfl⟩
  rw [← hA] at Y
  have hvm : s'.vm = s.vm := by rw [hA]; rfl
  have hhp : s'.heap = H := by rw [hA]; exact hT
  have hW0 : s.WarmedH s'.vm := by rw [hvm]; exact State.WarmedH.refl s
  have hat' : ∀ w ∈ vx_atS own ic cls names, w.before args s' = true := fun w hw => vx_ot_at hW0 hvm.symm (hgood w (List.mem_cons_of_mem _ (List.mem_cons_of_mem _ hw))) (hat w hw)
  have hk' : (Cond.classLink own ik cls).before args s' = true := vx_ot_at hW0 hvm.symm (hgood _ List.mem_cons_self) hk
  have hini' : (Cond.initialized cls).before args s' = true := vx_ot_at hW0 hvm.symm (hgood _ (List.mem_cons_of_mem _ List.mem_cons_self)) hini
  have hU' : vx_Zq Bundle.tN "UNASSIGNED_STACK" Bundle.steD A s' s'.heap := by rw [hhp]; exact vx_Zq.moved hW0.alike (hU.kept hS.2.1)
  have hN' : vx_Zq Bundle.tN "SUPPRESSED_SENTINEL" Bundle.listD A s' s'.heap := by rw [hhp]; exact vx_Zq.moved hW0.alike (hN.kept hS.2.1)
  have h : ∀ w ∈ Bundle.ownAtoms own ic cls names, w.before args s' = true := vx_own hat' (vx_isRefq hU'.1) (vx_isRefq hN'.1) hU'.2.word hN'.2.word
  have hown' : s'.vm.findClass own = some m.cls := by rw [hvm]; exact hown
  have hins : (Cond.instantiable cls 6).before args s' = true := h _ (by simp [Bundle.ownAtoms])
  obtain ⟨vm₁, cX, kX, hfX, hkX, -, -, X₁, st1⟩ := Y.newCold hexec (own := own) (C := cls) (index := ik) (n := 6) hown' hk' hins hini'
    (g := F0 m pc ls rest) rfl (by rw [hb]; exact d0) (Nat.le_refl _) (Nat.le_refl _)
  generalize hT1 : (T.setVm vm₁).pushCell { cls := cX, slots := kX.instanceTypes.map defaultValue, vm := .none } = T1 at X₁ st1
  have hcat : (Value.ref T.heap.size).category = 1 := rfl
  have hcellA : T1.heap[T.heap.size]? = some (freshCell cX kX) := by rw [← hT1]; exact State.heap_pushCell_size _ _
  have d3' : decode c.code (pc + 3) = .ok (.dup, 1) := by rw [hb]; exact d3
  have d4' : decode c.code (pc + 4) = .ok (.ldc_w is, 3) := by rw [hb]; exact d4
  have hstr' : vk_R own is text sa s' := vk_R.warm hW0 hstr
  obtain ⟨U, hsteps, hrun, hend, hW, hsame, ce, hce, hO⟩ := X₁.ctorThrowS hexec htr (own := own) (cls := cls) (names := names) (ic := ic) hown' hcls hnames h (fun x hx => nomatch hx) hfX hkX hcellA (by rw [hhp, hT]; exact Nat.le_refl _) (msg := .ref sa) rfl
    (g := { method := m, pc := pc + 7, locals := ls, stack := .ref sa :: .ref T.heap.size :: .ref T.heap.size :: rest, locked := none }) rfl hsize rfl rfl (rest := rest) rfl
    (by rw [hb]; exact d7) (by rw [hb]; exact d10) hout hRframes (by simp only [List.map_cons, List.sum_cons, hcat]; omega) hlocks
  obtain ⟨f1, f2⟩ := vx_frame hsame
  rw [hhp] at f1 f2
  have hWs : s.WarmedH U.vm := State.WarmedH.trans hW0 hW
  have hcl : s.vm.findClass cls = some ce.cls := by
    have h9 := hO.cls
    rw [hvm] at h9
    exact h9
  have hall : s.sameButNew ({ U with vm := s.vm } : State) locs mc ms := by
    subst hA
    obtain ⟨e1, e2⟩ := hsame
    rw [State.setFrames_setFrames] at e1
    have h2 : (T.setVm s.vm).sameButNew ({ U with vm := s.vm } : State) [] (0 + 1) (0 + 6) := ⟨e1, e2⟩
    have h3 := X.same.trans h2
    rw [List.append_nil] at h3
    exact h3.mono hc hs
  refine ⟨U, ?_, .threw T.heap.size, hrun, hend, Or.inr ⟨T.heap.size, rfl, cls, ce, locs, hx U hWs.alike f1 (fun q hq => f2 q hq (fun z hz => nomatch hz)), hce, hO.vm, hcl, hWs, hall, hf⟩⟩
  refine st1 _ ?_
  show Steps p.tables e below (T1.setTop { method := m, pc := pc + 3, locals := ls, stack := .ref T.heap.size :: rest, locked := none }) _
  jvm_step X₁.here [X₁.here.top, hexec, d3', Value.category]
  exact X₁.ldcStringW hexec (own := own) (text := text) (index := is) (a := sa) hown' hstr'.1 hstr'.2
    (g := { method := m, pc := pc + 4, locals := ls, stack := .ref T.heap.size :: .ref T.heap.size :: rest, locked := none }) rfl d4' _ hsteps
end Ends
section Bodies
variable {l : Launch}
theorem vx_ofW {y : MethodName} {ws ws' : List Cond} {rm : Room} {Pc : Array Value → State → Prop} {Qc : Array Value → State → Outcome → State → Prop} {XC : String → State → State → Prop} {mc ms : Nat} {free : Addr → Prop} {cc : ByteArray} {maxL : Nat} {ret : Option FieldType}
    (hy : plainName y.cls = true) (hw : ws = Cond.code y cc maxL ret :: ws')
    (body : ∀ p e s m args below meth c s₁, BodyLoose p l y (headSpec ws rm) cc maxL ret e s m args below meth c s₁ → c.maxLocals = maxL → (∀ x ∈ c.exceptionTable.toList, False) → Pc args s →
      W p l e (headSpec ws rm).room s m args below meth c s.heap [] 0 0 (vx_MQ below Qc XC args s mc ms free) (entryFrame m args maxL)) : vx_Met l y ws rm Pc Qc XC mc ms free := by
  refine MetFree.of_bodyS (code := cc) (maxLocals := maxL) (ret := ret) hy ?_ ?_
  · intro args s m h hn
    obtain ⟨meth, c, h1, h2, h3, h4, h5, h6, -, -⟩ := Cond.code_spec hn (atoms_spec (ws := ws) h _ (by rw [hw]; exact List.mem_cons_self))
    exact ⟨meth, c, h1, h2, h3, h4, h5, h6⟩
  · intro p e s m args below meth c s₁ B hml hP _
    have hh0 : s₁.heap = s.heap := by rw [B.state]; rfl
    have ht : ∀ x ∈ c.exceptionTable.toList, False := by
      obtain ⟨meth9, c9, h1, h2, -, -, -, -, h7, -⟩ := Cond.code_spec B.named (atoms_spec (ws := ws) B.pre _ (by rw [hw]; exact List.mem_cons_self))
      cases Option.some.inj (h1.symm.trans B.method)
      cases Option.some.inj (h2.symm.trans (Stand.of_body B).code)
      intro x hx
      rw [Array.isEmpty_iff.mp h7] at hx
      cases hx
    obtain ⟨t, a1, o, b1, b2, b3⟩ := body p e s m args below meth c s₁ B hml ht hP s₁ hh0 (Stand.of_body B)
    exact ⟨t, o, a1, b1, b2, b3⟩
/-- the table of a body with handlers -/
theorem vx_table {p : Program} {x y : MethodName} {S : Spec} {cc bytes : ByteArray} {maxL maxL' : Nat} {ret ret' : Option FieldType} {e : Env} {s s₁ : State} {m : MethodId} {args : Array Value} {below : List Frame} {meth : Method} {c : Code} {hh : List (Nat × Nat × Nat × Nat)}
    (B : BodyLoose p l y S cc maxL ret e s m args below meth c s₁) (h : (Cond.codeWith y bytes maxL' ret' hh).before args s = true) : c.exceptionTable.toList = tableOf hh := by
  obtain ⟨m9, meth9, c9, hn9, h1, h2, -, -, h6, -⟩ := Cond.codeWith_spec h
  cases Option.some.inj (hn9.symm.trans B.named)
  cases Option.some.inj (h1.symm.trans B.method)
  cases Option.some.inj (h2.symm.trans (Stand.of_body B).code)
  rw [← h6, table_eq]
end Bodies
end VXA
/-! ===== END ===== -/
/-! ===== BEGIN a static call of a method with an exception table ===== -/
section VXS
variable {p : Program} {l : Launch} {e : Env} {R : Room} {s : State} {m : MethodId} {args : Array Value} {below : List Frame} {meth : Method} {c : Code} {T : State} {H : Heap} {locs : List Loc} {cells slots : Nat}
abbrev vx_CSW (R : Room) (s : State) (args : Array Value) (own : String) (index : Nat) (y : MethodName) (bytes : ByteArray) (maxL : Nat) (ret : Option FieldType) (hh : List (Nat × Nat × Nat × Nat)) (ws : List Cond) (rm : Room) (mc ms n : Nat) : Prop :=
  (rm.cells = mc ∧ rm.slots = ms ∧ rm.frames + 1 ≤ R.frames ∧ 8 + (maxL + 11) + rm.locals ≤ R.locals ∧ (∀ w ∈ ws, ∀ (a' : Array Value) (U : State), s.WarmedH U.vm → w.before a' U = true) ∧ Cond.codeWith y bytes maxL ret hh ∈ ws) ∧
  (Cond.codeWith y bytes maxL ret hh).before args s = true ∧ (Cond.initialized y.cls).before args s = true ∧ (y.cls ≠ "java/lang/invoke/MethodHandle" ∧ y.cls ≠ "java/lang/invoke/VarHandle") ∧
  (∀ sig, parseMethodDescriptor y.desc = some sig → n = sig.parameters.length) ∧ (Cond.methodLink own index y).before args s = true ∧ (Cond.static y).before args s = true
theorem vx_cwSW {own : String} {index maxL mc ms : Nat} {y : MethodName} {bytes : ByteArray} {ret : Option FieldType} {hh : List (Nat × Nat × Nat × Nat)} {Ts ws ws' : List Cond} {rm : Room} (n : Nat) (ht : ∀ w ∈ Ts, w.before args s = true) (hT : GoodIn Ts (va_wsS own index y ws)) (hw : ws = Cond.codeWith y bytes maxL ret hh :: ws') (hrc : rm.cells = mc) (hrs : rm.slots = ms)
    (hd : y.cls ≠ "java/lang/invoke/MethodHandle" ∧ y.cls ≠ "java/lang/invoke/VarHandle" ∧ (parseMethodDescriptor y.desc).map (fun d => d.parameters.length) = some n) (hR : rm.frames + 1 ≤ R.frames ∧ 8 + (maxL + 11) + rm.locals ≤ R.locals) :
    vx_CSW R s args own index y bytes maxL ret hh ws rm mc ms n := by
  have ok : ∀ w ∈ va_wsS own index y ws, w.before args s = true := fun w h => ht w (hT w h).1
  have hG : GoodIn Ts ws := fun w h => hT w (by unfold va_wsS; exact List.mem_append_right _ h)
  have hc : Cond.codeWith y bytes maxL ret hh ∈ ws := by rw [hw]; exact List.mem_cons_self
  refine ⟨⟨hrc, hrs, hR.1, hR.2, pay_in ht hG, hc⟩, ht _ (hG _ hc).1, ok _ (by simp [va_wsS]), ⟨hd.1, hd.2.1⟩, fun sig h => ?_, ok _ (by simp [va_wsS]), ok _ (by simp [va_wsS])⟩
  have h2 := hd.2.2
  rw [h] at h2
  exact (Option.some.inj h2).symm
theorem vx_callSW (X : Stand p l e R s m args below meth c T locs cells slots) (hexec : p.tables.exec = Jvm.exec) {own : String} {index : Nat} {y : MethodName} {bytes : ByteArray} {maxL : Nat} {ret : Option FieldType} {hh : List (Nat × Nat × Nat × Nat)}
    (hown : s.vm.findClass own = some m.cls) (hlink : (Cond.methodLink own index y).before args s = true) (hstat : (Cond.static y).before args s = true) (hinit : (Cond.initialized y.cls).before args s = true)
    (hcode : (Cond.codeWith y bytes maxL ret hh).before args s = true) (hy : y.cls ≠ "java/lang/invoke/MethodHandle" ∧ y.cls ≠ "java/lang/invoke/VarHandle")
    {W9 : Nat} {Pre : Pt → Array Value → Prop} {Post : Pt → Array Value → Option Value → Pt → Prop} (hK : Back l R p e below s args y 3 W9 Pre Post)
    {g : JFrame} (hg : g.method = m) (hsize : g.locals.size = c.maxLocals) {argsL rest : List Value} (hlen : ∀ sig, parseMethodDescriptor y.desc = some sig → argsL.length = sig.parameters.length)
    (hstack : g.stack = argsL.reverse ++ rest) (hW : 2 * g.monitorRoom + (rest.map fun v => v.category).sum ≤ W9) (hdg : decode c.code g.pc = .ok (.invokestatic index, 3))
    (hpre : ∀ vm₁, s.WarmedH vm₁ → Pre ⟨T.setVm vm₁, locs, cells, slots⟩ argsL.toArray) :
    ∃ (v : Option Value) (vm₁ : Vm) (B : Pt), s.WarmedH vm₁ ∧ Stand p l e R s m args below meth c B.U B.locs B.cells B.slots ∧ Post ⟨T.setVm vm₁, locs, cells, slots⟩ argsL.toArray v B ∧
      ∀ target, Steps p.tables e below (B.U.setTop { g with pc := g.pc + 3, stack := v.toList ++ rest }) target → Steps p.tables e below (T.setTop g) target := by
  obtain ⟨mk, methM, cM, hnamed, hmethM, -, -, -, -, -, -, hsigM⟩ := Cond.codeWith_spec hcode
  have hstatic : methM.isStatic = true := Cond.static_spec hnamed hmethM hstat
  obtain ⟨kP, hkP, -⟩ := className_of_methodNamed hnamed
  have hinitP : kP.init = .initialized := Cond.initialized_spec (findClass_of_methodNamed hnamed) hkP hinit
  obtain ⟨vm₁, X₁, hstep₁⟩ := X.invokestatic hexec hown hlink hnamed hmethM hstatic hkP hinitP hy (g := g) hg (argsL := argsL) (rest := rest) (hlen _ hsigM) hstack hdg
  obtain ⟨v, B, X', hpost, hsteps⟩ := hK m meth c ⟨T.setVm vm₁, locs, cells, slots⟩ { g with stack := rest } (.invokestatic index) mk argsL.toArray X₁ hg hsize hdg hW (X₁.named hnamed) (hpre vm₁ X₁.warmed)
  exact ⟨v, vm₁, B, X₁.warmed, X', hpost, fun target h => hstep₁ _ fun acts => by rw [doInvoke_state]; exact hsteps.trans h⟩
theorem vx_runSW {y : MethodName} {bytes cc : ByteArray} {maxL nL mc ms n index : Nat} {ret : Option FieldType} {hh : List (Nat × Nat × Nat × Nat)} {ws : List Cond} {rm : Room} {Pc : Array Value → State → Prop} {Qc : Array Value → State → Outcome → State → Prop} {free : Addr → Prop} {Ts : List Cond} {own : String} {As rest : List Value} {g : JFrame}
    (S : CallFix p m c cc nL s args Ts own) (hM : Met l y ws rm Pc Qc mc ms free) (cw : vx_CSW R s args own index y bytes maxL ret hh ws rm mc ms n) (hp : PreS s H Pc As)
    (hg : g.method = m) (hn : As.length = n) (hsize : g.locals.size = nL) (hstack : g.stack = As.reverse ++ rest) (hW : 2 * g.monitorRoom + (rest.map fun v => v.category).sum ≤ 8) (hdg : decode cc g.pc = .ok (.invokestatic index, 3)) (hf : cells + mc ≤ R.cells ∧ slots + ms ≤ R.slots) :
    va_Run p l e R s m args below meth c H locs cells slots mc ms g rest (Qc As.toArray) (free) := by
  obtain ⟨⟨hrc, hrs, hfr, hlo, hws, hcw⟩, hcode, hini, hy, hlen, hl, hstt⟩ := cw
  have hK : Back l R p e below s args y 3 8 (PreOf R mc ms Pc) (PostOf Qc mc ms free) := va_backW (hh := hh) (bytes := bytes) (maxL := maxL) (ret := ret) hM hp.1 hrc hrs hfr hlo hws hcw (fun a' U hW => word_at hW (Or.inl (by first | rfl | simp [Cond.onTables, Cond.keeps, Cond.steady])) hini)
  obtain ⟨hx, hb, hml, ho, -⟩ := S
  intro T hT X
  obtain ⟨v, vm₁, ⟨U', l2, c2, s2⟩, hW₁, X', ⟨g', mk, t, L, e1, e2, hq, h1, hL, h2, h3⟩, st⟩ := vx_callSW X hx (hh := hh) (bytes := bytes) (maxL := maxL) (ret := ret) ho hl hstt hini hcode hy hK hg (hsize.trans hml.symm) (argsL := As) (rest := rest) (fun sig h => hn.trans (hlen sig h)) hstack hW (by rw [hb]; exact hdg)
    (fun vm₁ hW₁ => ⟨hf.1, hf.2, hp.2 (T.setVm vm₁) hT hW₁⟩)
  dsimp only [Pt.U, Pt.locs, Pt.cells, Pt.slots] at X' e1 e2 h1 h2 h3 st
  subst h1; subst h2; subst h3
  exact ⟨v, (T.setVm vm₁).calling g' mk As.toArray, t, U', L, hT, X', hL, e1, e2, hq, st⟩
/-- not caught here, past rows that name other classes: it goes on to the caller -/
theorem vx_outP {p : Program} {l : Launch} {e : Env} {R : Room} {s : State} {m : MethodId} {args : Array Value} {below : List Frame} {meth : Method} {c : Code} {H : Heap} {locs : List Loc} {cells slots : Nat} {free : Addr → Prop} {ls : Array Slot} {rest : List Value} {Qc : Array Value → State → Outcome → State → Prop} {XC : String → State → State → Prop}
    {pc : Nat} {own E : String} {ce : Cell} {q : Addr} {mc ms : Nat} (hown : s.vm.findClass own = some m.cls) (hlocks : meth.locks = false)
    (hpass : ∀ z ∈ c.exceptionTable.toList, covers z pc = false ∨ (z.catchType ≠ 0 ∧ ∃ nm : String, (Cond.classLink own z.catchType nm).before args s = true ∧ va_Nc E nm s)) (hcell : H[q]? = some ce) (hv : ce.vm = .none) (hcl : s.vm.findClass E = some ce.cls)
    (hx : ∀ t : State, t.heap = H → s.vm.Alike t.vm → XC E s t) (hf : ∀ z ∈ locs, free z.base) (hc : cells ≤ mc) (hs : slots ≤ ms) :
    vx_W p l e R s m args below meth c H locs cells slots (vx_MQ below Qc XC args s mc ms free) (F0 m pc ls rest) q := by
  intro T hT X
  have hpl : e.platform.magicAccessors = ({} : Platform).magicAccessors := by rw [X.admits.platform]
  obtain ⟨vm', hW', X', st⟩ := Stand.outThrough X hlocks q (g := F0 m pc ls rest) rfl rfl rfl (cell := ce) (by rw [hT]; exact hcell) (by rw [hv]; rfl)
    (by obtain ⟨k9, h9, -⟩ := Vm.findClass_spec hcl; exact ⟨k9, h9⟩) (fun z hz => by
      rcases hpass z hz with h | ⟨hz0, nm, hl1, hn1⟩
      · exact Or.inl h
      · obtain ⟨c6, hc6, hcl6⟩ := Cond.classLink_spec hown hl1 e.platform hpl
        obtain ⟨a8, b8, h1, h2, h3⟩ := hn1
        cases Option.some.inj (h1.symm.trans hcl)
        cases Option.some.inj (h2.symm.trans hc6)
        exact Or.inr ⟨hz0, _, hcl6, h3⟩)
  obtain ⟨g₀, hfr⟩ := X'.frames_eq
  have hcell9 : ((T.setVm vm').setFrames (.throwing q :: below)).heap[q]? = some ce := by
    show T.heap[q]? = some ce
    rw [hT]; exact hcell
  have hend : Ended ((T.setVm vm').setFrames (.throwing q :: below)) below (.threw q) := State.frames_setFrames _ (State.cur_lt_of_frames hfr)
  refine ⟨(T.setVm vm').setFrames (.throwing q :: below), ?_, .threw q, X'.here.running, hend, Or.inr ⟨q, rfl, E, ce, locs, hx _ hT (X'.ends _).1.alike, hcell9, hv, hcl, (X'.ends _).1, (X'.ends _).2.mono hc hs, hf⟩⟩
  rw [X.pushThrowing_eq]
  exact st
/-- a thing of a world lies in the heap -/
theorem vx_lt {D : va_G} {cl : List vw_C} {ws : va_W} {H1 : Heap} (h : va_P D cl ws H1) {k : Nat} {q : Nat × va_E} (hk : ws[k]? = some q) : q.1 < H1.size := (h k q hk).lt
end VXS
/-! ===== END ===== -/
/-! ===== BEGIN methods with a table of their own: called by a name, returning or throwing ===== -/
section VXH
/-! vx_backW, vx_callVX, vx_callSX, vx_callVW, vx_runVW, vx_runVX, vx_runSX, vx_ofWH follow the same proofs as their sisters above (Free/Laws.lean, Shelf42/LK1.lean); vx_outP calls Shelf42/NT130.lean (outThrough). -/
section
variable {l : Launch} {R : Room} {p : Program} {e : Env} {below : List Frame} {s : State} {sargs : Array Value} {y : MethodName} {len W9 : Nat}
theorem vx_backW {ws : List Cond} {rm : Room} {Pc : Array Value → State → Prop} {Qc : Array Value → State → Outcome → State → Prop} {XC : String → State → State → Prop} {mc ms : Nat} {free : Addr → Prop} {bytes : ByteArray} {maxL : Nat} {ret : Option FieldType} {hh : List (Nat × Nat × Nat × Nat)}
    (hM : vx_Met l y ws rm Pc Qc XC mc ms free) (hblind : FrameBlind Pc) (hrc : rm.cells = mc) (hrs : rm.slots = ms)
    (hframes : rm.frames + 1 ≤ R.frames) (hlocals : W9 + (maxL + 11) + rm.locals ≤ R.locals)
    (hws : ∀ w ∈ ws, ∀ a' U, s.WarmedH U.vm → w.before a' U = true) (hcode : Cond.codeWith y bytes maxL ret hh ∈ ws) (hinit : ∀ a' U, s.WarmedH U.vm → (Cond.initialized y.cls).before a' U = true) :
    vx_Back l R p e below s sargs y len W9 (PreOf R mc ms Pc) (PostOf Qc mc ms free) (vx_Post XC mc ms free) := by
  intro m meth c A g ig mk a X hg hsize hdg hW hn hp
  have h1 : (headSpec ws rm).pre.before a A.U = true := atoms_intro fun w hw => hws w hw _ _ X.warmed
  have h2 : (Cond.codeWith y bytes maxL ret hh).before a A.U = true := hws _ hcode _ _ X.warmed
  have h3 : (Cond.initialized y.cls).before a A.U = true := hinit _ _ X.warmed
  have h4 : A.cells + (headSpec ws rm).room.cells ≤ R.cells := by rw [show (headSpec ws rm).room.cells = mc from hrc]; exact hp.1
  have h5 : A.slots + (headSpec ws rm).room.slots ≤ R.slots := by rw [show (headSpec ws rm).room.slots = ms from hrs]; exact hp.2.1
  have hPc : Pc a (A.U.calling g mk a) := hblind _ _ _ _ hp.2.2
  obtain ⟨U, Ls, c0, s0⟩ := A
  dsimp only [Pt.U, Pt.locs, Pt.cells, Pt.slots] at h1 h2 h3 h4 h5 X hn hPc ⊢
  obtain ⟨m9, methY, cY, hn9, hmY, hcY, -, hlY, -⟩ := Cond.codeWith_spec h2
  cases Option.some.inj (hn9.symm.trans hn)
  obtain ⟨kY, hkY, -⟩ := className_of_methodNamed hn
  have hinitY : kY.init = .initialized := Cond.initialized_spec (findClass_of_methodNamed hn) hkY h3
  have h : At U g.method c below := by rw [hg]; exact X.here
  have hlocals9 : W9 + (maxL + 11) + (headSpec ws rm).room.locals ≤ R.locals := hlocals
  have happ : (headSpec ws rm).appliesLoose y e.platform (U.calling g mk a) = true :=
    Spec.appliesLoose_calling (g := g) h hdg hn hkY hinitY
      (X.room_calling (g := g) (R' := (headSpec ws rm).room) hsize hmY hcY hframes (by rw [hlY]; omega) h4 h5) h1
  obtain ⟨mid, hmid⟩ := h.above
  have hfr : (U.setTop g).frames = (.java g :: mid) ++ below := by rw [State.frames_setTop' g h.top, hmid]; rfl
  obtain ⟨o, s₂, hsteps, -, hend, hq⟩ := Steps.callFree hM p X.admits X.cas X.clock (acts := []) hfr happ hPc trivial
  have hq' : vx_Q Qc XC mc ms free a (U.calling g mk a) o s₂ := hq
  rw [State.frames_setTop' g h.top] at hend
  obtain ⟨g₀, hg0⟩ := Option.isSome_iff_exists.mp h.top
  obtain ⟨r, hr⟩ := State.topJava?_eq_some.mp hg0
  have hr' : (({ U with heap := s₂.heap, slotsUsed := s₂.slotsUsed } : State).setVm s₂.vm).frames = .java g₀ :: r := hr
  rcases hq' with ⟨hqc, L, hfe, hL⟩ | ⟨q, rfl, E, ce, L, hx, hce, hcv, hcl, hW₂, hsm, hL⟩
  · obtain ⟨⟨v, rfl⟩, hW₂, e2, q2, q3, q4, q5, q6⟩ := id hfe
    have e3 : s₂ = ({ (U.calling g mk a).setFrames s₂.frames with heap := s₂.heap, slotsUsed := s₂.slotsUsed } : State).setVm s₂.vm := by
      have : s₂ = ({ s₂ with vm := (U.calling g mk a).vm } : State).setVm s₂.vm := rfl
      rw [e2] at this
      exact this
    obtain ⟨c₂, i₂, len₂, hc₂, hd₂, hf₂⟩ := hend
    have hW' : U.WarmedH s₂.vm := hW₂
    have hcc : c₂ = c := by
      have h1 : s₂.code? g.method = U.code? g.method := by
        rw [State.code?_eq, State.code?_eq, hW'.alike.method?]
      exact Option.some.inj (hc₂.symm.trans (h1.trans h.code))
    subst hcc
    have hlen : len₂ = len := by rw [hdg] at hd₂; cases hd₂; rfl
    subst hlen
    have hs₂ : s₂ = (({ U with heap := s₂.heap, slotsUsed := s₂.slotsUsed } : State).setVm s₂.vm).setTop { g with pc := g.pc + len₂, stack := v.toList ++ g.stack } := by
      refine e3.trans ?_
      rw [hf₂, State.calling_eq h.top, State.setFrames_setFrames, State.setTop_of_frames _ hr', hr]
      rfl
    have hsame : U.sameButNew ({ U with heap := s₂.heap, slotsUsed := s₂.slotsUsed } : State) L mc ms := by
      refine ⟨?_, q2, q3, q4, q5, q6⟩
      obtain ⟨t, ht, -⟩ := State.frames_cons hr
      show ({ U with heap := s₂.heap, slotsUsed := s₂.slotsUsed } : State) = { U.setFrames U.frames with heap := s₂.heap, slotsUsed := s₂.slotsUsed }
      rw [State.setFrames_self ht]
    subst hg
    refine Or.inl ⟨v, ⟨(({ U with heap := s₂.heap, slotsUsed := s₂.slotsUsed } : State).setVm s₂.vm), Ls ++ L, c0 + mc, s0 + ms⟩,
      ⟨X.admits, X.cas, X.clock, X.frames, X.room, X.hears, X.method, X.code, (X.here.setHeapUsed s₂.heap s₂.slotsUsed).setVm hW'.alike, X.tail, State.WarmedH.trans X.warmed hW', X.limits, X.bytes, X.same.trans (hsame.setVm s.vm)⟩,
      ⟨g, mk, s₂, L, rfl, rfl, hqc, rfl, hL, rfl, rfl⟩, ?_⟩
    show Steps p.tables e below _ ((({ U with heap := s₂.heap, slotsUsed := s₂.slotsUsed } : State).setVm s₂.vm).setTop { g with pc := g.pc + len₂, stack := v.toList ++ g.stack })
    rw [← hs₂]
    exact hsteps
  · obtain ⟨e2, q2, q3, q4, q5, q6⟩ := id hsm
    have e3 : s₂ = ({ (U.calling g mk a).setFrames s₂.frames with heap := s₂.heap, slotsUsed := s₂.slotsUsed } : State).setVm s₂.vm := by
      have : s₂ = ({ s₂ with vm := (U.calling g mk a).vm } : State).setVm s₂.vm := rfl
      rw [e2] at this
      exact this
    have hf₂ : s₂.frames = .throwing q :: .java g :: U.frames.tail := hend
    have hW' : U.WarmedH s₂.vm := hW₂
    have hs₂ : s₂ = ((({ U with heap := s₂.heap, slotsUsed := s₂.slotsUsed } : State).setVm s₂.vm).setTop g).pushFrame (.throwing q) := by
      refine e3.trans ?_
      rw [hf₂, State.calling_eq h.top, State.setFrames_setFrames, State.pushFrame, State.frames_setTop _ hr', State.setTop_of_frames _ hr', State.setFrames_setFrames, hr]
      rfl
    have hsame : U.sameButNew ({ U with heap := s₂.heap, slotsUsed := s₂.slotsUsed } : State) L mc ms := by
      refine ⟨?_, q2, q3, q4, q5, q6⟩
      obtain ⟨t, ht, -⟩ := State.frames_cons hr
      show ({ U with heap := s₂.heap, slotsUsed := s₂.slotsUsed } : State) = { U.setFrames U.frames with heap := s₂.heap, slotsUsed := s₂.slotsUsed }
      rw [State.setFrames_self ht]
    subst hg
    refine Or.inr ⟨q, ⟨(({ U with heap := s₂.heap, slotsUsed := s₂.slotsUsed } : State).setVm s₂.vm), Ls ++ L, c0 + mc, s0 + ms⟩,
      ⟨X.admits, X.cas, X.clock, X.frames, X.room, X.hears, X.method, X.code, (X.here.setHeapUsed s₂.heap s₂.slotsUsed).setVm hW'.alike, X.tail, State.WarmedH.trans X.warmed hW', X.limits, X.bytes, X.same.trans (hsame.setVm s.vm)⟩,
      ⟨g, mk, s₂, L, E, ce, rfl, rfl, hx, hce, hcv, hcl, rfl, hL, rfl, rfl⟩, ?_⟩
    show Steps p.tables e below _ (((({ U with heap := s₂.heap, slotsUsed := s₂.slotsUsed } : State).setVm s₂.vm).setTop g).pushFrame (.throwing q))
    rw [← hs₂]
    exact hsteps
end
variable {p : Program} {l : Launch} {e : Env} {R : Room} {s : State} {m : MethodId} {args : Array Value} {below : List Frame} {meth : Method} {c : Code} {T : State} {H : Heap} {locs : List Loc} {cells slots : Nat}
theorem vx_callVX (X : Stand p l e R s m args below meth c T locs cells slots) (hexec : p.tables.exec = Jvm.exec) {own C : String} {index : Nat} {y : MethodName} {bytes : ByteArray} {maxL : Nat} {ret : Option FieldType} {hh : List (Nat × Nat × Nat × Nat)}
    (hown : s.vm.findClass own = some m.cls) (hlink : (Cond.methodLink own index y).before args s = true) (hinst : (Cond.instanceMethod y).before args s = true) (hsel : (Cond.selects C y y).before args s = true)
    (hcode : (Cond.codeWith y bytes maxL ret hh).before args s = true) (hy : y.cls ≠ "java/lang/invoke/MethodHandle" ∧ y.cls ≠ "java/lang/invoke/VarHandle")
    {W9 : Nat} {Pre : Pt → Array Value → Prop} {Post : Pt → Array Value → Option Value → Pt → Prop} {PostX : Pt → Array Value → Addr → Pt → Prop} (hK : vx_Back l R p e below s args y 3 W9 Pre Post PostX)
    {b : Addr} {cellB : Cell} (hcell : T.heap[b]? = some cellB) (hobj : cellB.vm.isStatics = false) (hcls : s.vm.findClass C = some cellB.cls)
    {g : JFrame} (hg : g.method = m) (hsize : g.locals.size = c.maxLocals) {argsL rest : List Value} (hlen : ∀ sig, parseMethodDescriptor y.desc = some sig → argsL.length = sig.parameters.length)
    (hstack : g.stack = argsL.reverse ++ .ref b :: rest) (hW : 2 * g.monitorRoom + (rest.map fun v => v.category).sum ≤ W9) (hdg : decode c.code g.pc = .ok (.invokevirtual index, 3))
    (hpre : ∀ vm₁, s.WarmedH vm₁ → Pre ⟨T.setVm vm₁, locs, cells, slots⟩ (Value.ref b :: argsL).toArray) :
    (∃ (v : Option Value) (vm₁ : Vm) (B : Pt), s.WarmedH vm₁ ∧ Stand p l e R s m args below meth c B.U B.locs B.cells B.slots ∧ Post ⟨T.setVm vm₁, locs, cells, slots⟩ (Value.ref b :: argsL).toArray v B ∧
      ∀ target, Steps p.tables e below (B.U.setTop { g with pc := g.pc + 3, stack := v.toList ++ rest }) target → Steps p.tables e below (T.setTop g) target) ∨
    (∃ (q : Addr) (vm₁ : Vm) (B : Pt), s.WarmedH vm₁ ∧ Stand p l e R s m args below meth c B.U B.locs B.cells B.slots ∧ PostX ⟨T.setVm vm₁, locs, cells, slots⟩ (Value.ref b :: argsL).toArray q B ∧
      Steps p.tables e below (T.setTop g) ((B.U.setTop { g with stack := rest }).pushFrame (.throwing q))) := by
  obtain ⟨mk, methM, hnamed, hmethM, hstM, habM⟩ := Cond.instanceMethod_spec hinst
  obtain ⟨m8, methM', cM, hn8, hmethM', -, -, -, -, -, -, hsigM⟩ := Cond.codeWith_spec hcode
  cases Option.some.inj (hn8.symm.trans hnamed)
  cases hmethM.symm.trans hmethM'
  obtain ⟨c2, r2, m2, q1, q2, q3, q4, kP, hkP, hkPi⟩ := Cond.selects_spec hsel
  cases hcls.symm.trans q1
  cases (State.methodFound?_of_named hnamed hy).symm.trans q2
  cases hnamed.symm.trans q3
  have hselP : selectMethod e.platform s.vm cellB.cls mk = .method mk := by rw [Launch.admits_selectMethod X.admits]; exact q4
  obtain ⟨vm₁, X₁, hstep₁⟩ := X.invokevirtual hexec hown hlink hnamed hmethM hstM hkP hkPi hy (a := b) (cell := cellB) hcell
    (fun z h => by rw [h] at hobj; cases hobj) hselP hmethM habM hkP hkPi (g := g) hg (argsL := argsL) (rest := rest) (hlen _ hsigM) hstack hdg
  rcases hK m meth c ⟨T.setVm vm₁, locs, cells, slots⟩ { g with stack := rest } (.invokevirtual index) mk (Value.ref b :: argsL).toArray X₁ hg hsize hdg hW (X₁.named hnamed) (hpre vm₁ X₁.warmed) with ⟨v, B, X', hpost, hsteps⟩ | ⟨q, B, X', hpost, hsteps⟩
  · exact Or.inl ⟨v, vm₁, B, X₁.warmed, X', hpost, fun target h => hstep₁ _ fun acts => by rw [doInvoke_state]; exact hsteps.trans h⟩
  · exact Or.inr ⟨q, vm₁, B, X₁.warmed, X', hpost, hstep₁ _ fun acts => by rw [doInvoke_state]; exact hsteps⟩
theorem vx_callSX (X : Stand p l e R s m args below meth c T locs cells slots) (hexec : p.tables.exec = Jvm.exec) {own : String} {index : Nat} {y : MethodName} {bytes : ByteArray} {maxL : Nat} {ret : Option FieldType} {hh : List (Nat × Nat × Nat × Nat)}
    (hown : s.vm.findClass own = some m.cls) (hlink : (Cond.methodLink own index y).before args s = true) (hstat : (Cond.static y).before args s = true) (hinit : (Cond.initialized y.cls).before args s = true)
    (hcode : (Cond.codeWith y bytes maxL ret hh).before args s = true) (hy : y.cls ≠ "java/lang/invoke/MethodHandle" ∧ y.cls ≠ "java/lang/invoke/VarHandle")
    {W9 : Nat} {Pre : Pt → Array Value → Prop} {Post : Pt → Array Value → Option Value → Pt → Prop} {PostX : Pt → Array Value → Addr → Pt → Prop} (hK : vx_Back l R p e below s args y 3 W9 Pre Post PostX)
    {g : JFrame} (hg : g.method = m) (hsize : g.locals.size = c.maxLocals) {argsL rest : List Value} (hlen : ∀ sig, parseMethodDescriptor y.desc = some sig → argsL.length = sig.parameters.length)
    (hstack : g.stack = argsL.reverse ++ rest) (hW : 2 * g.monitorRoom + (rest.map fun v => v.category).sum ≤ W9) (hdg : decode c.code g.pc = .ok (.invokestatic index, 3))
    (hpre : ∀ vm₁, s.WarmedH vm₁ → Pre ⟨T.setVm vm₁, locs, cells, slots⟩ argsL.toArray) :
    (∃ (v : Option Value) (vm₁ : Vm) (B : Pt), s.WarmedH vm₁ ∧ Stand p l e R s m args below meth c B.U B.locs B.cells B.slots ∧ Post ⟨T.setVm vm₁, locs, cells, slots⟩ argsL.toArray v B ∧
      ∀ target, Steps p.tables e below (B.U.setTop { g with pc := g.pc + 3, stack := v.toList ++ rest }) target → Steps p.tables e below (T.setTop g) target) ∨
    (∃ (q : Addr) (vm₁ : Vm) (B : Pt), s.WarmedH vm₁ ∧ Stand p l e R s m args below meth c B.U B.locs B.cells B.slots ∧ PostX ⟨T.setVm vm₁, locs, cells, slots⟩ argsL.toArray q B ∧
      Steps p.tables e below (T.setTop g) ((B.U.setTop { g with stack := rest }).pushFrame (.throwing q))) := by
  obtain ⟨mk, methM, cM, hnamed, hmethM, -, -, -, -, -, -, hsigM⟩ := Cond.codeWith_spec hcode
  have hstatic : methM.isStatic = true := Cond.static_spec hnamed hmethM hstat
  obtain ⟨kP, hkP, -⟩ := className_of_methodNamed hnamed
  have hinitP : kP.init = .initialized := Cond.initialized_spec (findClass_of_methodNamed hnamed) hkP hinit
  obtain ⟨vm₁, X₁, hstep₁⟩ := X.invokestatic hexec hown hlink hnamed hmethM hstatic hkP hinitP hy (g := g) hg (argsL := argsL) (rest := rest) (hlen _ hsigM) hstack hdg
  rcases hK m meth c ⟨T.setVm vm₁, locs, cells, slots⟩ { g with stack := rest } (.invokestatic index) mk argsL.toArray X₁ hg hsize hdg hW (X₁.named hnamed) (hpre vm₁ X₁.warmed) with ⟨v, B, X', hpost, hsteps⟩ | ⟨q, B, X', hpost, hsteps⟩
  · exact Or.inl ⟨v, vm₁, B, X₁.warmed, X', hpost, fun target h => hstep₁ _ fun acts => by rw [doInvoke_state]; exact hsteps.trans h⟩
  · exact Or.inr ⟨q, vm₁, B, X₁.warmed, X', hpost, hstep₁ _ fun acts => by rw [doInvoke_state]; exact hsteps⟩
theorem vx_callVW (X : Stand p l e R s m args below meth c T locs cells slots) (hexec : p.tables.exec = Jvm.exec) {own C : String} {index : Nat} {y : MethodName} {bytes : ByteArray} {maxL : Nat} {ret : Option FieldType} {hh : List (Nat × Nat × Nat × Nat)}
    (hown : s.vm.findClass own = some m.cls) (hlink : (Cond.methodLink own index y).before args s = true) (hinst : (Cond.instanceMethod y).before args s = true) (hsel : (Cond.selects C y y).before args s = true)
    (hcode : (Cond.codeWith y bytes maxL ret hh).before args s = true) (hy : y.cls ≠ "java/lang/invoke/MethodHandle" ∧ y.cls ≠ "java/lang/invoke/VarHandle")
    {W9 : Nat} {Pre : Pt → Array Value → Prop} {Post : Pt → Array Value → Option Value → Pt → Prop} (hK : Back l R p e below s args y 3 W9 Pre Post)
    {b : Addr} {cellB : Cell} (hcell : T.heap[b]? = some cellB) (hobj : cellB.vm.isStatics = false) (hcls : s.vm.findClass C = some cellB.cls)
    {g : JFrame} (hg : g.method = m) (hsize : g.locals.size = c.maxLocals) {argsL rest : List Value} (hlen : ∀ sig, parseMethodDescriptor y.desc = some sig → argsL.length = sig.parameters.length)
    (hstack : g.stack = argsL.reverse ++ .ref b :: rest) (hW : 2 * g.monitorRoom + (rest.map fun v => v.category).sum ≤ W9) (hdg : decode c.code g.pc = .ok (.invokevirtual index, 3))
    (hpre : ∀ vm₁, s.WarmedH vm₁ → Pre ⟨T.setVm vm₁, locs, cells, slots⟩ (Value.ref b :: argsL).toArray) :
    ∃ (v : Option Value) (vm₁ : Vm) (B : Pt), s.WarmedH vm₁ ∧ Stand p l e R s m args below meth c B.U B.locs B.cells B.slots ∧ Post ⟨T.setVm vm₁, locs, cells, slots⟩ (Value.ref b :: argsL).toArray v B ∧
      ∀ target, Steps p.tables e below (B.U.setTop { g with pc := g.pc + 3, stack := v.toList ++ rest }) target → Steps p.tables e below (T.setTop g) target := by
  obtain ⟨mk, methM, hnamed, hmethM, hstM, habM⟩ := Cond.instanceMethod_spec hinst
  obtain ⟨m8, methM', cM, hn8, hmethM', -, -, -, -, -, -, hsigM⟩ := Cond.codeWith_spec hcode
  cases Option.some.inj (hn8.symm.trans hnamed)
  cases hmethM.symm.trans hmethM'
  obtain ⟨c2, r2, m2, q1, q2, q3, q4, kP, hkP, hkPi⟩ := Cond.selects_spec hsel
  cases hcls.symm.trans q1
  cases (State.methodFound?_of_named hnamed hy).symm.trans q2
  cases hnamed.symm.trans q3
  have hselP : selectMethod e.platform s.vm cellB.cls mk = .method mk := by rw [Launch.admits_selectMethod X.admits]; exact q4
  obtain ⟨vm₁, X₁, hstep₁⟩ := X.invokevirtual hexec hown hlink hnamed hmethM hstM hkP hkPi hy (a := b) (cell := cellB) hcell
    (fun z h => by rw [h] at hobj; cases hobj) hselP hmethM habM hkP hkPi (g := g) hg (argsL := argsL) (rest := rest) (hlen _ hsigM) hstack hdg
  obtain ⟨v, B, X', hpost, hsteps⟩ := hK m meth c ⟨T.setVm vm₁, locs, cells, slots⟩ { g with stack := rest } (.invokevirtual index) mk (Value.ref b :: argsL).toArray X₁ hg hsize hdg hW (X₁.named hnamed) (hpre vm₁ X₁.warmed)
  exact ⟨v, vm₁, B, X₁.warmed, X', hpost, fun target h => hstep₁ _ fun acts => by rw [doInvoke_state]; exact hsteps.trans h⟩
abbrev vx_CVW (R : Room) (s : State) (args : Array Value) (own C : String) (index : Nat) (y : MethodName) (bytes : ByteArray) (maxL : Nat) (ret : Option FieldType) (hh : List (Nat × Nat × Nat × Nat)) (ws : List Cond) (rm : Room) (mc ms n : Nat) : Prop :=
  (rm.cells = mc ∧ rm.slots = ms ∧ rm.frames + 1 ≤ R.frames ∧ 8 + (maxL + 11) + rm.locals ≤ R.locals ∧ (∀ w ∈ ws, ∀ (a' : Array Value) (U : State), s.WarmedH U.vm → w.before a' U = true) ∧ Cond.codeWith y bytes maxL ret hh ∈ ws) ∧
  (Cond.codeWith y bytes maxL ret hh).before args s = true ∧ (Cond.initialized y.cls).before args s = true ∧ (y.cls ≠ "java/lang/invoke/MethodHandle" ∧ y.cls ≠ "java/lang/invoke/VarHandle") ∧
  (∀ sig, parseMethodDescriptor y.desc = some sig → n = sig.parameters.length) ∧ (Cond.methodLink own index y).before args s = true ∧ (Cond.instanceMethod y).before args s = true ∧ (Cond.selects C y y).before args s = true
theorem vx_cwVW {own C : String} {index maxL mc ms : Nat} {y : MethodName} {bytes : ByteArray} {ret : Option FieldType} {hh : List (Nat × Nat × Nat × Nat)} {Ts ws ws' : List Cond} {rm : Room} (n : Nat) (ht : ∀ w ∈ Ts, w.before args s = true) (hT : GoodIn Ts (wsV own index C y ws)) (hw : ws = Cond.codeWith y bytes maxL ret hh :: ws') (hrc : rm.cells = mc) (hrs : rm.slots = ms)
    (hd : y.cls = C ∧ y.cls ≠ "java/lang/invoke/MethodHandle" ∧ y.cls ≠ "java/lang/invoke/VarHandle" ∧ (parseMethodDescriptor y.desc).map (fun d => d.parameters.length) = some n) (hR : rm.frames + 1 ≤ R.frames ∧ 8 + (maxL + 11) + rm.locals ≤ R.locals) :
    vx_CVW R s args own C index y bytes maxL ret hh ws rm mc ms n := by
  obtain ⟨hC, hd⟩ := hd
  subst hC
  have ok : ∀ w ∈ wsV own index y.cls y ws, w.before args s = true := fun w h => ht w (hT w h).1
  have hG : GoodIn Ts ws := fun w h => hT w (by unfold wsV; exact List.mem_append_right _ h)
  have hc : Cond.codeWith y bytes maxL ret hh ∈ ws := by rw [hw]; exact List.mem_cons_self
  refine ⟨⟨hrc, hrs, hR.1, hR.2, pay_in ht hG, hc⟩, ht _ (hG _ hc).1, ok _ (by simp [wsV]), ⟨hd.1, hd.2.1⟩, fun sig h => ?_, ok _ (by simp [wsV]), ok _ (by simp [wsV]), ok _ (by simp [wsV])⟩
  have h2 := hd.2.2
  rw [h] at h2
  exact (Option.some.inj h2).symm
theorem vx_runVW {y : MethodName} {bytes cc : ByteArray} {maxL nL mc ms n index : Nat} {ret : Option FieldType} {hh : List (Nat × Nat × Nat × Nat)} {ws : List Cond} {rm : Room} {Pc : Array Value → State → Prop} {Qc : Array Value → State → Outcome → State → Prop} {free : Addr → Prop} {Ts : List Cond} {own C : String} {b : Addr} {As rest : List Value} {g : JFrame}
    (S : CallFix p m c cc nL s args Ts own) (hM : Met l y ws rm Pc Qc mc ms free) (cw : vx_CVW R s args own C index y bytes maxL ret hh ws rm mc ms n) (hp : PreV s H C b Pc As)
    (hg : g.method = m) (hn : As.length = n) (hsize : g.locals.size = nL) (hstack : g.stack = As.reverse ++ .ref b :: rest) (hW : 2 * g.monitorRoom + (rest.map fun v => v.category).sum ≤ 8) (hdg : decode cc g.pc = .ok (.invokevirtual index, 3)) (hf : cells + mc ≤ R.cells ∧ slots + ms ≤ R.slots) :
    va_Run p l e R s m args below meth c H locs cells slots mc ms g rest (Qc (Value.ref b :: As).toArray) free := by
  obtain ⟨⟨hrc, hrs, hfr, hlo, hws, hcw⟩, hcode, hini, hy, hlen, hl, hin, hse⟩ := cw
  have hK : Back l R p e below s args y 3 8 (PreOf R mc ms Pc) (PostOf Qc mc ms free) := va_backW (hh := hh) (bytes := bytes) (maxL := maxL) (ret := ret) hM hp.1 hrc hrs hfr hlo hws hcw (fun a' U hW => word_at hW (Or.inl (by first | rfl | simp [Cond.onTables, Cond.keeps, Cond.steady])) hini)
  obtain ⟨hx, hb, hml, ho, -⟩ := S
  obtain ⟨-, ⟨cellB, hcB, hoB, hclB⟩, hPc⟩ := hp
  intro T hT X
  obtain ⟨v, vm₁, ⟨U', l2, c2, s2⟩, hW₁, X', ⟨g', mk, t, L, e1, e2, hq, h1, hL, h2, h3⟩, st⟩ := vx_callVW X hx (C := C) (hh := hh) (bytes := bytes) (maxL := maxL) (ret := ret) ho hl hin hse hcode hy hK (by rw [hT]; exact hcB) hoB hclB hg (hsize.trans hml.symm) (argsL := As) (rest := rest) (fun sig h => hn.trans (hlen sig h)) hstack hW (by rw [hb]; exact hdg)
    (fun vm₁ hW₁ => ⟨hf.1, hf.2, hPc (T.setVm vm₁) hT hW₁⟩)
  dsimp only [Pt.U, Pt.locs, Pt.cells, Pt.slots] at X' e1 e2 h1 h2 h3 st
  subst h1; subst h2; subst h3
  exact ⟨v, (T.setVm vm₁).calling g' mk (Value.ref b :: As).toArray, t, U', L, hT, X', hL, e1, e2, hq, st⟩
section
variable {y : MethodName} {bytes cc : ByteArray} {maxL nL mc ms n index : Nat} {ret : Option FieldType} {ws : List Cond} {rm : Room} {Pc : Array Value → State → Prop} {Qc : Array Value → State → Outcome → State → Prop} {XC : String → State → State → Prop} {free : Addr → Prop} {Ts : List Cond} {own C : String} {b : Addr} {As rest : List Value} {g : JFrame}
theorem vx_runVX {hh : List (Nat × Nat × Nat × Nat)} (S : CallFix p m c cc nL s args Ts own) (hM : vx_Met l y ws rm Pc Qc XC mc ms free) (cw : vx_CVW R s args own C index y bytes maxL ret hh ws rm mc ms n) (hp : PreV s H C b Pc As)
    (hg : g.method = m) (hn : As.length = n) (hsize : g.locals.size = nL) (hstack : g.stack = As.reverse ++ .ref b :: rest) (hW : 2 * g.monitorRoom + (rest.map fun v => v.category).sum ≤ 8) (hdg : decode cc g.pc = .ok (.invokevirtual index, 3)) (hf : cells + mc ≤ R.cells ∧ slots + ms ≤ R.slots) :
    vx_Run p l e R s m args below meth c H locs cells slots mc ms g rest (Qc (Value.ref b :: As).toArray) XC free := by
  obtain ⟨⟨hrc, hrs, hfr, hlo, hws, hcw⟩, hcode, hini, hy, hlen, hl, hin, hse⟩ := cw
  have hK : vx_Back l R p e below s args y 3 8 (PreOf R mc ms Pc) (PostOf Qc mc ms free) (vx_Post XC mc ms free) := vx_backW (hh := hh) (bytes := bytes) (maxL := maxL) (ret := ret) hM hp.1 hrc hrs hfr hlo hws hcw (fun a' U hW => word_at hW (Or.inl (by first | rfl | simp [Cond.onTables, Cond.keeps, Cond.steady])) hini)
  obtain ⟨hx, hb, hml, ho, -⟩ := S
  obtain ⟨-, ⟨cellB, hcB, hoB, hclB⟩, hPc⟩ := hp
  intro T hT X
  rcases vx_callVX X hx (C := C) (hh := hh) (bytes := bytes) (maxL := maxL) (ret := ret) ho hl hin hse hcode hy hK (by rw [hT]; exact hcB) hoB hclB hg (hsize.trans hml.symm) (argsL := As) (rest := rest) (fun sig h => hn.trans (hlen sig h)) hstack hW (by rw [hb]; exact hdg)
    (fun vm₁ hW₁ => ⟨hf.1, hf.2, hPc (T.setVm vm₁) hT hW₁⟩) with ⟨v, vm₁, ⟨U', l2, c2, s2⟩, hW₁, X', ⟨g', mk, t, L, e1, e2, hq, h1, hL, h2, h3⟩, st⟩ | ⟨q, vm₁, ⟨U', l2, c2, s2⟩, hW₁, X', ⟨g', mk, t, L, E, ce, e1, e2, hq, hce, hcv, hcl, h1, hL, h2, h3⟩, st⟩
  · dsimp only [Pt.U, Pt.locs, Pt.cells, Pt.slots] at X' e1 e2 h1 h2 h3 st
    subst h1; subst h2; subst h3
    exact Or.inl ⟨v, (T.setVm vm₁).calling g' mk (Value.ref b :: As).toArray, t, U', L, hT, X', hL, e1, e2, hq, st⟩
  · dsimp only [Pt.U, Pt.locs, Pt.cells, Pt.slots] at X' e1 e2 h1 h2 h3 st hcl
    subst h1; subst h2; subst h3
    exact Or.inr ⟨q, (T.setVm vm₁).calling g' mk (Value.ref b :: As).toArray, t, U', L, E, ce, hT, X', hL, e1, e2, hq, hce, hcv, vx_cls hW₁ hcl, st⟩
theorem vx_runSX {hh : List (Nat × Nat × Nat × Nat)} (S : CallFix p m c cc nL s args Ts own) (hM : vx_Met l y ws rm Pc Qc XC mc ms free) (cw : vx_CSW R s args own index y bytes maxL ret hh ws rm mc ms n) (hp : PreS s H Pc As)
    (hg : g.method = m) (hn : As.length = n) (hsize : g.locals.size = nL) (hstack : g.stack = As.reverse ++ rest) (hW : 2 * g.monitorRoom + (rest.map fun v => v.category).sum ≤ 8) (hdg : decode cc g.pc = .ok (.invokestatic index, 3)) (hf : cells + mc ≤ R.cells ∧ slots + ms ≤ R.slots) :
    vx_Run p l e R s m args below meth c H locs cells slots mc ms g rest (Qc As.toArray) XC free := by
  obtain ⟨⟨hrc, hrs, hfr, hlo, hws, hcw⟩, hcode, hini, hy, hlen, hl, hstt⟩ := cw
  have hK : vx_Back l R p e below s args y 3 8 (PreOf R mc ms Pc) (PostOf Qc mc ms free) (vx_Post XC mc ms free) := vx_backW (hh := hh) (bytes := bytes) (maxL := maxL) (ret := ret) hM hp.1 hrc hrs hfr hlo hws hcw (fun a' U hW => word_at hW (Or.inl (by first | rfl | simp [Cond.onTables, Cond.keeps, Cond.steady])) hini)
  obtain ⟨hx, hb, hml, ho, -⟩ := S
  intro T hT X
  rcases vx_callSX X hx (hh := hh) (bytes := bytes) (maxL := maxL) (ret := ret) ho hl hstt hini hcode hy hK hg (hsize.trans hml.symm) (argsL := As) (rest := rest) (fun sig h => hn.trans (hlen sig h)) hstack hW (by rw [hb]; exact hdg)
    (fun vm₁ hW₁ => ⟨hf.1, hf.2, hp.2 (T.setVm vm₁) hT hW₁⟩) with ⟨v, vm₁, ⟨U', l2, c2, s2⟩, hW₁, X', ⟨g', mk, t, L, e1, e2, hq, h1, hL, h2, h3⟩, st⟩ | ⟨q, vm₁, ⟨U', l2, c2, s2⟩, hW₁, X', ⟨g', mk, t, L, E, ce, e1, e2, hq, hce, hcv, hcl, h1, hL, h2, h3⟩, st⟩
  · dsimp only [Pt.U, Pt.locs, Pt.cells, Pt.slots] at X' e1 e2 h1 h2 h3 st
    subst h1; subst h2; subst h3
    exact Or.inl ⟨v, (T.setVm vm₁).calling g' mk As.toArray, t, U', L, hT, X', hL, e1, e2, hq, st⟩
  · dsimp only [Pt.U, Pt.locs, Pt.cells, Pt.slots] at X' e1 e2 h1 h2 h3 st hcl
    subst h1; subst h2; subst h3
    exact Or.inr ⟨q, (T.setVm vm₁).calling g' mk As.toArray, t, U', L, E, ce, hT, X', hL, e1, e2, hq, hce, hcv, vx_cls hW₁ hcl, st⟩
end
end VXH
theorem vx_ofWH {l : Launch} {y : MethodName} {ws ws' : List Cond} {rm : Room} {Pc : Array Value → State → Prop} {Qc : Array Value → State → Outcome → State → Prop} {XC : String → State → State → Prop} {mc ms : Nat} {free : Addr → Prop} {cc : ByteArray} {maxL : Nat} {ret : Option FieldType} {hh : List (Nat × Nat × Nat × Nat)}
    (hy : plainName y.cls = true) (hw : ws = Cond.codeWith y cc maxL ret hh :: ws')
    (body : ∀ p e s m args below meth c s₁, BodyLoose p l y (headSpec ws rm) cc maxL ret e s m args below meth c s₁ → c.maxLocals = maxL → Pc args s →
      W p l e (headSpec ws rm).room s m args below meth c s.heap [] 0 0 (vx_MQ below Qc XC args s mc ms free) (entryFrame m args maxL)) : vx_Met l y ws rm Pc Qc XC mc ms free := by
  refine MetFree.of_bodyS (code := cc) (maxLocals := maxL) (ret := ret) hy ?_ ?_
  · intro args s m h hn
    obtain ⟨m9, meth, c, hn9, h1, h2, h3, h4, -, h5, h6, -⟩ := Cond.codeWith_spec (atoms_spec (ws := ws) h _ (by rw [hw]; exact List.mem_cons_self))
    cases hn.symm.trans hn9
    exact ⟨meth, c, h1, h2, h3, h4, h5, h6⟩
  · intro p e s m args below meth c s₁ B hml hP _
    have hh0 : s₁.heap = s.heap := by rw [B.state]; rfl
    obtain ⟨t, a1, o, b1, b2, b3⟩ := body p e s m args below meth c s₁ B hml hP s₁ hh0 (Stand.of_body B)
    exact ⟨t, o, a1, b1, b2, b3⟩
/-! ===== END ===== -/

def RX0 : String := "BurntOak$Book"
def TX0 : u_T := fun k => match k with
  | 0 => ("BurntOak$Book", "tellings", "I", false)
  | 1 => ("BurntOak$Book", "goals", "[I", true)
  | 2 => ("BurntOak$Book", "tellers", "[I", true)
  | 3 => ("BurntOak$Book", "sayings", "[I", true)
  | 4 => ("BurntOak$Book", "words", "[I", true)
  | 5 => ("BurntOak$Book", "records", "I", false)
  | 6 => ("BurntOak$Book", "recordWalker", "[I", true)
  | 7 => ("BurntOak$Book", "recordTelling", "[I", true)
  | 8 => ("BurntOak$Book", "recordState", "[I", true)
  | 9 => ("BurntOak$Book", "recordYear", "[I", true)
  | _ => ("BurntOak$Book", "recordPlace", "[I", true)
def tyX0 : Nat → FieldType := fun k => match k with
  | 0 => .int
  | 1 => .array .int
  | 2 => .array .int
  | 3 => .array .int
  | 4 => .array .int
  | 5 => .int
  | 6 => .array .int
  | 7 => .array .int
  | 8 => .array .int
  | 9 => .array .int
  | _ => .array .int
theorem nmX0 : ∀ a, a < 11 → ∀ b, b < 11 → a ≠ b → (TX0 a).2.1 ≠ (TX0 b).2.1 := by decide +kernel
theorem tyX0_ok : ∀ k, k < 11 → parseFieldDescriptor (TX0 k).2.2.1 = some (tyX0 k) := by decide +kernel
abbrev cX0_init : ByteArray := prog_2_method_1_code
def yX0_init : MethodName := ⟨RX0, "<init>", "()V"⟩
abbrev cX0_addTelling : ByteArray := prog_2_method_2_code
def yX0_addTelling : MethodName := ⟨RX0, "addTelling", "([IIII)I"⟩
abbrev cX0_addListed : ByteArray := prog_2_method_3_code
def yX0_addListed : MethodName := ⟨RX0, "addListed", "(LBurntOak$Tray;II)I"⟩
abbrev cX0_addRecord : ByteArray := prog_2_method_4_code
def yX0_addRecord : MethodName := ⟨RX0, "addRecord", "(IIIII)I"⟩
abbrev cX0_recordsOf : ByteArray := prog_2_method_5_code
def yX0_recordsOf : MethodName := ⟨RX0, "recordsOf", "(IZ)I"⟩
abbrev cX0_take : ByteArray := prog_2_method_6_code
def yX0_take : MethodName := ⟨RX0, "take", "(LBurntOak$Book;)V"⟩
def RX1 : String := "BurntOak$Finder"
def TX1 : u_T := fun k => match k with
  | 0 => ("BurntOak$Finder", "walk", "LBurntOak$Walk;", true)
  | 1 => ("BurntOak$Finder", "walkers", "I", false)
  | 2 => ("BurntOak$Finder", "goal", "J", false)
  | 3 => ("BurntOak$Finder", "found", "[I", true)
  | 4 => ("BurntOak$Finder", "sets", "[LBurntOak$States;", true)
  | 5 => ("BurntOak$Finder", "tried", "[I", true)
  | 6 => ("BurntOak$Finder", "leading", "[I", true)
  | 7 => ("BurntOak$Finder", "astray", "[I", true)
  | 8 => ("BurntOak$Finder", "target", "LBurntOak$States;", true)
  | 9 => ("BurntOak$Finder", "list", "[I", true)
  | _ => ("BurntOak$Finder", "one", "[I", true)
def tyX1 : Nat → FieldType := fun k => match k with
  | 0 => .object "BurntOak$Walk"
  | 1 => .int
  | 2 => .long
  | 3 => .array .int
  | 4 => .array (.object "BurntOak$States")
  | 5 => .array .int
  | 6 => .array .int
  | 7 => .array .int
  | 8 => .object "BurntOak$States"
  | 9 => .array .int
  | _ => .array .int
theorem nmX1 : ∀ a, a < 11 → ∀ b, b < 11 → a ≠ b → (TX1 a).2.1 ≠ (TX1 b).2.1 := by decide +kernel
theorem tyX1_ok : ∀ k, k < 11 → parseFieldDescriptor (TX1 k).2.2.1 = some (tyX1 k) := by decide +kernel
abbrev cX1_init : ByteArray := prog_3_method_1_code
def yX1_init : MethodName := ⟨RX1, "<init>", "(LBurntOak$Walk;)V"⟩
abbrev cX1_begin : ByteArray := prog_3_method_2_code
def yX1_begin : MethodName := ⟨RX1, "begin", "(III)V"⟩
abbrev cX1_search : ByteArray := prog_3_method_3_code
def yX1_search : MethodName := ⟨RX1, "search", "(II)Z"⟩
abbrev cX1_allGoOn : ByteArray := prog_3_method_4_code
def yX1_allGoOn : MethodName := ⟨RX1, "allGoOn", "(II)Z"⟩
abbrev cX1_arriving : ByteArray := prog_3_method_5_code
def yX1_arriving : MethodName := ⟨RX1, "arriving", "(III)I"⟩
abbrev cX1_judge : ByteArray := prog_3_method_6_code
def yX1_judge : MethodName := ⟨RX1, "judge", "(II)V"⟩
def RX2 : String := "BurntOak$Folk"
def TX2 : u_T := fun k => match k with
  | 0 => ("BurntOak$Folk", "tongues", "I", false)
  | 1 => ("BurntOak$Folk", "meanings", "[I", true)
  | 2 => ("BurntOak$Folk", "walkers", "I", false)
  | 3 => ("BurntOak$Folk", "tongueOf", "[I", true)
  | 4 => ("BurntOak$Folk", "notices", "[I", true)
  | 5 => ("BurntOak$Folk", "turns", "[Z", true)
  | 6 => ("BurntOak$Folk", "paths", "[Z", true)
  | _ => ("BurntOak$Folk", "patience", "[I", true)
def tyX2 : Nat → FieldType := fun k => match k with
  | 0 => .int
  | 1 => .array .int
  | 2 => .int
  | 3 => .array .int
  | 4 => .array .int
  | 5 => .array .boolean
  | 6 => .array .boolean
  | _ => .array .int
theorem nmX2 : ∀ a, a < 8 → ∀ b, b < 8 → a ≠ b → (TX2 a).2.1 ≠ (TX2 b).2.1 := by decide +kernel
theorem tyX2_ok : ∀ k, k < 8 → parseFieldDescriptor (TX2 k).2.2.1 = some (tyX2 k) := by decide +kernel
abbrev cX2_init : ByteArray := prog_4_method_1_code
def yX2_init : MethodName := ⟨RX2, "<init>", "()V"⟩
abbrev cX2_addTongue : ByteArray := prog_4_method_2_code
def yX2_addTongue : MethodName := ⟨RX2, "addTongue", "()I"⟩
abbrev cX2_addWalker : ByteArray := prog_4_method_3_code
def yX2_addWalker : MethodName := ⟨RX2, "addWalker", "(IIZZI)I"⟩
abbrev cX2_kindsOf : ByteArray := prog_4_method_4_code
def yX2_kindsOf : MethodName := ⟨RX2, "kindsOf", "(II)I"⟩
abbrev cX2_howManyKnow : ByteArray := prog_4_method_5_code
def yX2_howManyKnow : MethodName := ⟨RX2, "howManyKnow", "(II)I"⟩
abbrev cX2_take : ByteArray := prog_4_method_6_code
def yX2_take : MethodName := ⟨RX2, "take", "(LBurntOak$Folk;)V"⟩
def RX3 : String := "BurntOak$Land"
def TX3 : u_T := fun k => match k with
  | 0 => ("BurntOak$Land", "places", "I", false)
  | 1 => ("BurntOak$Land", "x", "[I", true)
  | 2 => ("BurntOak$Land", "y", "[I", true)
  | 3 => ("BurntOak$Land", "ways", "I", false)
  | 4 => ("BurntOak$Land", "wayKind", "[I", true)
  | 5 => ("BurntOak$Land", "wayLength", "[I", true)
  | 6 => ("BurntOak$Land", "wayFrom", "[I", true)
  | 7 => ("BurntOak$Land", "wayTo", "[I", true)
  | 8 => ("BurntOak$Land", "spots", "[I", true)
  | 9 => ("BurntOak$Land", "dx", "[I", true)
  | 10 => ("BurntOak$Land", "dy", "[I", true)
  | 11 => ("BurntOak$Land", "marks", "I", false)
  | 12 => ("BurntOak$Land", "markPlace", "[I", true)
  | 13 => ("BurntOak$Land", "markKind", "[I", true)
  | 14 => ("BurntOak$Land", "markTall", "[Z", true)
  | 15 => ("BurntOak$Land", "markFrom", "[I", true)
  | _ => ("BurntOak$Land", "markTo", "[I", true)
def tyX3 : Nat → FieldType := fun k => match k with
  | 0 => .int
  | 1 => .array .int
  | 2 => .array .int
  | 3 => .int
  | 4 => .array .int
  | 5 => .array .int
  | 6 => .array .int
  | 7 => .array .int
  | 8 => .array .int
  | 9 => .array .int
  | 10 => .array .int
  | 11 => .int
  | 12 => .array .int
  | 13 => .array .int
  | 14 => .array .boolean
  | 15 => .array .int
  | _ => .array .int
theorem nmX3 : ∀ a, a < 17 → ∀ b, b < 17 → a ≠ b → (TX3 a).2.1 ≠ (TX3 b).2.1 := by decide +kernel
theorem tyX3_ok : ∀ k, k < 17 → parseFieldDescriptor (TX3 k).2.2.1 = some (tyX3 k) := by decide +kernel
abbrev cX3_init : ByteArray := prog_5_method_1_code
def yX3_init : MethodName := ⟨RX3, "<init>", "()V"⟩
abbrev cX3_isTaken : ByteArray := prog_5_method_2_code
def yX3_isTaken : MethodName := ⟨RX3, "isTaken", "(II)Z"⟩
abbrev cX3_addPlace : ByteArray := prog_5_method_3_code
def yX3_addPlace : MethodName := ⟨RX3, "addPlace", "(II)I"⟩
abbrev cX3_isJoined : ByteArray := prog_5_method_4_code
def yX3_isJoined : MethodName := ⟨RX3, "isJoined", "(IIII)Z"⟩
abbrev cX3_addWay : ByteArray := prog_5_method_5_code
def yX3_addWay : MethodName := ⟨RX3, "addWay", "(IIIIII)I"⟩
abbrev cX3_addMark : ByteArray := prog_5_method_6_code
def yX3_addMark : MethodName := ⟨RX3, "addMark", "(IIZII)I"⟩
abbrev cX3_marksOf : ByteArray := prog_5_method_7_code
def yX3_marksOf : MethodName := ⟨RX3, "marksOf", "(II)I"⟩
abbrev cX3_take : ByteArray := prog_5_method_8_code
def yX3_take : MethodName := ⟨RX3, "take", "(LBurntOak$Land;)V"⟩
def RX4 : String := "BurntOak$Odds"
def TX4 : u_T := fun k => match k with
  | 0 => ("BurntOak$Odds", "walk", "LBurntOak$Walk;", true)
  | 1 => ("BurntOak$Odds", "here", "[I", false)
  | 2 => ("BurntOak$Odds", "there", "[I", false)
  | 3 => ("BurntOak$Odds", "one", "[I", true)
  | 4 => ("BurntOak$Odds", "target", "LBurntOak$States;", true)
  | 5 => ("BurntOak$Odds", "list", "[I", true)
  | 6 => ("BurntOak$Odds", "firstAt", "[I", true)
  | _ => ("BurntOak$Odds", "secondAt", "[I", true)
def tyX4 : Nat → FieldType := fun k => match k with
  | 0 => .object "BurntOak$Walk"
  | 1 => .array .int
  | 2 => .array .int
  | 3 => .array .int
  | 4 => .object "BurntOak$States"
  | 5 => .array .int
  | 6 => .array .int
  | _ => .array .int
theorem nmX4 : ∀ a, a < 8 → ∀ b, b < 8 → a ≠ b → (TX4 a).2.1 ≠ (TX4 b).2.1 := by decide +kernel
theorem tyX4_ok : ∀ k, k < 8 → parseFieldDescriptor (TX4 k).2.2.1 = some (tyX4 k) := by decide +kernel
abbrev cX4_init : ByteArray := prog_6_method_1_code
def yX4_init : MethodName := ⟨RX4, "<init>", "(LBurntOak$Walk;)V"⟩
abbrev cX4_start : ByteArray := prog_6_method_2_code
def yX4_start : MethodName := ⟨RX4, "start", "(I)V"⟩
abbrev cX4_spread : ByteArray := prog_6_method_3_code
def yX4_spread : MethodName := ⟨RX4, "spread", "(LBurntOak$States;)V"⟩
abbrev cX4_share : ByteArray := prog_6_method_4_code
def yX4_share : MethodName := ⟨RX4, "share", "(ILBurntOak$States;[I)V"⟩
abbrev cX4_goOn : ByteArray := prog_6_method_5_code
def yX4_goOn : MethodName := ⟨RX4, "goOn", "(II)V"⟩
abbrev cX4_partsAt : ByteArray := prog_6_method_6_code
def yX4_partsAt : MethodName := ⟨RX4, "partsAt", "(I)I"⟩
abbrev cX4_sumUp : ByteArray := prog_6_method_7_code
def yX4_sumUp : MethodName := ⟨RX4, "sumUp", "([I)V"⟩
abbrev cX4_meet : ByteArray := prog_6_method_8_code
def yX4_meet : MethodName := ⟨RX4, "meet", "(IIII)I"⟩
def RX5 : String := "BurntOak$Reader"
def TX5 : u_T := fun k => match k with
  | 0 => ("BurntOak$Reader", "tape", "[B", true)
  | 1 => ("BurntOak$Reader", "held", "I", false)
  | 2 => ("BurntOak$Reader", "fault", "I", false)
  | 3 => ("BurntOak$Reader", "faultAt", "I", false)
  | 4 => ("BurntOak$Reader", "words", "[I", true)
  | 5 => ("BurntOak$Reader", "many", "I", false)
  | 6 => ("BurntOak$Reader", "at", "I", false)
  | 7 => ("BurntOak$Reader", "begun", "I", false)
  | 8 => ("BurntOak$Reader", "token", "I", false)
  | 9 => ("BurntOak$Reader", "number", "I", false)
  | 10 => ("BurntOak$Reader", "awaited", "I", false)
  | 11 => ("BurntOak$Reader", "ors", "I", false)
  | 12 => ("BurntOak$Reader", "does", "I", false)
  | _ => ("BurntOak$Reader", "amount", "I", false)
def tyX5 : Nat → FieldType := fun k => match k with
  | 0 => .array .byte
  | 1 => .int
  | 2 => .int
  | 3 => .int
  | 4 => .array .int
  | 5 => .int
  | 6 => .int
  | 7 => .int
  | 8 => .int
  | 9 => .int
  | 10 => .int
  | 11 => .int
  | 12 => .int
  | _ => .int
theorem nmX5 : ∀ a, a < 14 → ∀ b, b < 14 → a ≠ b → (TX5 a).2.1 ≠ (TX5 b).2.1 := by decide +kernel
theorem tyX5_ok : ∀ k, k < 14 → parseFieldDescriptor (TX5 k).2.2.1 = some (tyX5 k) := by decide +kernel
abbrev cX5_init : ByteArray := prog_7_method_1_code
def yX5_init : MethodName := ⟨RX5, "<init>", "()V"⟩
abbrev cX5_put : ByteArray := prog_7_method_2_code
def yX5_put : MethodName := ⟨RX5, "put", "(I)V"⟩
abbrev cX5_read : ByteArray := prog_7_method_3_code
def yX5_read : MethodName := ⟨RX5, "read", "(I)I"⟩
abbrev cX5_scan : ByteArray := prog_7_method_4_code
def yX5_scan : MethodName := ⟨RX5, "scan", "(I)V"⟩
abbrev cX5_scanNumber : ByteArray := prog_7_method_5_code
def yX5_scanNumber : MethodName := ⟨RX5, "scanNumber", "(I)V"⟩
abbrev cX5_scanWord : ByteArray := prog_7_method_6_code
def yX5_scanWord : MethodName := ⟨RX5, "scanWord", "(I)V"⟩
abbrev cX5_isWord : ByteArray := prog_7_method_7_code
def yX5_isWord : MethodName := ⟨RX5, "isWord", "(I)Z"⟩
abbrev cX5_take : ByteArray := prog_7_method_8_code
def yX5_take : MethodName := ⟨RX5, "take", "()I"⟩
abbrev cX5_await : ByteArray := prog_7_method_9_code
def yX5_await : MethodName := ⟨RX5, "await", "(II)I"⟩
abbrev cX5_keep : ByteArray := prog_7_method_10_code
def yX5_keep : MethodName := ⟨RX5, "keep", "(II)I"⟩
abbrev cX5_takeFirst : ByteArray := prog_7_method_11_code
def yX5_takeFirst : MethodName := ⟨RX5, "takeFirst", "()I"⟩
abbrev cX5_takeWord : ByteArray := prog_7_method_12_code
def yX5_takeWord : MethodName := ⟨RX5, "takeWord", "()I"⟩
abbrev cX5_isBadNumber : ByteArray := prog_7_method_13_code
def yX5_isBadNumber : MethodName := ⟨RX5, "isBadNumber", "()Z"⟩
abbrev cX5_takeAmount : ByteArray := prog_7_method_14_code
def yX5_takeAmount : MethodName := ⟨RX5, "takeAmount", "(I)I"⟩
abbrev cX5_takeSide : ByteArray := prog_7_method_15_code
def yX5_takeSide : MethodName := ⟨RX5, "takeSide", "()I"⟩
abbrev cX5_takeMore : ByteArray := prog_7_method_16_code
def yX5_takeMore : MethodName := ⟨RX5, "takeMore", "()I"⟩
def RX6 : String := "BurntOak$States"
def TX6 : u_T := fun k => match k with
  | _ => ("BurntOak$States", "quarters", "[J", true)
def tyX6 : Nat → FieldType := fun k => match k with
  | _ => .array .long
theorem nmX6 : ∀ a, a < 1 → ∀ b, b < 1 → a ≠ b → (TX6 a).2.1 ≠ (TX6 b).2.1 := by decide +kernel
theorem tyX6_ok : ∀ k, k < 1 → parseFieldDescriptor (TX6 k).2.2.1 = some (tyX6 k) := by decide +kernel
abbrev cX6_init : ByteArray := prog_8_method_1_code
def yX6_init : MethodName := ⟨RX6, "<init>", "()V"⟩
abbrev cX6_stateOf : ByteArray := prog_8_method_2_code
def yX6_stateOf : MethodName := ⟨RX6, "stateOf", "(II)I"⟩
abbrev cX6_clear : ByteArray := prog_8_method_3_code
def yX6_clear : MethodName := ⟨RX6, "clear", "()V"⟩
abbrev cX6_add : ByteArray := prog_8_method_4_code
def yX6_add : MethodName := ⟨RX6, "add", "(I)V"⟩
abbrev cX6_addArrows : ByteArray := prog_8_method_5_code
def yX6_addArrows : MethodName := ⟨RX6, "addArrows", "(JJ)V"⟩
abbrev cX6_isEmpty : ByteArray := prog_8_method_6_code
def yX6_isEmpty : MethodName := ⟨RX6, "isEmpty", "()Z"⟩
abbrev cX6_size : ByteArray := prog_8_method_7_code
def yX6_size : MethodName := ⟨RX6, "size", "()I"⟩
abbrev cX6_list : ByteArray := prog_8_method_8_code
def yX6_list : MethodName := ⟨RX6, "list", "([I)I"⟩
abbrev cX6_nth : ByteArray := prog_8_method_9_code
def yX6_nth : MethodName := ⟨RX6, "nth", "(I)I"⟩
def RX7 : String := "BurntOak$Steps"
def TX7 : u_T := fun k => match k with
  | 0 => ("BurntOak$Steps", "map", "LBurntOak$YearMap;", true)
  | 1 => ("BurntOak$Steps", "many", "I", false)
  | 2 => ("BurntOak$Steps", "arrows", "[I", false)
  | 3 => ("BurntOak$Steps", "tags", "[J", false)
  | 4 => ("BurntOak$Steps", "nextMany", "I", false)
  | 5 => ("BurntOak$Steps", "nextArrows", "[I", false)
  | 6 => ("BurntOak$Steps", "nextTags", "[J", false)
  | 7 => ("BurntOak$Steps", "starts", "[I", false)
  | 8 => ("BurntOak$Steps", "start", "I", false)
  | 9 => ("BurntOak$Steps", "startsEnd", "I", false)
  | _ => ("BurntOak$Steps", "lengths", "J", false)
def tyX7 : Nat → FieldType := fun k => match k with
  | 0 => .object "BurntOak$YearMap"
  | 1 => .int
  | 2 => .array .int
  | 3 => .array .long
  | 4 => .int
  | 5 => .array .int
  | 6 => .array .long
  | 7 => .array .int
  | 8 => .int
  | 9 => .int
  | _ => .long
theorem nmX7 : ∀ a, a < 11 → ∀ b, b < 11 → a ≠ b → (TX7 a).2.1 ≠ (TX7 b).2.1 := by decide +kernel
theorem tyX7_ok : ∀ k, k < 11 → parseFieldDescriptor (TX7 k).2.2.1 = some (tyX7 k) := by decide +kernel
abbrev cX7_init : ByteArray := prog_9_method_1_code
def yX7_init : MethodName := ⟨RX7, "<init>", "(LBurntOak$YearMap;)V"⟩
abbrev cX7_begin : ByteArray := prog_9_method_2_code
def yX7_begin : MethodName := ⟨RX7, "begin", "([IIIJ)V"⟩
abbrev cX7_go : ByteArray := prog_9_method_3_code
def yX7_go : MethodName := ⟨RX7, "go", "()Z"⟩
abbrev cX7_clearNow : ByteArray := prog_9_method_4_code
def yX7_clearNow : MethodName := ⟨RX7, "clearNow", "()V"⟩
abbrev cX7_carry : ByteArray := prog_9_method_5_code
def yX7_carry : MethodName := ⟨RX7, "carry", "(IJ)V"⟩
def RX8 : String := "BurntOak$Tray"
def TX8 : u_T := fun k => match k with
  | 0 => ("BurntOak$Tray", "missing", "Z", false)
  | 1 => ("BurntOak$Tray", "sort", "I", false)
  | 2 => ("BurntOak$Tray", "many", "I", false)
  | _ => ("BurntOak$Tray", "row", "[J", true)
def tyX8 : Nat → FieldType := fun k => match k with
  | 0 => .boolean
  | 1 => .int
  | 2 => .int
  | _ => .array .long
theorem nmX8 : ∀ a, a < 4 → ∀ b, b < 4 → a ≠ b → (TX8 a).2.1 ≠ (TX8 b).2.1 := by decide +kernel
theorem tyX8_ok : ∀ k, k < 4 → parseFieldDescriptor (TX8 k).2.2.1 = some (tyX8 k) := by decide +kernel
abbrev cX8_init : ByteArray := prog_10_method_1_code
def yX8_init : MethodName := ⟨RX8, "<init>", "()V"⟩
abbrev cX8_lay : ByteArray := prog_10_method_2_code
def yX8_lay : MethodName := ⟨RX8, "lay", "(II)V"⟩
abbrev cX8_cut : ByteArray := prog_10_method_3_code
def yX8_cut : MethodName := ⟨RX8, "cut", "(J)J"⟩
abbrev cX8_isSayable : ByteArray := prog_10_method_4_code
def yX8_isSayable : MethodName := ⟨RX8, "isSayable", "()Z"⟩
def RX9 : String := "BurntOak$Walk"
def TX9 : u_T := fun k => match k with
  | 0 => ("BurntOak$Walk", "map", "LBurntOak$YearMap;", true)
  | 1 => ("BurntOak$Walk", "folk", "LBurntOak$Folk;", true)
  | 2 => ("BurntOak$Walk", "book", "LBurntOak$Book;", true)
  | 3 => ("BurntOak$Walk", "steps", "LBurntOak$Steps;", true)
  | 4 => ("BurntOak$Walk", "kinds", "[I", true)
  | 5 => ("BurntOak$Walk", "standing", "[J", true)
  | 6 => ("BurntOak$Walk", "who", "I", false)
  | 7 => ("BurntOak$Walk", "now", "LBurntOak$States;", false)
  | 8 => ("BurntOak$Walk", "next", "LBurntOak$States;", false)
  | _ => ("BurntOak$Walk", "list", "[I", true)
def tyX9 : Nat → FieldType := fun k => match k with
  | 0 => .object "BurntOak$YearMap"
  | 1 => .object "BurntOak$Folk"
  | 2 => .object "BurntOak$Book"
  | 3 => .object "BurntOak$Steps"
  | 4 => .array .int
  | 5 => .array .long
  | 6 => .int
  | 7 => .object "BurntOak$States"
  | 8 => .object "BurntOak$States"
  | _ => .array .int
theorem nmX9 : ∀ a, a < 10 → ∀ b, b < 10 → a ≠ b → (TX9 a).2.1 ≠ (TX9 b).2.1 := by decide +kernel
theorem tyX9_ok : ∀ k, k < 10 → parseFieldDescriptor (TX9 k).2.2.1 = some (tyX9 k) := by decide +kernel
abbrev cX9_init : ByteArray := prog_11_method_1_code
def yX9_init : MethodName := ⟨RX9, "<init>", "(LBurntOak$YearMap;LBurntOak$Folk;LBurntOak$Book;)V"⟩
abbrev cX9_learnGround : ByteArray := prog_11_method_2_code
def yX9_learnGround : MethodName := ⟨RX9, "learnGround", "(I)V"⟩
abbrev cX9_become : ByteArray := prog_11_method_3_code
def yX9_become : MethodName := ⟨RX9, "become", "(I)V"⟩
abbrev cX9_suppose : ByteArray := prog_11_method_4_code
def yX9_suppose : MethodName := ⟨RX9, "suppose", "(II)V"⟩
abbrev cX9_placesWith : ByteArray := prog_11_method_5_code
def yX9_placesWith : MethodName := ⟨RX9, "placesWith", "(I)J"⟩
abbrev cX9_seenPlaces : ByteArray := prog_11_method_6_code
def yX9_seenPlaces : MethodName := ⟨RX9, "seenPlaces", "(I)J"⟩
abbrev cX9_lead : ByteArray := prog_11_method_7_code
def yX9_lead : MethodName := ⟨RX9, "lead", "(I[IILBurntOak$States;)V"⟩
abbrev cX9_sideOf : ByteArray := prog_11_method_8_code
def yX9_sideOf : MethodName := ⟨RX9, "sideOf", "(II)I"⟩
abbrev cX9_goTimes : ByteArray := prog_11_method_9_code
def yX9_goTimes : MethodName := ⟨RX9, "goTimes", "(I[IILBurntOak$States;)V"⟩
abbrev cX9_goUntil : ByteArray := prog_11_method_10_code
def yX9_goUntil : MethodName := ⟨RX9, "goUntil", "(J[IIZLBurntOak$States;)V"⟩
abbrev cX9_goFar : ByteArray := prog_11_method_11_code
def yX9_goFar : MethodName := ⟨RX9, "goFar", "(I[IILBurntOak$States;)V"⟩
abbrev cX9_staySeeing : ByteArray := prog_11_method_12_code
def yX9_staySeeing : MethodName := ⟨RX9, "staySeeing", "(J[IILBurntOak$States;)V"⟩
abbrev cX9_stayAheadOf : ByteArray := prog_11_method_13_code
def yX9_stayAheadOf : MethodName := ⟨RX9, "stayAheadOf", "(J[IILBurntOak$States;)V"⟩
abbrev cX9_goBack : ByteArray := prog_11_method_14_code
def yX9_goBack : MethodName := ⟨RX9, "goBack", "([IILBurntOak$States;)V"⟩
abbrev cX9_turn : ByteArray := prog_11_method_15_code
def yX9_turn : MethodName := ⟨RX9, "turn", "(I[IILBurntOak$States;)V"⟩
abbrev cX9_turnAt : ByteArray := prog_11_method_16_code
def yX9_turnAt : MethodName := ⟨RX9, "turnAt", "(IIJLBurntOak$States;)V"⟩
abbrev cX9_follow : ByteArray := prog_11_method_17_code
def yX9_follow : MethodName := ⟨RX9, "follow", "(III)I"⟩
abbrev cX9_lastPlaces : ByteArray := prog_11_method_18_code
def yX9_lastPlaces : MethodName := ⟨RX9, "lastPlaces", "(II)J"⟩
abbrev cX9_getsThere : ByteArray := prog_11_method_19_code
def yX9_getsThere : MethodName := ⟨RX9, "getsThere", "(II)Z"⟩
def RX10 : String := "BurntOak$YearMap"
def TX10 : u_T := fun k => match k with
  | 0 => ("BurntOak$YearMap", "land", "LBurntOak$Land;", true)
  | 1 => ("BurntOak$YearMap", "first", "I", false)
  | 2 => ("BurntOak$YearMap", "last", "I", false)
  | 3 => ("BurntOak$YearMap", "stale", "Z", false)
  | 4 => ("BurntOak$YearMap", "ways", "J", false)
  | 5 => ("BurntOak$YearMap", "paths", "[J", true)
  | 6 => ("BurntOak$YearMap", "outs", "[J", true)
  | 7 => ("BurntOak$YearMap", "neighbours", "[J", true)
  | 8 => ("BurntOak$YearMap", "kindPlaces", "[J", true)
  | 9 => ("BurntOak$YearMap", "tallPlaces", "[J", true)
  | 10 => ("BurntOak$YearMap", "known", "[Z", true)
  | _ => ("BurntOak$YearMap", "rows", "[J", true)
def tyX10 : Nat → FieldType := fun k => match k with
  | 0 => .object "BurntOak$Land"
  | 1 => .int
  | 2 => .int
  | 3 => .boolean
  | 4 => .long
  | 5 => .array .long
  | 6 => .array .long
  | 7 => .array .long
  | 8 => .array .long
  | 9 => .array .long
  | 10 => .array .boolean
  | _ => .array .long
theorem nmX10 : ∀ a, a < 12 → ∀ b, b < 12 → a ≠ b → (TX10 a).2.1 ≠ (TX10 b).2.1 := by decide +kernel
theorem tyX10_ok : ∀ k, k < 12 → parseFieldDescriptor (TX10 k).2.2.1 = some (tyX10 k) := by decide +kernel
abbrev cX10_init : ByteArray := prog_12_method_1_code
def yX10_init : MethodName := ⟨RX10, "<init>", "(LBurntOak$Land;)V"⟩
abbrev cX10_forget : ByteArray := prog_12_method_2_code
def yX10_forget : MethodName := ⟨RX10, "forget", "()V"⟩
abbrev cX10_isPreparedFor : ByteArray := prog_12_method_3_code
def yX10_isPreparedFor : MethodName := ⟨RX10, "isPreparedFor", "(I)Z"⟩
abbrev cX10_prepare : ByteArray := prog_12_method_4_code
def yX10_prepare : MethodName := ⟨RX10, "prepare", "(I)V"⟩
abbrev cX10_layWays : ByteArray := prog_12_method_5_code
def yX10_layWays : MethodName := ⟨RX10, "layWays", "(J)V"⟩
abbrev cX10_isThere : ByteArray := prog_12_method_6_code
def yX10_isThere : MethodName := ⟨RX10, "isThere", "(III)Z"⟩
abbrev cX10_addWay : ByteArray := prog_12_method_7_code
def yX10_addWay : MethodName := ⟨RX10, "addWay", "(I)V"⟩
abbrev cX10_addMark : ByteArray := prog_12_method_8_code
def yX10_addMark : MethodName := ⟨RX10, "addMark", "(IJZ)V"⟩
abbrev cX10_placesWith : ByteArray := prog_12_method_9_code
def yX10_placesWith : MethodName := ⟨RX10, "placesWith", "(I)J"⟩
abbrev cX10_seenPlaces : ByteArray := prog_12_method_10_code
def yX10_seenPlaces : MethodName := ⟨RX10, "seenPlaces", "(I)J"⟩
abbrev cX10_look : ByteArray := prog_12_method_11_code
def yX10_look : MethodName := ⟨RX10, "look", "(I)I"⟩
abbrev cX10_placesOf : ByteArray := prog_12_method_12_code
def yX10_placesOf : MethodName := ⟨RX10, "placesOf", "(LBurntOak$States;)J"⟩
def RX11 : String := "BurntOak"
def TX11 : u_T := fun k => match k with
  | 0 => ("BurntOak", "land", "LBurntOak$Land;", true)
  | 1 => ("BurntOak", "folk", "LBurntOak$Folk;", true)
  | 2 => ("BurntOak", "book", "LBurntOak$Book;", true)
  | 3 => ("BurntOak", "map", "LBurntOak$YearMap;", true)
  | 4 => ("BurntOak", "walk", "LBurntOak$Walk;", true)
  | 5 => ("BurntOak", "odds", "LBurntOak$Odds;", true)
  | 6 => ("BurntOak", "finder", "LBurntOak$Finder;", true)
  | 7 => ("BurntOak", "reader", "LBurntOak$Reader;", true)
  | 8 => ("BurntOak", "trays", "[LBurntOak$Tray;", true)
  | 9 => ("BurntOak", "lands", "[LBurntOak$Land;", true)
  | 10 => ("BurntOak", "folks", "[LBurntOak$Folk;", true)
  | _ => ("BurntOak", "books", "[LBurntOak$Book;", true)
def tyX11 : Nat → FieldType := fun k => match k with
  | 0 => .object "BurntOak$Land"
  | 1 => .object "BurntOak$Folk"
  | 2 => .object "BurntOak$Book"
  | 3 => .object "BurntOak$YearMap"
  | 4 => .object "BurntOak$Walk"
  | 5 => .object "BurntOak$Odds"
  | 6 => .object "BurntOak$Finder"
  | 7 => .object "BurntOak$Reader"
  | 8 => .array (.object "BurntOak$Tray")
  | 9 => .array (.object "BurntOak$Land")
  | 10 => .array (.object "BurntOak$Folk")
  | _ => .array (.object "BurntOak$Book")
theorem nmX11 : ∀ a, a < 12 → ∀ b, b < 12 → a ≠ b → (TX11 a).2.1 ≠ (TX11 b).2.1 := by decide +kernel
theorem tyX11_ok : ∀ k, k < 12 → parseFieldDescriptor (TX11 k).2.2.1 = some (tyX11 k) := by decide +kernel
abbrev cX11_init : ByteArray := prog_1_method_1_code
def yX11_init : MethodName := ⟨RX11, "<init>", "()V"⟩
abbrev cX11_place : ByteArray := prog_1_method_2_code
def yX11_place : MethodName := ⟨RX11, "place", "(II)I"⟩
abbrev cX11_way : ByteArray := prog_1_method_3_code
def yX11_way : MethodName := ⟨RX11, "way", "(IIIIII)I"⟩
abbrev cX11_mark : ByteArray := prog_1_method_4_code
def yX11_mark : MethodName := ⟨RX11, "mark", "(IIZII)I"⟩
abbrev cX11_ends : ByteArray := prog_1_method_5_code
def yX11_ends : MethodName := ⟨RX11, "ends", "(ZII)I"⟩
abbrev cX11_state : ByteArray := prog_1_method_6_code
def yX11_state : MethodName := ⟨RX11, "state", "(II)I"⟩
abbrev cX11_out : ByteArray := prog_1_method_7_code
def yX11_out : MethodName := ⟨RX11, "out", "(III)I"⟩
abbrev cX11_on : ByteArray := prog_1_method_8_code
def yX11_on : MethodName := ⟨RX11, "on", "(III)I"⟩
abbrev cX11_tongue : ByteArray := prog_1_method_9_code
def yX11_tongue : MethodName := ⟨RX11, "tongue", "()I"⟩
abbrev cX11_means : ByteArray := prog_1_method_10_code
def yX11_means : MethodName := ⟨RX11, "means", "(III)I"⟩
abbrev cX11_walker : ByteArray := prog_1_method_11_code
def yX11_walker : MethodName := ⟨RX11, "walker", "(IIZZI)I"⟩
abbrev cX11_stands : ByteArray := prog_1_method_12_code
def yX11_stands : MethodName := ⟨RX11, "stands", "(IIIIZ)Z"⟩
abbrev cX11_worth : ByteArray := prog_1_method_13_code
def yX11_worth : MethodName := ⟨RX11, "worth", "(IIII)I"⟩
abbrev cX11_feed : ByteArray := prog_1_method_14_code
def yX11_feed : MethodName := ⟨RX11, "feed", "(IIIII)I"⟩
abbrev cX11_telling : ByteArray := prog_1_method_15_code
def yX11_telling : MethodName := ⟨RX11, "telling", "(III)I"⟩
abbrev cX11_fault : ByteArray := prog_1_method_16_code
def yX11_fault : MethodName := ⟨RX11, "fault", "(I)I"⟩
abbrev cX11_sayings : ByteArray := prog_1_method_17_code
def yX11_sayings : MethodName := ⟨RX11, "sayings", "(I)I"⟩
abbrev cX11_leads : ByteArray := prog_1_method_18_code
def yX11_leads : MethodName := ⟨RX11, "leads", "(IIIIII)I"⟩
abbrev cX11_holds : ByteArray := prog_1_method_19_code
def yX11_holds : MethodName := ⟨RX11, "holds", "(IIII)I"⟩
abbrev cX11_end : ByteArray := prog_1_method_20_code
def yX11_end : MethodName := ⟨RX11, "end", "(IIIII)I"⟩
abbrev cX11_right : ByteArray := prog_1_method_21_code
def yX11_right : MethodName := ⟨RX11, "right", "(IIII)Z"⟩
abbrev cX11_odds : ByteArray := prog_1_method_22_code
def yX11_odds : MethodName := ⟨RX11, "odds", "(IIIII)I"⟩
abbrev cX11_parts : ByteArray := prog_1_method_23_code
def yX11_parts : MethodName := ⟨RX11, "parts", "(IIII)I"⟩
abbrev cX11_hangs : ByteArray := prog_1_method_24_code
def yX11_hangs : MethodName := ⟨RX11, "hangs", "(IIIIZ)I"⟩
abbrev cX11_years : ByteArray := prog_1_method_25_code
def yX11_years : MethodName := ⟨RX11, "years", "(IIII)I"⟩
abbrev cX11_two : ByteArray := prog_1_method_26_code
def yX11_two : MethodName := ⟨RX11, "two", "(IIIIIII)I"⟩
abbrev cX11_ask : ByteArray := prog_1_method_27_code
def yX11_ask : MethodName := ⟨RX11, "ask", "(IIIIIIZ)I"⟩
abbrev cX11_lossBehind : ByteArray := prog_1_method_28_code
def yX11_lossBehind : MethodName := ⟨RX11, "lossBehind", "(IIIII)I"⟩
abbrev cX11_shortest : ByteArray := prog_1_method_29_code
def yX11_shortest : MethodName := ⟨RX11, "shortest", "(IIIIII)I"⟩
abbrev cX11_went : ByteArray := prog_1_method_30_code
def yX11_went : MethodName := ⟨RX11, "went", "(IIIII)I"⟩
abbrev cX11_learned : ByteArray := prog_1_method_31_code
def yX11_learned : MethodName := ⟨RX11, "learned", "(II)I"⟩
abbrev cX11_kindsThatFit : ByteArray := prog_1_method_32_code
def yX11_kindsThatFit : MethodName := ⟨RX11, "kindsThatFit", "(III)I"⟩
abbrev cX11_teller : ByteArray := prog_1_method_33_code
def yX11_teller : MethodName := ⟨RX11, "teller", "()I"⟩
abbrev cX11_told : ByteArray := prog_1_method_34_code
def yX11_told : MethodName := ⟨RX11, "told", "(IZ)I"⟩
abbrev cX11_tray : ByteArray := prog_1_method_35_code
def yX11_tray : MethodName := ⟨RX11, "tray", "(III)V"⟩
abbrev cX11_write : ByteArray := prog_1_method_36_code
def yX11_write : MethodName := ⟨RX11, "write", "(IIJ)J"⟩
abbrev cX11_say : ByteArray := prog_1_method_37_code
def yX11_say : MethodName := ⟨RX11, "say", "(III)I"⟩
abbrev cX11_image : ByteArray := prog_1_method_38_code
def yX11_image : MethodName := ⟨RX11, "image", "(I)V"⟩
abbrev cX11_restore : ByteArray := prog_1_method_39_code
def yX11_restore : MethodName := ⟨RX11, "restore", "(I)V"⟩
abbrev cX11_count : ByteArray := prog_1_method_40_code
def yX11_count : MethodName := ⟨RX11, "count", "(I)I"⟩
abbrev cX11_needPlace : ByteArray := prog_1_method_41_code
def yX11_needPlace : MethodName := ⟨RX11, "needPlace", "(I)V"⟩
abbrev cX11_needState : ByteArray := prog_1_method_42_code
def yX11_needState : MethodName := ⟨RX11, "needState", "(I)V"⟩
abbrev cX11_needTongue : ByteArray := prog_1_method_43_code
def yX11_needTongue : MethodName := ⟨RX11, "needTongue", "(I)V"⟩
abbrev cX11_needName : ByteArray := prog_1_method_44_code
def yX11_needName : MethodName := ⟨RX11, "needName", "(I)V"⟩
abbrev cX11_needWalker : ByteArray := prog_1_method_45_code
def yX11_needWalker : MethodName := ⟨RX11, "needWalker", "(I)V"⟩
abbrev cX11_needTelling : ByteArray := prog_1_method_46_code
def yX11_needTelling : MethodName := ⟨RX11, "needTelling", "(I)V"⟩
abbrev cX11_needTray : ByteArray := prog_1_method_47_code
def yX11_needTray : MethodName := ⟨RX11, "needTray", "(I)V"⟩
abbrev cX11_needLaid : ByteArray := prog_1_method_48_code
def yX11_needLaid : MethodName := ⟨RX11, "needLaid", "(I)V"⟩
abbrev cX11_needImage : ByteArray := prog_1_method_49_code
def yX11_needImage : MethodName := ⟨RX11, "needImage", "(I)V"⟩
abbrev cX11_needYear : ByteArray := prog_1_method_50_code
def yX11_needYear : MethodName := ⟨RX11, "needYear", "(I)V"⟩
abbrev cX11_needYears : ByteArray := prog_1_method_51_code
def yX11_needYears : MethodName := ⟨RX11, "needYears", "(II)V"⟩
abbrev cX11_needKinds : ByteArray := prog_1_method_52_code
def yX11_needKinds : MethodName := ⟨RX11, "needKinds", "(I)V"⟩
abbrev cX11_needWalkers : ByteArray := prog_1_method_53_code
def yX11_needWalkers : MethodName := ⟨RX11, "needWalkers", "(I)V"⟩
abbrev cX11_needTeller : ByteArray := prog_1_method_54_code
def yX11_needTeller : MethodName := ⟨RX11, "needTeller", "(I)V"⟩
abbrev cX11_needTold : ByteArray := prog_1_method_55_code
def yX11_needTold : MethodName := ⟨RX11, "needTold", "(IIII)V"⟩
abbrev cX11_setOut : ByteArray := prog_1_method_56_code
def yX11_setOut : MethodName := ⟨RX11, "setOut", "(II)V"⟩
abbrev cX11_isIn : ByteArray := prog_1_method_57_code
def yX11_isIn : MethodName := ⟨RX11, "isIn", "(JI)Z"⟩
abbrev cX11_lowest : ByteArray := prog_1_method_58_code
def yX11_lowest : MethodName := ⟨RX11, "lowest", "(J)I"⟩
abbrev cX11_nthOf : ByteArray := prog_1_method_59_code
def yX11_nthOf : MethodName := ⟨RX11, "nthOf", "(JI)I"⟩
abbrev cX11_wordOf : ByteArray := prog_1_method_60_code
def yX11_wordOf : MethodName := ⟨RX11, "wordOf", "(III)I"⟩
abbrev cX11_listedWord : ByteArray := prog_1_method_61_code
def yX11_listedWord : MethodName := ⟨RX11, "listedWord", "(I)I"⟩
def RX12 : String := "BurntOakModel"
def TX12 : u_T := fun k => match k with
  | 0 => ("BurntOakModel", "told", "[I", true)
  | 1 => ("BurntOakModel", "images", "[I", true)
  | 2 => ("BurntOakModel", "isImage", "[Z", true)
  | 3 => ("BurntOakModel", "thrown", "I", false)
  | 4 => ("BurntOakModel", "laidYear", "I", false)
  | 5 => ("BurntOakModel", "leads", "[J", true)
  | 6 => ("BurntOakModel", "standing", "[J", true)
  | 7 => ("BurntOakModel", "isStanding", "[Z", true)
  | 8 => ("BurntOakModel", "outs", "[I", true)
  | 9 => ("BurntOakModel", "tape", "[I", true)
  | 10 => ("BurntOakModel", "taped", "I", false)
  | 11 => ("BurntOakModel", "size", "I", false)
  | 12 => ("BurntOakModel", "at", "I", false)
  | 13 => ("BurntOakModel", "begin", "I", false)
  | 14 => ("BurntOakModel", "token", "I", false)
  | 15 => ("BurntOakModel", "value", "I", false)
  | 16 => ("BurntOakModel", "bad", "I", false)
  | 17 => ("BurntOakModel", "badPlace", "I", false)
  | 18 => ("BurntOakModel", "faultKind", "I", false)
  | 19 => ("BurntOakModel", "faultPlace", "I", false)
  | 20 => ("BurntOakModel", "fresh", "[I", true)
  | 21 => ("BurntOakModel", "front", "[J", true)
  | 22 => ("BurntOakModel", "after", "[J", true)
  | 23 => ("BurntOakModel", "some", "[J", true)
  | 24 => ("BurntOakModel", "byOnes", "[J", true)
  | 25 => ("BurntOakModel", "byThen", "[J", true)
  | 26 => ("BurntOakModel", "here", "[J", true)
  | 27 => ("BurntOakModel", "there", "[J", true)
  | 28 => ("BurntOakModel", "isEnd", "[Z", true)
  | 29 => ("BurntOakModel", "isOther", "[Z", true)
  | 30 => ("BurntOakModel", "share", "[I", true)
  | 31 => ("BurntOakModel", "then", "[I", true)
  | 32 => ("BurntOakModel", "atPlace", "[I", true)
  | 33 => ("BurntOakModel", "behind", "[J", true)
  | 34 => ("BurntOakModel", "row", "[I", true)
  | 35 => ("BurntOakModel", "goal", "I", false)
  | 36 => ("BurntOakModel", "asked", "I", false)
  | 37 => ("BurntOakModel", "tSort", "[I", true)
  | 38 => ("BurntOakModel", "tMany", "[I", true)
  | _ => ("BurntOakModel", "numbers", "[J", true)
def tyX12 : Nat → FieldType := fun k => match k with
  | 0 => .array .int
  | 1 => .array .int
  | 2 => .array .boolean
  | 3 => .int
  | 4 => .int
  | 5 => .array .long
  | 6 => .array .long
  | 7 => .array .boolean
  | 8 => .array .int
  | 9 => .array .int
  | 10 => .int
  | 11 => .int
  | 12 => .int
  | 13 => .int
  | 14 => .int
  | 15 => .int
  | 16 => .int
  | 17 => .int
  | 18 => .int
  | 19 => .int
  | 20 => .array .int
  | 21 => .array .long
  | 22 => .array .long
  | 23 => .array .long
  | 24 => .array .long
  | 25 => .array .long
  | 26 => .array .long
  | 27 => .array .long
  | 28 => .array .boolean
  | 29 => .array .boolean
  | 30 => .array .int
  | 31 => .array .int
  | 32 => .array .int
  | 33 => .array .long
  | 34 => .array .int
  | 35 => .int
  | 36 => .int
  | 37 => .array .int
  | 38 => .array .int
  | _ => .array .long
theorem nmX12 : ∀ a, a < 40 → ∀ b, b < 40 → a ≠ b → (TX12 a).2.1 ≠ (TX12 b).2.1 := by decide +kernel
theorem tyX12_ok : ∀ k, k < 40 → parseFieldDescriptor (TX12 k).2.2.1 = some (tyX12 k) := by decide +kernel
abbrev cX12_init : ByteArray := prog_14_method_1_code
def yX12_init : MethodName := ⟨RX12, "<init>", "()V"⟩
abbrev cX12_thrown : ByteArray := prog_14_method_2_code
def yX12_thrown : MethodName := ⟨RX12, "thrown", "()I"⟩
abbrev cX12_fails : ByteArray := prog_14_method_3_code
def yX12_fails : MethodName := ⟨RX12, "fails", "(I)I"⟩
abbrev cX12_fell : ByteArray := prog_14_method_4_code
def yX12_fell : MethodName := ⟨RX12, "fell", "(I)Z"⟩
abbrev cX12_within : ByteArray := prog_14_method_5_code
def yX12_within : MethodName := ⟨RX12, "within", "(JJJ)Z"⟩
abbrev cX12_isYear : ByteArray := prog_14_method_6_code
def yX12_isYear : MethodName := ⟨RX12, "isYear", "(I)Z"⟩
abbrev cX12_is : ByteArray := prog_14_method_7_code
def yX12_is : MethodName := ⟨RX12, "is", "(II)Z"⟩
abbrev cX12_isPlace : ByteArray := prog_14_method_8_code
def yX12_isPlace : MethodName := ⟨RX12, "isPlace", "(I)Z"⟩
abbrev cX12_isWalker : ByteArray := prog_14_method_9_code
def yX12_isWalker : MethodName := ⟨RX12, "isWalker", "(I)Z"⟩
abbrev cX12_isTelling : ByteArray := prog_14_method_10_code
def yX12_isTelling : MethodName := ⟨RX12, "isTelling", "(I)Z"⟩
abbrev cX12_isState : ByteArray := prog_14_method_11_code
def yX12_isState : MethodName := ⟨RX12, "isState", "(I)Z"⟩
abbrev cX12_isName : ByteArray := prog_14_method_12_code
def yX12_isName : MethodName := ⟨RX12, "isName", "(I)Z"⟩
abbrev cX12_more : ByteArray := prog_14_method_13_code
def yX12_more : MethodName := ⟨RX12, "more", "(I)I"⟩
abbrev cX12_place : ByteArray := prog_14_method_14_code
def yX12_place : MethodName := ⟨RX12, "place", "(II)I"⟩
abbrev cX12_wayOf : ByteArray := prog_14_method_15_code
def yX12_wayOf : MethodName := ⟨RX12, "wayOf", "(II)I"⟩
abbrev cX12_way : ByteArray := prog_14_method_16_code
def yX12_way : MethodName := ⟨RX12, "way", "(IIIIII)I"⟩
abbrev cX12_mark : ByteArray := prog_14_method_17_code
def yX12_mark : MethodName := ⟨RX12, "mark", "(IIZII)I"⟩
abbrev cX12_ends : ByteArray := prog_14_method_18_code
def yX12_ends : MethodName := ⟨RX12, "ends", "(ZII)I"⟩
abbrev cX12_isThere : ByteArray := prog_14_method_19_code
def yX12_isThere : MethodName := ⟨RX12, "isThere", "(II)Z"⟩
abbrev cX12_endOf : ByteArray := prog_14_method_20_code
def yX12_endOf : MethodName := ⟨RX12, "endOf", "(II)I"⟩
abbrev cX12_placeOf : ByteArray := prog_14_method_21_code
def yX12_placeOf : MethodName := ⟨RX12, "placeOf", "(I)I"⟩
abbrev cX12_alongX : ByteArray := prog_14_method_22_code
def yX12_alongX : MethodName := ⟨RX12, "alongX", "(I)I"⟩
abbrev cX12_alongY : ByteArray := prog_14_method_23_code
def yX12_alongY : MethodName := ⟨RX12, "alongY", "(I)I"⟩
abbrev cX12_state : ByteArray := prog_14_method_24_code
def yX12_state : MethodName := ⟨RX12, "state", "(II)I"⟩
abbrev cX12_isOut : ByteArray := prog_14_method_25_code
def yX12_isOut : MethodName := ⟨RX12, "isOut", "(III)Z"⟩
abbrev cX12_cross : ByteArray := prog_14_method_26_code
def yX12_cross : MethodName := ⟨RX12, "cross", "(II)I"⟩
abbrev cX12_isLessTurned : ByteArray := prog_14_method_27_code
def yX12_isLessTurned : MethodName := ⟨RX12, "isLessTurned", "(III)Z"⟩
abbrev cX12_dots : ByteArray := prog_14_method_28_code
def yX12_dots : MethodName := ⟨RX12, "dots", "(II)J"⟩
abbrev cX12_sizes : ByteArray := prog_14_method_29_code
def yX12_sizes : MethodName := ⟨RX12, "sizes", "(I)J"⟩
abbrev cX12_out : ByteArray := prog_14_method_30_code
def yX12_out : MethodName := ⟨RX12, "out", "(III)I"⟩
abbrev cX12_has : ByteArray := prog_14_method_31_code
def yX12_has : MethodName := ⟨RX12, "has", "([JII)Z"⟩
abbrev cX12_put : ByteArray := prog_14_method_32_code
def yX12_put : MethodName := ⟨RX12, "put", "([JII)V"⟩
abbrev cX12_join : ByteArray := prog_14_method_33_code
def yX12_join : MethodName := ⟨RX12, "join", "([JI[JI)V"⟩
abbrev cX12_empty : ByteArray := prog_14_method_34_code
def yX12_empty : MethodName := ⟨RX12, "empty", "([JI)V"⟩
abbrev cX12_copy : ByteArray := prog_14_method_35_code
def yX12_copy : MethodName := ⟨RX12, "copy", "([JI[JI)V"⟩
abbrev cX12_isNone : ByteArray := prog_14_method_36_code
def yX12_isNone : MethodName := ⟨RX12, "isNone", "([JI)Z"⟩
abbrev cX12_sideAt : ByteArray := prog_14_method_37_code
def yX12_sideAt : MethodName := ⟨RX12, "sideAt", "(IZI)I"⟩
abbrev cX12_lay : ByteArray := prog_14_method_38_code
def yX12_lay : MethodName := ⟨RX12, "lay", "(I)V"⟩
abbrev cX12_layOne : ByteArray := prog_14_method_39_code
def yX12_layOne : MethodName := ⟨RX12, "layOne", "(II)V"⟩
abbrev cX12_sizeOf : ByteArray := prog_14_method_40_code
def yX12_sizeOf : MethodName := ⟨RX12, "sizeOf", "([JI)I"⟩
abbrev cX12_numberOf : ByteArray := prog_14_method_41_code
def yX12_numberOf : MethodName := ⟨RX12, "numberOf", "([JII)I"⟩
abbrev cX12_on : ByteArray := prog_14_method_42_code
def yX12_on : MethodName := ⟨RX12, "on", "(III)I"⟩
abbrev cX12_tongue : ByteArray := prog_14_method_43_code
def yX12_tongue : MethodName := ⟨RX12, "tongue", "()I"⟩
abbrev cX12_means : ByteArray := prog_14_method_44_code
def yX12_means : MethodName := ⟨RX12, "means", "(III)I"⟩
abbrev cX12_walker : ByteArray := prog_14_method_45_code
def yX12_walker : MethodName := ⟨RX12, "walker", "(IIZZI)I"⟩
abbrev cX12_patience : ByteArray := prog_14_method_46_code
def yX12_patience : MethodName := ⟨RX12, "patience", "(I)I"⟩
abbrev cX12_countsPaths : ByteArray := prog_14_method_47_code
def yX12_countsPaths : MethodName := ⟨RX12, "countsPaths", "(I)Z"⟩
abbrev cX12_kindsOf : ByteArray := prog_14_method_48_code
def yX12_kindsOf : MethodName := ⟨RX12, "kindsOf", "(II)I"⟩
abbrev cX12_isMark : ByteArray := prog_14_method_49_code
def yX12_isMark : MethodName := ⟨RX12, "isMark", "(III)Z"⟩
abbrev cX12_standsAt : ByteArray := prog_14_method_50_code
def yX12_standsAt : MethodName := ⟨RX12, "standsAt", "(IIII)Z"⟩
abbrev cX12_isSeenAt : ByteArray := prog_14_method_51_code
def yX12_isSeenAt : MethodName := ⟨RX12, "isSeenAt", "(IIII)Z"⟩
abbrev cX12_areJoined : ByteArray := prog_14_method_52_code
def yX12_areJoined : MethodName := ⟨RX12, "areJoined", "(III)Z"⟩
abbrev cX12_standing : ByteArray := prog_14_method_53_code
def yX12_standing : MethodName := ⟨RX12, "standing", "(II)I"⟩
abbrev cX12_stands : ByteArray := prog_14_method_54_code
def yX12_stands : MethodName := ⟨RX12, "stands", "(IIIIZ)Z"⟩
abbrev cX12_worth : ByteArray := prog_14_method_55_code
def yX12_worth : MethodName := ⟨RX12, "worth", "(IIII)I"⟩
abbrev cX12_feed : ByteArray := prog_14_method_56_code
def yX12_feed : MethodName := ⟨RX12, "feed", "(IIIII)I"⟩
abbrev cX12_see : ByteArray := prog_14_method_57_code
def yX12_see : MethodName := ⟨RX12, "see", "(I)I"⟩
abbrev cX12_isLetter : ByteArray := prog_14_method_58_code
def yX12_isLetter : MethodName := ⟨RX12, "isLetter", "(I)Z"⟩
abbrev cX12_isDigit : ByteArray := prog_14_method_59_code
def yX12_isDigit : MethodName := ⟨RX12, "isDigit", "(I)Z"⟩
abbrev cX12_next : ByteArray := prog_14_method_60_code
def yX12_next : MethodName := ⟨RX12, "next", "()V"⟩
abbrev cX12_wrong : ByteArray := prog_14_method_61_code
def yX12_wrong : MethodName := ⟨RX12, "wrong", "(I)V"⟩
abbrev cX12_isWord : ByteArray := prog_14_method_62_code
def yX12_isWord : MethodName := ⟨RX12, "isWord", "(Ljava/lang/String;)Z"⟩
abbrev cX12_nameNow : ByteArray := prog_14_method_63_code
def yX12_nameNow : MethodName := ⟨RX12, "nameNow", "()I"⟩
abbrev cX12_readName : ByteArray := prog_14_method_64_code
def yX12_readName : MethodName := ⟨RX12, "readName", "()I"⟩
abbrev cX12_readNumber : ByteArray := prog_14_method_65_code
def yX12_readNumber : MethodName := ⟨RX12, "readNumber", "()I"⟩
abbrev cX12_sideNow : ByteArray := prog_14_method_66_code
def yX12_sideNow : MethodName := ⟨RX12, "sideNow", "()I"⟩
abbrev cX12_wordAt : ByteArray := prog_14_method_67_code
def yX12_wordAt : MethodName := ⟨RX12, "wordAt", "(II)I"⟩
abbrev cX12_lays : ByteArray := prog_14_method_68_code
def yX12_lays : MethodName := ⟨RX12, "lays", "(IIII)V"⟩
abbrev cX12_isBegun : ByteArray := prog_14_method_69_code
def yX12_isBegun : MethodName := ⟨RX12, "isBegun", "()Z"⟩
abbrev cX12_readWord : ByteArray := prog_14_method_70_code
def yX12_readWord : MethodName := ⟨RX12, "readWord", "(I)V"⟩
abbrev cX12_readNth : ByteArray := prog_14_method_71_code
def yX12_readNth : MethodName := ⟨RX12, "readNth", "(I)V"⟩
abbrev cX12_readSaying : ByteArray := prog_14_method_72_code
def yX12_readSaying : MethodName := ⟨RX12, "readSaying", "(I)V"⟩
abbrev cX12_keeps : ByteArray := prog_14_method_73_code
def yX12_keeps : MethodName := ⟨RX12, "keeps", "(III)I"⟩
abbrev cX12_telling : ByteArray := prog_14_method_74_code
def yX12_telling : MethodName := ⟨RX12, "telling", "(III)I"⟩
abbrev cX12_fault : ByteArray := prog_14_method_75_code
def yX12_fault : MethodName := ⟨RX12, "fault", "(I)I"⟩
abbrev cX12_sayingsOf : ByteArray := prog_14_method_76_code
def yX12_sayingsOf : MethodName := ⟨RX12, "sayingsOf", "(I)I"⟩
abbrev cX12_goalOf : ByteArray := prog_14_method_77_code
def yX12_goalOf : MethodName := ⟨RX12, "goalOf", "(I)I"⟩
abbrev cX12_sayings : ByteArray := prog_14_method_78_code
def yX12_sayings : MethodName := ⟨RX12, "sayings", "(I)I"⟩
abbrev cX12_goOn : ByteArray := prog_14_method_79_code
def yX12_goOn : MethodName := ⟨RX12, "goOn", "([JI[JI)V"⟩
abbrev cX12_word : ByteArray := prog_14_method_80_code
def yX12_word : MethodName := ⟨RX12, "word", "(IIII[JI[JI)V"⟩
abbrev cX12_sideOf : ByteArray := prog_14_method_81_code
def yX12_sideOf : MethodName := ⟨RX12, "sideOf", "(II)I"⟩
abbrev cX12_onTimes : ByteArray := prog_14_method_82_code
def yX12_onTimes : MethodName := ⟨RX12, "onTimes", "(II[JI[JI)V"⟩
abbrev cX12_until : ByteArray := prog_14_method_83_code
def yX12_until : MethodName := ⟨RX12, "until", "(IIZ[JI[JI)V"⟩
abbrev cX12_isOver : ByteArray := prog_14_method_84_code
def yX12_isOver : MethodName := ⟨RX12, "isOver", "(III)Z"⟩
abbrev cX12_far : ByteArray := prog_14_method_85_code
def yX12_far : MethodName := ⟨RX12, "far", "(II[JI[JI)V"⟩
abbrev cX12_goOnFar : ByteArray := prog_14_method_86_code
def yX12_goOnFar : MethodName := ⟨RX12, "goOnFar", "(II)V"⟩
abbrev cX12_nth : ByteArray := prog_14_method_87_code
def yX12_nth : MethodName := ⟨RX12, "nth", "(IIII[JI[JI)V"⟩
abbrev cX12_says : ByteArray := prog_14_method_88_code
def yX12_says : MethodName := ⟨RX12, "says", "(III)V"⟩
abbrev cX12_goes : ByteArray := prog_14_method_89_code
def yX12_goes : MethodName := ⟨RX12, "goes", "(IIIII)I"⟩
abbrev cX12_placesOf : ByteArray := prog_14_method_90_code
def yX12_placesOf : MethodName := ⟨RX12, "placesOf", "([Z)I"⟩
abbrev cX12_isRight : ByteArray := prog_14_method_91_code
def yX12_isRight : MethodName := ⟨RX12, "isRight", "(IIII)Z"⟩
abbrev cX12_areThere : ByteArray := prog_14_method_92_code
def yX12_areThere : MethodName := ⟨RX12, "areThere", "(III)Z"⟩
abbrev cX12_leads : ByteArray := prog_14_method_93_code
def yX12_leads : MethodName := ⟨RX12, "leads", "(IIIIII)I"⟩
abbrev cX12_holds : ByteArray := prog_14_method_94_code
def yX12_holds : MethodName := ⟨RX12, "holds", "(IIII)I"⟩
abbrev cX12_end : ByteArray := prog_14_method_95_code
def yX12_end : MethodName := ⟨RX12, "end", "(IIIII)I"⟩
abbrev cX12_right : ByteArray := prog_14_method_96_code
def yX12_right : MethodName := ⟨RX12, "right", "(IIII)Z"⟩
abbrev cX12_parted : ByteArray := prog_14_method_97_code
def yX12_parted : MethodName := ⟨RX12, "parted", "(I[J[I)V"⟩
abbrev cX12_oddsOn : ByteArray := prog_14_method_98_code
def yX12_oddsOn : MethodName := ⟨RX12, "oddsOn", "(III)V"⟩
abbrev cX12_shareAt : ByteArray := prog_14_method_99_code
def yX12_shareAt : MethodName := ⟨RX12, "shareAt", "(I)I"⟩
abbrev cX12_oddsFrom : ByteArray := prog_14_method_100_code
def yX12_oddsFrom : MethodName := ⟨RX12, "oddsFrom", "(IIII)V"⟩
abbrev cX12_odds : ByteArray := prog_14_method_101_code
def yX12_odds : MethodName := ⟨RX12, "odds", "(IIIII)I"⟩
abbrev cX12_parts : ByteArray := prog_14_method_102_code
def yX12_parts : MethodName := ⟨RX12, "parts", "(IIII)I"⟩
abbrev cX12_hangs : ByteArray := prog_14_method_103_code
def yX12_hangs : MethodName := ⟨RX12, "hangs", "(IIIIZ)I"⟩
abbrev cX12_years : ByteArray := prog_14_method_104_code
def yX12_years : MethodName := ⟨RX12, "years", "(IIII)I"⟩
abbrev cX12_two : ByteArray := prog_14_method_105_code
def yX12_two : MethodName := ⟨RX12, "two", "(IIIIIII)I"⟩
abbrev cX12_ask : ByteArray := prog_14_method_106_code
def yX12_ask : MethodName := ⟨RX12, "ask", "(IIIIIIZ)I"⟩
abbrev cX12_tries : ByteArray := prog_14_method_107_code
def yX12_tries : MethodName := ⟨RX12, "tries", "(II)Z"⟩
abbrev cX12_areAll : ByteArray := prog_14_method_108_code
def yX12_areAll : MethodName := ⟨RX12, "areAll", "(I)Z"⟩
abbrev cX12_seek : ByteArray := prog_14_method_109_code
def yX12_seek : MethodName := ⟨RX12, "seek", "(II)Z"⟩
abbrev cX12_shortest : ByteArray := prog_14_method_110_code
def yX12_shortest : MethodName := ⟨RX12, "shortest", "(IIIIII)I"⟩
abbrev cX12_went : ByteArray := prog_14_method_111_code
def yX12_went : MethodName := ⟨RX12, "went", "(IIIII)I"⟩
abbrev cX12_isAsWent : ByteArray := prog_14_method_112_code
def yX12_isAsWent : MethodName := ⟨RX12, "isAsWent", "(I)Z"⟩
abbrev cX12_learned : ByteArray := prog_14_method_113_code
def yX12_learned : MethodName := ⟨RX12, "learned", "(II)I"⟩
abbrev cX12_records : ByteArray := prog_14_method_114_code
def yX12_records : MethodName := ⟨RX12, "records", "(IZ)I"⟩
abbrev cX12_teller : ByteArray := prog_14_method_115_code
def yX12_teller : MethodName := ⟨RX12, "teller", "()I"⟩
abbrev cX12_told : ByteArray := prog_14_method_116_code
def yX12_told : MethodName := ⟨RX12, "told", "(IZ)I"⟩
abbrev cX12_isTray : ByteArray := prog_14_method_117_code
def yX12_isTray : MethodName := ⟨RX12, "isTray", "(I)Z"⟩
abbrev cX12_tray : ByteArray := prog_14_method_118_code
def yX12_tray : MethodName := ⟨RX12, "tray", "(III)V"⟩
abbrev cX12_write : ByteArray := prog_14_method_119_code
def yX12_write : MethodName := ⟨RX12, "write", "(IIJ)J"⟩
abbrev cX12_say : ByteArray := prog_14_method_120_code
def yX12_say : MethodName := ⟨RX12, "say", "(III)I"⟩
abbrev cX12_image : ByteArray := prog_14_method_121_code
def yX12_image : MethodName := ⟨RX12, "image", "(I)V"⟩
abbrev cX12_restore : ByteArray := prog_14_method_122_code
def yX12_restore : MethodName := ⟨RX12, "restore", "(I)V"⟩
abbrev cX12_count : ByteArray := prog_14_method_123_code
def yX12_count : MethodName := ⟨RX12, "count", "(I)I"⟩
def RL : String := "BurntOakLaw"
abbrev cL_place : ByteArray := method_3_code
def yL_place : MethodName := ⟨RL, "place", "(LBurntOak;II[J)I"⟩
abbrev cL_way : ByteArray := method_4_code
def yL_way : MethodName := ⟨RL, "way", "(LBurntOak;IIIIII[J)I"⟩
abbrev cL_mark : ByteArray := method_5_code
def yL_mark : MethodName := ⟨RL, "mark", "(LBurntOak;IIZII[J)I"⟩
abbrev cL_ends : ByteArray := method_6_code
def yL_ends : MethodName := ⟨RL, "ends", "(LBurntOak;ZII[J)I"⟩
abbrev cL_state : ByteArray := method_7_code
def yL_state : MethodName := ⟨RL, "state", "(LBurntOak;II[J)I"⟩
abbrev cL_out : ByteArray := method_8_code
def yL_out : MethodName := ⟨RL, "out", "(LBurntOak;III[J)I"⟩
abbrev cL_on : ByteArray := method_9_code
def yL_on : MethodName := ⟨RL, "on", "(LBurntOak;III[J)I"⟩
abbrev cL_means : ByteArray := method_10_code
def yL_means : MethodName := ⟨RL, "means", "(LBurntOak;III[J)I"⟩
abbrev cL_walker : ByteArray := method_11_code
def yL_walker : MethodName := ⟨RL, "walker", "(LBurntOak;IIZZI[J)I"⟩
abbrev cL_stands : ByteArray := method_12_code
def yL_stands : MethodName := ⟨RL, "stands", "(LBurntOak;IIIIZ[J)I"⟩
abbrev cL_worth : ByteArray := method_13_code
def yL_worth : MethodName := ⟨RL, "worth", "(LBurntOak;IIII[J)I"⟩
abbrev cL_telling : ByteArray := method_14_code
def yL_telling : MethodName := ⟨RL, "telling", "(LBurntOak;III[J)I"⟩
abbrev cL_sayings : ByteArray := method_15_code
def yL_sayings : MethodName := ⟨RL, "sayings", "(LBurntOak;I[J)I"⟩
abbrev cL_leads : ByteArray := method_16_code
def yL_leads : MethodName := ⟨RL, "leads", "(LBurntOak;IIIIII[J)I"⟩
abbrev cL_holds : ByteArray := method_17_code
def yL_holds : MethodName := ⟨RL, "holds", "(LBurntOak;IIII[J)I"⟩
abbrev cL_end : ByteArray := method_18_code
def yL_end : MethodName := ⟨RL, "end", "(LBurntOak;IIIII[J)I"⟩
abbrev cL_right : ByteArray := method_19_code
def yL_right : MethodName := ⟨RL, "right", "(LBurntOak;IIII[J)I"⟩
abbrev cL_odds : ByteArray := method_20_code
def yL_odds : MethodName := ⟨RL, "odds", "(LBurntOak;IIIII[J)I"⟩
abbrev cL_parts : ByteArray := method_21_code
def yL_parts : MethodName := ⟨RL, "parts", "(LBurntOak;IIII[J)I"⟩
abbrev cL_hangs : ByteArray := method_22_code
def yL_hangs : MethodName := ⟨RL, "hangs", "(LBurntOak;IIIIZ[J)I"⟩
abbrev cL_years : ByteArray := method_23_code
def yL_years : MethodName := ⟨RL, "years", "(LBurntOak;IIII[J)I"⟩
abbrev cL_two : ByteArray := method_24_code
def yL_two : MethodName := ⟨RL, "two", "(LBurntOak;IIIIIII[J)I"⟩
abbrev cL_ask : ByteArray := method_25_code
def yL_ask : MethodName := ⟨RL, "ask", "(LBurntOak;IIIIIIZ[J)I"⟩
abbrev cL_shortest : ByteArray := method_26_code
def yL_shortest : MethodName := ⟨RL, "shortest", "(LBurntOak;IIIIII[J)I"⟩
abbrev cL_went : ByteArray := method_27_code
def yL_went : MethodName := ⟨RL, "went", "(LBurntOak;IIIII[J)I"⟩
abbrev cL_learned : ByteArray := method_28_code
def yL_learned : MethodName := ⟨RL, "learned", "(LBurntOak;II[J)I"⟩
abbrev cL_told : ByteArray := method_29_code
def yL_told : MethodName := ⟨RL, "told", "(LBurntOak;IZ[J)I"⟩
abbrev cL_tray : ByteArray := method_30_code
def yL_tray : MethodName := ⟨RL, "tray", "(LBurntOak;III)I"⟩
abbrev cL_write : ByteArray := method_31_code
def yL_write : MethodName := ⟨RL, "write", "(LBurntOak;IIJ[J)I"⟩
abbrev cL_say : ByteArray := method_32_code
def yL_say : MethodName := ⟨RL, "say", "(LBurntOak;III[J)I"⟩
abbrev cL_image : ByteArray := method_33_code
def yL_image : MethodName := ⟨RL, "image", "(LBurntOak;I)I"⟩
abbrev cL_restore : ByteArray := method_34_code
def yL_restore : MethodName := ⟨RL, "restore", "(LBurntOak;I)I"⟩
abbrev cL_law : ByteArray := code
def yL_law : MethodName := ⟨RL, "law", "([I)Z"⟩
end
section
/-! AN ABSTRACT MACHINE over pure states: WP, the least predicate closed under F, one case an instruction. Soundness: the next part. -/
abbrev Hp : Type := Nat → Option va_E
abbrev Lv : Type := List (Option Value)
abbrev Ou : Type := Option Value ⊕ String
abbrev Mth : Type := MethodName × ByteArray × Nat × Option FieldType × Nat × List (Nat × Nat × Nat × Nat)
def my (M : Mth) : MethodName := M.1
def mb (M : Mth) : ByteArray := M.2.1
def ml (M : Mth) : Nat := M.2.2.1
def mr (M : Mth) : Option FieldType := M.2.2.2.1
def mo (M : Mth) : Nat := M.2.2.2.2.1
def mh (M : Mth) : List (Nat × Nat × Nat × Nat) := M.2.2.2.2.2
def clsL : List vw_C := [(RX0, TX0, 11), (RX1, TX1, 11), (RX2, TX2, 8), (RX3, TX3, 17), (RX4, TX4, 8), (RX5, TX5, 14), (RX6, TX6, 1), (RX7, TX7, 11), (RX8, TX8, 4), (RX9, TX9, 10), (RX10, TX10, 12), (RX11, TX11, 12), (RX12, TX12, 40)]
def cn (k : Nat) : String := match k with
  | 0 => RX0 | 1 => RX1 | 2 => RX2 | 3 => RX3 | 4 => RX4 | 5 => RX5 | 6 => RX6 | 7 => RX7 | 8 => RX8 | 9 => RX9 | 10 => RX10 | 11 => RX11 | 12 => RX12 | 13 => RL
  | 14 => "java/util/Arrays" | 15 => "java/lang/Long" | 16 => "java/lang/Integer" | _ => "java/lang/String"
def tblG : List Cond := lw_tbl.filter goodWord
def hset (h : Hp) (a : Nat) (e : va_E) : Hp := fun b => if b = a then some e else h b
theorem hset_s (h : Hp) (a : Nat) (e : va_E) : hset h a e a = some e := by simp [hset]
theorem hset_n (h : Hp) {a b : Nat} (e : va_E) (n : b ≠ a) : hset h a e b = h b := by simp [hset, n]
/-- locals: a store at i -/
def stl (lv : Lv) (i : Nat) (v : Value) : Lv :=
  let l1 := match i with
    | 0 => lv
    | j + 1 => match lv[j]? with
      | some (some w) => if w.category = 2 then lv.set j none else lv
      | _ => lv
  let l2 := l1.set i (some v)
  if v.category = 2 then l2.set (i + 1) none else l2
def ldl (lv : Lv) (i : Nat) : Option Value := (lv[i]?).join
def isRf (v : Value) : Bool := match v with | .ref _ => true | .null => true | _ => false
/-- what a condition says of two ints -/
def cdI (cd : ClassFile.Cond) (x y : Int32) : Bool := match cd with
  | .eq => decide (x = y) | .ne => decide (¬ x = y) | .lt => decide (x < y) | .ge => decide (y ≤ x) | .gt => decide (y < x) | .le => decide (x ≤ y)
def tgt (pc : Nat) (off : Int) : Nat := ((pc : Int) + off).toNat
/-- an instruction that touches the frame alone: the next pc, locals, stack -/
def sx (ig : Instr) (len pc : Nat) (lv : Lv) (st : List Value) : Option (Nat × Lv × List Value) :=
  match ig, len, st with
  | .iconst n, 1, st => some (pc + 1, lv, .int (Int32.ofInt n) :: st)
  | .bipush n, 2, st => some (pc + 2, lv, .int (Int8.ofInt n).toInt32 :: st)
  | .sipush n, 3, st => some (pc + 3, lv, .int (Int16.ofInt n).toInt32 :: st)
  | .lconst n, 1, st => some (pc + 1, lv, .long (Int64.ofNat (n : Nat)) :: st)
  | .iload_n k, 1, st => match ldl lv (k : Nat) with | some (.int x) => some (pc + 1, lv, .int x :: st) | _ => none
  | .iload i, 2, st => match ldl lv i with | some (.int x) => some (pc + 2, lv, .int x :: st) | _ => none
  | .lload_n k, 1, st => match ldl lv (k : Nat) with | some (.long x) => some (pc + 1, lv, .long x :: st) | _ => none
  | .lload i, 2, st => match ldl lv i with | some (.long x) => some (pc + 2, lv, .long x :: st) | _ => none
  | .aload_n k, 1, st => match ldl lv (k : Nat) with | some (.ref x) => some (pc + 1, lv, .ref x :: st) | _ => none
  | .aload i, 2, st => match ldl lv i with | some (.ref x) => some (pc + 2, lv, .ref x :: st) | _ => none
  | .istore_n k, 1, .int x :: st => if (k : Nat) < lv.length then some (pc + 1, stl lv (k : Nat) (.int x), st) else none
  | .istore i, 2, .int x :: st => if i < lv.length then some (pc + 2, stl lv i (.int x), st) else none
  | .lstore_n k, 1, .long x :: st => if (k : Nat) + 1 < lv.length then some (pc + 1, stl lv (k : Nat) (.long x), st) else none
  | .lstore i, 2, .long x :: st => if i + 1 < lv.length then some (pc + 2, stl lv i (.long x), st) else none
  | .astore_n k, 1, .ref x :: st => if (k : Nat) < lv.length then some (pc + 1, stl lv (k : Nat) (.ref x), st) else none
  | .astore i, 2, .ref x :: st => if i < lv.length then some (pc + 2, stl lv i (.ref x), st) else none
  | .iinc i n, 3, st => match ldl lv i with | some (.int x) => some (pc + 3, stl lv i (.int (x + Int32.ofInt n)), st) | _ => none
  | .iadd, 1, .int y :: .int x :: st => some (pc + 1, lv, .int (x + y) :: st)
  | .isub, 1, .int y :: .int x :: st => some (pc + 1, lv, .int (x - y) :: st)
  | .imul, 1, .int y :: .int x :: st => some (pc + 1, lv, .int (x * y) :: st)
  | .iand, 1, .int y :: .int x :: st => some (pc + 1, lv, .int (x &&& y) :: st)
  | .ior, 1, .int y :: .int x :: st => some (pc + 1, lv, .int (x ||| y) :: st)
  | .ixor, 1, .int y :: .int x :: st => some (pc + 1, lv, .int (x ^^^ y) :: st)
  | .ineg, 1, .int x :: st => some (pc + 1, lv, .int (-x) :: st)
  | .ladd, 1, .long y :: .long x :: st => some (pc + 1, lv, .long (x + y) :: st)
  | .lsub, 1, .long y :: .long x :: st => some (pc + 1, lv, .long (x - y) :: st)
  | .lmul, 1, .long y :: .long x :: st => some (pc + 1, lv, .long (x * y) :: st)
  | .land, 1, .long y :: .long x :: st => some (pc + 1, lv, .long (x &&& y) :: st)
  | .lor, 1, .long y :: .long x :: st => some (pc + 1, lv, .long (x ||| y) :: st)
  | .lxor, 1, .long y :: .long x :: st => some (pc + 1, lv, .long (x ^^^ y) :: st)
  | .lneg, 1, .long x :: st => some (pc + 1, lv, .long (-x) :: st)
  | .ishl, 1, .int y :: .int x :: st => some (pc + 1, lv, .int (x <<< (y &&& 31)) :: st)
  | .ishr, 1, .int y :: .int x :: st => some (pc + 1, lv, .int (x >>> (y &&& 31)) :: st)
  | .iushr, 1, .int y :: .int x :: st => some (pc + 1, lv, .int (x.toUInt32 >>> (y.toUInt32 &&& Int32.toUInt32 31)).toInt32 :: st)
  | .lshl, 1, .int y :: .long x :: st => some (pc + 1, lv, .long (x <<< (y.toInt64 &&& 63)) :: st)
  | .lshr, 1, .int y :: .long x :: st => some (pc + 1, lv, .long (x >>> (y.toInt64 &&& 63)) :: st)
  | .lushr, 1, .int y :: .long x :: st => some (pc + 1, lv, .long (x.toUInt64 >>> (y.toInt64.toUInt64 &&& Int64.toUInt64 63)).toInt64 :: st)
  | .i2l, 1, .int x :: st => some (pc + 1, lv, .long x.toInt64 :: st)
  | .l2i, 1, .long x :: st => some (pc + 1, lv, .int x.toInt32 :: st)
  | .i2b, 1, .int x :: st => some (pc + 1, lv, .int x.toInt8.toInt32 :: st)
  | .i2s, 1, .int x :: st => some (pc + 1, lv, .int x.toInt16.toInt32 :: st)
  | .lcmp, 1, .long y :: .long x :: st => some (pc + 1, lv, .int (lg_cmp x y) :: st)
  | .dup, 1, v :: st => if v.category = 1 then some (pc + 1, lv, v :: v :: st) else none
  | .pop, 1, v :: st => if v.category = 1 then some (pc + 1, lv, st) else none
  | .dup_x1, 1, v :: w :: st => if v.category = 1 ∧ w.category = 1 then some (pc + 1, lv, v :: w :: v :: st) else none
  | .dup2, 1, v :: w :: st => if v.category = 1 ∧ w.category = 1 then some (pc + 1, lv, v :: w :: v :: w :: st) else none
  | .goto off, 3, st => if 0 ≤ (pc : Int) + off then some (tgt pc off, lv, st) else none
  | .ifCond cd off, 3, .int x :: st => if 0 ≤ (pc : Int) + off then some (if cdI cd x 0 then tgt pc off else pc + 3, lv, st) else none
  | .if_icmp cd off, 3, .int y :: .int x :: st => if 0 ≤ (pc : Int) + off then some (if cdI cd x y then tgt pc off else pc + 3, lv, st) else none
  | .ifnull off, 3, .ref _ :: st => some (pc + 3, lv, st)
  | .ifnull off, 3, .null :: st => if 0 ≤ (pc : Int) + off then some (tgt pc off, lv, st) else none
  | .ifnonnull off, 3, .ref _ :: st => if 0 ≤ (pc : Int) + off then some (tgt pc off, lv, st) else none
  | .ifnonnull off, 3, .null :: st => some (pc + 3, lv, st)
  | _, _, _ => none
/-- links: what the tables say, as the kit's rows ask for it -/
def FLg (own idx ci k : Nat) : Prop := ∃ (C : String) (T : u_T) (N : Nat), clsL[ci]? = some (C, T, N) ∧ k < N ∧ (∀ w ∈ u_ws C T N, w ∈ tblG) ∧ Cond.fieldLink (cn own) idx (T k).1 (T k).2.1 (T k).2.2.1 ∈ tblG
def FLp (own idx ci k : Nat) (fin : Bool) (ty : FieldType) : Prop := ∃ (C : String) (T : u_T) (N : Nat) (ty0 : Nat → FieldType), clsL[ci]? = some (C, T, N) ∧ k < N ∧ (∀ w ∈ u_ws C T N, w ∈ tblG) ∧ Cond.fieldLink (cn own) idx (T k).1 (T k).2.1 (T k).2.2.1 ∈ tblG ∧ (∀ k, k < N → parseFieldDescriptor (T k).2.2.1 = some (ty0 k)) ∧ (∀ a, a < N → ∀ b, b < N → a ≠ b → (T a).2.1 ≠ (T b).2.1) ∧ (T k).2.2.2 = fin ∧ parseFieldDescriptor (T k).2.2.1 = some ty ∧ (fin = true → (T k).1 = cn own)
def CLn (own idx ci : Nat) (fs : List Value) : Prop := ∃ (C : String) (T : u_T) (N : Nat) (ty : Nat → FieldType), clsL[ci]? = some (C, T, N) ∧ (∀ w ∈ u_ws C T N, w ∈ tblG) ∧ (∀ k, k < N → parseFieldDescriptor (T k).2.2.1 = some (ty k)) ∧ Cond.classLink (cn own) idx C ∈ tblG ∧ Cond.instantiable C N ∈ tblG ∧ Cond.initialized C ∈ tblG ∧ (∀ j, j < N → defaultValue (ty j) = vp_V fs j) ∧ fs.length = N
/-- a method of ours: its class, its word -/
def mw (M : Mth) : Cond := match mh M with
  | [] => Cond.code (my M) (mb M) (ml M) (mr M)
  | h :: t => Cond.codeWith (my M) (mb M) (ml M) (mr M) (h :: t)
def MOk (M : Mth) (n : Nat) : Prop := (my M).cls = cn (mo M) ∧ plainName (my M).cls = true ∧ ((my M).cls ≠ "java/lang/invoke/MethodHandle" ∧ (my M).cls ≠ "java/lang/invoke/VarHandle") ∧ (parseMethodDescriptor (my M).desc).map (fun d => d.parameters.length) = some n ∧ mw M ∈ tblG ∧ Cond.initialized (my M).cls ∈ tblG ∧ ml M ≤ 60
/-- words that aren't good ones, kept by themselves -/
def exP (w : Cond) : Bool := match w with | .methodLinkNest _ _ _ _ => true | .castable _ _ => true | .arrayOver (.object _) => true | .declares _ => true | .codeSync _ _ _ _ => true | _ => false
def exL : List Cond := tables_1.filter exP
def hostN : String := "BurntOak"
/-- how a call of M is linked: 0 static, 1 virtual, 2 <init> -/
def MLk (own idx : Nat) (M : Mth) (kind n : Nat) : Prop := MOk M n ∧ (Cond.methodLink (cn own) idx (my M) ∈ tblG ∨ (Cond.methodLinkNest (cn own) idx (my M) hostN ∈ exL ∧ mh M = [])) ∧
  ((kind = 0 ∧ Cond.static (my M) ∈ tblG) ∨ (kind = 1 ∧ Cond.instanceMethod (my M) ∈ tblG ∧ Cond.selects (my M).cls (my M) (my M) ∈ tblG ∧ mh M = []) ∨ (kind = 2 ∧ (my M).name = "<init>" ∧ Cond.instanceMethod (my M) ∈ tblG ∧ mh M = [] ∧ mr M = none))
/-- the array classes, by their types -/
def tyN (k : Nat) : FieldType := match k with
  | 0 => .int | 1 => .long | 2 => .boolean | 3 => .byte | 4 => .object RX8 | 5 => .object RX3 | 6 => .object RX2 | 7 => .object RX0 | _ => .object RX6
/-- the constant texts: owner, number in its pool, text; their signs -/
def strT : List (Nat × Nat × String) := [(5, 74, "oak   farm  bridgeschoolpond  churchinn   gate  stone mill  well  cross on    until past  far   see   over  loose back  left  right or    not   "), (12, 274, "oak"), (12, 280, "farm"), (12, 282, "bridge"), (12, 284, "school"), (12, 286, "pond"), (12, 288, "church"), (12, 290, "inn"), (12, 292, "gate"), (12, 294, "stone"), (12, 296, "mill"), (12, 298, "well"), (12, 300, "cross"), (12, 310, "left"), (12, 312, "right"), (12, 317, "on"), (12, 319, "past"), (12, 321, "far"), (12, 323, "see"), (12, 324, "over"), (12, 326, "loose"), (12, 328, "back"), (12, 344, "until"), (12, 352, "not"), (12, 357, "or")]
def strB : List (List Nat) := [[111, 97, 107, 32, 32, 32, 102, 97, 114, 109, 32, 32, 98, 114, 105, 100, 103, 101, 115, 99, 104, 111, 111, 108, 112, 111, 110, 100, 32, 32, 99, 104, 117, 114, 99, 104, 105, 110, 110, 32, 32, 32, 103, 97, 116, 101, 32, 32, 115, 116, 111, 110, 101, 32, 109, 105, 108, 108, 32, 32, 119, 101, 108, 108, 32, 32, 99, 114, 111, 115, 115, 32, 111, 110, 32, 32, 32, 32, 117, 110, 116, 105, 108, 32, 112, 97, 115, 116, 32, 32, 102, 97, 114, 32, 32, 32, 115, 101, 101, 32, 32, 32, 111, 118, 101, 114, 32, 32, 108, 111, 111, 115, 101, 32, 98, 97, 99, 107, 32, 32, 108, 101, 102, 116, 32, 32, 114, 105, 103, 104, 116, 32, 111, 114, 32, 32, 32, 32, 110, 111, 116, 32, 32, 32], [111, 97, 107], [102, 97, 114, 109], [98, 114, 105, 100, 103, 101], [115, 99, 104, 111, 111, 108], [112, 111, 110, 100], [99, 104, 117, 114, 99, 104], [105, 110, 110], [103, 97, 116, 101], [115, 116, 111, 110, 101], [109, 105, 108, 108], [119, 101, 108, 108], [99, 114, 111, 115, 115], [108, 101, 102, 116], [114, 105, 103, 104, 116], [111, 110], [112, 97, 115, 116], [102, 97, 114], [115, 101, 101], [111, 118, 101, 114], [108, 111, 111, 115, 101], [98, 97, 99, 107], [117, 110, 116, 105, 108], [110, 111, 116], [111, 114]]
def sln (j : Nat) : Nat := (strB.getD j []).length
def sch (j k : Nat) : Nat := (strB.getD j []).getD k 0
def yLen : MethodName := ⟨"java/lang/String", "length", "()I"⟩
def yChr : MethodName := ⟨"java/lang/String", "charAt", "(I)C"⟩
abbrev Cd : Type := Mth × Nat × (Nat × Lv × List Value × Hp × Nat × Nat) × (Ou → Hp → Prop)
section AM
-- ar: the array classes' numbers (tyN); ro: int arrays that are only read; sa: the constant texts' addresses
variable (ar : Nat → ClassId) (ro : Nat → Option (Nat × (Nat → Int32))) (sa : Nat → Nat)
abbrev aI (n : Nat) (f : Nat → Int32) : va_E := .inl (ar 0, n, .inl f)
/-- heap reads and writes -/
def am_h (P : Cd → Prop) (M : Mth) (d : Nat) (ig : Instr) (len pc : Nat) (lv : Lv) (st : List Value) (h : Hp) (kc ks : Nat) (Φ : Ou → Hp → Prop) : Prop :=
  match ig, len, st with
  | .getfield i, 3, .ref a :: st => ∃ (ci k : Nat) (fs : List Value) (v : Value), FLg (mo M) i ci k ∧ h a = some (.inr (ci, fs)) ∧ fs[k]? = some v ∧ P (M, d, (pc + 3, lv, v :: st, h, kc, ks), Φ)
  | .putfield i, 3, v :: .ref a :: st => ∃ (ci k : Nat) (fs : List Value) (fin : Bool) (ty : FieldType), FLp (mo M) i ci k fin ty ∧ h a = some (.inr (ci, fs)) ∧ k < fs.length ∧ narrow ty v = v ∧ fits ty v = true ∧ (fin = true → (my M).name = "<init>") ∧ P (M, d, (pc + 3, lv, st, hset h a (.inr (ci, fs.set k v)), kc, ks), Φ)
  | .iaload, 1, .int i :: .ref a :: st => (∃ (n : Nat) (f : Nat → Int32), h a = some (.inl (ar 0, n, .inl f)) ∧ vp_in i n ∧ P (M, d, (pc + 1, lv, .int (f i.toNatClampNeg) :: st, h, kc, ks), Φ)) ∨ (∃ (n : Nat) (f : Nat → Int32), ro a = some (n, f) ∧ vp_in i n ∧ P (M, d, (pc + 1, lv, .int (f i.toNatClampNeg) :: st, h, kc, ks), Φ))
  | .laload, 1, .int i :: .ref a :: st => ∃ (n : Nat) (f : Nat → Int64), h a = some (.inl (ar 1, n, .inr (.inl f))) ∧ vp_in i n ∧ P (M, d, (pc + 1, lv, .long (f i.toNatClampNeg) :: st, h, kc, ks), Φ)
  | .baload, 1, .int i :: .ref a :: st => ∃ (t n : Nat) (f : Nat → Int32), (t = 2 ∨ t = 3) ∧ h a = some (.inl (ar t, n, .inl f)) ∧ vp_in i n ∧ P (M, d, (pc + 1, lv, .int (f i.toNatClampNeg) :: st, h, kc, ks), Φ)
  | .aaload, 1, .int i :: .ref a :: st => ∃ (t n : Nat) (f : Nat → Option Nat), 4 ≤ t ∧ t ≤ 8 ∧ h a = some (.inl (ar t, n, .inr (.inr (.inr (.inr f))))) ∧ vp_in i n ∧ P (M, d, (pc + 1, lv, va_rf (f i.toNatClampNeg) :: st, h, kc, ks), Φ)
  | .iastore, 1, .int x :: .int i :: .ref a :: st => ∃ (n : Nat) (f : Nat → Int32), h a = some (.inl (ar 0, n, .inl f)) ∧ vp_in i n ∧ P (M, d, (pc + 1, lv, st, hset h a (.inl (ar 0, n, .inl (upd f i.toNatClampNeg x))), kc, ks), Φ)
  | .lastore, 1, .long x :: .int i :: .ref a :: st => ∃ (n : Nat) (f : Nat → Int64), h a = some (.inl (ar 1, n, .inr (.inl f))) ∧ vp_in i n ∧ P (M, d, (pc + 1, lv, st, hset h a (.inl (ar 1, n, .inr (.inl (vp_updL f i.toNatClampNeg x)))), kc, ks), Φ)
  | .bastore, 1, .int x :: .int i :: .ref a :: st => ∃ (t n : Nat) (f : Nat → Int32), (t = 2 ∨ t = 3) ∧ h a = some (.inl (ar t, n, .inl f)) ∧ vp_in i n ∧ P (M, d, (pc + 1, lv, st, hset h a (.inl (ar t, n, .inl (upd f i.toNatClampNeg (vp_nar (tyN t) x)))), kc, ks), Φ)
  | .aastore, 1, .ref v :: .int i :: .ref a :: st => ∃ (t n ci : Nat) (f : Nat → Option Nat) (vs : List Value) (r : vw_C), 4 ≤ t ∧ t ≤ 8 ∧ h a = some (.inl (ar t, n, .inr (.inr (.inr (.inr f))))) ∧ h v = some (.inr (ci, vs)) ∧ clsL[ci]? = some r ∧ tyN t = .object r.1 ∧ vp_in i n ∧ P (M, d, (pc + 1, lv, st, hset h a (.inl (ar t, n, .inr (.inr (.inr (.inr (va_up f i.toNatClampNeg (some v))))))), kc, ks), Φ)
  | .arraylength, 1, .ref a :: st => (∃ (t : Nat) (x : vp_A), t ≤ 8 ∧ h a = some (.inl (ar t, x)) ∧ P (M, d, (pc + 1, lv, .int (Int32.ofNat x.1) :: st, h, kc, ks), Φ)) ∨ (∃ (n : Nat) (f : Nat → Int32), ro a = some (n, f) ∧ P (M, d, (pc + 1, lv, .int (Int32.ofNat n) :: st, h, kc, ks), Φ))
  | .new i, 3, st => ∃ (ci : Nat) (fs : List Value), CLn (mo M) i ci fs ∧ 1 ≤ kc ∧ fs.length ≤ ks ∧ ∀ q : Nat, h q = none → P (M, d, (pc + 3, lv, .ref q :: st, hset h q (.inr (ci, fs)), kc - 1, ks - fs.length), Φ)
  | .newarray .int, 2, .int n :: st => ¬ n < 0 ∧ n.toNatClampNeg ≤ 10000 ∧ 1 ≤ kc ∧ n.toNatClampNeg ≤ ks ∧ ∀ q : Nat, h q = none → P (M, d, (pc + 2, lv, .ref q :: st, hset h q (.inl (ar 0, n.toNatClampNeg, .inl (fun _ => 0))), kc - 1, ks - n.toNatClampNeg), Φ)
  | .newarray .long, 2, .int n :: st => ¬ n < 0 ∧ n.toNatClampNeg ≤ 10000 ∧ 1 ≤ kc ∧ n.toNatClampNeg ≤ ks ∧ ∀ q : Nat, h q = none → P (M, d, (pc + 2, lv, .ref q :: st, hset h q (.inl (ar 1, n.toNatClampNeg, .inr (.inl (fun _ => 0)))), kc - 1, ks - n.toNatClampNeg), Φ)
  | .newarray .boolean, 2, .int n :: st => ¬ n < 0 ∧ n.toNatClampNeg ≤ 10000 ∧ 1 ≤ kc ∧ n.toNatClampNeg ≤ ks ∧ ∀ q : Nat, h q = none → P (M, d, (pc + 2, lv, .ref q :: st, hset h q (.inl (ar 2, n.toNatClampNeg, .inl (fun _ => 0))), kc - 1, ks - n.toNatClampNeg), Φ)
  | .newarray .byte, 2, .int n :: st => ¬ n < 0 ∧ n.toNatClampNeg ≤ 10000 ∧ 1 ≤ kc ∧ n.toNatClampNeg ≤ ks ∧ ∀ q : Nat, h q = none → P (M, d, (pc + 2, lv, .ref q :: st, hset h q (.inl (ar 3, n.toNatClampNeg, .inl (fun _ => 0))), kc - 1, ks - n.toNatClampNeg), Φ)
  | .anewarray i, 3, .int n :: st => ∃ (t : Nat) (C : String), 4 ≤ t ∧ t ≤ 8 ∧ tyN t = .object C ∧ Cond.classLink (cn (mo M)) i C ∈ tblG ∧ Cond.arrayOver (.object C) ∈ exL ∧ ¬ n < 0 ∧ n.toNatClampNeg ≤ 10000 ∧ 1 ≤ kc ∧ n.toNatClampNeg ≤ ks ∧ ∀ q : Nat, h q = none → P (M, d, (pc + 3, lv, .ref q :: st, hset h q (.inl (ar t, n.toNatClampNeg, .inr (.inr (.inr (.inr (fun _ => none)))))), kc - 1, ks - n.toNatClampNeg), Φ)
  | _, _, _ => False
/-- division; constants; switches -/
def am_d (P : Cd → Prop) (M : Mth) (d : Nat) (ig : Instr) (len pc : Nat) (lv : Lv) (st : List Value) (h : Hp) (kc ks : Nat) (Φ : Ou → Hp → Prop) : Prop :=
  match ig, len, st with
  | .idiv, 1, .int y :: .int x :: st => ¬ y = 0 ∧ P (M, d, (pc + 1, lv, .int (x / y) :: st, h, kc, ks), Φ)
  | .irem, 1, .int y :: .int x :: st => ¬ y = 0 ∧ P (M, d, (pc + 1, lv, .int (x - x / y * y) :: st, h, kc, ks), Φ)
  | .ldiv, 1, .long y :: .long x :: st => ¬ y = 0 ∧ P (M, d, (pc + 1, lv, .long (x / y) :: st, h, kc, ks), Φ)
  | .ldc i, 2, st => (∃ v : Int32, Cond.constant (cn (mo M)) i v ∈ tblG ∧ P (M, d, (pc + 2, lv, .int v :: st, h, kc, ks), Φ)) ∨ (∃ (j : Nat) (tx : String), strT[j]? = some (mo M, i, tx) ∧ P (M, d, (pc + 2, lv, .ref (sa j) :: st, h, kc, ks), Φ))
  | .ldc_w i, 3, st => (∃ v : Int32, Cond.constant (cn (mo M)) i v ∈ tblG ∧ P (M, d, (pc + 3, lv, .int v :: st, h, kc, ks), Φ)) ∨ (∃ (j : Nat) (tx : String), strT[j]? = some (mo M, i, tx) ∧ P (M, d, (pc + 3, lv, .ref (sa j) :: st, h, kc, ks), Φ))
  | .ldc2_w i, 3, st => ∃ v : Int64, Cond.constantLong (cn (mo M)) i v ∈ tblG ∧ P (M, d, (pc + 3, lv, .long v :: st, h, kc, ks), Φ)
  | .lookupswitch df ps, _, .int x :: st => (ps.toList.zip (ps.toList.drop 1)).all (fun (a, next) => a.1 < next.1) = true ∧ 0 ≤ (pc : Int) + Op.lookupswitch.offset ps.toList df x.toInt ∧ P (M, d, (tgt pc (Op.lookupswitch.offset ps.toList df x.toInt), lv, st, h, kc, ks), Φ)
  | .tableswitch df lo hi offs, _, .int x :: st => ((x.toInt < lo ∨ hi < x.toInt) → 0 ≤ (pc : Int) + df ∧ P (M, d, (tgt pc df, lv, st, h, kc, ks), Φ)) ∧ (¬ x.toInt < lo → ¬ hi < x.toInt → ∃ off, offs[(x.toInt - lo).toNat]? = some off ∧ 0 ≤ (pc : Int) + off ∧ P (M, d, (tgt pc off, lv, st, h, kc, ks), Φ))
  | _, _, _ => False
/-- ends: returns, throw new E() -/
def am_e (M : Mth) (ig : Instr) (len pc : Nat) (st : List Value) (h : Hp) (kc ks : Nat) (Φ : Ou → Hp → Prop) : Prop :=
  match ig, len, st with
  | .ireturn, 1, [.int v] => (mr M = some .int ∨ (mr M = some .boolean ∧ narrow .boolean (.int v) = .int v)) ∧ Φ (.inl (some (.int v))) h
  | .lreturn, 1, [.long v] => mr M = some .long ∧ Φ (.inl (some (.long v))) h
  | .return_, 1, [] => mr M = none ∧ Φ (.inl none) h
  | .new ik, 3, st => ∃ (ic : Nat) (E : String) (names : List String), mh M = [] ∧ Bundle.fit E = true ∧ (∀ n ∈ names, Bundle.fit n = true) ∧ Cond.classLink (cn (mo M)) ik E ∈ tblG ∧ Cond.initialized E ∈ tblG ∧ (∀ w ∈ vx_at0 (cn (mo M)) ic E names, (w ∈ tblG ∨ w ∈ exL) ∧ vx_ot w = true) ∧ decode (mb M) (pc + 3) = .ok (.dup, 1) ∧ decode (mb M) (pc + 4) = .ok (.invokespecial ic, 3) ∧ decode (mb M) (pc + 7) = .ok (.athrow, 1) ∧ names.length ≤ 4 ∧ (st.map fun v => v.category).sum ≤ 8 ∧ 1 ≤ kc ∧ 6 ≤ ks ∧ Φ (.inr E) h
  | _, _, _ => False
/-- who catches E at pc -/
def XHs (M : Mth) (pc : Nat) (E : String) (hpc : Nat) (ncs : List (String × String)) : Prop := ∃ (pre : List ExceptionTableEntry) (x : ExceptionTableEntry) (suf : List ExceptionTableEntry) (name : String), tableOf (mh M) = pre ++ x :: suf ∧ (∀ z ∈ pre, covers z pc = false ∨ (z.catchType ≠ 0 ∧ ∃ nm : String, Cond.classLink (cn (mo M)) z.catchType nm ∈ tblG ∧ (E, nm) ∈ ncs)) ∧ covers x pc = true ∧ x.catchType ≠ 0 ∧ Cond.classLink (cn (mo M)) x.catchType name ∈ tblG ∧ Cond.castable E name ∈ exL ∧ x.handlerPc = hpc
def ncsL : List (String × String) := [("java/lang/IllegalArgumentException", "java/util/NoSuchElementException"), ("java/lang/IllegalStateException", "java/util/NoSuchElementException"), ("java/lang/IndexOutOfBoundsException", "java/util/NoSuchElementException"), ("java/lang/IndexOutOfBoundsException", "java/lang/IllegalStateException"), ("java/lang/IllegalArgumentException", "java/lang/IllegalStateException")]
/-- calls of our methods -/
def am_c (P : Cd → Prop) (M : Mth) (d : Nat) (ig : Instr) (len pc : Nat) (lv : Lv) (st : List Value) (h : Hp) (kc ks : Nat) (Φ : Ou → Hp → Prop) : Prop :=
  ∃ (idx kind d' mc ms : Nat) (M' : Mth) (As rest av : List Value) (Ψ : Ou → Hp → Prop), d = d' + 1 ∧ len = 3 ∧ MLk (mo M) idx M' kind As.length ∧
    ((kind = 0 ∧ ig = .invokestatic idx ∧ st = As.reverse ++ rest ∧ av = As) ∨ (∃ (b ci : Nat) (fs : List Value) (r : vw_C), kind = 1 ∧ ig = .invokevirtual idx ∧ st = As.reverse ++ .ref b :: rest ∧ av = .ref b :: As ∧ h b = some (.inr (ci, fs)) ∧ clsL[ci]? = some r ∧ r.1 = (my M').cls) ∨ (∃ b : Nat, kind = 2 ∧ ig = .invokespecial idx ∧ st = As.reverse ++ .ref b :: rest ∧ av = .ref b :: As)) ∧
    (rest.map fun v => v.category).sum ≤ 8 ∧ (lg_sl av).length ≤ ml M' ∧ mc ≤ kc ∧ ms ≤ ks ∧ P (M', d', (0, (lg_sl av ++ List.replicate (ml M' - (lg_sl av).length) Slot.unset).map (fun z => match z with | .val v => some v | _ => none), [], h, mc, ms), Ψ) ∧
    (∀ (v : Option Value) (h' : Hp), Ψ (.inl v) h' → P (M, d, (pc + 3, lv, v.toList ++ rest, h', kc - mc, ks - ms), Φ)) ∧
    (∀ (E : String) (h' : Hp), Ψ (.inr E) h' → ((Cond.methodLink (cn (mo M)) idx (my M') ∈ tblG) ∧ ¬ kind = 2) ∧ ((mh M = [] ∧ Φ (.inr E) h') ∨ (∃ hpc : Nat, XHs M pc E hpc ncsL ∧ ∀ q : Nat, P (M, d, (hpc, lv, [.ref q], h', kc - mc, ks - ms), Φ))))
/-- calls of the library that have rows of their own -/
def am_j (P : Cd → Prop) (M : Mth) (d : Nat) (ig : Instr) (len pc : Nat) (lv : Lv) (st : List Value) (h : Hp) (kc ks : Nat) (Φ : Ou → Hp → Prop) : Prop :=
  match ig, len, st with
  | .invokespecial i, 3, .ref _ :: st => Cond.methodLink (cn (mo M)) i objectInit ∈ tblG ∧ Cond.instanceMethod objectInit ∈ tblG ∧ Cond.code objectInit ⟨#[0xb1]⟩ 1 none ∈ tblG ∧ (st.map fun v => v.category).sum ≤ 8 ∧ P (M, d, (pc + 3, lv, st, h, kc, ks), Φ)
  | .invokestatic i, 3, .int y :: .int x :: .ref b :: .int z :: .ref a :: st => Cond.methodLink (cn (mo M)) i arraycopyName ∈ tblG ∧ Cond.native arraycopyName ∈ tblG ∧ Cond.static arraycopyName ∈ tblG ∧ Cond.initialized "java/lang/System" ∈ tblG ∧ (st.map fun v => v.category).sum ≤ 8 ∧ ¬ z < 0 ∧ ¬ x < 0 ∧ ¬ y < 0 ∧
      ∃ (t n0 n1 : Nat) (f g : Nat → Int32), (t = 0 ∨ t = 2) ∧ h a = some (.inl (ar t, n0, .inl f)) ∧ h b = some (.inl (ar t, n1, .inl g)) ∧ z.toNatClampNeg + y.toNatClampNeg ≤ n0 ∧ x.toNatClampNeg + y.toNatClampNeg ≤ n1 ∧ (∀ i, i < y.toNatClampNeg → fits (tyN t) (.int (f (z.toNatClampNeg + i))) = true) ∧ P (M, d, (pc + 3, lv, st, hset h b (.inl (ar t, n1, .inl (va_cpy f g z.toNatClampNeg x.toNatClampNeg y.toNatClampNeg))), kc, ks), Φ)
  | .invokestatic i, 3, .int y :: .int x :: st => (Cond.methodLink (cn (mo M)) i Lib.Math.max.name ∈ tblG ∧ Cond.static Lib.Math.max.name ∈ tblG ∧ Cond.initialized "java/lang/Math" ∈ tblG ∧ Cond.code Lib.Math.max.name Lib.Math.max.code 2 (some .int) ∈ tblG ∧ (st.map fun v => v.category).sum ≤ 8 ∧ P (M, d, (pc + 3, lv, .int (if x < y then y else x) :: st, h, kc, ks), Φ)) ∨
      (Cond.methodLink (cn (mo M)) i Lib.Math.min.name ∈ tblG ∧ Cond.static Lib.Math.min.name ∈ tblG ∧ Cond.initialized "java/lang/Math" ∈ tblG ∧ Cond.code Lib.Math.min.name Lib.Math.min.code 2 (some .int) ∈ tblG ∧ (st.map fun v => v.category).sum ≤ 8 ∧ P (M, d, (pc + 3, lv, .int (if y < x then y else x) :: st, h, kc, ks), Φ))
  | .invokevirtual i, 3, .ref a :: st => ∃ j : Nat, j < 25 ∧ a = sa j ∧ Cond.methodLink (cn (mo M)) i yLen ∈ tblG ∧ (st.map fun v => v.category).sum ≤ 8 ∧ P (M, d, (pc + 3, lv, .int (Int32.ofNat (sln j)) :: st, h, kc, ks), Φ)
  | .invokevirtual i, 3, .int k :: .ref a :: st => ∃ j : Nat, j < 25 ∧ a = sa j ∧ Cond.methodLink (cn (mo M)) i yChr ∈ tblG ∧ vp_in k (sln j) ∧ (st.map fun v => v.category).sum ≤ 8 ∧ P (M, d, (pc + 3, lv, .int (Int32.ofNat (sch j k.toNatClampNeg)) :: st, h, kc, ks), Φ)
  | .invokestatic i, 3, .long x :: st => Cond.methodLink (cn (mo M)) i Lib.MathLoose.abs_long.x ∈ tblG ∧ Cond.static Lib.MathLoose.abs_long.x ∈ tblG ∧ Cond.initialized "java/lang/Math" ∈ tblG ∧ Cond.code Lib.MathLoose.abs_long.x Lib.MathLoose.abs_long.code 2 (some .long) ∈ tblG ∧ (st.map fun v => v.category).sum ≤ 8 ∧ P (M, d, (pc + 3, lv, .long (if 0 < x then x else -x) :: st, h, kc, ks), Φ)
  | _, _, _ => False
def am_s (P : Cd → Prop) (M : Mth) (d : Nat) (ig : Instr) (len pc : Nat) (lv : Lv) (st : List Value) (h : Hp) (kc ks : Nat) (Φ : Ou → Hp → Prop) : Prop :=
  ∃ r : Nat × Lv × List Value, sx ig len pc lv st = some r ∧ P (M, d, (r.1, r.2.1, r.2.2, h, kc, ks), Φ)
def am_F (P : Cd → Prop) (q : Cd) : Prop := match q with
  | (M, d, (pc, lv, st, h, kc, ks), Φ) => ∃ (ig : Instr) (len : Nat), decode (mb M) pc = .ok (ig, len) ∧
    (am_s P M d ig len pc lv st h kc ks Φ ∨ am_h ar ro P M d ig len pc lv st h kc ks Φ ∨ am_d sa P M d ig len pc lv st h kc ks Φ ∨ am_e M ig len pc st h kc ks Φ ∨ am_c P M d ig len pc lv st h kc ks Φ ∨ am_j ar sa P M d ig len pc lv st h kc ks Φ)
def WPc (q : Cd) : Prop := ∀ P : Cd → Prop, (∀ (S : Cd → Prop) (q : Cd), am_F ar ro sa S q → (∀ q, S q → P q) → P q) → P q
abbrev WP (M : Mth) (d pc : Nat) (lv : Lv) (st : List Value) (h : Hp) (kc ks : Nat) (Φ : Ou → Hp → Prop) : Prop := WPc ar ro sa (M, d, (pc, lv, st, h, kc, ks), Φ)
theorem WPc.intro {q : Cd} (h : am_F ar ro sa (WPc ar ro sa) q) : WPc ar ro sa q := fun P hc => hc _ q h (fun _ hq => hq P hc)
end AM
end
section
/-! the frame's own instructions: sx is what the machine does -/
def lr (ls : Array Slot) (lv : Lv) : Prop := ls.size = lv.length ∧ lv_wf ls ∧ ∀ (i : Nat) (v : Value), ldl lv i = some v → ls[i]? = some (.val v)
def al (lv : Lv) : List (Nat × Value) := (List.range lv.length).filterMap (fun i => (ldl lv i).map (fun v => (i, v)))
theorem ldl_lt {lv : Lv} {i : Nat} {v : Value} (h : ldl lv i = some v) : i < lv.length := by
  rcases Nat.lt_or_ge i lv.length with q | q
  · exact q
  · simp [ldl, List.getElem?_eq_none q] at h
theorem al_mem {lv : Lv} {i : Nat} {v : Value} : (i, v) ∈ al lv ↔ ldl lv i = some v := by
  constructor
  · intro h
    obtain ⟨j, -, hj⟩ := List.mem_filterMap.mp h
    cases e : ldl lv j with
    | none => rw [e] at hj; cases hj
    | some w => rw [e] at hj; cases hj; exact e
  · intro h
    exact List.mem_filterMap.mpr ⟨i, List.mem_range.mpr (ldl_lt h), by rw [h]; rfl⟩
theorem lr.has {ls : Array Slot} {lv : Lv} (h : lr ls lv) : lv_has ls lv.length (al lv) := ⟨h.1, h.2.1, fun q hq => h.2.2 q.1 q.2 (al_mem.mp hq)⟩
theorem stl_len (lv : Lv) (i : Nat) (v : Value) : (stl lv i v).length = lv.length := by
  cases i with
  | zero => simp only [stl]; split <;> simp
  | succ j =>
    simp only [stl]
    split <;> split <;> (try split) <;> simp
theorem ldl_set {lv : Lv} {i j : Nat} {o : Option Value} {w : Value} (h : ldl (lv.set i o) j = some w) : (j = i ∧ o = some w) ∨ (j ≠ i ∧ ldl lv j = some w) := by
  rcases Nat.decEq j i with n | rfl
  · right; refine ⟨n, ?_⟩
    simp only [ldl, List.getElem?_set_ne (Ne.symm n)] at h ⊢
    exact h
  · left; refine ⟨rfl, ?_⟩
    have hl := ldl_lt h
    simp only [List.length_set] at hl
    simpa [ldl, hl] using h
theorem stl_get {lv : Lv} {i j : Nat} {v w : Value} (h : ldl (stl lv i v) j = some w) : (j = i ∧ v = w) ∨ (j ≠ i ∧ ldl lv j = some w ∧ ¬ (j + 1 = i ∧ w.category = 2) ∧ (v.category = 2 → j ≠ i + 1)) := by
  have key : ∀ l1 : Lv, (ldl (l1.set i (some v)) j = some w ∨ (v.category = 2 ∧ j ≠ i + 1 ∧ ldl (l1.set i (some v)) j = some w)) → (v.category = 2 → j ≠ i + 1) → (∀ w', ldl l1 j = some w' → ldl lv j = some w' ∧ ¬ (j + 1 = i ∧ w'.category = 2)) → (j = i ∧ v = w) ∨ (j ≠ i ∧ ldl lv j = some w ∧ ¬ (j + 1 = i ∧ w.category = 2) ∧ (v.category = 2 → j ≠ i + 1)) := by
    intro l1 h1 hc hl
    have h1 : ldl (l1.set i (some v)) j = some w := h1.elim id (fun q => q.2.2)
    rcases ldl_set h1 with ⟨e, q⟩ | ⟨n, q⟩
    · exact Or.inl ⟨e, Option.some.inj q⟩
    · exact Or.inr ⟨n, (hl w q).1, (hl w q).2, hc⟩
  have fin : ∀ l1 : Lv, ldl (if v.category = 2 then (l1.set i (some v)).set (i + 1) none else l1.set i (some v)) j = some w → (∀ w', ldl l1 j = some w' → ldl lv j = some w' ∧ ¬ (j + 1 = i ∧ w'.category = 2)) → (j = i ∧ v = w) ∨ (j ≠ i ∧ ldl lv j = some w ∧ ¬ (j + 1 = i ∧ w.category = 2) ∧ (v.category = 2 → j ≠ i + 1)) := by
    intro l1 h1 hl
    by_cases c : v.category = 2
    · rw [if_pos c] at h1
      rcases ldl_set h1 with ⟨-, q⟩ | ⟨n, q⟩
      · cases q
      · exact key l1 (Or.inl q) (fun _ => n) hl
    · rw [if_neg c] at h1
      exact key l1 (Or.inl h1) (fun q => absurd q c) hl
  cases i with
  | zero => exact fin lv h (fun w' q => ⟨q, fun z => by omega⟩)
  | succ k =>
    refine fin (match lv[k]? with
      | some (some w) => if w.category = 2 then lv.set k none else lv
      | _ => lv) h (fun w' q => ?_)
    split at q
    · rename_i w0 e0
      by_cases c0 : w0.category = 2
      · rw [if_pos c0] at q
        rcases ldl_set q with ⟨-, z⟩ | ⟨n, z⟩
        · cases z
        · exact ⟨z, fun y => n (by omega)⟩
      · rw [if_neg c0] at q
        refine ⟨q, fun y => ?_⟩
        have : j = k := by omega
        subst this
        rw [ldl, e0] at q
        cases q
        exact c0 y.2
    · rename_i e0
      refine ⟨q, fun y => ?_⟩
      have : j = k := by omega
      subst this
      cases e1 : lv[j]? with
      | none => rw [ldl, e1] at q; cases q
      | some o =>
        cases o with
        | none => rw [ldl, e1] at q; cases q
        | some w1 => exact e0 w1 e1
theorem lr.store1 {ls : Array Slot} {lv : Lv} {i : Nat} {v : Value} (hc : v.category = 1) (h : lv_has ls lv.length ((i, v) :: (al lv).filter (fun q => !(q.1 == i) && !(q.1 + 1 == i && q.2.category == 2)))) : lr ls (stl lv i v) := by
  refine ⟨by rw [stl_len]; exact h.1, h.2.1, fun j w hj => ?_⟩
  rcases stl_get hj with ⟨rfl, rfl⟩ | ⟨n, q, z, -⟩
  · exact h.2.2 (j, v) List.mem_cons_self
  · refine h.2.2 (j, w) (List.mem_cons_of_mem _ (List.mem_filter.mpr ⟨al_mem.mpr q, ?_⟩))
    simp only [Bool.and_eq_true, Bool.not_eq_true', beq_eq_false_iff_ne, Bool.and_eq_false_iff]
    refine ⟨n, ?_⟩
    by_cases e : j + 1 = i
    · exact Or.inr (fun y => z ⟨e, y⟩)
    · exact Or.inl e
theorem lr.store2 {ls : Array Slot} {lv : Lv} {i : Nat} {v : Value} (hc : v.category = 2) (h : lv_has ls lv.length ((i, v) :: (al lv).filter (fun q => !(q.1 == i) && (!(q.1 == i + 1) && !(q.1 + 1 == i && q.2.category == 2))))) : lr ls (stl lv i v) := by
  refine ⟨by rw [stl_len]; exact h.1, h.2.1, fun j w hj => ?_⟩
  rcases stl_get hj with ⟨rfl, rfl⟩ | ⟨n, q, z, y⟩
  · exact h.2.2 (j, v) List.mem_cons_self
  · refine h.2.2 (j, w) (List.mem_cons_of_mem _ (List.mem_filter.mpr ⟨al_mem.mpr q, ?_⟩))
    simp only [Bool.and_eq_true, Bool.not_eq_true', beq_eq_false_iff_ne, Bool.and_eq_false_iff]
    refine ⟨n, y hc, ?_⟩
    by_cases e : j + 1 = i
    · exact Or.inr (fun x => z ⟨e, x⟩)
    · exact Or.inl e
theorem tgt_ok {pc : Nat} {off : Int} (h : 0 ≤ (pc : Int) + off) : (pc : Int) + off = ((tgt pc off : Nat) : Int) := by
  unfold tgt; omega
section SX
variable {p : Program} {l : Launch} {e : Env} {R : Room} {s : State} {m : MethodId} {args : Array Value} {below : List Frame} {meth : Method} {c : Code} {H : Heap} {locs : List Loc} {cells slots : Nat} {Q : State → Prop}
theorem br_W {cd : ClassFile.Cond} {x y : Int32} {a b : Nat} {ls : Array Slot} {st : List Value} (k : W p l e R s m args below meth c H locs cells slots Q (F0 m (if cdI cd x y then a else b) ls st)) : (cdI cd x y = true → W p l e R s m args below meth c H locs cells slots Q (F0 m a ls st)) ∧ (cdI cd x y = false → W p l e R s m args below meth c H locs cells slots Q (F0 m b ls st)) := by
  constructor <;> intro h <;> simpa [h] using k
set_option maxHeartbeats 4000000 in
theorem sx_sound (hx : p.tables.exec = Jvm.exec) {cc : ByteArray} (hb : c.code = cc) {ig : Instr} {len pc : Nat} {lv : Lv} {st : List Value} {ls : Array Slot} {r : Nat × Lv × List Value} (hd : decode cc pc = .ok (ig, len)) (hs : sx ig len pc lv st = some r) (hl : lr ls lv)
    (k : ∀ ls', lr ls' r.2.1 → W p l e R s m args below meth c H locs cells slots Q (F0 m r.1 ls' r.2.2)) : W p l e R s m args below meth c H locs cells slots Q (F0 m pc ls st) := by
  unfold sx at hs
  split at hs
  · cases hs; exact lv_iconst hx hb hd rfl (k ls hl)
  · cases hs; exact lv_bipush hx hb hd rfl (k ls hl)
  · cases hs; exact lv_sipush hx hb hd rfl (k ls hl)
  · cases hs; exact lv_lconst hx hb hd rfl (k ls hl)
  · split at hs
    · rename_i q; cases hs; exact lv_iload_n hx hb hd rfl (hl.2.2 _ _ q) (k ls hl)
    · cases hs
  · split at hs
    · rename_i q; cases hs; exact lv_iload hx hb hd (hl.2.2 _ _ q) (k ls hl)
    · cases hs
  · split at hs
    · rename_i q; cases hs; exact lv_lload_n hx hb hd rfl (hl.2.2 _ _ q) (k ls hl)
    · cases hs
  · split at hs
    · rename_i q; cases hs; exact lv_lload hx hb hd (hl.2.2 _ _ q) (k ls hl)
    · cases hs
  · split at hs
    · rename_i q; cases hs; exact lv_aload_n hx hb hd rfl (hl.2.2 _ _ q) (k ls hl)
    · cases hs
  · split at hs
    · rename_i q; cases hs; exact lv_aload hx hb hd (hl.2.2 _ _ q) (k ls hl)
    · cases hs
  · split at hs
    · rename_i q; cases hs; exact lv_istore_n hx hb hd rfl hl.has q rfl (fun ls' h' => k ls' (lr.store1 rfl h'))
    · cases hs
  · split at hs
    · rename_i q; cases hs; exact lv_istore hx hb hd hl.has q rfl (fun ls' h' => k ls' (lr.store1 rfl h'))
    · cases hs
  · split at hs
    · rename_i q; cases hs; exact lv_lstore_n hx hb hd rfl hl.has q rfl (fun ls' h' => k ls' (lr.store2 rfl h'))
    · cases hs
  · split at hs
    · rename_i q; cases hs; exact lv_lstore hx hb hd hl.has q rfl (fun ls' h' => k ls' (lr.store2 rfl h'))
    · cases hs
  · split at hs
    · rename_i q; cases hs; exact lv_astore_n hx hb hd rfl hl.has q rfl (fun ls' h' => k ls' (lr.store1 rfl h'))
    · cases hs
  · split at hs
    · rename_i q; cases hs; exact lv_astore hx hb hd hl.has q rfl (fun ls' h' => k ls' (lr.store1 rfl h'))
    · cases hs
  · split at hs
    · rename_i q; cases hs
      obtain ⟨j, hj⟩ := List.getElem?_of_mem (al_mem.mpr q)
      exact lv_iinc hx hb hd hl.has hj rfl (ldl_lt q) rfl (fun ls' h' => k ls' (lr.store1 rfl h'))
    · cases hs
  · cases hs; exact lv_iadd hx hb hd (k ls hl)
  · cases hs; exact lv_isub hx hb hd (k ls hl)
  · cases hs; exact lv_imul hx hb hd (k ls hl)
  · cases hs; exact lv_iand hx hb hd (k ls hl)
  · cases hs; exact lv_ior hx hb hd (k ls hl)
  · cases hs; exact lv_ixor hx hb hd (k ls hl)
  · cases hs; exact lv_ineg hx hb hd (k ls hl)
  · cases hs; exact lv_ladd hx hb hd (k ls hl)
  · cases hs; exact lv_lsub hx hb hd (k ls hl)
  · cases hs; exact lv_lmul hx hb hd (k ls hl)
  · cases hs; exact lv_land hx hb hd (k ls hl)
  · cases hs; exact lv_lor hx hb hd (k ls hl)
  · cases hs; exact lv_lxor hx hb hd (k ls hl)
  · cases hs; exact lv_lneg hx hb hd (k ls hl)
  · cases hs; exact lv_ishl hx hb hd (k ls hl)
  · cases hs; exact lv_ishr hx hb hd (k ls hl)
  · cases hs; exact lv_iushr hx hb hd rfl (k ls hl)
  · cases hs; exact lv_lshl hx hb hd rfl (k ls hl)
  · cases hs; exact lv_lshr hx hb hd rfl (k ls hl)
  · cases hs; exact lv_lushr hx hb hd rfl (k ls hl)
  · cases hs; exact lv_i2l hx hb hd rfl (k ls hl)
  · cases hs; exact lv_l2i hx hb hd rfl (k ls hl)
  · cases hs; exact lv_i2b hx hb hd rfl (k ls hl)
  · cases hs; exact lv_i2s hx hb hd rfl (k ls hl)
  · cases hs; exact W.lcmp hx hb hd (k ls hl)
  · split at hs
    · rename_i q; cases hs; exact lv_dup hx hb hd q (k ls hl)
    · cases hs
  · split at hs
    · rename_i q; cases hs; exact lv_pop hx hb hd q (k ls hl)
    · cases hs
  · split at hs
    · rename_i q; cases hs; exact lv_dup_x1 hx hb hd q.1 q.2 (k ls hl)
    · cases hs
  · split at hs
    · rename_i q; cases hs; exact lv_dup2_11 hx hb hd q.1 q.2 (k ls hl)
    · cases hs
  · split at hs
    · rename_i q; cases hs; exact lv_goto hx hb hd (tgt_ok q) (k ls hl)
    · cases hs
  · split at hs
    · rename_i cd off x st1 q; cases hs
      obtain ⟨k1, k2⟩ := br_W (k ls hl)
      cases cd
      · exact lv_if_eq hx hb hd (tgt_ok q) (fun h => k1 (decide_eq_true h)) (fun h => k2 (decide_eq_false h))
      · exact lv_if_ne hx hb hd (tgt_ok q) (fun h => k1 (decide_eq_true h)) (fun h => k2 (decide_eq_false (fun z => z h)))
      · exact lv_if_lt hx hb hd (tgt_ok q) (fun h => k1 (decide_eq_true h)) (fun h => k2 (decide_eq_false h))
      · exact lv_if_ge hx hb hd (tgt_ok q) (fun h => k1 (decide_eq_true h)) (fun h => k2 (decide_eq_false h))
      · exact lv_if_gt hx hb hd (tgt_ok q) (fun h => k1 (decide_eq_true h)) (fun h => k2 (decide_eq_false h))
      · exact lv_if_le hx hb hd (tgt_ok q) (fun h => k1 (decide_eq_true h)) (fun h => k2 (decide_eq_false h))
    · cases hs
  · split at hs
    · rename_i cd off y x st1 q; cases hs
      obtain ⟨k1, k2⟩ := br_W (k ls hl)
      cases cd
      · exact lv_icmp_eq hx hb hd (tgt_ok q) (fun h => k1 (decide_eq_true h)) (fun h => k2 (decide_eq_false h))
      · exact lv_icmp_ne hx hb hd (tgt_ok q) (fun h => k1 (decide_eq_true h)) (fun h => k2 (decide_eq_false (fun z => z h)))
      · exact lv_icmp_lt hx hb hd (tgt_ok q) (fun h => k1 (decide_eq_true h)) (fun h => k2 (decide_eq_false h))
      · exact lv_icmp_ge hx hb hd (tgt_ok q) (fun h => k1 (decide_eq_true h)) (fun h => k2 (decide_eq_false h))
      · exact lv_icmp_gt hx hb hd (tgt_ok q) (fun h => k1 (decide_eq_true h)) (fun h => k2 (decide_eq_false h))
      · exact lv_icmp_le hx hb hd (tgt_ok q) (fun h => k1 (decide_eq_true h)) (fun h => k2 (decide_eq_false h))
    · cases hs
  · cases hs; exact lv_ifnull hx hb hd (k ls hl)
  · split at hs
    · rename_i q; cases hs; exact lv_ifnullN hx hb hd (tgt_ok q) (k ls hl)
    · cases hs
  · split at hs
    · rename_i q; cases hs; exact lv_ifnonnull hx hb hd (tgt_ok q) (k ls hl)
    · cases hs
  · cases hs; exact lv_ifnonnullN hx hb hd (k ls hl)
  · cases hs
end SX
end
section
/-! the worlds: a pure heap h beside the machine's heap H -/
def lkp (ws : va_W) (a : Nat) : Option va_E := (ws.find? (fun q => q.1 == a)).map (fun q => q.2)
theorem lkp_nil (a : Nat) : lkp [] a = none := rfl
theorem lkp_cons (q : Nat × va_E) (ws : va_W) (a : Nat) : lkp (q :: ws) a = if q.1 = a then some q.2 else lkp ws a := by
  by_cases e : q.1 = a
  · simp [lkp, List.find?_cons, e]
  · simp [lkp, List.find?_cons, e]
theorem lkp_at {ws : va_W} {a : Nat} {e : va_E} (h : lkp ws a = some e) : ∃ k : Nat, ws[k]? = some (a, e) := by
  induction ws with
  | nil => cases h
  | cons q ws ih =>
    rw [lkp_cons] at h
    split at h
    · rename_i c; cases h; exact ⟨0, by rw [← c]; rfl⟩
    · obtain ⟨k, hk⟩ := ih h; exact ⟨k + 1, hk⟩
theorem lkp_none {ws : va_W} {a : Nat} (h : ∀ (k : Nat) (e : va_E), ws[k]? = some (a, e) → False) : lkp ws a = none := by
  cases e : lkp ws a with
  | none => rfl
  | some x => obtain ⟨k, hk⟩ := lkp_at e; exact (h k x hk).elim
theorem lkp_of {A : Nat → Prop} {ws : va_W} (hD : va_D A ws) {k a : Nat} {e : va_E} (h : ws[k]? = some (a, e)) : lkp ws a = some e := by
  cases q : lkp ws a with
  | none =>
    exfalso
    induction ws generalizing k with
    | nil => simp at h
    | cons x ws ih =>
      rw [lkp_cons] at q
      split at q
      · cases q
      · rename_i n
        cases k with
        | zero => simp at h; exact n (by rw [h])
        | succ k => exact ih ⟨fun i j p q' a1 a2 a3 => by have := hD.1 (i + 1) (j + 1) p q' (by simpa using a1) (by simpa using a2) a3; omega, fun k q' a1 => hD.2 (k + 1) q' (by simpa using a1)⟩ (by simpa using h) q
  | some x =>
    obtain ⟨j, hj⟩ := lkp_at q
    have := hD.1 j k _ _ hj h rfl
    subst this
    rw [hj] at h
    cases h; rfl
theorem lkp_set {A : Nat → Prop} {ws : va_W} {k a : Nat} {e e' : va_E} (hD : va_D A ws) (h : ws[k]? = some (a, e)) (hD' : va_D A (ws.set k (a, e'))) (b : Nat) : lkp (ws.set k (a, e')) b = if b = a then some e' else lkp ws b := by
  have hk : k < ws.length := (List.getElem?_eq_some_iff.mp h).1
  by_cases c : b = a
  · subst c
    rw [if_pos rfl]
    exact lkp_of hD' (k := k) (by simp [hk])
  · rw [if_neg c]
    cases q : lkp ws b with
    | none =>
      refine lkp_none (fun j x hj => ?_)
      by_cases ej : k = j
      · subst ej; simp [hk] at hj; exact c hj.1.symm
      · rw [List.getElem?_set_ne ej] at hj
        rw [lkp_of hD hj] at q; cases q
    | some x =>
      obtain ⟨j, hj⟩ := lkp_at q
      have ej : k ≠ j := by rintro rfl; rw [hj] at h; cases h; exact c rfl
      exact lkp_of hD' (k := j) (by rw [List.getElem?_set_ne ej]; exact hj)
theorem lkp_push {A : Nat → Prop} {ws : va_W} {q : Nat} {e : va_E} (hD : va_D A ws) (hD' : va_D A (ws ++ [(q, e)])) : lkp ws q = none ∧ ∀ b : Nat, lkp (ws ++ [(q, e)]) b = if b = q then some e else lkp ws b := by
  have h0 : lkp ws q = none := lkp_none (fun k x hk => by
    have hl : k < ws.length := (List.getElem?_eq_some_iff.mp hk).1
    have := hD'.1 k ws.length (q, x) (q, e) (by rw [List.getElem?_append_left hl]; exact hk) (by simp) rfl
    omega)
  refine ⟨h0, fun b => ?_⟩
  by_cases c : b = q
  · subst c; rw [if_pos rfl]; exact lkp_of hD' (k := ws.length) (by simp)
  · rw [if_neg c]
    cases z : lkp ws b with
    | none =>
      refine lkp_none (fun j x hj => ?_)
      rcases Nat.lt_or_ge j ws.length with hl | hl
      · rw [List.getElem?_append_left hl] at hj; rw [lkp_of hD hj] at z; cases z
      · rw [List.getElem?_append_right hl] at hj
        cases hj2 : j - ws.length with
        | zero => rw [hj2] at hj; simp at hj; exact c hj.1.symm
        | succ n => rw [hj2] at hj; simp at hj
    | some x =>
      obtain ⟨j, hj⟩ := lkp_at z
      have hl : j < ws.length := (List.getElem?_eq_some_iff.mp hj).1
      exact lkp_of hD' (k := j) (by rw [List.getElem?_append_left hl]; exact hj)
def tysA (ar : Nat → ClassId) : List (ClassId × FieldType) := (List.range 9).map (fun k => (ar k, tyN k))
theorem tysA_at (ar : Nat → ClassId) {t : Nat} (h : t ≤ 8) : (tysA ar)[t]? = some (ar t, tyN t) := by
  simp [tysA, show t < 9 by omega]
def strN : List Nat := strB.map List.length
def strI : List (List Int32) := strB.map (fun l => l.map Int32.ofNat)
theorem exL_kind {w : Cond} (h : w ∈ exL) : (∃ a b c d, w = .methodLinkNest a b c d) ∨ (∃ a b, w = .castable a b) ∨ (∃ C, w = .arrayOver (.object C)) ∨ (∃ x, w = .declares x) ∨ ∃ x b n r, w = .codeSync x b n r := by
  have h2 := (List.mem_filter.mp h).2
  unfold exP at h2
  split at h2
  · exact Or.inl ⟨_, _, _, _, rfl⟩
  · exact Or.inr (Or.inl ⟨_, _, rfl⟩)
  · exact Or.inr (Or.inr (Or.inl ⟨_, rfl⟩))
  · exact Or.inr (Or.inr (Or.inr (Or.inl ⟨_, rfl⟩)))
  · exact Or.inr (Or.inr (Or.inr (Or.inr ⟨_, _, _, _, rfl⟩)))
  · cases h2
theorem codeSync_warm {x : MethodName} {b : ByteArray} {n : Nat} {r : Option FieldType} {A A' : Array Value} {s U : State} (hW : s.WarmedH U.vm) (h : (Cond.codeSync x b n r).before A s = true) : (Cond.codeSync x b n r).before A' U = true :=
  va_tabs rfl (rfl : (s.setVm U.vm).vm = U.vm) (A := A) (by
    have e := Cond.value_setVm₂ (args := A) (o := none) hW.alike hW.alike (Cond.codeSync x b n r) [] rfl
    simp only [Cond.before, Cond.holds] at h ⊢
    rw [e]; exact h)
/-- what stays true of the tables and of cells outside A, all the way -/
def Gw (D : va_G) (ar : Nat → ClassId) (ro : Nat → Option (Nat × (Nat → Int32))) (sa sv : Nat → Nat) (U : State) (H : Heap) (A : Nat → Prop) : Prop :=
  (∀ w ∈ exL, va_Nw w U) ∧ va_K D clsL (tysA ar) U ∧ (∀ q ∈ ncsL, va_Nc q.1 q.2 U) ∧ vx_Zq Bundle.tN "UNASSIGNED_STACK" Bundle.steD A U H ∧ vx_Zq Bundle.tN "SUPPRESSED_SENTINEL" Bundle.listD A U H ∧ (∀ j : Nat, j < 25 → vk_S 1 [sln j] [strI.getD j []] (fun _ => sa j) (fun _ => sv j) A U H) ∧ (∀ (j o i : Nat) (tx : String), strT[j]? = some (o, i, tx) → vk_R (cn o) i tx (sa j) U) ∧ va_Z "java/lang/String" "COMPACT_STRINGS" "Z" (.int 1) A U H ∧ (∀ (a n : Nat) (f : Nat → Int32), ro a = some (n, f) → va_X a n f U H ∧ a < H.size ∧ ¬ A a)
theorem Gw.to {D : va_G} {ar : Nat → ClassId} {ro : Nat → Option (Nat × (Nat → Int32))} {sa sv : Nat → Nat} {s U : State} {H0 H : Heap} {A B : Nat → Prop} (hG : Gw D ar ro sa sv s H0 A) (hW : s.WarmedH U.vm) (hz : H0.size ≤ H.size) (hk : ∀ q : Nat, q < H0.size → ¬ A q → H[q]? = H0[q]?) (hAB : ∀ q, B q → A q) : Gw D ar ro sa sv U H B := by
  obtain ⟨h1, h2, h3, h4, h5, h6, h7, h8, h9⟩ := hG
  refine ⟨fun w hw => ?_, va_K.moved hW.alike h2, fun q hq => (h3 q hq).moved hW.alike, ((h4.kept hk).narrow hAB).moved hW.alike, ((h5.kept hk).narrow hAB).moved hW.alike, fun j hj => vk_S.moved hW.alike (((h6 j hj).kept hk).narrow hAB), fun j o i tx h => (h7 j o i tx h).warm hW, ((h8.kept hk).narrow hAB).moved hW.alike, fun a n f h => ?_⟩
  · have hn := h1 w hw
    rcases exL_kind hw with ⟨a, b, c, d, rfl⟩ | ⟨a, b, rfl⟩ | ⟨C, rfl⟩ | ⟨x, rfl⟩ | ⟨x, b, n, r, rfl⟩
    · exact hn.warmM hW
    · exact hn.warmC hW
    · exact va_AO.moved hW.alike hn
    · exact hn.warmD hW
    · exact codeSync_warm hW hn
  · obtain ⟨x1, x2, x3⟩ := h9 a n f h
    exact ⟨(x1.kept (hk a x2 x3)).moved hW.alike, Nat.lt_of_lt_of_le x2 hz, fun q => x3 (hAB a q)⟩
/-- what a method's context gives -/
def Cx (D : va_G) (ar : Nat → ClassId) (ro : Nat → Option (Nat × (Nat → Int32))) (sa sv : Nat → Nat) (p : Program) (l : Launch) (R : Room) (s : State) (m : MethodId) (args : Array Value) (meth : Method) (c : Code) (A : Nat → Prop) (M : Mth) (d : Nat) : Prop :=
  p.tables.exec = Jvm.exec ∧ c.code = mb M ∧ c.maxLocals = ml M ∧ s.vm.findClass (cn (mo M)) = some m.cls ∧ (∀ w ∈ tblG, w.before args s = true) ∧ Gw D ar ro sa sv s s.heap A ∧ (∀ q, s.heap.size ≤ q → A q) ∧ meth.sig.returnType = mr M ∧ meth.locks = false ∧ c.exceptionTable.toList = tableOf (mh M) ∧ meth.name = (my M).name ∧ d + 8 ≤ R.frames ∧ 80 * d + 160 ≤ R.locals ∧ l.stackTraces = false
def Ww (D : va_G) (A : Nat → Prop) (h : Hp) (ws : va_W) (st t : State) : Prop := (∀ b, h b = lkp ws b) ∧ va_P D clsL ws t.heap ∧ va_D A ws ∧ va_F A st t
def QcO (D : va_G) (A : Nat → Prop) (Φ : Ou → Hp → Prop) : Array Value → State → Outcome → State → Prop := fun _ st oc t => ∃ (v : Option Value) (h : Hp) (ws : va_W), oc = .returned v ∧ Φ (.inl v) h ∧ Ww D A h ws st t
def XcO (D : va_G) (A : Nat → Prop) (Φ : Ou → Hp → Prop) : String → State → State → Prop := fun E st t => ∃ (h : Hp) (ws : va_W), Φ (.inr E) h ∧ Ww D A h ws st t
/-- what WP stands for -/
def Sd (D : va_G) (ar : Nat → ClassId) (ro : Nat → Option (Nat × (Nat → Int32))) (sa sv : Nat → Nat) (l : Launch) (q : Cd) : Prop := match q with
  | (M, d, (pc, lv, st, h, kc, ks), Φ) => ∀ (p : Program) (e : Env) (R : Room) (s : State) (m : MethodId) (args : Array Value) (below : List Frame) (meth : Method) (c : Code) (A : Nat → Prop), Cx D ar ro sa sv p l R s m args meth c A M d →
    ∀ (H : Heap) (locs : List Loc) (cells slots : Nat) (ls : Array Slot) (ws : va_W), lr ls lv → lv.length = ml M → (∀ b, h b = lkp ws b) → va_P D clsL ws H → va_D A ws → va_S A s.heap H locs → cells + kc ≤ R.cells → slots + ks ≤ R.slots →
      W p l e R s m args below meth c H locs cells slots (vx_MQ below (QcO D A Φ) (XcO D A Φ) args s R.cells R.slots A) (F0 m pc ls st)
theorem sx_len {ig : Instr} {len pc : Nat} {lv : Lv} {st : List Value} {r : Nat × Lv × List Value} (hs : sx ig len pc lv st = some r) : r.2.1.length = lv.length := by
  unfold sx at hs
  split at hs
  all_goals first | (cases hs; done) | (injection hs with hs; subst hs; simp [stl_len]; done) | (split at hs <;> first | (cases hs; done) | (injection hs with hs; subst hs; simp [stl_len]; done))
end
section
/-! the cases of am_h, am_d, am_e are sound -/
theorem tblG_in {i : Nat} {w : Cond} (h : tables_1[i]? = some w) (hg : goodWord w = true) : w ∈ tblG := List.mem_filter.mpr ⟨List.mem_append_right _ (List.mem_of_getElem? h), hg⟩
theorem arC0 : Cond.arrayClass .int ∈ tblG := tblG_in (i := 128) (by decide +kernel) (by decide +kernel)
theorem arC2 : Cond.arrayClass .boolean ∈ tblG := tblG_in (i := 129) (by decide +kernel) (by decide +kernel)
theorem arC1 : Cond.arrayClass .long ∈ tblG := tblG_in (i := 275) (by decide +kernel) (by decide +kernel)
theorem arC3 : Cond.arrayClass .byte ∈ tblG := tblG_in (i := 502) (by decide +kernel) (by decide +kernel)
section HS
variable {D : va_G} {ar : Nat → ClassId} {ro : Nat → Option (Nat × (Nat → Int32))} {sa sv : Nat → Nat} {l : Launch}
variable {p : Program} {e : Env} {R : Room} {s : State} {m : MethodId} {args : Array Value} {below : List Frame} {meth : Method} {c : Code} {A : Nat → Prop} {M : Mth} {d : Nat}
variable {H : Heap} {locs : List Loc} {cells slots : Nat} {ls : Array Slot} {ws : va_W} {pc : Nat} {lv : Lv} {st : List Value} {h : Hp} {kc ks : Nat} {Φ : Ou → Hp → Prop} {S : Cd → Prop} {ig : Instr} {len : Nat}
theorem rel_set {q0 a : Nat} {e0 e' : va_E} (hh : ∀ b, h b = lkp ws b) (hD : va_D A ws) (he : ws[q0]? = some (a, e0)) (hD' : va_D A (ws.set q0 (a, e'))) : ∀ b, hset h a e' b = lkp (ws.set q0 (a, e')) b := by
  intro b
  rw [lkp_set hD he hD', hset, hh b]
theorem rel_push {q : Nat} {e' : va_E} (hh : ∀ b, h b = lkp ws b) (hD : va_D A ws) (hD' : va_D A (ws ++ [(q, e')])) : h q = none ∧ ∀ b, hset h q e' b = lkp (ws ++ [(q, e')]) b := by
  obtain ⟨h1, h2⟩ := lkp_push hD hD'
  exact ⟨by rw [hh]; exact h1, fun b => by rw [h2, hset, hh b]⟩
theorem arr_same {cA : ClassId} {t : Nat} (ht : t ≤ 8) (hK : va_K D clsL (tysA ar ++ [(cA, tyN t)]) s) : cA = ar t := by
  have e1 := (hK.2 t (ar t, tyN t) (by rw [List.getElem?_append_left (by simp [tysA]; omega)]; exact tysA_at ar ht)).2
  have e2 := (hK.2 9 (cA, tyN t) (by simp [tysA])).2
  have key : ∀ ty : FieldType, va_RA s (ar t) ty → va_RA s cA ty → cA = ar t := by
    intro ty a1 a2
    cases ty with
    | object C =>
      obtain ⟨_, _, _, _, _, z1⟩ := a1
      obtain ⟨_, _, _, _, _, z2⟩ := a2
      rw [z1] at z2; cases z2; rfl
    | _ =>
      have z1 : s.vm.findClass _ = some (ar t) := a1
      have z2 : s.vm.findClass _ = some cA := a2
      rw [z1] at z2; cases z2; rfl
  exact key _ e1 e2
set_option maxHeartbeats 4000000 in
theorem ah_sound (hc : Cx D ar ro sa sv p l R s m args meth c A M d) (hd : decode (mb M) pc = .ok (ig, len)) (hF : am_h ar ro S M d ig len pc lv st h kc ks Φ) (hS : ∀ q, S q → Sd D ar ro sa sv l q)
    (hl : lr ls lv) (hn : lv.length = ml M) (hh : ∀ b, h b = lkp ws b) (hP : va_P D clsL ws H) (hD : va_D A ws) (hs : va_S A s.heap H locs) (h1 : cells + kc ≤ R.cells) (h2 : slots + ks ≤ R.slots) :
    W p l e R s m args below meth c H locs cells slots (vx_MQ below (QcO D A Φ) (XcO D A Φ) args s R.cells R.slots A) (F0 m pc ls st) := by
  have hc0 := hc
  obtain ⟨hx, hb, hml, hown, hts, hG, hA, hr, hlk, htab, hnm, hRf, hRl, htr⟩ := hc0
  have hK := hG.2.1
  have go : ∀ {pc' : Nat} {lv' : Lv} {st' : List Value} {h' : Hp} {kc' ks' : Nat} {H' : Heap} {locs' : List Loc} {cells' slots' : Nat} {ls' : Array Slot} {ws' : va_W}, S (M, d, (pc', lv', st', h', kc', ks'), Φ) → lr ls' lv' → lv'.length = ml M → (∀ b, h' b = lkp ws' b) → va_P D clsL ws' H' → va_D A ws' → va_S A s.heap H' locs' → cells' + kc' ≤ R.cells → slots' + ks' ≤ R.slots → W p l e R s m args below meth c H' locs' cells' slots' (vx_MQ below (QcO D A Φ) (XcO D A Φ) args s R.cells R.slots A) (F0 m pc' ls' st') :=
    fun hq a1 a2 a3 a4 a5 a6 a7 a8 => hS _ hq p e R s m args below meth c A hc _ _ _ _ _ _ a1 a2 a3 a4 a5 a6 a7 a8
  have find : ∀ {a : Nat} {x : va_E}, h a = some x → ∃ k : Nat, ws[k]? = some (a, x) := fun q => lkp_at (by rw [← hh]; exact q)
  unfold am_h at hF
  split at hF
  · obtain ⟨ci, k, fs, v, ⟨C, T, N, g1, g2, g3, g4⟩, ha, hv, hq⟩ := hF
    obtain ⟨q0, he⟩ := find ha
    exact va_get hx hb hts g3 hown hK hP q0 he g1 k g2 (hts _ g4) (fun _ z => z) hv hd (go hq hl hn hh hP hD hs h1 h2)
  · obtain ⟨ci, k, fs, fin, ty, ⟨C, T, N, ty0, g1, g2, g3, g4, g5, g6, g7, g8, g9⟩, ha, hkl, hnr, hft, hfi, hq⟩ := hF
    obtain ⟨q0, he⟩ := find ha
    cases fin with
    | false => exact va_put hx hb hts g3 ty0 g5 g6 hown hK hP hD hs q0 he g1 k g2 (hts _ g4) (fun _ z => z) g7 g8 hnr hft hkl hd (fun H1 locs1 hP1 hD1 hS1 => go hq hl hn (rel_set hh hD he hD1) hP1 hD1 hS1 h1 h2)
    | true => exact va_putF hx hb hts g3 ty0 g5 g6 hown hK hP hD hs q0 he g1 k g2 (hts _ g4) (fun _ z => z) g7 (by rw [hnm]; exact hfi rfl) (g9 rfl) g8 hnr hft hkl hd (fun H1 locs1 hP1 hD1 hS1 => go hq hl hn (rel_set hh hD he hD1) hP1 hD1 hS1 h1 h2)
  · rcases hF with ⟨n, f, ha, hi, hq⟩ | ⟨n, f, ha, hi, hq⟩
    · obtain ⟨q0, he⟩ := find ha
      exact va_iald hx hb hK hP q0 0 he (tysA_at ar (by omega)) hi hd (go hq hl hn hh hP hD hs h1 h2)
    · obtain ⟨x1, x2, x3⟩ := hG.2.2.2.2.2.2.2.2 _ n f ha
      exact va_sld hx hb x1 x2 x3 hs hi hd (go hq hl hn hh hP hD hs h1 h2)
  · obtain ⟨n, f, ha, hi, hq⟩ := hF
    obtain ⟨q0, he⟩ := find ha
    exact va_lald hx hb hK hP q0 1 he (tysA_at ar (by omega)) hi hd (go hq hl hn hh hP hD hs h1 h2)
  · obtain ⟨t, n, f, ht, ha, hi, hq⟩ := hF
    obtain ⟨q0, he⟩ := find ha
    rcases ht with rfl | rfl
    · exact va_zald hx hb hK hP q0 2 he (tysA_at ar (by omega)) hi hd (go hq hl hn hh hP hD hs h1 h2)
    · exact va_bald hx hb hK hP q0 3 he (tysA_at ar (by omega)) hi hd (go hq hl hn hh hP hD hs h1 h2)
  · obtain ⟨t, n, f, t1, t2, ha, hi, hq⟩ := hF
    obtain ⟨q0, he⟩ := find ha
    have hto : ∃ C, tyN t = .object C := by
      rcases (show t = 4 ∨ t = 5 ∨ t = 6 ∨ t = 7 ∨ t = 8 by omega) with rfl | rfl | rfl | rfl | rfl <;> exact ⟨_, rfl⟩
    obtain ⟨C, hC⟩ := hto
    exact va_aldq hx hb hK hP q0 t he (by rw [tysA_at ar t2, hC]) hi hd (go hq hl hn hh hP hD hs h1 h2)
  · obtain ⟨n, f, ha, hi, hq⟩ := hF
    obtain ⟨q0, he⟩ := find ha
    exact va_iast hx hb hK hP hD hs q0 0 he (tysA_at ar (by omega)) hi hd (fun H1 locs1 hP1 hD1 hS1 => go hq hl hn (rel_set hh hD he hD1) hP1 hD1 hS1 h1 h2)
  · obtain ⟨n, f, ha, hi, hq⟩ := hF
    obtain ⟨q0, he⟩ := find ha
    exact va_last hx hb hK hP hD hs q0 1 he (tysA_at ar (by omega)) hi hd (fun H1 locs1 hP1 hD1 hS1 => go hq hl hn (rel_set hh hD he hD1) hP1 hD1 hS1 h1 h2)
  · obtain ⟨t, n, f, ht, ha, hi, hq⟩ := hF
    obtain ⟨q0, he⟩ := find ha
    rcases ht with rfl | rfl
    · exact va_zast hx hb hK hP hD hs q0 2 he (tysA_at ar (by omega)) hi hd (fun H1 locs1 hP1 hD1 hS1 => go hq hl hn (rel_set hh hD he hD1) hP1 hD1 hS1 h1 h2)
    · exact va_bast hx hb hK hP hD hs q0 3 he (tysA_at ar (by omega)) hi hd (fun H1 locs1 hP1 hD1 hS1 => go hq hl hn (rel_set hh hD he hD1) hP1 hD1 hS1 h1 h2)
  · obtain ⟨t, n, ci, f, vs, r, t1, t2, ha, hv, hcl, hty, hi, hq⟩ := hF
    obtain ⟨q0, he⟩ := find ha
    obtain ⟨qk, hek⟩ := find hv
    exact va_astq hx hb hK hP hD hs q0 t qk ci he (by rw [tysA_at ar t2, hty]) hek hcl hi hd (fun H1 locs1 hP1 hD1 hS1 => go hq hl hn (rel_set hh hD he hD1) hP1 hD1 hS1 h1 h2)
  · rcases hF with ⟨t, x, t2, ha, hq⟩ | ⟨n, f, ha, hq⟩
    · obtain ⟨q0, he⟩ := find ha
      exact va_alen hx hb hK hP q0 t he (tysA_at ar t2) rfl hd (go hq hl hn hh hP hD hs h1 h2)
    · obtain ⟨x1, x2, x3⟩ := hG.2.2.2.2.2.2.2.2 _ n f ha
      exact va_slen hx hb x1 x2 x3 hs hd (go hq hl hn hh hP hD hs h1 h2)
  · obtain ⟨ci, fs, ⟨C, T, N, ty, g1, g3, g5, g6, g7, g8, g9, g10⟩, hk1, hk2, hq⟩ := hF
    subst g10
    exact va_new hx hb hts g3 ty g5 hown (hts _ g6) (hts _ g7) (hts _ g8) hK hP hD hs hA g1 g9 (by omega) (by omega) hd (fun q H1 hP1 hD1 hS1 => go (hq q (rel_push hh hD hD1).1) hl hn (rel_push hh hD hD1).2 hP1 hD1 hS1 (by omega) (by omega))
  · rename_i n st0
    obtain ⟨hn0, hn1, hk1, hk2, hq⟩ := hF
    refine va_newa (atype := .int) (N' := n.toNatClampNeg) hx hb (hts _ arC0) (ty := .int) rfl hK hP hD hs hA (a0 := (n.toNatClampNeg, .inl (fun _ => 0))) (fun _ => rfl) hn0 rfl (by show _ * 4 ≤ _; omega) (by omega) (by omega) hd (fun q cA H1 hK1 hP1 hD1 hS1 => ?_)
    obtain rfl : cA = ar 0 := arr_same (t := 0) (by omega) hK1
    exact go (hq q (rel_push hh hD hD1).1) hl hn (rel_push hh hD hD1).2 hP1 hD1 hS1 (by omega) (by omega)
  · rename_i n st0
    obtain ⟨hn0, hn1, hk1, hk2, hq⟩ := hF
    refine va_newa (atype := .long) (N' := n.toNatClampNeg) hx hb (hts _ arC1) (ty := .long) rfl hK hP hD hs hA (a0 := (n.toNatClampNeg, .inr (.inl (fun _ => 0)))) (fun _ => rfl) hn0 rfl (by show _ * 8 ≤ _; omega) (by omega) (by omega) hd (fun q cA H1 hK1 hP1 hD1 hS1 => ?_)
    obtain rfl : cA = ar 1 := arr_same (t := 1) (by omega) hK1
    exact go (hq q (rel_push hh hD hD1).1) hl hn (rel_push hh hD hD1).2 hP1 hD1 hS1 (by omega) (by omega)
  · rename_i n st0
    obtain ⟨hn0, hn1, hk1, hk2, hq⟩ := hF
    refine va_newa (atype := .boolean) (N' := n.toNatClampNeg) hx hb (hts _ arC2) (ty := .boolean) rfl hK hP hD hs hA (a0 := (n.toNatClampNeg, .inl (fun _ => 0))) (fun _ => rfl) hn0 rfl (by show _ * 1 ≤ _; omega) (by omega) (by omega) hd (fun q cA H1 hK1 hP1 hD1 hS1 => ?_)
    obtain rfl : cA = ar 2 := arr_same (t := 2) (by omega) hK1
    exact go (hq q (rel_push hh hD hD1).1) hl hn (rel_push hh hD hD1).2 hP1 hD1 hS1 (by omega) (by omega)
  · rename_i n st0
    obtain ⟨hn0, hn1, hk1, hk2, hq⟩ := hF
    refine va_newa (atype := .byte) (N' := n.toNatClampNeg) hx hb (hts _ arC3) (ty := .byte) rfl hK hP hD hs hA (a0 := (n.toNatClampNeg, .inl (fun _ => 0))) (fun _ => rfl) hn0 rfl (by show _ * 1 ≤ _; omega) (by omega) (by omega) hd (fun q cA H1 hK1 hP1 hD1 hS1 => ?_)
    obtain rfl : cA = ar 3 := arr_same (t := 3) (by omega) hK1
    exact go (hq q (rel_push hh hD hD1).1) hl hn (rel_push hh hD hD1).2 hP1 hD1 hS1 (by omega) (by omega)
  · obtain ⟨t, C, t1, t2, hC, hcl, hov, hn0, hn1, hk1, hk2, hq⟩ := hF
    refine va_newq hx hb hown (hts _ hcl) (hG.1 _ hov) hK hP hD hs hA hn0 rfl (by omega) (by omega) (by omega) hd (fun q cA H1 hK1 hP1 hD1 hS1 => ?_)
    rw [← hC] at hK1
    obtain rfl : cA = ar t := arr_same t2 hK1
    exact go (hq q (rel_push hh hD hD1).1) hl hn (rel_push hh hD hD1).2 hP1 hD1 hS1 (by omega) (by omega)
  · exact hF.elim
end HS
end
section
/-! am_d, am_e, am_j -/
section DS
variable {D : va_G} {ar : Nat → ClassId} {ro : Nat → Option (Nat × (Nat → Int32))} {sa sv : Nat → Nat} {l : Launch}
variable {p : Program} {e : Env} {R : Room} {s : State} {m : MethodId} {args : Array Value} {below : List Frame} {meth : Method} {c : Code} {A : Nat → Prop} {M : Mth} {d : Nat}
variable {H : Heap} {locs : List Loc} {cells slots : Nat} {ls : Array Slot} {ws : va_W} {pc : Nat} {lv : Lv} {st : List Value} {h : Hp} {kc ks : Nat} {Φ : Ou → Hp → Prop} {S : Cd → Prop} {ig : Instr} {len : Nat}
theorem ldcw_str {cc : ByteArray} {Q : State → Prop} {rest : List Value} (hexec : p.tables.exec = Jvm.exec) (hb : c.code = cc) {own tx : String} {index q : Nat} (hown : s.vm.findClass own = some m.cls) (hZ : vk_R own index tx q s) (hdg : decode cc pc = .ok (.ldc_w index, 3))
    (k : W p l e R s m args below meth c H locs cells slots Q (F0 m (pc + 3) ls (.ref q :: rest))) : W p l e R s m args below meth c H locs cells slots Q (F0 m pc ls rest) := by
  intro T hT X
  obtain ⟨t, a1, b1⟩ := k T hT X
  refine ⟨t, ?_, b1⟩
  have hdg : decode c.code pc = .ok (.ldc_w index, 3) := by rw [hb]; exact hdg
  obtain ⟨k, cf, i, a', hk, hcf, hcp, -, hr, hev'⟩ := Cond.stringRef_spec hown hZ.1
  cases hZ.2.symm.trans hev'
  obtain ⟨k', hk', he⟩ := X.warmed.alike.2.2 _ _ hk
  have hr' : k'.resolved[index]? = some (some (.string q)) := by
    rcases X.warmed.entry hk hk' index with h | ⟨h, -⟩
    · rw [h]; exact hr
    · rw [hr] at h; cases h
  jvm_step X.here [hexec, hdg, ldc_w.wp_string (e := e) (s := T) (f := F0 m pc ls rest) X.here.top hk' (by rw [he]; exact hcf) hcp hr']
  exact a1
set_option maxHeartbeats 4000000 in
theorem ad_sound (hc : Cx D ar ro sa sv p l R s m args meth c A M d) (hd : decode (mb M) pc = .ok (ig, len)) (hF : am_d sa S M d ig len pc lv st h kc ks Φ) (hS : ∀ q, S q → Sd D ar ro sa sv l q)
    (hl : lr ls lv) (hn : lv.length = ml M) (hh : ∀ b, h b = lkp ws b) (hP : va_P D clsL ws H) (hD : va_D A ws) (hs : va_S A s.heap H locs) (h1 : cells + kc ≤ R.cells) (h2 : slots + ks ≤ R.slots) :
    W p l e R s m args below meth c H locs cells slots (vx_MQ below (QcO D A Φ) (XcO D A Φ) args s R.cells R.slots A) (F0 m pc ls st) := by
  have hc0 := hc
  obtain ⟨hx, hb, hml, hown, hts, hG, hA, hr, hlk, htab, hnm, hRf, hRl, htr⟩ := hc0
  have go : ∀ {pc' : Nat} {st' : List Value}, S (M, d, (pc', lv, st', h, kc, ks), Φ) → W p l e R s m args below meth c H locs cells slots (vx_MQ below (QcO D A Φ) (XcO D A Φ) args s R.cells R.slots A) (F0 m pc' ls st') :=
    fun hq => hS _ hq p e R s m args below meth c A hc _ _ _ _ _ _ hl hn hh hP hD hs h1 h2
  unfold am_d at hF
  split at hF
  · exact lv_idiv hx hb hd hF.1 (go hF.2)
  · exact lv_irem hx hb hd hF.1 (go hF.2)
  · exact lv_ldiv hx hb hd hF.1 (go hF.2)
  · rcases hF with ⟨v, g1, hq⟩ | ⟨j, tx, g1, hq⟩
    · exact lv_ldc hx hb hown (hts _ g1) hd (go hq)
    · exact va_ldcS hx hb hown (hG.2.2.2.2.2.2.1 j _ _ _ g1) hd (go hq)
  · rcases hF with ⟨v, g1, hq⟩ | ⟨j, tx, g1, hq⟩
    · exact lv_ldcw hx hb hown (hts _ g1) hd (go hq)
    · exact ldcw_str hx hb hown (hG.2.2.2.2.2.2.1 j _ _ _ g1) hd (go hq)
  · obtain ⟨v, g1, hq⟩ := hF
    exact lv_ldc2 hx hb hown (hts _ g1) hd (go hq)
  · obtain ⟨g1, g2, hq⟩ := hF
    exact lv_lookup hx hb hd g1 rfl (tgt_ok g2) (go hq)
  · obtain ⟨g1, g2⟩ := hF
    rename_i df lo hi offs x st0
    by_cases c1 : x.toInt < lo
    · exact lv_tableOut hx hb hd (Or.inl c1) (tgt_ok (g1 (Or.inl c1)).1) (go (g1 (Or.inl c1)).2)
    · by_cases c2 : hi < x.toInt
      · exact lv_tableOut hx hb hd (Or.inr c2) (tgt_ok (g1 (Or.inr c2)).1) (go (g1 (Or.inr c2)).2)
      · obtain ⟨off, f1, f2, hq⟩ := g2 c1 c2
        exact lv_tableIn hx hb hd c1 c2 f1 (tgt_ok f2) (go hq)
  · exact hF.elim
theorem ww_ret {t : State} (hh : ∀ b, h b = lkp ws b) (hP : va_P D clsL ws H) (hD : va_D A ws) (hs : va_S A s.heap H locs) (ht : t.heap = H) : Ww D A h ws s t := ⟨hh, by rw [ht]; exact hP, hD, hs.F ht⟩
theorem ww_thr {t : State} (hh : ∀ b, h b = lkp ws b) (hP : va_P D clsL ws H) (hD : va_D A ws) (hs : va_S A s.heap H locs) (hz : H.size ≤ t.heap.size) (hk : ∀ q : Nat, q < H.size → t.heap[q]? = H[q]?) : Ww D A h ws s t := by
  refine ⟨hh, fun k q hq => (hP k q hq).kept (hk q.1 ((hP k q hq).lt)), hD, Nat.le_trans hs.1 hz, fun q a1 a2 => ?_⟩
  rw [hk q (Nat.lt_of_lt_of_le a1 hs.1)]
  exact hs.2.1 q a1 a2
theorem exL_use {w : Cond} (hw : w ∈ exL) (h : va_Nw w s) : w.before args s = true := by
  rcases exL_kind hw with ⟨a, b, c, d, rfl⟩ | ⟨a, b, rfl⟩ | ⟨C, rfl⟩ | ⟨x, rfl⟩ | ⟨x, b, n, r, rfl⟩
  · exact h.use rfl
  · exact h.use rfl
  · exact va_AO.use h
  · exact h.use rfl
  · exact codeSync_warm (State.WarmedH.refl s) h
set_option maxHeartbeats 4000000 in
theorem ae_sound (hc : Cx D ar ro sa sv p l R s m args meth c A M d) (hd : decode (mb M) pc = .ok (ig, len)) (hF : am_e M ig len pc st h kc ks Φ)
    (hl : lr ls lv) (hn : lv.length = ml M) (hh : ∀ b, h b = lkp ws b) (hP : va_P D clsL ws H) (hD : va_D A ws) (hs : va_S A s.heap H locs) (h1 : cells + kc ≤ R.cells) (h2 : slots + ks ≤ R.slots) :
    W p l e R s m args below meth c H locs cells slots (vx_MQ below (QcO D A Φ) (XcO D A Φ) args s R.cells R.slots A) (F0 m pc ls st) := by
  obtain ⟨hx, hb, hml, hown, hts, hG, hA, hr, hlk, htab, hnm, hRf, hRl, htr⟩ := hc
  unfold am_e at hF
  split at hF
  · obtain ⟨g1, hq⟩ := hF
    refine W.widen (k := R.cells) (n := R.slots) (by omega) (by omega) (vx_ret ?_)
    rcases g1 with g1 | ⟨g1, g2⟩
    · exact W.iret hx hb (hr.trans g1) (fun t ht _ => ⟨_, h, ws, rfl, hq, ww_ret hh hP hD hs ht⟩) hs.2.2 hd
    · exact W.zret hx hb (hr.trans g1) g2 (fun t ht _ => ⟨_, h, ws, rfl, hq, ww_ret hh hP hD hs ht⟩) hs.2.2 hd
  · obtain ⟨g1, hq⟩ := hF
    refine W.widen (k := R.cells) (n := R.slots) (by omega) (by omega) (vx_ret ?_)
    exact W.lret hx hb (hr.trans g1) (fun t ht _ => ⟨_, h, ws, rfl, hq, ww_ret hh hP hD hs ht⟩) hs.2.2 hd
  · obtain ⟨g1, hq⟩ := hF
    refine W.widen (k := R.cells) (n := R.slots) (by omega) (by omega) (vx_ret ?_)
    exact W.vret hx hb (hr.trans g1) (fun t ht _ => ⟨_, h, ws, rfl, hq, ww_ret hh hP hD hs ht⟩) hs.2.2 hd
  · obtain ⟨ic, E, names, g0, g1, g2, g3, g4, g5, e3, e4, e7, g6, g7, g8, g9, hq⟩ := hF
    refine vx_throw0 (A := A) (names := names) hx hb htr hown g1 g2 (hts _ g3) (hts _ g4) (fun w hw => ?_) (fun w hw => ?_) hG.2.2.2.1 hG.2.2.2.2.1 hs (by rw [hl.1, hn, hml]) hd e3 e4 e7 (fun x hx => ?_) (by omega) (by omega) (by omega) (by omega) hlk (fun t _ hz hk => ⟨h, ws, hq, ww_thr hh hP hD hs hz hk⟩) hs.2.2 (by omega) (by omega)
    · rcases (g5 w hw).1 with z | z
      · exact hts _ z
      · exact exL_use z (hG.1 w z)
    · rcases List.mem_cons.mp hw with rfl | hw
      · rfl
      · rcases List.mem_cons.mp hw with rfl | hw
        · rfl
        · exact (g5 w hw).2
    · rw [htab, g0] at hx; cases hx
  · exact hF.elim
set_option maxHeartbeats 4000000 in
theorem aj_sound (hc : Cx D ar ro sa sv p l R s m args meth c A M d) (hd : decode (mb M) pc = .ok (ig, len)) (hF : am_j ar sa S M d ig len pc lv st h kc ks Φ) (hS : ∀ q, S q → Sd D ar ro sa sv l q)
    (hl : lr ls lv) (hn : lv.length = ml M) (hh : ∀ b, h b = lkp ws b) (hP : va_P D clsL ws H) (hD : va_D A ws) (hs : va_S A s.heap H locs) (h1 : cells + kc ≤ R.cells) (h2 : slots + ks ≤ R.slots) :
    W p l e R s m args below meth c H locs cells slots (vx_MQ below (QcO D A Φ) (XcO D A Φ) args s R.cells R.slots A) (F0 m pc ls st) := by
  have hc0 := hc
  obtain ⟨hx, hb, hml, hown, hts, hG, hA, hr, hlk, htab, hnm, hRf, hRl, htr⟩ := hc0
  have hK := hG.2.1
  have go : ∀ {pc' : Nat} {st' : List Value} {h' : Hp} {H' : Heap} {locs' : List Loc} {ws' : va_W}, S (M, d, (pc', lv, st', h', kc, ks), Φ) → (∀ b, h' b = lkp ws' b) → va_P D clsL ws' H' → va_D A ws' → va_S A s.heap H' locs' → W p l e R s m args below meth c H' locs' cells slots (vx_MQ below (QcO D A Φ) (XcO D A Φ) args s R.cells R.slots A) (F0 m pc' ls st') :=
    fun hq a3 a4 a5 a6 => hS _ hq p e R s m args below meth c A hc _ _ _ _ _ _ hl hn a3 a4 a5 a6 h1 h2
  have find : ∀ {a : Nat} {x : va_E}, h a = some x → ∃ k : Nat, ws[k]? = some (a, x) := fun q => lkp_at (by rw [← hh]; exact q)
  unfold am_j at hF
  split at hF
  · rename_i i0 a0 st0
    obtain ⟨g1, g2, g3, g4, hq⟩ := hF
    refine W.objInit hx hb hown (hts _ g1) (hts _ g2) (hts _ g3) rfl (by rw [hml]; exact hl.1.trans hn) rfl hd (by omega) ?_ (W.eq rfl (go hq hh hP hD hs))
    have := lv_room (m := m) (pc := pc) (ls := ls) (rest := .ref a0 :: st0) g4
    omega
  · obtain ⟨g1, g2, g3, g4, g5, z1, z2, z3, t, n0, n1, f, g, ht, ha, hb2, i1, i2, hft, hq⟩ := hF
    obtain ⟨q0, he⟩ := find ha
    obtain ⟨q1, he1⟩ := find hb2
    have ht8 : t ≤ 8 := by omega
    refine va_copyi hx hb (by rw [hml]; exact (hl.1.trans hn).symm) hown (hts _ g1) (hts _ g2) (hts _ g3) (hts _ g4) hK hP hD hs q0 q1 t t he he1 (tysA_at ar ht8) (tysA_at ar ht8) (by rcases ht with rfl | rfl <;> rfl) z1 z2 z3 i1 i2 hft (by omega) ?_ hd (fun H1 locs1 hP1 hD1 hS1 => go hq (rel_set hh hD he1 hD1) hP1 hD1 hS1)
    have : nativeFrameWords "java/lang/System" "arraycopy" 5 ≤ 100 := by decide +kernel
    omega
  · rcases hF with ⟨g1, g2, g3, g4, g5, hq⟩ | ⟨g1, g2, g3, g4, g5, hq⟩
    · exact va_mmax hx hb (by rw [hml]; exact (hl.1.trans hn).symm) hown (hts _ g1) (hts _ g2) (hts _ g3) (hts _ g4) (by omega) (by omega) (by omega) (by omega) hd (go hq hh hP hD hs)
    · exact va_mmin hx hb (by rw [hml]; exact (hl.1.trans hn).symm) hown (hts _ g1) (hts _ g2) (hts _ g3) (hts _ g4) (by omega) (by omega) (by omega) (by omega) hd (go hq hh hP hD hs)
  · sorry
  · sorry
  · obtain ⟨g1, g2, g3, g4, g5, hq⟩ := hF
    exact va_mabs_long hx hb (by rw [hml]; exact (hl.1.trans hn).symm) hown (hts _ g1) (hts _ g2) (hts _ g3) (hts _ g4) (by omega) (by omega) (by omega) (by omega) hd (go hq hh hP hD hs)
  · exact hF.elim
end DS
end
section
/-! calls are sound; WP is sound -/
section CS
variable {D : va_G} {ar : Nat → ClassId} {ro : Nat → Option (Nat × (Nat → Int32))} {sa sv : Nat → Nat} {l : Launch}
abbrev rmD (d mc ms : Nat) : Room := { frames := d + 8, cells := mc, slots := ms, locals := 80 * d + 160 }
def entL (av : List Value) (n : Nat) : Lv := (lg_sl av ++ List.replicate (n - (lg_sl av).length) Slot.unset).map (fun z => match z with | .val v => some v | _ => none)
def PcM (D : va_G) (ar : Nat → ClassId) (ro : Nat → Option (Nat × (Nat → Int32))) (sa sv : Nat → Nat) (av : List Value) (ws : va_W) (sz : Nat) : Array Value → State → Prop := fun a U => a = av.toArray ∧ U.heap.size = sz ∧ va_P D clsL ws U.heap ∧ va_D (fun _ => True) ws ∧ Gw D ar ro sa sv U U.heap (va_A ws sz)
theorem entL_lr {av : List Value} {n : Nat} (h : (lg_sl av).length ≤ n) : lr ((lg_sl av ++ List.replicate (n - (lg_sl av).length) Slot.unset).toArray) (entL av n) := by
  have h0 := lv_entry av h
  refine ⟨by simp [entL], h0.2.1, fun i v hv => ?_⟩
  simp only [entL, ldl, List.getElem?_map] at hv
  rw [List.getElem?_toArray]
  cases e : (lg_sl av ++ List.replicate (n - (lg_sl av).length) Slot.unset)[i]? with
  | none => rw [e] at hv; cases hv
  | some z =>
    rw [e] at hv
    cases z with
    | val w => cases hv; rfl
    | second => cases hv
    | unset => cases hv
theorem entL_len {av : List Value} {n : Nat} (h : (lg_sl av).length ≤ n) : (entL av n).length = n := by simp [entL]; omega
theorem good_tbl : GoodIn tblG tblG := fun w hw => ⟨hw, good_of_word (List.mem_filter.mp hw).2⟩
theorem good_cons {w : Cond} (hw : w ∈ tblG) : GoodIn tblG (w :: tblG) := fun x hx => (List.mem_cons.mp hx).elim (fun q => by rw [q]; exact good_tbl w hw) (good_tbl x)
set_option maxHeartbeats 4000000 in
theorem met_of (htr : l.stackTraces = false) {M : Mth} {d n mc ms : Nat} {av : List Value} {h : Hp} {Ψ : Ou → Hp → Prop} (hM : MOk M n) (hal : (lg_sl av).length ≤ ml M) (hq : Sd D ar ro sa sv l (M, d, (0, entL av (ml M), [], h, mc, ms), Ψ)) (ws : va_W) (sz : Nat) (hh : ∀ b, h b = lkp ws b) :
    vx_Met l (my M) (mw M :: tblG) (rmD d mc ms) (PcM D ar ro sa sv av ws sz) (QcO D (va_A ws sz) Ψ) (XcO D (va_A ws sz) Ψ) mc ms (va_A ws sz) := by
  obtain ⟨m1, m2, m3, m4, m5, m6, m7⟩ := hM
  have main : ∀ (p : Program) (e : Env) (s : State) (m : MethodId) (args : Array Value) (below : List Frame) (meth : Method) (c : Code), p.tables.exec = Jvm.exec → c.code = mb M → c.maxLocals = ml M → s.vm.findClass (my M).cls = some m.cls → (∀ w ∈ tblG, w.before args s = true) → meth.sig.returnType = mr M → meth.locks = false → c.exceptionTable.toList = tableOf (mh M) → meth.name = (my M).name → PcM D ar ro sa sv av ws sz args s →
      W p l e (rmD d mc ms) s m args below meth c s.heap [] 0 0 (vx_MQ below (QcO D (va_A ws sz) Ψ) (XcO D (va_A ws sz) Ψ) args s mc ms (va_A ws sz)) (entryFrame m args (ml M)) := by
    intro p e s m args below meth c a1 a2 a3 a4 a5 a6 a7 a8 a9 hp
    obtain ⟨rfl, hsz, hP, hD, hG⟩ := hp
    subst hsz
    rw [lg_entry_eq]
    exact hq p e (rmD d mc ms) s m _ below meth c (va_A ws s.heap.size) ⟨a1, a2, a3, by rw [← m1]; exact a4, a5, hG, fun q z => Or.inr z, a6, a7, a8, a9, Nat.le_refl _, Nat.le_refl _, htr⟩ s.heap [] 0 0 _ ws (entL_lr hal) (entL_len hal) hh hP hD.self va_S.rf (by simp) (by simp)
  cases hmh : mh M with
  | nil =>
    have hw : mw M = Cond.code (my M) (mb M) (ml M) (mr M) := by simp only [mw, hmh]
    rw [hw]
    refine vx_ofW (cc := mb M) (maxL := ml M) (ret := mr M) m2 rfl ?_
    intro p e s m args below meth c s₁ B hml ht hPc
    have hts := atoms_spec (ws := Cond.code (my M) (mb M) (ml M) (mr M) :: tblG) B.pre
    refine main p e s m args below meth c B.exec B.bytes hml (findClass_of_methodNamed B.named) (fun w hw => hts w (List.mem_cons_of_mem _ hw)) B.returns B.notSynchronized ?_ (name_of_methodNamed B.named B.method).1 hPc
    rw [hmh]
    exact List.eq_nil_iff_forall_not_mem.mpr (fun x hx => ht x hx)
  | cons x t =>
    have hw : mw M = Cond.codeWith (my M) (mb M) (ml M) (mr M) (x :: t) := by simp only [mw, hmh]
    rw [hw]
    refine vx_ofWH (cc := mb M) (maxL := ml M) (ret := mr M) (hh := x :: t) m2 rfl ?_
    intro p e s m args below meth c s₁ B hml hPc
    have hts := atoms_spec (ws := Cond.codeWith (my M) (mb M) (ml M) (mr M) (x :: t) :: tblG) B.pre
    refine main p e s m args below meth c B.exec B.bytes hml (findClass_of_methodNamed B.named) (fun w hw => hts w (List.mem_cons_of_mem _ hw)) B.returns B.notSynchronized ?_ (name_of_methodNamed B.named B.method).1 hPc
    rw [hmh]
    exact vx_table (x := my M) B (hts _ List.mem_cons_self)
theorem met_plain {y : MethodName} {ws : List Cond} {rm : Room} {Pc : Array Value → State → Prop} {Qc : Array Value → State → Outcome → State → Prop} {XC : String → State → State → Prop} {mc ms : Nat} {free : Addr → Prop} (hM : vx_Met l y ws rm Pc Qc XC mc ms free) (hX : ∀ E st t, ¬ XC E st t) : Met l y ws rm Pc Qc mc ms free := by
  intro p e a1 a2 a3 s m args below a4 a5 a6 a7
  obtain ⟨n, o, b1, b2, b3, b4⟩ := hM p e a1 a2 a3 s m args below a4 a5 a6 a7
  refine ⟨n, o, b1, b2, b3, ?_⟩
  rcases b4 with b4 | ⟨q, -, E, ce, L, hx, -⟩
  · exact b4
  · exact (hX _ _ _ hx).elim
variable {p : Program} {e : Env} {R : Room} {s : State} {m : MethodId} {args : Array Value} {below : List Frame} {meth : Method} {c : Code} {A : Nat → Prop} {M : Mth} {d : Nat}
variable {H : Heap} {locs : List Loc} {cells slots : Nat} {ls : Array Slot} {ws : va_W} {pc : Nat} {lv : Lv} {st : List Value} {h : Hp} {kc ks : Nat} {Φ : Ou → Hp → Prop} {S : Cd → Prop} {ig : Instr} {len : Nat}
theorem run_vx {mc ms : Nat} {g : JFrame} {rest : List Value} {Qa : State → Outcome → State → Prop} {XC : String → State → State → Prop} {free : Addr → Prop} (h : va_Run p l e R s m args below meth c H locs cells slots mc ms g rest Qa free) : vx_Run p l e R s m args below meth c H locs cells slots mc ms g rest Qa XC free := fun T hT X => Or.inl (h T hT X)
theorem call_W {mc ms : Nat} {st0 rest : List Value} {a : Array Value} {A1 : Nat → Prop} {Ψ : Ou → Hp → Prop} {Q : State → Prop} (hr : vx_Run p l e R s m args below meth c H locs cells slots mc ms (F0 m pc ls st0) rest (QcO D A1 Ψ a) (XcO D A1 Ψ) A1) (hS : va_S A s.heap H locs) (hA1 : ∀ q, A1 q → A q)
    (kk : ∀ (v : Option Value) (h' : Hp) (H1 : Heap) (locs1 : List Loc) (ws' : va_W), Ψ (.inl v) h' → (∀ b, h' b = lkp ws' b) → va_P D clsL ws' H1 → va_D A ws' → va_S A s.heap H1 locs1 → W p l e R s m args below meth c H1 locs1 (cells + mc) (slots + ms) Q (F0 m (pc + 3) ls (v.toList ++ rest)))
    (kx : ∀ (E : String) (h' : Hp) (H1 : Heap) (locs1 : List Loc) (ws' : va_W) (q : Addr) (ce : Cell), Ψ (.inr E) h' → (∀ b, h' b = lkp ws' b) → va_P D clsL ws' H1 → va_D A ws' → va_S A s.heap H1 locs1 → H1[q]? = some ce → ce.vm = .none → s.vm.findClass E = some ce.cls → vx_W p l e R s m args below meth c H1 locs1 (cells + mc) (slots + ms) Q (F0 m pc ls rest) q) :
    W p l e R s m args below meth c H locs cells slots Q (F0 m pc ls st0) := by
  intro T hT X
  rcases hr T hT X with ⟨v, st₀, t, T', L, h0, X', hL, e1, e2, ⟨v', h', ws', hv, hp, hb, hP1, hD1, hF⟩, st⟩ | ⟨q, st₀, t, T', L, E, ce, h0, X', hL, e1, e2, ⟨h', ws', hp, hb, hP1, hD1, hF⟩, hce, hcv, hcl, st⟩
  · cases hv
    obtain ⟨-, -, k3⟩ := vx_keep h0 e1 hS (fun q _ z => hA1 q z) hA1 hL hF
    obtain ⟨t2, a1, b1⟩ := kk v h' T'.heap (locs ++ L) ws' hp hb (by rw [e1]; exact hP1) (hD1.weaken (fun k q _ z => hA1 q.1 z)) k3 T' rfl X'
    exact ⟨t2, st t2 a1, b1⟩
  · obtain ⟨-, -, k3⟩ := vx_keep h0 e1 hS (fun q _ z => hA1 q z) hA1 hL hF
    obtain ⟨t2, a1, b1⟩ := kx E h' T'.heap (locs ++ L) ws' q ce hp hb (by rw [e1]; exact hP1) (hD1.weaken (fun k q _ z => hA1 q.1 z)) k3 (by rw [e1]; exact hce) hcv hcl T' rfl X'
    exact ⟨t2, st.trans a1, b1⟩
theorem pc_blind {av : List Value} {sz : Nat} : FrameBlind (PcM D ar ro sa sv av ws sz) := by
  intro a U g mk hp
  obtain ⟨h1, h2, h3, h4, h5⟩ := hp
  exact ⟨h1, h2, h3, h4, h5.to (U := U.calling g mk a) (H := U.heap) (State.WarmedH.refl U) (Nat.le_refl _) (fun _ _ _ => rfl) (fun _ z => z)⟩
set_option maxHeartbeats 4000000 in
theorem ac_sound (hc : Cx D ar ro sa sv p l R s m args meth c A M d) (hd : decode (mb M) pc = .ok (ig, len)) (hF : am_c S M d ig len pc lv st h kc ks Φ) (hS : ∀ q, S q → Sd D ar ro sa sv l q)
    (hl : lr ls lv) (hn : lv.length = ml M) (hh : ∀ b, h b = lkp ws b) (hP : va_P D clsL ws H) (hD : va_D A ws) (hs : va_S A s.heap H locs) (h1 : cells + kc ≤ R.cells) (h2 : slots + ks ≤ R.slots) :
    W p l e R s m args below meth c H locs cells slots (vx_MQ below (QcO D A Φ) (XcO D A Φ) args s R.cells R.slots A) (F0 m pc ls st) := by
  obtain ⟨idx, kind, d', mc, ms, M', As, rest, av, Ψ, hdd, hlen, ⟨hM, hlnk, hkind⟩, hst, hw8, hal, hmc, hms, hq, hk, hkx⟩ := hF
  subst hlen
  have hc0 := hc
  obtain ⟨hx, hb, hml, hown, hts, hG, hA, hr, hlk, htab, hnm, hRf, hRl, htr⟩ := hc0
  obtain ⟨m1, m2, m3, m4, m5, m6, m7⟩ := id hM
  have hA1 : ∀ q, va_A ws H.size q → A q := va_free (wc := ws) hD hs hA (List.range ws.length) (by
    apply List.ext_getElem? ; intro i
    simp only [List.getElem?_map, List.getElem?_range]
    rcases Nat.lt_or_ge i ws.length with q | q
    · simp [q]
    · simp [q, Nat.not_lt.mpr q])
  have hMet := met_of htr hM hal (hS _ hq) ws H.size hh
  have hGH : ∀ U : State, U.heap = H → s.WarmedH U.vm → PcM D ar ro sa sv av ws H.size av.toArray U := fun U hU hW => ⟨rfl, by rw [hU], by rw [hU]; exact hP, hD.weaken (fun _ _ _ _ => trivial), by rw [hU]; exact hG.to hW hs.1 hs.2.1 hA1⟩
  have hCF : CallFix p m c (mb M) (ml M) s args tblG (cn (mo M)) := ⟨hx, hb, hml, hown, hts⟩
  have hsz : (F0 m pc ls st).locals.size = ml M := hl.1.trans hn
  have hRoom : (rmD d' mc ms).frames + 1 ≤ R.frames ∧ 8 + (ml M' + 11) + (rmD d' mc ms).locals ≤ R.locals := ⟨by show d' + 8 + 1 ≤ _; omega, by show 8 + (ml M' + 11) + (80 * d' + 160) ≤ _; omega⟩
  have hwt : 2 * (F0 m pc ls st).monitorRoom + (rest.map fun v => v.category).sum ≤ 8 := lv_room hw8
  have hf : cells + mc ≤ R.cells ∧ slots + ms ≤ R.slots := ⟨by omega, by omega⟩
  have hdd2 : (my M').cls ≠ "java/lang/invoke/MethodHandle" ∧ (my M').cls ≠ "java/lang/invoke/VarHandle" ∧ (parseMethodDescriptor (my M').desc).map (fun d => d.parameters.length) = some As.length := ⟨m3.1, m3.2, m4⟩
  have hnone : (¬ Cond.methodLink (cn (mo M)) idx (my M') ∈ tblG ∨ kind = 2) → ∀ E st t, ¬ XcO D (va_A ws H.size) Ψ E st t := by
    rintro hz E st t ⟨h', ws', hp, -⟩
    obtain ⟨⟨y1, y2⟩, -⟩ := hkx E h' hp
    rcases hz with z | z
    · exact z y1
    · exact y2 z
  have hrun : vx_Run p l e R s m args below meth c H locs cells slots mc ms (F0 m pc ls st) rest (QcO D (va_A ws H.size) Ψ av.toArray) (XcO D (va_A ws H.size) Ψ) (va_A ws H.size) := by
    by_cases hln : Cond.methodLink (cn (mo M)) idx (my M') ∈ tblG
    · rcases hkind with ⟨k0, w1⟩ | ⟨k0, w1, w2, w3⟩ | ⟨k0, w1, w2, w3, w4⟩
      · rcases hst with ⟨-, rfl, rfl, rfl⟩ | ⟨_, _, _, _, k1, _⟩ | ⟨_, k1, _⟩
        · cases hmh : mh M' with
          | nil =>
            have hw : mw M' = Cond.code (my M') (mb M') (ml M') (mr M') := by simp only [mw, hmh]
            rw [hw] at hMet m5
            exact vx_runS hCF hMet ⟨callB_of _ hts (good_cons m5) rfl rfl rfl (hts _ m6) (hts _ hln) hdd2 hRoom, hts _ w1⟩ ⟨pc_blind, hGH⟩ rfl rfl hsz rfl hwt hd hf
          | cons x t =>
            have hw : mw M' = Cond.codeWith (my M') (mb M') (ml M') (mr M') (x :: t) := by simp only [mw, hmh]
            rw [hw] at hMet m5
            refine vx_runSX (hh := x :: t) hCF hMet ⟨⟨rfl, rfl, hRoom.1, hRoom.2, pay_in hts (good_cons m5), List.mem_cons_self⟩, hts _ m5, hts _ m6, m3, fun sig hsig => ?_, hts _ hln, hts _ w1⟩ ⟨pc_blind, hGH⟩ rfl rfl hsz rfl hwt hd hf
            rw [hsig] at m4; exact (Option.some.inj m4).symm
        · omega
        · omega
      · rcases hst with ⟨k1, _⟩ | ⟨b, ci, fs, r, -, rfl, rfl, rfl, hb2, hcl, hr1⟩ | ⟨_, k1, _⟩
        · omega
        · have hw : mw M' = Cond.code (my M') (mb M') (ml M') (mr M') := by simp only [mw, w3]
          rw [hw] at hMet m5
          obtain ⟨q0, he⟩ := lkp_at (by rw [← hh]; exact hb2)
          refine vx_runV (C := (my M').cls) hCF hMet ⟨callB_of _ hts (good_cons m5) rfl rfl rfl (hts _ m6) (hts _ hln) hdd2 hRoom, hts _ w1, hts _ w2⟩ ⟨pc_blind, ?_, hGH⟩ rfl rfl hsz rfl hwt hd hf
          rw [← hr1]
          exact va_recv hG.2.1 hP hcl he
        · omega
      · rcases hst with ⟨k1, _⟩ | ⟨_, _, _, _, k1, _⟩ | ⟨b, -, rfl, rfl, rfl⟩
        · omega
        · omega
        · have hw : mw M' = Cond.code (my M') (mb M') (ml M') (mr M') := by simp only [mw, w3]
          rw [hw] at hMet m5
          rw [w4] at hMet m5
          exact run_vx (va_runI hCF (met_plain hMet (hnone (Or.inr k0))) ⟨callB_of _ hts (good_cons m5) rfl rfl rfl (hts _ m6) (hts _ hln) hdd2 hRoom, w1, hts _ w2⟩ ⟨pc_blind, hGH⟩ rfl rfl hsz rfl hwt hd hf)
    · have hM2 := met_plain hMet (hnone (Or.inl hln))
      rcases hlnk with z | ⟨hne, hmh⟩
      · exact (hln z).elim
      · have hw : mw M' = Cond.code (my M') (mb M') (ml M') (mr M') := by simp only [mw, hmh]
        rw [hw] at hM2 m5
        rcases hkind with ⟨k0, w1⟩ | ⟨k0, w1, w2, w3⟩ | ⟨k0, w1, w2, w3, w4⟩
        · rcases hst with ⟨-, rfl, rfl, rfl⟩ | ⟨_, _, _, _, k1, _⟩ | ⟨_, k1, _⟩
          · exact run_vx (va_runSN hCF hM2 ⟨va_cnB _ hts (good_cons m5) rfl rfl rfl (hG.1 _ hne) (hts _ m6) hdd2 hRoom, hts _ w1, trivial⟩ ⟨pc_blind, hGH⟩ rfl rfl hsz rfl hwt hd hf)
          · omega
          · omega
        · rcases hst with ⟨k1, _⟩ | ⟨b, ci, fs, r, -, rfl, rfl, rfl, hb2, hcl, hr1⟩ | ⟨_, k1, _⟩
          · omega
          · obtain ⟨q0, he⟩ := lkp_at (by rw [← hh]; exact hb2)
            refine run_vx (va_runVN (C := (my M').cls) hCF hM2 ⟨va_cnB _ hts (good_cons m5) rfl rfl rfl (hG.1 _ hne) (hts _ m6) hdd2 hRoom, hts _ w1, hts _ w2⟩ ⟨pc_blind, ?_, hGH⟩ rfl rfl hsz rfl hwt hd hf)
            rw [← hr1]
            exact va_recv hG.2.1 hP hcl he
          · omega
        · rcases hst with ⟨k1, _⟩ | ⟨_, _, _, _, k1, _⟩ | ⟨b, -, rfl, rfl, rfl⟩
          · omega
          · omega
          · rw [w4] at hM2 m5
            exact run_vx (va_runIN hCF hM2 ⟨va_cnB _ hts (good_cons m5) rfl rfl rfl (hG.1 _ hne) (hts _ m6) hdd2 hRoom, w1, hts _ w2⟩ ⟨pc_blind, hGH⟩ rfl rfl hsz rfl hwt hd hf)
  refine call_W hrun hs hA1 (fun v h' H1 locs1 ws' hΨ a3 a4 a5 a6 => ?_) (fun E h' H1 locs1 ws' q ce hΨ a3 a4 a5 a6 hce hcv hcl => ?_)
  · exact hS _ (hk v h' hΨ) p e R s m args below meth c A hc _ _ _ _ _ _ hl hn a3 a4 a5 a6 (by omega) (by omega)
  · rcases (hkx E h' hΨ).2 with ⟨y1, y2⟩ | ⟨hpc, ⟨pre, x, suf, name, x1, x2, x3, x4, x5, x6, x7⟩, y2⟩
    · exact vx_out (fun x hx => by rw [htab, y1] at hx; cases hx) hlk hce hcv hcl (fun t ht _ => ⟨h', ws', y2, ww_ret a3 a4 a5 a6 ht⟩) a6.2.2 (by omega) (by omega)
    · subst x7
      refine vx_catch hown pre x suf (htab.trans x1) (fun z hz => ?_) x3 x4 (hts _ x5) (exL_use x6 (hG.1 _ x6)) hce hcv hcl (hS _ (y2 q) p e R s m args below meth c A hc _ _ _ _ _ _ hl hn a3 a4 a5 a6 (by omega) (by omega))
      rcases x2 z hz with w | ⟨w1, nm, w2, w3⟩
      · exact Or.inl w
      · exact Or.inr ⟨w1, nm, hts _ w2, hG.2.2.1 _ w3⟩
/-- THE ABSTRACT MACHINE IS SOUND -/
theorem WPc.sound {q : Cd} (hq : WPc ar ro sa q) : Sd D ar ro sa sv l q := by
  refine hq _ (fun S q hF hS => ?_)
  obtain ⟨M, d, ⟨pc, lv, st, h, kc, ks⟩, Φ⟩ := q
  obtain ⟨ig, len, hd, hF⟩ := hF
  intro p e R s m args below meth c A hc H locs cells slots ls ws hl hn hh hP hD hs h1 h2
  rcases hF with ⟨r, hr, hq⟩ | hF | hF | hF | hF | hF
  · exact sx_sound hc.1 hc.2.1 hd hr hl (fun ls' hl' => hS _ hq p e R s m args below meth c A hc _ _ _ _ _ _ hl' ((sx_len hr).trans hn) hh hP hD hs h1 h2)
  · exact ah_sound hc hd hF hS hl hn hh hP hD hs h1 h2
  · exact ad_sound hc hd hF hS hl hn hh hP hD hs h1 h2
  · exact ae_sound hc hd hF hl hn hh hP hD hs h1 h2
  · exact ac_sound hc hd hF hS hl hn hh hP hD hs h1 h2
  · exact aj_sound hc hd hF hS hl hn hh hP hD hs h1 h2
end CS
end
section
/-! rows of WP: a row an instruction, over pure states -/
def dc (M : Mth) (pc : Nat) (ig : Instr) (len nx : Nat) : Prop := decode (mb M) pc = .ok (ig, len) ∧ pc + len = nx
/-- what a method leaves: a value and a heap, or an exception and a heap -/
def Ex (post : Option Value → Hp → Prop) (xs : String → Hp → Prop) : Ou → Hp → Prop := fun o h => match o with | .inl v => post v h | .inr E => xs E h
abbrev No : String → Hp → Prop := fun _ _ => False
section RW
variable {ar : Nat → ClassId} {ro : Nat → Option (Nat × (Nat → Int32))} {sa : Nat → Nat} {M : Mth} {d pc len nx : Nat} {ig : Instr} {lv lv' : Lv} {st : List Value} {h : Hp} {kc ks : Nat} {Φ : Ou → Hp → Prop}
theorem r_s {r : Nat × Lv × List Value} (hd : dc M pc ig len nx) (hs : sx ig len pc lv st = some r) (k : WP ar ro sa M d r.1 r.2.1 r.2.2 h kc ks Φ) : WP ar ro sa M d pc lv st h kc ks Φ := WPc.intro ar ro sa ⟨ig, len, hd.1, Or.inl ⟨r, hs, k⟩⟩
theorem r_iconst {n : Int} {v : Int32} (hd : dc M pc (.iconst n) 1 nx) (hv : Int32.ofInt n = v) (k : WP ar ro sa M d nx lv (.int v :: st) h kc ks Φ) : WP ar ro sa M d pc lv st h kc ks Φ := by
  subst hv; obtain ⟨h9, rfl⟩ := hd
  exact r_s ⟨h9, rfl⟩ rfl k
theorem r_bipush {n : Int} {v : Int32} (hd : dc M pc (.bipush n) 2 nx) (hv : (Int8.ofInt n).toInt32 = v) (k : WP ar ro sa M d nx lv (.int v :: st) h kc ks Φ) : WP ar ro sa M d pc lv st h kc ks Φ := by
  subst hv; obtain ⟨h9, rfl⟩ := hd
  exact r_s ⟨h9, rfl⟩ rfl k
theorem r_sipush {n : Int} {v : Int32} (hd : dc M pc (.sipush n) 3 nx) (hv : (Int16.ofInt n).toInt32 = v) (k : WP ar ro sa M d nx lv (.int v :: st) h kc ks Φ) : WP ar ro sa M d pc lv st h kc ks Φ := by
  subst hv; obtain ⟨h9, rfl⟩ := hd
  exact r_s ⟨h9, rfl⟩ rfl k
theorem r_lconst {n : Fin 2} {v : Int64} (hd : dc M pc (.lconst n) 1 nx) (hv : Int64.ofNat (n : Nat) = v) (k : WP ar ro sa M d nx lv (.long v :: st) h kc ks Φ) : WP ar ro sa M d pc lv st h kc ks Φ := by
  subst hv; obtain ⟨h9, rfl⟩ := hd
  exact r_s ⟨h9, rfl⟩ rfl k
theorem r_iload_n {z4 : Fin 4} {x : Int32} (hd : dc M pc (.iload_n z4) 1 nx) (hl : ldl lv (z4 : Nat) = some (.int x)) (k : WP ar ro sa M d nx lv (.int x :: st) h kc ks Φ) : WP ar ro sa M d pc lv st h kc ks Φ := by
  obtain ⟨h9, rfl⟩ := hd
  exact r_s (r := (pc + 1, lv, .int x :: st)) ⟨h9, rfl⟩ (by simp only [sx, hl]) k
theorem r_iload {i : Nat} {x : Int32} (hd : dc M pc (.iload i) 2 nx) (hl : ldl lv i = some (.int x)) (k : WP ar ro sa M d nx lv (.int x :: st) h kc ks Φ) : WP ar ro sa M d pc lv st h kc ks Φ := by
  obtain ⟨h9, rfl⟩ := hd
  exact r_s (r := (pc + 2, lv, .int x :: st)) ⟨h9, rfl⟩ (by simp only [sx, hl]) k
theorem r_istore_n {z4 : Fin 4} {x : Int32} (hd : dc M pc (.istore_n z4) 1 nx) (hi : (z4 : Nat) < lv.length) (hl : stl lv (z4 : Nat) (.int x) = lv') (k : WP ar ro sa M d nx lv' st h kc ks Φ) : WP ar ro sa M d pc lv (.int x :: st) h kc ks Φ := by
  subst hl; obtain ⟨h9, rfl⟩ := hd
  exact r_s (r := (pc + 1, stl lv (z4 : Nat) (.int x), st)) ⟨h9, rfl⟩ (by simp only [sx, hi, if_true]) k
theorem r_istore {i : Nat} {x : Int32} (hd : dc M pc (.istore i) 2 nx) (hi : i < lv.length) (hl : stl lv i (.int x) = lv') (k : WP ar ro sa M d nx lv' st h kc ks Φ) : WP ar ro sa M d pc lv (.int x :: st) h kc ks Φ := by
  subst hl; obtain ⟨h9, rfl⟩ := hd
  exact r_s (r := (pc + 2, stl lv i (.int x), st)) ⟨h9, rfl⟩ (by simp only [sx, hi, if_true]) k
theorem r_lload_n {z4 : Fin 4} {x : Int64} (hd : dc M pc (.lload_n z4) 1 nx) (hl : ldl lv (z4 : Nat) = some (.long x)) (k : WP ar ro sa M d nx lv (.long x :: st) h kc ks Φ) : WP ar ro sa M d pc lv st h kc ks Φ := by
  obtain ⟨h9, rfl⟩ := hd
  exact r_s (r := (pc + 1, lv, .long x :: st)) ⟨h9, rfl⟩ (by simp only [sx, hl]) k
theorem r_lload {i : Nat} {x : Int64} (hd : dc M pc (.lload i) 2 nx) (hl : ldl lv i = some (.long x)) (k : WP ar ro sa M d nx lv (.long x :: st) h kc ks Φ) : WP ar ro sa M d pc lv st h kc ks Φ := by
  obtain ⟨h9, rfl⟩ := hd
  exact r_s (r := (pc + 2, lv, .long x :: st)) ⟨h9, rfl⟩ (by simp only [sx, hl]) k
theorem r_lstore_n {z4 : Fin 4} {x : Int64} (hd : dc M pc (.lstore_n z4) 1 nx) (hi : (z4 : Nat) + 1 < lv.length) (hl : stl lv (z4 : Nat) (.long x) = lv') (k : WP ar ro sa M d nx lv' st h kc ks Φ) : WP ar ro sa M d pc lv (.long x :: st) h kc ks Φ := by
  subst hl; obtain ⟨h9, rfl⟩ := hd
  exact r_s (r := (pc + 1, stl lv (z4 : Nat) (.long x), st)) ⟨h9, rfl⟩ (by simp only [sx, hi, if_true]) k
theorem r_lstore {i : Nat} {x : Int64} (hd : dc M pc (.lstore i) 2 nx) (hi : i + 1 < lv.length) (hl : stl lv i (.long x) = lv') (k : WP ar ro sa M d nx lv' st h kc ks Φ) : WP ar ro sa M d pc lv (.long x :: st) h kc ks Φ := by
  subst hl; obtain ⟨h9, rfl⟩ := hd
  exact r_s (r := (pc + 2, stl lv i (.long x), st)) ⟨h9, rfl⟩ (by simp only [sx, hi, if_true]) k
theorem r_aload_n {z4 : Fin 4} {x : Nat} (hd : dc M pc (.aload_n z4) 1 nx) (hl : ldl lv (z4 : Nat) = some (.ref x)) (k : WP ar ro sa M d nx lv (.ref x :: st) h kc ks Φ) : WP ar ro sa M d pc lv st h kc ks Φ := by
  obtain ⟨h9, rfl⟩ := hd
  exact r_s (r := (pc + 1, lv, .ref x :: st)) ⟨h9, rfl⟩ (by simp only [sx, hl]) k
theorem r_aload {i : Nat} {x : Nat} (hd : dc M pc (.aload i) 2 nx) (hl : ldl lv i = some (.ref x)) (k : WP ar ro sa M d nx lv (.ref x :: st) h kc ks Φ) : WP ar ro sa M d pc lv st h kc ks Φ := by
  obtain ⟨h9, rfl⟩ := hd
  exact r_s (r := (pc + 2, lv, .ref x :: st)) ⟨h9, rfl⟩ (by simp only [sx, hl]) k
theorem r_astore_n {z4 : Fin 4} {x : Nat} (hd : dc M pc (.astore_n z4) 1 nx) (hi : (z4 : Nat) < lv.length) (hl : stl lv (z4 : Nat) (.ref x) = lv') (k : WP ar ro sa M d nx lv' st h kc ks Φ) : WP ar ro sa M d pc lv (.ref x :: st) h kc ks Φ := by
  subst hl; obtain ⟨h9, rfl⟩ := hd
  exact r_s (r := (pc + 1, stl lv (z4 : Nat) (.ref x), st)) ⟨h9, rfl⟩ (by simp only [sx, hi, if_true]) k
theorem r_astore {i : Nat} {x : Nat} (hd : dc M pc (.astore i) 2 nx) (hi : i < lv.length) (hl : stl lv i (.ref x) = lv') (k : WP ar ro sa M d nx lv' st h kc ks Φ) : WP ar ro sa M d pc lv (.ref x :: st) h kc ks Φ := by
  subst hl; obtain ⟨h9, rfl⟩ := hd
  exact r_s (r := (pc + 2, stl lv i (.ref x), st)) ⟨h9, rfl⟩ (by simp only [sx, hi, if_true]) k
theorem r_iinc {i : Nat} {n : Int} {x v : Int32} (hd : dc M pc (.iinc i n) 3 nx) (hx : ldl lv i = some (.int x)) (hv : Int32.ofInt n = v) (hl : stl lv i (.int (x + v)) = lv') (k : WP ar ro sa M d nx lv' st h kc ks Φ) : WP ar ro sa M d pc lv st h kc ks Φ := by
  subst hv; subst hl; obtain ⟨h9, rfl⟩ := hd
  exact r_s (r := (pc + 3, stl lv i (.int (x + Int32.ofInt n)), st)) ⟨h9, rfl⟩ (by simp only [sx, hx]) k
theorem r_iadd {x y : Int32} (hd : dc M pc .iadd 1 nx)  (k : WP ar ro sa M d nx lv (.int (x + y) :: st) h kc ks Φ) : WP ar ro sa M d pc lv (.int y :: .int x :: st) h kc ks Φ := by
  obtain ⟨h9, rfl⟩ := hd
  exact r_s ⟨h9, rfl⟩ rfl k
theorem r_isub {x y : Int32} (hd : dc M pc .isub 1 nx)  (k : WP ar ro sa M d nx lv (.int (x - y) :: st) h kc ks Φ) : WP ar ro sa M d pc lv (.int y :: .int x :: st) h kc ks Φ := by
  obtain ⟨h9, rfl⟩ := hd
  exact r_s ⟨h9, rfl⟩ rfl k
theorem r_imul {x y : Int32} (hd : dc M pc .imul 1 nx)  (k : WP ar ro sa M d nx lv (.int (x * y) :: st) h kc ks Φ) : WP ar ro sa M d pc lv (.int y :: .int x :: st) h kc ks Φ := by
  obtain ⟨h9, rfl⟩ := hd
  exact r_s ⟨h9, rfl⟩ rfl k
theorem r_iand {x y : Int32} (hd : dc M pc .iand 1 nx)  (k : WP ar ro sa M d nx lv (.int (x &&& y) :: st) h kc ks Φ) : WP ar ro sa M d pc lv (.int y :: .int x :: st) h kc ks Φ := by
  obtain ⟨h9, rfl⟩ := hd
  exact r_s ⟨h9, rfl⟩ rfl k
theorem r_ior {x y : Int32} (hd : dc M pc .ior 1 nx)  (k : WP ar ro sa M d nx lv (.int (x ||| y) :: st) h kc ks Φ) : WP ar ro sa M d pc lv (.int y :: .int x :: st) h kc ks Φ := by
  obtain ⟨h9, rfl⟩ := hd
  exact r_s ⟨h9, rfl⟩ rfl k
theorem r_ixor {x y : Int32} (hd : dc M pc .ixor 1 nx)  (k : WP ar ro sa M d nx lv (.int (x ^^^ y) :: st) h kc ks Φ) : WP ar ro sa M d pc lv (.int y :: .int x :: st) h kc ks Φ := by
  obtain ⟨h9, rfl⟩ := hd
  exact r_s ⟨h9, rfl⟩ rfl k
theorem r_ishl {x y : Int32} (hd : dc M pc .ishl 1 nx)  (k : WP ar ro sa M d nx lv (.int (x <<< (y &&& 31)) :: st) h kc ks Φ) : WP ar ro sa M d pc lv (.int y :: .int x :: st) h kc ks Φ := by
  obtain ⟨h9, rfl⟩ := hd
  exact r_s ⟨h9, rfl⟩ rfl k
theorem r_ishr {x y : Int32} (hd : dc M pc .ishr 1 nx)  (k : WP ar ro sa M d nx lv (.int (x >>> (y &&& 31)) :: st) h kc ks Φ) : WP ar ro sa M d pc lv (.int y :: .int x :: st) h kc ks Φ := by
  obtain ⟨h9, rfl⟩ := hd
  exact r_s ⟨h9, rfl⟩ rfl k
theorem r_iushr {x y : Int32} (hd : dc M pc .iushr 1 nx)  (k : WP ar ro sa M d nx lv (.int ((x.toUInt32 >>> (y.toUInt32 &&& Int32.toUInt32 31)).toInt32) :: st) h kc ks Φ) : WP ar ro sa M d pc lv (.int y :: .int x :: st) h kc ks Φ := by
  obtain ⟨h9, rfl⟩ := hd
  exact r_s ⟨h9, rfl⟩ rfl k
theorem r_ladd {x y : Int64} (hd : dc M pc .ladd 1 nx)  (k : WP ar ro sa M d nx lv (.long (x + y) :: st) h kc ks Φ) : WP ar ro sa M d pc lv (.long y :: .long x :: st) h kc ks Φ := by
  obtain ⟨h9, rfl⟩ := hd
  exact r_s ⟨h9, rfl⟩ rfl k
theorem r_lsub {x y : Int64} (hd : dc M pc .lsub 1 nx)  (k : WP ar ro sa M d nx lv (.long (x - y) :: st) h kc ks Φ) : WP ar ro sa M d pc lv (.long y :: .long x :: st) h kc ks Φ := by
  obtain ⟨h9, rfl⟩ := hd
  exact r_s ⟨h9, rfl⟩ rfl k
theorem r_lmul {x y : Int64} (hd : dc M pc .lmul 1 nx)  (k : WP ar ro sa M d nx lv (.long (x * y) :: st) h kc ks Φ) : WP ar ro sa M d pc lv (.long y :: .long x :: st) h kc ks Φ := by
  obtain ⟨h9, rfl⟩ := hd
  exact r_s ⟨h9, rfl⟩ rfl k
theorem r_land {x y : Int64} (hd : dc M pc .land 1 nx)  (k : WP ar ro sa M d nx lv (.long (x &&& y) :: st) h kc ks Φ) : WP ar ro sa M d pc lv (.long y :: .long x :: st) h kc ks Φ := by
  obtain ⟨h9, rfl⟩ := hd
  exact r_s ⟨h9, rfl⟩ rfl k
theorem r_lor {x y : Int64} (hd : dc M pc .lor 1 nx)  (k : WP ar ro sa M d nx lv (.long (x ||| y) :: st) h kc ks Φ) : WP ar ro sa M d pc lv (.long y :: .long x :: st) h kc ks Φ := by
  obtain ⟨h9, rfl⟩ := hd
  exact r_s ⟨h9, rfl⟩ rfl k
theorem r_lxor {x y : Int64} (hd : dc M pc .lxor 1 nx)  (k : WP ar ro sa M d nx lv (.long (x ^^^ y) :: st) h kc ks Φ) : WP ar ro sa M d pc lv (.long y :: .long x :: st) h kc ks Φ := by
  obtain ⟨h9, rfl⟩ := hd
  exact r_s ⟨h9, rfl⟩ rfl k
theorem r_ineg {x : Int32} (hd : dc M pc .ineg 1 nx)  (k : WP ar ro sa M d nx lv (.int (-x) :: st) h kc ks Φ) : WP ar ro sa M d pc lv (.int x :: st) h kc ks Φ := by
  obtain ⟨h9, rfl⟩ := hd
  exact r_s ⟨h9, rfl⟩ rfl k
theorem r_lneg {x : Int64} (hd : dc M pc .lneg 1 nx)  (k : WP ar ro sa M d nx lv (.long (-x) :: st) h kc ks Φ) : WP ar ro sa M d pc lv (.long x :: st) h kc ks Φ := by
  obtain ⟨h9, rfl⟩ := hd
  exact r_s ⟨h9, rfl⟩ rfl k
theorem r_lshl {x : Int64} {y : Int32} (hd : dc M pc .lshl 1 nx)  (k : WP ar ro sa M d nx lv (.long (x <<< (y.toInt64 &&& 63)) :: st) h kc ks Φ) : WP ar ro sa M d pc lv (.int y :: .long x :: st) h kc ks Φ := by
  obtain ⟨h9, rfl⟩ := hd
  exact r_s ⟨h9, rfl⟩ rfl k
theorem r_lshr {x : Int64} {y : Int32} (hd : dc M pc .lshr 1 nx)  (k : WP ar ro sa M d nx lv (.long (x >>> (y.toInt64 &&& 63)) :: st) h kc ks Φ) : WP ar ro sa M d pc lv (.int y :: .long x :: st) h kc ks Φ := by
  obtain ⟨h9, rfl⟩ := hd
  exact r_s ⟨h9, rfl⟩ rfl k
theorem r_lushr {x : Int64} {y : Int32} (hd : dc M pc .lushr 1 nx)  (k : WP ar ro sa M d nx lv (.long ((x.toUInt64 >>> (y.toInt64.toUInt64 &&& Int64.toUInt64 63)).toInt64) :: st) h kc ks Φ) : WP ar ro sa M d pc lv (.int y :: .long x :: st) h kc ks Φ := by
  obtain ⟨h9, rfl⟩ := hd
  exact r_s ⟨h9, rfl⟩ rfl k
theorem r_i2l {x : Int32} (hd : dc M pc .i2l 1 nx)  (k : WP ar ro sa M d nx lv (.long x.toInt64 :: st) h kc ks Φ) : WP ar ro sa M d pc lv (.int x :: st) h kc ks Φ := by
  obtain ⟨h9, rfl⟩ := hd
  exact r_s ⟨h9, rfl⟩ rfl k
theorem r_l2i {x : Int64} (hd : dc M pc .l2i 1 nx)  (k : WP ar ro sa M d nx lv (.int x.toInt32 :: st) h kc ks Φ) : WP ar ro sa M d pc lv (.long x :: st) h kc ks Φ := by
  obtain ⟨h9, rfl⟩ := hd
  exact r_s ⟨h9, rfl⟩ rfl k
theorem r_i2b {x : Int32} (hd : dc M pc .i2b 1 nx)  (k : WP ar ro sa M d nx lv (.int x.toInt8.toInt32 :: st) h kc ks Φ) : WP ar ro sa M d pc lv (.int x :: st) h kc ks Φ := by
  obtain ⟨h9, rfl⟩ := hd
  exact r_s ⟨h9, rfl⟩ rfl k
theorem r_i2s {x : Int32} (hd : dc M pc .i2s 1 nx)  (k : WP ar ro sa M d nx lv (.int x.toInt16.toInt32 :: st) h kc ks Φ) : WP ar ro sa M d pc lv (.int x :: st) h kc ks Φ := by
  obtain ⟨h9, rfl⟩ := hd
  exact r_s ⟨h9, rfl⟩ rfl k
theorem r_lcmp {x y : Int64} (hd : dc M pc .lcmp 1 nx)  (k : WP ar ro sa M d nx lv (.int (lg_cmp x y) :: st) h kc ks Φ) : WP ar ro sa M d pc lv (.long y :: .long x :: st) h kc ks Φ := by
  obtain ⟨h9, rfl⟩ := hd
  exact r_s ⟨h9, rfl⟩ rfl k
theorem r_dup {v : Value} (hd : dc M pc .dup 1 nx) (hv : v.category = 1) (k : WP ar ro sa M d nx lv (v :: v :: st) h kc ks Φ) : WP ar ro sa M d pc lv (v :: st) h kc ks Φ := by
  obtain ⟨h9, rfl⟩ := hd
  exact r_s (r := (pc + 1, lv, v :: v :: st)) ⟨h9, rfl⟩ (by simp only [sx, hv, if_true]) k
theorem r_pop {v : Value} (hd : dc M pc .pop 1 nx) (hv : v.category = 1) (k : WP ar ro sa M d nx lv st h kc ks Φ) : WP ar ro sa M d pc lv (v :: st) h kc ks Φ := by
  obtain ⟨h9, rfl⟩ := hd
  exact r_s (r := (pc + 1, lv, st)) ⟨h9, rfl⟩ (by simp only [sx, hv, if_true]) k
theorem r_dup_x1 {v w : Value} (hd : dc M pc .dup_x1 1 nx) (hv : v.category = 1) (hw : w.category = 1) (k : WP ar ro sa M d nx lv (v :: w :: v :: st) h kc ks Φ) : WP ar ro sa M d pc lv (v :: w :: st) h kc ks Φ := by
  obtain ⟨h9, rfl⟩ := hd
  exact r_s (r := (pc + 1, lv, v :: w :: v :: st)) ⟨h9, rfl⟩ (by simp only [sx, hv, hw, and_self, if_true]) k
theorem r_dup2 {v w : Value} (hd : dc M pc .dup2 1 nx) (hv : v.category = 1) (hw : w.category = 1) (k : WP ar ro sa M d nx lv (v :: w :: v :: w :: st) h kc ks Φ) : WP ar ro sa M d pc lv (v :: w :: st) h kc ks Φ := by
  obtain ⟨h9, rfl⟩ := hd
  exact r_s (r := (pc + 1, lv, v :: w :: v :: w :: st)) ⟨h9, rfl⟩ (by simp only [sx, hv, hw, and_self, if_true]) k
theorem r_goto {off : Int} {t : Nat} (hd : dc M pc (.goto off) 3 nx) (ht : (pc : Int) + off = t) (k : WP ar ro sa M d t lv st h kc ks Φ) : WP ar ro sa M d pc lv st h kc ks Φ := by
  have e : tgt pc off = t := by unfold tgt; omega
  exact r_s (r := (tgt pc off, lv, st)) hd (by simp only [sx, show 0 ≤ (pc : Int) + off by omega, if_true]) (by rw [e]; exact k)
theorem r_icmp_eq {x y : Int32} {off : Int} {t : Nat} (hd : dc M pc (.if_icmp .eq off) 3 nx) (ht : (pc : Int) + off = t) (kt : (x = y) → WP ar ro sa M d t lv st h kc ks Φ) (kf : ¬ (x = y) → WP ar ro sa M d nx lv st h kc ks Φ) : WP ar ro sa M d pc lv (.int y :: .int x :: st) h kc ks Φ := by
  obtain ⟨h9, rfl⟩ := hd
  have e : tgt pc off = t := by unfold tgt; omega
  refine r_s (r := (if cdI .eq x y then tgt pc off else pc + 3, lv, st)) ⟨h9, rfl⟩ (by simp only [sx, show 0 ≤ (pc : Int) + off by omega, if_true]) ?_
  by_cases c : x = y
  · have z : cdI .eq x y = true := decide_eq_true c
    simp only [z, if_true, e]; exact kt c
  · have z : cdI .eq x y = false := decide_eq_false c
    simp only [z]; exact kf c
theorem r_if_eq {x : Int32} {off : Int} {t : Nat} (hd : dc M pc (.ifCond .eq off) 3 nx) (ht : (pc : Int) + off = t) (kt : (x = 0) → WP ar ro sa M d t lv st h kc ks Φ) (kf : ¬ (x = 0) → WP ar ro sa M d nx lv st h kc ks Φ) : WP ar ro sa M d pc lv (.int x :: st) h kc ks Φ := by
  obtain ⟨h9, rfl⟩ := hd
  have e : tgt pc off = t := by unfold tgt; omega
  refine r_s (r := (if cdI .eq x 0 then tgt pc off else pc + 3, lv, st)) ⟨h9, rfl⟩ (by simp only [sx, show 0 ≤ (pc : Int) + off by omega, if_true]) ?_
  by_cases c : x = 0
  · have z : cdI .eq x 0 = true := decide_eq_true c
    simp only [z, if_true, e]; exact kt c
  · have z : cdI .eq x 0 = false := decide_eq_false c
    simp only [z]; exact kf c
theorem r_icmp_ne {x y : Int32} {off : Int} {t : Nat} (hd : dc M pc (.if_icmp .ne off) 3 nx) (ht : (pc : Int) + off = t) (kt : (¬ x = y) → WP ar ro sa M d t lv st h kc ks Φ) (kf : ¬ (¬ x = y) → WP ar ro sa M d nx lv st h kc ks Φ) : WP ar ro sa M d pc lv (.int y :: .int x :: st) h kc ks Φ := by
  obtain ⟨h9, rfl⟩ := hd
  have e : tgt pc off = t := by unfold tgt; omega
  refine r_s (r := (if cdI .ne x y then tgt pc off else pc + 3, lv, st)) ⟨h9, rfl⟩ (by simp only [sx, show 0 ≤ (pc : Int) + off by omega, if_true]) ?_
  by_cases c : ¬ x = y
  · have z : cdI .ne x y = true := decide_eq_true c
    simp only [z, if_true, e]; exact kt c
  · have z : cdI .ne x y = false := decide_eq_false c
    simp only [z]; exact kf c
theorem r_if_ne {x : Int32} {off : Int} {t : Nat} (hd : dc M pc (.ifCond .ne off) 3 nx) (ht : (pc : Int) + off = t) (kt : (¬ x = 0) → WP ar ro sa M d t lv st h kc ks Φ) (kf : ¬ (¬ x = 0) → WP ar ro sa M d nx lv st h kc ks Φ) : WP ar ro sa M d pc lv (.int x :: st) h kc ks Φ := by
  obtain ⟨h9, rfl⟩ := hd
  have e : tgt pc off = t := by unfold tgt; omega
  refine r_s (r := (if cdI .ne x 0 then tgt pc off else pc + 3, lv, st)) ⟨h9, rfl⟩ (by simp only [sx, show 0 ≤ (pc : Int) + off by omega, if_true]) ?_
  by_cases c : ¬ x = 0
  · have z : cdI .ne x 0 = true := decide_eq_true c
    simp only [z, if_true, e]; exact kt c
  · have z : cdI .ne x 0 = false := decide_eq_false c
    simp only [z]; exact kf c
theorem r_icmp_lt {x y : Int32} {off : Int} {t : Nat} (hd : dc M pc (.if_icmp .lt off) 3 nx) (ht : (pc : Int) + off = t) (kt : (x < y) → WP ar ro sa M d t lv st h kc ks Φ) (kf : ¬ (x < y) → WP ar ro sa M d nx lv st h kc ks Φ) : WP ar ro sa M d pc lv (.int y :: .int x :: st) h kc ks Φ := by
  obtain ⟨h9, rfl⟩ := hd
  have e : tgt pc off = t := by unfold tgt; omega
  refine r_s (r := (if cdI .lt x y then tgt pc off else pc + 3, lv, st)) ⟨h9, rfl⟩ (by simp only [sx, show 0 ≤ (pc : Int) + off by omega, if_true]) ?_
  by_cases c : x < y
  · have z : cdI .lt x y = true := decide_eq_true c
    simp only [z, if_true, e]; exact kt c
  · have z : cdI .lt x y = false := decide_eq_false c
    simp only [z]; exact kf c
theorem r_if_lt {x : Int32} {off : Int} {t : Nat} (hd : dc M pc (.ifCond .lt off) 3 nx) (ht : (pc : Int) + off = t) (kt : (x < 0) → WP ar ro sa M d t lv st h kc ks Φ) (kf : ¬ (x < 0) → WP ar ro sa M d nx lv st h kc ks Φ) : WP ar ro sa M d pc lv (.int x :: st) h kc ks Φ := by
  obtain ⟨h9, rfl⟩ := hd
  have e : tgt pc off = t := by unfold tgt; omega
  refine r_s (r := (if cdI .lt x 0 then tgt pc off else pc + 3, lv, st)) ⟨h9, rfl⟩ (by simp only [sx, show 0 ≤ (pc : Int) + off by omega, if_true]) ?_
  by_cases c : x < 0
  · have z : cdI .lt x 0 = true := decide_eq_true c
    simp only [z, if_true, e]; exact kt c
  · have z : cdI .lt x 0 = false := decide_eq_false c
    simp only [z]; exact kf c
theorem r_icmp_ge {x y : Int32} {off : Int} {t : Nat} (hd : dc M pc (.if_icmp .ge off) 3 nx) (ht : (pc : Int) + off = t) (kt : (y ≤ x) → WP ar ro sa M d t lv st h kc ks Φ) (kf : ¬ (y ≤ x) → WP ar ro sa M d nx lv st h kc ks Φ) : WP ar ro sa M d pc lv (.int y :: .int x :: st) h kc ks Φ := by
  obtain ⟨h9, rfl⟩ := hd
  have e : tgt pc off = t := by unfold tgt; omega
  refine r_s (r := (if cdI .ge x y then tgt pc off else pc + 3, lv, st)) ⟨h9, rfl⟩ (by simp only [sx, show 0 ≤ (pc : Int) + off by omega, if_true]) ?_
  by_cases c : y ≤ x
  · have z : cdI .ge x y = true := decide_eq_true c
    simp only [z, if_true, e]; exact kt c
  · have z : cdI .ge x y = false := decide_eq_false c
    simp only [z]; exact kf c
theorem r_if_ge {x : Int32} {off : Int} {t : Nat} (hd : dc M pc (.ifCond .ge off) 3 nx) (ht : (pc : Int) + off = t) (kt : (0 ≤ x) → WP ar ro sa M d t lv st h kc ks Φ) (kf : ¬ (0 ≤ x) → WP ar ro sa M d nx lv st h kc ks Φ) : WP ar ro sa M d pc lv (.int x :: st) h kc ks Φ := by
  obtain ⟨h9, rfl⟩ := hd
  have e : tgt pc off = t := by unfold tgt; omega
  refine r_s (r := (if cdI .ge x 0 then tgt pc off else pc + 3, lv, st)) ⟨h9, rfl⟩ (by simp only [sx, show 0 ≤ (pc : Int) + off by omega, if_true]) ?_
  by_cases c : 0 ≤ x
  · have z : cdI .ge x 0 = true := decide_eq_true c
    simp only [z, if_true, e]; exact kt c
  · have z : cdI .ge x 0 = false := decide_eq_false c
    simp only [z]; exact kf c
theorem r_icmp_gt {x y : Int32} {off : Int} {t : Nat} (hd : dc M pc (.if_icmp .gt off) 3 nx) (ht : (pc : Int) + off = t) (kt : (y < x) → WP ar ro sa M d t lv st h kc ks Φ) (kf : ¬ (y < x) → WP ar ro sa M d nx lv st h kc ks Φ) : WP ar ro sa M d pc lv (.int y :: .int x :: st) h kc ks Φ := by
  obtain ⟨h9, rfl⟩ := hd
  have e : tgt pc off = t := by unfold tgt; omega
  refine r_s (r := (if cdI .gt x y then tgt pc off else pc + 3, lv, st)) ⟨h9, rfl⟩ (by simp only [sx, show 0 ≤ (pc : Int) + off by omega, if_true]) ?_
  by_cases c : y < x
  · have z : cdI .gt x y = true := decide_eq_true c
    simp only [z, if_true, e]; exact kt c
  · have z : cdI .gt x y = false := decide_eq_false c
    simp only [z]; exact kf c
theorem r_if_gt {x : Int32} {off : Int} {t : Nat} (hd : dc M pc (.ifCond .gt off) 3 nx) (ht : (pc : Int) + off = t) (kt : (0 < x) → WP ar ro sa M d t lv st h kc ks Φ) (kf : ¬ (0 < x) → WP ar ro sa M d nx lv st h kc ks Φ) : WP ar ro sa M d pc lv (.int x :: st) h kc ks Φ := by
  obtain ⟨h9, rfl⟩ := hd
  have e : tgt pc off = t := by unfold tgt; omega
  refine r_s (r := (if cdI .gt x 0 then tgt pc off else pc + 3, lv, st)) ⟨h9, rfl⟩ (by simp only [sx, show 0 ≤ (pc : Int) + off by omega, if_true]) ?_
  by_cases c : 0 < x
  · have z : cdI .gt x 0 = true := decide_eq_true c
    simp only [z, if_true, e]; exact kt c
  · have z : cdI .gt x 0 = false := decide_eq_false c
    simp only [z]; exact kf c
theorem r_icmp_le {x y : Int32} {off : Int} {t : Nat} (hd : dc M pc (.if_icmp .le off) 3 nx) (ht : (pc : Int) + off = t) (kt : (x ≤ y) → WP ar ro sa M d t lv st h kc ks Φ) (kf : ¬ (x ≤ y) → WP ar ro sa M d nx lv st h kc ks Φ) : WP ar ro sa M d pc lv (.int y :: .int x :: st) h kc ks Φ := by
  obtain ⟨h9, rfl⟩ := hd
  have e : tgt pc off = t := by unfold tgt; omega
  refine r_s (r := (if cdI .le x y then tgt pc off else pc + 3, lv, st)) ⟨h9, rfl⟩ (by simp only [sx, show 0 ≤ (pc : Int) + off by omega, if_true]) ?_
  by_cases c : x ≤ y
  · have z : cdI .le x y = true := decide_eq_true c
    simp only [z, if_true, e]; exact kt c
  · have z : cdI .le x y = false := decide_eq_false c
    simp only [z]; exact kf c
theorem r_if_le {x : Int32} {off : Int} {t : Nat} (hd : dc M pc (.ifCond .le off) 3 nx) (ht : (pc : Int) + off = t) (kt : (x ≤ 0) → WP ar ro sa M d t lv st h kc ks Φ) (kf : ¬ (x ≤ 0) → WP ar ro sa M d nx lv st h kc ks Φ) : WP ar ro sa M d pc lv (.int x :: st) h kc ks Φ := by
  obtain ⟨h9, rfl⟩ := hd
  have e : tgt pc off = t := by unfold tgt; omega
  refine r_s (r := (if cdI .le x 0 then tgt pc off else pc + 3, lv, st)) ⟨h9, rfl⟩ (by simp only [sx, show 0 ≤ (pc : Int) + off by omega, if_true]) ?_
  by_cases c : x ≤ 0
  · have z : cdI .le x 0 = true := decide_eq_true c
    simp only [z, if_true, e]; exact kt c
  · have z : cdI .le x 0 = false := decide_eq_false c
    simp only [z]; exact kf c
theorem r_ifnull_r {x : Nat} {off : Int} (hd : dc M pc (.ifnull off) 3 nx) (k : WP ar ro sa M d nx lv st h kc ks Φ) : WP ar ro sa M d pc lv (.ref x :: st) h kc ks Φ := by
  obtain ⟨h9, rfl⟩ := hd
  exact r_s ⟨h9, rfl⟩ rfl k
theorem r_ifnonnull_n {off : Int} (hd : dc M pc (.ifnonnull off) 3 nx) (k : WP ar ro sa M d nx lv st h kc ks Φ) : WP ar ro sa M d pc lv (.null :: st) h kc ks Φ := by
  obtain ⟨h9, rfl⟩ := hd
  exact r_s ⟨h9, rfl⟩ rfl k
theorem r_ifnull_n {off : Int} {t : Nat} (hd : dc M pc (.ifnull off) 3 nx) (ht : (pc : Int) + off = t) (k : WP ar ro sa M d t lv st h kc ks Φ) : WP ar ro sa M d pc lv (.null :: st) h kc ks Φ := by
  have e : tgt pc off = t := by unfold tgt; omega
  exact r_s (r := (tgt pc off, lv, st)) hd (by simp only [sx, show 0 ≤ (pc : Int) + off by omega, if_true]) (by rw [e]; exact k)
theorem r_ifnonnull_r {x : Nat} {off : Int} {t : Nat} (hd : dc M pc (.ifnonnull off) 3 nx) (ht : (pc : Int) + off = t) (k : WP ar ro sa M d t lv st h kc ks Φ) : WP ar ro sa M d pc lv (.ref x :: st) h kc ks Φ := by
  have e : tgt pc off = t := by unfold tgt; omega
  exact r_s (r := (tgt pc off, lv, st)) hd (by simp only [sx, show 0 ≤ (pc : Int) + off by omega, if_true]) (by rw [e]; exact k)
theorem r_getf {i a ci f : Nat} {fs : List Value} {v : Value} (hd : dc M pc (.getfield i) 3 nx) (hf : FLg (mo M) i ci f) (ha : h a = some (.inr (ci, fs))) (hv : fs[f]? = some v) (k : WP ar ro sa M d nx lv (v :: st) h kc ks Φ) : WP ar ro sa M d pc lv (.ref a :: st) h kc ks Φ := by
  obtain ⟨h9, rfl⟩ := hd
  exact WPc.intro ar ro sa ⟨_, _, h9, Or.inr (Or.inl ⟨ci, f, fs, v, hf, ha, hv, k⟩)⟩
theorem r_putf {i a ci f : Nat} {fs fs2 : List Value} {v : Value} {fin : Bool} {ty : FieldType} (hd : dc M pc (.putfield i) 3 nx) (hf : FLp (mo M) i ci f fin ty) (ha : h a = some (.inr (ci, fs))) (hl : f < fs.length) (hn : narrow ty v = v) (hft : fits ty v = true) (hfi : fin = true → (my M).name = "<init>") (hs : fs.set f v = fs2) (k : WP ar ro sa M d nx lv st (hset h a (.inr (ci, fs2))) kc ks Φ) : WP ar ro sa M d pc lv (v :: .ref a :: st) h kc ks Φ := by
  obtain ⟨h9, rfl⟩ := hd
  exact WPc.intro ar ro sa ⟨_, _, h9, Or.inr (Or.inl ⟨ci, f, fs, fin, ty, hf, ha, hl, hn, hft, hfi, by rw [hs]; exact k⟩)⟩
theorem r_iald {a n : Nat} {f : Nat → Int32} {i : Int32} (hd : dc M pc .iaload 1 nx) (ha : h a = some (.inl (ar 0, n, .inl f))) (hi : vp_in i n) (k : WP ar ro sa M d nx lv (.int (f i.toNatClampNeg) :: st) h kc ks Φ) : WP ar ro sa M d pc lv (.int i :: .ref a :: st) h kc ks Φ := by
  obtain ⟨h9, rfl⟩ := hd
  exact WPc.intro ar ro sa ⟨_, _, h9, Or.inr (Or.inl (Or.inl ⟨n, f, ha, hi, k⟩))⟩
theorem r_iald_ro {a n : Nat} {f : Nat → Int32} {i : Int32} (hd : dc M pc .iaload 1 nx) (ha : ro a = some (n, f)) (hi : vp_in i n) (k : WP ar ro sa M d nx lv (.int (f i.toNatClampNeg) :: st) h kc ks Φ) : WP ar ro sa M d pc lv (.int i :: .ref a :: st) h kc ks Φ := by
  obtain ⟨h9, rfl⟩ := hd
  exact WPc.intro ar ro sa ⟨_, _, h9, Or.inr (Or.inl (Or.inr ⟨n, f, ha, hi, k⟩))⟩
theorem r_lald {a n : Nat} {f : Nat → Int64} {i : Int32} (hd : dc M pc .laload 1 nx) (ha : h a = some (.inl (ar 1, n, .inr (.inl f)))) (hi : vp_in i n) (k : WP ar ro sa M d nx lv (.long (f i.toNatClampNeg) :: st) h kc ks Φ) : WP ar ro sa M d pc lv (.int i :: .ref a :: st) h kc ks Φ := by
  obtain ⟨h9, rfl⟩ := hd
  exact WPc.intro ar ro sa ⟨_, _, h9, Or.inr (Or.inl ⟨n, f, ha, hi, k⟩)⟩
theorem r_zald {a n : Nat} {f : Nat → Int32} {i : Int32} (hd : dc M pc .baload 1 nx) (ha : h a = some (.inl (ar 2, n, .inl f))) (hi : vp_in i n) (k : WP ar ro sa M d nx lv (.int (f i.toNatClampNeg) :: st) h kc ks Φ) : WP ar ro sa M d pc lv (.int i :: .ref a :: st) h kc ks Φ := by
  obtain ⟨h9, rfl⟩ := hd
  exact WPc.intro ar ro sa ⟨_, _, h9, Or.inr (Or.inl ⟨2, n, f, by omega, ha, hi, k⟩)⟩
theorem r_bald {a n : Nat} {f : Nat → Int32} {i : Int32} (hd : dc M pc .baload 1 nx) (ha : h a = some (.inl (ar 3, n, .inl f))) (hi : vp_in i n) (k : WP ar ro sa M d nx lv (.int (f i.toNatClampNeg) :: st) h kc ks Φ) : WP ar ro sa M d pc lv (.int i :: .ref a :: st) h kc ks Φ := by
  obtain ⟨h9, rfl⟩ := hd
  exact WPc.intro ar ro sa ⟨_, _, h9, Or.inr (Or.inl ⟨3, n, f, by omega, ha, hi, k⟩)⟩
theorem r_aald {a n t : Nat} {f : Nat → Option Nat} {i : Int32} {v : Value} (hd : dc M pc .aaload 1 nx) (ha : h a = some (.inl (ar t, n, .inr (.inr (.inr (.inr f)))))) (ht : 4 ≤ t ∧ t ≤ 8) (hi : vp_in i n) (hv : va_rf (f i.toNatClampNeg) = v) (k : WP ar ro sa M d nx lv (v :: st) h kc ks Φ) : WP ar ro sa M d pc lv (.int i :: .ref a :: st) h kc ks Φ := by
  obtain ⟨h9, rfl⟩ := hd
  exact WPc.intro ar ro sa ⟨_, _, h9, Or.inr (Or.inl ⟨t, n, f, ht.1, ht.2, ha, hi, by rw [hv]; exact k⟩)⟩
theorem r_iast {a n : Nat} {f : Nat → Int32} {i x : Int32} (hd : dc M pc .iastore 1 nx) (ha : h a = some (.inl (ar 0, n, .inl f))) (hi : vp_in i n) (k : WP ar ro sa M d nx lv st (hset h a (.inl (ar 0, n, .inl (upd f i.toNatClampNeg x)))) kc ks Φ) : WP ar ro sa M d pc lv (.int x :: .int i :: .ref a :: st) h kc ks Φ := by
  obtain ⟨h9, rfl⟩ := hd
  exact WPc.intro ar ro sa ⟨_, _, h9, Or.inr (Or.inl ⟨n, f, ha, hi, k⟩)⟩
theorem r_last {a n : Nat} {f : Nat → Int64} {i : Int32} {x : Int64} (hd : dc M pc .lastore 1 nx) (ha : h a = some (.inl (ar 1, n, .inr (.inl f)))) (hi : vp_in i n) (k : WP ar ro sa M d nx lv st (hset h a (.inl (ar 1, n, .inr (.inl (vp_updL f i.toNatClampNeg x))))) kc ks Φ) : WP ar ro sa M d pc lv (.long x :: .int i :: .ref a :: st) h kc ks Φ := by
  obtain ⟨h9, rfl⟩ := hd
  exact WPc.intro ar ro sa ⟨_, _, h9, Or.inr (Or.inl ⟨n, f, ha, hi, k⟩)⟩
theorem r_zast {a n : Nat} {f : Nat → Int32} {i x : Int32} (hd : dc M pc .bastore 1 nx) (ha : h a = some (.inl (ar 2, n, .inl f))) (hi : vp_in i n) (k : WP ar ro sa M d nx lv st (hset h a (.inl (ar 2, n, .inl (upd f i.toNatClampNeg (vp_nar .boolean x))))) kc ks Φ) : WP ar ro sa M d pc lv (.int x :: .int i :: .ref a :: st) h kc ks Φ := by
  obtain ⟨h9, rfl⟩ := hd
  exact WPc.intro ar ro sa ⟨_, _, h9, Or.inr (Or.inl ⟨2, n, f, by omega, ha, hi, k⟩)⟩
theorem r_bast {a n : Nat} {f : Nat → Int32} {i x : Int32} (hd : dc M pc .bastore 1 nx) (ha : h a = some (.inl (ar 3, n, .inl f))) (hi : vp_in i n) (k : WP ar ro sa M d nx lv st (hset h a (.inl (ar 3, n, .inl (upd f i.toNatClampNeg (vp_nar .byte x))))) kc ks Φ) : WP ar ro sa M d pc lv (.int x :: .int i :: .ref a :: st) h kc ks Φ := by
  obtain ⟨h9, rfl⟩ := hd
  exact WPc.intro ar ro sa ⟨_, _, h9, Or.inr (Or.inl ⟨3, n, f, by omega, ha, hi, k⟩)⟩
theorem r_aast {a n t ci v : Nat} {f : Nat → Option Nat} {i : Int32} {vs : List Value} {r : vw_C} (hd : dc M pc .aastore 1 nx) (ha : h a = some (.inl (ar t, n, .inr (.inr (.inr (.inr f)))))) (ht : 4 ≤ t ∧ t ≤ 8) (hv : h v = some (.inr (ci, vs))) (hc : clsL[ci]? = some r) (hty : tyN t = .object r.1) (hi : vp_in i n) (k : WP ar ro sa M d nx lv st (hset h a (.inl (ar t, n, .inr (.inr (.inr (.inr (va_up f i.toNatClampNeg (some v)))))))) kc ks Φ) : WP ar ro sa M d pc lv (.ref v :: .int i :: .ref a :: st) h kc ks Φ := by
  obtain ⟨h9, rfl⟩ := hd
  exact WPc.intro ar ro sa ⟨_, _, h9, Or.inr (Or.inl ⟨t, n, ci, f, vs, r, ht.1, ht.2, ha, hv, hc, hty, hi, k⟩)⟩
theorem r_alen {a t : Nat} {x : vp_A} (hd : dc M pc .arraylength 1 nx) (ha : h a = some (.inl (ar t, x))) (ht : t ≤ 8) (k : WP ar ro sa M d nx lv (.int (Int32.ofNat x.1) :: st) h kc ks Φ) : WP ar ro sa M d pc lv (.ref a :: st) h kc ks Φ := by
  obtain ⟨h9, rfl⟩ := hd
  exact WPc.intro ar ro sa ⟨_, _, h9, Or.inr (Or.inl (Or.inl ⟨t, x, ht, ha, k⟩))⟩
theorem r_alen_ro {a n : Nat} {f : Nat → Int32} (hd : dc M pc .arraylength 1 nx) (ha : ro a = some (n, f)) (k : WP ar ro sa M d nx lv (.int (Int32.ofNat n) :: st) h kc ks Φ) : WP ar ro sa M d pc lv (.ref a :: st) h kc ks Φ := by
  obtain ⟨h9, rfl⟩ := hd
  exact WPc.intro ar ro sa ⟨_, _, h9, Or.inr (Or.inl (Or.inr ⟨n, f, ha, k⟩))⟩
theorem r_new {i ci : Nat} {fs : List Value} (hd : dc M pc (.new i) 3 nx) (hc : CLn (mo M) i ci fs) (h1 : 1 ≤ kc) (h2 : fs.length ≤ ks) (k : ∀ q : Nat, h q = none → WP ar ro sa M d nx lv (.ref q :: st) (hset h q (.inr (ci, fs))) (kc - 1) (ks - fs.length) Φ) : WP ar ro sa M d pc lv st h kc ks Φ := by
  obtain ⟨h9, rfl⟩ := hd
  exact WPc.intro ar ro sa ⟨_, _, h9, Or.inr (Or.inl ⟨ci, fs, hc, h1, h2, k⟩)⟩
theorem r_newi {n : Int32} {N : Nat} (hd : dc M pc (.newarray .int) 2 nx) (hn : ¬ n < 0) (hN : n.toNatClampNeg = N) (hb : N ≤ 10000) (h1 : 1 ≤ kc) (h2 : N ≤ ks) (k : ∀ q : Nat, h q = none → WP ar ro sa M d nx lv (.ref q :: st) (hset h q (.inl (ar 0, N, .inl (fun _ => 0)))) (kc - 1) (ks - N) Φ) : WP ar ro sa M d pc lv (.int n :: st) h kc ks Φ := by
  subst hN; obtain ⟨h9, rfl⟩ := hd
  exact WPc.intro ar ro sa ⟨_, _, h9, Or.inr (Or.inl ⟨hn, hb, h1, h2, k⟩)⟩
theorem r_newl {n : Int32} {N : Nat} (hd : dc M pc (.newarray .long) 2 nx) (hn : ¬ n < 0) (hN : n.toNatClampNeg = N) (hb : N ≤ 10000) (h1 : 1 ≤ kc) (h2 : N ≤ ks) (k : ∀ q : Nat, h q = none → WP ar ro sa M d nx lv (.ref q :: st) (hset h q (.inl (ar 1, N, .inr (.inl (fun _ => 0))))) (kc - 1) (ks - N) Φ) : WP ar ro sa M d pc lv (.int n :: st) h kc ks Φ := by
  subst hN; obtain ⟨h9, rfl⟩ := hd
  exact WPc.intro ar ro sa ⟨_, _, h9, Or.inr (Or.inl ⟨hn, hb, h1, h2, k⟩)⟩
theorem r_newz {n : Int32} {N : Nat} (hd : dc M pc (.newarray .boolean) 2 nx) (hn : ¬ n < 0) (hN : n.toNatClampNeg = N) (hb : N ≤ 10000) (h1 : 1 ≤ kc) (h2 : N ≤ ks) (k : ∀ q : Nat, h q = none → WP ar ro sa M d nx lv (.ref q :: st) (hset h q (.inl (ar 2, N, .inl (fun _ => 0)))) (kc - 1) (ks - N) Φ) : WP ar ro sa M d pc lv (.int n :: st) h kc ks Φ := by
  subst hN; obtain ⟨h9, rfl⟩ := hd
  exact WPc.intro ar ro sa ⟨_, _, h9, Or.inr (Or.inl ⟨hn, hb, h1, h2, k⟩)⟩
theorem r_newb {n : Int32} {N : Nat} (hd : dc M pc (.newarray .byte) 2 nx) (hn : ¬ n < 0) (hN : n.toNatClampNeg = N) (hb : N ≤ 10000) (h1 : 1 ≤ kc) (h2 : N ≤ ks) (k : ∀ q : Nat, h q = none → WP ar ro sa M d nx lv (.ref q :: st) (hset h q (.inl (ar 3, N, .inl (fun _ => 0)))) (kc - 1) (ks - N) Φ) : WP ar ro sa M d pc lv (.int n :: st) h kc ks Φ := by
  subst hN; obtain ⟨h9, rfl⟩ := hd
  exact WPc.intro ar ro sa ⟨_, _, h9, Or.inr (Or.inl ⟨hn, hb, h1, h2, k⟩)⟩
theorem r_newq {n : Int32} {N i t : Nat} {C : String} (hd : dc M pc (.anewarray i) 3 nx) (ht : 4 ≤ t ∧ t ≤ 8) (hC : tyN t = .object C) (hl : Cond.classLink (cn (mo M)) i C ∈ tblG) (ho : Cond.arrayOver (.object C) ∈ exL) (hn : ¬ n < 0) (hN : n.toNatClampNeg = N) (hb : N ≤ 10000) (h1 : 1 ≤ kc) (h2 : N ≤ ks) (k : ∀ q : Nat, h q = none → WP ar ro sa M d nx lv (.ref q :: st) (hset h q (.inl (ar t, N, .inr (.inr (.inr (.inr (fun _ => none))))))) (kc - 1) (ks - N) Φ) : WP ar ro sa M d pc lv (.int n :: st) h kc ks Φ := by
  subst hN; obtain ⟨h9, rfl⟩ := hd
  exact WPc.intro ar ro sa ⟨_, _, h9, Or.inr (Or.inl ⟨t, C, ht.1, ht.2, hC, hl, ho, hn, hb, h1, h2, k⟩)⟩
theorem r_idiv {x y : Int32} (hd : dc M pc .idiv 1 nx) (hy : ¬ y = 0) (k : WP ar ro sa M d nx lv (.int (x / y) :: st) h kc ks Φ) : WP ar ro sa M d pc lv (.int y :: .int x :: st) h kc ks Φ := by
  obtain ⟨h9, rfl⟩ := hd
  exact WPc.intro ar ro sa ⟨_, _, h9, Or.inr (Or.inr (Or.inl ⟨hy, k⟩))⟩
theorem r_irem {x y : Int32} (hd : dc M pc .irem 1 nx) (hy : ¬ y = 0) (k : WP ar ro sa M d nx lv (.int (x - x / y * y) :: st) h kc ks Φ) : WP ar ro sa M d pc lv (.int y :: .int x :: st) h kc ks Φ := by
  obtain ⟨h9, rfl⟩ := hd
  exact WPc.intro ar ro sa ⟨_, _, h9, Or.inr (Or.inr (Or.inl ⟨hy, k⟩))⟩
theorem r_ldiv {x y : Int64} (hd : dc M pc .ldiv 1 nx) (hy : ¬ y = 0) (k : WP ar ro sa M d nx lv (.long (x / y) :: st) h kc ks Φ) : WP ar ro sa M d pc lv (.long y :: .long x :: st) h kc ks Φ := by
  obtain ⟨h9, rfl⟩ := hd
  exact WPc.intro ar ro sa ⟨_, _, h9, Or.inr (Or.inr (Or.inl ⟨hy, k⟩))⟩
theorem r_ldc {i : Nat} {v : Int32} (hd : dc M pc (.ldc i) 2 nx) (hc : Cond.constant (cn (mo M)) i v ∈ tblG) (k : WP ar ro sa M d nx lv (.int v :: st) h kc ks Φ) : WP ar ro sa M d pc lv st h kc ks Φ := by
  obtain ⟨h9, rfl⟩ := hd
  exact WPc.intro ar ro sa ⟨_, _, h9, Or.inr (Or.inr (Or.inl (Or.inl ⟨v, hc, k⟩)))⟩
theorem r_ldcw {i : Nat} {v : Int32} (hd : dc M pc (.ldc_w i) 3 nx) (hc : Cond.constant (cn (mo M)) i v ∈ tblG) (k : WP ar ro sa M d nx lv (.int v :: st) h kc ks Φ) : WP ar ro sa M d pc lv st h kc ks Φ := by
  obtain ⟨h9, rfl⟩ := hd
  exact WPc.intro ar ro sa ⟨_, _, h9, Or.inr (Or.inr (Or.inl (Or.inl ⟨v, hc, k⟩)))⟩
theorem r_ldcs {i j : Nat} {tx : String} (hd : dc M pc (.ldc i) 2 nx) (hc : strT[j]? = some (mo M, i, tx)) (k : WP ar ro sa M d nx lv (.ref (sa j) :: st) h kc ks Φ) : WP ar ro sa M d pc lv st h kc ks Φ := by
  obtain ⟨h9, rfl⟩ := hd
  exact WPc.intro ar ro sa ⟨_, _, h9, Or.inr (Or.inr (Or.inl (Or.inr ⟨j, tx, hc, k⟩)))⟩
theorem r_ldcws {i j : Nat} {tx : String} (hd : dc M pc (.ldc_w i) 3 nx) (hc : strT[j]? = some (mo M, i, tx)) (k : WP ar ro sa M d nx lv (.ref (sa j) :: st) h kc ks Φ) : WP ar ro sa M d pc lv st h kc ks Φ := by
  obtain ⟨h9, rfl⟩ := hd
  exact WPc.intro ar ro sa ⟨_, _, h9, Or.inr (Or.inr (Or.inl (Or.inr ⟨j, tx, hc, k⟩)))⟩
theorem r_ldc2 {i : Nat} {v : Int64} (hd : dc M pc (.ldc2_w i) 3 nx) (hc : Cond.constantLong (cn (mo M)) i v ∈ tblG) (k : WP ar ro sa M d nx lv (.long v :: st) h kc ks Φ) : WP ar ro sa M d pc lv st h kc ks Φ := by
  obtain ⟨h9, rfl⟩ := hd
  exact WPc.intro ar ro sa ⟨_, _, h9, Or.inr (Or.inr (Or.inl ⟨v, hc, k⟩))⟩
theorem r_iret {v : Int32} (hd : dc M pc .ireturn 1 nx) (hr : mr M = some .int) (hq : Φ (.inl (some (.int v))) h) : WP ar ro sa M d pc lv [.int v] h kc ks Φ := WPc.intro ar ro sa ⟨_, _, hd.1, Or.inr (Or.inr (Or.inr (Or.inl (⟨Or.inl hr, hq⟩))))⟩
theorem r_zret {v : Int32} (hd : dc M pc .ireturn 1 nx) (hr : mr M = some .boolean) (hn : narrow .boolean (.int v) = .int v) (hq : Φ (.inl (some (.int v))) h) : WP ar ro sa M d pc lv [.int v] h kc ks Φ := WPc.intro ar ro sa ⟨_, _, hd.1, Or.inr (Or.inr (Or.inr (Or.inl (⟨Or.inr ⟨hr, hn⟩, hq⟩))))⟩
theorem r_lret {v : Int64} (hd : dc M pc .lreturn 1 nx) (hr : mr M = some .long) (hq : Φ (.inl (some (.long v))) h) : WP ar ro sa M d pc lv [.long v] h kc ks Φ := WPc.intro ar ro sa ⟨_, _, hd.1, Or.inr (Or.inr (Or.inr (Or.inl (⟨hr, hq⟩))))⟩
theorem r_vret  (hd : dc M pc .return_ 1 nx) (hr : mr M = none) (hq : Φ (.inl none) h) : WP ar ro sa M d pc lv [] h kc ks Φ := WPc.intro ar ro sa ⟨_, _, hd.1, Or.inr (Or.inr (Or.inr (Or.inl (⟨hr, hq⟩))))⟩
/-- the words of 'throw new E()' at a place -/
def THk (M : Mth) (pc ik ic : Nat) (E : String) (names : List String) : Prop := mh M = [] ∧ Bundle.fit E = true ∧ (∀ n ∈ names, Bundle.fit n = true) ∧ Cond.classLink (cn (mo M)) ik E ∈ tblG ∧ Cond.initialized E ∈ tblG ∧ (∀ w ∈ vx_at0 (cn (mo M)) ic E names, (w ∈ tblG ∨ w ∈ exL) ∧ vx_ot w = true) ∧ decode (mb M) pc = .ok (.new ik, 3) ∧ decode (mb M) (pc + 3) = .ok (.dup, 1) ∧ decode (mb M) (pc + 4) = .ok (.invokespecial ic, 3) ∧ decode (mb M) (pc + 7) = .ok (.athrow, 1) ∧ names.length ≤ 4
theorem r_throw {ik ic : Nat} {E : String} {names : List String} (ht : THk M pc ik ic E names) (hs : (st.map fun v => v.category).sum ≤ 8) (h1 : 1 ≤ kc) (h2 : 6 ≤ ks) (hq : Φ (.inr E) h) : WP ar ro sa M d pc lv st h kc ks Φ := by
  obtain ⟨t1, t2, t3, t4, t5, t6, t7, t8, t9, t10, t11⟩ := ht
  exact WPc.intro ar ro sa ⟨_, _, t7, Or.inr (Or.inr (Or.inr (Or.inl ⟨ic, E, names, t1, t2, t3, t4, t5, t6, t8, t9, t10, t11, hs, h1, h2, hq⟩)))⟩
abbrev CT (ar : Nat → ClassId) (ro : Nat → Option (Nat × (Nat → Int32))) (sa : Nat → Nat) (M : Mth) (d : Nat) (av : List Value) (h : Hp) (mc ms : Nat) (Ψ : Ou → Hp → Prop) : Prop := WP ar ro sa M d 0 (entL av (ml M)) [] h mc ms Ψ
def Lkd (M : Mth) (idx : Nat) (M' : Mth) : Prop := Cond.methodLink (cn (mo M)) idx (my M') ∈ tblG
theorem r_stat {idx d' mc ms : Nat} {M' : Mth} {As rest : List Value}  {post : Option Value → Hp → Prop}  (hd : dc M pc (.invokestatic idx) 3 nx) (hl : MLk (mo M) idx M' 0 As.length)  (hst : st = As.reverse ++ rest)  (hdd : d = d' + 1) (hw : (rest.map fun v => v.category).sum ≤ 8) (ha : (lg_sl (As)).length ≤ ml M') (h1 : mc ≤ kc) (h2 : ms ≤ ks) (hq : CT ar ro sa M' d' (As) h mc ms (Ex post No))  (k : ∀ (v : Option Value) (h' : Hp), post v h' → WP ar ro sa M d nx lv (v.toList ++ rest) h' (kc - mc) (ks - ms) Φ) : WP ar ro sa M d pc lv st h kc ks Φ := by
  obtain ⟨h9, rfl⟩ := hd
  exact WPc.intro ar ro sa ⟨_, _, h9, Or.inr (Or.inr (Or.inr (Or.inr (Or.inl ⟨idx, 0, d', mc, ms, M', As, rest, _, Ex post No, hdd, rfl, hl, Or.inl ⟨rfl, rfl, hst, rfl⟩, hw, ha, h1, h2, hq, k, fun E h' q => q.elim⟩))))⟩
theorem r_statX {idx d' mc ms : Nat} {M' : Mth} {As rest : List Value}  {post : Option Value → Hp → Prop} {xs : String → Hp → Prop} (hd : dc M pc (.invokestatic idx) 3 nx) (hl : MLk (mo M) idx M' 0 As.length) (hL : Lkd M idx M') (hst : st = As.reverse ++ rest)  (hdd : d = d' + 1) (hw : (rest.map fun v => v.category).sum ≤ 8) (ha : (lg_sl (As)).length ≤ ml M') (h1 : mc ≤ kc) (h2 : ms ≤ ks) (hq : CT ar ro sa M' d' (As) h mc ms (Ex post xs)) (kx : ∀ (E : String) (h' : Hp), xs E h' → (mh M = [] ∧ Φ (.inr E) h') ∨ (∃ hpc : Nat, XHs M pc E hpc ncsL ∧ ∀ q : Nat, WP ar ro sa M d hpc lv [.ref q] h' (kc - mc) (ks - ms) Φ)) (k : ∀ (v : Option Value) (h' : Hp), post v h' → WP ar ro sa M d nx lv (v.toList ++ rest) h' (kc - mc) (ks - ms) Φ) : WP ar ro sa M d pc lv st h kc ks Φ := by
  obtain ⟨h9, rfl⟩ := hd
  exact WPc.intro ar ro sa ⟨_, _, h9, Or.inr (Or.inr (Or.inr (Or.inr (Or.inl ⟨idx, 0, d', mc, ms, M', As, rest, _, Ex post xs, hdd, rfl, hl, Or.inl ⟨rfl, rfl, hst, rfl⟩, hw, ha, h1, h2, hq, k, fun E h' q => ⟨⟨hL, by decide⟩, kx E h' q⟩⟩))))⟩
theorem r_virt {idx d' mc ms : Nat} {M' : Mth} {As rest : List Value} {b ci : Nat} {fs : List Value} {r : vw_C} {post : Option Value → Hp → Prop}  (hd : dc M pc (.invokevirtual idx) 3 nx) (hl : MLk (mo M) idx M' 1 As.length)  (hst : st = As.reverse ++ .ref b :: rest) (hb : h b = some (.inr (ci, fs))) (hc : clsL[ci]? = some r) (hr : r.1 = (my M').cls) (hdd : d = d' + 1) (hw : (rest.map fun v => v.category).sum ≤ 8) (ha : (lg_sl (.ref b :: As)).length ≤ ml M') (h1 : mc ≤ kc) (h2 : ms ≤ ks) (hq : CT ar ro sa M' d' (.ref b :: As) h mc ms (Ex post No))  (k : ∀ (v : Option Value) (h' : Hp), post v h' → WP ar ro sa M d nx lv (v.toList ++ rest) h' (kc - mc) (ks - ms) Φ) : WP ar ro sa M d pc lv st h kc ks Φ := by
  obtain ⟨h9, rfl⟩ := hd
  exact WPc.intro ar ro sa ⟨_, _, h9, Or.inr (Or.inr (Or.inr (Or.inr (Or.inl ⟨idx, 1, d', mc, ms, M', As, rest, _, Ex post No, hdd, rfl, hl, Or.inr (Or.inl ⟨b, ci, fs, r, rfl, rfl, hst, rfl, hb, hc, hr⟩), hw, ha, h1, h2, hq, k, fun E h' q => q.elim⟩))))⟩
theorem r_virtX {idx d' mc ms : Nat} {M' : Mth} {As rest : List Value} {b ci : Nat} {fs : List Value} {r : vw_C} {post : Option Value → Hp → Prop} {xs : String → Hp → Prop} (hd : dc M pc (.invokevirtual idx) 3 nx) (hl : MLk (mo M) idx M' 1 As.length) (hL : Lkd M idx M') (hst : st = As.reverse ++ .ref b :: rest) (hb : h b = some (.inr (ci, fs))) (hc : clsL[ci]? = some r) (hr : r.1 = (my M').cls) (hdd : d = d' + 1) (hw : (rest.map fun v => v.category).sum ≤ 8) (ha : (lg_sl (.ref b :: As)).length ≤ ml M') (h1 : mc ≤ kc) (h2 : ms ≤ ks) (hq : CT ar ro sa M' d' (.ref b :: As) h mc ms (Ex post xs)) (kx : ∀ (E : String) (h' : Hp), xs E h' → (mh M = [] ∧ Φ (.inr E) h') ∨ (∃ hpc : Nat, XHs M pc E hpc ncsL ∧ ∀ q : Nat, WP ar ro sa M d hpc lv [.ref q] h' (kc - mc) (ks - ms) Φ)) (k : ∀ (v : Option Value) (h' : Hp), post v h' → WP ar ro sa M d nx lv (v.toList ++ rest) h' (kc - mc) (ks - ms) Φ) : WP ar ro sa M d pc lv st h kc ks Φ := by
  obtain ⟨h9, rfl⟩ := hd
  exact WPc.intro ar ro sa ⟨_, _, h9, Or.inr (Or.inr (Or.inr (Or.inr (Or.inl ⟨idx, 1, d', mc, ms, M', As, rest, _, Ex post xs, hdd, rfl, hl, Or.inr (Or.inl ⟨b, ci, fs, r, rfl, rfl, hst, rfl, hb, hc, hr⟩), hw, ha, h1, h2, hq, k, fun E h' q => ⟨⟨hL, by decide⟩, kx E h' q⟩⟩))))⟩
theorem r_init {idx d' mc ms : Nat} {M' : Mth} {As rest : List Value} {b : Nat} {post : Option Value → Hp → Prop}  (hd : dc M pc (.invokespecial idx) 3 nx) (hl : MLk (mo M) idx M' 2 As.length)  (hst : st = As.reverse ++ .ref b :: rest)  (hdd : d = d' + 1) (hw : (rest.map fun v => v.category).sum ≤ 8) (ha : (lg_sl (.ref b :: As)).length ≤ ml M') (h1 : mc ≤ kc) (h2 : ms ≤ ks) (hq : CT ar ro sa M' d' (.ref b :: As) h mc ms (Ex post No))  (k : ∀ (v : Option Value) (h' : Hp), post v h' → WP ar ro sa M d nx lv (v.toList ++ rest) h' (kc - mc) (ks - ms) Φ) : WP ar ro sa M d pc lv st h kc ks Φ := by
  obtain ⟨h9, rfl⟩ := hd
  exact WPc.intro ar ro sa ⟨_, _, h9, Or.inr (Or.inr (Or.inr (Or.inr (Or.inl ⟨idx, 2, d', mc, ms, M', As, rest, _, Ex post No, hdd, rfl, hl, Or.inr (Or.inr ⟨b, rfl, rfl, hst, rfl⟩), hw, ha, h1, h2, hq, k, fun E h' q => q.elim⟩))))⟩
theorem r_objinit {i a : Nat} (hd : dc M pc (.invokespecial i) 3 nx) (hl : Cond.methodLink (cn (mo M)) i objectInit ∈ tblG) (h2 : Cond.instanceMethod objectInit ∈ tblG) (h3 : Cond.code objectInit ⟨#[0xb1]⟩ 1 none ∈ tblG) (hs : (st.map fun v => v.category).sum ≤ 8) (k : WP ar ro sa M d nx lv st h kc ks Φ) : WP ar ro sa M d pc lv (.ref a :: st) h kc ks Φ := by
  obtain ⟨h9, rfl⟩ := hd
  exact WPc.intro ar ro sa ⟨_, _, h9, Or.inr (Or.inr (Or.inr (Or.inr (Or.inr (⟨hl, h2, h3, hs, k⟩)))))⟩
end RW
end
section
theorem exL_in {i : Nat} {w : Cond} (h : tables_1[i]? = some w) (hg : exP w = true) : w ∈ exL := List.mem_filter.mpr ⟨List.mem_of_getElem? h, hg⟩
theorem tblG_sel {i : Nat} {w : Cond} (h : (k2_sels lw_privs)[i]? = some w) (hg : goodWord w = true) : w ∈ tblG := List.mem_filter.mpr ⟨List.mem_append_left _ (List.mem_of_getElem? h), hg⟩
theorem iniG0 : Cond.initialized (cn 0) ∈ tblG := tblG_in (i := 4) (by decide +kernel) (by decide +kernel)
theorem iniG1 : Cond.initialized (cn 1) ∈ tblG := tblG_in (i := 10) (by decide +kernel) (by decide +kernel)
theorem iniG2 : Cond.initialized (cn 2) ∈ tblG := tblG_in (i := 3) (by decide +kernel) (by decide +kernel)
theorem iniG3 : Cond.initialized (cn 3) ∈ tblG := tblG_in (i := 2) (by decide +kernel) (by decide +kernel)
theorem iniG4 : Cond.initialized (cn 4) ∈ tblG := tblG_in (i := 9) (by decide +kernel) (by decide +kernel)
theorem iniG5 : Cond.initialized (cn 5) ∈ tblG := tblG_in (i := 11) (by decide +kernel) (by decide +kernel)
theorem iniG6 : Cond.initialized (cn 6) ∈ tblG := tblG_in (i := 7) (by decide +kernel) (by decide +kernel)
theorem iniG7 : Cond.initialized (cn 7) ∈ tblG := tblG_in (i := 8) (by decide +kernel) (by decide +kernel)
theorem iniG8 : Cond.initialized (cn 8) ∈ tblG := tblG_in (i := 12) (by decide +kernel) (by decide +kernel)
theorem iniG9 : Cond.initialized (cn 9) ∈ tblG := tblG_in (i := 6) (by decide +kernel) (by decide +kernel)
theorem iniG10 : Cond.initialized (cn 10) ∈ tblG := tblG_in (i := 5) (by decide +kernel) (by decide +kernel)
theorem iniG11 : Cond.initialized (cn 11) ∈ tblG := tblG_in (i := 1) (by decide +kernel) (by decide +kernel)
theorem iniG12 : Cond.initialized (cn 12) ∈ tblG := tblG_in (i := 13) (by decide +kernel) (by decide +kernel)
theorem iniG13 : Cond.initialized (cn 13) ∈ tblG := tblG_in (i := 0) (by decide +kernel) (by decide +kernel)
theorem inX0 : ∀ w ∈ u_ws RX0 TX0 11, w ∈ tblG := by decide +kernel
theorem inX1 : ∀ w ∈ u_ws RX1 TX1 11, w ∈ tblG := by decide +kernel
theorem inX2 : ∀ w ∈ u_ws RX2 TX2 8, w ∈ tblG := by decide +kernel
theorem inX3 : ∀ w ∈ u_ws RX3 TX3 17, w ∈ tblG := by decide +kernel
theorem inX4 : ∀ w ∈ u_ws RX4 TX4 8, w ∈ tblG := by decide +kernel
theorem inX5 : ∀ w ∈ u_ws RX5 TX5 14, w ∈ tblG := by decide +kernel
theorem inX6 : ∀ w ∈ u_ws RX6 TX6 1, w ∈ tblG := by decide +kernel
theorem inX7 : ∀ w ∈ u_ws RX7 TX7 11, w ∈ tblG := by decide +kernel
theorem inX8 : ∀ w ∈ u_ws RX8 TX8 4, w ∈ tblG := by decide +kernel
theorem inX9 : ∀ w ∈ u_ws RX9 TX9 10, w ∈ tblG := by decide +kernel
theorem inX10 : ∀ w ∈ u_ws RX10 TX10 12, w ∈ tblG := by decide +kernel
theorem inX11 : ∀ w ∈ u_ws RX11 TX11 12, w ∈ tblG := by decide +kernel
theorem inX12 : ∀ w ∈ u_ws RX12 TX12 40, w ∈ tblG := by decide +kernel
def mX0_init : Mth := (yX0_init, cX0_init, 1, none, 0, [])
def mX0_addTelling : Mth := (yX0_addTelling, cX0_addTelling, 5, (some .int), 0, [])
def mX0_addListed : Mth := (yX0_addListed, cX0_addListed, 6, (some .int), 0, [])
def mX0_addRecord : Mth := (yX0_addRecord, cX0_addRecord, 6, (some .int), 0, [])
def mX0_recordsOf : Mth := (yX0_recordsOf, cX0_recordsOf, 6, (some .int), 0, [])
def mX0_take : Mth := (yX0_take, cX0_take, 2, none, 0, [])
def mX1_init : Mth := (yX1_init, cX1_init, 3, none, 1, [])
def mX1_begin : Mth := (yX1_begin, cX1_begin, 7, none, 1, [])
def mX1_search : Mth := (yX1_search, cX1_search, 5, (some .boolean), 1, [])
def mX1_allGoOn : Mth := (yX1_allGoOn, cX1_allGoOn, 6, (some .boolean), 1, [])
def mX1_arriving : Mth := (yX1_arriving, cX1_arriving, 11, (some .int), 1, [])
def mX1_judge : Mth := (yX1_judge, cX1_judge, 5, none, 1, [])
def mX2_init : Mth := (yX2_init, cX2_init, 1, none, 2, [])
def mX2_addTongue : Mth := (yX2_addTongue, cX2_addTongue, 2, (some .int), 2, [])
def mX2_addWalker : Mth := (yX2_addWalker, cX2_addWalker, 6, (some .int), 2, [])
def mX2_kindsOf : Mth := (yX2_kindsOf, cX2_kindsOf, 3, (some .int), 2, [])
def mX2_howManyKnow : Mth := (yX2_howManyKnow, cX2_howManyKnow, 7, (some .int), 2, [])
def mX2_take : Mth := (yX2_take, cX2_take, 2, none, 2, [])
def mX3_init : Mth := (yX3_init, cX3_init, 1, none, 3, [])
def mX3_isTaken : Mth := (yX3_isTaken, cX3_isTaken, 4, (some .boolean), 3, [])
def mX3_addPlace : Mth := (yX3_addPlace, cX3_addPlace, 3, (some .int), 3, [])
def mX3_isJoined : Mth := (yX3_isJoined, cX3_isJoined, 9, (some .boolean), 3, [])
def mX3_addWay : Mth := (yX3_addWay, cX3_addWay, 7, (some .int), 3, [])
def mX3_addMark : Mth := (yX3_addMark, cX3_addMark, 6, (some .int), 3, [])
def mX3_marksOf : Mth := (yX3_marksOf, cX3_marksOf, 5, (some .int), 3, [])
def mX3_take : Mth := (yX3_take, cX3_take, 2, none, 3, [])
def mX4_init : Mth := (yX4_init, cX4_init, 2, none, 4, [])
def mX4_start : Mth := (yX4_start, cX4_start, 2, none, 4, [])
def mX4_spread : Mth := (yX4_spread, cX4_spread, 2, none, 4, [])
def mX4_share : Mth := (yX4_share, cX4_share, 8, none, 4, [])
def mX4_goOn : Mth := (yX4_goOn, cX4_goOn, 7, none, 4, [])
def mX4_partsAt : Mth := (yX4_partsAt, cX4_partsAt, 4, (some .int), 4, [])
def mX4_sumUp : Mth := (yX4_sumUp, cX4_sumUp, 3, none, 4, [])
def mX4_meet : Mth := (yX4_meet, cX4_meet, 8, (some .int), 4, [])
def mX5_init : Mth := (yX5_init, cX5_init, 1, none, 5, [])
def mX5_put : Mth := (yX5_put, cX5_put, 3, none, 5, [])
def mX5_read : Mth := (yX5_read, cX5_read, 4, (some .int), 5, [])
def mX5_scan : Mth := (yX5_scan, cX5_scan, 2, none, 5, [])
def mX5_scanNumber : Mth := (yX5_scanNumber, cX5_scanNumber, 2, none, 5, [])
def mX5_scanWord : Mth := (yX5_scanWord, cX5_scanWord, 3, none, 5, [])
def mX5_isWord : Mth := (yX5_isWord, cX5_isWord, 4, (some .boolean), 5, [])
def mX5_take : Mth := (yX5_take, cX5_take, 1, (some .int), 5, [])
def mX5_await : Mth := (yX5_await, cX5_await, 3, (some .int), 5, [])
def mX5_keep : Mth := (yX5_keep, cX5_keep, 4, (some .int), 5, [])
def mX5_takeFirst : Mth := (yX5_takeFirst, cX5_takeFirst, 2, (some .int), 5, [])
def mX5_takeWord : Mth := (yX5_takeWord, cX5_takeWord, 1, (some .int), 5, [])
def mX5_isBadNumber : Mth := (yX5_isBadNumber, cX5_isBadNumber, 1, (some .boolean), 5, [])
def mX5_takeAmount : Mth := (yX5_takeAmount, cX5_takeAmount, 2, (some .int), 5, [])
def mX5_takeSide : Mth := (yX5_takeSide, cX5_takeSide, 1, (some .int), 5, [])
def mX5_takeMore : Mth := (yX5_takeMore, cX5_takeMore, 1, (some .int), 5, [])
def mX6_init : Mth := (yX6_init, cX6_init, 1, none, 6, [])
def mX6_stateOf : Mth := (yX6_stateOf, cX6_stateOf, 2, (some .int), 6, [])
def mX6_clear : Mth := (yX6_clear, cX6_clear, 1, none, 6, [])
def mX6_add : Mth := (yX6_add, cX6_add, 3, none, 6, [])
def mX6_addArrows : Mth := (yX6_addArrows, cX6_addArrows, 5, none, 6, [])
def mX6_isEmpty : Mth := (yX6_isEmpty, cX6_isEmpty, 1, (some .boolean), 6, [])
def mX6_size : Mth := (yX6_size, cX6_size, 1, (some .int), 6, [])
def mX6_list : Mth := (yX6_list, cX6_list, 8, (some .int), 6, [])
def mX6_nth : Mth := (yX6_nth, cX6_nth, 5, (some .int), 6, [])
def mX7_init : Mth := (yX7_init, cX7_init, 2, none, 7, [])
def mX7_begin : Mth := (yX7_begin, cX7_begin, 6, none, 7, [])
def mX7_go : Mth := (yX7_go, cX7_go, 3, (some .boolean), 7, [])
def mX7_clearNow : Mth := (yX7_clearNow, cX7_clearNow, 2, none, 7, [])
def mX7_carry : Mth := (yX7_carry, cX7_carry, 12, none, 7, [])
def mX8_init : Mth := (yX8_init, cX8_init, 1, none, 8, [])
def mX8_lay : Mth := (yX8_lay, cX8_lay, 3, none, 8, [])
def mX8_cut : Mth := (yX8_cut, cX8_cut, 3, (some .long), 8, [])
def mX8_isSayable : Mth := (yX8_isSayable, cX8_isSayable, 2, (some .boolean), 8, [])
def mX9_init : Mth := (yX9_init, cX9_init, 4, none, 9, [])
def mX9_learnGround : Mth := (yX9_learnGround, cX9_learnGround, 4, none, 9, [])
def mX9_become : Mth := (yX9_become, cX9_become, 2, none, 9, [])
def mX9_suppose : Mth := (yX9_suppose, cX9_suppose, 4, none, 9, [])
def mX9_placesWith : Mth := (yX9_placesWith, cX9_placesWith, 2, (some .long), 9, [])
def mX9_seenPlaces : Mth := (yX9_seenPlaces, cX9_seenPlaces, 2, (some .long), 9, [])
def mX9_lead : Mth := (yX9_lead, cX9_lead, 7, none, 9, [])
def mX9_sideOf : Mth := (yX9_sideOf, cX9_sideOf, 3, (some .int), 9, [])
def mX9_goTimes : Mth := (yX9_goTimes, cX9_goTimes, 7, none, 9, [])
def mX9_goUntil : Mth := (yX9_goUntil, cX9_goUntil, 11, none, 9, [])
def mX9_goFar : Mth := (yX9_goFar, cX9_goFar, 12, none, 9, [])
def mX9_staySeeing : Mth := (yX9_staySeeing, cX9_staySeeing, 7, none, 9, [])
def mX9_stayAheadOf : Mth := (yX9_stayAheadOf, cX9_stayAheadOf, 10, none, 9, [])
def mX9_goBack : Mth := (yX9_goBack, cX9_goBack, 5, none, 9, [])
def mX9_turn : Mth := (yX9_turn, cX9_turn, 7, none, 9, [])
def mX9_turnAt : Mth := (yX9_turnAt, cX9_turnAt, 21, none, 9, [])
def mX9_follow : Mth := (yX9_follow, cX9_follow, 8, (some .int), 9, [])
def mX9_lastPlaces : Mth := (yX9_lastPlaces, cX9_lastPlaces, 3, (some .long), 9, [])
def mX9_getsThere : Mth := (yX9_getsThere, cX9_getsThere, 3, (some .boolean), 9, [])
def mX10_init : Mth := (yX10_init, cX10_init, 2, none, 10, [])
def mX10_forget : Mth := (yX10_forget, cX10_forget, 1, none, 10, [])
def mX10_isPreparedFor : Mth := (yX10_isPreparedFor, cX10_isPreparedFor, 2, (some .boolean), 10, [])
def mX10_prepare : Mth := (yX10_prepare, cX10_prepare, 5, none, 10, [])
def mX10_layWays : Mth := (yX10_layWays, cX10_layWays, 4, none, 10, [])
def mX10_isThere : Mth := (yX10_isThere, cX10_isThere, 4, (some .boolean), 10, [])
def mX10_addWay : Mth := (yX10_addWay, cX10_addWay, 9, none, 10, [])
def mX10_addMark : Mth := (yX10_addMark, cX10_addMark, 5, none, 10, [])
def mX10_placesWith : Mth := (yX10_placesWith, cX10_placesWith, 5, (some .long), 10, [])
def mX10_seenPlaces : Mth := (yX10_seenPlaces, cX10_seenPlaces, 7, (some .long), 10, [])
def mX10_look : Mth := (yX10_look, cX10_look, 30, (some .int), 10, [])
def mX10_placesOf : Mth := (yX10_placesOf, cX10_placesOf, 8, (some .long), 10, [])
def mX11_init : Mth := (yX11_init, cX11_init, 2, none, 11, [])
def mX11_place : Mth := (yX11_place, cX11_place, 3, (some .int), 11, [])
def mX11_way : Mth := (yX11_way, cX11_way, 7, (some .int), 11, [])
def mX11_mark : Mth := (yX11_mark, cX11_mark, 6, (some .int), 11, [])
def mX11_ends : Mth := (yX11_ends, cX11_ends, 7, (some .int), 11, [])
def mX11_state : Mth := (yX11_state, cX11_state, 3, (some .int), 11, [])
def mX11_out : Mth := (yX11_out, cX11_out, 5, (some .int), 11, [])
def mX11_on : Mth := (yX11_on, cX11_on, 5, (some .int), 11, [])
def mX11_tongue : Mth := (yX11_tongue, cX11_tongue, 1, (some .int), 11, [])
def mX11_means : Mth := (yX11_means, cX11_means, 5, (some .int), 11, [])
def mX11_walker : Mth := (yX11_walker, cX11_walker, 6, (some .int), 11, [])
def mX11_stands : Mth := (yX11_stands, cX11_stands, 6, (some .boolean), 11, [])
def mX11_worth : Mth := (yX11_worth, cX11_worth, 6, (some .int), 11, [])
def mX11_feed : Mth := (yX11_feed, cX11_feed, 6, (some .int), 11, [])
def mX11_telling : Mth := (yX11_telling, cX11_telling, 5, (some .int), 11, [])
def mX11_fault : Mth := (yX11_fault, cX11_fault, 2, (some .int), 11, [])
def mX11_sayings : Mth := (yX11_sayings, cX11_sayings, 2, (some .int), 11, [])
def mX11_leads : Mth := (yX11_leads, cX11_leads, 7, (some .int), 11, [])
def mX11_holds : Mth := (yX11_holds, cX11_holds, 5, (some .int), 11, [])
def mX11_end : Mth := (yX11_end, cX11_end, 8, (some .int), 11, [])
def mX11_right : Mth := (yX11_right, cX11_right, 5, (some .boolean), 11, [])
def mX11_odds : Mth := (yX11_odds, cX11_odds, 6, (some .int), 11, [])
def mX11_parts : Mth := (yX11_parts, cX11_parts, 10, (some .int), 11, [])
def mX11_hangs : Mth := (yX11_hangs, cX11_hangs, 8, (some .int), 11, [])
def mX11_years : Mth := (yX11_years, cX11_years, 10, (some .int), 11, [])
def mX11_two : Mth := (yX11_two, cX11_two, 8, (some .int), 11, [])
def mX11_ask : Mth := (yX11_ask, cX11_ask, 12, (some .int), 11, [])
def mX11_lossBehind : Mth := (yX11_lossBehind, cX11_lossBehind, 6, (some .int), 11, [])
def mX11_shortest : Mth := (yX11_shortest, cX11_shortest, 8, (some .int), 11, [])
def mX11_went : Mth := (yX11_went, cX11_went, 6, (some .int), 11, [])
def mX11_learned : Mth := (yX11_learned, cX11_learned, 5, (some .int), 11, [])
def mX11_kindsThatFit : Mth := (yX11_kindsThatFit, cX11_kindsThatFit, 7, (some .int), 11, [])
def mX11_teller : Mth := (yX11_teller, cX11_teller, 7, (some .int), 11, [])
def mX11_told : Mth := (yX11_told, cX11_told, 3, (some .int), 11, [])
def mX11_tray : Mth := (yX11_tray, cX11_tray, 4, none, 11, [])
def mX11_write : Mth := (yX11_write, cX11_write, 5, (some .long), 11, [])
def mX11_say : Mth := (yX11_say, cX11_say, 4, (some .int), 11, [])
def mX11_image : Mth := (yX11_image, cX11_image, 2, none, 11, [])
def mX11_restore : Mth := (yX11_restore, cX11_restore, 2, none, 11, [])
def mX11_count : Mth := (yX11_count, cX11_count, 2, (some .int), 11, [])
def mX11_needPlace : Mth := (yX11_needPlace, cX11_needPlace, 2, none, 11, [])
def mX11_needState : Mth := (yX11_needState, cX11_needState, 2, none, 11, [])
def mX11_needTongue : Mth := (yX11_needTongue, cX11_needTongue, 2, none, 11, [])
def mX11_needName : Mth := (yX11_needName, cX11_needName, 2, none, 11, [])
def mX11_needWalker : Mth := (yX11_needWalker, cX11_needWalker, 2, none, 11, [])
def mX11_needTelling : Mth := (yX11_needTelling, cX11_needTelling, 2, none, 11, [])
def mX11_needTray : Mth := (yX11_needTray, cX11_needTray, 2, none, 11, [])
def mX11_needLaid : Mth := (yX11_needLaid, cX11_needLaid, 2, none, 11, [])
def mX11_needImage : Mth := (yX11_needImage, cX11_needImage, 2, none, 11, [])
def mX11_needYear : Mth := (yX11_needYear, cX11_needYear, 2, none, 11, [])
def mX11_needYears : Mth := (yX11_needYears, cX11_needYears, 3, none, 11, [])
def mX11_needKinds : Mth := (yX11_needKinds, cX11_needKinds, 2, none, 11, [])
def mX11_needWalkers : Mth := (yX11_needWalkers, cX11_needWalkers, 2, none, 11, [])
def mX11_needTeller : Mth := (yX11_needTeller, cX11_needTeller, 2, none, 11, [])
def mX11_needTold : Mth := (yX11_needTold, cX11_needTold, 5, none, 11, [])
def mX11_setOut : Mth := (yX11_setOut, cX11_setOut, 3, none, 11, [])
def mX11_isIn : Mth := (yX11_isIn, cX11_isIn, 3, (some .boolean), 11, [])
def mX11_lowest : Mth := (yX11_lowest, cX11_lowest, 2, (some .int), 11, [])
def mX11_nthOf : Mth := (yX11_nthOf, cX11_nthOf, 7, (some .int), 11, [])
def mX11_wordOf : Mth := (yX11_wordOf, cX11_wordOf, 3, (some .int), 11, [])
def mX11_listedWord : Mth := (yX11_listedWord, cX11_listedWord, 1, (some .int), 11, [])
def mX12_init : Mth := (yX12_init, cX12_init, 1, none, 12, [])
def mX12_thrown : Mth := (yX12_thrown, cX12_thrown, 1, (some .int), 12, [])
def mX12_fails : Mth := (yX12_fails, cX12_fails, 2, (some .int), 12, [])
def mX12_fell : Mth := (yX12_fell, cX12_fell, 2, (some .boolean), 12, [])
def mX12_within : Mth := (yX12_within, cX12_within, 6, (some .boolean), 12, [])
def mX12_isYear : Mth := (yX12_isYear, cX12_isYear, 1, (some .boolean), 12, [])
def mX12_is : Mth := (yX12_is, cX12_is, 3, (some .boolean), 12, [])
def mX12_isPlace : Mth := (yX12_isPlace, cX12_isPlace, 2, (some .boolean), 12, [])
def mX12_isWalker : Mth := (yX12_isWalker, cX12_isWalker, 2, (some .boolean), 12, [])
def mX12_isTelling : Mth := (yX12_isTelling, cX12_isTelling, 2, (some .boolean), 12, [])
def mX12_isState : Mth := (yX12_isState, cX12_isState, 2, (some .boolean), 12, [])
def mX12_isName : Mth := (yX12_isName, cX12_isName, 1, (some .boolean), 12, [])
def mX12_more : Mth := (yX12_more, cX12_more, 2, (some .int), 12, [])
def mX12_place : Mth := (yX12_place, cX12_place, 4, (some .int), 12, [])
def mX12_wayOf : Mth := (yX12_wayOf, cX12_wayOf, 3, (some .int), 12, [])
def mX12_way : Mth := (yX12_way, cX12_way, 9, (some .int), 12, [])
def mX12_mark : Mth := (yX12_mark, cX12_mark, 7, (some .int), 12, [])
def mX12_ends : Mth := (yX12_ends, cX12_ends, 6, (some .int), 12, [])
def mX12_isThere : Mth := (yX12_isThere, cX12_isThere, 3, (some .boolean), 12, [])
def mX12_endOf : Mth := (yX12_endOf, cX12_endOf, 3, (some .int), 12, [])
def mX12_placeOf : Mth := (yX12_placeOf, cX12_placeOf, 2, (some .int), 12, [])
def mX12_alongX : Mth := (yX12_alongX, cX12_alongX, 2, (some .int), 12, [])
def mX12_alongY : Mth := (yX12_alongY, cX12_alongY, 2, (some .int), 12, [])
def mX12_state : Mth := (yX12_state, cX12_state, 3, (some .int), 12, [])
def mX12_isOut : Mth := (yX12_isOut, cX12_isOut, 4, (some .boolean), 12, [])
def mX12_cross : Mth := (yX12_cross, cX12_cross, 3, (some .int), 12, [])
def mX12_isLessTurned : Mth := (yX12_isLessTurned, cX12_isLessTurned, 4, (some .boolean), 12, [])
def mX12_dots : Mth := (yX12_dots, cX12_dots, 5, (some .long), 12, [])
def mX12_sizes : Mth := (yX12_sizes, cX12_sizes, 2, (some .long), 12, [])
def mX12_out : Mth := (yX12_out, cX12_out, 7, (some .int), 12, [])
def mX12_has : Mth := (yX12_has, cX12_has, 3, (some .boolean), 12, [])
def mX12_put : Mth := (yX12_put, cX12_put, 3, none, 12, [])
def mX12_join : Mth := (yX12_join, cX12_join, 5, none, 12, [])
def mX12_empty : Mth := (yX12_empty, cX12_empty, 3, none, 12, [])
def mX12_copy : Mth := (yX12_copy, cX12_copy, 5, none, 12, [])
def mX12_isNone : Mth := (yX12_isNone, cX12_isNone, 2, (some .boolean), 12, [])
def mX12_sideAt : Mth := (yX12_sideAt, cX12_sideAt, 3, (some .int), 12, [])
def mX12_lay : Mth := (yX12_lay, cX12_lay, 3, none, 12, [])
def mX12_layOne : Mth := (yX12_layOne, cX12_layOne, 7, none, 12, [])
def mX12_sizeOf : Mth := (yX12_sizeOf, cX12_sizeOf, 4, (some .int), 12, [])
def mX12_numberOf : Mth := (yX12_numberOf, cX12_numberOf, 5, (some .int), 12, [])
def mX12_on : Mth := (yX12_on, cX12_on, 4, (some .int), 12, [])
def mX12_tongue : Mth := (yX12_tongue, cX12_tongue, 3, (some .int), 12, [])
def mX12_means : Mth := (yX12_means, cX12_means, 5, (some .int), 12, [])
def mX12_walker : Mth := (yX12_walker, cX12_walker, 7, (some .int), 12, [])
def mX12_patience : Mth := (yX12_patience, cX12_patience, 2, (some .int), 12, [])
def mX12_countsPaths : Mth := (yX12_countsPaths, cX12_countsPaths, 2, (some .boolean), 12, [])
def mX12_kindsOf : Mth := (yX12_kindsOf, cX12_kindsOf, 3, (some .int), 12, [])
def mX12_isMark : Mth := (yX12_isMark, cX12_isMark, 4, (some .boolean), 12, [])
def mX12_standsAt : Mth := (yX12_standsAt, cX12_standsAt, 7, (some .boolean), 12, [])
def mX12_isSeenAt : Mth := (yX12_isSeenAt, cX12_isSeenAt, 7, (some .boolean), 12, [])
def mX12_areJoined : Mth := (yX12_areJoined, cX12_areJoined, 5, (some .boolean), 12, [])
def mX12_standing : Mth := (yX12_standing, cX12_standing, 6, (some .int), 12, [])
def mX12_stands : Mth := (yX12_stands, cX12_stands, 6, (some .boolean), 12, [])
def mX12_worth : Mth := (yX12_worth, cX12_worth, 9, (some .int), 12, [])
def mX12_feed : Mth := (yX12_feed, cX12_feed, 8, (some .int), 12, [])
def mX12_see : Mth := (yX12_see, cX12_see, 2, (some .int), 12, [])
def mX12_isLetter : Mth := (yX12_isLetter, cX12_isLetter, 1, (some .boolean), 12, [])
def mX12_isDigit : Mth := (yX12_isDigit, cX12_isDigit, 1, (some .boolean), 12, [])
def mX12_next : Mth := (yX12_next, cX12_next, 2, none, 12, [])
def mX12_wrong : Mth := (yX12_wrong, cX12_wrong, 2, none, 12, [])
def mX12_isWord : Mth := (yX12_isWord, cX12_isWord, 4, (some .boolean), 12, [])
def mX12_nameNow : Mth := (yX12_nameNow, cX12_nameNow, 1, (some .int), 12, [])
def mX12_readName : Mth := (yX12_readName, cX12_readName, 2, (some .int), 12, [])
def mX12_readNumber : Mth := (yX12_readNumber, cX12_readNumber, 2, (some .int), 12, [])
def mX12_sideNow : Mth := (yX12_sideNow, cX12_sideNow, 1, (some .int), 12, [])
def mX12_wordAt : Mth := (yX12_wordAt, cX12_wordAt, 2, (some .int), 12, [])
def mX12_lays : Mth := (yX12_lays, cX12_lays, 6, none, 12, [])
def mX12_isBegun : Mth := (yX12_isBegun, cX12_isBegun, 1, (some .boolean), 12, [])
def mX12_readWord : Mth := (yX12_readWord, cX12_readWord, 6, none, 12, [])
def mX12_readNth : Mth := (yX12_readNth, cX12_readNth, 5, none, 12, [])
def mX12_readSaying : Mth := (yX12_readSaying, cX12_readSaying, 3, none, 12, [])
def mX12_keeps : Mth := (yX12_keeps, cX12_keeps, 6, (some .int), 12, [])
def mX12_telling : Mth := (yX12_telling, cX12_telling, 5, (some .int), 12, [])
def mX12_fault : Mth := (yX12_fault, cX12_fault, 2, (some .int), 12, [])
def mX12_sayingsOf : Mth := (yX12_sayingsOf, cX12_sayingsOf, 2, (some .int), 12, [])
def mX12_goalOf : Mth := (yX12_goalOf, cX12_goalOf, 2, (some .int), 12, [])
def mX12_sayings : Mth := (yX12_sayings, cX12_sayings, 2, (some .int), 12, [])
def mX12_goOn : Mth := (yX12_goOn, cX12_goOn, 6, none, 12, [])
def mX12_word : Mth := (yX12_word, cX12_word, 10, none, 12, [])
def mX12_sideOf : Mth := (yX12_sideOf, cX12_sideOf, 3, (some .int), 12, [])
def mX12_onTimes : Mth := (yX12_onTimes, cX12_onTimes, 8, none, 12, [])
def mX12_until : Mth := (yX12_until, cX12_until, 11, none, 12, [])
def mX12_isOver : Mth := (yX12_isOver, cX12_isOver, 7, (some .boolean), 12, [])
def mX12_far : Mth := (yX12_far, cX12_far, 9, none, 12, [])
def mX12_goOnFar : Mth := (yX12_goOnFar, cX12_goOnFar, 4, none, 12, [])
def mX12_nth : Mth := (yX12_nth, cX12_nth, 15, none, 12, [])
def mX12_says : Mth := (yX12_says, cX12_says, 7, none, 12, [])
def mX12_goes : Mth := (yX12_goes, cX12_goes, 7, (some .int), 12, [])
def mX12_placesOf : Mth := (yX12_placesOf, cX12_placesOf, 4, (some .int), 12, [])
def mX12_isRight : Mth := (yX12_isRight, cX12_isRight, 6, (some .boolean), 12, [])
def mX12_areThere : Mth := (yX12_areThere, cX12_areThere, 4, (some .boolean), 12, [])
def mX12_leads : Mth := (yX12_leads, cX12_leads, 8, (some .int), 12, [])
def mX12_holds : Mth := (yX12_holds, cX12_holds, 5, (some .int), 12, [])
def mX12_end : Mth := (yX12_end, cX12_end, 10, (some .int), 12, [])
def mX12_right : Mth := (yX12_right, cX12_right, 5, (some .boolean), 12, [])
def mX12_parted : Mth := (yX12_parted, cX12_parted, 7, none, 12, [])
def mX12_oddsOn : Mth := (yX12_oddsOn, cX12_oddsOn, 6, none, 12, [])
def mX12_shareAt : Mth := (yX12_shareAt, cX12_shareAt, 4, (some .int), 12, [])
def mX12_oddsFrom : Mth := (yX12_oddsFrom, cX12_oddsFrom, 6, none, 12, [])
def mX12_odds : Mth := (yX12_odds, cX12_odds, 6, (some .int), 12, [])
def mX12_parts : Mth := (yX12_parts, cX12_parts, 8, (some .int), 12, [])
def mX12_hangs : Mth := (yX12_hangs, cX12_hangs, 8, (some .int), 12, [])
def mX12_years : Mth := (yX12_years, cX12_years, 9, (some .int), 12, [])
def mX12_two : Mth := (yX12_two, cX12_two, 11, (some .int), 12, [])
def mX12_ask : Mth := (yX12_ask, cX12_ask, 12, (some .int), 12, [])
def mX12_tries : Mth := (yX12_tries, cX12_tries, 8, (some .boolean), 12, [])
def mX12_areAll : Mth := (yX12_areAll, cX12_areAll, 4, (some .boolean), 12, [])
def mX12_seek : Mth := (yX12_seek, cX12_seek, 4, (some .boolean), 12, [])
def mX12_shortest : Mth := (yX12_shortest, cX12_shortest, 8, (some .int), 12, [])
def mX12_went : Mth := (yX12_went, cX12_went, 7, (some .int), 12, [])
def mX12_isAsWent : Mth := (yX12_isAsWent, cX12_isAsWent, 5, (some .boolean), 12, [])
def mX12_learned : Mth := (yX12_learned, cX12_learned, 7, (some .int), 12, [])
def mX12_records : Mth := (yX12_records, cX12_records, 7, (some .int), 12, [])
def mX12_teller : Mth := (yX12_teller, cX12_teller, 3, (some .int), 12, [])
def mX12_told : Mth := (yX12_told, cX12_told, 3, (some .int), 12, [])
def mX12_isTray : Mth := (yX12_isTray, cX12_isTray, 1, (some .boolean), 12, [])
def mX12_tray : Mth := (yX12_tray, cX12_tray, 5, none, 12, [])
def mX12_write : Mth := (yX12_write, cX12_write, 6, (some .long), 12, [])
def mX12_say : Mth := (yX12_say, cX12_say, 6, (some .int), 12, [])
def mX12_image : Mth := (yX12_image, cX12_image, 3, none, 12, [])
def mX12_restore : Mth := (yX12_restore, cX12_restore, 3, none, 12, [])
def mX12_count : Mth := (yX12_count, cX12_count, 2, (some .int), 12, [])
def mL_place : Mth := (yL_place, cL_place, 5, (some .int), 13, [(0, 10, 13, 13)])
def mL_way : Mth := (yL_way, cL_way, 9, (some .int), 13, [(0, 18, 21, 19), (0, 18, 25, 13)])
def mL_mark : Mth := (yL_mark, cL_mark, 8, (some .int), 13, [(0, 16, 19, 19), (0, 16, 23, 13)])
def mL_ends : Mth := (yL_ends, cL_ends, 6, (some .int), 13, [(0, 12, 15, 19), (0, 12, 19, 13)])
def mL_state : Mth := (yL_state, cL_state, 5, (some .int), 13, [(0, 10, 13, 19), (0, 10, 17, 13)])
def mL_out : Mth := (yL_out, cL_out, 6, (some .int), 13, [(0, 12, 15, 19), (0, 12, 19, 13)])
def mL_on : Mth := (yL_on, cL_on, 6, (some .int), 13, [(0, 12, 15, 19), (0, 12, 19, 13)])
def mL_means : Mth := (yL_means, cL_means, 6, (some .int), 13, [(0, 12, 15, 19), (0, 12, 19, 13)])
def mL_walker : Mth := (yL_walker, cL_walker, 8, (some .int), 13, [(0, 16, 19, 19), (0, 16, 23, 13)])
def mL_stands : Mth := (yL_stands, cL_stands, 8, (some .int), 13, [(0, 23, 26, 19), (0, 23, 30, 13)])
def mL_worth : Mth := (yL_worth, cL_worth, 7, (some .int), 13, [(0, 14, 17, 19), (0, 14, 21, 13)])
def mL_telling : Mth := (yL_telling, cL_telling, 6, (some .int), 13, [(0, 12, 15, 19), (0, 12, 19, 13)])
def mL_sayings : Mth := (yL_sayings, cL_sayings, 4, (some .int), 13, [(0, 9, 12, 19)])
def mL_leads : Mth := (yL_leads, cL_leads, 9, (some .int), 13, [(0, 18, 21, 19), (0, 18, 25, 13)])
def mL_holds : Mth := (yL_holds, cL_holds, 7, (some .int), 13, [(0, 14, 17, 19), (0, 14, 21, 13)])
def mL_end : Mth := (yL_end, cL_end, 8, (some .int), 13, [(0, 16, 19, 19), (0, 16, 23, 13)])
def mL_right : Mth := (yL_right, cL_right, 7, (some .int), 13, [(0, 21, 24, 19), (0, 21, 28, 13)])
def mL_odds : Mth := (yL_odds, cL_odds, 8, (some .int), 13, [(0, 16, 19, 19), (0, 16, 23, 13)])
def mL_parts : Mth := (yL_parts, cL_parts, 7, (some .int), 13, [(0, 14, 17, 19), (0, 14, 21, 13)])
def mL_hangs : Mth := (yL_hangs, cL_hangs, 8, (some .int), 13, [(0, 16, 19, 19), (0, 16, 23, 13)])
def mL_years : Mth := (yL_years, cL_years, 7, (some .int), 13, [(0, 14, 17, 19), (0, 14, 21, 13)])
def mL_two : Mth := (yL_two, cL_two, 10, (some .int), 13, [(0, 20, 23, 19), (0, 20, 27, 13)])
def mL_ask : Mth := (yL_ask, cL_ask, 10, (some .int), 13, [(0, 20, 23, 19), (0, 20, 27, 13)])
def mL_shortest : Mth := (yL_shortest, cL_shortest, 9, (some .int), 13, [(0, 18, 21, 19), (0, 18, 25, 13)])
def mL_went : Mth := (yL_went, cL_went, 8, (some .int), 13, [(0, 16, 19, 19), (0, 16, 23, 13)])
def mL_learned : Mth := (yL_learned, cL_learned, 5, (some .int), 13, [(0, 10, 13, 19)])
def mL_told : Mth := (yL_told, cL_told, 5, (some .int), 13, [(0, 10, 13, 13)])
def mL_tray : Mth := (yL_tray, cL_tray, 5, (some .int), 13, [(0, 7, 10, 19), (0, 7, 14, 13)])
def mL_write : Mth := (yL_write, cL_write, 7, (some .int), 13, [(0, 11, 14, 19), (0, 11, 18, 117), (0, 11, 22, 119)])
def mL_say : Mth := (yL_say, cL_say, 6, (some .int), 13, [(0, 12, 15, 19), (0, 12, 19, 117), (0, 12, 23, 13)])
def mL_image : Mth := (yL_image, cL_image, 3, (some .int), 13, [(0, 5, 8, 19)])
def mL_restore : Mth := (yL_restore, cL_restore, 3, (some .int), 13, [(0, 5, 8, 19), (0, 5, 11, 117)])
set_option maxRecDepth 100000 in
theorem okX0_init : MOk mX0_init 0 := ⟨rfl, (by decide +kernel), ⟨(by decide +kernel), (by decide +kernel)⟩, (by decide +kernel), tblG_in (i := 172) (by rfl) rfl, iniG0, by decide⟩
set_option maxRecDepth 100000 in
theorem okX0_addTelling : MOk mX0_addTelling 4 := ⟨rfl, (by decide +kernel), ⟨(by decide +kernel), (by decide +kernel)⟩, (by decide +kernel), tblG_in (i := 1319) (by rfl) rfl, iniG0, by decide⟩
set_option maxRecDepth 100000 in
theorem okX0_addListed : MOk mX0_addListed 3 := ⟨rfl, (by decide +kernel), ⟨(by decide +kernel), (by decide +kernel)⟩, (by decide +kernel), tblG_in (i := 1718) (by rfl) rfl, iniG0, by decide⟩
set_option maxRecDepth 100000 in
theorem okX0_addRecord : MOk mX0_addRecord 5 := ⟨rfl, (by decide +kernel), ⟨(by decide +kernel), (by decide +kernel)⟩, (by decide +kernel), tblG_in (i := 1616) (by rfl) rfl, iniG0, by decide⟩
set_option maxRecDepth 100000 in
theorem okX0_recordsOf : MOk mX0_recordsOf 2 := ⟨rfl, (by decide +kernel), ⟨(by decide +kernel), (by decide +kernel)⟩, (by decide +kernel), tblG_in (i := 595) (by rfl) rfl, iniG0, by decide⟩
set_option maxRecDepth 100000 in
theorem okX0_take : MOk mX0_take 1 := ⟨rfl, (by decide +kernel), ⟨(by decide +kernel), (by decide +kernel)⟩, (by decide +kernel), tblG_in (i := 1745) (by rfl) rfl, iniG0, by decide⟩
set_option maxRecDepth 100000 in
theorem okX1_init : MOk mX1_init 1 := ⟨rfl, (by decide +kernel), ⟨(by decide +kernel), (by decide +kernel)⟩, (by decide +kernel), tblG_in (i := 408) (by rfl) rfl, iniG1, by decide⟩
set_option maxRecDepth 100000 in
theorem okX1_begin : MOk mX1_begin 3 := ⟨rfl, (by decide +kernel), ⟨(by decide +kernel), (by decide +kernel)⟩, (by decide +kernel), tblG_in (i := 1565) (by rfl) rfl, iniG1, by decide⟩
set_option maxRecDepth 100000 in
theorem okX1_search : MOk mX1_search 2 := ⟨rfl, (by decide +kernel), ⟨(by decide +kernel), (by decide +kernel)⟩, (by decide +kernel), tblG_in (i := 1575) (by rfl) rfl, iniG1, by decide⟩
set_option maxRecDepth 100000 in
theorem okX1_allGoOn : MOk mX1_allGoOn 2 := ⟨rfl, (by decide +kernel), ⟨(by decide +kernel), (by decide +kernel)⟩, (by decide +kernel), tblG_in (i := 1603) (by rfl) rfl, iniG1, by decide⟩
set_option maxRecDepth 100000 in
theorem okX1_arriving : MOk mX1_arriving 3 := ⟨rfl, (by decide +kernel), ⟨(by decide +kernel), (by decide +kernel)⟩, (by decide +kernel), tblG_in (i := 1580) (by rfl) rfl, iniG1, by decide⟩
set_option maxRecDepth 100000 in
theorem okX1_judge : MOk mX1_judge 2 := ⟨rfl, (by decide +kernel), ⟨(by decide +kernel), (by decide +kernel)⟩, (by decide +kernel), tblG_in (i := 1598) (by rfl) rfl, iniG1, by decide⟩
set_option maxRecDepth 100000 in
theorem okX2_init : MOk mX2_init 0 := ⟨rfl, (by decide +kernel), ⟨(by decide +kernel), (by decide +kernel)⟩, (by decide +kernel), tblG_in (i := 134) (by rfl) rfl, iniG2, by decide⟩
set_option maxRecDepth 100000 in
theorem okX2_addTongue : MOk mX2_addTongue 0 := ⟨rfl, (by decide +kernel), ⟨(by decide +kernel), (by decide +kernel)⟩, (by decide +kernel), tblG_in (i := 575) (by rfl) rfl, iniG2, by decide⟩
set_option maxRecDepth 100000 in
theorem okX2_addWalker : MOk mX2_addWalker 5 := ⟨rfl, (by decide +kernel), ⟨(by decide +kernel), (by decide +kernel)⟩, (by decide +kernel), tblG_in (i := 1151) (by rfl) rfl, iniG2, by decide⟩
set_option maxRecDepth 100000 in
theorem okX2_kindsOf : MOk mX2_kindsOf 2 := ⟨rfl, (by decide +kernel), ⟨(by decide +kernel), (by decide +kernel)⟩, (by decide +kernel), tblG_in (i := 1174) (by rfl) rfl, iniG2, by decide⟩
set_option maxRecDepth 100000 in
theorem okX2_howManyKnow : MOk mX2_howManyKnow 2 := ⟨rfl, (by decide +kernel), ⟨(by decide +kernel), (by decide +kernel)⟩, (by decide +kernel), tblG_in (i := 1211) (by rfl) rfl, iniG2, by decide⟩
set_option maxRecDepth 100000 in
theorem okX2_take : MOk mX2_take 1 := ⟨rfl, (by decide +kernel), ⟨(by decide +kernel), (by decide +kernel)⟩, (by decide +kernel), tblG_in (i := 1740) (by rfl) rfl, iniG2, by decide⟩
set_option maxRecDepth 100000 in
theorem okX3_init : MOk mX3_init 0 := ⟨rfl, (by decide +kernel), ⟨(by decide +kernel), (by decide +kernel)⟩, (by decide +kernel), tblG_in (i := 46) (by rfl) rfl, iniG3, by decide⟩
set_option maxRecDepth 100000 in
theorem okX3_isTaken : MOk mX3_isTaken 2 := ⟨rfl, (by decide +kernel), ⟨(by decide +kernel), (by decide +kernel)⟩, (by decide +kernel), tblG_in (i := 611) (by rfl) rfl, iniG3, by decide⟩
set_option maxRecDepth 100000 in
theorem okX3_addPlace : MOk mX3_addPlace 2 := ⟨rfl, (by decide +kernel), ⟨(by decide +kernel), (by decide +kernel)⟩, (by decide +kernel), tblG_in (i := 681) (by rfl) rfl, iniG3, by decide⟩
set_option maxRecDepth 100000 in
theorem okX3_isJoined : MOk mX3_isJoined 4 := ⟨rfl, (by decide +kernel), ⟨(by decide +kernel), (by decide +kernel)⟩, (by decide +kernel), tblG_in (i := 716) (by rfl) rfl, iniG3, by decide⟩
set_option maxRecDepth 100000 in
theorem okX3_addWay : MOk mX3_addWay 6 := ⟨rfl, (by decide +kernel), ⟨(by decide +kernel), (by decide +kernel)⟩, (by decide +kernel), tblG_in (i := 724) (by rfl) rfl, iniG3, by decide⟩
set_option maxRecDepth 100000 in
theorem okX3_addMark : MOk mX3_addMark 5 := ⟨rfl, (by decide +kernel), ⟨(by decide +kernel), (by decide +kernel)⟩, (by decide +kernel), tblG_in (i := 735) (by rfl) rfl, iniG3, by decide⟩
set_option maxRecDepth 100000 in
theorem okX3_marksOf : MOk mX3_marksOf 2 := ⟨rfl, (by decide +kernel), ⟨(by decide +kernel), (by decide +kernel)⟩, (by decide +kernel), tblG_in (i := 1217) (by rfl) rfl, iniG3, by decide⟩
set_option maxRecDepth 100000 in
theorem okX3_take : MOk mX3_take 1 := ⟨rfl, (by decide +kernel), ⟨(by decide +kernel), (by decide +kernel)⟩, (by decide +kernel), tblG_in (i := 1735) (by rfl) rfl, iniG3, by decide⟩
set_option maxRecDepth 100000 in
theorem okX4_init : MOk mX4_init 1 := ⟨rfl, (by decide +kernel), ⟨(by decide +kernel), (by decide +kernel)⟩, (by decide +kernel), tblG_in (i := 375) (by rfl) rfl, iniG4, by decide⟩
set_option maxRecDepth 100000 in
theorem okX4_start : MOk mX4_start 1 := ⟨rfl, (by decide +kernel), ⟨(by decide +kernel), (by decide +kernel)⟩, (by decide +kernel), tblG_in (i := 1480) (by rfl) rfl, iniG4, by decide⟩
set_option maxRecDepth 100000 in
theorem okX4_spread : MOk mX4_spread 1 := ⟨rfl, (by decide +kernel), ⟨(by decide +kernel), (by decide +kernel)⟩, (by decide +kernel), tblG_in (i := 1554) (by rfl) rfl, iniG4, by decide⟩
set_option maxRecDepth 100000 in
theorem okX4_share : MOk mX4_share 3 := ⟨rfl, (by decide +kernel), ⟨(by decide +kernel), (by decide +kernel)⟩, (by decide +kernel), tblG_in (i := 1492) (by rfl) rfl, iniG4, by decide⟩
set_option maxRecDepth 100000 in
theorem okX4_goOn : MOk mX4_goOn 2 := ⟨rfl, (by decide +kernel), ⟨(by decide +kernel), (by decide +kernel)⟩, (by decide +kernel), tblG_in (i := 1486) (by rfl) rfl, iniG4, by decide⟩
set_option maxRecDepth 100000 in
theorem okX4_partsAt : MOk mX4_partsAt 1 := ⟨rfl, (by decide +kernel), ⟨(by decide +kernel), (by decide +kernel)⟩, (by decide +kernel), tblG_in (i := 1497) (by rfl) rfl, iniG4, by decide⟩
set_option maxRecDepth 100000 in
theorem okX4_sumUp : MOk mX4_sumUp 1 := ⟨rfl, (by decide +kernel), ⟨(by decide +kernel), (by decide +kernel)⟩, (by decide +kernel), tblG_in (i := 1536) (by rfl) rfl, iniG4, by decide⟩
set_option maxRecDepth 100000 in
theorem okX4_meet : MOk mX4_meet 4 := ⟨rfl, (by decide +kernel), ⟨(by decide +kernel), (by decide +kernel)⟩, (by decide +kernel), tblG_in (i := 1530) (by rfl) rfl, iniG4, by decide⟩
set_option maxRecDepth 100000 in
theorem okX5_init : MOk mX5_init 0 := ⟨rfl, (by decide +kernel), ⟨(by decide +kernel), (by decide +kernel)⟩, (by decide +kernel), tblG_in (i := 452) (by rfl) rfl, iniG5, by decide⟩
set_option maxRecDepth 100000 in
theorem okX5_put : MOk mX5_put 1 := ⟨rfl, (by decide +kernel), ⟨(by decide +kernel), (by decide +kernel)⟩, (by decide +kernel), tblG_in (i := 583) (by rfl) rfl, iniG5, by decide⟩
set_option maxRecDepth 100000 in
theorem okX5_read : MOk mX5_read 1 := ⟨rfl, (by decide +kernel), ⟨(by decide +kernel), (by decide +kernel)⟩, (by decide +kernel), tblG_in (i := 1232) (by rfl) rfl, iniG5, by decide⟩
set_option maxRecDepth 100000 in
theorem okX5_scan : MOk mX5_scan 1 := ⟨rfl, (by decide +kernel), ⟨(by decide +kernel), (by decide +kernel)⟩, (by decide +kernel), tblG_in (i := 1239) (by rfl) rfl, iniG5, by decide⟩
set_option maxRecDepth 100000 in
theorem okX5_scanNumber : MOk mX5_scanNumber 1 := ⟨rfl, (by decide +kernel), ⟨(by decide +kernel), (by decide +kernel)⟩, (by decide +kernel), tblG_in (i := 1243) (by rfl) rfl, iniG5, by decide⟩
set_option maxRecDepth 100000 in
theorem okX5_scanWord : MOk mX5_scanWord 1 := ⟨rfl, (by decide +kernel), ⟨(by decide +kernel), (by decide +kernel)⟩, (by decide +kernel), tblG_in (i := 1247) (by rfl) rfl, iniG5, by decide⟩
set_option maxRecDepth 100000 in
theorem okX5_isWord : MOk mX5_isWord 1 := ⟨rfl, (by decide +kernel), ⟨(by decide +kernel), (by decide +kernel)⟩, (by decide +kernel), tblG_in (i := 1251) (by rfl) rfl, iniG5, by decide⟩
set_option maxRecDepth 100000 in
theorem okX5_take : MOk mX5_take 0 := ⟨rfl, (by decide +kernel), ⟨(by decide +kernel), (by decide +kernel)⟩, (by decide +kernel), tblG_in (i := 1280) (by rfl) rfl, iniG5, by decide⟩
set_option maxRecDepth 100000 in
theorem okX5_await : MOk mX5_await 2 := ⟨rfl, (by decide +kernel), ⟨(by decide +kernel), (by decide +kernel)⟩, (by decide +kernel), tblG_in (i := 1292) (by rfl) rfl, iniG5, by decide⟩
set_option maxRecDepth 100000 in
theorem okX5_keep : MOk mX5_keep 2 := ⟨rfl, (by decide +kernel), ⟨(by decide +kernel), (by decide +kernel)⟩, (by decide +kernel), tblG_in (i := 1299) (by rfl) rfl, iniG5, by decide⟩
set_option maxRecDepth 100000 in
theorem okX5_takeFirst : MOk mX5_takeFirst 0 := ⟨rfl, (by decide +kernel), ⟨(by decide +kernel), (by decide +kernel)⟩, (by decide +kernel), tblG_in (i := 1284) (by rfl) rfl, iniG5, by decide⟩
set_option maxRecDepth 100000 in
theorem okX5_takeWord : MOk mX5_takeWord 0 := ⟨rfl, (by decide +kernel), ⟨(by decide +kernel), (by decide +kernel)⟩, (by decide +kernel), tblG_in (i := 1288) (by rfl) rfl, iniG5, by decide⟩
set_option maxRecDepth 100000 in
theorem okX5_isBadNumber : MOk mX5_isBadNumber 0 := ⟨rfl, (by decide +kernel), ⟨(by decide +kernel), (by decide +kernel)⟩, (by decide +kernel), tblG_in (i := 1303) (by rfl) rfl, iniG5, by decide⟩
set_option maxRecDepth 100000 in
theorem okX5_takeAmount : MOk mX5_takeAmount 1 := ⟨rfl, (by decide +kernel), ⟨(by decide +kernel), (by decide +kernel)⟩, (by decide +kernel), tblG_in (i := 1307) (by rfl) rfl, iniG5, by decide⟩
set_option maxRecDepth 100000 in
theorem okX5_takeSide : MOk mX5_takeSide 0 := ⟨rfl, (by decide +kernel), ⟨(by decide +kernel), (by decide +kernel)⟩, (by decide +kernel), tblG_in (i := 1311) (by rfl) rfl, iniG5, by decide⟩
set_option maxRecDepth 100000 in
theorem okX5_takeMore : MOk mX5_takeMore 0 := ⟨rfl, (by decide +kernel), ⟨(by decide +kernel), (by decide +kernel)⟩, (by decide +kernel), tblG_in (i := 1315) (by rfl) rfl, iniG5, by decide⟩
set_option maxRecDepth 100000 in
theorem okX6_init : MOk mX6_init 0 := ⟨rfl, (by decide +kernel), ⟨(by decide +kernel), (by decide +kernel)⟩, (by decide +kernel), tblG_in (i := 286) (by rfl) rfl, iniG6, by decide⟩
set_option maxRecDepth 100000 in
theorem okX6_stateOf : MOk mX6_stateOf 2 := ⟨rfl, (by decide +kernel), ⟨(by decide +kernel), (by decide +kernel)⟩, (by decide +kernel), tblG_in (i := 1361) (by rfl) rfl, iniG6, by decide⟩
set_option maxRecDepth 100000 in
theorem okX6_clear : MOk mX6_clear 0 := ⟨rfl, (by decide +kernel), ⟨(by decide +kernel), (by decide +kernel)⟩, (by decide +kernel), tblG_in (i := 1106) (by rfl) rfl, iniG6, by decide⟩
set_option maxRecDepth 100000 in
theorem okX6_add : MOk mX6_add 1 := ⟨rfl, (by decide +kernel), ⟨(by decide +kernel), (by decide +kernel)⟩, (by decide +kernel), tblG_in (i := 1351) (by rfl) rfl, iniG6, by decide⟩
set_option maxRecDepth 100000 in
theorem okX6_addArrows : MOk mX6_addArrows 2 := ⟨rfl, (by decide +kernel), ⟨(by decide +kernel), (by decide +kernel)⟩, (by decide +kernel), tblG_in (i := 1111) (by rfl) rfl, iniG6, by decide⟩
set_option maxRecDepth 100000 in
theorem okX6_isEmpty : MOk mX6_isEmpty 0 := ⟨rfl, (by decide +kernel), ⟨(by decide +kernel), (by decide +kernel)⟩, (by decide +kernel), tblG_in (i := 1429) (by rfl) rfl, iniG6, by decide⟩
set_option maxRecDepth 100000 in
theorem okX6_size : MOk mX6_size 0 := ⟨rfl, (by decide +kernel), ⟨(by decide +kernel), (by decide +kernel)⟩, (by decide +kernel), tblG_in (i := 1115) (by rfl) rfl, iniG6, by decide⟩
set_option maxRecDepth 100000 in
theorem okX6_list : MOk mX6_list 1 := ⟨rfl, (by decide +kernel), ⟨(by decide +kernel), (by decide +kernel)⟩, (by decide +kernel), tblG_in (i := 1355) (by rfl) rfl, iniG6, by decide⟩
set_option maxRecDepth 100000 in
theorem okX6_nth : MOk mX6_nth 1 := ⟨rfl, (by decide +kernel), ⟨(by decide +kernel), (by decide +kernel)⟩, (by decide +kernel), tblG_in (i := 1120) (by rfl) rfl, iniG6, by decide⟩
set_option maxRecDepth 100000 in
theorem okX7_init : MOk mX7_init 1 := ⟨rfl, (by decide +kernel), ⟨(by decide +kernel), (by decide +kernel)⟩, (by decide +kernel), tblG_in (i := 297) (by rfl) rfl, iniG7, by decide⟩
set_option maxRecDepth 100000 in
theorem okX7_begin : MOk mX7_begin 4 := ⟨rfl, (by decide +kernel), ⟨(by decide +kernel), (by decide +kernel)⟩, (by decide +kernel), tblG_in (i := 1373) (by rfl) rfl, iniG7, by decide⟩
set_option maxRecDepth 100000 in
theorem okX7_go : MOk mX7_go 0 := ⟨rfl, (by decide +kernel), ⟨(by decide +kernel), (by decide +kernel)⟩, (by decide +kernel), tblG_in (i := 1381) (by rfl) rfl, iniG7, by decide⟩
set_option maxRecDepth 100000 in
theorem okX7_clearNow : MOk mX7_clearNow 0 := ⟨rfl, (by decide +kernel), ⟨(by decide +kernel), (by decide +kernel)⟩, (by decide +kernel), tblG_in (i := 1377) (by rfl) rfl, iniG7, by decide⟩
set_option maxRecDepth 100000 in
theorem okX7_carry : MOk mX7_carry 2 := ⟨rfl, (by decide +kernel), ⟨(by decide +kernel), (by decide +kernel)⟩, (by decide +kernel), tblG_in (i := 1386) (by rfl) rfl, iniG7, by decide⟩
set_option maxRecDepth 100000 in
theorem okX8_init : MOk mX8_init 0 := ⟨rfl, (by decide +kernel), ⟨(by decide +kernel), (by decide +kernel)⟩, (by decide +kernel), tblG_in (i := 511) (by rfl) rfl, iniG8, by decide⟩
set_option maxRecDepth 100000 in
theorem okX8_lay : MOk mX8_lay 2 := ⟨rfl, (by decide +kernel), ⟨(by decide +kernel), (by decide +kernel)⟩, (by decide +kernel), tblG_in (i := 1654) (by rfl) rfl, iniG8, by decide⟩
set_option maxRecDepth 100000 in
theorem okX8_cut : MOk mX8_cut 1 := ⟨rfl, (by decide +kernel), ⟨(by decide +kernel), (by decide +kernel)⟩, (by decide +kernel), tblG_in (i := 1702) (by rfl) rfl, iniG8, by decide⟩
set_option maxRecDepth 100000 in
theorem okX8_isSayable : MOk mX8_isSayable 0 := ⟨rfl, (by decide +kernel), ⟨(by decide +kernel), (by decide +kernel)⟩, (by decide +kernel), tblG_in (i := 1713) (by rfl) rfl, iniG8, by decide⟩
set_option maxRecDepth 100000 in
theorem okX9_init : MOk mX9_init 3 := ⟨rfl, (by decide +kernel), ⟨(by decide +kernel), (by decide +kernel)⟩, (by decide +kernel), tblG_in (i := 280) (by rfl) rfl, iniG9, by decide⟩
set_option maxRecDepth 100000 in
theorem okX9_learnGround : MOk mX9_learnGround 1 := ⟨rfl, (by decide +kernel), ⟨(by decide +kernel), (by decide +kernel)⟩, (by decide +kernel), tblG_in (i := 1170) (by rfl) rfl, iniG9, by decide⟩
set_option maxRecDepth 100000 in
theorem okX9_become : MOk mX9_become 1 := ⟨rfl, (by decide +kernel), ⟨(by decide +kernel), (by decide +kernel)⟩, (by decide +kernel), tblG_in (i := 1182) (by rfl) rfl, iniG9, by decide⟩
set_option maxRecDepth 100000 in
theorem okX9_suppose : MOk mX9_suppose 2 := ⟨rfl, (by decide +kernel), ⟨(by decide +kernel), (by decide +kernel)⟩, (by decide +kernel), tblG_in (i := 1631) (by rfl) rfl, iniG9, by decide⟩
set_option maxRecDepth 100000 in
theorem okX9_placesWith : MOk mX9_placesWith 1 := ⟨rfl, (by decide +kernel), ⟨(by decide +kernel), (by decide +kernel)⟩, (by decide +kernel), tblG_in (i := 1195) (by rfl) rfl, iniG9, by decide⟩
set_option maxRecDepth 100000 in
theorem okX9_seenPlaces : MOk mX9_seenPlaces 1 := ⟨rfl, (by decide +kernel), ⟨(by decide +kernel), (by decide +kernel)⟩, (by decide +kernel), tblG_in (i := 1186) (by rfl) rfl, iniG9, by decide⟩
set_option maxRecDepth 100000 in
theorem okX9_lead : MOk mX9_lead 4 := ⟨rfl, (by decide +kernel), ⟨(by decide +kernel), (by decide +kernel)⟩, (by decide +kernel), tblG_in (i := 1365) (by rfl) rfl, iniG9, by decide⟩
set_option maxRecDepth 100000 in
theorem okX9_sideOf : MOk mX9_sideOf 2 := ⟨rfl, (by decide +kernel), ⟨(by decide +kernel), (by decide +kernel)⟩, (by decide +kernel), tblG_in (i := 1417) (by rfl) rfl, iniG9, by decide⟩
set_option maxRecDepth 100000 in
theorem okX9_goTimes : MOk mX9_goTimes 4 := ⟨rfl, (by decide +kernel), ⟨(by decide +kernel), (by decide +kernel)⟩, (by decide +kernel), tblG_in (i := 1369) (by rfl) rfl, iniG9, by decide⟩
set_option maxRecDepth 100000 in
theorem okX9_goUntil : MOk mX9_goUntil 5 := ⟨rfl, (by decide +kernel), ⟨(by decide +kernel), (by decide +kernel)⟩, (by decide +kernel), tblG_in (i := 1392) (by rfl) rfl, iniG9, by decide⟩
set_option maxRecDepth 100000 in
theorem okX9_goFar : MOk mX9_goFar 4 := ⟨rfl, (by decide +kernel), ⟨(by decide +kernel), (by decide +kernel)⟩, (by decide +kernel), tblG_in (i := 1399) (by rfl) rfl, iniG9, by decide⟩
set_option maxRecDepth 100000 in
theorem okX9_staySeeing : MOk mX9_staySeeing 4 := ⟨rfl, (by decide +kernel), ⟨(by decide +kernel), (by decide +kernel)⟩, (by decide +kernel), tblG_in (i := 1404) (by rfl) rfl, iniG9, by decide⟩
set_option maxRecDepth 100000 in
theorem okX9_stayAheadOf : MOk mX9_stayAheadOf 4 := ⟨rfl, (by decide +kernel), ⟨(by decide +kernel), (by decide +kernel)⟩, (by decide +kernel), tblG_in (i := 1408) (by rfl) rfl, iniG9, by decide⟩
set_option maxRecDepth 100000 in
theorem okX9_goBack : MOk mX9_goBack 3 := ⟨rfl, (by decide +kernel), ⟨(by decide +kernel), (by decide +kernel)⟩, (by decide +kernel), tblG_in (i := 1413) (by rfl) rfl, iniG9, by decide⟩
set_option maxRecDepth 100000 in
theorem okX9_turn : MOk mX9_turn 4 := ⟨rfl, (by decide +kernel), ⟨(by decide +kernel), (by decide +kernel)⟩, (by decide +kernel), tblG_in (i := 1421) (by rfl) rfl, iniG9, by decide⟩
set_option maxRecDepth 100000 in
theorem okX9_turnAt : MOk mX9_turnAt 4 := ⟨rfl, (by decide +kernel), ⟨(by decide +kernel), (by decide +kernel)⟩, (by decide +kernel), tblG_in (i := 1425) (by rfl) rfl, iniG9, by decide⟩
set_option maxRecDepth 100000 in
theorem okX9_follow : MOk mX9_follow 3 := ⟨rfl, (by decide +kernel), ⟨(by decide +kernel), (by decide +kernel)⟩, (by decide +kernel), tblG_in (i := 1346) (by rfl) rfl, iniG9, by decide⟩
set_option maxRecDepth 100000 in
theorem okX9_lastPlaces : MOk mX9_lastPlaces 2 := ⟨rfl, (by decide +kernel), ⟨(by decide +kernel), (by decide +kernel)⟩, (by decide +kernel), tblG_in (i := 1447) (by rfl) rfl, iniG9, by decide⟩
set_option maxRecDepth 100000 in
theorem okX9_getsThere : MOk mX9_getsThere 2 := ⟨rfl, (by decide +kernel), ⟨(by decide +kernel), (by decide +kernel)⟩, (by decide +kernel), tblG_in (i := 1469) (by rfl) rfl, iniG9, by decide⟩
set_option maxRecDepth 100000 in
theorem okX10_init : MOk mX10_init 1 := ⟨rfl, (by decide +kernel), ⟨(by decide +kernel), (by decide +kernel)⟩, (by decide +kernel), tblG_in (i := 226) (by rfl) rfl, iniG10, by decide⟩
set_option maxRecDepth 100000 in
theorem okX10_forget : MOk mX10_forget 0 := ⟨rfl, (by decide +kernel), ⟨(by decide +kernel), (by decide +kernel)⟩, (by decide +kernel), tblG_in (i := 720) (by rfl) rfl, iniG10, by decide⟩
set_option maxRecDepth 100000 in
theorem okX10_isPreparedFor : MOk mX10_isPreparedFor 1 := ⟨rfl, (by decide +kernel), ⟨(by decide +kernel), (by decide +kernel)⟩, (by decide +kernel), tblG_in (i := 772) (by rfl) rfl, iniG10, by decide⟩
set_option maxRecDepth 100000 in
theorem okX10_prepare : MOk mX10_prepare 1 := ⟨rfl, (by decide +kernel), ⟨(by decide +kernel), (by decide +kernel)⟩, (by decide +kernel), tblG_in (i := 768) (by rfl) rfl, iniG10, by decide⟩
set_option maxRecDepth 100000 in
theorem okX10_layWays : MOk mX10_layWays 1 := ⟨rfl, (by decide +kernel), ⟨(by decide +kernel), (by decide +kernel)⟩, (by decide +kernel), tblG_in (i := 786) (by rfl) rfl, iniG10, by decide⟩
set_option maxRecDepth 100000 in
theorem okX10_isThere : MOk mX10_isThere 3 := ⟨rfl, (by decide +kernel), ⟨(by decide +kernel), (by decide +kernel)⟩, (by decide +kernel), tblG_in (i := 776) (by rfl) rfl, iniG10, by decide⟩
set_option maxRecDepth 100000 in
theorem okX10_addWay : MOk mX10_addWay 1 := ⟨rfl, (by decide +kernel), ⟨(by decide +kernel), (by decide +kernel)⟩, (by decide +kernel), tblG_in (i := 796) (by rfl) rfl, iniG10, by decide⟩
set_option maxRecDepth 100000 in
theorem okX10_addMark : MOk mX10_addMark 3 := ⟨rfl, (by decide +kernel), ⟨(by decide +kernel), (by decide +kernel)⟩, (by decide +kernel), tblG_in (i := 800) (by rfl) rfl, iniG10, by decide⟩
set_option maxRecDepth 100000 in
theorem okX10_placesWith : MOk mX10_placesWith 1 := ⟨rfl, (by decide +kernel), ⟨(by decide +kernel), (by decide +kernel)⟩, (by decide +kernel), tblG_in (i := 1178) (by rfl) rfl, iniG10, by decide⟩
set_option maxRecDepth 100000 in
theorem okX10_seenPlaces : MOk mX10_seenPlaces 1 := ⟨rfl, (by decide +kernel), ⟨(by decide +kernel), (by decide +kernel)⟩, (by decide +kernel), tblG_in (i := 1190) (by rfl) rfl, iniG10, by decide⟩
set_option maxRecDepth 100000 in
theorem okX10_look : MOk mX10_look 1 := ⟨rfl, (by decide +kernel), ⟨(by decide +kernel), (by decide +kernel)⟩, (by decide +kernel), tblG_in (i := 804) (by rfl) rfl, iniG10, by decide⟩
set_option maxRecDepth 100000 in
theorem okX10_placesOf : MOk mX10_placesOf 1 := ⟨rfl, (by decide +kernel), ⟨(by decide +kernel), (by decide +kernel)⟩, (by decide +kernel), tblG_in (i := 1452) (by rfl) rfl, iniG10, by decide⟩
set_option maxRecDepth 100000 in
theorem okX11_init : MOk mX11_init 0 := ⟨rfl, (by decide +kernel), ⟨(by decide +kernel), (by decide +kernel)⟩, (by decide +kernel), tblG_in (i := 38) (by rfl) rfl, iniG11, by decide⟩
set_option maxRecDepth 100000 in
theorem okX11_place : MOk mX11_place 2 := ⟨rfl, (by decide +kernel), ⟨(by decide +kernel), (by decide +kernel)⟩, (by decide +kernel), tblG_in (i := 607) (by rfl) rfl, iniG11, by decide⟩
set_option maxRecDepth 100000 in
theorem okX11_way : MOk mX11_way 6 := ⟨rfl, (by decide +kernel), ⟨(by decide +kernel), (by decide +kernel)⟩, (by decide +kernel), tblG_in (i := 689) (by rfl) rfl, iniG11, by decide⟩
set_option maxRecDepth 100000 in
theorem okX11_mark : MOk mX11_mark 5 := ⟨rfl, (by decide +kernel), ⟨(by decide +kernel), (by decide +kernel)⟩, (by decide +kernel), tblG_in (i := 731) (by rfl) rfl, iniG11, by decide⟩
set_option maxRecDepth 100000 in
theorem okX11_ends : MOk mX11_ends 3 := ⟨rfl, (by decide +kernel), ⟨(by decide +kernel), (by decide +kernel)⟩, (by decide +kernel), tblG_in (i := 742) (by rfl) rfl, iniG11, by decide⟩
set_option maxRecDepth 100000 in
theorem okX11_state : MOk mX11_state 2 := ⟨rfl, (by decide +kernel), ⟨(by decide +kernel), (by decide +kernel)⟩, (by decide +kernel), tblG_in (i := 749) (by rfl) rfl, iniG11, by decide⟩
set_option maxRecDepth 100000 in
theorem okX11_out : MOk mX11_out 3 := ⟨rfl, (by decide +kernel), ⟨(by decide +kernel), (by decide +kernel)⟩, (by decide +kernel), tblG_in (i := 760) (by rfl) rfl, iniG11, by decide⟩
set_option maxRecDepth 100000 in
theorem okX11_on : MOk mX11_on 3 := ⟨rfl, (by decide +kernel), ⟨(by decide +kernel), (by decide +kernel)⟩, (by decide +kernel), tblG_in (i := 1102) (by rfl) rfl, iniG11, by decide⟩
set_option maxRecDepth 100000 in
theorem okX11_tongue : MOk mX11_tongue 0 := ⟨rfl, (by decide +kernel), ⟨(by decide +kernel), (by decide +kernel)⟩, (by decide +kernel), tblG_in (i := 571) (by rfl) rfl, iniG11, by decide⟩
set_option maxRecDepth 100000 in
theorem okX11_means : MOk mX11_means 3 := ⟨rfl, (by decide +kernel), ⟨(by decide +kernel), (by decide +kernel)⟩, (by decide +kernel), tblG_in (i := 1128) (by rfl) rfl, iniG11, by decide⟩
set_option maxRecDepth 100000 in
theorem okX11_walker : MOk mX11_walker 5 := ⟨rfl, (by decide +kernel), ⟨(by decide +kernel), (by decide +kernel)⟩, (by decide +kernel), tblG_in (i := 1147) (by rfl) rfl, iniG11, by decide⟩
set_option maxRecDepth 100000 in
theorem okX11_stands : MOk mX11_stands 5 := ⟨rfl, (by decide +kernel), ⟨(by decide +kernel), (by decide +kernel)⟩, (by decide +kernel), tblG_in (i := 1158) (by rfl) rfl, iniG11, by decide⟩
set_option maxRecDepth 100000 in
theorem okX11_worth : MOk mX11_worth 4 := ⟨rfl, (by decide +kernel), ⟨(by decide +kernel), (by decide +kernel)⟩, (by decide +kernel), tblG_in (i := 1203) (by rfl) rfl, iniG11, by decide⟩
set_option maxRecDepth 100000 in
theorem okX11_feed : MOk mX11_feed 5 := ⟨rfl, (by decide +kernel), ⟨(by decide +kernel), (by decide +kernel)⟩, (by decide +kernel), tblG_in (i := 579) (by rfl) rfl, iniG11, by decide⟩
set_option maxRecDepth 100000 in
theorem okX11_telling : MOk mX11_telling 3 := ⟨rfl, (by decide +kernel), ⟨(by decide +kernel), (by decide +kernel)⟩, (by decide +kernel), tblG_in (i := 1224) (by rfl) rfl, iniG11, by decide⟩
set_option maxRecDepth 100000 in
theorem okX11_fault : MOk mX11_fault 1 := ⟨rfl, (by decide +kernel), ⟨(by decide +kernel), (by decide +kernel)⟩, (by decide +kernel), tblG_in (i := 587) (by rfl) rfl, iniG11, by decide⟩
set_option maxRecDepth 100000 in
theorem okX11_sayings : MOk mX11_sayings 1 := ⟨rfl, (by decide +kernel), ⟨(by decide +kernel), (by decide +kernel)⟩, (by decide +kernel), tblG_in (i := 1327) (by rfl) rfl, iniG11, by decide⟩
set_option maxRecDepth 100000 in
theorem okX11_leads : MOk mX11_leads 6 := ⟨rfl, (by decide +kernel), ⟨(by decide +kernel), (by decide +kernel)⟩, (by decide +kernel), tblG_in (i := 1338) (by rfl) rfl, iniG11, by decide⟩
set_option maxRecDepth 100000 in
theorem okX11_holds : MOk mX11_holds 4 := ⟨rfl, (by decide +kernel), ⟨(by decide +kernel), (by decide +kernel)⟩, (by decide +kernel), tblG_in (i := 1436) (by rfl) rfl, iniG11, by decide⟩
set_option maxRecDepth 100000 in
theorem okX11_end : MOk mX11_end 5 := ⟨rfl, (by decide +kernel), ⟨(by decide +kernel), (by decide +kernel)⟩, (by decide +kernel), tblG_in (i := 1443) (by rfl) rfl, iniG11, by decide⟩
set_option maxRecDepth 100000 in
theorem okX11_right : MOk mX11_right 4 := ⟨rfl, (by decide +kernel), ⟨(by decide +kernel), (by decide +kernel)⟩, (by decide +kernel), tblG_in (i := 1465) (by rfl) rfl, iniG11, by decide⟩
set_option maxRecDepth 100000 in
theorem okX11_odds : MOk mX11_odds 5 := ⟨rfl, (by decide +kernel), ⟨(by decide +kernel), (by decide +kernel)⟩, (by decide +kernel), tblG_in (i := 1476) (by rfl) rfl, iniG11, by decide⟩
set_option maxRecDepth 100000 in
theorem okX11_parts : MOk mX11_parts 4 := ⟨rfl, (by decide +kernel), ⟨(by decide +kernel), (by decide +kernel)⟩, (by decide +kernel), tblG_in (i := 1504) (by rfl) rfl, iniG11, by decide⟩
set_option maxRecDepth 100000 in
theorem okX11_hangs : MOk mX11_hangs 5 := ⟨rfl, (by decide +kernel), ⟨(by decide +kernel), (by decide +kernel)⟩, (by decide +kernel), tblG_in (i := 1511) (by rfl) rfl, iniG11, by decide⟩
set_option maxRecDepth 100000 in
theorem okX11_years : MOk mX11_years 4 := ⟨rfl, (by decide +kernel), ⟨(by decide +kernel), (by decide +kernel)⟩, (by decide +kernel), tblG_in (i := 1518) (by rfl) rfl, iniG11, by decide⟩
set_option maxRecDepth 100000 in
theorem okX11_two : MOk mX11_two 7 := ⟨rfl, (by decide +kernel), ⟨(by decide +kernel), (by decide +kernel)⟩, (by decide +kernel), tblG_in (i := 1526) (by rfl) rfl, iniG11, by decide⟩
set_option maxRecDepth 100000 in
theorem okX11_ask : MOk mX11_ask 7 := ⟨rfl, (by decide +kernel), ⟨(by decide +kernel), (by decide +kernel)⟩, (by decide +kernel), tblG_in (i := 1544) (by rfl) rfl, iniG11, by decide⟩
set_option maxRecDepth 100000 in
theorem okX11_lossBehind : MOk mX11_lossBehind 5 := ⟨rfl, (by decide +kernel), ⟨(by decide +kernel), (by decide +kernel)⟩, (by decide +kernel), tblG_in (i := 1549) (by rfl) rfl, iniG11, by decide⟩
set_option maxRecDepth 100000 in
theorem okX11_shortest : MOk mX11_shortest 6 := ⟨rfl, (by decide +kernel), ⟨(by decide +kernel), (by decide +kernel)⟩, (by decide +kernel), tblG_in (i := 1561) (by rfl) rfl, iniG11, by decide⟩
set_option maxRecDepth 100000 in
theorem okX11_went : MOk mX11_went 5 := ⟨rfl, (by decide +kernel), ⟨(by decide +kernel), (by decide +kernel)⟩, (by decide +kernel), tblG_in (i := 1612) (by rfl) rfl, iniG11, by decide⟩
set_option maxRecDepth 100000 in
theorem okX11_learned : MOk mX11_learned 2 := ⟨rfl, (by decide +kernel), ⟨(by decide +kernel), (by decide +kernel)⟩, (by decide +kernel), tblG_in (i := 1623) (by rfl) rfl, iniG11, by decide⟩
set_option maxRecDepth 100000 in
theorem okX11_kindsThatFit : MOk mX11_kindsThatFit 3 := ⟨rfl, (by decide +kernel), ⟨(by decide +kernel), (by decide +kernel)⟩, (by decide +kernel), tblG_in (i := 1627) (by rfl) rfl, iniG11, by decide⟩
set_option maxRecDepth 100000 in
theorem okX11_teller : MOk mX11_teller 0 := ⟨rfl, (by decide +kernel), ⟨(by decide +kernel), (by decide +kernel)⟩, (by decide +kernel), tblG_in (i := 591) (by rfl) rfl, iniG11, by decide⟩
set_option maxRecDepth 100000 in
theorem okX11_told : MOk mX11_told 2 := ⟨rfl, (by decide +kernel), ⟨(by decide +kernel), (by decide +kernel)⟩, (by decide +kernel), tblG_in (i := 1639) (by rfl) rfl, iniG11, by decide⟩
set_option maxRecDepth 100000 in
theorem okX11_tray : MOk mX11_tray 3 := ⟨rfl, (by decide +kernel), ⟨(by decide +kernel), (by decide +kernel)⟩, (by decide +kernel), tblG_in (i := 1646) (by rfl) rfl, iniG11, by decide⟩
set_option maxRecDepth 100000 in
theorem okX11_write : MOk mX11_write 3 := ⟨rfl, (by decide +kernel), ⟨(by decide +kernel), (by decide +kernel)⟩, (by decide +kernel), tblG_in (i := 1664) (by rfl) rfl, iniG11, by decide⟩
set_option maxRecDepth 100000 in
theorem okX11_say : MOk mX11_say 3 := ⟨rfl, (by decide +kernel), ⟨(by decide +kernel), (by decide +kernel)⟩, (by decide +kernel), tblG_in (i := 1709) (by rfl) rfl, iniG11, by decide⟩
set_option maxRecDepth 100000 in
theorem okX11_image : MOk mX11_image 1 := ⟨rfl, (by decide +kernel), ⟨(by decide +kernel), (by decide +kernel)⟩, (by decide +kernel), tblG_in (i := 1727) (by rfl) rfl, iniG11, by decide⟩
set_option maxRecDepth 100000 in
theorem okX11_restore : MOk mX11_restore 1 := ⟨rfl, (by decide +kernel), ⟨(by decide +kernel), (by decide +kernel)⟩, (by decide +kernel), tblG_in (i := 1752) (by rfl) rfl, iniG11, by decide⟩
set_option maxRecDepth 100000 in
theorem okX11_count : MOk mX11_count 1 := ⟨rfl, (by decide +kernel), ⟨(by decide +kernel), (by decide +kernel)⟩, (by decide +kernel), tblG_in (i := 599) (by rfl) rfl, iniG11, by decide⟩
set_option maxRecDepth 100000 in
theorem okX11_needPlace : MOk mX11_needPlace 1 := ⟨rfl, (by decide +kernel), ⟨(by decide +kernel), (by decide +kernel)⟩, (by decide +kernel), tblG_in (i := 693) (by rfl) rfl, iniG11, by decide⟩
set_option maxRecDepth 100000 in
theorem okX11_needState : MOk mX11_needState 1 := ⟨rfl, (by decide +kernel), ⟨(by decide +kernel), (by decide +kernel)⟩, (by decide +kernel), tblG_in (i := 753) (by rfl) rfl, iniG11, by decide⟩
set_option maxRecDepth 100000 in
theorem okX11_needTongue : MOk mX11_needTongue 1 := ⟨rfl, (by decide +kernel), ⟨(by decide +kernel), (by decide +kernel)⟩, (by decide +kernel), tblG_in (i := 1132) (by rfl) rfl, iniG11, by decide⟩
set_option maxRecDepth 100000 in
theorem okX11_needName : MOk mX11_needName 1 := ⟨rfl, (by decide +kernel), ⟨(by decide +kernel), (by decide +kernel)⟩, (by decide +kernel), tblG_in (i := 1136) (by rfl) rfl, iniG11, by decide⟩
set_option maxRecDepth 100000 in
theorem okX11_needWalker : MOk mX11_needWalker 1 := ⟨rfl, (by decide +kernel), ⟨(by decide +kernel), (by decide +kernel)⟩, (by decide +kernel), tblG_in (i := 1162) (by rfl) rfl, iniG11, by decide⟩
set_option maxRecDepth 100000 in
theorem okX11_needTelling : MOk mX11_needTelling 1 := ⟨rfl, (by decide +kernel), ⟨(by decide +kernel), (by decide +kernel)⟩, (by decide +kernel), tblG_in (i := 1331) (by rfl) rfl, iniG11, by decide⟩
set_option maxRecDepth 100000 in
theorem okX11_needTray : MOk mX11_needTray 1 := ⟨rfl, (by decide +kernel), ⟨(by decide +kernel), (by decide +kernel)⟩, (by decide +kernel), tblG_in (i := 1650) (by rfl) rfl, iniG11, by decide⟩
set_option maxRecDepth 100000 in
theorem okX11_needLaid : MOk mX11_needLaid 1 := ⟨rfl, (by decide +kernel), ⟨(by decide +kernel), (by decide +kernel)⟩, (by decide +kernel), tblG_in (i := 1668) (by rfl) rfl, iniG11, by decide⟩
set_option maxRecDepth 100000 in
theorem okX11_needImage : MOk mX11_needImage 1 := ⟨rfl, (by decide +kernel), ⟨(by decide +kernel), (by decide +kernel)⟩, (by decide +kernel), tblG_in (i := 1731) (by rfl) rfl, iniG11, by decide⟩
set_option maxRecDepth 100000 in
theorem okX11_needYear : MOk mX11_needYear 1 := ⟨rfl, (by decide +kernel), ⟨(by decide +kernel), (by decide +kernel)⟩, (by decide +kernel), tblG_in (i := 764) (by rfl) rfl, iniG11, by decide⟩
set_option maxRecDepth 100000 in
theorem okX11_needYears : MOk mX11_needYears 2 := ⟨rfl, (by decide +kernel), ⟨(by decide +kernel), (by decide +kernel)⟩, (by decide +kernel), tblG_in (i := 712) (by rfl) rfl, iniG11, by decide⟩
set_option maxRecDepth 100000 in
theorem okX11_needKinds : MOk mX11_needKinds 1 := ⟨rfl, (by decide +kernel), ⟨(by decide +kernel), (by decide +kernel)⟩, (by decide +kernel), tblG_in (i := 1140) (by rfl) rfl, iniG11, by decide⟩
set_option maxRecDepth 100000 in
theorem okX11_needWalkers : MOk mX11_needWalkers 1 := ⟨rfl, (by decide +kernel), ⟨(by decide +kernel), (by decide +kernel)⟩, (by decide +kernel), tblG_in (i := 1207) (by rfl) rfl, iniG11, by decide⟩
set_option maxRecDepth 100000 in
theorem okX11_needTeller : MOk mX11_needTeller 1 := ⟨rfl, (by decide +kernel), ⟨(by decide +kernel), (by decide +kernel)⟩, (by decide +kernel), tblG_in (i := 1228) (by rfl) rfl, iniG11, by decide⟩
set_option maxRecDepth 100000 in
theorem okX11_needTold : MOk mX11_needTold 4 := ⟨rfl, (by decide +kernel), ⟨(by decide +kernel), (by decide +kernel)⟩, (by decide +kernel), tblG_in (i := 1342) (by rfl) rfl, iniG11, by decide⟩
set_option maxRecDepth 100000 in
theorem okX11_setOut : MOk mX11_setOut 2 := ⟨rfl, (by decide +kernel), ⟨(by decide +kernel), (by decide +kernel)⟩, (by decide +kernel), tblG_in (i := 1166) (by rfl) rfl, iniG11, by decide⟩
set_option maxRecDepth 100000 in
theorem okX11_isIn : MOk mX11_isIn 2 := ⟨rfl, (by decide +kernel), ⟨(by decide +kernel), (by decide +kernel)⟩, (by decide +kernel), tblG_in (i := 792) (by rfl) rfl, iniG11, by decide⟩
set_option maxRecDepth 100000 in
theorem okX11_lowest : MOk mX11_lowest 1 := ⟨rfl, (by decide +kernel), ⟨(by decide +kernel), (by decide +kernel)⟩, (by decide +kernel), tblG_in (i := 1358) (by rfl) rfl, iniG11, by decide⟩
set_option maxRecDepth 100000 in
theorem okX11_nthOf : MOk mX11_nthOf 2 := ⟨rfl, (by decide +kernel), ⟨(by decide +kernel), (by decide +kernel)⟩, (by decide +kernel), tblG_in (i := 1457) (by rfl) rfl, iniG11, by decide⟩
set_option maxRecDepth 100000 in
theorem okX11_wordOf : MOk mX11_wordOf 3 := ⟨rfl, (by decide +kernel), ⟨(by decide +kernel), (by decide +kernel)⟩, (by decide +kernel), tblG_in (i := 1295) (by rfl) rfl, iniG11, by decide⟩
set_option maxRecDepth 100000 in
theorem okX11_listedWord : MOk mX11_listedWord 1 := ⟨rfl, (by decide +kernel), ⟨(by decide +kernel), (by decide +kernel)⟩, (by decide +kernel), tblG_in (i := 1592) (by rfl) rfl, iniG11, by decide⟩
set_option maxRecDepth 100000 in
theorem okX12_init : MOk mX12_init 0 := ⟨rfl, (by decide +kernel), ⟨(by decide +kernel), (by decide +kernel)⟩, (by decide +kernel), tblG_in (i := 1757) (by rfl) rfl, iniG12, by decide⟩
set_option maxRecDepth 100000 in
theorem okX12_thrown : MOk mX12_thrown 0 := ⟨rfl, (by decide +kernel), ⟨(by decide +kernel), (by decide +kernel)⟩, (by decide +kernel), tblG_in (i := 1883) (by rfl) rfl, iniG12, by decide⟩
set_option maxRecDepth 100000 in
theorem okX12_fails : MOk mX12_fails 1 := ⟨rfl, (by decide +kernel), ⟨(by decide +kernel), (by decide +kernel)⟩, (by decide +kernel), tblG_in (i := 1895) (by rfl) rfl, iniG12, by decide⟩
set_option maxRecDepth 100000 in
theorem okX12_fell : MOk mX12_fell 1 := ⟨rfl, (by decide +kernel), ⟨(by decide +kernel), (by decide +kernel)⟩, (by decide +kernel), tblG_in (i := 2037) (by rfl) rfl, iniG12, by decide⟩
set_option maxRecDepth 100000 in
theorem okX12_within : MOk mX12_within 3 := ⟨rfl, (by decide +kernel), ⟨(by decide +kernel), (by decide +kernel)⟩, (by decide +kernel), tblG_in (i := 1891) (by rfl) rfl, iniG12, by decide⟩
set_option maxRecDepth 100000 in
theorem okX12_isYear : MOk mX12_isYear 1 := ⟨rfl, (by decide +kernel), ⟨(by decide +kernel), (by decide +kernel)⟩, (by decide +kernel), tblG_in (i := 1915) (by rfl) rfl, iniG12, by decide⟩
set_option maxRecDepth 100000 in
theorem okX12_is : MOk mX12_is 2 := ⟨rfl, (by decide +kernel), ⟨(by decide +kernel), (by decide +kernel)⟩, (by decide +kernel), tblG_in (i := 1911) (by rfl) rfl, iniG12, by decide⟩
set_option maxRecDepth 100000 in
theorem okX12_isPlace : MOk mX12_isPlace 1 := ⟨rfl, (by decide +kernel), ⟨(by decide +kernel), (by decide +kernel)⟩, (by decide +kernel), tblG_in (i := 1907) (by rfl) rfl, iniG12, by decide⟩
set_option maxRecDepth 100000 in
theorem okX12_isWalker : MOk mX12_isWalker 1 := ⟨rfl, (by decide +kernel), ⟨(by decide +kernel), (by decide +kernel)⟩, (by decide +kernel), tblG_in (i := 2033) (by rfl) rfl, iniG12, by decide⟩
set_option maxRecDepth 100000 in
theorem okX12_isTelling : MOk mX12_isTelling 1 := ⟨rfl, (by decide +kernel), ⟨(by decide +kernel), (by decide +kernel)⟩, (by decide +kernel), tblG_in (i := 2173) (by rfl) rfl, iniG12, by decide⟩
set_option maxRecDepth 100000 in
theorem okX12_isState : MOk mX12_isState 1 := ⟨rfl, (by decide +kernel), ⟨(by decide +kernel), (by decide +kernel)⟩, (by decide +kernel), tblG_in (i := 1940) (by rfl) rfl, iniG12, by decide⟩
set_option maxRecDepth 100000 in
theorem okX12_isName : MOk mX12_isName 1 := ⟨rfl, (by decide +kernel), ⟨(by decide +kernel), (by decide +kernel)⟩, (by decide +kernel), tblG_in (i := 1927) (by rfl) rfl, iniG12, by decide⟩
set_option maxRecDepth 100000 in
theorem okX12_more : MOk mX12_more 1 := ⟨rfl, (by decide +kernel), ⟨(by decide +kernel), (by decide +kernel)⟩, (by decide +kernel), tblG_in (i := 1899) (by rfl) rfl, iniG12, by decide⟩
set_option maxRecDepth 100000 in
theorem okX12_place : MOk mX12_place 2 := ⟨rfl, (by decide +kernel), ⟨(by decide +kernel), (by decide +kernel)⟩, (by decide +kernel), tblG_in (i := 1887) (by rfl) rfl, iniG12, by decide⟩
set_option maxRecDepth 100000 in
theorem okX12_wayOf : MOk mX12_wayOf 2 := ⟨rfl, (by decide +kernel), ⟨(by decide +kernel), (by decide +kernel)⟩, (by decide +kernel), tblG_in (i := 1920) (by rfl) rfl, iniG12, by decide⟩
set_option maxRecDepth 100000 in
theorem okX12_way : MOk mX12_way 6 := ⟨rfl, (by decide +kernel), ⟨(by decide +kernel), (by decide +kernel)⟩, (by decide +kernel), tblG_in (i := 1903) (by rfl) rfl, iniG12, by decide⟩
set_option maxRecDepth 100000 in
theorem okX12_mark : MOk mX12_mark 5 := ⟨rfl, (by decide +kernel), ⟨(by decide +kernel), (by decide +kernel)⟩, (by decide +kernel), tblG_in (i := 1924) (by rfl) rfl, iniG12, by decide⟩
set_option maxRecDepth 100000 in
theorem okX12_ends : MOk mX12_ends 3 := ⟨rfl, (by decide +kernel), ⟨(by decide +kernel), (by decide +kernel)⟩, (by decide +kernel), tblG_in (i := 1932) (by rfl) rfl, iniG12, by decide⟩
set_option maxRecDepth 100000 in
theorem okX12_isThere : MOk mX12_isThere 2 := ⟨rfl, (by decide +kernel), ⟨(by decide +kernel), (by decide +kernel)⟩, (by decide +kernel), tblG_in (i := 1960) (by rfl) rfl, iniG12, by decide⟩
set_option maxRecDepth 100000 in
theorem okX12_endOf : MOk mX12_endOf 2 := ⟨rfl, (by decide +kernel), ⟨(by decide +kernel), (by decide +kernel)⟩, (by decide +kernel), tblG_in (i := 1948) (by rfl) rfl, iniG12, by decide⟩
set_option maxRecDepth 100000 in
theorem okX12_placeOf : MOk mX12_placeOf 1 := ⟨rfl, (by decide +kernel), ⟨(by decide +kernel), (by decide +kernel)⟩, (by decide +kernel), tblG_in (i := 1944) (by rfl) rfl, iniG12, by decide⟩
set_option maxRecDepth 100000 in
theorem okX12_alongX : MOk mX12_alongX 1 := ⟨rfl, (by decide +kernel), ⟨(by decide +kernel), (by decide +kernel)⟩, (by decide +kernel), tblG_in (i := 1968) (by rfl) rfl, iniG12, by decide⟩
set_option maxRecDepth 100000 in
theorem okX12_alongY : MOk mX12_alongY 1 := ⟨rfl, (by decide +kernel), ⟨(by decide +kernel), (by decide +kernel)⟩, (by decide +kernel), tblG_in (i := 1972) (by rfl) rfl, iniG12, by decide⟩
set_option maxRecDepth 100000 in
theorem okX12_state : MOk mX12_state 2 := ⟨rfl, (by decide +kernel), ⟨(by decide +kernel), (by decide +kernel)⟩, (by decide +kernel), tblG_in (i := 1936) (by rfl) rfl, iniG12, by decide⟩
set_option maxRecDepth 100000 in
theorem okX12_isOut : MOk mX12_isOut 3 := ⟨rfl, (by decide +kernel), ⟨(by decide +kernel), (by decide +kernel)⟩, (by decide +kernel), tblG_in (i := 1956) (by rfl) rfl, iniG12, by decide⟩
set_option maxRecDepth 100000 in
theorem okX12_cross : MOk mX12_cross 2 := ⟨rfl, (by decide +kernel), ⟨(by decide +kernel), (by decide +kernel)⟩, (by decide +kernel), tblG_in (i := 1964) (by rfl) rfl, iniG12, by decide⟩
set_option maxRecDepth 100000 in
theorem okX12_isLessTurned : MOk mX12_isLessTurned 3 := ⟨rfl, (by decide +kernel), ⟨(by decide +kernel), (by decide +kernel)⟩, (by decide +kernel), tblG_in (i := 1994) (by rfl) rfl, iniG12, by decide⟩
set_option maxRecDepth 100000 in
theorem okX12_dots : MOk mX12_dots 2 := ⟨rfl, (by decide +kernel), ⟨(by decide +kernel), (by decide +kernel)⟩, (by decide +kernel), tblG_in (i := 1998) (by rfl) rfl, iniG12, by decide⟩
set_option maxRecDepth 100000 in
theorem okX12_sizes : MOk mX12_sizes 1 := ⟨rfl, (by decide +kernel), ⟨(by decide +kernel), (by decide +kernel)⟩, (by decide +kernel), tblG_in (i := 2002) (by rfl) rfl, iniG12, by decide⟩
set_option maxRecDepth 100000 in
theorem okX12_out : MOk mX12_out 3 := ⟨rfl, (by decide +kernel), ⟨(by decide +kernel), (by decide +kernel)⟩, (by decide +kernel), tblG_in (i := 1952) (by rfl) rfl, iniG12, by decide⟩
set_option maxRecDepth 100000 in
theorem okX12_has : MOk mX12_has 3 := ⟨rfl, (by decide +kernel), ⟨(by decide +kernel), (by decide +kernel)⟩, (by decide +kernel), tblG_in (i := 2011) (by rfl) rfl, iniG12, by decide⟩
set_option maxRecDepth 100000 in
theorem okX12_put : MOk mX12_put 3 := ⟨rfl, (by decide +kernel), ⟨(by decide +kernel), (by decide +kernel)⟩, (by decide +kernel), tblG_in (i := 1990) (by rfl) rfl, iniG12, by decide⟩
set_option maxRecDepth 100000 in
theorem okX12_join : MOk mX12_join 4 := ⟨rfl, (by decide +kernel), ⟨(by decide +kernel), (by decide +kernel)⟩, (by decide +kernel), tblG_in (i := 2218) (by rfl) rfl, iniG12, by decide⟩
set_option maxRecDepth 100000 in
theorem okX12_empty : MOk mX12_empty 2 := ⟨rfl, (by decide +kernel), ⟨(by decide +kernel), (by decide +kernel)⟩, (by decide +kernel), tblG_in (i := 2192) (by rfl) rfl, iniG12, by decide⟩
set_option maxRecDepth 100000 in
theorem okX12_copy : MOk mX12_copy 4 := ⟨rfl, (by decide +kernel), ⟨(by decide +kernel), (by decide +kernel)⟩, (by decide +kernel), tblG_in (i := 2211) (by rfl) rfl, iniG12, by decide⟩
set_option maxRecDepth 100000 in
theorem okX12_isNone : MOk mX12_isNone 2 := ⟨rfl, (by decide +kernel), ⟨(by decide +kernel), (by decide +kernel)⟩, (by decide +kernel), tblG_in (i := 2229) (by rfl) rfl, iniG12, by decide⟩
set_option maxRecDepth 100000 in
theorem okX12_sideAt : MOk mX12_sideAt 3 := ⟨rfl, (by decide +kernel), ⟨(by decide +kernel), (by decide +kernel)⟩, (by decide +kernel), tblG_in (i := 1987) (by rfl) rfl, iniG12, by decide⟩
set_option maxRecDepth 100000 in
theorem okX12_lay : MOk mX12_lay 1 := ⟨rfl, (by decide +kernel), ⟨(by decide +kernel), (by decide +kernel)⟩, (by decide +kernel), tblG_in (i := 1980) (by rfl) rfl, iniG12, by decide⟩
set_option maxRecDepth 100000 in
theorem okX12_layOne : MOk mX12_layOne 2 := ⟨rfl, (by decide +kernel), ⟨(by decide +kernel), (by decide +kernel)⟩, (by decide +kernel), tblG_in (i := 1984) (by rfl) rfl, iniG12, by decide⟩
set_option maxRecDepth 100000 in
theorem okX12_sizeOf : MOk mX12_sizeOf 2 := ⟨rfl, (by decide +kernel), ⟨(by decide +kernel), (by decide +kernel)⟩, (by decide +kernel), tblG_in (i := 2008) (by rfl) rfl, iniG12, by decide⟩
set_option maxRecDepth 100000 in
theorem okX12_numberOf : MOk mX12_numberOf 3 := ⟨rfl, (by decide +kernel), ⟨(by decide +kernel), (by decide +kernel)⟩, (by decide +kernel), tblG_in (i := 2005) (by rfl) rfl, iniG12, by decide⟩
set_option maxRecDepth 100000 in
theorem okX12_on : MOk mX12_on 3 := ⟨rfl, (by decide +kernel), ⟨(by decide +kernel), (by decide +kernel)⟩, (by decide +kernel), tblG_in (i := 1976) (by rfl) rfl, iniG12, by decide⟩
set_option maxRecDepth 100000 in
theorem okX12_tongue : MOk mX12_tongue 0 := ⟨rfl, (by decide +kernel), ⟨(by decide +kernel), (by decide +kernel)⟩, (by decide +kernel), tblG_in (i := 2015) (by rfl) rfl, iniG12, by decide⟩
set_option maxRecDepth 100000 in
theorem okX12_means : MOk mX12_means 3 := ⟨rfl, (by decide +kernel), ⟨(by decide +kernel), (by decide +kernel)⟩, (by decide +kernel), tblG_in (i := 2019) (by rfl) rfl, iniG12, by decide⟩
set_option maxRecDepth 100000 in
theorem okX12_walker : MOk mX12_walker 5 := ⟨rfl, (by decide +kernel), ⟨(by decide +kernel), (by decide +kernel)⟩, (by decide +kernel), tblG_in (i := 2024) (by rfl) rfl, iniG12, by decide⟩
set_option maxRecDepth 100000 in
theorem okX12_patience : MOk mX12_patience 1 := ⟨rfl, (by decide +kernel), ⟨(by decide +kernel), (by decide +kernel)⟩, (by decide +kernel), tblG_in (i := 2208) (by rfl) rfl, iniG12, by decide⟩
set_option maxRecDepth 100000 in
theorem okX12_countsPaths : MOk mX12_countsPaths 1 := ⟨rfl, (by decide +kernel), ⟨(by decide +kernel), (by decide +kernel)⟩, (by decide +kernel), tblG_in (i := 2254) (by rfl) rfl, iniG12, by decide⟩
set_option maxRecDepth 100000 in
theorem okX12_kindsOf : MOk mX12_kindsOf 2 := ⟨rfl, (by decide +kernel), ⟨(by decide +kernel), (by decide +kernel)⟩, (by decide +kernel), tblG_in (i := 2049) (by rfl) rfl, iniG12, by decide⟩
set_option maxRecDepth 100000 in
theorem okX12_isMark : MOk mX12_isMark 3 := ⟨rfl, (by decide +kernel), ⟨(by decide +kernel), (by decide +kernel)⟩, (by decide +kernel), tblG_in (i := 2053) (by rfl) rfl, iniG12, by decide⟩
set_option maxRecDepth 100000 in
theorem okX12_standsAt : MOk mX12_standsAt 4 := ⟨rfl, (by decide +kernel), ⟨(by decide +kernel), (by decide +kernel)⟩, (by decide +kernel), tblG_in (i := 2045) (by rfl) rfl, iniG12, by decide⟩
set_option maxRecDepth 100000 in
theorem okX12_isSeenAt : MOk mX12_isSeenAt 4 := ⟨rfl, (by decide +kernel), ⟨(by decide +kernel), (by decide +kernel)⟩, (by decide +kernel), tblG_in (i := 2041) (by rfl) rfl, iniG12, by decide⟩
set_option maxRecDepth 100000 in
theorem okX12_areJoined : MOk mX12_areJoined 3 := ⟨rfl, (by decide +kernel), ⟨(by decide +kernel), (by decide +kernel)⟩, (by decide +kernel), tblG_in (i := 2057) (by rfl) rfl, iniG12, by decide⟩
set_option maxRecDepth 100000 in
theorem okX12_standing : MOk mX12_standing 2 := ⟨rfl, (by decide +kernel), ⟨(by decide +kernel), (by decide +kernel)⟩, (by decide +kernel), tblG_in (i := 2226) (by rfl) rfl, iniG12, by decide⟩
set_option maxRecDepth 100000 in
theorem okX12_stands : MOk mX12_stands 5 := ⟨rfl, (by decide +kernel), ⟨(by decide +kernel), (by decide +kernel)⟩, (by decide +kernel), tblG_in (i := 2029) (by rfl) rfl, iniG12, by decide⟩
set_option maxRecDepth 100000 in
theorem okX12_worth : MOk mX12_worth 4 := ⟨rfl, (by decide +kernel), ⟨(by decide +kernel), (by decide +kernel)⟩, (by decide +kernel), tblG_in (i := 2061) (by rfl) rfl, iniG12, by decide⟩
set_option maxRecDepth 100000 in
theorem okX12_feed : MOk mX12_feed 5 := ⟨rfl, (by decide +kernel), ⟨(by decide +kernel), (by decide +kernel)⟩, (by decide +kernel), tblG_in (i := 2065) (by rfl) rfl, iniG12, by decide⟩
set_option maxRecDepth 100000 in
theorem okX12_see : MOk mX12_see 1 := ⟨rfl, (by decide +kernel), ⟨(by decide +kernel), (by decide +kernel)⟩, (by decide +kernel), tblG_in (i := 2081) (by rfl) rfl, iniG12, by decide⟩
set_option maxRecDepth 100000 in
theorem okX12_isLetter : MOk mX12_isLetter 1 := ⟨rfl, (by decide +kernel), ⟨(by decide +kernel), (by decide +kernel)⟩, (by decide +kernel), tblG_in (i := 2077) (by rfl) rfl, iniG12, by decide⟩
set_option maxRecDepth 100000 in
theorem okX12_isDigit : MOk mX12_isDigit 1 := ⟨rfl, (by decide +kernel), ⟨(by decide +kernel), (by decide +kernel)⟩, (by decide +kernel), tblG_in (i := 2084) (by rfl) rfl, iniG12, by decide⟩
set_option maxRecDepth 100000 in
theorem okX12_next : MOk mX12_next 0 := ⟨rfl, (by decide +kernel), ⟨(by decide +kernel), (by decide +kernel)⟩, (by decide +kernel), tblG_in (i := 2074) (by rfl) rfl, iniG12, by decide⟩
set_option maxRecDepth 100000 in
theorem okX12_wrong : MOk mX12_wrong 1 := ⟨rfl, (by decide +kernel), ⟨(by decide +kernel), (by decide +kernel)⟩, (by decide +kernel), tblG_in (i := 2115) (by rfl) rfl, iniG12, by decide⟩
set_option maxRecDepth 100000 in
theorem okX12_isWord : MOk mX12_isWord 1 := ⟨rfl, (by decide +kernel), ⟨(by decide +kernel), (by decide +kernel)⟩, (by decide +kernel), tblG_in (i := 2097) (by rfl) rfl, iniG12, by decide⟩
set_option maxRecDepth 100000 in
theorem okX12_nameNow : MOk mX12_nameNow 0 := ⟨rfl, (by decide +kernel), ⟨(by decide +kernel), (by decide +kernel)⟩, (by decide +kernel), tblG_in (i := 2136) (by rfl) rfl, iniG12, by decide⟩
set_option maxRecDepth 100000 in
theorem okX12_readName : MOk mX12_readName 0 := ⟨rfl, (by decide +kernel), ⟨(by decide +kernel), (by decide +kernel)⟩, (by decide +kernel), tblG_in (i := 2132) (by rfl) rfl, iniG12, by decide⟩
set_option maxRecDepth 100000 in
theorem okX12_readNumber : MOk mX12_readNumber 0 := ⟨rfl, (by decide +kernel), ⟨(by decide +kernel), (by decide +kernel)⟩, (by decide +kernel), tblG_in (i := 2127) (by rfl) rfl, iniG12, by decide⟩
set_option maxRecDepth 100000 in
theorem okX12_sideNow : MOk mX12_sideNow 0 := ⟨rfl, (by decide +kernel), ⟨(by decide +kernel), (by decide +kernel)⟩, (by decide +kernel), tblG_in (i := 2109) (by rfl) rfl, iniG12, by decide⟩
set_option maxRecDepth 100000 in
theorem okX12_wordAt : MOk mX12_wordAt 2 := ⟨rfl, (by decide +kernel), ⟨(by decide +kernel), (by decide +kernel)⟩, (by decide +kernel), tblG_in (i := 2155) (by rfl) rfl, iniG12, by decide⟩
set_option maxRecDepth 100000 in
theorem okX12_lays : MOk mX12_lays 4 := ⟨rfl, (by decide +kernel), ⟨(by decide +kernel), (by decide +kernel)⟩, (by decide +kernel), tblG_in (i := 2152) (by rfl) rfl, iniG12, by decide⟩
set_option maxRecDepth 100000 in
theorem okX12_isBegun : MOk mX12_isBegun 0 := ⟨rfl, (by decide +kernel), ⟨(by decide +kernel), (by decide +kernel)⟩, (by decide +kernel), tblG_in (i := 2092) (by rfl) rfl, iniG12, by decide⟩
set_option maxRecDepth 100000 in
theorem okX12_readWord : MOk mX12_readWord 1 := ⟨rfl, (by decide +kernel), ⟨(by decide +kernel), (by decide +kernel)⟩, (by decide +kernel), tblG_in (i := 2119) (by rfl) rfl, iniG12, by decide⟩
set_option maxRecDepth 100000 in
theorem okX12_readNth : MOk mX12_readNth 1 := ⟨rfl, (by decide +kernel), ⟨(by decide +kernel), (by decide +kernel)⟩, (by decide +kernel), tblG_in (i := 2123) (by rfl) rfl, iniG12, by decide⟩
set_option maxRecDepth 100000 in
theorem okX12_readSaying : MOk mX12_readSaying 1 := ⟨rfl, (by decide +kernel), ⟨(by decide +kernel), (by decide +kernel)⟩, (by decide +kernel), tblG_in (i := 2088) (by rfl) rfl, iniG12, by decide⟩
set_option maxRecDepth 100000 in
theorem okX12_keeps : MOk mX12_keeps 3 := ⟨rfl, (by decide +kernel), ⟨(by decide +kernel), (by decide +kernel)⟩, (by decide +kernel), tblG_in (i := 2161) (by rfl) rfl, iniG12, by decide⟩
set_option maxRecDepth 100000 in
theorem okX12_telling : MOk mX12_telling 3 := ⟨rfl, (by decide +kernel), ⟨(by decide +kernel), (by decide +kernel)⟩, (by decide +kernel), tblG_in (i := 2069) (by rfl) rfl, iniG12, by decide⟩
set_option maxRecDepth 100000 in
theorem okX12_fault : MOk mX12_fault 1 := ⟨rfl, (by decide +kernel), ⟨(by decide +kernel), (by decide +kernel)⟩, (by decide +kernel), tblG_in (i := 2165) (by rfl) rfl, iniG12, by decide⟩
set_option maxRecDepth 100000 in
theorem okX12_sayingsOf : MOk mX12_sayingsOf 1 := ⟨rfl, (by decide +kernel), ⟨(by decide +kernel), (by decide +kernel)⟩, (by decide +kernel), tblG_in (i := 2177) (by rfl) rfl, iniG12, by decide⟩
set_option maxRecDepth 100000 in
theorem okX12_goalOf : MOk mX12_goalOf 1 := ⟨rfl, (by decide +kernel), ⟨(by decide +kernel), (by decide +kernel)⟩, (by decide +kernel), tblG_in (i := 2278) (by rfl) rfl, iniG12, by decide⟩
set_option maxRecDepth 100000 in
theorem okX12_sayings : MOk mX12_sayings 1 := ⟨rfl, (by decide +kernel), ⟨(by decide +kernel), (by decide +kernel)⟩, (by decide +kernel), tblG_in (i := 2169) (by rfl) rfl, iniG12, by decide⟩
set_option maxRecDepth 100000 in
theorem okX12_goOn : MOk mX12_goOn 4 := ⟨rfl, (by decide +kernel), ⟨(by decide +kernel), (by decide +kernel)⟩, (by decide +kernel), tblG_in (i := 2215) (by rfl) rfl, iniG12, by decide⟩
set_option maxRecDepth 100000 in
theorem okX12_word : MOk mX12_word 8 := ⟨rfl, (by decide +kernel), ⟨(by decide +kernel), (by decide +kernel)⟩, (by decide +kernel), tblG_in (i := 2200) (by rfl) rfl, iniG12, by decide⟩
set_option maxRecDepth 100000 in
theorem okX12_sideOf : MOk mX12_sideOf 2 := ⟨rfl, (by decide +kernel), ⟨(by decide +kernel), (by decide +kernel)⟩, (by decide +kernel), tblG_in (i := 2246) (by rfl) rfl, iniG12, by decide⟩
set_option maxRecDepth 100000 in
theorem okX12_onTimes : MOk mX12_onTimes 6 := ⟨rfl, (by decide +kernel), ⟨(by decide +kernel), (by decide +kernel)⟩, (by decide +kernel), tblG_in (i := 2204) (by rfl) rfl, iniG12, by decide⟩
set_option maxRecDepth 100000 in
theorem okX12_until : MOk mX12_until 7 := ⟨rfl, (by decide +kernel), ⟨(by decide +kernel), (by decide +kernel)⟩, (by decide +kernel), tblG_in (i := 2222) (by rfl) rfl, iniG12, by decide⟩
set_option maxRecDepth 100000 in
theorem okX12_isOver : MOk mX12_isOver 3 := ⟨rfl, (by decide +kernel), ⟨(by decide +kernel), (by decide +kernel)⟩, (by decide +kernel), tblG_in (i := 2242) (by rfl) rfl, iniG12, by decide⟩
set_option maxRecDepth 100000 in
theorem okX12_far : MOk mX12_far 6 := ⟨rfl, (by decide +kernel), ⟨(by decide +kernel), (by decide +kernel)⟩, (by decide +kernel), tblG_in (i := 2234) (by rfl) rfl, iniG12, by decide⟩
set_option maxRecDepth 100000 in
theorem okX12_goOnFar : MOk mX12_goOnFar 2 := ⟨rfl, (by decide +kernel), ⟨(by decide +kernel), (by decide +kernel)⟩, (by decide +kernel), tblG_in (i := 2238) (by rfl) rfl, iniG12, by decide⟩
set_option maxRecDepth 100000 in
theorem okX12_nth : MOk mX12_nth 8 := ⟨rfl, (by decide +kernel), ⟨(by decide +kernel), (by decide +kernel)⟩, (by decide +kernel), tblG_in (i := 2250) (by rfl) rfl, iniG12, by decide⟩
set_option maxRecDepth 100000 in
theorem okX12_says : MOk mX12_says 3 := ⟨rfl, (by decide +kernel), ⟨(by decide +kernel), (by decide +kernel)⟩, (by decide +kernel), tblG_in (i := 2196) (by rfl) rfl, iniG12, by decide⟩
set_option maxRecDepth 100000 in
theorem okX12_goes : MOk mX12_goes 5 := ⟨rfl, (by decide +kernel), ⟨(by decide +kernel), (by decide +kernel)⟩, (by decide +kernel), tblG_in (i := 2189) (by rfl) rfl, iniG12, by decide⟩
set_option maxRecDepth 100000 in
theorem okX12_placesOf : MOk mX12_placesOf 1 := ⟨rfl, (by decide +kernel), ⟨(by decide +kernel), (by decide +kernel)⟩, (by decide +kernel), tblG_in (i := 2266) (by rfl) rfl, iniG12, by decide⟩
set_option maxRecDepth 100000 in
theorem okX12_isRight : MOk mX12_isRight 4 := ⟨rfl, (by decide +kernel), ⟨(by decide +kernel), (by decide +kernel)⟩, (by decide +kernel), tblG_in (i := 2274) (by rfl) rfl, iniG12, by decide⟩
set_option maxRecDepth 100000 in
theorem okX12_areThere : MOk mX12_areThere 3 := ⟨rfl, (by decide +kernel), ⟨(by decide +kernel), (by decide +kernel)⟩, (by decide +kernel), tblG_in (i := 2185) (by rfl) rfl, iniG12, by decide⟩
set_option maxRecDepth 100000 in
theorem okX12_leads : MOk mX12_leads 6 := ⟨rfl, (by decide +kernel), ⟨(by decide +kernel), (by decide +kernel)⟩, (by decide +kernel), tblG_in (i := 2181) (by rfl) rfl, iniG12, by decide⟩
set_option maxRecDepth 100000 in
theorem okX12_holds : MOk mX12_holds 4 := ⟨rfl, (by decide +kernel), ⟨(by decide +kernel), (by decide +kernel)⟩, (by decide +kernel), tblG_in (i := 2258) (by rfl) rfl, iniG12, by decide⟩
set_option maxRecDepth 100000 in
theorem okX12_end : MOk mX12_end 5 := ⟨rfl, (by decide +kernel), ⟨(by decide +kernel), (by decide +kernel)⟩, (by decide +kernel), tblG_in (i := 2262) (by rfl) rfl, iniG12, by decide⟩
set_option maxRecDepth 100000 in
theorem okX12_right : MOk mX12_right 4 := ⟨rfl, (by decide +kernel), ⟨(by decide +kernel), (by decide +kernel)⟩, (by decide +kernel), tblG_in (i := 2270) (by rfl) rfl, iniG12, by decide⟩
set_option maxRecDepth 100000 in
theorem okX12_parted : MOk mX12_parted 3 := ⟨rfl, (by decide +kernel), ⟨(by decide +kernel), (by decide +kernel)⟩, (by decide +kernel), tblG_in (i := 2295) (by rfl) rfl, iniG12, by decide⟩
set_option maxRecDepth 100000 in
theorem okX12_oddsOn : MOk mX12_oddsOn 3 := ⟨rfl, (by decide +kernel), ⟨(by decide +kernel), (by decide +kernel)⟩, (by decide +kernel), tblG_in (i := 2291) (by rfl) rfl, iniG12, by decide⟩
set_option maxRecDepth 100000 in
theorem okX12_shareAt : MOk mX12_shareAt 1 := ⟨rfl, (by decide +kernel), ⟨(by decide +kernel), (by decide +kernel)⟩, (by decide +kernel), tblG_in (i := 2299) (by rfl) rfl, iniG12, by decide⟩
set_option maxRecDepth 100000 in
theorem okX12_oddsFrom : MOk mX12_oddsFrom 4 := ⟨rfl, (by decide +kernel), ⟨(by decide +kernel), (by decide +kernel)⟩, (by decide +kernel), tblG_in (i := 2286) (by rfl) rfl, iniG12, by decide⟩
set_option maxRecDepth 100000 in
theorem okX12_odds : MOk mX12_odds 5 := ⟨rfl, (by decide +kernel), ⟨(by decide +kernel), (by decide +kernel)⟩, (by decide +kernel), tblG_in (i := 2282) (by rfl) rfl, iniG12, by decide⟩
set_option maxRecDepth 100000 in
theorem okX12_parts : MOk mX12_parts 4 := ⟨rfl, (by decide +kernel), ⟨(by decide +kernel), (by decide +kernel)⟩, (by decide +kernel), tblG_in (i := 2303) (by rfl) rfl, iniG12, by decide⟩
set_option maxRecDepth 100000 in
theorem okX12_hangs : MOk mX12_hangs 5 := ⟨rfl, (by decide +kernel), ⟨(by decide +kernel), (by decide +kernel)⟩, (by decide +kernel), tblG_in (i := 2307) (by rfl) rfl, iniG12, by decide⟩
set_option maxRecDepth 100000 in
theorem okX12_years : MOk mX12_years 4 := ⟨rfl, (by decide +kernel), ⟨(by decide +kernel), (by decide +kernel)⟩, (by decide +kernel), tblG_in (i := 2311) (by rfl) rfl, iniG12, by decide⟩
set_option maxRecDepth 100000 in
theorem okX12_two : MOk mX12_two 7 := ⟨rfl, (by decide +kernel), ⟨(by decide +kernel), (by decide +kernel)⟩, (by decide +kernel), tblG_in (i := 2315) (by rfl) rfl, iniG12, by decide⟩
set_option maxRecDepth 100000 in
theorem okX12_ask : MOk mX12_ask 7 := ⟨rfl, (by decide +kernel), ⟨(by decide +kernel), (by decide +kernel)⟩, (by decide +kernel), tblG_in (i := 2320) (by rfl) rfl, iniG12, by decide⟩
set_option maxRecDepth 100000 in
theorem okX12_tries : MOk mX12_tries 2 := ⟨rfl, (by decide +kernel), ⟨(by decide +kernel), (by decide +kernel)⟩, (by decide +kernel), tblG_in (i := 2337) (by rfl) rfl, iniG12, by decide⟩
set_option maxRecDepth 100000 in
theorem okX12_areAll : MOk mX12_areAll 1 := ⟨rfl, (by decide +kernel), ⟨(by decide +kernel), (by decide +kernel)⟩, (by decide +kernel), tblG_in (i := 2333) (by rfl) rfl, iniG12, by decide⟩
set_option maxRecDepth 100000 in
theorem okX12_seek : MOk mX12_seek 2 := ⟨rfl, (by decide +kernel), ⟨(by decide +kernel), (by decide +kernel)⟩, (by decide +kernel), tblG_in (i := 2329) (by rfl) rfl, iniG12, by decide⟩
set_option maxRecDepth 100000 in
theorem okX12_shortest : MOk mX12_shortest 6 := ⟨rfl, (by decide +kernel), ⟨(by decide +kernel), (by decide +kernel)⟩, (by decide +kernel), tblG_in (i := 2324) (by rfl) rfl, iniG12, by decide⟩
set_option maxRecDepth 100000 in
theorem okX12_went : MOk mX12_went 5 := ⟨rfl, (by decide +kernel), ⟨(by decide +kernel), (by decide +kernel)⟩, (by decide +kernel), tblG_in (i := 2341) (by rfl) rfl, iniG12, by decide⟩
set_option maxRecDepth 100000 in
theorem okX12_isAsWent : MOk mX12_isAsWent 1 := ⟨rfl, (by decide +kernel), ⟨(by decide +kernel), (by decide +kernel)⟩, (by decide +kernel), tblG_in (i := 2349) (by rfl) rfl, iniG12, by decide⟩
set_option maxRecDepth 100000 in
theorem okX12_learned : MOk mX12_learned 2 := ⟨rfl, (by decide +kernel), ⟨(by decide +kernel), (by decide +kernel)⟩, (by decide +kernel), tblG_in (i := 2345) (by rfl) rfl, iniG12, by decide⟩
set_option maxRecDepth 100000 in
theorem okX12_records : MOk mX12_records 2 := ⟨rfl, (by decide +kernel), ⟨(by decide +kernel), (by decide +kernel)⟩, (by decide +kernel), tblG_in (i := 2357) (by rfl) rfl, iniG12, by decide⟩
set_option maxRecDepth 100000 in
theorem okX12_teller : MOk mX12_teller 0 := ⟨rfl, (by decide +kernel), ⟨(by decide +kernel), (by decide +kernel)⟩, (by decide +kernel), tblG_in (i := 2353) (by rfl) rfl, iniG12, by decide⟩
set_option maxRecDepth 100000 in
theorem okX12_told : MOk mX12_told 2 := ⟨rfl, (by decide +kernel), ⟨(by decide +kernel), (by decide +kernel)⟩, (by decide +kernel), tblG_in (i := 2361) (by rfl) rfl, iniG12, by decide⟩
set_option maxRecDepth 100000 in
theorem okX12_isTray : MOk mX12_isTray 1 := ⟨rfl, (by decide +kernel), ⟨(by decide +kernel), (by decide +kernel)⟩, (by decide +kernel), tblG_in (i := 2368) (by rfl) rfl, iniG12, by decide⟩
set_option maxRecDepth 100000 in
theorem okX12_tray : MOk mX12_tray 3 := ⟨rfl, (by decide +kernel), ⟨(by decide +kernel), (by decide +kernel)⟩, (by decide +kernel), tblG_in (i := 2365) (by rfl) rfl, iniG12, by decide⟩
set_option maxRecDepth 100000 in
theorem okX12_write : MOk mX12_write 3 := ⟨rfl, (by decide +kernel), ⟨(by decide +kernel), (by decide +kernel)⟩, (by decide +kernel), tblG_in (i := 2373) (by rfl) rfl, iniG12, by decide⟩
set_option maxRecDepth 100000 in
theorem okX12_say : MOk mX12_say 3 := ⟨rfl, (by decide +kernel), ⟨(by decide +kernel), (by decide +kernel)⟩, (by decide +kernel), tblG_in (i := 2377) (by rfl) rfl, iniG12, by decide⟩
set_option maxRecDepth 100000 in
theorem okX12_image : MOk mX12_image 1 := ⟨rfl, (by decide +kernel), ⟨(by decide +kernel), (by decide +kernel)⟩, (by decide +kernel), tblG_in (i := 2382) (by rfl) rfl, iniG12, by decide⟩
set_option maxRecDepth 100000 in
theorem okX12_restore : MOk mX12_restore 1 := ⟨rfl, (by decide +kernel), ⟨(by decide +kernel), (by decide +kernel)⟩, (by decide +kernel), tblG_in (i := 2386) (by rfl) rfl, iniG12, by decide⟩
set_option maxRecDepth 100000 in
theorem okX12_count : MOk mX12_count 1 := ⟨rfl, (by decide +kernel), ⟨(by decide +kernel), (by decide +kernel)⟩, (by decide +kernel), tblG_in (i := 2390) (by rfl) rfl, iniG12, by decide⟩
set_option maxRecDepth 100000 in
theorem okL_place : MOk mL_place 4 := ⟨rfl, (by decide +kernel), ⟨(by decide +kernel), (by decide +kernel)⟩, (by decide +kernel), tblG_in (i := 602) (by rfl) rfl, iniG13, by decide⟩
set_option maxRecDepth 100000 in
theorem okL_way : MOk mL_way 8 := ⟨rfl, (by decide +kernel), ⟨(by decide +kernel), (by decide +kernel)⟩, (by decide +kernel), tblG_in (i := 684) (by rfl) rfl, iniG13, by decide⟩
set_option maxRecDepth 100000 in
theorem okL_mark : MOk mL_mark 7 := ⟨rfl, (by decide +kernel), ⟨(by decide +kernel), (by decide +kernel)⟩, (by decide +kernel), tblG_in (i := 727) (by rfl) rfl, iniG13, by decide⟩
set_option maxRecDepth 100000 in
theorem okL_ends : MOk mL_ends 5 := ⟨rfl, (by decide +kernel), ⟨(by decide +kernel), (by decide +kernel)⟩, (by decide +kernel), tblG_in (i := 738) (by rfl) rfl, iniG13, by decide⟩
set_option maxRecDepth 100000 in
theorem okL_state : MOk mL_state 4 := ⟨rfl, (by decide +kernel), ⟨(by decide +kernel), (by decide +kernel)⟩, (by decide +kernel), tblG_in (i := 745) (by rfl) rfl, iniG13, by decide⟩
set_option maxRecDepth 100000 in
theorem okL_out : MOk mL_out 5 := ⟨rfl, (by decide +kernel), ⟨(by decide +kernel), (by decide +kernel)⟩, (by decide +kernel), tblG_in (i := 756) (by rfl) rfl, iniG13, by decide⟩
set_option maxRecDepth 100000 in
theorem okL_on : MOk mL_on 5 := ⟨rfl, (by decide +kernel), ⟨(by decide +kernel), (by decide +kernel)⟩, (by decide +kernel), tblG_in (i := 1098) (by rfl) rfl, iniG13, by decide⟩
set_option maxRecDepth 100000 in
theorem okL_means : MOk mL_means 5 := ⟨rfl, (by decide +kernel), ⟨(by decide +kernel), (by decide +kernel)⟩, (by decide +kernel), tblG_in (i := 1124) (by rfl) rfl, iniG13, by decide⟩
set_option maxRecDepth 100000 in
theorem okL_walker : MOk mL_walker 7 := ⟨rfl, (by decide +kernel), ⟨(by decide +kernel), (by decide +kernel)⟩, (by decide +kernel), tblG_in (i := 1143) (by rfl) rfl, iniG13, by decide⟩
set_option maxRecDepth 100000 in
theorem okL_stands : MOk mL_stands 7 := ⟨rfl, (by decide +kernel), ⟨(by decide +kernel), (by decide +kernel)⟩, (by decide +kernel), tblG_in (i := 1154) (by rfl) rfl, iniG13, by decide⟩
set_option maxRecDepth 100000 in
theorem okL_worth : MOk mL_worth 6 := ⟨rfl, (by decide +kernel), ⟨(by decide +kernel), (by decide +kernel)⟩, (by decide +kernel), tblG_in (i := 1199) (by rfl) rfl, iniG13, by decide⟩
set_option maxRecDepth 100000 in
theorem okL_telling : MOk mL_telling 5 := ⟨rfl, (by decide +kernel), ⟨(by decide +kernel), (by decide +kernel)⟩, (by decide +kernel), tblG_in (i := 1220) (by rfl) rfl, iniG13, by decide⟩
set_option maxRecDepth 100000 in
theorem okL_sayings : MOk mL_sayings 3 := ⟨rfl, (by decide +kernel), ⟨(by decide +kernel), (by decide +kernel)⟩, (by decide +kernel), tblG_in (i := 1323) (by rfl) rfl, iniG13, by decide⟩
set_option maxRecDepth 100000 in
theorem okL_leads : MOk mL_leads 8 := ⟨rfl, (by decide +kernel), ⟨(by decide +kernel), (by decide +kernel)⟩, (by decide +kernel), tblG_in (i := 1334) (by rfl) rfl, iniG13, by decide⟩
set_option maxRecDepth 100000 in
theorem okL_holds : MOk mL_holds 6 := ⟨rfl, (by decide +kernel), ⟨(by decide +kernel), (by decide +kernel)⟩, (by decide +kernel), tblG_in (i := 1432) (by rfl) rfl, iniG13, by decide⟩
set_option maxRecDepth 100000 in
theorem okL_end : MOk mL_end 7 := ⟨rfl, (by decide +kernel), ⟨(by decide +kernel), (by decide +kernel)⟩, (by decide +kernel), tblG_in (i := 1439) (by rfl) rfl, iniG13, by decide⟩
set_option maxRecDepth 100000 in
theorem okL_right : MOk mL_right 6 := ⟨rfl, (by decide +kernel), ⟨(by decide +kernel), (by decide +kernel)⟩, (by decide +kernel), tblG_in (i := 1461) (by rfl) rfl, iniG13, by decide⟩
set_option maxRecDepth 100000 in
theorem okL_odds : MOk mL_odds 7 := ⟨rfl, (by decide +kernel), ⟨(by decide +kernel), (by decide +kernel)⟩, (by decide +kernel), tblG_in (i := 1472) (by rfl) rfl, iniG13, by decide⟩
set_option maxRecDepth 100000 in
theorem okL_parts : MOk mL_parts 6 := ⟨rfl, (by decide +kernel), ⟨(by decide +kernel), (by decide +kernel)⟩, (by decide +kernel), tblG_in (i := 1500) (by rfl) rfl, iniG13, by decide⟩
set_option maxRecDepth 100000 in
theorem okL_hangs : MOk mL_hangs 7 := ⟨rfl, (by decide +kernel), ⟨(by decide +kernel), (by decide +kernel)⟩, (by decide +kernel), tblG_in (i := 1507) (by rfl) rfl, iniG13, by decide⟩
set_option maxRecDepth 100000 in
theorem okL_years : MOk mL_years 6 := ⟨rfl, (by decide +kernel), ⟨(by decide +kernel), (by decide +kernel)⟩, (by decide +kernel), tblG_in (i := 1514) (by rfl) rfl, iniG13, by decide⟩
set_option maxRecDepth 100000 in
theorem okL_two : MOk mL_two 9 := ⟨rfl, (by decide +kernel), ⟨(by decide +kernel), (by decide +kernel)⟩, (by decide +kernel), tblG_in (i := 1522) (by rfl) rfl, iniG13, by decide⟩
set_option maxRecDepth 100000 in
theorem okL_ask : MOk mL_ask 9 := ⟨rfl, (by decide +kernel), ⟨(by decide +kernel), (by decide +kernel)⟩, (by decide +kernel), tblG_in (i := 1540) (by rfl) rfl, iniG13, by decide⟩
set_option maxRecDepth 100000 in
theorem okL_shortest : MOk mL_shortest 8 := ⟨rfl, (by decide +kernel), ⟨(by decide +kernel), (by decide +kernel)⟩, (by decide +kernel), tblG_in (i := 1557) (by rfl) rfl, iniG13, by decide⟩
set_option maxRecDepth 100000 in
theorem okL_went : MOk mL_went 7 := ⟨rfl, (by decide +kernel), ⟨(by decide +kernel), (by decide +kernel)⟩, (by decide +kernel), tblG_in (i := 1608) (by rfl) rfl, iniG13, by decide⟩
set_option maxRecDepth 100000 in
theorem okL_learned : MOk mL_learned 4 := ⟨rfl, (by decide +kernel), ⟨(by decide +kernel), (by decide +kernel)⟩, (by decide +kernel), tblG_in (i := 1619) (by rfl) rfl, iniG13, by decide⟩
set_option maxRecDepth 100000 in
theorem okL_told : MOk mL_told 4 := ⟨rfl, (by decide +kernel), ⟨(by decide +kernel), (by decide +kernel)⟩, (by decide +kernel), tblG_in (i := 1635) (by rfl) rfl, iniG13, by decide⟩
set_option maxRecDepth 100000 in
theorem okL_tray : MOk mL_tray 4 := ⟨rfl, (by decide +kernel), ⟨(by decide +kernel), (by decide +kernel)⟩, (by decide +kernel), tblG_in (i := 1642) (by rfl) rfl, iniG13, by decide⟩
set_option maxRecDepth 100000 in
theorem okL_write : MOk mL_write 5 := ⟨rfl, (by decide +kernel), ⟨(by decide +kernel), (by decide +kernel)⟩, (by decide +kernel), tblG_in (i := 1658) (by rfl) rfl, iniG13, by decide⟩
set_option maxRecDepth 100000 in
theorem okL_say : MOk mL_say 5 := ⟨rfl, (by decide +kernel), ⟨(by decide +kernel), (by decide +kernel)⟩, (by decide +kernel), tblG_in (i := 1705) (by rfl) rfl, iniG13, by decide⟩
set_option maxRecDepth 100000 in
theorem okL_image : MOk mL_image 2 := ⟨rfl, (by decide +kernel), ⟨(by decide +kernel), (by decide +kernel)⟩, (by decide +kernel), tblG_in (i := 1723) (by rfl) rfl, iniG13, by decide⟩
set_option maxRecDepth 100000 in
theorem okL_restore : MOk mL_restore 2 := ⟨rfl, (by decide +kernel), ⟨(by decide +kernel), (by decide +kernel)⟩, (by decide +kernel), tblG_in (i := 1748) (by rfl) rfl, iniG13, by decide⟩
end
section
-- 0 3 -> <java/lang/Object|<init>|()V>
theorem f_0_9 : FLg 0 9 0 1 := ⟨_, _, _, rfl, by decide, inX0, tblG_in (i := 176) (by decide +kernel) (by decide +kernel)⟩
theorem p_0_9 : FLp 0 9 0 1 true (tyX0 1) := ⟨_, _, _, tyX0, rfl, by decide, inX0, tblG_in (i := 176) (by decide +kernel) (by decide +kernel), tyX0_ok, nmX0, rfl, tyX0_ok 1 (by decide), fun _ => rfl⟩
theorem f_0_15 : FLg 0 15 0 2 := ⟨_, _, _, rfl, by decide, inX0, tblG_in (i := 179) (by decide +kernel) (by decide +kernel)⟩
theorem p_0_15 : FLp 0 15 0 2 true (tyX0 2) := ⟨_, _, _, tyX0, rfl, by decide, inX0, tblG_in (i := 179) (by decide +kernel) (by decide +kernel), tyX0_ok, nmX0, rfl, tyX0_ok 2 (by decide), fun _ => rfl⟩
theorem f_0_18 : FLg 0 18 0 3 := ⟨_, _, _, rfl, by decide, inX0, tblG_in (i := 180) (by decide +kernel) (by decide +kernel)⟩
theorem p_0_18 : FLp 0 18 0 3 true (tyX0 3) := ⟨_, _, _, tyX0, rfl, by decide, inX0, tblG_in (i := 180) (by decide +kernel) (by decide +kernel), tyX0_ok, nmX0, rfl, tyX0_ok 3 (by decide), fun _ => rfl⟩
theorem f_0_21 : FLg 0 21 0 4 := ⟨_, _, _, rfl, by decide, inX0, tblG_in (i := 184) (by decide +kernel) (by decide +kernel)⟩
theorem p_0_21 : FLp 0 21 0 4 true (tyX0 4) := ⟨_, _, _, tyX0, rfl, by decide, inX0, tblG_in (i := 184) (by decide +kernel) (by decide +kernel), tyX0_ok, nmX0, rfl, tyX0_ok 4 (by decide), fun _ => rfl⟩
theorem f_0_24 : FLg 0 24 0 6 := ⟨_, _, _, rfl, by decide, inX0, tblG_in (i := 189) (by decide +kernel) (by decide +kernel)⟩
theorem p_0_24 : FLp 0 24 0 6 true (tyX0 6) := ⟨_, _, _, tyX0, rfl, by decide, inX0, tblG_in (i := 189) (by decide +kernel) (by decide +kernel), tyX0_ok, nmX0, rfl, tyX0_ok 6 (by decide), fun _ => rfl⟩
theorem f_0_27 : FLg 0 27 0 7 := ⟨_, _, _, rfl, by decide, inX0, tblG_in (i := 191) (by decide +kernel) (by decide +kernel)⟩
theorem p_0_27 : FLp 0 27 0 7 true (tyX0 7) := ⟨_, _, _, tyX0, rfl, by decide, inX0, tblG_in (i := 191) (by decide +kernel) (by decide +kernel), tyX0_ok, nmX0, rfl, tyX0_ok 7 (by decide), fun _ => rfl⟩
theorem f_0_30 : FLg 0 30 0 8 := ⟨_, _, _, rfl, by decide, inX0, tblG_in (i := 193) (by decide +kernel) (by decide +kernel)⟩
theorem p_0_30 : FLp 0 30 0 8 true (tyX0 8) := ⟨_, _, _, tyX0, rfl, by decide, inX0, tblG_in (i := 193) (by decide +kernel) (by decide +kernel), tyX0_ok, nmX0, rfl, tyX0_ok 8 (by decide), fun _ => rfl⟩
theorem f_0_33 : FLg 0 33 0 9 := ⟨_, _, _, rfl, by decide, inX0, tblG_in (i := 195) (by decide +kernel) (by decide +kernel)⟩
theorem p_0_33 : FLp 0 33 0 9 true (tyX0 9) := ⟨_, _, _, tyX0, rfl, by decide, inX0, tblG_in (i := 195) (by decide +kernel) (by decide +kernel), tyX0_ok, nmX0, rfl, tyX0_ok 9 (by decide), fun _ => rfl⟩
theorem f_0_36 : FLg 0 36 0 10 := ⟨_, _, _, rfl, by decide, inX0, tblG_in (i := 197) (by decide +kernel) (by decide +kernel)⟩
theorem p_0_36 : FLp 0 36 0 10 true (tyX0 10) := ⟨_, _, _, tyX0, rfl, by decide, inX0, tblG_in (i := 197) (by decide +kernel) (by decide +kernel), tyX0_ok, nmX0, rfl, tyX0_ok 10 (by decide), fun _ => rfl⟩
theorem f_0_39 : FLg 0 39 0 0 := ⟨_, _, _, rfl, by decide, inX0, tblG_in (i := 174) (by decide +kernel) (by decide +kernel)⟩
theorem p_0_39 : FLp 0 39 0 0 false (tyX0 0) := ⟨_, _, _, tyX0, rfl, by decide, inX0, tblG_in (i := 174) (by decide +kernel) (by decide +kernel), tyX0_ok, nmX0, rfl, tyX0_ok 0 (by decide), fun q => by cases q⟩
-- 0 43 -> <java/lang/System|arraycopy|(Ljava/lang/Object;ILjava/lang/Object;II)V>
-- 0 49 -> <java/util/Arrays|fill|([IIII)V>
theorem f_0_55 : FLg 0 55 8 2 := ⟨_, _, _, rfl, by decide, inX8, tblG_in (i := 517) (by decide +kernel) (by decide +kernel)⟩
theorem f_0_60 : FLg 0 60 8 3 := ⟨_, _, _, rfl, by decide, inX8, tblG_in (i := 520) (by decide +kernel) (by decide +kernel)⟩
theorem k_0_64 : MLk 0 64 mX11_listedWord 0 1 := ⟨okX11_listedWord, Or.inr ⟨exL_in (i := 1720) (by decide +kernel) rfl, rfl⟩, Or.inl ⟨rfl, tblG_in (i := 1591) (by decide +kernel) (by decide +kernel)⟩⟩
theorem f_0_68 : FLg 0 68 0 5 := ⟨_, _, _, rfl, by decide, inX0, tblG_in (i := 187) (by decide +kernel) (by decide +kernel)⟩
theorem p_0_68 : FLp 0 68 0 5 false (tyX0 5) := ⟨_, _, _, tyX0, rfl, by decide, inX0, tblG_in (i := 187) (by decide +kernel) (by decide +kernel), tyX0_ok, nmX0, rfl, tyX0_ok 5 (by decide), fun q => by cases q⟩
-- 1 3 -> <java/lang/Object|<init>|()V>
theorem f_1_9 : FLg 1 9 1 3 := ⟨_, _, _, rfl, by decide, inX1, tblG_in (i := 416) (by decide +kernel) (by decide +kernel)⟩
theorem p_1_9 : FLp 1 9 1 3 true (tyX1 3) := ⟨_, _, _, tyX1, rfl, by decide, inX1, tblG_in (i := 416) (by decide +kernel) (by decide +kernel), tyX1_ok, nmX1, rfl, tyX1_ok 3 (by decide), fun _ => rfl⟩
theorem n_1_15 : CLn 1 15 6 [.null] := ⟨_, _, _, tyX6, rfl, inX6, tyX6_ok, tblG_in (i := 410) (by decide +kernel) (by decide +kernel), tblG_in (i := 283) (by decide +kernel) (by decide +kernel), iniG6, by decide +kernel, rfl⟩
theorem a_1_15 : Cond.classLink (cn 1) 15 "BurntOak$States" ∈ tblG ∧ Cond.arrayOver (.object "BurntOak$States") ∈ exL := ⟨tblG_in (i := 410) (by decide +kernel) (by decide +kernel), exL_in (i := 411) (by decide +kernel) rfl⟩
theorem f_1_17 : FLg 1 17 1 4 := ⟨_, _, _, rfl, by decide, inX1, tblG_in (i := 418) (by decide +kernel) (by decide +kernel)⟩
theorem p_1_17 : FLp 1 17 1 4 true (tyX1 4) := ⟨_, _, _, tyX1, rfl, by decide, inX1, tblG_in (i := 418) (by decide +kernel) (by decide +kernel), tyX1_ok, nmX1, rfl, tyX1_ok 4 (by decide), fun _ => rfl⟩
theorem f_1_21 : FLg 1 21 1 5 := ⟨_, _, _, rfl, by decide, inX1, tblG_in (i := 419) (by decide +kernel) (by decide +kernel)⟩
theorem p_1_21 : FLp 1 21 1 5 true (tyX1 5) := ⟨_, _, _, tyX1, rfl, by decide, inX1, tblG_in (i := 419) (by decide +kernel) (by decide +kernel), tyX1_ok, nmX1, rfl, tyX1_ok 5 (by decide), fun _ => rfl⟩
theorem f_1_24 : FLg 1 24 1 6 := ⟨_, _, _, rfl, by decide, inX1, tblG_in (i := 420) (by decide +kernel) (by decide +kernel)⟩
theorem p_1_24 : FLp 1 24 1 6 true (tyX1 6) := ⟨_, _, _, tyX1, rfl, by decide, inX1, tblG_in (i := 420) (by decide +kernel) (by decide +kernel), tyX1_ok, nmX1, rfl, tyX1_ok 6 (by decide), fun _ => rfl⟩
theorem f_1_27 : FLg 1 27 1 7 := ⟨_, _, _, rfl, by decide, inX1, tblG_in (i := 421) (by decide +kernel) (by decide +kernel)⟩
theorem p_1_27 : FLp 1 27 1 7 true (tyX1 7) := ⟨_, _, _, tyX1, rfl, by decide, inX1, tblG_in (i := 421) (by decide +kernel) (by decide +kernel), tyX1_ok, nmX1, rfl, tyX1_ok 7 (by decide), fun _ => rfl⟩
theorem k_1_30 : MLk 1 30 mX6_init 2 0 := ⟨okX6_init, Or.inr ⟨exL_in (i := 412) (by decide +kernel) rfl, rfl⟩, Or.inr (Or.inr ⟨rfl, rfl, tblG_in (i := 285) (by decide +kernel) (by decide +kernel), rfl, rfl⟩)⟩
theorem f_1_31 : FLg 1 31 1 8 := ⟨_, _, _, rfl, by decide, inX1, tblG_in (i := 422) (by decide +kernel) (by decide +kernel)⟩
theorem p_1_31 : FLp 1 31 1 8 true (tyX1 8) := ⟨_, _, _, tyX1, rfl, by decide, inX1, tblG_in (i := 422) (by decide +kernel) (by decide +kernel), tyX1_ok, nmX1, rfl, tyX1_ok 8 (by decide), fun _ => rfl⟩
theorem f_1_35 : FLg 1 35 1 9 := ⟨_, _, _, rfl, by decide, inX1, tblG_in (i := 423) (by decide +kernel) (by decide +kernel)⟩
theorem p_1_35 : FLp 1 35 1 9 true (tyX1 9) := ⟨_, _, _, tyX1, rfl, by decide, inX1, tblG_in (i := 423) (by decide +kernel) (by decide +kernel), tyX1_ok, nmX1, rfl, tyX1_ok 9 (by decide), fun _ => rfl⟩
theorem f_1_38 : FLg 1 38 1 10 := ⟨_, _, _, rfl, by decide, inX1, tblG_in (i := 424) (by decide +kernel) (by decide +kernel)⟩
theorem p_1_38 : FLp 1 38 1 10 true (tyX1 10) := ⟨_, _, _, tyX1, rfl, by decide, inX1, tblG_in (i := 424) (by decide +kernel) (by decide +kernel), tyX1_ok, nmX1, rfl, tyX1_ok 10 (by decide), fun _ => rfl⟩
theorem f_1_41 : FLg 1 41 1 0 := ⟨_, _, _, rfl, by decide, inX1, tblG_in (i := 413) (by decide +kernel) (by decide +kernel)⟩
theorem p_1_41 : FLp 1 41 1 0 true (tyX1 0) := ⟨_, _, _, tyX1, rfl, by decide, inX1, tblG_in (i := 413) (by decide +kernel) (by decide +kernel), tyX1_ok, nmX1, rfl, tyX1_ok 0 (by decide), fun _ => rfl⟩
theorem f_1_45 : FLg 1 45 1 1 := ⟨_, _, _, rfl, by decide, inX1, tblG_in (i := 414) (by decide +kernel) (by decide +kernel)⟩
theorem p_1_45 : FLp 1 45 1 1 false (tyX1 1) := ⟨_, _, _, tyX1, rfl, by decide, inX1, tblG_in (i := 414) (by decide +kernel) (by decide +kernel), tyX1_ok, nmX1, rfl, tyX1_ok 1 (by decide), fun q => by cases q⟩
theorem f_1_49 : FLg 1 49 1 2 := ⟨_, _, _, rfl, by decide, inX1, tblG_in (i := 415) (by decide +kernel) (by decide +kernel)⟩
theorem p_1_49 : FLp 1 49 1 2 false (tyX1 2) := ⟨_, _, _, tyX1, rfl, by decide, inX1, tblG_in (i := 415) (by decide +kernel) (by decide +kernel), tyX1_ok, nmX1, rfl, tyX1_ok 2 (by decide), fun q => by cases q⟩
theorem k_1_53 : MLk 1 53 mX11_isIn 0 2 := ⟨okX11_isIn, Or.inr ⟨exL_in (i := 1566) (by decide +kernel) rfl, rfl⟩, Or.inl ⟨rfl, tblG_in (i := 791) (by decide +kernel) (by decide +kernel)⟩⟩
theorem f_1_57 : FLg 1 57 9 0 := ⟨_, _, _, rfl, by decide, inX9, tblG_in (i := 337) (by decide +kernel) (by decide +kernel)⟩
theorem f_1_63 : FLg 1 63 10 0 := ⟨_, _, _, rfl, by decide, inX10, tblG_in (i := 229) (by decide +kernel) (by decide +kernel)⟩
theorem f_1_69 : FLg 1 69 3 3 := ⟨_, _, _, rfl, by decide, inX3, tblG_in (i := 53) (by decide +kernel) (by decide +kernel)⟩
-- 1 74 -> <java/util/Arrays|fill|([IIII)V>
theorem k_1_80 : MLk 1 80 mX6_clear 1 0 := ⟨okX6_clear, Or.inl (tblG_in (i := 1570) (by decide +kernel) (by decide +kernel)), Or.inr (Or.inl ⟨rfl, tblG_in (i := 1104) (by decide +kernel) (by decide +kernel), tblG_in (i := 1105) (by decide +kernel) (by decide +kernel), rfl⟩)⟩
theorem l_1_80 : Cond.methodLink (cn 1) 80 (my mX6_clear) ∈ tblG := tblG_in (i := 1570) (by decide +kernel) (by decide +kernel)
theorem k_1_83 : MLk 1 83 mX6_add 1 1 := ⟨okX6_add, Or.inl (tblG_in (i := 1571) (by decide +kernel) (by decide +kernel)), Or.inr (Or.inl ⟨rfl, tblG_in (i := 1349) (by decide +kernel) (by decide +kernel), tblG_in (i := 1350) (by decide +kernel) (by decide +kernel), rfl⟩)⟩
theorem l_1_83 : Cond.methodLink (cn 1) 83 (my mX6_add) ∈ tblG := tblG_in (i := 1571) (by decide +kernel) (by decide +kernel)
theorem g_1_87 : Cond.constant (cn 1) 87 (2147483647) ∈ tblG := tblG_in (i := 1576) (by decide +kernel) (by decide +kernel)
theorem k_1_88 : MLk 1 88 mX1_arriving 1 3 := ⟨okX1_arriving, Or.inl (tblG_in (i := 1577) (by decide +kernel) (by decide +kernel)), Or.inr (Or.inl ⟨rfl, tblG_in (i := 1579) (by decide +kernel) (by decide +kernel), tblG_sel (i := 46) (by decide +kernel) (by decide +kernel), rfl⟩)⟩
theorem l_1_88 : Cond.methodLink (cn 1) 88 (my mX1_arriving) ∈ tblG := tblG_in (i := 1577) (by decide +kernel) (by decide +kernel)
theorem k_1_92 : MLk 1 92 mX11_lowest 0 1 := ⟨okX11_lowest, Or.inr ⟨exL_in (i := 1589) (by decide +kernel) rfl, rfl⟩, Or.inl ⟨rfl, tblG_in (i := 1357) (by decide +kernel) (by decide +kernel)⟩⟩
theorem k_1_96 : MLk 1 96 mX1_allGoOn 1 2 := ⟨okX1_allGoOn, Or.inl (tblG_in (i := 1600) (by decide +kernel) (by decide +kernel)), Or.inr (Or.inl ⟨rfl, tblG_in (i := 1602) (by decide +kernel) (by decide +kernel), tblG_sel (i := 48) (by decide +kernel) (by decide +kernel), rfl⟩)⟩
theorem l_1_96 : Cond.methodLink (cn 1) 96 (my mX1_allGoOn) ∈ tblG := tblG_in (i := 1600) (by decide +kernel) (by decide +kernel)
theorem k_1_100 : MLk 1 100 mX1_search 1 2 := ⟨okX1_search, Or.inl (tblG_in (i := 1605) (by decide +kernel) (by decide +kernel)), Or.inr (Or.inl ⟨rfl, tblG_in (i := 1574) (by decide +kernel) (by decide +kernel), tblG_sel (i := 45) (by decide +kernel) (by decide +kernel), rfl⟩)⟩
theorem l_1_100 : Cond.methodLink (cn 1) 100 (my mX1_search) ∈ tblG := tblG_in (i := 1605) (by decide +kernel) (by decide +kernel)
theorem k_1_103 : MLk 1 103 mX6_list 1 1 := ⟨okX6_list, Or.inl (tblG_in (i := 1582) (by decide +kernel) (by decide +kernel)), Or.inr (Or.inl ⟨rfl, tblG_in (i := 1353) (by decide +kernel) (by decide +kernel), tblG_in (i := 1354) (by decide +kernel) (by decide +kernel), rfl⟩)⟩
theorem l_1_103 : Cond.methodLink (cn 1) 103 (my mX6_list) ∈ tblG := tblG_in (i := 1582) (by decide +kernel) (by decide +kernel)
theorem k_1_106 : MLk 1 106 mX9_become 1 1 := ⟨okX9_become, Or.inl (tblG_in (i := 1581) (by decide +kernel) (by decide +kernel)), Or.inr (Or.inl ⟨rfl, tblG_in (i := 1180) (by decide +kernel) (by decide +kernel), tblG_in (i := 1181) (by decide +kernel) (by decide +kernel), rfl⟩)⟩
theorem l_1_106 : Cond.methodLink (cn 1) 106 (my mX9_become) ∈ tblG := tblG_in (i := 1581) (by decide +kernel) (by decide +kernel)
theorem k_1_109 : MLk 1 109 mX11_listedWord 0 1 := ⟨okX11_listedWord, Or.inr ⟨exL_in (i := 1590) (by decide +kernel) rfl, rfl⟩, Or.inl ⟨rfl, tblG_in (i := 1591) (by decide +kernel) (by decide +kernel)⟩⟩
theorem k_1_113 : MLk 1 113 mX9_lead 1 4 := ⟨okX9_lead, Or.inl (tblG_in (i := 1594) (by decide +kernel) (by decide +kernel)), Or.inr (Or.inl ⟨rfl, tblG_in (i := 1363) (by decide +kernel) (by decide +kernel), tblG_in (i := 1364) (by decide +kernel) (by decide +kernel), rfl⟩)⟩
theorem l_1_113 : Cond.methodLink (cn 1) 113 (my mX9_lead) ∈ tblG := tblG_in (i := 1594) (by decide +kernel) (by decide +kernel)
theorem k_1_117 : MLk 1 117 mX6_isEmpty 1 0 := ⟨okX6_isEmpty, Or.inl (tblG_in (i := 1604) (by decide +kernel) (by decide +kernel)), Or.inr (Or.inl ⟨rfl, tblG_in (i := 1427) (by decide +kernel) (by decide +kernel), tblG_in (i := 1428) (by decide +kernel) (by decide +kernel), rfl⟩)⟩
theorem l_1_117 : Cond.methodLink (cn 1) 117 (my mX6_isEmpty) ∈ tblG := tblG_in (i := 1604) (by decide +kernel) (by decide +kernel)
-- 1 121 -> <java/lang/Integer|bitCount|(I)I>
theorem k_1_126 : MLk 1 126 mX1_judge 1 2 := ⟨okX1_judge, Or.inl (tblG_in (i := 1595) (by decide +kernel) (by decide +kernel)), Or.inr (Or.inl ⟨rfl, tblG_in (i := 1597) (by decide +kernel) (by decide +kernel), tblG_sel (i := 47) (by decide +kernel) (by decide +kernel), rfl⟩)⟩
theorem l_1_126 : Cond.methodLink (cn 1) 126 (my mX1_judge) ∈ tblG := tblG_in (i := 1595) (by decide +kernel) (by decide +kernel)
theorem k_1_130 : MLk 1 130 mX10_placesOf 1 1 := ⟨okX10_placesOf, Or.inl (tblG_in (i := 1599) (by decide +kernel) (by decide +kernel)), Or.inr (Or.inl ⟨rfl, tblG_in (i := 1450) (by decide +kernel) (by decide +kernel), tblG_in (i := 1451) (by decide +kernel) (by decide +kernel), rfl⟩)⟩
theorem l_1_130 : Cond.methodLink (cn 1) 130 (my mX10_placesOf) ∈ tblG := tblG_in (i := 1599) (by decide +kernel) (by decide +kernel)
-- 2 3 -> <java/lang/Object|<init>|()V>
theorem f_2_9 : FLg 2 9 2 1 := ⟨_, _, _, rfl, by decide, inX2, tblG_in (i := 138) (by decide +kernel) (by decide +kernel)⟩
theorem p_2_9 : FLp 2 9 2 1 true (tyX2 1) := ⟨_, _, _, tyX2, rfl, by decide, inX2, tblG_in (i := 138) (by decide +kernel) (by decide +kernel), tyX2_ok, nmX2, rfl, tyX2_ok 1 (by decide), fun _ => rfl⟩
theorem f_2_15 : FLg 2 15 2 3 := ⟨_, _, _, rfl, by decide, inX2, tblG_in (i := 142) (by decide +kernel) (by decide +kernel)⟩
theorem p_2_15 : FLp 2 15 2 3 true (tyX2 3) := ⟨_, _, _, tyX2, rfl, by decide, inX2, tblG_in (i := 142) (by decide +kernel) (by decide +kernel), tyX2_ok, nmX2, rfl, tyX2_ok 3 (by decide), fun _ => rfl⟩
theorem f_2_18 : FLg 2 18 2 4 := ⟨_, _, _, rfl, by decide, inX2, tblG_in (i := 143) (by decide +kernel) (by decide +kernel)⟩
theorem p_2_18 : FLp 2 18 2 4 true (tyX2 4) := ⟨_, _, _, tyX2, rfl, by decide, inX2, tblG_in (i := 143) (by decide +kernel) (by decide +kernel), tyX2_ok, nmX2, rfl, tyX2_ok 4 (by decide), fun _ => rfl⟩
theorem f_2_21 : FLg 2 21 2 5 := ⟨_, _, _, rfl, by decide, inX2, tblG_in (i := 145) (by decide +kernel) (by decide +kernel)⟩
theorem p_2_21 : FLp 2 21 2 5 true (tyX2 5) := ⟨_, _, _, tyX2, rfl, by decide, inX2, tblG_in (i := 145) (by decide +kernel) (by decide +kernel), tyX2_ok, nmX2, rfl, tyX2_ok 5 (by decide), fun _ => rfl⟩
theorem f_2_25 : FLg 2 25 2 6 := ⟨_, _, _, rfl, by decide, inX2, tblG_in (i := 147) (by decide +kernel) (by decide +kernel)⟩
theorem p_2_25 : FLp 2 25 2 6 true (tyX2 6) := ⟨_, _, _, tyX2, rfl, by decide, inX2, tblG_in (i := 147) (by decide +kernel) (by decide +kernel), tyX2_ok, nmX2, rfl, tyX2_ok 6 (by decide), fun _ => rfl⟩
theorem f_2_28 : FLg 2 28 2 7 := ⟨_, _, _, rfl, by decide, inX2, tblG_in (i := 149) (by decide +kernel) (by decide +kernel)⟩
theorem p_2_28 : FLp 2 28 2 7 true (tyX2 7) := ⟨_, _, _, tyX2, rfl, by decide, inX2, tblG_in (i := 149) (by decide +kernel) (by decide +kernel), tyX2_ok, nmX2, rfl, tyX2_ok 7 (by decide), fun _ => rfl⟩
theorem f_2_31 : FLg 2 31 2 0 := ⟨_, _, _, rfl, by decide, inX2, tblG_in (i := 136) (by decide +kernel) (by decide +kernel)⟩
theorem p_2_31 : FLp 2 31 2 0 false (tyX2 0) := ⟨_, _, _, tyX2, rfl, by decide, inX2, tblG_in (i := 136) (by decide +kernel) (by decide +kernel), tyX2_ok, nmX2, rfl, tyX2_ok 0 (by decide), fun q => by cases q⟩
theorem f_2_35 : FLg 2 35 2 2 := ⟨_, _, _, rfl, by decide, inX2, tblG_in (i := 140) (by decide +kernel) (by decide +kernel)⟩
theorem p_2_35 : FLp 2 35 2 2 false (tyX2 2) := ⟨_, _, _, tyX2, rfl, by decide, inX2, tblG_in (i := 140) (by decide +kernel) (by decide +kernel), tyX2_ok, nmX2, rfl, tyX2_ok 2 (by decide), fun q => by cases q⟩
theorem k_2_38 : MLk 2 38 mX2_kindsOf 1 2 := ⟨okX2_kindsOf, Or.inl (tblG_in (i := 1212) (by decide +kernel) (by decide +kernel)), Or.inr (Or.inl ⟨rfl, tblG_in (i := 1172) (by decide +kernel) (by decide +kernel), tblG_in (i := 1173) (by decide +kernel) (by decide +kernel), rfl⟩)⟩
theorem l_2_38 : Cond.methodLink (cn 2) 38 (my mX2_kindsOf) ∈ tblG := tblG_in (i := 1212) (by decide +kernel) (by decide +kernel)
theorem k_2_42 : MLk 2 42 mX11_isIn 0 2 := ⟨okX11_isIn, Or.inr ⟨exL_in (i := 1213) (by decide +kernel) rfl, rfl⟩, Or.inl ⟨rfl, tblG_in (i := 791) (by decide +kernel) (by decide +kernel)⟩⟩
-- 2 46 -> <java/lang/System|arraycopy|(Ljava/lang/Object;ILjava/lang/Object;II)V>
-- 3 3 -> <java/lang/Object|<init>|()V>
theorem f_3_9 : FLg 3 9 3 1 := ⟨_, _, _, rfl, by decide, inX3, tblG_in (i := 51) (by decide +kernel) (by decide +kernel)⟩
theorem p_3_9 : FLp 3 9 3 1 true (tyX3 1) := ⟨_, _, _, tyX3, rfl, by decide, inX3, tblG_in (i := 51) (by decide +kernel) (by decide +kernel), tyX3_ok, nmX3, rfl, tyX3_ok 1 (by decide), fun _ => rfl⟩
theorem f_3_15 : FLg 3 15 3 2 := ⟨_, _, _, rfl, by decide, inX3, tblG_in (i := 52) (by decide +kernel) (by decide +kernel)⟩
theorem p_3_15 : FLp 3 15 3 2 true (tyX3 2) := ⟨_, _, _, tyX3, rfl, by decide, inX3, tblG_in (i := 52) (by decide +kernel) (by decide +kernel), tyX3_ok, nmX3, rfl, tyX3_ok 2 (by decide), fun _ => rfl⟩
theorem f_3_18 : FLg 3 18 3 4 := ⟨_, _, _, rfl, by decide, inX3, tblG_in (i := 58) (by decide +kernel) (by decide +kernel)⟩
theorem p_3_18 : FLp 3 18 3 4 true (tyX3 4) := ⟨_, _, _, tyX3, rfl, by decide, inX3, tblG_in (i := 58) (by decide +kernel) (by decide +kernel), tyX3_ok, nmX3, rfl, tyX3_ok 4 (by decide), fun _ => rfl⟩
theorem f_3_21 : FLg 3 21 3 5 := ⟨_, _, _, rfl, by decide, inX3, tblG_in (i := 60) (by decide +kernel) (by decide +kernel)⟩
theorem p_3_21 : FLp 3 21 3 5 true (tyX3 5) := ⟨_, _, _, tyX3, rfl, by decide, inX3, tblG_in (i := 60) (by decide +kernel) (by decide +kernel), tyX3_ok, nmX3, rfl, tyX3_ok 5 (by decide), fun _ => rfl⟩
theorem f_3_24 : FLg 3 24 3 6 := ⟨_, _, _, rfl, by decide, inX3, tblG_in (i := 62) (by decide +kernel) (by decide +kernel)⟩
theorem p_3_24 : FLp 3 24 3 6 true (tyX3 6) := ⟨_, _, _, tyX3, rfl, by decide, inX3, tblG_in (i := 62) (by decide +kernel) (by decide +kernel), tyX3_ok, nmX3, rfl, tyX3_ok 6 (by decide), fun _ => rfl⟩
theorem f_3_27 : FLg 3 27 3 7 := ⟨_, _, _, rfl, by decide, inX3, tblG_in (i := 65) (by decide +kernel) (by decide +kernel)⟩
theorem p_3_27 : FLp 3 27 3 7 true (tyX3 7) := ⟨_, _, _, tyX3, rfl, by decide, inX3, tblG_in (i := 65) (by decide +kernel) (by decide +kernel), tyX3_ok, nmX3, rfl, tyX3_ok 7 (by decide), fun _ => rfl⟩
theorem f_3_30 : FLg 3 30 3 8 := ⟨_, _, _, rfl, by decide, inX3, tblG_in (i := 68) (by decide +kernel) (by decide +kernel)⟩
theorem p_3_30 : FLp 3 30 3 8 true (tyX3 8) := ⟨_, _, _, tyX3, rfl, by decide, inX3, tblG_in (i := 68) (by decide +kernel) (by decide +kernel), tyX3_ok, nmX3, rfl, tyX3_ok 8 (by decide), fun _ => rfl⟩
theorem f_3_33 : FLg 3 33 3 9 := ⟨_, _, _, rfl, by decide, inX3, tblG_in (i := 73) (by decide +kernel) (by decide +kernel)⟩
theorem p_3_33 : FLp 3 33 3 9 true (tyX3 9) := ⟨_, _, _, tyX3, rfl, by decide, inX3, tblG_in (i := 73) (by decide +kernel) (by decide +kernel), tyX3_ok, nmX3, rfl, tyX3_ok 9 (by decide), fun _ => rfl⟩
theorem f_3_36 : FLg 3 36 3 10 := ⟨_, _, _, rfl, by decide, inX3, tblG_in (i := 75) (by decide +kernel) (by decide +kernel)⟩
theorem p_3_36 : FLp 3 36 3 10 true (tyX3 10) := ⟨_, _, _, tyX3, rfl, by decide, inX3, tblG_in (i := 75) (by decide +kernel) (by decide +kernel), tyX3_ok, nmX3, rfl, tyX3_ok 10 (by decide), fun _ => rfl⟩
theorem f_3_39 : FLg 3 39 3 12 := ⟨_, _, _, rfl, by decide, inX3, tblG_in (i := 80) (by decide +kernel) (by decide +kernel)⟩
theorem p_3_39 : FLp 3 39 3 12 true (tyX3 12) := ⟨_, _, _, tyX3, rfl, by decide, inX3, tblG_in (i := 80) (by decide +kernel) (by decide +kernel), tyX3_ok, nmX3, rfl, tyX3_ok 12 (by decide), fun _ => rfl⟩
theorem f_3_42 : FLg 3 42 3 13 := ⟨_, _, _, rfl, by decide, inX3, tblG_in (i := 82) (by decide +kernel) (by decide +kernel)⟩
theorem p_3_42 : FLp 3 42 3 13 true (tyX3 13) := ⟨_, _, _, tyX3, rfl, by decide, inX3, tblG_in (i := 82) (by decide +kernel) (by decide +kernel), tyX3_ok, nmX3, rfl, tyX3_ok 13 (by decide), fun _ => rfl⟩
theorem f_3_45 : FLg 3 45 3 14 := ⟨_, _, _, rfl, by decide, inX3, tblG_in (i := 85) (by decide +kernel) (by decide +kernel)⟩
theorem p_3_45 : FLp 3 45 3 14 true (tyX3 14) := ⟨_, _, _, tyX3, rfl, by decide, inX3, tblG_in (i := 85) (by decide +kernel) (by decide +kernel), tyX3_ok, nmX3, rfl, tyX3_ok 14 (by decide), fun _ => rfl⟩
theorem f_3_49 : FLg 3 49 3 15 := ⟨_, _, _, rfl, by decide, inX3, tblG_in (i := 87) (by decide +kernel) (by decide +kernel)⟩
theorem p_3_49 : FLp 3 49 3 15 true (tyX3 15) := ⟨_, _, _, tyX3, rfl, by decide, inX3, tblG_in (i := 87) (by decide +kernel) (by decide +kernel), tyX3_ok, nmX3, rfl, tyX3_ok 15 (by decide), fun _ => rfl⟩
theorem f_3_52 : FLg 3 52 3 16 := ⟨_, _, _, rfl, by decide, inX3, tblG_in (i := 90) (by decide +kernel) (by decide +kernel)⟩
theorem p_3_52 : FLp 3 52 3 16 true (tyX3 16) := ⟨_, _, _, tyX3, rfl, by decide, inX3, tblG_in (i := 90) (by decide +kernel) (by decide +kernel), tyX3_ok, nmX3, rfl, tyX3_ok 16 (by decide), fun _ => rfl⟩
theorem f_3_55 : FLg 3 55 3 0 := ⟨_, _, _, rfl, by decide, inX3, tblG_in (i := 48) (by decide +kernel) (by decide +kernel)⟩
theorem p_3_55 : FLp 3 55 3 0 false (tyX3 0) := ⟨_, _, _, tyX3, rfl, by decide, inX3, tblG_in (i := 48) (by decide +kernel) (by decide +kernel), tyX3_ok, nmX3, rfl, tyX3_ok 0 (by decide), fun q => by cases q⟩
theorem f_3_59 : FLg 3 59 3 3 := ⟨_, _, _, rfl, by decide, inX3, tblG_in (i := 54) (by decide +kernel) (by decide +kernel)⟩
theorem p_3_59 : FLp 3 59 3 3 false (tyX3 3) := ⟨_, _, _, tyX3, rfl, by decide, inX3, tblG_in (i := 54) (by decide +kernel) (by decide +kernel), tyX3_ok, nmX3, rfl, tyX3_ok 3 (by decide), fun q => by cases q⟩
theorem f_3_62 : FLg 3 62 3 11 := ⟨_, _, _, rfl, by decide, inX3, tblG_in (i := 79) (by decide +kernel) (by decide +kernel)⟩
theorem p_3_62 : FLp 3 62 3 11 false (tyX3 11) := ⟨_, _, _, tyX3, rfl, by decide, inX3, tblG_in (i := 79) (by decide +kernel) (by decide +kernel), tyX3_ok, nmX3, rfl, tyX3_ok 11 (by decide), fun q => by cases q⟩
-- 3 65 -> <java/lang/System|arraycopy|(Ljava/lang/Object;ILjava/lang/Object;II)V>
-- 4 3 -> <java/lang/Object|<init>|()V>
theorem f_4_9 : FLg 4 9 4 1 := ⟨_, _, _, rfl, by decide, inX4, tblG_in (i := 380) (by decide +kernel) (by decide +kernel)⟩
theorem p_4_9 : FLp 4 9 4 1 false (tyX4 1) := ⟨_, _, _, tyX4, rfl, by decide, inX4, tblG_in (i := 380) (by decide +kernel) (by decide +kernel), tyX4_ok, nmX4, rfl, tyX4_ok 1 (by decide), fun q => by cases q⟩
theorem f_4_15 : FLg 4 15 4 2 := ⟨_, _, _, rfl, by decide, inX4, tblG_in (i := 381) (by decide +kernel) (by decide +kernel)⟩
theorem p_4_15 : FLp 4 15 4 2 false (tyX4 2) := ⟨_, _, _, tyX4, rfl, by decide, inX4, tblG_in (i := 381) (by decide +kernel) (by decide +kernel), tyX4_ok, nmX4, rfl, tyX4_ok 2 (by decide), fun q => by cases q⟩
theorem f_4_18 : FLg 4 18 4 3 := ⟨_, _, _, rfl, by decide, inX4, tblG_in (i := 382) (by decide +kernel) (by decide +kernel)⟩
theorem p_4_18 : FLp 4 18 4 3 true (tyX4 3) := ⟨_, _, _, tyX4, rfl, by decide, inX4, tblG_in (i := 382) (by decide +kernel) (by decide +kernel), tyX4_ok, nmX4, rfl, tyX4_ok 3 (by decide), fun _ => rfl⟩
theorem n_4_21 : CLn 4 21 6 [.null] := ⟨_, _, _, tyX6, rfl, inX6, tyX6_ok, tblG_in (i := 377) (by decide +kernel) (by decide +kernel), tblG_in (i := 283) (by decide +kernel) (by decide +kernel), iniG6, by decide +kernel, rfl⟩
theorem k_4_23 : MLk 4 23 mX6_init 2 0 := ⟨okX6_init, Or.inr ⟨exL_in (i := 378) (by decide +kernel) rfl, rfl⟩, Or.inr (Or.inr ⟨rfl, rfl, tblG_in (i := 285) (by decide +kernel) (by decide +kernel), rfl, rfl⟩)⟩
theorem f_4_24 : FLg 4 24 4 4 := ⟨_, _, _, rfl, by decide, inX4, tblG_in (i := 383) (by decide +kernel) (by decide +kernel)⟩
theorem p_4_24 : FLp 4 24 4 4 true (tyX4 4) := ⟨_, _, _, tyX4, rfl, by decide, inX4, tblG_in (i := 383) (by decide +kernel) (by decide +kernel), tyX4_ok, nmX4, rfl, tyX4_ok 4 (by decide), fun _ => rfl⟩
theorem f_4_28 : FLg 4 28 4 5 := ⟨_, _, _, rfl, by decide, inX4, tblG_in (i := 384) (by decide +kernel) (by decide +kernel)⟩
theorem p_4_28 : FLp 4 28 4 5 true (tyX4 5) := ⟨_, _, _, tyX4, rfl, by decide, inX4, tblG_in (i := 384) (by decide +kernel) (by decide +kernel), tyX4_ok, nmX4, rfl, tyX4_ok 5 (by decide), fun _ => rfl⟩
theorem f_4_31 : FLg 4 31 4 6 := ⟨_, _, _, rfl, by decide, inX4, tblG_in (i := 385) (by decide +kernel) (by decide +kernel)⟩
theorem p_4_31 : FLp 4 31 4 6 true (tyX4 6) := ⟨_, _, _, tyX4, rfl, by decide, inX4, tblG_in (i := 385) (by decide +kernel) (by decide +kernel), tyX4_ok, nmX4, rfl, tyX4_ok 6 (by decide), fun _ => rfl⟩
theorem f_4_34 : FLg 4 34 4 7 := ⟨_, _, _, rfl, by decide, inX4, tblG_in (i := 386) (by decide +kernel) (by decide +kernel)⟩
theorem p_4_34 : FLp 4 34 4 7 true (tyX4 7) := ⟨_, _, _, tyX4, rfl, by decide, inX4, tblG_in (i := 386) (by decide +kernel) (by decide +kernel), tyX4_ok, nmX4, rfl, tyX4_ok 7 (by decide), fun _ => rfl⟩
theorem f_4_37 : FLg 4 37 4 0 := ⟨_, _, _, rfl, by decide, inX4, tblG_in (i := 379) (by decide +kernel) (by decide +kernel)⟩
theorem p_4_37 : FLp 4 37 4 0 true (tyX4 0) := ⟨_, _, _, tyX4, rfl, by decide, inX4, tblG_in (i := 379) (by decide +kernel) (by decide +kernel), tyX4_ok, nmX4, rfl, tyX4_ok 0 (by decide), fun _ => rfl⟩
-- 4 41 -> <java/util/Arrays|fill|([II)V>
theorem g_4_47 : Cond.constant (cn 4) 47 (1000000) ∈ tblG := tblG_in (i := 1482) (by decide +kernel) (by decide +kernel)
theorem k_4_48 : MLk 4 48 mX4_share 1 3 := ⟨okX4_share, Or.inl (tblG_in (i := 1489) (by decide +kernel) (by decide +kernel)), Or.inr (Or.inl ⟨rfl, tblG_in (i := 1491) (by decide +kernel) (by decide +kernel), tblG_sel (i := 42) (by decide +kernel) (by decide +kernel), rfl⟩)⟩
theorem l_4_48 : Cond.methodLink (cn 4) 48 (my mX4_share) ∈ tblG := tblG_in (i := 1489) (by decide +kernel) (by decide +kernel)
theorem k_4_52 : MLk 4 52 mX6_list 1 1 := ⟨okX6_list, Or.inl (tblG_in (i := 1493) (by decide +kernel) (by decide +kernel)), Or.inr (Or.inl ⟨rfl, tblG_in (i := 1353) (by decide +kernel) (by decide +kernel), tblG_in (i := 1354) (by decide +kernel) (by decide +kernel), rfl⟩)⟩
theorem l_4_52 : Cond.methodLink (cn 4) 52 (my mX6_list) ∈ tblG := tblG_in (i := 1493) (by decide +kernel) (by decide +kernel)
theorem f_4_55 : FLg 4 55 9 2 := ⟨_, _, _, rfl, by decide, inX9, tblG_in (i := 341) (by decide +kernel) (by decide +kernel)⟩
theorem f_4_61 : FLg 4 61 0 3 := ⟨_, _, _, rfl, by decide, inX0, tblG_in (i := 181) (by decide +kernel) (by decide +kernel)⟩
theorem k_4_66 : MLk 4 66 mX6_clear 1 0 := ⟨okX6_clear, Or.inl (tblG_in (i := 1487) (by decide +kernel) (by decide +kernel)), Or.inr (Or.inl ⟨rfl, tblG_in (i := 1104) (by decide +kernel) (by decide +kernel), tblG_in (i := 1105) (by decide +kernel) (by decide +kernel), rfl⟩)⟩
theorem l_4_66 : Cond.methodLink (cn 4) 66 (my mX6_clear) ∈ tblG := tblG_in (i := 1487) (by decide +kernel) (by decide +kernel)
theorem f_4_69 : FLg 4 69 0 4 := ⟨_, _, _, rfl, by decide, inX0, tblG_in (i := 185) (by decide +kernel) (by decide +kernel)⟩
theorem k_4_72 : MLk 4 72 mX9_lead 1 4 := ⟨okX9_lead, Or.inl (tblG_in (i := 1488) (by decide +kernel) (by decide +kernel)), Or.inr (Or.inl ⟨rfl, tblG_in (i := 1363) (by decide +kernel) (by decide +kernel), tblG_in (i := 1364) (by decide +kernel) (by decide +kernel), rfl⟩)⟩
theorem l_4_72 : Cond.methodLink (cn 4) 72 (my mX9_lead) ∈ tblG := tblG_in (i := 1488) (by decide +kernel) (by decide +kernel)
theorem f_4_76 : FLg 4 76 9 0 := ⟨_, _, _, rfl, by decide, inX9, tblG_in (i := 338) (by decide +kernel) (by decide +kernel)⟩
theorem f_4_80 : FLg 4 80 10 0 := ⟨_, _, _, rfl, by decide, inX10, tblG_in (i := 231) (by decide +kernel) (by decide +kernel)⟩
theorem f_4_86 : FLg 4 86 3 3 := ⟨_, _, _, rfl, by decide, inX3, tblG_in (i := 57) (by decide +kernel) (by decide +kernel)⟩
theorem f_4_92 : FLg 4 92 3 8 := ⟨_, _, _, rfl, by decide, inX3, tblG_in (i := 69) (by decide +kernel) (by decide +kernel)⟩
theorem k_4_95 : MLk 4 95 mX4_start 1 1 := ⟨okX4_start, Or.inl (tblG_in (i := 1531) (by decide +kernel) (by decide +kernel)), Or.inr (Or.inl ⟨rfl, tblG_in (i := 1478) (by decide +kernel) (by decide +kernel), tblG_in (i := 1479) (by decide +kernel) (by decide +kernel), rfl⟩)⟩
theorem l_4_95 : Cond.methodLink (cn 4) 95 (my mX4_start) ∈ tblG := tblG_in (i := 1531) (by decide +kernel) (by decide +kernel)
theorem k_4_99 : MLk 4 99 mX4_goOn 1 2 := ⟨okX4_goOn, Or.inl (tblG_in (i := 1532) (by decide +kernel) (by decide +kernel)), Or.inr (Or.inl ⟨rfl, tblG_in (i := 1484) (by decide +kernel) (by decide +kernel), tblG_in (i := 1485) (by decide +kernel) (by decide +kernel), rfl⟩)⟩
theorem l_4_99 : Cond.methodLink (cn 4) 99 (my mX4_goOn) ∈ tblG := tblG_in (i := 1532) (by decide +kernel) (by decide +kernel)
theorem k_4_103 : MLk 4 103 mX4_sumUp 1 1 := ⟨okX4_sumUp, Or.inl (tblG_in (i := 1533) (by decide +kernel) (by decide +kernel)), Or.inr (Or.inl ⟨rfl, tblG_in (i := 1535) (by decide +kernel) (by decide +kernel), tblG_sel (i := 43) (by decide +kernel) (by decide +kernel), rfl⟩)⟩
theorem l_4_103 : Cond.methodLink (cn 4) 103 (my mX4_sumUp) ∈ tblG := tblG_in (i := 1533) (by decide +kernel) (by decide +kernel)
theorem g_4_107 : Cond.constantLong (cn 4) 107 (1000000) ∈ tblG := tblG_in (i := 1537) (by decide +kernel) (by decide +kernel)
-- 5 3 -> <java/lang/Object|<init>|()V>
theorem f_5_9 : FLg 5 9 5 0 := ⟨_, _, _, rfl, by decide, inX5, tblG_in (i := 454) (by decide +kernel) (by decide +kernel)⟩
theorem p_5_9 : FLp 5 9 5 0 true (tyX5 0) := ⟨_, _, _, tyX5, rfl, by decide, inX5, tblG_in (i := 454) (by decide +kernel) (by decide +kernel), tyX5_ok, nmX5, rfl, tyX5_ok 0 (by decide), fun _ => rfl⟩
theorem f_5_15 : FLg 5 15 5 3 := ⟨_, _, _, rfl, by decide, inX5, tblG_in (i := 459) (by decide +kernel) (by decide +kernel)⟩
theorem p_5_15 : FLp 5 15 5 3 false (tyX5 3) := ⟨_, _, _, tyX5, rfl, by decide, inX5, tblG_in (i := 459) (by decide +kernel) (by decide +kernel), tyX5_ok, nmX5, rfl, tyX5_ok 3 (by decide), fun q => by cases q⟩
theorem f_5_19 : FLg 5 19 5 4 := ⟨_, _, _, rfl, by decide, inX5, tblG_in (i := 461) (by decide +kernel) (by decide +kernel)⟩
theorem p_5_19 : FLp 5 19 5 4 true (tyX5 4) := ⟨_, _, _, tyX5, rfl, by decide, inX5, tblG_in (i := 461) (by decide +kernel) (by decide +kernel), tyX5_ok, nmX5, rfl, tyX5_ok 4 (by decide), fun _ => rfl⟩
theorem f_5_23 : FLg 5 23 5 1 := ⟨_, _, _, rfl, by decide, inX5, tblG_in (i := 455) (by decide +kernel) (by decide +kernel)⟩
theorem p_5_23 : FLp 5 23 5 1 false (tyX5 1) := ⟨_, _, _, tyX5, rfl, by decide, inX5, tblG_in (i := 455) (by decide +kernel) (by decide +kernel), tyX5_ok, nmX5, rfl, tyX5_ok 1 (by decide), fun q => by cases q⟩
-- 5 26 -> <java/util/Arrays|fill|([II)V>
theorem f_5_32 : FLg 5 32 5 5 := ⟨_, _, _, rfl, by decide, inX5, tblG_in (i := 463) (by decide +kernel) (by decide +kernel)⟩
theorem p_5_32 : FLp 5 32 5 5 false (tyX5 5) := ⟨_, _, _, tyX5, rfl, by decide, inX5, tblG_in (i := 463) (by decide +kernel) (by decide +kernel), tyX5_ok, nmX5, rfl, tyX5_ok 5 (by decide), fun q => by cases q⟩
theorem f_5_35 : FLg 5 35 5 6 := ⟨_, _, _, rfl, by decide, inX5, tblG_in (i := 465) (by decide +kernel) (by decide +kernel)⟩
theorem p_5_35 : FLp 5 35 5 6 false (tyX5 6) := ⟨_, _, _, tyX5, rfl, by decide, inX5, tblG_in (i := 465) (by decide +kernel) (by decide +kernel), tyX5_ok, nmX5, rfl, tyX5_ok 6 (by decide), fun q => by cases q⟩
theorem f_5_38 : FLg 5 38 5 10 := ⟨_, _, _, rfl, by decide, inX5, tblG_in (i := 469) (by decide +kernel) (by decide +kernel)⟩
theorem p_5_38 : FLp 5 38 5 10 false (tyX5 10) := ⟨_, _, _, tyX5, rfl, by decide, inX5, tblG_in (i := 469) (by decide +kernel) (by decide +kernel), tyX5_ok, nmX5, rfl, tyX5_ok 10 (by decide), fun q => by cases q⟩
theorem f_5_41 : FLg 5 41 5 11 := ⟨_, _, _, rfl, by decide, inX5, tblG_in (i := 470) (by decide +kernel) (by decide +kernel)⟩
theorem p_5_41 : FLp 5 41 5 11 false (tyX5 11) := ⟨_, _, _, tyX5, rfl, by decide, inX5, tblG_in (i := 470) (by decide +kernel) (by decide +kernel), tyX5_ok, nmX5, rfl, tyX5_ok 11 (by decide), fun q => by cases q⟩
theorem f_5_44 : FLg 5 44 5 8 := ⟨_, _, _, rfl, by decide, inX5, tblG_in (i := 467) (by decide +kernel) (by decide +kernel)⟩
theorem p_5_44 : FLp 5 44 5 8 false (tyX5 8) := ⟨_, _, _, tyX5, rfl, by decide, inX5, tblG_in (i := 467) (by decide +kernel) (by decide +kernel), tyX5_ok, nmX5, rfl, tyX5_ok 8 (by decide), fun q => by cases q⟩
theorem k_5_47 : MLk 5 47 mX5_scan 1 1 := ⟨okX5_scan, Or.inl (tblG_in (i := 1236) (by decide +kernel) (by decide +kernel)), Or.inr (Or.inl ⟨rfl, tblG_in (i := 1238) (by decide +kernel) (by decide +kernel), tblG_sel (i := 16) (by decide +kernel) (by decide +kernel), rfl⟩)⟩
theorem l_5_47 : Cond.methodLink (cn 5) 47 (my mX5_scan) ∈ tblG := tblG_in (i := 1236) (by decide +kernel) (by decide +kernel)
theorem k_5_51 : MLk 5 51 mX5_take 1 0 := ⟨okX5_take, Or.inl (tblG_in (i := 1277) (by decide +kernel) (by decide +kernel)), Or.inr (Or.inl ⟨rfl, tblG_in (i := 1279) (by decide +kernel) (by decide +kernel), tblG_sel (i := 20) (by decide +kernel) (by decide +kernel), rfl⟩)⟩
theorem l_5_51 : Cond.methodLink (cn 5) 51 (my mX5_take) ∈ tblG := tblG_in (i := 1277) (by decide +kernel) (by decide +kernel)
theorem f_5_55 : FLg 5 55 5 2 := ⟨_, _, _, rfl, by decide, inX5, tblG_in (i := 457) (by decide +kernel) (by decide +kernel)⟩
theorem p_5_55 : FLp 5 55 5 2 false (tyX5 2) := ⟨_, _, _, tyX5, rfl, by decide, inX5, tblG_in (i := 457) (by decide +kernel) (by decide +kernel), tyX5_ok, nmX5, rfl, tyX5_ok 2 (by decide), fun q => by cases q⟩
theorem f_5_58 : FLg 5 58 5 7 := ⟨_, _, _, rfl, by decide, inX5, tblG_in (i := 466) (by decide +kernel) (by decide +kernel)⟩
theorem p_5_58 : FLp 5 58 5 7 false (tyX5 7) := ⟨_, _, _, tyX5, rfl, by decide, inX5, tblG_in (i := 466) (by decide +kernel) (by decide +kernel), tyX5_ok, nmX5, rfl, tyX5_ok 7 (by decide), fun q => by cases q⟩
theorem k_5_61 : MLk 5 61 mX5_scanNumber 1 1 := ⟨okX5_scanNumber, Or.inl (tblG_in (i := 1240) (by decide +kernel) (by decide +kernel)), Or.inr (Or.inl ⟨rfl, tblG_in (i := 1242) (by decide +kernel) (by decide +kernel), tblG_sel (i := 17) (by decide +kernel) (by decide +kernel), rfl⟩)⟩
theorem l_5_61 : Cond.methodLink (cn 5) 61 (my mX5_scanNumber) ∈ tblG := tblG_in (i := 1240) (by decide +kernel) (by decide +kernel)
theorem k_5_64 : MLk 5 64 mX5_scanWord 1 1 := ⟨okX5_scanWord, Or.inl (tblG_in (i := 1244) (by decide +kernel) (by decide +kernel)), Or.inr (Or.inl ⟨rfl, tblG_in (i := 1246) (by decide +kernel) (by decide +kernel), tblG_sel (i := 18) (by decide +kernel) (by decide +kernel), rfl⟩)⟩
theorem l_5_64 : Cond.methodLink (cn 5) 64 (my mX5_scanWord) ∈ tblG := tblG_in (i := 1244) (by decide +kernel) (by decide +kernel)
theorem f_5_67 : FLg 5 67 5 9 := ⟨_, _, _, rfl, by decide, inX5, tblG_in (i := 468) (by decide +kernel) (by decide +kernel)⟩
theorem p_5_67 : FLp 5 67 5 9 false (tyX5 9) := ⟨_, _, _, tyX5, rfl, by decide, inX5, tblG_in (i := 468) (by decide +kernel) (by decide +kernel), tyX5_ok, nmX5, rfl, tyX5_ok 9 (by decide), fun q => by cases q⟩
theorem k_5_70 : MLk 5 70 mX5_isWord 1 1 := ⟨okX5_isWord, Or.inl (tblG_in (i := 1248) (by decide +kernel) (by decide +kernel)), Or.inr (Or.inl ⟨rfl, tblG_in (i := 1250) (by decide +kernel) (by decide +kernel), tblG_sel (i := 19) (by decide +kernel) (by decide +kernel), rfl⟩)⟩
theorem l_5_70 : Cond.methodLink (cn 5) 70 (my mX5_isWord) ∈ tblG := tblG_in (i := 1248) (by decide +kernel) (by decide +kernel)
-- 5 76 -> <java/lang/String|charAt|(I)C>
theorem k_5_82 : MLk 5 82 mX5_takeFirst 1 0 := ⟨okX5_takeFirst, Or.inl (tblG_in (i := 1281) (by decide +kernel) (by decide +kernel)), Or.inr (Or.inl ⟨rfl, tblG_in (i := 1283) (by decide +kernel) (by decide +kernel), tblG_sel (i := 21) (by decide +kernel) (by decide +kernel), rfl⟩)⟩
theorem l_5_82 : Cond.methodLink (cn 5) 82 (my mX5_takeFirst) ∈ tblG := tblG_in (i := 1281) (by decide +kernel) (by decide +kernel)
theorem k_5_85 : MLk 5 85 mX5_takeWord 1 0 := ⟨okX5_takeWord, Or.inl (tblG_in (i := 1285) (by decide +kernel) (by decide +kernel)), Or.inr (Or.inl ⟨rfl, tblG_in (i := 1287) (by decide +kernel) (by decide +kernel), tblG_sel (i := 22) (by decide +kernel) (by decide +kernel), rfl⟩)⟩
theorem l_5_85 : Cond.methodLink (cn 5) 85 (my mX5_takeWord) ∈ tblG := tblG_in (i := 1285) (by decide +kernel) (by decide +kernel)
theorem k_5_88 : MLk 5 88 mX5_await 1 2 := ⟨okX5_await, Or.inl (tblG_in (i := 1289) (by decide +kernel) (by decide +kernel)), Or.inr (Or.inl ⟨rfl, tblG_in (i := 1291) (by decide +kernel) (by decide +kernel), tblG_sel (i := 23) (by decide +kernel) (by decide +kernel), rfl⟩)⟩
theorem l_5_88 : Cond.methodLink (cn 5) 88 (my mX5_await) ∈ tblG := tblG_in (i := 1289) (by decide +kernel) (by decide +kernel)
theorem k_5_92 : MLk 5 92 mX5_takeAmount 1 1 := ⟨okX5_takeAmount, Or.inl (tblG_in (i := 1304) (by decide +kernel) (by decide +kernel)), Or.inr (Or.inl ⟨rfl, tblG_in (i := 1306) (by decide +kernel) (by decide +kernel), tblG_sel (i := 26) (by decide +kernel) (by decide +kernel), rfl⟩)⟩
theorem l_5_92 : Cond.methodLink (cn 5) 92 (my mX5_takeAmount) ∈ tblG := tblG_in (i := 1304) (by decide +kernel) (by decide +kernel)
theorem f_5_96 : FLg 5 96 5 12 := ⟨_, _, _, rfl, by decide, inX5, tblG_in (i := 471) (by decide +kernel) (by decide +kernel)⟩
theorem p_5_96 : FLp 5 96 5 12 false (tyX5 12) := ⟨_, _, _, tyX5, rfl, by decide, inX5, tblG_in (i := 471) (by decide +kernel) (by decide +kernel), tyX5_ok, nmX5, rfl, tyX5_ok 12 (by decide), fun q => by cases q⟩
theorem f_5_99 : FLg 5 99 5 13 := ⟨_, _, _, rfl, by decide, inX5, tblG_in (i := 472) (by decide +kernel) (by decide +kernel)⟩
theorem p_5_99 : FLp 5 99 5 13 false (tyX5 13) := ⟨_, _, _, tyX5, rfl, by decide, inX5, tblG_in (i := 472) (by decide +kernel) (by decide +kernel), tyX5_ok, nmX5, rfl, tyX5_ok 13 (by decide), fun q => by cases q⟩
theorem k_5_102 : MLk 5 102 mX11_wordOf 0 3 := ⟨okX11_wordOf, Or.inr ⟨exL_in (i := 1293) (by decide +kernel) rfl, rfl⟩, Or.inl ⟨rfl, tblG_in (i := 1294) (by decide +kernel) (by decide +kernel)⟩⟩
theorem k_5_106 : MLk 5 106 mX5_keep 1 2 := ⟨okX5_keep, Or.inl (tblG_in (i := 1296) (by decide +kernel) (by decide +kernel)), Or.inr (Or.inl ⟨rfl, tblG_in (i := 1298) (by decide +kernel) (by decide +kernel), tblG_sel (i := 24) (by decide +kernel) (by decide +kernel), rfl⟩)⟩
theorem l_5_106 : Cond.methodLink (cn 5) 106 (my mX5_keep) ∈ tblG := tblG_in (i := 1296) (by decide +kernel) (by decide +kernel)
theorem k_5_109 : MLk 5 109 mX5_takeSide 1 0 := ⟨okX5_takeSide, Or.inl (tblG_in (i := 1308) (by decide +kernel) (by decide +kernel)), Or.inr (Or.inl ⟨rfl, tblG_in (i := 1310) (by decide +kernel) (by decide +kernel), tblG_sel (i := 27) (by decide +kernel) (by decide +kernel), rfl⟩)⟩
theorem l_5_109 : Cond.methodLink (cn 5) 109 (my mX5_takeSide) ∈ tblG := tblG_in (i := 1308) (by decide +kernel) (by decide +kernel)
theorem k_5_112 : MLk 5 112 mX5_takeMore 1 0 := ⟨okX5_takeMore, Or.inl (tblG_in (i := 1312) (by decide +kernel) (by decide +kernel)), Or.inr (Or.inl ⟨rfl, tblG_in (i := 1314) (by decide +kernel) (by decide +kernel), tblG_sel (i := 28) (by decide +kernel) (by decide +kernel), rfl⟩)⟩
theorem l_5_112 : Cond.methodLink (cn 5) 112 (my mX5_takeMore) ∈ tblG := tblG_in (i := 1312) (by decide +kernel) (by decide +kernel)
theorem k_5_115 : MLk 5 115 mX5_isBadNumber 1 0 := ⟨okX5_isBadNumber, Or.inl (tblG_in (i := 1300) (by decide +kernel) (by decide +kernel)), Or.inr (Or.inl ⟨rfl, tblG_in (i := 1302) (by decide +kernel) (by decide +kernel), tblG_sel (i := 25) (by decide +kernel) (by decide +kernel), rfl⟩)⟩
theorem l_5_115 : Cond.methodLink (cn 5) 115 (my mX5_isBadNumber) ∈ tblG := tblG_in (i := 1300) (by decide +kernel) (by decide +kernel)
-- 6 3 -> <java/lang/Object|<init>|()V>
theorem f_6_11 : FLg 6 11 6 0 := ⟨_, _, _, rfl, by decide, inX6, tblG_in (i := 288) (by decide +kernel) (by decide +kernel)⟩
theorem p_6_11 : FLp 6 11 6 0 true (tyX6 0) := ⟨_, _, _, tyX6, rfl, by decide, inX6, tblG_in (i := 288) (by decide +kernel) (by decide +kernel), tyX6_ok, nmX6, rfl, tyX6_ok 0 (by decide), fun _ => rfl⟩
-- 6 15 -> <java/util/Arrays|fill|([JJ)V>
-- 6 21 -> <java/lang/Long|bitCount|(J)I>
theorem k_6_27 : MLk 6 27 mX11_lowest 0 1 := ⟨okX11_lowest, Or.inr ⟨exL_in (i := 1356) (by decide +kernel) rfl, rfl⟩, Or.inl ⟨rfl, tblG_in (i := 1357) (by decide +kernel) (by decide +kernel)⟩⟩
theorem k_6_30 : MLk 6 30 mX11_isIn 0 2 := ⟨okX11_isIn, Or.inr ⟨exL_in (i := 1121) (by decide +kernel) rfl, rfl⟩, Or.inl ⟨rfl, tblG_in (i := 791) (by decide +kernel) (by decide +kernel)⟩⟩
theorem k_6_34 : MLk 6 34 mX6_stateOf 0 2 := ⟨okX6_stateOf, Or.inl (tblG_in (i := 1359) (by decide +kernel) (by decide +kernel)), Or.inl ⟨rfl, tblG_in (i := 1360) (by decide +kernel) (by decide +kernel)⟩⟩
theorem l_6_34 : Cond.methodLink (cn 6) 34 (my mX6_stateOf) ∈ tblG := tblG_in (i := 1359) (by decide +kernel) (by decide +kernel)
-- 7 3 -> <java/lang/Object|<init>|()V>
theorem f_7_9 : FLg 7 9 7 2 := ⟨_, _, _, rfl, by decide, inX7, tblG_in (i := 302) (by decide +kernel) (by decide +kernel)⟩
theorem p_7_9 : FLp 7 9 7 2 false (tyX7 2) := ⟨_, _, _, tyX7, rfl, by decide, inX7, tblG_in (i := 302) (by decide +kernel) (by decide +kernel), tyX7_ok, nmX7, rfl, tyX7_ok 2 (by decide), fun q => by cases q⟩
theorem f_7_15 : FLg 7 15 7 3 := ⟨_, _, _, rfl, by decide, inX7, tblG_in (i := 304) (by decide +kernel) (by decide +kernel)⟩
theorem p_7_15 : FLp 7 15 7 3 false (tyX7 3) := ⟨_, _, _, tyX7, rfl, by decide, inX7, tblG_in (i := 304) (by decide +kernel) (by decide +kernel), tyX7_ok, nmX7, rfl, tyX7_ok 3 (by decide), fun q => by cases q⟩
theorem f_7_19 : FLg 7 19 7 5 := ⟨_, _, _, rfl, by decide, inX7, tblG_in (i := 307) (by decide +kernel) (by decide +kernel)⟩
theorem p_7_19 : FLp 7 19 7 5 false (tyX7 5) := ⟨_, _, _, tyX7, rfl, by decide, inX7, tblG_in (i := 307) (by decide +kernel) (by decide +kernel), tyX7_ok, nmX7, rfl, tyX7_ok 5 (by decide), fun q => by cases q⟩
theorem f_7_22 : FLg 7 22 7 6 := ⟨_, _, _, rfl, by decide, inX7, tblG_in (i := 308) (by decide +kernel) (by decide +kernel)⟩
theorem p_7_22 : FLp 7 22 7 6 false (tyX7 6) := ⟨_, _, _, tyX7, rfl, by decide, inX7, tblG_in (i := 308) (by decide +kernel) (by decide +kernel), tyX7_ok, nmX7, rfl, tyX7_ok 6 (by decide), fun q => by cases q⟩
theorem f_7_25 : FLg 7 25 7 7 := ⟨_, _, _, rfl, by decide, inX7, tblG_in (i := 309) (by decide +kernel) (by decide +kernel)⟩
theorem p_7_25 : FLp 7 25 7 7 false (tyX7 7) := ⟨_, _, _, tyX7, rfl, by decide, inX7, tblG_in (i := 309) (by decide +kernel) (by decide +kernel), tyX7_ok, nmX7, rfl, tyX7_ok 7 (by decide), fun q => by cases q⟩
theorem f_7_28 : FLg 7 28 7 0 := ⟨_, _, _, rfl, by decide, inX7, tblG_in (i := 299) (by decide +kernel) (by decide +kernel)⟩
theorem p_7_28 : FLp 7 28 7 0 true (tyX7 0) := ⟨_, _, _, tyX7, rfl, by decide, inX7, tblG_in (i := 299) (by decide +kernel) (by decide +kernel), tyX7_ok, nmX7, rfl, tyX7_ok 0 (by decide), fun _ => rfl⟩
theorem k_7_32 : MLk 7 32 mX7_clearNow 1 0 := ⟨okX7_clearNow, Or.inl (tblG_in (i := 1374) (by decide +kernel) (by decide +kernel)), Or.inr (Or.inl ⟨rfl, tblG_in (i := 1376) (by decide +kernel) (by decide +kernel), tblG_sel (i := 32) (by decide +kernel) (by decide +kernel), rfl⟩)⟩
theorem l_7_32 : Cond.methodLink (cn 7) 32 (my mX7_clearNow) ∈ tblG := tblG_in (i := 1374) (by decide +kernel) (by decide +kernel)
theorem f_7_35 : FLg 7 35 7 8 := ⟨_, _, _, rfl, by decide, inX7, tblG_in (i := 310) (by decide +kernel) (by decide +kernel)⟩
theorem p_7_35 : FLp 7 35 7 8 false (tyX7 8) := ⟨_, _, _, tyX7, rfl, by decide, inX7, tblG_in (i := 310) (by decide +kernel) (by decide +kernel), tyX7_ok, nmX7, rfl, tyX7_ok 8 (by decide), fun q => by cases q⟩
theorem f_7_39 : FLg 7 39 7 9 := ⟨_, _, _, rfl, by decide, inX7, tblG_in (i := 311) (by decide +kernel) (by decide +kernel)⟩
theorem p_7_39 : FLp 7 39 7 9 false (tyX7 9) := ⟨_, _, _, tyX7, rfl, by decide, inX7, tblG_in (i := 311) (by decide +kernel) (by decide +kernel), tyX7_ok, nmX7, rfl, tyX7_ok 9 (by decide), fun q => by cases q⟩
theorem f_7_42 : FLg 7 42 7 10 := ⟨_, _, _, rfl, by decide, inX7, tblG_in (i := 312) (by decide +kernel) (by decide +kernel)⟩
theorem p_7_42 : FLp 7 42 7 10 false (tyX7 10) := ⟨_, _, _, tyX7, rfl, by decide, inX7, tblG_in (i := 312) (by decide +kernel) (by decide +kernel), tyX7_ok, nmX7, rfl, tyX7_ok 10 (by decide), fun q => by cases q⟩
theorem k_7_46 : MLk 7 46 mX10_look 1 1 := ⟨okX10_look, Or.inl (tblG_in (i := 1382) (by decide +kernel) (by decide +kernel)), Or.inr (Or.inl ⟨rfl, tblG_in (i := 802) (by decide +kernel) (by decide +kernel), tblG_in (i := 803) (by decide +kernel) (by decide +kernel), rfl⟩)⟩
theorem l_7_46 : Cond.methodLink (cn 7) 46 (my mX10_look) ∈ tblG := tblG_in (i := 1382) (by decide +kernel) (by decide +kernel)
theorem k_7_52 : MLk 7 52 mX7_carry 1 2 := ⟨okX7_carry, Or.inl (tblG_in (i := 1383) (by decide +kernel) (by decide +kernel)), Or.inr (Or.inl ⟨rfl, tblG_in (i := 1385) (by decide +kernel) (by decide +kernel), tblG_sel (i := 33) (by decide +kernel) (by decide +kernel), rfl⟩)⟩
theorem l_7_52 : Cond.methodLink (cn 7) 52 (my mX7_carry) ∈ tblG := tblG_in (i := 1383) (by decide +kernel) (by decide +kernel)
theorem f_7_56 : FLg 7 56 7 1 := ⟨_, _, _, rfl, by decide, inX7, tblG_in (i := 300) (by decide +kernel) (by decide +kernel)⟩
theorem p_7_56 : FLp 7 56 7 1 false (tyX7 1) := ⟨_, _, _, tyX7, rfl, by decide, inX7, tblG_in (i := 300) (by decide +kernel) (by decide +kernel), tyX7_ok, nmX7, rfl, tyX7_ok 1 (by decide), fun q => by cases q⟩
theorem f_7_59 : FLg 7 59 7 4 := ⟨_, _, _, rfl, by decide, inX7, tblG_in (i := 306) (by decide +kernel) (by decide +kernel)⟩
theorem p_7_59 : FLp 7 59 7 4 false (tyX7 4) := ⟨_, _, _, tyX7, rfl, by decide, inX7, tblG_in (i := 306) (by decide +kernel) (by decide +kernel), tyX7_ok, nmX7, rfl, tyX7_ok 4 (by decide), fun q => by cases q⟩
theorem f_7_62 : FLg 7 62 10 11 := ⟨_, _, _, rfl, by decide, inX10, tblG_in (i := 247) (by decide +kernel) (by decide +kernel)⟩
-- 7 65 -> <java/lang/Long|bitCount|(J)I>
theorem f_7_71 : FLg 7 71 10 0 := ⟨_, _, _, rfl, by decide, inX10, tblG_in (i := 230) (by decide +kernel) (by decide +kernel)⟩
theorem f_7_75 : FLg 7 75 3 5 := ⟨_, _, _, rfl, by decide, inX3, tblG_in (i := 61) (by decide +kernel) (by decide +kernel)⟩
-- 8 3 -> <java/lang/Object|<init>|()V>
theorem f_8_9 : FLg 8 9 8 0 := ⟨_, _, _, rfl, by decide, inX8, tblG_in (i := 513) (by decide +kernel) (by decide +kernel)⟩
theorem p_8_9 : FLp 8 9 8 0 false (tyX8 0) := ⟨_, _, _, tyX8, rfl, by decide, inX8, tblG_in (i := 513) (by decide +kernel) (by decide +kernel), tyX8_ok, nmX8, rfl, tyX8_ok 0 (by decide), fun q => by cases q⟩
theorem f_8_15 : FLg 8 15 8 3 := ⟨_, _, _, rfl, by decide, inX8, tblG_in (i := 519) (by decide +kernel) (by decide +kernel)⟩
theorem p_8_15 : FLp 8 15 8 3 true (tyX8 3) := ⟨_, _, _, tyX8, rfl, by decide, inX8, tblG_in (i := 519) (by decide +kernel) (by decide +kernel), tyX8_ok, nmX8, rfl, tyX8_ok 3 (by decide), fun _ => rfl⟩
theorem f_8_19 : FLg 8 19 8 1 := ⟨_, _, _, rfl, by decide, inX8, tblG_in (i := 515) (by decide +kernel) (by decide +kernel)⟩
theorem p_8_19 : FLp 8 19 8 1 false (tyX8 1) := ⟨_, _, _, tyX8, rfl, by decide, inX8, tblG_in (i := 515) (by decide +kernel) (by decide +kernel), tyX8_ok, nmX8, rfl, tyX8_ok 1 (by decide), fun q => by cases q⟩
theorem f_8_23 : FLg 8 23 8 2 := ⟨_, _, _, rfl, by decide, inX8, tblG_in (i := 516) (by decide +kernel) (by decide +kernel)⟩
theorem p_8_23 : FLp 8 23 8 2 false (tyX8 2) := ⟨_, _, _, tyX8, rfl, by decide, inX8, tblG_in (i := 516) (by decide +kernel) (by decide +kernel), tyX8_ok, nmX8, rfl, tyX8_ok 2 (by decide), fun q => by cases q⟩
-- 8 26 -> <java/util/Arrays|fill|([JJ)V>
theorem g_8_32 : Cond.constantLong (cn 8) 32 (31) ∈ tblG := tblG_in (i := 1714) (by decide +kernel) (by decide +kernel)
-- 9 3 -> <java/lang/Object|<init>|()V>
theorem f_9_9 : FLg 9 9 9 4 := ⟨_, _, _, rfl, by decide, inX9, tblG_in (i := 343) (by decide +kernel) (by decide +kernel)⟩
theorem p_9_9 : FLp 9 9 9 4 true (tyX9 4) := ⟨_, _, _, tyX9, rfl, by decide, inX9, tblG_in (i := 343) (by decide +kernel) (by decide +kernel), tyX9_ok, nmX9, rfl, tyX9_ok 4 (by decide), fun _ => rfl⟩
theorem f_9_15 : FLg 9 15 9 5 := ⟨_, _, _, rfl, by decide, inX9, tblG_in (i := 344) (by decide +kernel) (by decide +kernel)⟩
theorem p_9_15 : FLp 9 15 9 5 true (tyX9 5) := ⟨_, _, _, tyX9, rfl, by decide, inX9, tblG_in (i := 344) (by decide +kernel) (by decide +kernel), tyX9_ok, nmX9, rfl, tyX9_ok 5 (by decide), fun _ => rfl⟩
theorem n_9_19 : CLn 9 19 6 [.null] := ⟨_, _, _, tyX6, rfl, inX6, tyX6_ok, tblG_in (i := 282) (by decide +kernel) (by decide +kernel), tblG_in (i := 283) (by decide +kernel) (by decide +kernel), iniG6, by decide +kernel, rfl⟩
theorem k_9_21 : MLk 9 21 mX6_init 2 0 := ⟨okX6_init, Or.inr ⟨exL_in (i := 284) (by decide +kernel) rfl, rfl⟩, Or.inr (Or.inr ⟨rfl, rfl, tblG_in (i := 285) (by decide +kernel) (by decide +kernel), rfl, rfl⟩)⟩
theorem f_9_22 : FLg 9 22 9 7 := ⟨_, _, _, rfl, by decide, inX9, tblG_in (i := 346) (by decide +kernel) (by decide +kernel)⟩
theorem p_9_22 : FLp 9 22 9 7 false (tyX9 7) := ⟨_, _, _, tyX9, rfl, by decide, inX9, tblG_in (i := 346) (by decide +kernel) (by decide +kernel), tyX9_ok, nmX9, rfl, tyX9_ok 7 (by decide), fun q => by cases q⟩
theorem f_9_26 : FLg 9 26 9 8 := ⟨_, _, _, rfl, by decide, inX9, tblG_in (i := 348) (by decide +kernel) (by decide +kernel)⟩
theorem p_9_26 : FLp 9 26 9 8 false (tyX9 8) := ⟨_, _, _, tyX9, rfl, by decide, inX9, tblG_in (i := 348) (by decide +kernel) (by decide +kernel), tyX9_ok, nmX9, rfl, tyX9_ok 8 (by decide), fun q => by cases q⟩
theorem f_9_29 : FLg 9 29 9 9 := ⟨_, _, _, rfl, by decide, inX9, tblG_in (i := 349) (by decide +kernel) (by decide +kernel)⟩
theorem p_9_29 : FLp 9 29 9 9 true (tyX9 9) := ⟨_, _, _, tyX9, rfl, by decide, inX9, tblG_in (i := 349) (by decide +kernel) (by decide +kernel), tyX9_ok, nmX9, rfl, tyX9_ok 9 (by decide), fun _ => rfl⟩
theorem f_9_32 : FLg 9 32 9 0 := ⟨_, _, _, rfl, by decide, inX9, tblG_in (i := 336) (by decide +kernel) (by decide +kernel)⟩
theorem p_9_32 : FLp 9 32 9 0 true (tyX9 0) := ⟨_, _, _, tyX9, rfl, by decide, inX9, tblG_in (i := 336) (by decide +kernel) (by decide +kernel), tyX9_ok, nmX9, rfl, tyX9_ok 0 (by decide), fun _ => rfl⟩
theorem f_9_36 : FLg 9 36 9 1 := ⟨_, _, _, rfl, by decide, inX9, tblG_in (i := 339) (by decide +kernel) (by decide +kernel)⟩
theorem p_9_36 : FLp 9 36 9 1 true (tyX9 1) := ⟨_, _, _, tyX9, rfl, by decide, inX9, tblG_in (i := 339) (by decide +kernel) (by decide +kernel), tyX9_ok, nmX9, rfl, tyX9_ok 1 (by decide), fun _ => rfl⟩
theorem f_9_40 : FLg 9 40 9 2 := ⟨_, _, _, rfl, by decide, inX9, tblG_in (i := 340) (by decide +kernel) (by decide +kernel)⟩
theorem p_9_40 : FLp 9 40 9 2 true (tyX9 2) := ⟨_, _, _, tyX9, rfl, by decide, inX9, tblG_in (i := 340) (by decide +kernel) (by decide +kernel), tyX9_ok, nmX9, rfl, tyX9_ok 2 (by decide), fun _ => rfl⟩
theorem n_9_44 : CLn 9 44 7 [.null, .int 0, .null, .null, .int 0, .null, .null, .null, .int 0, .int 0, .long 0] := ⟨_, _, _, tyX7, rfl, inX7, tyX7_ok, tblG_in (i := 293) (by decide +kernel) (by decide +kernel), tblG_in (i := 294) (by decide +kernel) (by decide +kernel), iniG7, by decide +kernel, rfl⟩
theorem k_9_46 : MLk 9 46 mX7_init 2 1 := ⟨okX7_init, Or.inl (tblG_in (i := 295) (by decide +kernel) (by decide +kernel)), Or.inr (Or.inr ⟨rfl, rfl, tblG_in (i := 296) (by decide +kernel) (by decide +kernel), rfl, rfl⟩)⟩
theorem l_9_46 : Cond.methodLink (cn 9) 46 (my mX7_init) ∈ tblG := tblG_in (i := 295) (by decide +kernel) (by decide +kernel)
theorem f_9_49 : FLg 9 49 9 3 := ⟨_, _, _, rfl, by decide, inX9, tblG_in (i := 342) (by decide +kernel) (by decide +kernel)⟩
theorem p_9_49 : FLp 9 49 9 3 true (tyX9 3) := ⟨_, _, _, tyX9, rfl, by decide, inX9, tblG_in (i := 342) (by decide +kernel) (by decide +kernel), tyX9_ok, nmX9, rfl, tyX9_ok 3 (by decide), fun _ => rfl⟩
theorem k_9_53 : MLk 9 53 mX2_kindsOf 1 2 := ⟨okX2_kindsOf, Or.inl (tblG_in (i := 1171) (by decide +kernel) (by decide +kernel)), Or.inr (Or.inl ⟨rfl, tblG_in (i := 1172) (by decide +kernel) (by decide +kernel), tblG_in (i := 1173) (by decide +kernel) (by decide +kernel), rfl⟩)⟩
theorem l_9_53 : Cond.methodLink (cn 9) 53 (my mX2_kindsOf) ∈ tblG := tblG_in (i := 1171) (by decide +kernel) (by decide +kernel)
theorem k_9_59 : MLk 9 59 mX10_placesWith 1 1 := ⟨okX10_placesWith, Or.inl (tblG_in (i := 1175) (by decide +kernel) (by decide +kernel)), Or.inr (Or.inl ⟨rfl, tblG_in (i := 1176) (by decide +kernel) (by decide +kernel), tblG_in (i := 1177) (by decide +kernel) (by decide +kernel), rfl⟩)⟩
theorem l_9_59 : Cond.methodLink (cn 9) 59 (my mX10_placesWith) ∈ tblG := tblG_in (i := 1175) (by decide +kernel) (by decide +kernel)
theorem f_9_65 : FLg 9 65 9 6 := ⟨_, _, _, rfl, by decide, inX9, tblG_in (i := 345) (by decide +kernel) (by decide +kernel)⟩
theorem p_9_65 : FLp 9 65 9 6 false (tyX9 6) := ⟨_, _, _, tyX9, rfl, by decide, inX9, tblG_in (i := 345) (by decide +kernel) (by decide +kernel), tyX9_ok, nmX9, rfl, tyX9_ok 6 (by decide), fun q => by cases q⟩
theorem f_9_69 : FLg 9 69 2 4 := ⟨_, _, _, rfl, by decide, inX2, tblG_in (i := 144) (by decide +kernel) (by decide +kernel)⟩
theorem k_9_72 : MLk 9 72 mX10_seenPlaces 1 1 := ⟨okX10_seenPlaces, Or.inl (tblG_in (i := 1187) (by decide +kernel) (by decide +kernel)), Or.inr (Or.inl ⟨rfl, tblG_in (i := 1188) (by decide +kernel) (by decide +kernel), tblG_in (i := 1189) (by decide +kernel) (by decide +kernel), rfl⟩)⟩
theorem l_9_72 : Cond.methodLink (cn 9) 72 (my mX10_seenPlaces) ∈ tblG := tblG_in (i := 1187) (by decide +kernel) (by decide +kernel)
theorem k_9_75 : MLk 9 75 mX9_goTimes 1 4 := ⟨okX9_goTimes, Or.inl (tblG_in (i := 1366) (by decide +kernel) (by decide +kernel)), Or.inr (Or.inl ⟨rfl, tblG_in (i := 1368) (by decide +kernel) (by decide +kernel), tblG_sel (i := 31) (by decide +kernel) (by decide +kernel), rfl⟩)⟩
theorem l_9_75 : Cond.methodLink (cn 9) 75 (my mX9_goTimes) ∈ tblG := tblG_in (i := 1366) (by decide +kernel) (by decide +kernel)
theorem k_9_79 : MLk 9 79 mX9_placesWith 1 1 := ⟨okX9_placesWith, Or.inl (tblG_in (i := 1388) (by decide +kernel) (by decide +kernel)), Or.inr (Or.inl ⟨rfl, tblG_in (i := 1193) (by decide +kernel) (by decide +kernel), tblG_in (i := 1194) (by decide +kernel) (by decide +kernel), rfl⟩)⟩
theorem l_9_79 : Cond.methodLink (cn 9) 79 (my mX9_placesWith) ∈ tblG := tblG_in (i := 1388) (by decide +kernel) (by decide +kernel)
theorem k_9_80 : MLk 9 80 mX9_goUntil 1 5 := ⟨okX9_goUntil, Or.inl (tblG_in (i := 1389) (by decide +kernel) (by decide +kernel)), Or.inr (Or.inl ⟨rfl, tblG_in (i := 1391) (by decide +kernel) (by decide +kernel), tblG_sel (i := 34) (by decide +kernel) (by decide +kernel), rfl⟩)⟩
theorem l_9_80 : Cond.methodLink (cn 9) 80 (my mX9_goUntil) ∈ tblG := tblG_in (i := 1389) (by decide +kernel) (by decide +kernel)
theorem k_9_84 : MLk 9 84 mX9_goFar 1 4 := ⟨okX9_goFar, Or.inl (tblG_in (i := 1396) (by decide +kernel) (by decide +kernel)), Or.inr (Or.inl ⟨rfl, tblG_in (i := 1398) (by decide +kernel) (by decide +kernel), tblG_sel (i := 35) (by decide +kernel) (by decide +kernel), rfl⟩)⟩
theorem l_9_84 : Cond.methodLink (cn 9) 84 (my mX9_goFar) ∈ tblG := tblG_in (i := 1396) (by decide +kernel) (by decide +kernel)
theorem k_9_87 : MLk 9 87 mX9_seenPlaces 1 1 := ⟨okX9_seenPlaces, Or.inl (tblG_in (i := 1400) (by decide +kernel) (by decide +kernel)), Or.inr (Or.inl ⟨rfl, tblG_in (i := 1184) (by decide +kernel) (by decide +kernel), tblG_in (i := 1185) (by decide +kernel) (by decide +kernel), rfl⟩)⟩
theorem l_9_87 : Cond.methodLink (cn 9) 87 (my mX9_seenPlaces) ∈ tblG := tblG_in (i := 1400) (by decide +kernel) (by decide +kernel)
theorem k_9_88 : MLk 9 88 mX9_staySeeing 1 4 := ⟨okX9_staySeeing, Or.inl (tblG_in (i := 1401) (by decide +kernel) (by decide +kernel)), Or.inr (Or.inl ⟨rfl, tblG_in (i := 1403) (by decide +kernel) (by decide +kernel), tblG_sel (i := 36) (by decide +kernel) (by decide +kernel), rfl⟩)⟩
theorem l_9_88 : Cond.methodLink (cn 9) 88 (my mX9_staySeeing) ∈ tblG := tblG_in (i := 1401) (by decide +kernel) (by decide +kernel)
theorem k_9_92 : MLk 9 92 mX9_stayAheadOf 1 4 := ⟨okX9_stayAheadOf, Or.inl (tblG_in (i := 1405) (by decide +kernel) (by decide +kernel)), Or.inr (Or.inl ⟨rfl, tblG_in (i := 1407) (by decide +kernel) (by decide +kernel), tblG_sel (i := 37) (by decide +kernel) (by decide +kernel), rfl⟩)⟩
theorem l_9_92 : Cond.methodLink (cn 9) 92 (my mX9_stayAheadOf) ∈ tblG := tblG_in (i := 1405) (by decide +kernel) (by decide +kernel)
theorem g_9_95 : Cond.constantLong (cn 9) 95 (-1) ∈ tblG := tblG_in (i := 1409) (by decide +kernel) (by decide +kernel)
theorem k_9_97 : MLk 9 97 mX9_goBack 1 3 := ⟨okX9_goBack, Or.inl (tblG_in (i := 1410) (by decide +kernel) (by decide +kernel)), Or.inr (Or.inl ⟨rfl, tblG_in (i := 1412) (by decide +kernel) (by decide +kernel), tblG_sel (i := 38) (by decide +kernel) (by decide +kernel), rfl⟩)⟩
theorem l_9_97 : Cond.methodLink (cn 9) 97 (my mX9_goBack) ∈ tblG := tblG_in (i := 1410) (by decide +kernel) (by decide +kernel)
theorem k_9_101 : MLk 9 101 mX9_sideOf 1 2 := ⟨okX9_sideOf, Or.inl (tblG_in (i := 1414) (by decide +kernel) (by decide +kernel)), Or.inr (Or.inl ⟨rfl, tblG_in (i := 1416) (by decide +kernel) (by decide +kernel), tblG_sel (i := 39) (by decide +kernel) (by decide +kernel), rfl⟩)⟩
theorem l_9_101 : Cond.methodLink (cn 9) 101 (my mX9_sideOf) ∈ tblG := tblG_in (i := 1414) (by decide +kernel) (by decide +kernel)
theorem k_9_104 : MLk 9 104 mX9_turn 1 4 := ⟨okX9_turn, Or.inl (tblG_in (i := 1418) (by decide +kernel) (by decide +kernel)), Or.inr (Or.inl ⟨rfl, tblG_in (i := 1420) (by decide +kernel) (by decide +kernel), tblG_sel (i := 40) (by decide +kernel) (by decide +kernel), rfl⟩)⟩
theorem l_9_104 : Cond.methodLink (cn 9) 104 (my mX9_turn) ∈ tblG := tblG_in (i := 1418) (by decide +kernel) (by decide +kernel)
theorem k_9_107 : MLk 9 107 mX7_begin 1 4 := ⟨okX7_begin, Or.inl (tblG_in (i := 1370) (by decide +kernel) (by decide +kernel)), Or.inr (Or.inl ⟨rfl, tblG_in (i := 1371) (by decide +kernel) (by decide +kernel), tblG_in (i := 1372) (by decide +kernel) (by decide +kernel), rfl⟩)⟩
theorem l_9_107 : Cond.methodLink (cn 9) 107 (my mX7_begin) ∈ tblG := tblG_in (i := 1370) (by decide +kernel) (by decide +kernel)
theorem k_9_111 : MLk 9 111 mX9_turnAt 1 4 := ⟨okX9_turnAt, Or.inl (tblG_in (i := 1422) (by decide +kernel) (by decide +kernel)), Or.inr (Or.inl ⟨rfl, tblG_in (i := 1424) (by decide +kernel) (by decide +kernel), tblG_sel (i := 41) (by decide +kernel) (by decide +kernel), rfl⟩)⟩
theorem l_9_111 : Cond.methodLink (cn 9) 111 (my mX9_turnAt) ∈ tblG := tblG_in (i := 1422) (by decide +kernel) (by decide +kernel)
theorem f_9_115 : FLg 9 115 2 5 := ⟨_, _, _, rfl, by decide, inX2, tblG_in (i := 146) (by decide +kernel) (by decide +kernel)⟩
theorem f_9_119 : FLg 9 119 2 7 := ⟨_, _, _, rfl, by decide, inX2, tblG_in (i := 150) (by decide +kernel) (by decide +kernel)⟩
theorem k_9_122 : MLk 9 122 mX7_go 1 0 := ⟨okX7_go, Or.inl (tblG_in (i := 1378) (by decide +kernel) (by decide +kernel)), Or.inr (Or.inl ⟨rfl, tblG_in (i := 1379) (by decide +kernel) (by decide +kernel), tblG_in (i := 1380) (by decide +kernel) (by decide +kernel), rfl⟩)⟩
theorem l_9_122 : Cond.methodLink (cn 9) 122 (my mX7_go) ∈ tblG := tblG_in (i := 1378) (by decide +kernel) (by decide +kernel)
theorem f_9_126 : FLg 9 126 7 1 := ⟨_, _, _, rfl, by decide, inX7, tblG_in (i := 301) (by decide +kernel) (by decide +kernel)⟩
theorem f_9_129 : FLg 9 129 7 2 := ⟨_, _, _, rfl, by decide, inX7, tblG_in (i := 303) (by decide +kernel) (by decide +kernel)⟩
theorem k_9_132 : MLk 9 132 mX6_add 1 1 := ⟨okX6_add, Or.inl (tblG_in (i := 1348) (by decide +kernel) (by decide +kernel)), Or.inr (Or.inl ⟨rfl, tblG_in (i := 1349) (by decide +kernel) (by decide +kernel), tblG_in (i := 1350) (by decide +kernel) (by decide +kernel), rfl⟩)⟩
theorem l_9_132 : Cond.methodLink (cn 9) 132 (my mX6_add) ∈ tblG := tblG_in (i := 1348) (by decide +kernel) (by decide +kernel)
theorem f_9_136 : FLg 9 136 10 0 := ⟨_, _, _, rfl, by decide, inX10, tblG_in (i := 232) (by decide +kernel) (by decide +kernel)⟩
theorem f_9_140 : FLg 9 140 3 8 := ⟨_, _, _, rfl, by decide, inX3, tblG_in (i := 72) (by decide +kernel) (by decide +kernel)⟩
theorem k_9_145 : MLk 9 145 mX11_isIn 0 2 := ⟨okX11_isIn, Or.inr ⟨exL_in (i := 1393) (by decide +kernel) rfl, rfl⟩, Or.inl ⟨rfl, tblG_in (i := 791) (by decide +kernel) (by decide +kernel)⟩⟩
theorem f_9_149 : FLg 9 149 7 3 := ⟨_, _, _, rfl, by decide, inX7, tblG_in (i := 305) (by decide +kernel) (by decide +kernel)⟩
theorem k_9_152 : MLk 9 152 mX10_look 1 1 := ⟨okX10_look, Or.inl (tblG_in (i := 1394) (by decide +kernel) (by decide +kernel)), Or.inr (Or.inl ⟨rfl, tblG_in (i := 802) (by decide +kernel) (by decide +kernel), tblG_in (i := 803) (by decide +kernel) (by decide +kernel), rfl⟩)⟩
theorem l_9_152 : Cond.methodLink (cn 9) 152 (my mX10_look) ∈ tblG := tblG_in (i := 1394) (by decide +kernel) (by decide +kernel)
theorem f_9_156 : FLg 9 156 10 11 := ⟨_, _, _, rfl, by decide, inX10, tblG_in (i := 249) (by decide +kernel) (by decide +kernel)⟩
theorem k_9_159 : MLk 9 159 mX6_addArrows 1 2 := ⟨okX6_addArrows, Or.inl (tblG_in (i := 1395) (by decide +kernel) (by decide +kernel)), Or.inr (Or.inl ⟨rfl, tblG_in (i := 1109) (by decide +kernel) (by decide +kernel), tblG_in (i := 1110) (by decide +kernel) (by decide +kernel), rfl⟩)⟩
theorem l_9_159 : Cond.methodLink (cn 9) 159 (my mX6_addArrows) ∈ tblG := tblG_in (i := 1395) (by decide +kernel) (by decide +kernel)
theorem f_9_163 : FLg 9 163 10 4 := ⟨_, _, _, rfl, by decide, inX10, tblG_in (i := 237) (by decide +kernel) (by decide +kernel)⟩
theorem f_9_167 : FLg 9 167 2 6 := ⟨_, _, _, rfl, by decide, inX2, tblG_in (i := 148) (by decide +kernel) (by decide +kernel)⟩
theorem f_9_170 : FLg 9 170 10 5 := ⟨_, _, _, rfl, by decide, inX10, tblG_in (i := 240) (by decide +kernel) (by decide +kernel)⟩
theorem k_9_172 : MLk 9 172 mX6_clear 1 0 := ⟨okX6_clear, Or.inl (tblG_in (i := 1347) (by decide +kernel) (by decide +kernel)), Or.inr (Or.inl ⟨rfl, tblG_in (i := 1104) (by decide +kernel) (by decide +kernel), tblG_in (i := 1105) (by decide +kernel) (by decide +kernel), rfl⟩)⟩
theorem l_9_172 : Cond.methodLink (cn 9) 172 (my mX6_clear) ∈ tblG := tblG_in (i := 1347) (by decide +kernel) (by decide +kernel)
theorem k_9_175 : MLk 9 175 mX6_list 1 1 := ⟨okX6_list, Or.inl (tblG_in (i := 1352) (by decide +kernel) (by decide +kernel)), Or.inr (Or.inl ⟨rfl, tblG_in (i := 1353) (by decide +kernel) (by decide +kernel), tblG_in (i := 1354) (by decide +kernel) (by decide +kernel), rfl⟩)⟩
theorem l_9_175 : Cond.methodLink (cn 9) 175 (my mX6_list) ∈ tblG := tblG_in (i := 1352) (by decide +kernel) (by decide +kernel)
theorem f_9_178 : FLg 9 178 0 4 := ⟨_, _, _, rfl, by decide, inX0, tblG_in (i := 186) (by decide +kernel) (by decide +kernel)⟩
theorem k_9_183 : MLk 9 183 mX9_lead 1 4 := ⟨okX9_lead, Or.inl (tblG_in (i := 1362) (by decide +kernel) (by decide +kernel)), Or.inr (Or.inl ⟨rfl, tblG_in (i := 1363) (by decide +kernel) (by decide +kernel), tblG_in (i := 1364) (by decide +kernel) (by decide +kernel), rfl⟩)⟩
theorem l_9_183 : Cond.methodLink (cn 9) 183 (my mX9_lead) ∈ tblG := tblG_in (i := 1362) (by decide +kernel) (by decide +kernel)
theorem k_9_186 : MLk 9 186 mX6_isEmpty 1 0 := ⟨okX6_isEmpty, Or.inl (tblG_in (i := 1426) (by decide +kernel) (by decide +kernel)), Or.inr (Or.inl ⟨rfl, tblG_in (i := 1427) (by decide +kernel) (by decide +kernel), tblG_in (i := 1428) (by decide +kernel) (by decide +kernel), rfl⟩)⟩
theorem l_9_186 : Cond.methodLink (cn 9) 186 (my mX6_isEmpty) ∈ tblG := tblG_in (i := 1426) (by decide +kernel) (by decide +kernel)
theorem f_9_189 : FLg 9 189 0 3 := ⟨_, _, _, rfl, by decide, inX0, tblG_in (i := 183) (by decide +kernel) (by decide +kernel)⟩
theorem k_9_192 : MLk 9 192 mX9_follow 1 3 := ⟨okX9_follow, Or.inl (tblG_in (i := 1448) (by decide +kernel) (by decide +kernel)), Or.inr (Or.inl ⟨rfl, tblG_in (i := 1344) (by decide +kernel) (by decide +kernel), tblG_in (i := 1345) (by decide +kernel) (by decide +kernel), rfl⟩)⟩
theorem l_9_192 : Cond.methodLink (cn 9) 192 (my mX9_follow) ∈ tblG := tblG_in (i := 1448) (by decide +kernel) (by decide +kernel)
theorem k_9_196 : MLk 9 196 mX10_placesOf 1 1 := ⟨okX10_placesOf, Or.inl (tblG_in (i := 1449) (by decide +kernel) (by decide +kernel)), Or.inr (Or.inl ⟨rfl, tblG_in (i := 1450) (by decide +kernel) (by decide +kernel), tblG_in (i := 1451) (by decide +kernel) (by decide +kernel), rfl⟩)⟩
theorem l_9_196 : Cond.methodLink (cn 9) 196 (my mX10_placesOf) ∈ tblG := tblG_in (i := 1449) (by decide +kernel) (by decide +kernel)
theorem f_9_200 : FLg 9 200 0 1 := ⟨_, _, _, rfl, by decide, inX0, tblG_in (i := 177) (by decide +kernel) (by decide +kernel)⟩
-- 10 3 -> <java/lang/Object|<init>|()V>
theorem f_10_9 : FLg 10 9 10 1 := ⟨_, _, _, rfl, by decide, inX10, tblG_in (i := 233) (by decide +kernel) (by decide +kernel)⟩
theorem p_10_9 : FLp 10 9 10 1 false (tyX10 1) := ⟨_, _, _, tyX10, rfl, by decide, inX10, tblG_in (i := 233) (by decide +kernel) (by decide +kernel), tyX10_ok, nmX10, rfl, tyX10_ok 1 (by decide), fun q => by cases q⟩
theorem f_10_15 : FLg 10 15 10 2 := ⟨_, _, _, rfl, by decide, inX10, tblG_in (i := 234) (by decide +kernel) (by decide +kernel)⟩
theorem p_10_15 : FLp 10 15 10 2 false (tyX10 2) := ⟨_, _, _, tyX10, rfl, by decide, inX10, tblG_in (i := 234) (by decide +kernel) (by decide +kernel), tyX10_ok, nmX10, rfl, tyX10_ok 2 (by decide), fun q => by cases q⟩
theorem f_10_18 : FLg 10 18 10 3 := ⟨_, _, _, rfl, by decide, inX10, tblG_in (i := 235) (by decide +kernel) (by decide +kernel)⟩
theorem p_10_18 : FLp 10 18 10 3 false (tyX10 3) := ⟨_, _, _, tyX10, rfl, by decide, inX10, tblG_in (i := 235) (by decide +kernel) (by decide +kernel), tyX10_ok, nmX10, rfl, tyX10_ok 3 (by decide), fun q => by cases q⟩
theorem f_10_22 : FLg 10 22 10 5 := ⟨_, _, _, rfl, by decide, inX10, tblG_in (i := 239) (by decide +kernel) (by decide +kernel)⟩
theorem p_10_22 : FLp 10 22 10 5 true (tyX10 5) := ⟨_, _, _, tyX10, rfl, by decide, inX10, tblG_in (i := 239) (by decide +kernel) (by decide +kernel), tyX10_ok, nmX10, rfl, tyX10_ok 5 (by decide), fun _ => rfl⟩
theorem f_10_26 : FLg 10 26 10 6 := ⟨_, _, _, rfl, by decide, inX10, tblG_in (i := 241) (by decide +kernel) (by decide +kernel)⟩
theorem p_10_26 : FLp 10 26 10 6 true (tyX10 6) := ⟨_, _, _, tyX10, rfl, by decide, inX10, tblG_in (i := 241) (by decide +kernel) (by decide +kernel), tyX10_ok, nmX10, rfl, tyX10_ok 6 (by decide), fun _ => rfl⟩
theorem f_10_29 : FLg 10 29 10 7 := ⟨_, _, _, rfl, by decide, inX10, tblG_in (i := 242) (by decide +kernel) (by decide +kernel)⟩
theorem p_10_29 : FLp 10 29 10 7 true (tyX10 7) := ⟨_, _, _, tyX10, rfl, by decide, inX10, tblG_in (i := 242) (by decide +kernel) (by decide +kernel), tyX10_ok, nmX10, rfl, tyX10_ok 7 (by decide), fun _ => rfl⟩
theorem f_10_32 : FLg 10 32 10 8 := ⟨_, _, _, rfl, by decide, inX10, tblG_in (i := 243) (by decide +kernel) (by decide +kernel)⟩
theorem p_10_32 : FLp 10 32 10 8 true (tyX10 8) := ⟨_, _, _, tyX10, rfl, by decide, inX10, tblG_in (i := 243) (by decide +kernel) (by decide +kernel), tyX10_ok, nmX10, rfl, tyX10_ok 8 (by decide), fun _ => rfl⟩
theorem f_10_35 : FLg 10 35 10 9 := ⟨_, _, _, rfl, by decide, inX10, tblG_in (i := 244) (by decide +kernel) (by decide +kernel)⟩
theorem p_10_35 : FLp 10 35 10 9 true (tyX10 9) := ⟨_, _, _, tyX10, rfl, by decide, inX10, tblG_in (i := 244) (by decide +kernel) (by decide +kernel), tyX10_ok, nmX10, rfl, tyX10_ok 9 (by decide), fun _ => rfl⟩
theorem f_10_38 : FLg 10 38 10 10 := ⟨_, _, _, rfl, by decide, inX10, tblG_in (i := 245) (by decide +kernel) (by decide +kernel)⟩
theorem p_10_38 : FLp 10 38 10 10 true (tyX10 10) := ⟨_, _, _, tyX10, rfl, by decide, inX10, tblG_in (i := 245) (by decide +kernel) (by decide +kernel), tyX10_ok, nmX10, rfl, tyX10_ok 10 (by decide), fun _ => rfl⟩
theorem f_10_42 : FLg 10 42 10 11 := ⟨_, _, _, rfl, by decide, inX10, tblG_in (i := 246) (by decide +kernel) (by decide +kernel)⟩
theorem p_10_42 : FLp 10 42 10 11 true (tyX10 11) := ⟨_, _, _, tyX10, rfl, by decide, inX10, tblG_in (i := 246) (by decide +kernel) (by decide +kernel), tyX10_ok, nmX10, rfl, tyX10_ok 11 (by decide), fun _ => rfl⟩
theorem f_10_45 : FLg 10 45 10 0 := ⟨_, _, _, rfl, by decide, inX10, tblG_in (i := 228) (by decide +kernel) (by decide +kernel)⟩
theorem p_10_45 : FLp 10 45 10 0 true (tyX10 0) := ⟨_, _, _, tyX10, rfl, by decide, inX10, tblG_in (i := 228) (by decide +kernel) (by decide +kernel), tyX10_ok, nmX10, rfl, tyX10_ok 0 (by decide), fun _ => rfl⟩
theorem k_10_49 : MLk 10 49 mX10_isPreparedFor 1 1 := ⟨okX10_isPreparedFor, Or.inl (tblG_in (i := 769) (by decide +kernel) (by decide +kernel)), Or.inr (Or.inl ⟨rfl, tblG_in (i := 770) (by decide +kernel) (by decide +kernel), tblG_in (i := 771) (by decide +kernel) (by decide +kernel), rfl⟩)⟩
theorem l_10_49 : Cond.methodLink (cn 10) 49 (my mX10_isPreparedFor) ∈ tblG := tblG_in (i := 769) (by decide +kernel) (by decide +kernel)
theorem f_10_53 : FLg 10 53 3 3 := ⟨_, _, _, rfl, by decide, inX3, tblG_in (i := 55) (by decide +kernel) (by decide +kernel)⟩
theorem f_10_58 : FLg 10 58 3 6 := ⟨_, _, _, rfl, by decide, inX3, tblG_in (i := 63) (by decide +kernel) (by decide +kernel)⟩
theorem f_10_62 : FLg 10 62 3 7 := ⟨_, _, _, rfl, by decide, inX3, tblG_in (i := 66) (by decide +kernel) (by decide +kernel)⟩
theorem k_10_65 : MLk 10 65 mX10_isThere 1 3 := ⟨okX10_isThere, Or.inl (tblG_in (i := 773) (by decide +kernel) (by decide +kernel)), Or.inr (Or.inl ⟨rfl, tblG_in (i := 775) (by decide +kernel) (by decide +kernel), tblG_sel (i := 5) (by decide +kernel) (by decide +kernel), rfl⟩)⟩
theorem l_10_65 : Cond.methodLink (cn 10) 65 (my mX10_isThere) ∈ tblG := tblG_in (i := 773) (by decide +kernel) (by decide +kernel)
theorem f_10_69 : FLg 10 69 10 4 := ⟨_, _, _, rfl, by decide, inX10, tblG_in (i := 236) (by decide +kernel) (by decide +kernel)⟩
theorem p_10_69 : FLp 10 69 10 4 false (tyX10 4) := ⟨_, _, _, tyX10, rfl, by decide, inX10, tblG_in (i := 236) (by decide +kernel) (by decide +kernel), tyX10_ok, nmX10, rfl, tyX10_ok 4 (by decide), fun q => by cases q⟩
theorem k_10_72 : MLk 10 72 mX10_layWays 1 1 := ⟨okX10_layWays, Or.inl (tblG_in (i := 783) (by decide +kernel) (by decide +kernel)), Or.inr (Or.inl ⟨rfl, tblG_in (i := 785) (by decide +kernel) (by decide +kernel), tblG_sel (i := 6) (by decide +kernel) (by decide +kernel), rfl⟩)⟩
theorem l_10_72 : Cond.methodLink (cn 10) 72 (my mX10_layWays) ∈ tblG := tblG_in (i := 783) (by decide +kernel) (by decide +kernel)
-- 10 76 -> <java/util/Arrays|fill|([JJ)V>
theorem f_10_82 : FLg 10 82 3 11 := ⟨_, _, _, rfl, by decide, inX3, tblG_in (i := 77) (by decide +kernel) (by decide +kernel)⟩
theorem f_10_85 : FLg 10 85 3 15 := ⟨_, _, _, rfl, by decide, inX3, tblG_in (i := 88) (by decide +kernel) (by decide +kernel)⟩
theorem f_10_88 : FLg 10 88 3 16 := ⟨_, _, _, rfl, by decide, inX3, tblG_in (i := 91) (by decide +kernel) (by decide +kernel)⟩
theorem f_10_91 : FLg 10 91 3 13 := ⟨_, _, _, rfl, by decide, inX3, tblG_in (i := 83) (by decide +kernel) (by decide +kernel)⟩
theorem f_10_94 : FLg 10 94 3 12 := ⟨_, _, _, rfl, by decide, inX3, tblG_in (i := 81) (by decide +kernel) (by decide +kernel)⟩
theorem f_10_97 : FLg 10 97 3 14 := ⟨_, _, _, rfl, by decide, inX3, tblG_in (i := 86) (by decide +kernel) (by decide +kernel)⟩
theorem k_10_100 : MLk 10 100 mX10_addMark 1 3 := ⟨okX10_addMark, Or.inl (tblG_in (i := 797) (by decide +kernel) (by decide +kernel)), Or.inr (Or.inl ⟨rfl, tblG_in (i := 799) (by decide +kernel) (by decide +kernel), tblG_sel (i := 8) (by decide +kernel) (by decide +kernel), rfl⟩)⟩
theorem l_10_100 : Cond.methodLink (cn 10) 100 (my mX10_addMark) ∈ tblG := tblG_in (i := 797) (by decide +kernel) (by decide +kernel)
theorem k_10_104 : MLk 10 104 mX11_isIn 0 2 := ⟨okX11_isIn, Or.inr ⟨exL_in (i := 790) (by decide +kernel) rfl, rfl⟩, Or.inl ⟨rfl, tblG_in (i := 791) (by decide +kernel) (by decide +kernel)⟩⟩
theorem k_10_108 : MLk 10 108 mX10_addWay 1 1 := ⟨okX10_addWay, Or.inl (tblG_in (i := 793) (by decide +kernel) (by decide +kernel)), Or.inr (Or.inl ⟨rfl, tblG_in (i := 795) (by decide +kernel) (by decide +kernel), tblG_sel (i := 7) (by decide +kernel) (by decide +kernel), rfl⟩)⟩
theorem l_10_108 : Cond.methodLink (cn 10) 108 (my mX10_addWay) ∈ tblG := tblG_in (i := 793) (by decide +kernel) (by decide +kernel)
-- 10 112 -> <java/lang/Math|min|(II)I>
-- 10 118 -> <java/lang/Math|max|(II)I>
theorem f_10_121 : FLg 10 121 3 8 := ⟨_, _, _, rfl, by decide, inX3, tblG_in (i := 71) (by decide +kernel) (by decide +kernel)⟩
theorem f_10_124 : FLg 10 124 3 4 := ⟨_, _, _, rfl, by decide, inX3, tblG_in (i := 59) (by decide +kernel) (by decide +kernel)⟩
theorem k_10_127 : MLk 10 127 mX10_placesWith 1 1 := ⟨okX10_placesWith, Or.inl (tblG_in (i := 1191) (by decide +kernel) (by decide +kernel)), Or.inr (Or.inl ⟨rfl, tblG_in (i := 1176) (by decide +kernel) (by decide +kernel), tblG_in (i := 1177) (by decide +kernel) (by decide +kernel), rfl⟩)⟩
theorem l_10_127 : Cond.methodLink (cn 10) 127 (my mX10_placesWith) ∈ tblG := tblG_in (i := 1191) (by decide +kernel) (by decide +kernel)
theorem f_10_131 : FLg 10 131 3 0 := ⟨_, _, _, rfl, by decide, inX3, tblG_in (i := 49) (by decide +kernel) (by decide +kernel)⟩
-- 10 134 -> <java/util/Arrays|fill|([JIIJ)V>
theorem f_10_137 : FLg 10 137 3 9 := ⟨_, _, _, rfl, by decide, inX3, tblG_in (i := 74) (by decide +kernel) (by decide +kernel)⟩
theorem f_10_140 : FLg 10 140 3 10 := ⟨_, _, _, rfl, by decide, inX3, tblG_in (i := 76) (by decide +kernel) (by decide +kernel)⟩
-- 10 143 -> <java/lang/Long|bitCount|(J)I>
-- 10 149 -> <java/lang/Math|abs|(J)J>
theorem f_10_155 : FLg 10 155 6 0 := ⟨_, _, _, rfl, by decide, inX6, tblG_in (i := 289) (by decide +kernel) (by decide +kernel)⟩
theorem k_10_158 : MLk 10 158 mX11_lowest 0 1 := ⟨okX11_lowest, Or.inr ⟨exL_in (i := 1453) (by decide +kernel) rfl, rfl⟩, Or.inl ⟨rfl, tblG_in (i := 1357) (by decide +kernel) (by decide +kernel)⟩⟩
theorem k_10_161 : MLk 10 161 mX6_stateOf 0 2 := ⟨okX6_stateOf, Or.inl (tblG_in (i := 1454) (by decide +kernel) (by decide +kernel)), Or.inl ⟨rfl, tblG_in (i := 1360) (by decide +kernel) (by decide +kernel)⟩⟩
theorem l_10_161 : Cond.methodLink (cn 10) 161 (my mX6_stateOf) ∈ tblG := tblG_in (i := 1454) (by decide +kernel) (by decide +kernel)
-- 11 3 -> <java/lang/Object|<init>|()V>
theorem n_11_9 : CLn 11 9 3 [.int 0, .null, .null, .int 0, .null, .null, .null, .null, .null, .null, .null, .int 0, .null, .null, .null, .null, .null] := ⟨_, _, _, tyX3, rfl, inX3, tyX3_ok, tblG_in (i := 42) (by decide +kernel) (by decide +kernel), tblG_in (i := 43) (by decide +kernel) (by decide +kernel), iniG3, by decide +kernel, rfl⟩
theorem a_11_9 : Cond.classLink (cn 11) 9 "BurntOak$Land" ∈ tblG ∧ Cond.arrayOver (.object "BurntOak$Land") ∈ exL := ⟨tblG_in (i := 42) (by decide +kernel) (by decide +kernel), exL_in (i := 505) (by decide +kernel) rfl⟩
theorem k_11_11 : MLk 11 11 mX3_init 2 0 := ⟨okX3_init, Or.inr ⟨exL_in (i := 44) (by decide +kernel) rfl, rfl⟩, Or.inr (Or.inr ⟨rfl, rfl, tblG_in (i := 45) (by decide +kernel) (by decide +kernel), rfl, rfl⟩)⟩
theorem f_11_12 : FLg 11 12 11 0 := ⟨_, _, _, rfl, by decide, inX11, tblG_in (i := 531) (by decide +kernel) (by decide +kernel)⟩
theorem p_11_12 : FLp 11 12 11 0 true (tyX11 0) := ⟨_, _, _, tyX11, rfl, by decide, inX11, tblG_in (i := 531) (by decide +kernel) (by decide +kernel), tyX11_ok, nmX11, rfl, tyX11_ok 0 (by decide), fun _ => rfl⟩
theorem n_11_16 : CLn 11 16 2 [.int 0, .null, .int 0, .null, .null, .null, .null, .null] := ⟨_, _, _, tyX2, rfl, inX2, tyX2_ok, tblG_in (i := 130) (by decide +kernel) (by decide +kernel), tblG_in (i := 131) (by decide +kernel) (by decide +kernel), iniG2, by decide +kernel, rfl⟩
theorem a_11_16 : Cond.classLink (cn 11) 16 "BurntOak$Folk" ∈ tblG ∧ Cond.arrayOver (.object "BurntOak$Folk") ∈ exL := ⟨tblG_in (i := 130) (by decide +kernel) (by decide +kernel), exL_in (i := 506) (by decide +kernel) rfl⟩
theorem k_11_18 : MLk 11 18 mX2_init 2 0 := ⟨okX2_init, Or.inr ⟨exL_in (i := 132) (by decide +kernel) rfl, rfl⟩, Or.inr (Or.inr ⟨rfl, rfl, tblG_in (i := 133) (by decide +kernel) (by decide +kernel), rfl, rfl⟩)⟩
theorem f_11_19 : FLg 11 19 11 1 := ⟨_, _, _, rfl, by decide, inX11, tblG_in (i := 532) (by decide +kernel) (by decide +kernel)⟩
theorem p_11_19 : FLp 11 19 11 1 true (tyX11 1) := ⟨_, _, _, tyX11, rfl, by decide, inX11, tblG_in (i := 532) (by decide +kernel) (by decide +kernel), tyX11_ok, nmX11, rfl, tyX11_ok 1 (by decide), fun _ => rfl⟩
theorem n_11_23 : CLn 11 23 0 [.int 0, .null, .null, .null, .null, .int 0, .null, .null, .null, .null, .null] := ⟨_, _, _, tyX0, rfl, inX0, tyX0_ok, tblG_in (i := 168) (by decide +kernel) (by decide +kernel), tblG_in (i := 169) (by decide +kernel) (by decide +kernel), iniG0, by decide +kernel, rfl⟩
theorem a_11_23 : Cond.classLink (cn 11) 23 "BurntOak$Book" ∈ tblG ∧ Cond.arrayOver (.object "BurntOak$Book") ∈ exL := ⟨tblG_in (i := 168) (by decide +kernel) (by decide +kernel), exL_in (i := 507) (by decide +kernel) rfl⟩
theorem k_11_25 : MLk 11 25 mX0_init 2 0 := ⟨okX0_init, Or.inr ⟨exL_in (i := 170) (by decide +kernel) rfl, rfl⟩, Or.inr (Or.inr ⟨rfl, rfl, tblG_in (i := 171) (by decide +kernel) (by decide +kernel), rfl, rfl⟩)⟩
theorem f_11_26 : FLg 11 26 11 2 := ⟨_, _, _, rfl, by decide, inX11, tblG_in (i := 533) (by decide +kernel) (by decide +kernel)⟩
theorem p_11_26 : FLp 11 26 11 2 true (tyX11 2) := ⟨_, _, _, tyX11, rfl, by decide, inX11, tblG_in (i := 533) (by decide +kernel) (by decide +kernel), tyX11_ok, nmX11, rfl, tyX11_ok 2 (by decide), fun _ => rfl⟩
theorem n_11_30 : CLn 11 30 10 [.null, .int 0, .int 0, .int 0, .long 0, .null, .null, .null, .null, .null, .null, .null] := ⟨_, _, _, tyX10, rfl, inX10, tyX10_ok, tblG_in (i := 222) (by decide +kernel) (by decide +kernel), tblG_in (i := 223) (by decide +kernel) (by decide +kernel), iniG10, by decide +kernel, rfl⟩
theorem k_11_32 : MLk 11 32 mX10_init 2 1 := ⟨okX10_init, Or.inl (tblG_in (i := 224) (by decide +kernel) (by decide +kernel)), Or.inr (Or.inr ⟨rfl, rfl, tblG_in (i := 225) (by decide +kernel) (by decide +kernel), rfl, rfl⟩)⟩
theorem l_11_32 : Cond.methodLink (cn 11) 32 (my mX10_init) ∈ tblG := tblG_in (i := 224) (by decide +kernel) (by decide +kernel)
theorem f_11_35 : FLg 11 35 11 3 := ⟨_, _, _, rfl, by decide, inX11, tblG_in (i := 534) (by decide +kernel) (by decide +kernel)⟩
theorem p_11_35 : FLp 11 35 11 3 true (tyX11 3) := ⟨_, _, _, tyX11, rfl, by decide, inX11, tblG_in (i := 534) (by decide +kernel) (by decide +kernel), tyX11_ok, nmX11, rfl, tyX11_ok 3 (by decide), fun _ => rfl⟩
theorem n_11_39 : CLn 11 39 9 [.null, .null, .null, .null, .null, .null, .int 0, .null, .null, .null] := ⟨_, _, _, tyX9, rfl, inX9, tyX9_ok, tblG_in (i := 276) (by decide +kernel) (by decide +kernel), tblG_in (i := 277) (by decide +kernel) (by decide +kernel), iniG9, by decide +kernel, rfl⟩
theorem k_11_41 : MLk 11 41 mX9_init 2 3 := ⟨okX9_init, Or.inl (tblG_in (i := 278) (by decide +kernel) (by decide +kernel)), Or.inr (Or.inr ⟨rfl, rfl, tblG_in (i := 279) (by decide +kernel) (by decide +kernel), rfl, rfl⟩)⟩
theorem l_11_41 : Cond.methodLink (cn 11) 41 (my mX9_init) ∈ tblG := tblG_in (i := 278) (by decide +kernel) (by decide +kernel)
theorem f_11_44 : FLg 11 44 11 4 := ⟨_, _, _, rfl, by decide, inX11, tblG_in (i := 535) (by decide +kernel) (by decide +kernel)⟩
theorem p_11_44 : FLp 11 44 11 4 true (tyX11 4) := ⟨_, _, _, tyX11, rfl, by decide, inX11, tblG_in (i := 535) (by decide +kernel) (by decide +kernel), tyX11_ok, nmX11, rfl, tyX11_ok 4 (by decide), fun _ => rfl⟩
theorem n_11_48 : CLn 11 48 4 [.null, .null, .null, .null, .null, .null, .null, .null] := ⟨_, _, _, tyX4, rfl, inX4, tyX4_ok, tblG_in (i := 371) (by decide +kernel) (by decide +kernel), tblG_in (i := 372) (by decide +kernel) (by decide +kernel), iniG4, by decide +kernel, rfl⟩
theorem k_11_50 : MLk 11 50 mX4_init 2 1 := ⟨okX4_init, Or.inl (tblG_in (i := 373) (by decide +kernel) (by decide +kernel)), Or.inr (Or.inr ⟨rfl, rfl, tblG_in (i := 374) (by decide +kernel) (by decide +kernel), rfl, rfl⟩)⟩
theorem l_11_50 : Cond.methodLink (cn 11) 50 (my mX4_init) ∈ tblG := tblG_in (i := 373) (by decide +kernel) (by decide +kernel)
theorem f_11_53 : FLg 11 53 11 5 := ⟨_, _, _, rfl, by decide, inX11, tblG_in (i := 536) (by decide +kernel) (by decide +kernel)⟩
theorem p_11_53 : FLp 11 53 11 5 true (tyX11 5) := ⟨_, _, _, tyX11, rfl, by decide, inX11, tblG_in (i := 536) (by decide +kernel) (by decide +kernel), tyX11_ok, nmX11, rfl, tyX11_ok 5 (by decide), fun _ => rfl⟩
theorem n_11_57 : CLn 11 57 1 [.null, .int 0, .long 0, .null, .null, .null, .null, .null, .null, .null, .null] := ⟨_, _, _, tyX1, rfl, inX1, tyX1_ok, tblG_in (i := 404) (by decide +kernel) (by decide +kernel), tblG_in (i := 405) (by decide +kernel) (by decide +kernel), iniG1, by decide +kernel, rfl⟩
theorem k_11_59 : MLk 11 59 mX1_init 2 1 := ⟨okX1_init, Or.inl (tblG_in (i := 406) (by decide +kernel) (by decide +kernel)), Or.inr (Or.inr ⟨rfl, rfl, tblG_in (i := 407) (by decide +kernel) (by decide +kernel), rfl, rfl⟩)⟩
theorem l_11_59 : Cond.methodLink (cn 11) 59 (my mX1_init) ∈ tblG := tblG_in (i := 406) (by decide +kernel) (by decide +kernel)
theorem f_11_60 : FLg 11 60 11 6 := ⟨_, _, _, rfl, by decide, inX11, tblG_in (i := 537) (by decide +kernel) (by decide +kernel)⟩
theorem p_11_60 : FLp 11 60 11 6 true (tyX11 6) := ⟨_, _, _, tyX11, rfl, by decide, inX11, tblG_in (i := 537) (by decide +kernel) (by decide +kernel), tyX11_ok, nmX11, rfl, tyX11_ok 6 (by decide), fun _ => rfl⟩
theorem n_11_64 : CLn 11 64 5 [.null, .int 0, .int 0, .int 0, .null, .int 0, .int 0, .int 0, .int 0, .int 0, .int 0, .int 0, .int 0, .int 0] := ⟨_, _, _, tyX5, rfl, inX5, tyX5_ok, tblG_in (i := 448) (by decide +kernel) (by decide +kernel), tblG_in (i := 449) (by decide +kernel) (by decide +kernel), iniG5, by decide +kernel, rfl⟩
theorem k_11_66 : MLk 11 66 mX5_init 2 0 := ⟨okX5_init, Or.inr ⟨exL_in (i := 450) (by decide +kernel) rfl, rfl⟩, Or.inr (Or.inr ⟨rfl, rfl, tblG_in (i := 451) (by decide +kernel) (by decide +kernel), rfl, rfl⟩)⟩
theorem f_11_67 : FLg 11 67 11 7 := ⟨_, _, _, rfl, by decide, inX11, tblG_in (i := 538) (by decide +kernel) (by decide +kernel)⟩
theorem p_11_67 : FLp 11 67 11 7 true (tyX11 7) := ⟨_, _, _, tyX11, rfl, by decide, inX11, tblG_in (i := 538) (by decide +kernel) (by decide +kernel), tyX11_ok, nmX11, rfl, tyX11_ok 7 (by decide), fun _ => rfl⟩
theorem n_11_71 : CLn 11 71 8 [.int 0, .int 0, .int 0, .null] := ⟨_, _, _, tyX8, rfl, inX8, tyX8_ok, tblG_in (i := 503) (by decide +kernel) (by decide +kernel), tblG_in (i := 508) (by decide +kernel) (by decide +kernel), iniG8, by decide +kernel, rfl⟩
theorem a_11_71 : Cond.classLink (cn 11) 71 "BurntOak$Tray" ∈ tblG ∧ Cond.arrayOver (.object "BurntOak$Tray") ∈ exL := ⟨tblG_in (i := 503) (by decide +kernel) (by decide +kernel), exL_in (i := 504) (by decide +kernel) rfl⟩
theorem f_11_73 : FLg 11 73 11 8 := ⟨_, _, _, rfl, by decide, inX11, tblG_in (i := 539) (by decide +kernel) (by decide +kernel)⟩
theorem p_11_73 : FLp 11 73 11 8 true (tyX11 8) := ⟨_, _, _, tyX11, rfl, by decide, inX11, tblG_in (i := 539) (by decide +kernel) (by decide +kernel), tyX11_ok, nmX11, rfl, tyX11_ok 8 (by decide), fun _ => rfl⟩
theorem f_11_77 : FLg 11 77 11 9 := ⟨_, _, _, rfl, by decide, inX11, tblG_in (i := 540) (by decide +kernel) (by decide +kernel)⟩
theorem p_11_77 : FLp 11 77 11 9 true (tyX11 9) := ⟨_, _, _, tyX11, rfl, by decide, inX11, tblG_in (i := 540) (by decide +kernel) (by decide +kernel), tyX11_ok, nmX11, rfl, tyX11_ok 9 (by decide), fun _ => rfl⟩
theorem f_11_81 : FLg 11 81 11 10 := ⟨_, _, _, rfl, by decide, inX11, tblG_in (i := 541) (by decide +kernel) (by decide +kernel)⟩
theorem p_11_81 : FLp 11 81 11 10 true (tyX11 10) := ⟨_, _, _, tyX11, rfl, by decide, inX11, tblG_in (i := 541) (by decide +kernel) (by decide +kernel), tyX11_ok, nmX11, rfl, tyX11_ok 10 (by decide), fun _ => rfl⟩
theorem f_11_85 : FLg 11 85 11 11 := ⟨_, _, _, rfl, by decide, inX11, tblG_in (i := 542) (by decide +kernel) (by decide +kernel)⟩
theorem p_11_85 : FLp 11 85 11 11 true (tyX11 11) := ⟨_, _, _, tyX11, rfl, by decide, inX11, tblG_in (i := 542) (by decide +kernel) (by decide +kernel), tyX11_ok, nmX11, rfl, tyX11_ok 11 (by decide), fun _ => rfl⟩
theorem k_11_89 : MLk 11 89 mX8_init 2 0 := ⟨okX8_init, Or.inr ⟨exL_in (i := 509) (by decide +kernel) rfl, rfl⟩, Or.inr (Or.inr ⟨rfl, rfl, tblG_in (i := 510) (by decide +kernel) (by decide +kernel), rfl, rfl⟩)⟩
theorem k_11_90 : MLk 11 90 mX3_isTaken 1 2 := ⟨okX3_isTaken, Or.inl (tblG_in (i := 608) (by decide +kernel) (by decide +kernel)), Or.inr (Or.inl ⟨rfl, tblG_in (i := 609) (by decide +kernel) (by decide +kernel), tblG_in (i := 610) (by decide +kernel) (by decide +kernel), rfl⟩)⟩
theorem l_11_90 : Cond.methodLink (cn 11) 90 (my mX3_isTaken) ∈ tblG := tblG_in (i := 608) (by decide +kernel) (by decide +kernel)
-- 11 96 -> <java/lang/IllegalArgumentException|<init>|()V>
theorem k_11_97 : MLk 11 97 mX3_addPlace 1 2 := ⟨okX3_addPlace, Or.inl (tblG_in (i := 678) (by decide +kernel) (by decide +kernel)), Or.inr (Or.inl ⟨rfl, tblG_in (i := 679) (by decide +kernel) (by decide +kernel), tblG_in (i := 680) (by decide +kernel) (by decide +kernel), rfl⟩)⟩
theorem l_11_97 : Cond.methodLink (cn 11) 97 (my mX3_addPlace) ∈ tblG := tblG_in (i := 678) (by decide +kernel) (by decide +kernel)
theorem k_11_101 : MLk 11 101 mX11_needPlace 1 1 := ⟨okX11_needPlace, Or.inl (tblG_in (i := 690) (by decide +kernel) (by decide +kernel)), Or.inr (Or.inl ⟨rfl, tblG_in (i := 692) (by decide +kernel) (by decide +kernel), tblG_sel (i := 1) (by decide +kernel) (by decide +kernel), rfl⟩)⟩
theorem l_11_101 : Cond.methodLink (cn 11) 101 (my mX11_needPlace) ∈ tblG := tblG_in (i := 690) (by decide +kernel) (by decide +kernel)
theorem k_11_105 : MLk 11 105 mX11_needYears 1 2 := ⟨okX11_needYears, Or.inl (tblG_in (i := 709) (by decide +kernel) (by decide +kernel)), Or.inr (Or.inl ⟨rfl, tblG_in (i := 711) (by decide +kernel) (by decide +kernel), tblG_sel (i := 2) (by decide +kernel) (by decide +kernel), rfl⟩)⟩
theorem l_11_105 : Cond.methodLink (cn 11) 105 (my mX11_needYears) ∈ tblG := tblG_in (i := 709) (by decide +kernel) (by decide +kernel)
theorem k_11_109 : MLk 11 109 mX3_isJoined 1 4 := ⟨okX3_isJoined, Or.inl (tblG_in (i := 713) (by decide +kernel) (by decide +kernel)), Or.inr (Or.inl ⟨rfl, tblG_in (i := 714) (by decide +kernel) (by decide +kernel), tblG_in (i := 715) (by decide +kernel) (by decide +kernel), rfl⟩)⟩
theorem l_11_109 : Cond.methodLink (cn 11) 109 (my mX3_isJoined) ∈ tblG := tblG_in (i := 713) (by decide +kernel) (by decide +kernel)
theorem k_11_113 : MLk 11 113 mX10_forget 1 0 := ⟨okX10_forget, Or.inl (tblG_in (i := 717) (by decide +kernel) (by decide +kernel)), Or.inr (Or.inl ⟨rfl, tblG_in (i := 718) (by decide +kernel) (by decide +kernel), tblG_in (i := 719) (by decide +kernel) (by decide +kernel), rfl⟩)⟩
theorem l_11_113 : Cond.methodLink (cn 11) 113 (my mX10_forget) ∈ tblG := tblG_in (i := 717) (by decide +kernel) (by decide +kernel)
theorem k_11_116 : MLk 11 116 mX3_addWay 1 6 := ⟨okX3_addWay, Or.inl (tblG_in (i := 721) (by decide +kernel) (by decide +kernel)), Or.inr (Or.inl ⟨rfl, tblG_in (i := 722) (by decide +kernel) (by decide +kernel), tblG_in (i := 723) (by decide +kernel) (by decide +kernel), rfl⟩)⟩
theorem l_11_116 : Cond.methodLink (cn 11) 116 (my mX3_addWay) ∈ tblG := tblG_in (i := 721) (by decide +kernel) (by decide +kernel)
theorem k_11_120 : MLk 11 120 mX3_addMark 1 5 := ⟨okX3_addMark, Or.inl (tblG_in (i := 732) (by decide +kernel) (by decide +kernel)), Or.inr (Or.inl ⟨rfl, tblG_in (i := 733) (by decide +kernel) (by decide +kernel), tblG_in (i := 734) (by decide +kernel) (by decide +kernel), rfl⟩)⟩
theorem l_11_120 : Cond.methodLink (cn 11) 120 (my mX3_addMark) ∈ tblG := tblG_in (i := 732) (by decide +kernel) (by decide +kernel)
theorem f_11_124 : FLg 11 124 3 3 := ⟨_, _, _, rfl, by decide, inX3, tblG_in (i := 56) (by decide +kernel) (by decide +kernel)⟩
theorem f_11_128 : FLg 11 128 3 11 := ⟨_, _, _, rfl, by decide, inX3, tblG_in (i := 78) (by decide +kernel) (by decide +kernel)⟩
-- 11 133 -> <java/util/NoSuchElementException|<init>|()V>
theorem f_11_134 : FLg 11 134 3 6 := ⟨_, _, _, rfl, by decide, inX3, tblG_in (i := 64) (by decide +kernel) (by decide +kernel)⟩
theorem f_11_138 : FLg 11 138 3 15 := ⟨_, _, _, rfl, by decide, inX3, tblG_in (i := 89) (by decide +kernel) (by decide +kernel)⟩
theorem f_11_141 : FLg 11 141 3 7 := ⟨_, _, _, rfl, by decide, inX3, tblG_in (i := 67) (by decide +kernel) (by decide +kernel)⟩
theorem f_11_144 : FLg 11 144 3 16 := ⟨_, _, _, rfl, by decide, inX3, tblG_in (i := 92) (by decide +kernel) (by decide +kernel)⟩
theorem k_11_147 : MLk 11 147 mX11_needState 1 1 := ⟨okX11_needState, Or.inl (tblG_in (i := 750) (by decide +kernel) (by decide +kernel)), Or.inr (Or.inl ⟨rfl, tblG_in (i := 752) (by decide +kernel) (by decide +kernel), tblG_sel (i := 3) (by decide +kernel) (by decide +kernel), rfl⟩)⟩
theorem l_11_147 : Cond.methodLink (cn 11) 147 (my mX11_needState) ∈ tblG := tblG_in (i := 750) (by decide +kernel) (by decide +kernel)
theorem f_11_150 : FLg 11 150 3 8 := ⟨_, _, _, rfl, by decide, inX3, tblG_in (i := 70) (by decide +kernel) (by decide +kernel)⟩
theorem k_11_153 : MLk 11 153 mX11_needYear 1 1 := ⟨okX11_needYear, Or.inl (tblG_in (i := 761) (by decide +kernel) (by decide +kernel)), Or.inr (Or.inl ⟨rfl, tblG_in (i := 763) (by decide +kernel) (by decide +kernel), tblG_sel (i := 4) (by decide +kernel) (by decide +kernel), rfl⟩)⟩
theorem l_11_153 : Cond.methodLink (cn 11) 153 (my mX11_needYear) ∈ tblG := tblG_in (i := 761) (by decide +kernel) (by decide +kernel)
theorem k_11_156 : MLk 11 156 mX10_prepare 1 1 := ⟨okX10_prepare, Or.inl (tblG_in (i := 765) (by decide +kernel) (by decide +kernel)), Or.inr (Or.inl ⟨rfl, tblG_in (i := 766) (by decide +kernel) (by decide +kernel), tblG_in (i := 767) (by decide +kernel) (by decide +kernel), rfl⟩)⟩
theorem l_11_156 : Cond.methodLink (cn 11) 156 (my mX10_prepare) ∈ tblG := tblG_in (i := 765) (by decide +kernel) (by decide +kernel)
theorem k_11_159 : MLk 11 159 mX10_look 1 1 := ⟨okX10_look, Or.inl (tblG_in (i := 801) (by decide +kernel) (by decide +kernel)), Or.inr (Or.inl ⟨rfl, tblG_in (i := 802) (by decide +kernel) (by decide +kernel), tblG_in (i := 803) (by decide +kernel) (by decide +kernel), rfl⟩)⟩
theorem l_11_159 : Cond.methodLink (cn 11) 159 (my mX10_look) ∈ tblG := tblG_in (i := 801) (by decide +kernel) (by decide +kernel)
theorem f_11_163 : FLg 11 163 10 11 := ⟨_, _, _, rfl, by decide, inX10, tblG_in (i := 248) (by decide +kernel) (by decide +kernel)⟩
-- 11 167 -> <java/lang/Long|bitCount|(J)I>
theorem f_11_173 : FLg 11 173 9 7 := ⟨_, _, _, rfl, by decide, inX9, tblG_in (i := 347) (by decide +kernel) (by decide +kernel)⟩
theorem k_11_177 : MLk 11 177 mX6_clear 1 0 := ⟨okX6_clear, Or.inl (tblG_in (i := 1103) (by decide +kernel) (by decide +kernel)), Or.inr (Or.inl ⟨rfl, tblG_in (i := 1104) (by decide +kernel) (by decide +kernel), tblG_in (i := 1105) (by decide +kernel) (by decide +kernel), rfl⟩)⟩
theorem l_11_177 : Cond.methodLink (cn 11) 177 (my mX6_clear) ∈ tblG := tblG_in (i := 1103) (by decide +kernel) (by decide +kernel)
theorem k_11_182 : MLk 11 182 mX6_addArrows 1 2 := ⟨okX6_addArrows, Or.inl (tblG_in (i := 1108) (by decide +kernel) (by decide +kernel)), Or.inr (Or.inl ⟨rfl, tblG_in (i := 1109) (by decide +kernel) (by decide +kernel), tblG_in (i := 1110) (by decide +kernel) (by decide +kernel), rfl⟩)⟩
theorem l_11_182 : Cond.methodLink (cn 11) 182 (my mX6_addArrows) ∈ tblG := tblG_in (i := 1108) (by decide +kernel) (by decide +kernel)
theorem k_11_186 : MLk 11 186 mX6_size 1 0 := ⟨okX6_size, Or.inl (tblG_in (i := 1112) (by decide +kernel) (by decide +kernel)), Or.inr (Or.inl ⟨rfl, tblG_in (i := 1113) (by decide +kernel) (by decide +kernel), tblG_in (i := 1114) (by decide +kernel) (by decide +kernel), rfl⟩)⟩
theorem l_11_186 : Cond.methodLink (cn 11) 186 (my mX6_size) ∈ tblG := tblG_in (i := 1112) (by decide +kernel) (by decide +kernel)
theorem k_11_190 : MLk 11 190 mX6_nth 1 1 := ⟨okX6_nth, Or.inl (tblG_in (i := 1117) (by decide +kernel) (by decide +kernel)), Or.inr (Or.inl ⟨rfl, tblG_in (i := 1118) (by decide +kernel) (by decide +kernel), tblG_in (i := 1119) (by decide +kernel) (by decide +kernel), rfl⟩)⟩
theorem l_11_190 : Cond.methodLink (cn 11) 190 (my mX6_nth) ∈ tblG := tblG_in (i := 1117) (by decide +kernel) (by decide +kernel)
theorem k_11_193 : MLk 11 193 mX2_addTongue 1 0 := ⟨okX2_addTongue, Or.inl (tblG_in (i := 572) (by decide +kernel) (by decide +kernel)), Or.inr (Or.inl ⟨rfl, tblG_in (i := 573) (by decide +kernel) (by decide +kernel), tblG_in (i := 574) (by decide +kernel) (by decide +kernel), rfl⟩)⟩
theorem l_11_193 : Cond.methodLink (cn 11) 193 (my mX2_addTongue) ∈ tblG := tblG_in (i := 572) (by decide +kernel) (by decide +kernel)
theorem k_11_196 : MLk 11 196 mX11_needTongue 1 1 := ⟨okX11_needTongue, Or.inl (tblG_in (i := 1129) (by decide +kernel) (by decide +kernel)), Or.inr (Or.inl ⟨rfl, tblG_in (i := 1131) (by decide +kernel) (by decide +kernel), tblG_sel (i := 9) (by decide +kernel) (by decide +kernel), rfl⟩)⟩
theorem l_11_196 : Cond.methodLink (cn 11) 196 (my mX11_needTongue) ∈ tblG := tblG_in (i := 1129) (by decide +kernel) (by decide +kernel)
theorem k_11_199 : MLk 11 199 mX11_needName 1 1 := ⟨okX11_needName, Or.inl (tblG_in (i := 1133) (by decide +kernel) (by decide +kernel)), Or.inr (Or.inl ⟨rfl, tblG_in (i := 1135) (by decide +kernel) (by decide +kernel), tblG_sel (i := 10) (by decide +kernel) (by decide +kernel), rfl⟩)⟩
theorem l_11_199 : Cond.methodLink (cn 11) 199 (my mX11_needName) ∈ tblG := tblG_in (i := 1133) (by decide +kernel) (by decide +kernel)
theorem k_11_202 : MLk 11 202 mX11_needKinds 1 1 := ⟨okX11_needKinds, Or.inl (tblG_in (i := 1137) (by decide +kernel) (by decide +kernel)), Or.inr (Or.inl ⟨rfl, tblG_in (i := 1139) (by decide +kernel) (by decide +kernel), tblG_sel (i := 11) (by decide +kernel) (by decide +kernel), rfl⟩)⟩
theorem l_11_202 : Cond.methodLink (cn 11) 202 (my mX11_needKinds) ∈ tblG := tblG_in (i := 1137) (by decide +kernel) (by decide +kernel)
theorem f_11_205 : FLg 11 205 2 1 := ⟨_, _, _, rfl, by decide, inX2, tblG_in (i := 139) (by decide +kernel) (by decide +kernel)⟩
theorem k_11_208 : MLk 11 208 mX2_addWalker 1 5 := ⟨okX2_addWalker, Or.inl (tblG_in (i := 1148) (by decide +kernel) (by decide +kernel)), Or.inr (Or.inl ⟨rfl, tblG_in (i := 1149) (by decide +kernel) (by decide +kernel), tblG_in (i := 1150) (by decide +kernel) (by decide +kernel), rfl⟩)⟩
theorem l_11_208 : Cond.methodLink (cn 11) 208 (my mX2_addWalker) ∈ tblG := tblG_in (i := 1148) (by decide +kernel) (by decide +kernel)
theorem k_11_212 : MLk 11 212 mX11_needWalker 1 1 := ⟨okX11_needWalker, Or.inl (tblG_in (i := 1159) (by decide +kernel) (by decide +kernel)), Or.inr (Or.inl ⟨rfl, tblG_in (i := 1161) (by decide +kernel) (by decide +kernel), tblG_sel (i := 12) (by decide +kernel) (by decide +kernel), rfl⟩)⟩
theorem l_11_212 : Cond.methodLink (cn 11) 212 (my mX11_needWalker) ∈ tblG := tblG_in (i := 1159) (by decide +kernel) (by decide +kernel)
theorem k_11_215 : MLk 11 215 mX11_setOut 1 2 := ⟨okX11_setOut, Or.inl (tblG_in (i := 1163) (by decide +kernel) (by decide +kernel)), Or.inr (Or.inl ⟨rfl, tblG_in (i := 1165) (by decide +kernel) (by decide +kernel), tblG_sel (i := 13) (by decide +kernel) (by decide +kernel), rfl⟩)⟩
theorem l_11_215 : Cond.methodLink (cn 11) 215 (my mX11_setOut) ∈ tblG := tblG_in (i := 1163) (by decide +kernel) (by decide +kernel)
theorem k_11_218 : MLk 11 218 mX9_seenPlaces 1 1 := ⟨okX9_seenPlaces, Or.inl (tblG_in (i := 1183) (by decide +kernel) (by decide +kernel)), Or.inr (Or.inl ⟨rfl, tblG_in (i := 1184) (by decide +kernel) (by decide +kernel), tblG_in (i := 1185) (by decide +kernel) (by decide +kernel), rfl⟩)⟩
theorem l_11_218 : Cond.methodLink (cn 11) 218 (my mX9_seenPlaces) ∈ tblG := tblG_in (i := 1183) (by decide +kernel) (by decide +kernel)
theorem k_11_222 : MLk 11 222 mX9_placesWith 1 1 := ⟨okX9_placesWith, Or.inl (tblG_in (i := 1192) (by decide +kernel) (by decide +kernel)), Or.inr (Or.inl ⟨rfl, tblG_in (i := 1193) (by decide +kernel) (by decide +kernel), tblG_in (i := 1194) (by decide +kernel) (by decide +kernel), rfl⟩)⟩
theorem l_11_222 : Cond.methodLink (cn 11) 222 (my mX9_placesWith) ∈ tblG := tblG_in (i := 1192) (by decide +kernel) (by decide +kernel)
theorem k_11_225 : MLk 11 225 mX11_isIn 0 2 := ⟨okX11_isIn, Or.inl (tblG_in (i := 1196) (by decide +kernel) (by decide +kernel)), Or.inl ⟨rfl, tblG_in (i := 791) (by decide +kernel) (by decide +kernel)⟩⟩
theorem l_11_225 : Cond.methodLink (cn 11) 225 (my mX11_isIn) ∈ tblG := tblG_in (i := 1196) (by decide +kernel) (by decide +kernel)
theorem k_11_229 : MLk 11 229 mX11_needWalkers 1 1 := ⟨okX11_needWalkers, Or.inl (tblG_in (i := 1204) (by decide +kernel) (by decide +kernel)), Or.inr (Or.inl ⟨rfl, tblG_in (i := 1206) (by decide +kernel) (by decide +kernel), tblG_sel (i := 14) (by decide +kernel) (by decide +kernel), rfl⟩)⟩
theorem l_11_229 : Cond.methodLink (cn 11) 229 (my mX11_needWalkers) ∈ tblG := tblG_in (i := 1204) (by decide +kernel) (by decide +kernel)
theorem f_11_232 : FLg 11 232 3 13 := ⟨_, _, _, rfl, by decide, inX3, tblG_in (i := 84) (by decide +kernel) (by decide +kernel)⟩
theorem k_11_235 : MLk 11 235 mX2_howManyKnow 1 2 := ⟨okX2_howManyKnow, Or.inl (tblG_in (i := 1208) (by decide +kernel) (by decide +kernel)), Or.inr (Or.inl ⟨rfl, tblG_in (i := 1209) (by decide +kernel) (by decide +kernel), tblG_in (i := 1210) (by decide +kernel) (by decide +kernel), rfl⟩)⟩
theorem l_11_235 : Cond.methodLink (cn 11) 235 (my mX2_howManyKnow) ∈ tblG := tblG_in (i := 1208) (by decide +kernel) (by decide +kernel)
theorem k_11_238 : MLk 11 238 mX3_marksOf 1 2 := ⟨okX3_marksOf, Or.inl (tblG_in (i := 1214) (by decide +kernel) (by decide +kernel)), Or.inr (Or.inl ⟨rfl, tblG_in (i := 1215) (by decide +kernel) (by decide +kernel), tblG_in (i := 1216) (by decide +kernel) (by decide +kernel), rfl⟩)⟩
theorem l_11_238 : Cond.methodLink (cn 11) 238 (my mX3_marksOf) ∈ tblG := tblG_in (i := 1214) (by decide +kernel) (by decide +kernel)
theorem f_11_241 : FLg 11 241 5 1 := ⟨_, _, _, rfl, by decide, inX5, tblG_in (i := 456) (by decide +kernel) (by decide +kernel)⟩
theorem k_11_244 : MLk 11 244 mX5_put 1 1 := ⟨okX5_put, Or.inl (tblG_in (i := 580) (by decide +kernel) (by decide +kernel)), Or.inr (Or.inl ⟨rfl, tblG_in (i := 581) (by decide +kernel) (by decide +kernel), tblG_in (i := 582) (by decide +kernel) (by decide +kernel), rfl⟩)⟩
theorem l_11_244 : Cond.methodLink (cn 11) 244 (my mX5_put) ∈ tblG := tblG_in (i := 580) (by decide +kernel) (by decide +kernel)
theorem k_11_247 : MLk 11 247 mX11_needTeller 1 1 := ⟨okX11_needTeller, Or.inl (tblG_in (i := 1225) (by decide +kernel) (by decide +kernel)), Or.inr (Or.inl ⟨rfl, tblG_in (i := 1227) (by decide +kernel) (by decide +kernel), tblG_sel (i := 15) (by decide +kernel) (by decide +kernel), rfl⟩)⟩
theorem l_11_247 : Cond.methodLink (cn 11) 247 (my mX11_needTeller) ∈ tblG := tblG_in (i := 1225) (by decide +kernel) (by decide +kernel)
theorem f_11_250 : FLg 11 250 0 0 := ⟨_, _, _, rfl, by decide, inX0, tblG_in (i := 175) (by decide +kernel) (by decide +kernel)⟩
theorem k_11_253 : MLk 11 253 mX5_read 1 1 := ⟨okX5_read, Or.inl (tblG_in (i := 1229) (by decide +kernel) (by decide +kernel)), Or.inr (Or.inl ⟨rfl, tblG_in (i := 1230) (by decide +kernel) (by decide +kernel), tblG_in (i := 1231) (by decide +kernel) (by decide +kernel), rfl⟩)⟩
theorem l_11_253 : Cond.methodLink (cn 11) 253 (my mX5_read) ∈ tblG := tblG_in (i := 1229) (by decide +kernel) (by decide +kernel)
theorem f_11_256 : FLg 11 256 5 4 := ⟨_, _, _, rfl, by decide, inX5, tblG_in (i := 462) (by decide +kernel) (by decide +kernel)⟩
theorem f_11_259 : FLg 11 259 5 5 := ⟨_, _, _, rfl, by decide, inX5, tblG_in (i := 464) (by decide +kernel) (by decide +kernel)⟩
theorem k_11_262 : MLk 11 262 mX0_addTelling 1 4 := ⟨okX0_addTelling, Or.inl (tblG_in (i := 1316) (by decide +kernel) (by decide +kernel)), Or.inr (Or.inl ⟨rfl, tblG_in (i := 1317) (by decide +kernel) (by decide +kernel), tblG_in (i := 1318) (by decide +kernel) (by decide +kernel), rfl⟩)⟩
theorem l_11_262 : Cond.methodLink (cn 11) 262 (my mX0_addTelling) ∈ tblG := tblG_in (i := 1316) (by decide +kernel) (by decide +kernel)
theorem f_11_266 : FLg 11 266 5 2 := ⟨_, _, _, rfl, by decide, inX5, tblG_in (i := 458) (by decide +kernel) (by decide +kernel)⟩
theorem f_11_269 : FLg 11 269 5 3 := ⟨_, _, _, rfl, by decide, inX5, tblG_in (i := 460) (by decide +kernel) (by decide +kernel)⟩
theorem k_11_272 : MLk 11 272 mX11_needTelling 1 1 := ⟨okX11_needTelling, Or.inl (tblG_in (i := 1328) (by decide +kernel) (by decide +kernel)), Or.inr (Or.inl ⟨rfl, tblG_in (i := 1330) (by decide +kernel) (by decide +kernel), tblG_sel (i := 29) (by decide +kernel) (by decide +kernel), rfl⟩)⟩
theorem l_11_272 : Cond.methodLink (cn 11) 272 (my mX11_needTelling) ∈ tblG := tblG_in (i := 1328) (by decide +kernel) (by decide +kernel)
theorem f_11_275 : FLg 11 275 0 3 := ⟨_, _, _, rfl, by decide, inX0, tblG_in (i := 182) (by decide +kernel) (by decide +kernel)⟩
theorem k_11_278 : MLk 11 278 mX11_needTold 1 4 := ⟨okX11_needTold, Or.inl (tblG_in (i := 1339) (by decide +kernel) (by decide +kernel)), Or.inr (Or.inl ⟨rfl, tblG_in (i := 1341) (by decide +kernel) (by decide +kernel), tblG_sel (i := 30) (by decide +kernel) (by decide +kernel), rfl⟩)⟩
theorem l_11_278 : Cond.methodLink (cn 11) 278 (my mX11_needTold) ∈ tblG := tblG_in (i := 1339) (by decide +kernel) (by decide +kernel)
theorem k_11_282 : MLk 11 282 mX9_follow 1 3 := ⟨okX9_follow, Or.inl (tblG_in (i := 1343) (by decide +kernel) (by decide +kernel)), Or.inr (Or.inl ⟨rfl, tblG_in (i := 1344) (by decide +kernel) (by decide +kernel), tblG_in (i := 1345) (by decide +kernel) (by decide +kernel), rfl⟩)⟩
theorem l_11_282 : Cond.methodLink (cn 11) 282 (my mX9_follow) ∈ tblG := tblG_in (i := 1343) (by decide +kernel) (by decide +kernel)
theorem k_11_286 : MLk 11 286 mX9_lastPlaces 1 2 := ⟨okX9_lastPlaces, Or.inl (tblG_in (i := 1444) (by decide +kernel) (by decide +kernel)), Or.inr (Or.inl ⟨rfl, tblG_in (i := 1445) (by decide +kernel) (by decide +kernel), tblG_in (i := 1446) (by decide +kernel) (by decide +kernel), rfl⟩)⟩
theorem l_11_286 : Cond.methodLink (cn 11) 286 (my mX9_lastPlaces) ∈ tblG := tblG_in (i := 1444) (by decide +kernel) (by decide +kernel)
theorem k_11_290 : MLk 11 290 mX11_nthOf 0 2 := ⟨okX11_nthOf, Or.inl (tblG_in (i := 1455) (by decide +kernel) (by decide +kernel)), Or.inl ⟨rfl, tblG_in (i := 1456) (by decide +kernel) (by decide +kernel)⟩⟩
theorem l_11_290 : Cond.methodLink (cn 11) 290 (my mX11_nthOf) ∈ tblG := tblG_in (i := 1455) (by decide +kernel) (by decide +kernel)
theorem k_11_294 : MLk 11 294 mX9_getsThere 1 2 := ⟨okX9_getsThere, Or.inl (tblG_in (i := 1466) (by decide +kernel) (by decide +kernel)), Or.inr (Or.inl ⟨rfl, tblG_in (i := 1467) (by decide +kernel) (by decide +kernel), tblG_in (i := 1468) (by decide +kernel) (by decide +kernel), rfl⟩)⟩
theorem l_11_294 : Cond.methodLink (cn 11) 294 (my mX9_getsThere) ∈ tblG := tblG_in (i := 1466) (by decide +kernel) (by decide +kernel)
theorem k_11_297 : MLk 11 297 mX4_start 1 1 := ⟨okX4_start, Or.inl (tblG_in (i := 1477) (by decide +kernel) (by decide +kernel)), Or.inr (Or.inl ⟨rfl, tblG_in (i := 1478) (by decide +kernel) (by decide +kernel), tblG_in (i := 1479) (by decide +kernel) (by decide +kernel), rfl⟩)⟩
theorem l_11_297 : Cond.methodLink (cn 11) 297 (my mX4_start) ∈ tblG := tblG_in (i := 1477) (by decide +kernel) (by decide +kernel)
theorem k_11_300 : MLk 11 300 mX4_goOn 1 2 := ⟨okX4_goOn, Or.inl (tblG_in (i := 1483) (by decide +kernel) (by decide +kernel)), Or.inr (Or.inl ⟨rfl, tblG_in (i := 1484) (by decide +kernel) (by decide +kernel), tblG_in (i := 1485) (by decide +kernel) (by decide +kernel), rfl⟩)⟩
theorem l_11_300 : Cond.methodLink (cn 11) 300 (my mX4_goOn) ∈ tblG := tblG_in (i := 1483) (by decide +kernel) (by decide +kernel)
theorem k_11_303 : MLk 11 303 mX4_partsAt 1 1 := ⟨okX4_partsAt, Or.inl (tblG_in (i := 1494) (by decide +kernel) (by decide +kernel)), Or.inr (Or.inl ⟨rfl, tblG_in (i := 1495) (by decide +kernel) (by decide +kernel), tblG_in (i := 1496) (by decide +kernel) (by decide +kernel), rfl⟩)⟩
theorem l_11_303 : Cond.methodLink (cn 11) 303 (my mX4_partsAt) ∈ tblG := tblG_in (i := 1494) (by decide +kernel) (by decide +kernel)
theorem f_11_306 : FLg 11 306 0 1 := ⟨_, _, _, rfl, by decide, inX0, tblG_in (i := 178) (by decide +kernel) (by decide +kernel)⟩
theorem f_11_309 : FLg 11 309 10 4 := ⟨_, _, _, rfl, by decide, inX10, tblG_in (i := 238) (by decide +kernel) (by decide +kernel)⟩
theorem k_11_312 : MLk 11 312 mX10_isPreparedFor 1 1 := ⟨okX10_isPreparedFor, Or.inl (tblG_in (i := 1519) (by decide +kernel) (by decide +kernel)), Or.inr (Or.inl ⟨rfl, tblG_in (i := 770) (by decide +kernel) (by decide +kernel), tblG_in (i := 771) (by decide +kernel) (by decide +kernel), rfl⟩)⟩
theorem l_11_312 : Cond.methodLink (cn 11) 312 (my mX10_isPreparedFor) ∈ tblG := tblG_in (i := 1519) (by decide +kernel) (by decide +kernel)
theorem k_11_316 : MLk 11 316 mX4_meet 1 4 := ⟨okX4_meet, Or.inl (tblG_in (i := 1527) (by decide +kernel) (by decide +kernel)), Or.inr (Or.inl ⟨rfl, tblG_in (i := 1528) (by decide +kernel) (by decide +kernel), tblG_in (i := 1529) (by decide +kernel) (by decide +kernel), rfl⟩)⟩
theorem l_11_316 : Cond.methodLink (cn 11) 316 (my mX4_meet) ∈ tblG := tblG_in (i := 1527) (by decide +kernel) (by decide +kernel)
theorem g_11_320 : Cond.constant (cn 11) 320 (1000000) ∈ tblG := tblG_in (i := 1545) (by decide +kernel) (by decide +kernel)
theorem k_11_321 : MLk 11 321 mX11_lossBehind 1 5 := ⟨okX11_lossBehind, Or.inl (tblG_in (i := 1546) (by decide +kernel) (by decide +kernel)), Or.inr (Or.inl ⟨rfl, tblG_in (i := 1548) (by decide +kernel) (by decide +kernel), tblG_sel (i := 44) (by decide +kernel) (by decide +kernel), rfl⟩)⟩
theorem l_11_321 : Cond.methodLink (cn 11) 321 (my mX11_lossBehind) ∈ tblG := tblG_in (i := 1546) (by decide +kernel) (by decide +kernel)
theorem k_11_325 : MLk 11 325 mX9_become 1 1 := ⟨okX9_become, Or.inl (tblG_in (i := 1179) (by decide +kernel) (by decide +kernel)), Or.inr (Or.inl ⟨rfl, tblG_in (i := 1180) (by decide +kernel) (by decide +kernel), tblG_in (i := 1181) (by decide +kernel) (by decide +kernel), rfl⟩)⟩
theorem l_11_325 : Cond.methodLink (cn 11) 325 (my mX9_become) ∈ tblG := tblG_in (i := 1179) (by decide +kernel) (by decide +kernel)
theorem k_11_328 : MLk 11 328 mX6_isEmpty 1 0 := ⟨okX6_isEmpty, Or.inl (tblG_in (i := 1550) (by decide +kernel) (by decide +kernel)), Or.inr (Or.inl ⟨rfl, tblG_in (i := 1427) (by decide +kernel) (by decide +kernel), tblG_in (i := 1428) (by decide +kernel) (by decide +kernel), rfl⟩)⟩
theorem l_11_328 : Cond.methodLink (cn 11) 328 (my mX6_isEmpty) ∈ tblG := tblG_in (i := 1550) (by decide +kernel) (by decide +kernel)
theorem k_11_332 : MLk 11 332 mX4_spread 1 1 := ⟨okX4_spread, Or.inl (tblG_in (i := 1551) (by decide +kernel) (by decide +kernel)), Or.inr (Or.inl ⟨rfl, tblG_in (i := 1552) (by decide +kernel) (by decide +kernel), tblG_in (i := 1553) (by decide +kernel) (by decide +kernel), rfl⟩)⟩
theorem l_11_332 : Cond.methodLink (cn 11) 332 (my mX4_spread) ∈ tblG := tblG_in (i := 1551) (by decide +kernel) (by decide +kernel)
theorem f_11_336 : FLg 11 336 2 2 := ⟨_, _, _, rfl, by decide, inX2, tblG_in (i := 141) (by decide +kernel) (by decide +kernel)⟩
theorem k_11_339 : MLk 11 339 mX1_begin 1 3 := ⟨okX1_begin, Or.inl (tblG_in (i := 1562) (by decide +kernel) (by decide +kernel)), Or.inr (Or.inl ⟨rfl, tblG_in (i := 1563) (by decide +kernel) (by decide +kernel), tblG_in (i := 1564) (by decide +kernel) (by decide +kernel), rfl⟩)⟩
theorem l_11_339 : Cond.methodLink (cn 11) 339 (my mX1_begin) ∈ tblG := tblG_in (i := 1562) (by decide +kernel) (by decide +kernel)
theorem k_11_343 : MLk 11 343 mX1_search 1 2 := ⟨okX1_search, Or.inr ⟨exL_in (i := 1572) (by decide +kernel) rfl, rfl⟩, Or.inr (Or.inl ⟨rfl, tblG_in (i := 1574) (by decide +kernel) (by decide +kernel), tblG_sel (i := 45) (by decide +kernel) (by decide +kernel), rfl⟩)⟩
theorem f_11_346 : FLg 11 346 1 3 := ⟨_, _, _, rfl, by decide, inX1, tblG_in (i := 417) (by decide +kernel) (by decide +kernel)⟩
theorem k_11_349 : MLk 11 349 mX0_addRecord 1 5 := ⟨okX0_addRecord, Or.inl (tblG_in (i := 1613) (by decide +kernel) (by decide +kernel)), Or.inr (Or.inl ⟨rfl, tblG_in (i := 1614) (by decide +kernel) (by decide +kernel), tblG_in (i := 1615) (by decide +kernel) (by decide +kernel), rfl⟩)⟩
theorem l_11_349 : Cond.methodLink (cn 11) 349 (my mX0_addRecord) ∈ tblG := tblG_in (i := 1613) (by decide +kernel) (by decide +kernel)
theorem f_11_352 : FLg 11 352 0 5 := ⟨_, _, _, rfl, by decide, inX0, tblG_in (i := 188) (by decide +kernel) (by decide +kernel)⟩
theorem f_11_355 : FLg 11 355 0 6 := ⟨_, _, _, rfl, by decide, inX0, tblG_in (i := 190) (by decide +kernel) (by decide +kernel)⟩
theorem f_11_358 : FLg 11 358 0 9 := ⟨_, _, _, rfl, by decide, inX0, tblG_in (i := 196) (by decide +kernel) (by decide +kernel)⟩
theorem k_11_361 : MLk 11 361 mX11_kindsThatFit 1 3 := ⟨okX11_kindsThatFit, Or.inl (tblG_in (i := 1624) (by decide +kernel) (by decide +kernel)), Or.inr (Or.inl ⟨rfl, tblG_in (i := 1626) (by decide +kernel) (by decide +kernel), tblG_sel (i := 49) (by decide +kernel) (by decide +kernel), rfl⟩)⟩
theorem l_11_361 : Cond.methodLink (cn 11) 361 (my mX11_kindsThatFit) ∈ tblG := tblG_in (i := 1624) (by decide +kernel) (by decide +kernel)
theorem f_11_364 : FLg 11 364 0 7 := ⟨_, _, _, rfl, by decide, inX0, tblG_in (i := 192) (by decide +kernel) (by decide +kernel)⟩
theorem k_11_367 : MLk 11 367 mX9_suppose 1 2 := ⟨okX9_suppose, Or.inl (tblG_in (i := 1628) (by decide +kernel) (by decide +kernel)), Or.inr (Or.inl ⟨rfl, tblG_in (i := 1629) (by decide +kernel) (by decide +kernel), tblG_in (i := 1630) (by decide +kernel) (by decide +kernel), rfl⟩)⟩
theorem l_11_367 : Cond.methodLink (cn 11) 367 (my mX9_suppose) ∈ tblG := tblG_in (i := 1628) (by decide +kernel) (by decide +kernel)
theorem f_11_370 : FLg 11 370 0 8 := ⟨_, _, _, rfl, by decide, inX0, tblG_in (i := 194) (by decide +kernel) (by decide +kernel)⟩
theorem k_11_373 : MLk 11 373 mX10_placesOf 1 1 := ⟨okX10_placesOf, Or.inl (tblG_in (i := 1632) (by decide +kernel) (by decide +kernel)), Or.inr (Or.inl ⟨rfl, tblG_in (i := 1450) (by decide +kernel) (by decide +kernel), tblG_in (i := 1451) (by decide +kernel) (by decide +kernel), rfl⟩)⟩
theorem l_11_373 : Cond.methodLink (cn 11) 373 (my mX10_placesOf) ∈ tblG := tblG_in (i := 1632) (by decide +kernel) (by decide +kernel)
theorem f_11_377 : FLg 11 377 0 10 := ⟨_, _, _, rfl, by decide, inX0, tblG_in (i := 198) (by decide +kernel) (by decide +kernel)⟩
theorem k_11_380 : MLk 11 380 mX0_recordsOf 1 2 := ⟨okX0_recordsOf, Or.inl (tblG_in (i := 592) (by decide +kernel) (by decide +kernel)), Or.inr (Or.inl ⟨rfl, tblG_in (i := 593) (by decide +kernel) (by decide +kernel), tblG_in (i := 594) (by decide +kernel) (by decide +kernel), rfl⟩)⟩
theorem l_11_380 : Cond.methodLink (cn 11) 380 (my mX0_recordsOf) ∈ tblG := tblG_in (i := 592) (by decide +kernel) (by decide +kernel)
theorem k_11_384 : MLk 11 384 mX11_needTray 1 1 := ⟨okX11_needTray, Or.inl (tblG_in (i := 1647) (by decide +kernel) (by decide +kernel)), Or.inr (Or.inl ⟨rfl, tblG_in (i := 1649) (by decide +kernel) (by decide +kernel), tblG_sel (i := 50) (by decide +kernel) (by decide +kernel), rfl⟩)⟩
theorem l_11_384 : Cond.methodLink (cn 11) 384 (my mX11_needTray) ∈ tblG := tblG_in (i := 1647) (by decide +kernel) (by decide +kernel)
theorem k_11_387 : MLk 11 387 mX8_lay 1 2 := ⟨okX8_lay, Or.inl (tblG_in (i := 1651) (by decide +kernel) (by decide +kernel)), Or.inr (Or.inl ⟨rfl, tblG_in (i := 1652) (by decide +kernel) (by decide +kernel), tblG_in (i := 1653) (by decide +kernel) (by decide +kernel), rfl⟩)⟩
theorem l_11_387 : Cond.methodLink (cn 11) 387 (my mX8_lay) ∈ tblG := tblG_in (i := 1651) (by decide +kernel) (by decide +kernel)
theorem k_11_390 : MLk 11 390 mX11_needLaid 1 1 := ⟨okX11_needLaid, Or.inl (tblG_in (i := 1665) (by decide +kernel) (by decide +kernel)), Or.inr (Or.inl ⟨rfl, tblG_in (i := 1667) (by decide +kernel) (by decide +kernel), tblG_sel (i := 51) (by decide +kernel) (by decide +kernel), rfl⟩)⟩
theorem l_11_390 : Cond.methodLink (cn 11) 390 (my mX11_needLaid) ∈ tblG := tblG_in (i := 1665) (by decide +kernel) (by decide +kernel)
theorem f_11_393 : FLg 11 393 8 2 := ⟨_, _, _, rfl, by decide, inX8, tblG_in (i := 518) (by decide +kernel) (by decide +kernel)⟩
-- 11 396 -> <java/lang/IndexOutOfBoundsException|<init>|()V>
theorem f_11_397 : FLg 11 397 8 3 := ⟨_, _, _, rfl, by decide, inX8, tblG_in (i := 521) (by decide +kernel) (by decide +kernel)⟩
theorem k_11_400 : MLk 11 400 mX8_cut 1 1 := ⟨okX8_cut, Or.inl (tblG_in (i := 1699) (by decide +kernel) (by decide +kernel)), Or.inr (Or.inl ⟨rfl, tblG_in (i := 1700) (by decide +kernel) (by decide +kernel), tblG_in (i := 1701) (by decide +kernel) (by decide +kernel), rfl⟩)⟩
theorem l_11_400 : Cond.methodLink (cn 11) 400 (my mX8_cut) ∈ tblG := tblG_in (i := 1699) (by decide +kernel) (by decide +kernel)
theorem k_11_404 : MLk 11 404 mX8_isSayable 1 0 := ⟨okX8_isSayable, Or.inl (tblG_in (i := 1710) (by decide +kernel) (by decide +kernel)), Or.inr (Or.inl ⟨rfl, tblG_in (i := 1711) (by decide +kernel) (by decide +kernel), tblG_in (i := 1712) (by decide +kernel) (by decide +kernel), rfl⟩)⟩
theorem l_11_404 : Cond.methodLink (cn 11) 404 (my mX8_isSayable) ∈ tblG := tblG_in (i := 1710) (by decide +kernel) (by decide +kernel)
theorem k_11_407 : MLk 11 407 mX0_addListed 1 3 := ⟨okX0_addListed, Or.inl (tblG_in (i := 1715) (by decide +kernel) (by decide +kernel)), Or.inr (Or.inl ⟨rfl, tblG_in (i := 1716) (by decide +kernel) (by decide +kernel), tblG_in (i := 1717) (by decide +kernel) (by decide +kernel), rfl⟩)⟩
theorem l_11_407 : Cond.methodLink (cn 11) 407 (my mX0_addListed) ∈ tblG := tblG_in (i := 1715) (by decide +kernel) (by decide +kernel)
theorem k_11_411 : MLk 11 411 mX11_needImage 1 1 := ⟨okX11_needImage, Or.inl (tblG_in (i := 1728) (by decide +kernel) (by decide +kernel)), Or.inr (Or.inl ⟨rfl, tblG_in (i := 1730) (by decide +kernel) (by decide +kernel), tblG_sel (i := 52) (by decide +kernel) (by decide +kernel), rfl⟩)⟩
theorem l_11_411 : Cond.methodLink (cn 11) 411 (my mX11_needImage) ∈ tblG := tblG_in (i := 1728) (by decide +kernel) (by decide +kernel)
theorem k_11_414 : MLk 11 414 mX3_take 1 1 := ⟨okX3_take, Or.inl (tblG_in (i := 1732) (by decide +kernel) (by decide +kernel)), Or.inr (Or.inl ⟨rfl, tblG_in (i := 1733) (by decide +kernel) (by decide +kernel), tblG_in (i := 1734) (by decide +kernel) (by decide +kernel), rfl⟩)⟩
theorem l_11_414 : Cond.methodLink (cn 11) 414 (my mX3_take) ∈ tblG := tblG_in (i := 1732) (by decide +kernel) (by decide +kernel)
theorem k_11_417 : MLk 11 417 mX2_take 1 1 := ⟨okX2_take, Or.inl (tblG_in (i := 1737) (by decide +kernel) (by decide +kernel)), Or.inr (Or.inl ⟨rfl, tblG_in (i := 1738) (by decide +kernel) (by decide +kernel), tblG_in (i := 1739) (by decide +kernel) (by decide +kernel), rfl⟩)⟩
theorem l_11_417 : Cond.methodLink (cn 11) 417 (my mX2_take) ∈ tblG := tblG_in (i := 1737) (by decide +kernel) (by decide +kernel)
theorem k_11_420 : MLk 11 420 mX0_take 1 1 := ⟨okX0_take, Or.inl (tblG_in (i := 1742) (by decide +kernel) (by decide +kernel)), Or.inr (Or.inl ⟨rfl, tblG_in (i := 1743) (by decide +kernel) (by decide +kernel), tblG_in (i := 1744) (by decide +kernel) (by decide +kernel), rfl⟩)⟩
theorem l_11_420 : Cond.methodLink (cn 11) 420 (my mX0_take) ∈ tblG := tblG_in (i := 1742) (by decide +kernel) (by decide +kernel)
-- 11 425 -> <java/lang/IllegalStateException|<init>|()V>
theorem f_11_426 : FLg 11 426 3 0 := ⟨_, _, _, rfl, by decide, inX3, tblG_in (i := 50) (by decide +kernel) (by decide +kernel)⟩
theorem f_11_429 : FLg 11 429 2 0 := ⟨_, _, _, rfl, by decide, inX2, tblG_in (i := 137) (by decide +kernel) (by decide +kernel)⟩
theorem f_11_432 : FLg 11 432 8 0 := ⟨_, _, _, rfl, by decide, inX8, tblG_in (i := 514) (by decide +kernel) (by decide +kernel)⟩
theorem k_11_436 : MLk 11 436 mX9_learnGround 1 1 := ⟨okX9_learnGround, Or.inl (tblG_in (i := 1167) (by decide +kernel) (by decide +kernel)), Or.inr (Or.inl ⟨rfl, tblG_in (i := 1168) (by decide +kernel) (by decide +kernel), tblG_in (i := 1169) (by decide +kernel) (by decide +kernel), rfl⟩)⟩
theorem l_11_436 : Cond.methodLink (cn 11) 436 (my mX9_learnGround) ∈ tblG := tblG_in (i := 1167) (by decide +kernel) (by decide +kernel)
theorem k_11_439 : MLk 11 439 mX11_lowest 0 1 := ⟨okX11_lowest, Or.inl (tblG_in (i := 1458) (by decide +kernel) (by decide +kernel)), Or.inl ⟨rfl, tblG_in (i := 1357) (by decide +kernel) (by decide +kernel)⟩⟩
theorem l_11_439 : Cond.methodLink (cn 11) 439 (my mX11_lowest) ∈ tblG := tblG_in (i := 1458) (by decide +kernel) (by decide +kernel)
theorem k_11_442 : MLk 11 442 mX11_wordOf 0 3 := ⟨okX11_wordOf, Or.inl (tblG_in (i := 1593) (by decide +kernel) (by decide +kernel)), Or.inl ⟨rfl, tblG_in (i := 1294) (by decide +kernel) (by decide +kernel)⟩⟩
theorem l_11_442 : Cond.methodLink (cn 11) 442 (my mX11_wordOf) ∈ tblG := tblG_in (i := 1593) (by decide +kernel) (by decide +kernel)
-- 12 3 -> <java/lang/Object|<init>|()V>
theorem f_12_9 : FLg 12 9 12 0 := ⟨_, _, _, rfl, by decide, inX12, tblG_in (i := 1759) (by decide +kernel) (by decide +kernel)⟩
theorem p_12_9 : FLp 12 9 12 0 true (tyX12 0) := ⟨_, _, _, tyX12, rfl, by decide, inX12, tblG_in (i := 1759) (by decide +kernel) (by decide +kernel), tyX12_ok, nmX12, rfl, tyX12_ok 0 (by decide), fun _ => rfl⟩
theorem f_12_13 : FLg 12 13 12 1 := ⟨_, _, _, rfl, by decide, inX12, tblG_in (i := 1760) (by decide +kernel) (by decide +kernel)⟩
theorem p_12_13 : FLp 12 13 12 1 true (tyX12 1) := ⟨_, _, _, tyX12, rfl, by decide, inX12, tblG_in (i := 1760) (by decide +kernel) (by decide +kernel), tyX12_ok, nmX12, rfl, tyX12_ok 1 (by decide), fun _ => rfl⟩
theorem f_12_16 : FLg 12 16 12 2 := ⟨_, _, _, rfl, by decide, inX12, tblG_in (i := 1761) (by decide +kernel) (by decide +kernel)⟩
theorem p_12_16 : FLp 12 16 12 2 true (tyX12 2) := ⟨_, _, _, tyX12, rfl, by decide, inX12, tblG_in (i := 1761) (by decide +kernel) (by decide +kernel), tyX12_ok, nmX12, rfl, tyX12_ok 2 (by decide), fun _ => rfl⟩
theorem f_12_20 : FLg 12 20 12 4 := ⟨_, _, _, rfl, by decide, inX12, tblG_in (i := 1763) (by decide +kernel) (by decide +kernel)⟩
theorem p_12_20 : FLp 12 20 12 4 false (tyX12 4) := ⟨_, _, _, tyX12, rfl, by decide, inX12, tblG_in (i := 1763) (by decide +kernel) (by decide +kernel), tyX12_ok, nmX12, rfl, tyX12_ok 4 (by decide), fun q => by cases q⟩
theorem f_12_24 : FLg 12 24 12 5 := ⟨_, _, _, rfl, by decide, inX12, tblG_in (i := 1764) (by decide +kernel) (by decide +kernel)⟩
theorem p_12_24 : FLp 12 24 12 5 true (tyX12 5) := ⟨_, _, _, tyX12, rfl, by decide, inX12, tblG_in (i := 1764) (by decide +kernel) (by decide +kernel), tyX12_ok, nmX12, rfl, tyX12_ok 5 (by decide), fun _ => rfl⟩
theorem f_12_28 : FLg 12 28 12 6 := ⟨_, _, _, rfl, by decide, inX12, tblG_in (i := 1765) (by decide +kernel) (by decide +kernel)⟩
theorem p_12_28 : FLp 12 28 12 6 true (tyX12 6) := ⟨_, _, _, tyX12, rfl, by decide, inX12, tblG_in (i := 1765) (by decide +kernel) (by decide +kernel), tyX12_ok, nmX12, rfl, tyX12_ok 6 (by decide), fun _ => rfl⟩
theorem f_12_31 : FLg 12 31 12 7 := ⟨_, _, _, rfl, by decide, inX12, tblG_in (i := 1766) (by decide +kernel) (by decide +kernel)⟩
theorem p_12_31 : FLp 12 31 12 7 true (tyX12 7) := ⟨_, _, _, tyX12, rfl, by decide, inX12, tblG_in (i := 1766) (by decide +kernel) (by decide +kernel), tyX12_ok, nmX12, rfl, tyX12_ok 7 (by decide), fun _ => rfl⟩
theorem f_12_34 : FLg 12 34 12 8 := ⟨_, _, _, rfl, by decide, inX12, tblG_in (i := 1767) (by decide +kernel) (by decide +kernel)⟩
theorem p_12_34 : FLp 12 34 12 8 true (tyX12 8) := ⟨_, _, _, tyX12, rfl, by decide, inX12, tblG_in (i := 1767) (by decide +kernel) (by decide +kernel), tyX12_ok, nmX12, rfl, tyX12_ok 8 (by decide), fun _ => rfl⟩
theorem f_12_37 : FLg 12 37 12 9 := ⟨_, _, _, rfl, by decide, inX12, tblG_in (i := 1768) (by decide +kernel) (by decide +kernel)⟩
theorem p_12_37 : FLp 12 37 12 9 true (tyX12 9) := ⟨_, _, _, tyX12, rfl, by decide, inX12, tblG_in (i := 1768) (by decide +kernel) (by decide +kernel), tyX12_ok, nmX12, rfl, tyX12_ok 9 (by decide), fun _ => rfl⟩
theorem f_12_40 : FLg 12 40 12 19 := ⟨_, _, _, rfl, by decide, inX12, tblG_in (i := 1778) (by decide +kernel) (by decide +kernel)⟩
theorem p_12_40 : FLp 12 40 12 19 false (tyX12 19) := ⟨_, _, _, tyX12, rfl, by decide, inX12, tblG_in (i := 1778) (by decide +kernel) (by decide +kernel), tyX12_ok, nmX12, rfl, tyX12_ok 19 (by decide), fun q => by cases q⟩
theorem f_12_43 : FLg 12 43 12 20 := ⟨_, _, _, rfl, by decide, inX12, tblG_in (i := 1779) (by decide +kernel) (by decide +kernel)⟩
theorem p_12_43 : FLp 12 43 12 20 true (tyX12 20) := ⟨_, _, _, tyX12, rfl, by decide, inX12, tblG_in (i := 1779) (by decide +kernel) (by decide +kernel), tyX12_ok, nmX12, rfl, tyX12_ok 20 (by decide), fun _ => rfl⟩
theorem f_12_46 : FLg 12 46 12 21 := ⟨_, _, _, rfl, by decide, inX12, tblG_in (i := 1780) (by decide +kernel) (by decide +kernel)⟩
theorem p_12_46 : FLp 12 46 12 21 true (tyX12 21) := ⟨_, _, _, tyX12, rfl, by decide, inX12, tblG_in (i := 1780) (by decide +kernel) (by decide +kernel), tyX12_ok, nmX12, rfl, tyX12_ok 21 (by decide), fun _ => rfl⟩
theorem f_12_49 : FLg 12 49 12 22 := ⟨_, _, _, rfl, by decide, inX12, tblG_in (i := 1781) (by decide +kernel) (by decide +kernel)⟩
theorem p_12_49 : FLp 12 49 12 22 true (tyX12 22) := ⟨_, _, _, tyX12, rfl, by decide, inX12, tblG_in (i := 1781) (by decide +kernel) (by decide +kernel), tyX12_ok, nmX12, rfl, tyX12_ok 22 (by decide), fun _ => rfl⟩
theorem f_12_52 : FLg 12 52 12 23 := ⟨_, _, _, rfl, by decide, inX12, tblG_in (i := 1782) (by decide +kernel) (by decide +kernel)⟩
theorem p_12_52 : FLp 12 52 12 23 true (tyX12 23) := ⟨_, _, _, tyX12, rfl, by decide, inX12, tblG_in (i := 1782) (by decide +kernel) (by decide +kernel), tyX12_ok, nmX12, rfl, tyX12_ok 23 (by decide), fun _ => rfl⟩
theorem f_12_55 : FLg 12 55 12 24 := ⟨_, _, _, rfl, by decide, inX12, tblG_in (i := 1783) (by decide +kernel) (by decide +kernel)⟩
theorem p_12_55 : FLp 12 55 12 24 true (tyX12 24) := ⟨_, _, _, tyX12, rfl, by decide, inX12, tblG_in (i := 1783) (by decide +kernel) (by decide +kernel), tyX12_ok, nmX12, rfl, tyX12_ok 24 (by decide), fun _ => rfl⟩
theorem f_12_58 : FLg 12 58 12 25 := ⟨_, _, _, rfl, by decide, inX12, tblG_in (i := 1784) (by decide +kernel) (by decide +kernel)⟩
theorem p_12_58 : FLp 12 58 12 25 true (tyX12 25) := ⟨_, _, _, tyX12, rfl, by decide, inX12, tblG_in (i := 1784) (by decide +kernel) (by decide +kernel), tyX12_ok, nmX12, rfl, tyX12_ok 25 (by decide), fun _ => rfl⟩
theorem f_12_61 : FLg 12 61 12 26 := ⟨_, _, _, rfl, by decide, inX12, tblG_in (i := 1785) (by decide +kernel) (by decide +kernel)⟩
theorem p_12_61 : FLp 12 61 12 26 true (tyX12 26) := ⟨_, _, _, tyX12, rfl, by decide, inX12, tblG_in (i := 1785) (by decide +kernel) (by decide +kernel), tyX12_ok, nmX12, rfl, tyX12_ok 26 (by decide), fun _ => rfl⟩
theorem f_12_64 : FLg 12 64 12 27 := ⟨_, _, _, rfl, by decide, inX12, tblG_in (i := 1786) (by decide +kernel) (by decide +kernel)⟩
theorem p_12_64 : FLp 12 64 12 27 true (tyX12 27) := ⟨_, _, _, tyX12, rfl, by decide, inX12, tblG_in (i := 1786) (by decide +kernel) (by decide +kernel), tyX12_ok, nmX12, rfl, tyX12_ok 27 (by decide), fun _ => rfl⟩
theorem f_12_67 : FLg 12 67 12 28 := ⟨_, _, _, rfl, by decide, inX12, tblG_in (i := 1787) (by decide +kernel) (by decide +kernel)⟩
theorem p_12_67 : FLp 12 67 12 28 true (tyX12 28) := ⟨_, _, _, tyX12, rfl, by decide, inX12, tblG_in (i := 1787) (by decide +kernel) (by decide +kernel), tyX12_ok, nmX12, rfl, tyX12_ok 28 (by decide), fun _ => rfl⟩
theorem f_12_70 : FLg 12 70 12 29 := ⟨_, _, _, rfl, by decide, inX12, tblG_in (i := 1788) (by decide +kernel) (by decide +kernel)⟩
theorem p_12_70 : FLp 12 70 12 29 true (tyX12 29) := ⟨_, _, _, tyX12, rfl, by decide, inX12, tblG_in (i := 1788) (by decide +kernel) (by decide +kernel), tyX12_ok, nmX12, rfl, tyX12_ok 29 (by decide), fun _ => rfl⟩
theorem f_12_73 : FLg 12 73 12 30 := ⟨_, _, _, rfl, by decide, inX12, tblG_in (i := 1789) (by decide +kernel) (by decide +kernel)⟩
theorem p_12_73 : FLp 12 73 12 30 true (tyX12 30) := ⟨_, _, _, tyX12, rfl, by decide, inX12, tblG_in (i := 1789) (by decide +kernel) (by decide +kernel), tyX12_ok, nmX12, rfl, tyX12_ok 30 (by decide), fun _ => rfl⟩
theorem f_12_76 : FLg 12 76 12 31 := ⟨_, _, _, rfl, by decide, inX12, tblG_in (i := 1790) (by decide +kernel) (by decide +kernel)⟩
theorem p_12_76 : FLp 12 76 12 31 true (tyX12 31) := ⟨_, _, _, tyX12, rfl, by decide, inX12, tblG_in (i := 1790) (by decide +kernel) (by decide +kernel), tyX12_ok, nmX12, rfl, tyX12_ok 31 (by decide), fun _ => rfl⟩
theorem f_12_79 : FLg 12 79 12 32 := ⟨_, _, _, rfl, by decide, inX12, tblG_in (i := 1791) (by decide +kernel) (by decide +kernel)⟩
theorem p_12_79 : FLp 12 79 12 32 true (tyX12 32) := ⟨_, _, _, tyX12, rfl, by decide, inX12, tblG_in (i := 1791) (by decide +kernel) (by decide +kernel), tyX12_ok, nmX12, rfl, tyX12_ok 32 (by decide), fun _ => rfl⟩
theorem f_12_82 : FLg 12 82 12 33 := ⟨_, _, _, rfl, by decide, inX12, tblG_in (i := 1792) (by decide +kernel) (by decide +kernel)⟩
theorem p_12_82 : FLp 12 82 12 33 true (tyX12 33) := ⟨_, _, _, tyX12, rfl, by decide, inX12, tblG_in (i := 1792) (by decide +kernel) (by decide +kernel), tyX12_ok, nmX12, rfl, tyX12_ok 33 (by decide), fun _ => rfl⟩
theorem f_12_85 : FLg 12 85 12 34 := ⟨_, _, _, rfl, by decide, inX12, tblG_in (i := 1793) (by decide +kernel) (by decide +kernel)⟩
theorem p_12_85 : FLp 12 85 12 34 true (tyX12 34) := ⟨_, _, _, tyX12, rfl, by decide, inX12, tblG_in (i := 1793) (by decide +kernel) (by decide +kernel), tyX12_ok, nmX12, rfl, tyX12_ok 34 (by decide), fun _ => rfl⟩
theorem f_12_88 : FLg 12 88 12 37 := ⟨_, _, _, rfl, by decide, inX12, tblG_in (i := 1796) (by decide +kernel) (by decide +kernel)⟩
theorem p_12_88 : FLp 12 88 12 37 true (tyX12 37) := ⟨_, _, _, tyX12, rfl, by decide, inX12, tblG_in (i := 1796) (by decide +kernel) (by decide +kernel), tyX12_ok, nmX12, rfl, tyX12_ok 37 (by decide), fun _ => rfl⟩
theorem f_12_91 : FLg 12 91 12 38 := ⟨_, _, _, rfl, by decide, inX12, tblG_in (i := 1797) (by decide +kernel) (by decide +kernel)⟩
theorem p_12_91 : FLp 12 91 12 38 true (tyX12 38) := ⟨_, _, _, tyX12, rfl, by decide, inX12, tblG_in (i := 1797) (by decide +kernel) (by decide +kernel), tyX12_ok, nmX12, rfl, tyX12_ok 38 (by decide), fun _ => rfl⟩
theorem f_12_94 : FLg 12 94 12 39 := ⟨_, _, _, rfl, by decide, inX12, tblG_in (i := 1798) (by decide +kernel) (by decide +kernel)⟩
theorem p_12_94 : FLp 12 94 12 39 true (tyX12 39) := ⟨_, _, _, tyX12, rfl, by decide, inX12, tblG_in (i := 1798) (by decide +kernel) (by decide +kernel), tyX12_ok, nmX12, rfl, tyX12_ok 39 (by decide), fun _ => rfl⟩
theorem f_12_97 : FLg 12 97 12 3 := ⟨_, _, _, rfl, by decide, inX12, tblG_in (i := 1762) (by decide +kernel) (by decide +kernel)⟩
theorem p_12_97 : FLp 12 97 12 3 false (tyX12 3) := ⟨_, _, _, tyX12, rfl, by decide, inX12, tblG_in (i := 1762) (by decide +kernel) (by decide +kernel), tyX12_ok, nmX12, rfl, tyX12_ok 3 (by decide), fun q => by cases q⟩
theorem g_12_100 : Cond.constantLong (cn 12) 100 (200) ∈ tblG := tblG_in (i := 1916) (by decide +kernel) (by decide +kernel)
theorem k_12_102 : MLk 12 102 mX12_within 0 3 := ⟨okX12_within, Or.inl (tblG_in (i := 1889) (by decide +kernel) (by decide +kernel)), Or.inl ⟨rfl, tblG_in (i := 1890) (by decide +kernel) (by decide +kernel)⟩⟩
theorem l_12_102 : Cond.methodLink (cn 12) 102 (my mX12_within) ∈ tblG := tblG_in (i := 1889) (by decide +kernel) (by decide +kernel)
theorem k_12_106 : MLk 12 106 mX12_is 1 2 := ⟨okX12_is, Or.inl (tblG_in (i := 1908) (by decide +kernel) (by decide +kernel)), Or.inr (Or.inl ⟨rfl, tblG_in (i := 1910) (by decide +kernel) (by decide +kernel), tblG_sel (i := 56) (by decide +kernel) (by decide +kernel), rfl⟩)⟩
theorem l_12_106 : Cond.methodLink (cn 12) 106 (my mX12_is) ∈ tblG := tblG_in (i := 1908) (by decide +kernel) (by decide +kernel)
theorem g_12_110 : Cond.constantLong (cn 12) 110 (11) ∈ tblG := tblG_in (i := 1928) (by decide +kernel) (by decide +kernel)
theorem g_12_112 : Cond.constantLong (cn 12) 112 (99) ∈ tblG := tblG_in (i := 1888) (by decide +kernel) (by decide +kernel)
theorem k_12_114 : MLk 12 114 mX12_fails 1 1 := ⟨okX12_fails, Or.inl (tblG_in (i := 1892) (by decide +kernel) (by decide +kernel)), Or.inr (Or.inl ⟨rfl, tblG_in (i := 1894) (by decide +kernel) (by decide +kernel), tblG_sel (i := 53) (by decide +kernel) (by decide +kernel), rfl⟩)⟩
theorem l_12_114 : Cond.methodLink (cn 12) 114 (my mX12_fails) ∈ tblG := tblG_in (i := 1892) (by decide +kernel) (by decide +kernel)
theorem k_12_118 : MLk 12 118 mX12_more 1 1 := ⟨okX12_more, Or.inl (tblG_in (i := 1896) (by decide +kernel) (by decide +kernel)), Or.inr (Or.inl ⟨rfl, tblG_in (i := 1898) (by decide +kernel) (by decide +kernel), tblG_sel (i := 54) (by decide +kernel) (by decide +kernel), rfl⟩)⟩
theorem l_12_118 : Cond.methodLink (cn 12) 118 (my mX12_more) ∈ tblG := tblG_in (i := 1896) (by decide +kernel) (by decide +kernel)
theorem k_12_121 : MLk 12 121 mX12_isPlace 1 1 := ⟨okX12_isPlace, Or.inl (tblG_in (i := 1904) (by decide +kernel) (by decide +kernel)), Or.inr (Or.inl ⟨rfl, tblG_in (i := 1906) (by decide +kernel) (by decide +kernel), tblG_sel (i := 55) (by decide +kernel) (by decide +kernel), rfl⟩)⟩
theorem l_12_121 : Cond.methodLink (cn 12) 121 (my mX12_isPlace) ∈ tblG := tblG_in (i := 1904) (by decide +kernel) (by decide +kernel)
theorem g_12_125 : Cond.constantLong (cn 12) 125 (2) ∈ tblG := tblG_in (i := 1912) (by decide +kernel) (by decide +kernel)
theorem k_12_127 : MLk 12 127 mX12_isYear 0 1 := ⟨okX12_isYear, Or.inl (tblG_in (i := 1913) (by decide +kernel) (by decide +kernel)), Or.inl ⟨rfl, tblG_in (i := 1914) (by decide +kernel) (by decide +kernel)⟩⟩
theorem l_12_127 : Cond.methodLink (cn 12) 127 (my mX12_isYear) ∈ tblG := tblG_in (i := 1913) (by decide +kernel) (by decide +kernel)
theorem k_12_130 : MLk 12 130 mX12_wayOf 1 2 := ⟨okX12_wayOf, Or.inl (tblG_in (i := 1917) (by decide +kernel) (by decide +kernel)), Or.inr (Or.inl ⟨rfl, tblG_in (i := 1919) (by decide +kernel) (by decide +kernel), tblG_sel (i := 57) (by decide +kernel) (by decide +kernel), rfl⟩)⟩
theorem l_12_130 : Cond.methodLink (cn 12) 130 (my mX12_wayOf) ∈ tblG := tblG_in (i := 1917) (by decide +kernel) (by decide +kernel)
theorem k_12_134 : MLk 12 134 mX12_isName 0 1 := ⟨okX12_isName, Or.inl (tblG_in (i := 1925) (by decide +kernel) (by decide +kernel)), Or.inl ⟨rfl, tblG_in (i := 1926) (by decide +kernel) (by decide +kernel)⟩⟩
theorem l_12_134 : Cond.methodLink (cn 12) 134 (my mX12_isName) ∈ tblG := tblG_in (i := 1925) (by decide +kernel) (by decide +kernel)
theorem k_12_137 : MLk 12 137 mX12_endOf 1 2 := ⟨okX12_endOf, Or.inl (tblG_in (i := 1945) (by decide +kernel) (by decide +kernel)), Or.inr (Or.inl ⟨rfl, tblG_in (i := 1947) (by decide +kernel) (by decide +kernel), tblG_sel (i := 60) (by decide +kernel) (by decide +kernel), rfl⟩)⟩
theorem l_12_137 : Cond.methodLink (cn 12) 137 (my mX12_endOf) ∈ tblG := tblG_in (i := 1945) (by decide +kernel) (by decide +kernel)
theorem k_12_140 : MLk 12 140 mX12_isState 1 1 := ⟨okX12_isState, Or.inl (tblG_in (i := 1937) (by decide +kernel) (by decide +kernel)), Or.inr (Or.inl ⟨rfl, tblG_in (i := 1939) (by decide +kernel) (by decide +kernel), tblG_sel (i := 58) (by decide +kernel) (by decide +kernel), rfl⟩)⟩
theorem l_12_140 : Cond.methodLink (cn 12) 140 (my mX12_isState) ∈ tblG := tblG_in (i := 1937) (by decide +kernel) (by decide +kernel)
theorem k_12_143 : MLk 12 143 mX12_placeOf 1 1 := ⟨okX12_placeOf, Or.inl (tblG_in (i := 1941) (by decide +kernel) (by decide +kernel)), Or.inr (Or.inl ⟨rfl, tblG_in (i := 1943) (by decide +kernel) (by decide +kernel), tblG_sel (i := 59) (by decide +kernel) (by decide +kernel), rfl⟩)⟩
theorem l_12_143 : Cond.methodLink (cn 12) 143 (my mX12_placeOf) ∈ tblG := tblG_in (i := 1941) (by decide +kernel) (by decide +kernel)
theorem k_12_146 : MLk 12 146 mX12_isThere 1 2 := ⟨okX12_isThere, Or.inl (tblG_in (i := 1957) (by decide +kernel) (by decide +kernel)), Or.inr (Or.inl ⟨rfl, tblG_in (i := 1959) (by decide +kernel) (by decide +kernel), tblG_sel (i := 62) (by decide +kernel) (by decide +kernel), rfl⟩)⟩
theorem l_12_146 : Cond.methodLink (cn 12) 146 (my mX12_isThere) ∈ tblG := tblG_in (i := 1957) (by decide +kernel) (by decide +kernel)
theorem k_12_149 : MLk 12 149 mX12_alongX 1 1 := ⟨okX12_alongX, Or.inl (tblG_in (i := 1965) (by decide +kernel) (by decide +kernel)), Or.inr (Or.inl ⟨rfl, tblG_in (i := 1967) (by decide +kernel) (by decide +kernel), tblG_sel (i := 64) (by decide +kernel) (by decide +kernel), rfl⟩)⟩
theorem l_12_149 : Cond.methodLink (cn 12) 149 (my mX12_alongX) ∈ tblG := tblG_in (i := 1965) (by decide +kernel) (by decide +kernel)
theorem k_12_152 : MLk 12 152 mX12_alongY 1 1 := ⟨okX12_alongY, Or.inl (tblG_in (i := 1969) (by decide +kernel) (by decide +kernel)), Or.inr (Or.inl ⟨rfl, tblG_in (i := 1971) (by decide +kernel) (by decide +kernel), tblG_sel (i := 65) (by decide +kernel) (by decide +kernel), rfl⟩)⟩
theorem l_12_152 : Cond.methodLink (cn 12) 152 (my mX12_alongY) ∈ tblG := tblG_in (i := 1969) (by decide +kernel) (by decide +kernel)
theorem k_12_155 : MLk 12 155 mX12_dots 1 2 := ⟨okX12_dots, Or.inl (tblG_in (i := 1995) (by decide +kernel) (by decide +kernel)), Or.inr (Or.inl ⟨rfl, tblG_in (i := 1997) (by decide +kernel) (by decide +kernel), tblG_sel (i := 69) (by decide +kernel) (by decide +kernel), rfl⟩)⟩
theorem l_12_155 : Cond.methodLink (cn 12) 155 (my mX12_dots) ∈ tblG := tblG_in (i := 1995) (by decide +kernel) (by decide +kernel)
theorem k_12_159 : MLk 12 159 mX12_sizes 1 1 := ⟨okX12_sizes, Or.inl (tblG_in (i := 1999) (by decide +kernel) (by decide +kernel)), Or.inr (Or.inl ⟨rfl, tblG_in (i := 2001) (by decide +kernel) (by decide +kernel), tblG_sel (i := 70) (by decide +kernel) (by decide +kernel), rfl⟩)⟩
theorem l_12_159 : Cond.methodLink (cn 12) 159 (my mX12_sizes) ∈ tblG := tblG_in (i := 1999) (by decide +kernel) (by decide +kernel)
theorem k_12_163 : MLk 12 163 mX12_isOut 1 3 := ⟨okX12_isOut, Or.inl (tblG_in (i := 1953) (by decide +kernel) (by decide +kernel)), Or.inr (Or.inl ⟨rfl, tblG_in (i := 1955) (by decide +kernel) (by decide +kernel), tblG_sel (i := 61) (by decide +kernel) (by decide +kernel), rfl⟩)⟩
theorem l_12_163 : Cond.methodLink (cn 12) 163 (my mX12_isOut) ∈ tblG := tblG_in (i := 1953) (by decide +kernel) (by decide +kernel)
theorem k_12_167 : MLk 12 167 mX12_cross 1 2 := ⟨okX12_cross, Or.inl (tblG_in (i := 1961) (by decide +kernel) (by decide +kernel)), Or.inr (Or.inl ⟨rfl, tblG_in (i := 1963) (by decide +kernel) (by decide +kernel), tblG_sel (i := 63) (by decide +kernel) (by decide +kernel), rfl⟩)⟩
theorem l_12_167 : Cond.methodLink (cn 12) 167 (my mX12_cross) ∈ tblG := tblG_in (i := 1961) (by decide +kernel) (by decide +kernel)
theorem k_12_170 : MLk 12 170 mX12_layOne 1 2 := ⟨okX12_layOne, Or.inl (tblG_in (i := 1981) (by decide +kernel) (by decide +kernel)), Or.inr (Or.inl ⟨rfl, tblG_in (i := 1983) (by decide +kernel) (by decide +kernel), tblG_sel (i := 67) (by decide +kernel) (by decide +kernel), rfl⟩)⟩
theorem l_12_170 : Cond.methodLink (cn 12) 170 (my mX12_layOne) ∈ tblG := tblG_in (i := 1981) (by decide +kernel) (by decide +kernel)
theorem k_12_174 : MLk 12 174 mX12_sideAt 0 3 := ⟨okX12_sideAt, Or.inl (tblG_in (i := 1985) (by decide +kernel) (by decide +kernel)), Or.inl ⟨rfl, tblG_in (i := 1986) (by decide +kernel) (by decide +kernel)⟩⟩
theorem l_12_174 : Cond.methodLink (cn 12) 174 (my mX12_sideAt) ∈ tblG := tblG_in (i := 1985) (by decide +kernel) (by decide +kernel)
theorem k_12_178 : MLk 12 178 mX12_put 0 3 := ⟨okX12_put, Or.inl (tblG_in (i := 1988) (by decide +kernel) (by decide +kernel)), Or.inl ⟨rfl, tblG_in (i := 1989) (by decide +kernel) (by decide +kernel)⟩⟩
theorem l_12_178 : Cond.methodLink (cn 12) 178 (my mX12_put) ∈ tblG := tblG_in (i := 1988) (by decide +kernel) (by decide +kernel)
theorem k_12_182 : MLk 12 182 mX12_isLessTurned 1 3 := ⟨okX12_isLessTurned, Or.inl (tblG_in (i := 1991) (by decide +kernel) (by decide +kernel)), Or.inr (Or.inl ⟨rfl, tblG_in (i := 1993) (by decide +kernel) (by decide +kernel), tblG_sel (i := 68) (by decide +kernel) (by decide +kernel), rfl⟩)⟩
theorem l_12_182 : Cond.methodLink (cn 12) 182 (my mX12_isLessTurned) ∈ tblG := tblG_in (i := 1991) (by decide +kernel) (by decide +kernel)
theorem k_12_185 : MLk 12 185 mX12_has 0 3 := ⟨okX12_has, Or.inl (tblG_in (i := 2009) (by decide +kernel) (by decide +kernel)), Or.inl ⟨rfl, tblG_in (i := 2010) (by decide +kernel) (by decide +kernel)⟩⟩
theorem l_12_185 : Cond.methodLink (cn 12) 185 (my mX12_has) ∈ tblG := tblG_in (i := 2009) (by decide +kernel) (by decide +kernel)
theorem k_12_189 : MLk 12 189 mX12_sizeOf 0 2 := ⟨okX12_sizeOf, Or.inl (tblG_in (i := 2006) (by decide +kernel) (by decide +kernel)), Or.inl ⟨rfl, tblG_in (i := 2007) (by decide +kernel) (by decide +kernel)⟩⟩
theorem l_12_189 : Cond.methodLink (cn 12) 189 (my mX12_sizeOf) ∈ tblG := tblG_in (i := 2006) (by decide +kernel) (by decide +kernel)
theorem k_12_193 : MLk 12 193 mX12_lay 1 1 := ⟨okX12_lay, Or.inl (tblG_in (i := 1977) (by decide +kernel) (by decide +kernel)), Or.inr (Or.inl ⟨rfl, tblG_in (i := 1979) (by decide +kernel) (by decide +kernel), tblG_sel (i := 66) (by decide +kernel) (by decide +kernel), rfl⟩)⟩
theorem l_12_193 : Cond.methodLink (cn 12) 193 (my mX12_lay) ∈ tblG := tblG_in (i := 1977) (by decide +kernel) (by decide +kernel)
theorem k_12_197 : MLk 12 197 mX12_numberOf 0 3 := ⟨okX12_numberOf, Or.inl (tblG_in (i := 2003) (by decide +kernel) (by decide +kernel)), Or.inl ⟨rfl, tblG_in (i := 2004) (by decide +kernel) (by decide +kernel)⟩⟩
theorem l_12_197 : Cond.methodLink (cn 12) 197 (my mX12_numberOf) ∈ tblG := tblG_in (i := 2003) (by decide +kernel) (by decide +kernel)
theorem g_12_201 : Cond.constantLong (cn 12) 201 (4095) ∈ tblG := tblG_in (i := 2020) (by decide +kernel) (by decide +kernel)
theorem g_12_203 : Cond.constantLong (cn 12) 203 (20) ∈ tblG := tblG_in (i := 2025) (by decide +kernel) (by decide +kernel)
theorem k_12_205 : MLk 12 205 mX12_kindsOf 1 2 := ⟨okX12_kindsOf, Or.inl (tblG_in (i := 2046) (by decide +kernel) (by decide +kernel)), Or.inr (Or.inl ⟨rfl, tblG_in (i := 2048) (by decide +kernel) (by decide +kernel), tblG_sel (i := 75) (by decide +kernel) (by decide +kernel), rfl⟩)⟩
theorem l_12_205 : Cond.methodLink (cn 12) 205 (my mX12_kindsOf) ∈ tblG := tblG_in (i := 2046) (by decide +kernel) (by decide +kernel)
theorem k_12_208 : MLk 12 208 mX12_isMark 1 3 := ⟨okX12_isMark, Or.inl (tblG_in (i := 2050) (by decide +kernel) (by decide +kernel)), Or.inr (Or.inl ⟨rfl, tblG_in (i := 2052) (by decide +kernel) (by decide +kernel), tblG_sel (i := 76) (by decide +kernel) (by decide +kernel), rfl⟩)⟩
theorem l_12_208 : Cond.methodLink (cn 12) 208 (my mX12_isMark) ∈ tblG := tblG_in (i := 2050) (by decide +kernel) (by decide +kernel)
theorem k_12_211 : MLk 12 211 mX12_standsAt 1 4 := ⟨okX12_standsAt, Or.inl (tblG_in (i := 2042) (by decide +kernel) (by decide +kernel)), Or.inr (Or.inl ⟨rfl, tblG_in (i := 2044) (by decide +kernel) (by decide +kernel), tblG_sel (i := 74) (by decide +kernel) (by decide +kernel), rfl⟩)⟩
theorem l_12_211 : Cond.methodLink (cn 12) 211 (my mX12_standsAt) ∈ tblG := tblG_in (i := 2042) (by decide +kernel) (by decide +kernel)
theorem k_12_215 : MLk 12 215 mX12_areJoined 1 3 := ⟨okX12_areJoined, Or.inl (tblG_in (i := 2054) (by decide +kernel) (by decide +kernel)), Or.inr (Or.inl ⟨rfl, tblG_in (i := 2056) (by decide +kernel) (by decide +kernel), tblG_sel (i := 77) (by decide +kernel) (by decide +kernel), rfl⟩)⟩
theorem l_12_215 : Cond.methodLink (cn 12) 215 (my mX12_areJoined) ∈ tblG := tblG_in (i := 2054) (by decide +kernel) (by decide +kernel)
theorem k_12_218 : MLk 12 218 mX12_empty 0 2 := ⟨okX12_empty, Or.inl (tblG_in (i := 2190) (by decide +kernel) (by decide +kernel)), Or.inl ⟨rfl, tblG_in (i := 2191) (by decide +kernel) (by decide +kernel)⟩⟩
theorem l_12_218 : Cond.methodLink (cn 12) 218 (my mX12_empty) ∈ tblG := tblG_in (i := 2190) (by decide +kernel) (by decide +kernel)
theorem k_12_222 : MLk 12 222 mX12_isWalker 1 1 := ⟨okX12_isWalker, Or.inl (tblG_in (i := 2030) (by decide +kernel) (by decide +kernel)), Or.inr (Or.inl ⟨rfl, tblG_in (i := 2032) (by decide +kernel) (by decide +kernel), tblG_sel (i := 71) (by decide +kernel) (by decide +kernel), rfl⟩)⟩
theorem l_12_222 : Cond.methodLink (cn 12) 222 (my mX12_isWalker) ∈ tblG := tblG_in (i := 2030) (by decide +kernel) (by decide +kernel)
theorem k_12_225 : MLk 12 225 mX12_fell 1 1 := ⟨okX12_fell, Or.inl (tblG_in (i := 2034) (by decide +kernel) (by decide +kernel)), Or.inr (Or.inl ⟨rfl, tblG_in (i := 2036) (by decide +kernel) (by decide +kernel), tblG_sel (i := 72) (by decide +kernel) (by decide +kernel), rfl⟩)⟩
theorem l_12_225 : Cond.methodLink (cn 12) 225 (my mX12_fell) ∈ tblG := tblG_in (i := 2034) (by decide +kernel) (by decide +kernel)
theorem k_12_228 : MLk 12 228 mX12_isSeenAt 1 4 := ⟨okX12_isSeenAt, Or.inl (tblG_in (i := 2038) (by decide +kernel) (by decide +kernel)), Or.inr (Or.inl ⟨rfl, tblG_in (i := 2040) (by decide +kernel) (by decide +kernel), tblG_sel (i := 73) (by decide +kernel) (by decide +kernel), rfl⟩)⟩
theorem l_12_228 : Cond.methodLink (cn 12) 228 (my mX12_isSeenAt) ∈ tblG := tblG_in (i := 2038) (by decide +kernel) (by decide +kernel)
theorem f_12_231 : FLg 12 231 12 10 := ⟨_, _, _, rfl, by decide, inX12, tblG_in (i := 1769) (by decide +kernel) (by decide +kernel)⟩
theorem p_12_231 : FLp 12 231 12 10 false (tyX12 10) := ⟨_, _, _, tyX12, rfl, by decide, inX12, tblG_in (i := 1769) (by decide +kernel) (by decide +kernel), tyX12_ok, nmX12, rfl, tyX12_ok 10 (by decide), fun q => by cases q⟩
theorem f_12_234 : FLg 12 234 12 11 := ⟨_, _, _, rfl, by decide, inX12, tblG_in (i := 1770) (by decide +kernel) (by decide +kernel)⟩
theorem p_12_234 : FLp 12 234 12 11 false (tyX12 11) := ⟨_, _, _, tyX12, rfl, by decide, inX12, tblG_in (i := 1770) (by decide +kernel) (by decide +kernel), tyX12_ok, nmX12, rfl, tyX12_ok 11 (by decide), fun q => by cases q⟩
theorem f_12_237 : FLg 12 237 12 12 := ⟨_, _, _, rfl, by decide, inX12, tblG_in (i := 1771) (by decide +kernel) (by decide +kernel)⟩
theorem p_12_237 : FLp 12 237 12 12 false (tyX12 12) := ⟨_, _, _, tyX12, rfl, by decide, inX12, tblG_in (i := 1771) (by decide +kernel) (by decide +kernel), tyX12_ok, nmX12, rfl, tyX12_ok 12 (by decide), fun q => by cases q⟩
theorem f_12_240 : FLg 12 240 12 13 := ⟨_, _, _, rfl, by decide, inX12, tblG_in (i := 1772) (by decide +kernel) (by decide +kernel)⟩
theorem p_12_240 : FLp 12 240 12 13 false (tyX12 13) := ⟨_, _, _, tyX12, rfl, by decide, inX12, tblG_in (i := 1772) (by decide +kernel) (by decide +kernel), tyX12_ok, nmX12, rfl, tyX12_ok 13 (by decide), fun q => by cases q⟩
theorem f_12_243 : FLg 12 243 12 14 := ⟨_, _, _, rfl, by decide, inX12, tblG_in (i := 1773) (by decide +kernel) (by decide +kernel)⟩
theorem p_12_243 : FLp 12 243 12 14 false (tyX12 14) := ⟨_, _, _, tyX12, rfl, by decide, inX12, tblG_in (i := 1773) (by decide +kernel) (by decide +kernel), tyX12_ok, nmX12, rfl, tyX12_ok 14 (by decide), fun q => by cases q⟩
theorem k_12_246 : MLk 12 246 mX12_isLetter 0 1 := ⟨okX12_isLetter, Or.inl (tblG_in (i := 2075) (by decide +kernel) (by decide +kernel)), Or.inl ⟨rfl, tblG_in (i := 2076) (by decide +kernel) (by decide +kernel)⟩⟩
theorem l_12_246 : Cond.methodLink (cn 12) 246 (my mX12_isLetter) ∈ tblG := tblG_in (i := 2075) (by decide +kernel) (by decide +kernel)
theorem k_12_249 : MLk 12 249 mX12_see 1 1 := ⟨okX12_see, Or.inl (tblG_in (i := 2078) (by decide +kernel) (by decide +kernel)), Or.inr (Or.inl ⟨rfl, tblG_in (i := 2080) (by decide +kernel) (by decide +kernel), tblG_sel (i := 79) (by decide +kernel) (by decide +kernel), rfl⟩)⟩
theorem l_12_249 : Cond.methodLink (cn 12) 249 (my mX12_see) ∈ tblG := tblG_in (i := 2078) (by decide +kernel) (by decide +kernel)
theorem k_12_252 : MLk 12 252 mX12_isDigit 0 1 := ⟨okX12_isDigit, Or.inl (tblG_in (i := 2082) (by decide +kernel) (by decide +kernel)), Or.inl ⟨rfl, tblG_in (i := 2083) (by decide +kernel) (by decide +kernel)⟩⟩
theorem l_12_252 : Cond.methodLink (cn 12) 252 (my mX12_isDigit) ∈ tblG := tblG_in (i := 2082) (by decide +kernel) (by decide +kernel)
theorem f_12_255 : FLg 12 255 12 15 := ⟨_, _, _, rfl, by decide, inX12, tblG_in (i := 1774) (by decide +kernel) (by decide +kernel)⟩
theorem p_12_255 : FLp 12 255 12 15 false (tyX12 15) := ⟨_, _, _, tyX12, rfl, by decide, inX12, tblG_in (i := 1774) (by decide +kernel) (by decide +kernel), tyX12_ok, nmX12, rfl, tyX12_ok 15 (by decide), fun q => by cases q⟩
theorem f_12_258 : FLg 12 258 12 16 := ⟨_, _, _, rfl, by decide, inX12, tblG_in (i := 1775) (by decide +kernel) (by decide +kernel)⟩
theorem p_12_258 : FLp 12 258 12 16 false (tyX12 16) := ⟨_, _, _, tyX12, rfl, by decide, inX12, tblG_in (i := 1775) (by decide +kernel) (by decide +kernel), tyX12_ok, nmX12, rfl, tyX12_ok 16 (by decide), fun q => by cases q⟩
theorem f_12_261 : FLg 12 261 12 17 := ⟨_, _, _, rfl, by decide, inX12, tblG_in (i := 1776) (by decide +kernel) (by decide +kernel)⟩
theorem p_12_261 : FLp 12 261 12 17 false (tyX12 17) := ⟨_, _, _, tyX12, rfl, by decide, inX12, tblG_in (i := 1776) (by decide +kernel) (by decide +kernel), tyX12_ok, nmX12, rfl, tyX12_ok 17 (by decide), fun q => by cases q⟩
-- 12 264 -> <java/lang/String|length|()I>
-- 12 270 -> <java/lang/String|charAt|(I)C>
theorem k_12_276 : MLk 12 276 mX12_isWord 1 1 := ⟨okX12_isWord, Or.inl (tblG_in (i := 2094) (by decide +kernel) (by decide +kernel)), Or.inr (Or.inl ⟨rfl, tblG_in (i := 2096) (by decide +kernel) (by decide +kernel), tblG_sel (i := 82) (by decide +kernel) (by decide +kernel), rfl⟩)⟩
theorem l_12_276 : Cond.methodLink (cn 12) 276 (my mX12_isWord) ∈ tblG := tblG_in (i := 2094) (by decide +kernel) (by decide +kernel)
theorem k_12_301 : MLk 12 301 mX12_nameNow 1 0 := ⟨okX12_nameNow, Or.inl (tblG_in (i := 2133) (by decide +kernel) (by decide +kernel)), Or.inr (Or.inl ⟨rfl, tblG_in (i := 2135) (by decide +kernel) (by decide +kernel), tblG_sel (i := 89) (by decide +kernel) (by decide +kernel), rfl⟩)⟩
theorem l_12_301 : Cond.methodLink (cn 12) 301 (my mX12_nameNow) ∈ tblG := tblG_in (i := 2133) (by decide +kernel) (by decide +kernel)
theorem k_12_304 : MLk 12 304 mX12_wrong 1 1 := ⟨okX12_wrong, Or.inl (tblG_in (i := 2112) (by decide +kernel) (by decide +kernel)), Or.inr (Or.inl ⟨rfl, tblG_in (i := 2114) (by decide +kernel) (by decide +kernel), tblG_sel (i := 84) (by decide +kernel) (by decide +kernel), rfl⟩)⟩
theorem l_12_304 : Cond.methodLink (cn 12) 304 (my mX12_wrong) ∈ tblG := tblG_in (i := 2112) (by decide +kernel) (by decide +kernel)
theorem k_12_307 : MLk 12 307 mX12_next 1 0 := ⟨okX12_next, Or.inl (tblG_in (i := 2071) (by decide +kernel) (by decide +kernel)), Or.inr (Or.inl ⟨rfl, tblG_in (i := 2073) (by decide +kernel) (by decide +kernel), tblG_sel (i := 78) (by decide +kernel) (by decide +kernel), rfl⟩)⟩
theorem l_12_307 : Cond.methodLink (cn 12) 307 (my mX12_next) ∈ tblG := tblG_in (i := 2071) (by decide +kernel) (by decide +kernel)
theorem k_12_314 : MLk 12 314 mX12_wordAt 0 2 := ⟨okX12_wordAt, Or.inl (tblG_in (i := 2153) (by decide +kernel) (by decide +kernel)), Or.inl ⟨rfl, tblG_in (i := 2154) (by decide +kernel) (by decide +kernel)⟩⟩
theorem l_12_314 : Cond.methodLink (cn 12) 314 (my mX12_wordAt) ∈ tblG := tblG_in (i := 2153) (by decide +kernel) (by decide +kernel)
theorem k_12_330 : MLk 12 330 mX12_sideNow 1 0 := ⟨okX12_sideNow, Or.inl (tblG_in (i := 2106) (by decide +kernel) (by decide +kernel)), Or.inr (Or.inl ⟨rfl, tblG_in (i := 2108) (by decide +kernel) (by decide +kernel), tblG_sel (i := 83) (by decide +kernel) (by decide +kernel), rfl⟩)⟩
theorem l_12_330 : Cond.methodLink (cn 12) 330 (my mX12_sideNow) ∈ tblG := tblG_in (i := 2106) (by decide +kernel) (by decide +kernel)
theorem k_12_333 : MLk 12 333 mX12_isBegun 1 0 := ⟨okX12_isBegun, Or.inl (tblG_in (i := 2089) (by decide +kernel) (by decide +kernel)), Or.inr (Or.inl ⟨rfl, tblG_in (i := 2091) (by decide +kernel) (by decide +kernel), tblG_sel (i := 81) (by decide +kernel) (by decide +kernel), rfl⟩)⟩
theorem l_12_333 : Cond.methodLink (cn 12) 333 (my mX12_isBegun) ∈ tblG := tblG_in (i := 2089) (by decide +kernel) (by decide +kernel)
theorem k_12_337 : MLk 12 337 mX12_readNth 1 1 := ⟨okX12_readNth, Or.inl (tblG_in (i := 2120) (by decide +kernel) (by decide +kernel)), Or.inr (Or.inl ⟨rfl, tblG_in (i := 2122) (by decide +kernel) (by decide +kernel), tblG_sel (i := 86) (by decide +kernel) (by decide +kernel), rfl⟩)⟩
theorem l_12_337 : Cond.methodLink (cn 12) 337 (my mX12_readNth) ∈ tblG := tblG_in (i := 2120) (by decide +kernel) (by decide +kernel)
theorem k_12_340 : MLk 12 340 mX12_lays 1 4 := ⟨okX12_lays, Or.inl (tblG_in (i := 2149) (by decide +kernel) (by decide +kernel)), Or.inr (Or.inl ⟨rfl, tblG_in (i := 2151) (by decide +kernel) (by decide +kernel), tblG_sel (i := 90) (by decide +kernel) (by decide +kernel), rfl⟩)⟩
theorem l_12_340 : Cond.methodLink (cn 12) 340 (my mX12_lays) ∈ tblG := tblG_in (i := 2149) (by decide +kernel) (by decide +kernel)
theorem k_12_346 : MLk 12 346 mX12_readName 1 0 := ⟨okX12_readName, Or.inl (tblG_in (i := 2129) (by decide +kernel) (by decide +kernel)), Or.inr (Or.inl ⟨rfl, tblG_in (i := 2131) (by decide +kernel) (by decide +kernel), tblG_sel (i := 88) (by decide +kernel) (by decide +kernel), rfl⟩)⟩
theorem l_12_346 : Cond.methodLink (cn 12) 346 (my mX12_readName) ∈ tblG := tblG_in (i := 2129) (by decide +kernel) (by decide +kernel)
theorem k_12_349 : MLk 12 349 mX12_readNumber 1 0 := ⟨okX12_readNumber, Or.inl (tblG_in (i := 2124) (by decide +kernel) (by decide +kernel)), Or.inr (Or.inl ⟨rfl, tblG_in (i := 2126) (by decide +kernel) (by decide +kernel), tblG_sel (i := 87) (by decide +kernel) (by decide +kernel), rfl⟩)⟩
theorem l_12_349 : Cond.methodLink (cn 12) 349 (my mX12_readNumber) ∈ tblG := tblG_in (i := 2124) (by decide +kernel) (by decide +kernel)
theorem k_12_354 : MLk 12 354 mX12_readWord 1 1 := ⟨okX12_readWord, Or.inl (tblG_in (i := 2116) (by decide +kernel) (by decide +kernel)), Or.inr (Or.inl ⟨rfl, tblG_in (i := 2118) (by decide +kernel) (by decide +kernel), tblG_sel (i := 85) (by decide +kernel) (by decide +kernel), rfl⟩)⟩
theorem l_12_354 : Cond.methodLink (cn 12) 354 (my mX12_readWord) ∈ tblG := tblG_in (i := 2116) (by decide +kernel) (by decide +kernel)
theorem g_12_359 : Cond.constantLong (cn 12) 359 (9) ∈ tblG := tblG_in (i := 2070) (by decide +kernel) (by decide +kernel)
theorem k_12_361 : MLk 12 361 mX12_readSaying 1 1 := ⟨okX12_readSaying, Or.inl (tblG_in (i := 2085) (by decide +kernel) (by decide +kernel)), Or.inr (Or.inl ⟨rfl, tblG_in (i := 2087) (by decide +kernel) (by decide +kernel), tblG_sel (i := 80) (by decide +kernel) (by decide +kernel), rfl⟩)⟩
theorem l_12_361 : Cond.methodLink (cn 12) 361 (my mX12_readSaying) ∈ tblG := tblG_in (i := 2085) (by decide +kernel) (by decide +kernel)
theorem f_12_364 : FLg 12 364 12 18 := ⟨_, _, _, rfl, by decide, inX12, tblG_in (i := 1777) (by decide +kernel) (by decide +kernel)⟩
theorem p_12_364 : FLp 12 364 12 18 false (tyX12 18) := ⟨_, _, _, tyX12, rfl, by decide, inX12, tblG_in (i := 1777) (by decide +kernel) (by decide +kernel), tyX12_ok, nmX12, rfl, tyX12_ok 18 (by decide), fun q => by cases q⟩
theorem k_12_367 : MLk 12 367 mX12_keeps 1 3 := ⟨okX12_keeps, Or.inl (tblG_in (i := 2158) (by decide +kernel) (by decide +kernel)), Or.inr (Or.inl ⟨rfl, tblG_in (i := 2160) (by decide +kernel) (by decide +kernel), tblG_sel (i := 91) (by decide +kernel) (by decide +kernel), rfl⟩)⟩
theorem l_12_367 : Cond.methodLink (cn 12) 367 (my mX12_keeps) ∈ tblG := tblG_in (i := 2158) (by decide +kernel) (by decide +kernel)
theorem k_12_371 : MLk 12 371 mX12_isTelling 1 1 := ⟨okX12_isTelling, Or.inl (tblG_in (i := 2170) (by decide +kernel) (by decide +kernel)), Or.inr (Or.inl ⟨rfl, tblG_in (i := 2172) (by decide +kernel) (by decide +kernel), tblG_sel (i := 92) (by decide +kernel) (by decide +kernel), rfl⟩)⟩
theorem l_12_371 : Cond.methodLink (cn 12) 371 (my mX12_isTelling) ∈ tblG := tblG_in (i := 2170) (by decide +kernel) (by decide +kernel)
theorem k_12_374 : MLk 12 374 mX12_sayingsOf 1 1 := ⟨okX12_sayingsOf, Or.inl (tblG_in (i := 2174) (by decide +kernel) (by decide +kernel)), Or.inr (Or.inl ⟨rfl, tblG_in (i := 2176) (by decide +kernel) (by decide +kernel), tblG_sel (i := 93) (by decide +kernel) (by decide +kernel), rfl⟩)⟩
theorem l_12_374 : Cond.methodLink (cn 12) 374 (my mX12_sayingsOf) ∈ tblG := tblG_in (i := 2174) (by decide +kernel) (by decide +kernel)
theorem k_12_377 : MLk 12 377 mX12_join 0 4 := ⟨okX12_join, Or.inl (tblG_in (i := 2216) (by decide +kernel) (by decide +kernel)), Or.inl ⟨rfl, tblG_in (i := 2217) (by decide +kernel) (by decide +kernel)⟩⟩
theorem l_12_377 : Cond.methodLink (cn 12) 377 (my mX12_join) ∈ tblG := tblG_in (i := 2216) (by decide +kernel) (by decide +kernel)
theorem k_12_381 : MLk 12 381 mX12_onTimes 1 6 := ⟨okX12_onTimes, Or.inl (tblG_in (i := 2201) (by decide +kernel) (by decide +kernel)), Or.inr (Or.inl ⟨rfl, tblG_in (i := 2203) (by decide +kernel) (by decide +kernel), tblG_sel (i := 98) (by decide +kernel) (by decide +kernel), rfl⟩)⟩
theorem l_12_381 : Cond.methodLink (cn 12) 381 (my mX12_onTimes) ∈ tblG := tblG_in (i := 2201) (by decide +kernel) (by decide +kernel)
theorem k_12_385 : MLk 12 385 mX12_until 1 7 := ⟨okX12_until, Or.inl (tblG_in (i := 2219) (by decide +kernel) (by decide +kernel)), Or.inr (Or.inl ⟨rfl, tblG_in (i := 2221) (by decide +kernel) (by decide +kernel), tblG_sel (i := 101) (by decide +kernel) (by decide +kernel), rfl⟩)⟩
theorem l_12_385 : Cond.methodLink (cn 12) 385 (my mX12_until) ∈ tblG := tblG_in (i := 2219) (by decide +kernel) (by decide +kernel)
theorem k_12_388 : MLk 12 388 mX12_far 1 6 := ⟨okX12_far, Or.inl (tblG_in (i := 2231) (by decide +kernel) (by decide +kernel)), Or.inr (Or.inl ⟨rfl, tblG_in (i := 2233) (by decide +kernel) (by decide +kernel), tblG_sel (i := 103) (by decide +kernel) (by decide +kernel), rfl⟩)⟩
theorem l_12_388 : Cond.methodLink (cn 12) 388 (my mX12_far) ∈ tblG := tblG_in (i := 2231) (by decide +kernel) (by decide +kernel)
theorem k_12_390 : MLk 12 390 mX12_isOver 1 3 := ⟨okX12_isOver, Or.inl (tblG_in (i := 2239) (by decide +kernel) (by decide +kernel)), Or.inr (Or.inl ⟨rfl, tblG_in (i := 2241) (by decide +kernel) (by decide +kernel), tblG_sel (i := 105) (by decide +kernel) (by decide +kernel), rfl⟩)⟩
theorem l_12_390 : Cond.methodLink (cn 12) 390 (my mX12_isOver) ∈ tblG := tblG_in (i := 2239) (by decide +kernel) (by decide +kernel)
theorem k_12_393 : MLk 12 393 mX12_sideOf 1 2 := ⟨okX12_sideOf, Or.inl (tblG_in (i := 2243) (by decide +kernel) (by decide +kernel)), Or.inr (Or.inl ⟨rfl, tblG_in (i := 2245) (by decide +kernel) (by decide +kernel), tblG_sel (i := 106) (by decide +kernel) (by decide +kernel), rfl⟩)⟩
theorem l_12_393 : Cond.methodLink (cn 12) 393 (my mX12_sideOf) ∈ tblG := tblG_in (i := 2243) (by decide +kernel) (by decide +kernel)
theorem k_12_396 : MLk 12 396 mX12_nth 1 8 := ⟨okX12_nth, Or.inl (tblG_in (i := 2247) (by decide +kernel) (by decide +kernel)), Or.inr (Or.inl ⟨rfl, tblG_in (i := 2249) (by decide +kernel) (by decide +kernel), tblG_sel (i := 107) (by decide +kernel) (by decide +kernel), rfl⟩)⟩
theorem l_12_396 : Cond.methodLink (cn 12) 396 (my mX12_nth) ∈ tblG := tblG_in (i := 2247) (by decide +kernel) (by decide +kernel)
theorem k_12_400 : MLk 12 400 mX12_patience 1 1 := ⟨okX12_patience, Or.inl (tblG_in (i := 2205) (by decide +kernel) (by decide +kernel)), Or.inr (Or.inl ⟨rfl, tblG_in (i := 2207) (by decide +kernel) (by decide +kernel), tblG_sel (i := 99) (by decide +kernel) (by decide +kernel), rfl⟩)⟩
theorem l_12_400 : Cond.methodLink (cn 12) 400 (my mX12_patience) ∈ tblG := tblG_in (i := 2205) (by decide +kernel) (by decide +kernel)
theorem k_12_403 : MLk 12 403 mX12_copy 0 4 := ⟨okX12_copy, Or.inl (tblG_in (i := 2209) (by decide +kernel) (by decide +kernel)), Or.inl ⟨rfl, tblG_in (i := 2210) (by decide +kernel) (by decide +kernel)⟩⟩
theorem l_12_403 : Cond.methodLink (cn 12) 403 (my mX12_copy) ∈ tblG := tblG_in (i := 2209) (by decide +kernel) (by decide +kernel)
theorem k_12_406 : MLk 12 406 mX12_goOn 1 4 := ⟨okX12_goOn, Or.inl (tblG_in (i := 2212) (by decide +kernel) (by decide +kernel)), Or.inr (Or.inl ⟨rfl, tblG_in (i := 2214) (by decide +kernel) (by decide +kernel), tblG_sel (i := 100) (by decide +kernel) (by decide +kernel), rfl⟩)⟩
theorem l_12_406 : Cond.methodLink (cn 12) 406 (my mX12_goOn) ∈ tblG := tblG_in (i := 2212) (by decide +kernel) (by decide +kernel)
theorem k_12_409 : MLk 12 409 mX12_standing 1 2 := ⟨okX12_standing, Or.inl (tblG_in (i := 2223) (by decide +kernel) (by decide +kernel)), Or.inr (Or.inl ⟨rfl, tblG_in (i := 2225) (by decide +kernel) (by decide +kernel), tblG_sel (i := 102) (by decide +kernel) (by decide +kernel), rfl⟩)⟩
theorem l_12_409 : Cond.methodLink (cn 12) 409 (my mX12_standing) ∈ tblG := tblG_in (i := 2223) (by decide +kernel) (by decide +kernel)
theorem k_12_411 : MLk 12 411 mX12_isNone 0 2 := ⟨okX12_isNone, Or.inl (tblG_in (i := 2227) (by decide +kernel) (by decide +kernel)), Or.inl ⟨rfl, tblG_in (i := 2228) (by decide +kernel) (by decide +kernel)⟩⟩
theorem l_12_411 : Cond.methodLink (cn 12) 411 (my mX12_isNone) ∈ tblG := tblG_in (i := 2227) (by decide +kernel) (by decide +kernel)
theorem g_12_415 : Cond.constantLong (cn 12) 415 (-1) ∈ tblG := tblG_in (i := 2230) (by decide +kernel) (by decide +kernel)
theorem k_12_417 : MLk 12 417 mX12_goOnFar 1 2 := ⟨okX12_goOnFar, Or.inl (tblG_in (i := 2235) (by decide +kernel) (by decide +kernel)), Or.inr (Or.inl ⟨rfl, tblG_in (i := 2237) (by decide +kernel) (by decide +kernel), tblG_sel (i := 104) (by decide +kernel) (by decide +kernel), rfl⟩)⟩
theorem l_12_417 : Cond.methodLink (cn 12) 417 (my mX12_goOnFar) ∈ tblG := tblG_in (i := 2235) (by decide +kernel) (by decide +kernel)
theorem k_12_420 : MLk 12 420 mX12_countsPaths 1 1 := ⟨okX12_countsPaths, Or.inl (tblG_in (i := 2251) (by decide +kernel) (by decide +kernel)), Or.inr (Or.inl ⟨rfl, tblG_in (i := 2253) (by decide +kernel) (by decide +kernel), tblG_sel (i := 108) (by decide +kernel) (by decide +kernel), rfl⟩)⟩
theorem l_12_420 : Cond.methodLink (cn 12) 420 (my mX12_countsPaths) ∈ tblG := tblG_in (i := 2251) (by decide +kernel) (by decide +kernel)
theorem k_12_423 : MLk 12 423 mX12_word 1 8 := ⟨okX12_word, Or.inl (tblG_in (i := 2197) (by decide +kernel) (by decide +kernel)), Or.inr (Or.inl ⟨rfl, tblG_in (i := 2199) (by decide +kernel) (by decide +kernel), tblG_sel (i := 97) (by decide +kernel) (by decide +kernel), rfl⟩)⟩
theorem l_12_423 : Cond.methodLink (cn 12) 423 (my mX12_word) ∈ tblG := tblG_in (i := 2197) (by decide +kernel) (by decide +kernel)
theorem k_12_426 : MLk 12 426 mX12_says 1 3 := ⟨okX12_says, Or.inl (tblG_in (i := 2193) (by decide +kernel) (by decide +kernel)), Or.inr (Or.inl ⟨rfl, tblG_in (i := 2195) (by decide +kernel) (by decide +kernel), tblG_sel (i := 96) (by decide +kernel) (by decide +kernel), rfl⟩)⟩
theorem l_12_426 : Cond.methodLink (cn 12) 426 (my mX12_says) ∈ tblG := tblG_in (i := 2193) (by decide +kernel) (by decide +kernel)
theorem k_12_430 : MLk 12 430 mX12_goes 1 5 := ⟨okX12_goes, Or.inl (tblG_in (i := 2186) (by decide +kernel) (by decide +kernel)), Or.inr (Or.inl ⟨rfl, tblG_in (i := 2188) (by decide +kernel) (by decide +kernel), tblG_sel (i := 95) (by decide +kernel) (by decide +kernel), rfl⟩)⟩
theorem l_12_430 : Cond.methodLink (cn 12) 430 (my mX12_goes) ∈ tblG := tblG_in (i := 2186) (by decide +kernel) (by decide +kernel)
theorem k_12_434 : MLk 12 434 mX12_placesOf 1 1 := ⟨okX12_placesOf, Or.inl (tblG_in (i := 2263) (by decide +kernel) (by decide +kernel)), Or.inr (Or.inl ⟨rfl, tblG_in (i := 2265) (by decide +kernel) (by decide +kernel), tblG_sel (i := 109) (by decide +kernel) (by decide +kernel), rfl⟩)⟩
theorem l_12_434 : Cond.methodLink (cn 12) 434 (my mX12_placesOf) ∈ tblG := tblG_in (i := 2263) (by decide +kernel) (by decide +kernel)
theorem k_12_438 : MLk 12 438 mX12_goalOf 1 1 := ⟨okX12_goalOf, Or.inl (tblG_in (i := 2275) (by decide +kernel) (by decide +kernel)), Or.inr (Or.inl ⟨rfl, tblG_in (i := 2277) (by decide +kernel) (by decide +kernel), tblG_sel (i := 111) (by decide +kernel) (by decide +kernel), rfl⟩)⟩
theorem l_12_438 : Cond.methodLink (cn 12) 438 (my mX12_goalOf) ∈ tblG := tblG_in (i := 2275) (by decide +kernel) (by decide +kernel)
theorem k_12_441 : MLk 12 441 mX12_areThere 1 3 := ⟨okX12_areThere, Or.inl (tblG_in (i := 2182) (by decide +kernel) (by decide +kernel)), Or.inr (Or.inl ⟨rfl, tblG_in (i := 2184) (by decide +kernel) (by decide +kernel), tblG_sel (i := 94) (by decide +kernel) (by decide +kernel), rfl⟩)⟩
theorem l_12_441 : Cond.methodLink (cn 12) 441 (my mX12_areThere) ∈ tblG := tblG_in (i := 2182) (by decide +kernel) (by decide +kernel)
theorem k_12_444 : MLk 12 444 mX12_isRight 1 4 := ⟨okX12_isRight, Or.inl (tblG_in (i := 2271) (by decide +kernel) (by decide +kernel)), Or.inr (Or.inl ⟨rfl, tblG_in (i := 2273) (by decide +kernel) (by decide +kernel), tblG_sel (i := 110) (by decide +kernel) (by decide +kernel), rfl⟩)⟩
theorem l_12_444 : Cond.methodLink (cn 12) 444 (my mX12_isRight) ∈ tblG := tblG_in (i := 2271) (by decide +kernel) (by decide +kernel)
theorem k_12_447 : MLk 12 447 mX12_parted 1 3 := ⟨okX12_parted, Or.inl (tblG_in (i := 2292) (by decide +kernel) (by decide +kernel)), Or.inr (Or.inl ⟨rfl, tblG_in (i := 2294) (by decide +kernel) (by decide +kernel), tblG_sel (i := 114) (by decide +kernel) (by decide +kernel), rfl⟩)⟩
theorem l_12_447 : Cond.methodLink (cn 12) 447 (my mX12_parted) ∈ tblG := tblG_in (i := 2292) (by decide +kernel) (by decide +kernel)
theorem g_12_451 : Cond.constant (cn 12) 451 (1000000) ∈ tblG := tblG_in (i := 2287) (by decide +kernel) (by decide +kernel)
theorem k_12_452 : MLk 12 452 mX12_oddsOn 1 3 := ⟨okX12_oddsOn, Or.inl (tblG_in (i := 2288) (by decide +kernel) (by decide +kernel)), Or.inr (Or.inl ⟨rfl, tblG_in (i := 2290) (by decide +kernel) (by decide +kernel), tblG_sel (i := 113) (by decide +kernel) (by decide +kernel), rfl⟩)⟩
theorem l_12_452 : Cond.methodLink (cn 12) 452 (my mX12_oddsOn) ∈ tblG := tblG_in (i := 2288) (by decide +kernel) (by decide +kernel)
theorem k_12_455 : MLk 12 455 mX12_oddsFrom 1 4 := ⟨okX12_oddsFrom, Or.inl (tblG_in (i := 2283) (by decide +kernel) (by decide +kernel)), Or.inr (Or.inl ⟨rfl, tblG_in (i := 2285) (by decide +kernel) (by decide +kernel), tblG_sel (i := 112) (by decide +kernel) (by decide +kernel), rfl⟩)⟩
theorem l_12_455 : Cond.methodLink (cn 12) 455 (my mX12_oddsFrom) ∈ tblG := tblG_in (i := 2283) (by decide +kernel) (by decide +kernel)
theorem k_12_458 : MLk 12 458 mX12_shareAt 1 1 := ⟨okX12_shareAt, Or.inl (tblG_in (i := 2296) (by decide +kernel) (by decide +kernel)), Or.inr (Or.inl ⟨rfl, tblG_in (i := 2298) (by decide +kernel) (by decide +kernel), tblG_sel (i := 115) (by decide +kernel) (by decide +kernel), rfl⟩)⟩
theorem l_12_458 : Cond.methodLink (cn 12) 458 (my mX12_shareAt) ∈ tblG := tblG_in (i := 2296) (by decide +kernel) (by decide +kernel)
theorem g_12_461 : Cond.constantLong (cn 12) 461 (1000000) ∈ tblG := tblG_in (i := 2316) (by decide +kernel) (by decide +kernel)
theorem f_12_463 : FLg 12 463 12 36 := ⟨_, _, _, rfl, by decide, inX12, tblG_in (i := 1795) (by decide +kernel) (by decide +kernel)⟩
theorem p_12_463 : FLp 12 463 12 36 false (tyX12 36) := ⟨_, _, _, tyX12, rfl, by decide, inX12, tblG_in (i := 1795) (by decide +kernel) (by decide +kernel), tyX12_ok, nmX12, rfl, tyX12_ok 36 (by decide), fun q => by cases q⟩
theorem f_12_466 : FLg 12 466 12 35 := ⟨_, _, _, rfl, by decide, inX12, tblG_in (i := 1794) (by decide +kernel) (by decide +kernel)⟩
theorem p_12_466 : FLp 12 466 12 35 false (tyX12 35) := ⟨_, _, _, tyX12, rfl, by decide, inX12, tblG_in (i := 1794) (by decide +kernel) (by decide +kernel), tyX12_ok, nmX12, rfl, tyX12_ok 35 (by decide), fun q => by cases q⟩
theorem k_12_469 : MLk 12 469 mX12_areAll 1 1 := ⟨okX12_areAll, Or.inl (tblG_in (i := 2330) (by decide +kernel) (by decide +kernel)), Or.inr (Or.inl ⟨rfl, tblG_in (i := 2332) (by decide +kernel) (by decide +kernel), tblG_sel (i := 117) (by decide +kernel) (by decide +kernel), rfl⟩)⟩
theorem l_12_469 : Cond.methodLink (cn 12) 469 (my mX12_areAll) ∈ tblG := tblG_in (i := 2330) (by decide +kernel) (by decide +kernel)
theorem k_12_472 : MLk 12 472 mX12_tries 1 2 := ⟨okX12_tries, Or.inl (tblG_in (i := 2334) (by decide +kernel) (by decide +kernel)), Or.inr (Or.inl ⟨rfl, tblG_in (i := 2336) (by decide +kernel) (by decide +kernel), tblG_sel (i := 118) (by decide +kernel) (by decide +kernel), rfl⟩)⟩
theorem l_12_472 : Cond.methodLink (cn 12) 472 (my mX12_tries) ∈ tblG := tblG_in (i := 2334) (by decide +kernel) (by decide +kernel)
theorem k_12_475 : MLk 12 475 mX12_seek 1 2 := ⟨okX12_seek, Or.inl (tblG_in (i := 2326) (by decide +kernel) (by decide +kernel)), Or.inr (Or.inl ⟨rfl, tblG_in (i := 2328) (by decide +kernel) (by decide +kernel), tblG_sel (i := 116) (by decide +kernel) (by decide +kernel), rfl⟩)⟩
theorem l_12_475 : Cond.methodLink (cn 12) 475 (my mX12_seek) ∈ tblG := tblG_in (i := 2326) (by decide +kernel) (by decide +kernel)
theorem g_12_478 : Cond.constantLong (cn 12) 478 (3) ∈ tblG := tblG_in (i := 2325) (by decide +kernel) (by decide +kernel)
theorem k_12_480 : MLk 12 480 mX12_isAsWent 1 1 := ⟨okX12_isAsWent, Or.inl (tblG_in (i := 2346) (by decide +kernel) (by decide +kernel)), Or.inr (Or.inl ⟨rfl, tblG_in (i := 2348) (by decide +kernel) (by decide +kernel), tblG_sel (i := 119) (by decide +kernel) (by decide +kernel), rfl⟩)⟩
theorem l_12_480 : Cond.methodLink (cn 12) 480 (my mX12_isAsWent) ∈ tblG := tblG_in (i := 2346) (by decide +kernel) (by decide +kernel)
theorem k_12_483 : MLk 12 483 mX12_records 1 2 := ⟨okX12_records, Or.inl (tblG_in (i := 2354) (by decide +kernel) (by decide +kernel)), Or.inr (Or.inl ⟨rfl, tblG_in (i := 2356) (by decide +kernel) (by decide +kernel), tblG_sel (i := 120) (by decide +kernel) (by decide +kernel), rfl⟩)⟩
theorem l_12_483 : Cond.methodLink (cn 12) 483 (my mX12_records) ∈ tblG := tblG_in (i := 2354) (by decide +kernel) (by decide +kernel)
theorem k_12_487 : MLk 12 487 mX12_isTray 0 1 := ⟨okX12_isTray, Or.inl (tblG_in (i := 2366) (by decide +kernel) (by decide +kernel)), Or.inl ⟨rfl, tblG_in (i := 2367) (by decide +kernel) (by decide +kernel)⟩⟩
theorem l_12_487 : Cond.methodLink (cn 12) 487 (my mX12_isTray) ∈ tblG := tblG_in (i := 2366) (by decide +kernel) (by decide +kernel)
theorem g_12_490 : Cond.constantLong (cn 12) 490 (12) ∈ tblG := tblG_in (i := 2369) (by decide +kernel) (by decide +kernel)
theorem g_12_492 : Cond.constantLong (cn 12) 492 (30) ∈ tblG := tblG_in (i := 2378) (by decide +kernel) (by decide +kernel)
theorem g_12_494 : Cond.constantLong (cn 12) 494 (6) ∈ tblG := tblG_in (i := 2391) (by decide +kernel) (by decide +kernel)
theorem k_13_7 : MLk 13 7 mX11_place 1 2 := ⟨okX11_place, Or.inl (tblG_in (i := 604) (by decide +kernel) (by decide +kernel)), Or.inr (Or.inl ⟨rfl, tblG_in (i := 605) (by decide +kernel) (by decide +kernel), tblG_in (i := 606) (by decide +kernel) (by decide +kernel), rfl⟩)⟩
theorem l_13_7 : Cond.methodLink (cn 13) 7 (my mX11_place) ∈ tblG := tblG_in (i := 604) (by decide +kernel) (by decide +kernel)
theorem n_13_8 : CLn 13 8 11 [.null, .null, .null, .null, .null, .null, .null, .null, .null, .null, .null, .null] := ⟨_, _, _, tyX11, rfl, inX11, tyX11_ok, tblG_in (i := 34) (by decide +kernel) (by decide +kernel), tblG_in (i := 35) (by decide +kernel) (by decide +kernel), iniG11, by decide +kernel, rfl⟩
theorem k_13_15 : MLk 13 15 mX11_way 1 6 := ⟨okX11_way, Or.inl (tblG_in (i := 686) (by decide +kernel) (by decide +kernel)), Or.inr (Or.inl ⟨rfl, tblG_in (i := 687) (by decide +kernel) (by decide +kernel), tblG_in (i := 688) (by decide +kernel) (by decide +kernel), rfl⟩)⟩
theorem l_13_15 : Cond.methodLink (cn 13) 15 (my mX11_way) ∈ tblG := tblG_in (i := 686) (by decide +kernel) (by decide +kernel)
theorem k_13_21 : MLk 13 21 mX11_mark 1 5 := ⟨okX11_mark, Or.inl (tblG_in (i := 728) (by decide +kernel) (by decide +kernel)), Or.inr (Or.inl ⟨rfl, tblG_in (i := 729) (by decide +kernel) (by decide +kernel), tblG_in (i := 730) (by decide +kernel) (by decide +kernel), rfl⟩)⟩
theorem l_13_21 : Cond.methodLink (cn 13) 21 (my mX11_mark) ∈ tblG := tblG_in (i := 728) (by decide +kernel) (by decide +kernel)
theorem k_13_25 : MLk 13 25 mX11_ends 1 3 := ⟨okX11_ends, Or.inl (tblG_in (i := 739) (by decide +kernel) (by decide +kernel)), Or.inr (Or.inl ⟨rfl, tblG_in (i := 740) (by decide +kernel) (by decide +kernel), tblG_in (i := 741) (by decide +kernel) (by decide +kernel), rfl⟩)⟩
theorem l_13_25 : Cond.methodLink (cn 13) 25 (my mX11_ends) ∈ tblG := tblG_in (i := 739) (by decide +kernel) (by decide +kernel)
theorem k_13_29 : MLk 13 29 mX11_state 1 2 := ⟨okX11_state, Or.inl (tblG_in (i := 746) (by decide +kernel) (by decide +kernel)), Or.inr (Or.inl ⟨rfl, tblG_in (i := 747) (by decide +kernel) (by decide +kernel), tblG_in (i := 748) (by decide +kernel) (by decide +kernel), rfl⟩)⟩
theorem l_13_29 : Cond.methodLink (cn 13) 29 (my mX11_state) ∈ tblG := tblG_in (i := 746) (by decide +kernel) (by decide +kernel)
theorem k_13_32 : MLk 13 32 mX11_out 1 3 := ⟨okX11_out, Or.inl (tblG_in (i := 757) (by decide +kernel) (by decide +kernel)), Or.inr (Or.inl ⟨rfl, tblG_in (i := 758) (by decide +kernel) (by decide +kernel), tblG_in (i := 759) (by decide +kernel) (by decide +kernel), rfl⟩)⟩
theorem l_13_32 : Cond.methodLink (cn 13) 32 (my mX11_out) ∈ tblG := tblG_in (i := 757) (by decide +kernel) (by decide +kernel)
theorem k_13_36 : MLk 13 36 mX11_on 1 3 := ⟨okX11_on, Or.inl (tblG_in (i := 1099) (by decide +kernel) (by decide +kernel)), Or.inr (Or.inl ⟨rfl, tblG_in (i := 1100) (by decide +kernel) (by decide +kernel), tblG_in (i := 1101) (by decide +kernel) (by decide +kernel), rfl⟩)⟩
theorem l_13_36 : Cond.methodLink (cn 13) 36 (my mX11_on) ∈ tblG := tblG_in (i := 1099) (by decide +kernel) (by decide +kernel)
theorem k_13_39 : MLk 13 39 mX11_means 1 3 := ⟨okX11_means, Or.inl (tblG_in (i := 1125) (by decide +kernel) (by decide +kernel)), Or.inr (Or.inl ⟨rfl, tblG_in (i := 1126) (by decide +kernel) (by decide +kernel), tblG_in (i := 1127) (by decide +kernel) (by decide +kernel), rfl⟩)⟩
theorem l_13_39 : Cond.methodLink (cn 13) 39 (my mX11_means) ∈ tblG := tblG_in (i := 1125) (by decide +kernel) (by decide +kernel)
theorem k_13_42 : MLk 13 42 mX11_walker 1 5 := ⟨okX11_walker, Or.inl (tblG_in (i := 1144) (by decide +kernel) (by decide +kernel)), Or.inr (Or.inl ⟨rfl, tblG_in (i := 1145) (by decide +kernel) (by decide +kernel), tblG_in (i := 1146) (by decide +kernel) (by decide +kernel), rfl⟩)⟩
theorem l_13_42 : Cond.methodLink (cn 13) 42 (my mX11_walker) ∈ tblG := tblG_in (i := 1144) (by decide +kernel) (by decide +kernel)
theorem k_13_46 : MLk 13 46 mX11_stands 1 5 := ⟨okX11_stands, Or.inl (tblG_in (i := 1155) (by decide +kernel) (by decide +kernel)), Or.inr (Or.inl ⟨rfl, tblG_in (i := 1156) (by decide +kernel) (by decide +kernel), tblG_in (i := 1157) (by decide +kernel) (by decide +kernel), rfl⟩)⟩
theorem l_13_46 : Cond.methodLink (cn 13) 46 (my mX11_stands) ∈ tblG := tblG_in (i := 1155) (by decide +kernel) (by decide +kernel)
theorem k_13_50 : MLk 13 50 mX11_worth 1 4 := ⟨okX11_worth, Or.inl (tblG_in (i := 1200) (by decide +kernel) (by decide +kernel)), Or.inr (Or.inl ⟨rfl, tblG_in (i := 1201) (by decide +kernel) (by decide +kernel), tblG_in (i := 1202) (by decide +kernel) (by decide +kernel), rfl⟩)⟩
theorem l_13_50 : Cond.methodLink (cn 13) 50 (my mX11_worth) ∈ tblG := tblG_in (i := 1200) (by decide +kernel) (by decide +kernel)
theorem k_13_54 : MLk 13 54 mX11_telling 1 3 := ⟨okX11_telling, Or.inl (tblG_in (i := 1221) (by decide +kernel) (by decide +kernel)), Or.inr (Or.inl ⟨rfl, tblG_in (i := 1222) (by decide +kernel) (by decide +kernel), tblG_in (i := 1223) (by decide +kernel) (by decide +kernel), rfl⟩)⟩
theorem l_13_54 : Cond.methodLink (cn 13) 54 (my mX11_telling) ∈ tblG := tblG_in (i := 1221) (by decide +kernel) (by decide +kernel)
theorem k_13_57 : MLk 13 57 mX11_sayings 1 1 := ⟨okX11_sayings, Or.inl (tblG_in (i := 1324) (by decide +kernel) (by decide +kernel)), Or.inr (Or.inl ⟨rfl, tblG_in (i := 1325) (by decide +kernel) (by decide +kernel), tblG_in (i := 1326) (by decide +kernel) (by decide +kernel), rfl⟩)⟩
theorem l_13_57 : Cond.methodLink (cn 13) 57 (my mX11_sayings) ∈ tblG := tblG_in (i := 1324) (by decide +kernel) (by decide +kernel)
theorem k_13_61 : MLk 13 61 mX11_leads 1 6 := ⟨okX11_leads, Or.inl (tblG_in (i := 1335) (by decide +kernel) (by decide +kernel)), Or.inr (Or.inl ⟨rfl, tblG_in (i := 1336) (by decide +kernel) (by decide +kernel), tblG_in (i := 1337) (by decide +kernel) (by decide +kernel), rfl⟩)⟩
theorem l_13_61 : Cond.methodLink (cn 13) 61 (my mX11_leads) ∈ tblG := tblG_in (i := 1335) (by decide +kernel) (by decide +kernel)
theorem k_13_64 : MLk 13 64 mX11_holds 1 4 := ⟨okX11_holds, Or.inl (tblG_in (i := 1433) (by decide +kernel) (by decide +kernel)), Or.inr (Or.inl ⟨rfl, tblG_in (i := 1434) (by decide +kernel) (by decide +kernel), tblG_in (i := 1435) (by decide +kernel) (by decide +kernel), rfl⟩)⟩
theorem l_13_64 : Cond.methodLink (cn 13) 64 (my mX11_holds) ∈ tblG := tblG_in (i := 1433) (by decide +kernel) (by decide +kernel)
theorem k_13_67 : MLk 13 67 mX11_end 1 5 := ⟨okX11_end, Or.inl (tblG_in (i := 1440) (by decide +kernel) (by decide +kernel)), Or.inr (Or.inl ⟨rfl, tblG_in (i := 1441) (by decide +kernel) (by decide +kernel), tblG_in (i := 1442) (by decide +kernel) (by decide +kernel), rfl⟩)⟩
theorem l_13_67 : Cond.methodLink (cn 13) 67 (my mX11_end) ∈ tblG := tblG_in (i := 1440) (by decide +kernel) (by decide +kernel)
theorem k_13_71 : MLk 13 71 mX11_right 1 4 := ⟨okX11_right, Or.inl (tblG_in (i := 1462) (by decide +kernel) (by decide +kernel)), Or.inr (Or.inl ⟨rfl, tblG_in (i := 1463) (by decide +kernel) (by decide +kernel), tblG_in (i := 1464) (by decide +kernel) (by decide +kernel), rfl⟩)⟩
theorem l_13_71 : Cond.methodLink (cn 13) 71 (my mX11_right) ∈ tblG := tblG_in (i := 1462) (by decide +kernel) (by decide +kernel)
theorem k_13_75 : MLk 13 75 mX11_odds 1 5 := ⟨okX11_odds, Or.inl (tblG_in (i := 1473) (by decide +kernel) (by decide +kernel)), Or.inr (Or.inl ⟨rfl, tblG_in (i := 1474) (by decide +kernel) (by decide +kernel), tblG_in (i := 1475) (by decide +kernel) (by decide +kernel), rfl⟩)⟩
theorem l_13_75 : Cond.methodLink (cn 13) 75 (my mX11_odds) ∈ tblG := tblG_in (i := 1473) (by decide +kernel) (by decide +kernel)
theorem k_13_78 : MLk 13 78 mX11_parts 1 4 := ⟨okX11_parts, Or.inl (tblG_in (i := 1501) (by decide +kernel) (by decide +kernel)), Or.inr (Or.inl ⟨rfl, tblG_in (i := 1502) (by decide +kernel) (by decide +kernel), tblG_in (i := 1503) (by decide +kernel) (by decide +kernel), rfl⟩)⟩
theorem l_13_78 : Cond.methodLink (cn 13) 78 (my mX11_parts) ∈ tblG := tblG_in (i := 1501) (by decide +kernel) (by decide +kernel)
theorem k_13_81 : MLk 13 81 mX11_hangs 1 5 := ⟨okX11_hangs, Or.inl (tblG_in (i := 1508) (by decide +kernel) (by decide +kernel)), Or.inr (Or.inl ⟨rfl, tblG_in (i := 1509) (by decide +kernel) (by decide +kernel), tblG_in (i := 1510) (by decide +kernel) (by decide +kernel), rfl⟩)⟩
theorem l_13_81 : Cond.methodLink (cn 13) 81 (my mX11_hangs) ∈ tblG := tblG_in (i := 1508) (by decide +kernel) (by decide +kernel)
theorem k_13_85 : MLk 13 85 mX11_years 1 4 := ⟨okX11_years, Or.inl (tblG_in (i := 1515) (by decide +kernel) (by decide +kernel)), Or.inr (Or.inl ⟨rfl, tblG_in (i := 1516) (by decide +kernel) (by decide +kernel), tblG_in (i := 1517) (by decide +kernel) (by decide +kernel), rfl⟩)⟩
theorem l_13_85 : Cond.methodLink (cn 13) 85 (my mX11_years) ∈ tblG := tblG_in (i := 1515) (by decide +kernel) (by decide +kernel)
theorem k_13_88 : MLk 13 88 mX11_two 1 7 := ⟨okX11_two, Or.inl (tblG_in (i := 1523) (by decide +kernel) (by decide +kernel)), Or.inr (Or.inl ⟨rfl, tblG_in (i := 1524) (by decide +kernel) (by decide +kernel), tblG_in (i := 1525) (by decide +kernel) (by decide +kernel), rfl⟩)⟩
theorem l_13_88 : Cond.methodLink (cn 13) 88 (my mX11_two) ∈ tblG := tblG_in (i := 1523) (by decide +kernel) (by decide +kernel)
theorem k_13_92 : MLk 13 92 mX11_ask 1 7 := ⟨okX11_ask, Or.inl (tblG_in (i := 1541) (by decide +kernel) (by decide +kernel)), Or.inr (Or.inl ⟨rfl, tblG_in (i := 1542) (by decide +kernel) (by decide +kernel), tblG_in (i := 1543) (by decide +kernel) (by decide +kernel), rfl⟩)⟩
theorem l_13_92 : Cond.methodLink (cn 13) 92 (my mX11_ask) ∈ tblG := tblG_in (i := 1541) (by decide +kernel) (by decide +kernel)
theorem k_13_96 : MLk 13 96 mX11_shortest 1 6 := ⟨okX11_shortest, Or.inl (tblG_in (i := 1558) (by decide +kernel) (by decide +kernel)), Or.inr (Or.inl ⟨rfl, tblG_in (i := 1559) (by decide +kernel) (by decide +kernel), tblG_in (i := 1560) (by decide +kernel) (by decide +kernel), rfl⟩)⟩
theorem l_13_96 : Cond.methodLink (cn 13) 96 (my mX11_shortest) ∈ tblG := tblG_in (i := 1558) (by decide +kernel) (by decide +kernel)
theorem k_13_99 : MLk 13 99 mX11_went 1 5 := ⟨okX11_went, Or.inl (tblG_in (i := 1609) (by decide +kernel) (by decide +kernel)), Or.inr (Or.inl ⟨rfl, tblG_in (i := 1610) (by decide +kernel) (by decide +kernel), tblG_in (i := 1611) (by decide +kernel) (by decide +kernel), rfl⟩)⟩
theorem l_13_99 : Cond.methodLink (cn 13) 99 (my mX11_went) ∈ tblG := tblG_in (i := 1609) (by decide +kernel) (by decide +kernel)
theorem k_13_102 : MLk 13 102 mX11_learned 1 2 := ⟨okX11_learned, Or.inl (tblG_in (i := 1620) (by decide +kernel) (by decide +kernel)), Or.inr (Or.inl ⟨rfl, tblG_in (i := 1621) (by decide +kernel) (by decide +kernel), tblG_in (i := 1622) (by decide +kernel) (by decide +kernel), rfl⟩)⟩
theorem l_13_102 : Cond.methodLink (cn 13) 102 (my mX11_learned) ∈ tblG := tblG_in (i := 1620) (by decide +kernel) (by decide +kernel)
theorem k_13_105 : MLk 13 105 mX11_told 1 2 := ⟨okX11_told, Or.inl (tblG_in (i := 1636) (by decide +kernel) (by decide +kernel)), Or.inr (Or.inl ⟨rfl, tblG_in (i := 1637) (by decide +kernel) (by decide +kernel), tblG_in (i := 1638) (by decide +kernel) (by decide +kernel), rfl⟩)⟩
theorem l_13_105 : Cond.methodLink (cn 13) 105 (my mX11_told) ∈ tblG := tblG_in (i := 1636) (by decide +kernel) (by decide +kernel)
theorem k_13_109 : MLk 13 109 mX11_tray 1 3 := ⟨okX11_tray, Or.inl (tblG_in (i := 1643) (by decide +kernel) (by decide +kernel)), Or.inr (Or.inl ⟨rfl, tblG_in (i := 1644) (by decide +kernel) (by decide +kernel), tblG_in (i := 1645) (by decide +kernel) (by decide +kernel), rfl⟩)⟩
theorem l_13_109 : Cond.methodLink (cn 13) 109 (my mX11_tray) ∈ tblG := tblG_in (i := 1643) (by decide +kernel) (by decide +kernel)
theorem k_13_113 : MLk 13 113 mX11_write 1 3 := ⟨okX11_write, Or.inl (tblG_in (i := 1661) (by decide +kernel) (by decide +kernel)), Or.inr (Or.inl ⟨rfl, tblG_in (i := 1662) (by decide +kernel) (by decide +kernel), tblG_in (i := 1663) (by decide +kernel) (by decide +kernel), rfl⟩)⟩
theorem l_13_113 : Cond.methodLink (cn 13) 113 (my mX11_write) ∈ tblG := tblG_in (i := 1661) (by decide +kernel) (by decide +kernel)
theorem k_13_121 : MLk 13 121 mX11_say 1 3 := ⟨okX11_say, Or.inl (tblG_in (i := 1706) (by decide +kernel) (by decide +kernel)), Or.inr (Or.inl ⟨rfl, tblG_in (i := 1707) (by decide +kernel) (by decide +kernel), tblG_in (i := 1708) (by decide +kernel) (by decide +kernel), rfl⟩)⟩
theorem l_13_121 : Cond.methodLink (cn 13) 121 (my mX11_say) ∈ tblG := tblG_in (i := 1706) (by decide +kernel) (by decide +kernel)
theorem k_13_124 : MLk 13 124 mX11_image 1 1 := ⟨okX11_image, Or.inl (tblG_in (i := 1724) (by decide +kernel) (by decide +kernel)), Or.inr (Or.inl ⟨rfl, tblG_in (i := 1725) (by decide +kernel) (by decide +kernel), tblG_in (i := 1726) (by decide +kernel) (by decide +kernel), rfl⟩)⟩
theorem l_13_124 : Cond.methodLink (cn 13) 124 (my mX11_image) ∈ tblG := tblG_in (i := 1724) (by decide +kernel) (by decide +kernel)
theorem k_13_128 : MLk 13 128 mX11_restore 1 1 := ⟨okX11_restore, Or.inl (tblG_in (i := 1749) (by decide +kernel) (by decide +kernel)), Or.inr (Or.inl ⟨rfl, tblG_in (i := 1750) (by decide +kernel) (by decide +kernel), tblG_in (i := 1751) (by decide +kernel) (by decide +kernel), rfl⟩)⟩
theorem l_13_128 : Cond.methodLink (cn 13) 128 (my mX11_restore) ∈ tblG := tblG_in (i := 1749) (by decide +kernel) (by decide +kernel)
theorem k_13_131 : MLk 13 131 mX11_init 2 0 := ⟨okX11_init, Or.inl (tblG_in (i := 36) (by decide +kernel) (by decide +kernel)), Or.inr (Or.inr ⟨rfl, rfl, tblG_in (i := 37) (by decide +kernel) (by decide +kernel), rfl, rfl⟩)⟩
theorem l_13_131 : Cond.methodLink (cn 13) 131 (my mX11_init) ∈ tblG := tblG_in (i := 36) (by decide +kernel) (by decide +kernel)
theorem n_13_132 : CLn 13 132 12 [.null, .null, .null, .int 0, .int 0, .null, .null, .null, .null, .null, .int 0, .int 0, .int 0, .int 0, .int 0, .int 0, .int 0, .int 0, .int 0, .int 0, .null, .null, .null, .null, .null, .null, .null, .null, .null, .null, .null, .null, .null, .null, .null, .int 0, .int 0, .null, .null, .null] := ⟨_, _, _, tyX12, rfl, inX12, tyX12_ok, tblG_in (i := 1753) (by decide +kernel) (by decide +kernel), tblG_in (i := 1754) (by decide +kernel) (by decide +kernel), iniG12, by decide +kernel, rfl⟩
theorem k_13_134 : MLk 13 134 mX12_init 2 0 := ⟨okX12_init, Or.inl (tblG_in (i := 1755) (by decide +kernel) (by decide +kernel)), Or.inr (Or.inr ⟨rfl, rfl, tblG_in (i := 1756) (by decide +kernel) (by decide +kernel), rfl, rfl⟩)⟩
theorem l_13_134 : Cond.methodLink (cn 13) 134 (my mX12_init) ∈ tblG := tblG_in (i := 1755) (by decide +kernel) (by decide +kernel)
theorem k_13_135 : MLk 13 135 mL_place 0 4 := ⟨okL_place, Or.inl (tblG_in (i := 600) (by decide +kernel) (by decide +kernel)), Or.inl ⟨rfl, tblG_in (i := 601) (by decide +kernel) (by decide +kernel)⟩⟩
theorem l_13_135 : Cond.methodLink (cn 13) 135 (my mL_place) ∈ tblG := tblG_in (i := 600) (by decide +kernel) (by decide +kernel)
theorem k_13_140 : MLk 13 140 mX12_place 1 2 := ⟨okX12_place, Or.inl (tblG_in (i := 1884) (by decide +kernel) (by decide +kernel)), Or.inr (Or.inl ⟨rfl, tblG_in (i := 1885) (by decide +kernel) (by decide +kernel), tblG_in (i := 1886) (by decide +kernel) (by decide +kernel), rfl⟩)⟩
theorem l_13_140 : Cond.methodLink (cn 13) 140 (my mX12_place) ∈ tblG := tblG_in (i := 1884) (by decide +kernel) (by decide +kernel)
theorem k_13_141 : MLk 13 141 mX12_thrown 1 0 := ⟨okX12_thrown, Or.inl (tblG_in (i := 1880) (by decide +kernel) (by decide +kernel)), Or.inr (Or.inl ⟨rfl, tblG_in (i := 1881) (by decide +kernel) (by decide +kernel), tblG_in (i := 1882) (by decide +kernel) (by decide +kernel), rfl⟩)⟩
theorem l_13_141 : Cond.methodLink (cn 13) 141 (my mX12_thrown) ∈ tblG := tblG_in (i := 1880) (by decide +kernel) (by decide +kernel)
theorem k_13_145 : MLk 13 145 mL_way 0 8 := ⟨okL_way, Or.inl (tblG_in (i := 682) (by decide +kernel) (by decide +kernel)), Or.inl ⟨rfl, tblG_in (i := 683) (by decide +kernel) (by decide +kernel)⟩⟩
theorem l_13_145 : Cond.methodLink (cn 13) 145 (my mL_way) ∈ tblG := tblG_in (i := 682) (by decide +kernel) (by decide +kernel)
theorem k_13_148 : MLk 13 148 mX12_way 1 6 := ⟨okX12_way, Or.inl (tblG_in (i := 1900) (by decide +kernel) (by decide +kernel)), Or.inr (Or.inl ⟨rfl, tblG_in (i := 1901) (by decide +kernel) (by decide +kernel), tblG_in (i := 1902) (by decide +kernel) (by decide +kernel), rfl⟩)⟩
theorem l_13_148 : Cond.methodLink (cn 13) 148 (my mX12_way) ∈ tblG := tblG_in (i := 1900) (by decide +kernel) (by decide +kernel)
theorem k_13_149 : MLk 13 149 mL_mark 0 7 := ⟨okL_mark, Or.inl (tblG_in (i := 725) (by decide +kernel) (by decide +kernel)), Or.inl ⟨rfl, tblG_in (i := 726) (by decide +kernel) (by decide +kernel)⟩⟩
theorem l_13_149 : Cond.methodLink (cn 13) 149 (my mL_mark) ∈ tblG := tblG_in (i := 725) (by decide +kernel) (by decide +kernel)
theorem k_13_152 : MLk 13 152 mX12_mark 1 5 := ⟨okX12_mark, Or.inl (tblG_in (i := 1921) (by decide +kernel) (by decide +kernel)), Or.inr (Or.inl ⟨rfl, tblG_in (i := 1922) (by decide +kernel) (by decide +kernel), tblG_in (i := 1923) (by decide +kernel) (by decide +kernel), rfl⟩)⟩
theorem l_13_152 : Cond.methodLink (cn 13) 152 (my mX12_mark) ∈ tblG := tblG_in (i := 1921) (by decide +kernel) (by decide +kernel)
theorem k_13_153 : MLk 13 153 mL_ends 0 5 := ⟨okL_ends, Or.inl (tblG_in (i := 736) (by decide +kernel) (by decide +kernel)), Or.inl ⟨rfl, tblG_in (i := 737) (by decide +kernel) (by decide +kernel)⟩⟩
theorem l_13_153 : Cond.methodLink (cn 13) 153 (my mL_ends) ∈ tblG := tblG_in (i := 736) (by decide +kernel) (by decide +kernel)
theorem k_13_156 : MLk 13 156 mX12_ends 1 3 := ⟨okX12_ends, Or.inl (tblG_in (i := 1929) (by decide +kernel) (by decide +kernel)), Or.inr (Or.inl ⟨rfl, tblG_in (i := 1930) (by decide +kernel) (by decide +kernel), tblG_in (i := 1931) (by decide +kernel) (by decide +kernel), rfl⟩)⟩
theorem l_13_156 : Cond.methodLink (cn 13) 156 (my mX12_ends) ∈ tblG := tblG_in (i := 1929) (by decide +kernel) (by decide +kernel)
theorem k_13_157 : MLk 13 157 mL_state 0 4 := ⟨okL_state, Or.inl (tblG_in (i := 743) (by decide +kernel) (by decide +kernel)), Or.inl ⟨rfl, tblG_in (i := 744) (by decide +kernel) (by decide +kernel)⟩⟩
theorem l_13_157 : Cond.methodLink (cn 13) 157 (my mL_state) ∈ tblG := tblG_in (i := 743) (by decide +kernel) (by decide +kernel)
theorem k_13_159 : MLk 13 159 mX12_state 1 2 := ⟨okX12_state, Or.inl (tblG_in (i := 1933) (by decide +kernel) (by decide +kernel)), Or.inr (Or.inl ⟨rfl, tblG_in (i := 1934) (by decide +kernel) (by decide +kernel), tblG_in (i := 1935) (by decide +kernel) (by decide +kernel), rfl⟩)⟩
theorem l_13_159 : Cond.methodLink (cn 13) 159 (my mX12_state) ∈ tblG := tblG_in (i := 1933) (by decide +kernel) (by decide +kernel)
theorem k_13_160 : MLk 13 160 mL_out 0 5 := ⟨okL_out, Or.inl (tblG_in (i := 754) (by decide +kernel) (by decide +kernel)), Or.inl ⟨rfl, tblG_in (i := 755) (by decide +kernel) (by decide +kernel)⟩⟩
theorem l_13_160 : Cond.methodLink (cn 13) 160 (my mL_out) ∈ tblG := tblG_in (i := 754) (by decide +kernel) (by decide +kernel)
theorem k_13_163 : MLk 13 163 mX12_out 1 3 := ⟨okX12_out, Or.inl (tblG_in (i := 1949) (by decide +kernel) (by decide +kernel)), Or.inr (Or.inl ⟨rfl, tblG_in (i := 1950) (by decide +kernel) (by decide +kernel), tblG_in (i := 1951) (by decide +kernel) (by decide +kernel), rfl⟩)⟩
theorem l_13_163 : Cond.methodLink (cn 13) 163 (my mX12_out) ∈ tblG := tblG_in (i := 1949) (by decide +kernel) (by decide +kernel)
theorem k_13_164 : MLk 13 164 mL_on 0 5 := ⟨okL_on, Or.inl (tblG_in (i := 1096) (by decide +kernel) (by decide +kernel)), Or.inl ⟨rfl, tblG_in (i := 1097) (by decide +kernel) (by decide +kernel)⟩⟩
theorem l_13_164 : Cond.methodLink (cn 13) 164 (my mL_on) ∈ tblG := tblG_in (i := 1096) (by decide +kernel) (by decide +kernel)
theorem k_13_166 : MLk 13 166 mX12_on 1 3 := ⟨okX12_on, Or.inl (tblG_in (i := 1973) (by decide +kernel) (by decide +kernel)), Or.inr (Or.inl ⟨rfl, tblG_in (i := 1974) (by decide +kernel) (by decide +kernel), tblG_in (i := 1975) (by decide +kernel) (by decide +kernel), rfl⟩)⟩
theorem l_13_166 : Cond.methodLink (cn 13) 166 (my mX12_on) ∈ tblG := tblG_in (i := 1973) (by decide +kernel) (by decide +kernel)
theorem k_13_167 : MLk 13 167 mX11_tongue 1 0 := ⟨okX11_tongue, Or.inl (tblG_in (i := 568) (by decide +kernel) (by decide +kernel)), Or.inr (Or.inl ⟨rfl, tblG_in (i := 569) (by decide +kernel) (by decide +kernel), tblG_in (i := 570) (by decide +kernel) (by decide +kernel), rfl⟩)⟩
theorem l_13_167 : Cond.methodLink (cn 13) 167 (my mX11_tongue) ∈ tblG := tblG_in (i := 568) (by decide +kernel) (by decide +kernel)
theorem k_13_170 : MLk 13 170 mX12_tongue 1 0 := ⟨okX12_tongue, Or.inl (tblG_in (i := 2012) (by decide +kernel) (by decide +kernel)), Or.inr (Or.inl ⟨rfl, tblG_in (i := 2013) (by decide +kernel) (by decide +kernel), tblG_in (i := 2014) (by decide +kernel) (by decide +kernel), rfl⟩)⟩
theorem l_13_170 : Cond.methodLink (cn 13) 170 (my mX12_tongue) ∈ tblG := tblG_in (i := 2012) (by decide +kernel) (by decide +kernel)
theorem k_13_171 : MLk 13 171 mL_means 0 5 := ⟨okL_means, Or.inl (tblG_in (i := 1122) (by decide +kernel) (by decide +kernel)), Or.inl ⟨rfl, tblG_in (i := 1123) (by decide +kernel) (by decide +kernel)⟩⟩
theorem l_13_171 : Cond.methodLink (cn 13) 171 (my mL_means) ∈ tblG := tblG_in (i := 1122) (by decide +kernel) (by decide +kernel)
theorem k_13_173 : MLk 13 173 mX12_means 1 3 := ⟨okX12_means, Or.inl (tblG_in (i := 2016) (by decide +kernel) (by decide +kernel)), Or.inr (Or.inl ⟨rfl, tblG_in (i := 2017) (by decide +kernel) (by decide +kernel), tblG_in (i := 2018) (by decide +kernel) (by decide +kernel), rfl⟩)⟩
theorem l_13_173 : Cond.methodLink (cn 13) 173 (my mX12_means) ∈ tblG := tblG_in (i := 2016) (by decide +kernel) (by decide +kernel)
theorem k_13_174 : MLk 13 174 mL_walker 0 7 := ⟨okL_walker, Or.inl (tblG_in (i := 1141) (by decide +kernel) (by decide +kernel)), Or.inl ⟨rfl, tblG_in (i := 1142) (by decide +kernel) (by decide +kernel)⟩⟩
theorem l_13_174 : Cond.methodLink (cn 13) 174 (my mL_walker) ∈ tblG := tblG_in (i := 1141) (by decide +kernel) (by decide +kernel)
theorem k_13_177 : MLk 13 177 mX12_walker 1 5 := ⟨okX12_walker, Or.inl (tblG_in (i := 2021) (by decide +kernel) (by decide +kernel)), Or.inr (Or.inl ⟨rfl, tblG_in (i := 2022) (by decide +kernel) (by decide +kernel), tblG_in (i := 2023) (by decide +kernel) (by decide +kernel), rfl⟩)⟩
theorem l_13_177 : Cond.methodLink (cn 13) 177 (my mX12_walker) ∈ tblG := tblG_in (i := 2021) (by decide +kernel) (by decide +kernel)
theorem k_13_178 : MLk 13 178 mL_stands 0 7 := ⟨okL_stands, Or.inl (tblG_in (i := 1152) (by decide +kernel) (by decide +kernel)), Or.inl ⟨rfl, tblG_in (i := 1153) (by decide +kernel) (by decide +kernel)⟩⟩
theorem l_13_178 : Cond.methodLink (cn 13) 178 (my mL_stands) ∈ tblG := tblG_in (i := 1152) (by decide +kernel) (by decide +kernel)
theorem k_13_181 : MLk 13 181 mX12_stands 1 5 := ⟨okX12_stands, Or.inl (tblG_in (i := 2026) (by decide +kernel) (by decide +kernel)), Or.inr (Or.inl ⟨rfl, tblG_in (i := 2027) (by decide +kernel) (by decide +kernel), tblG_in (i := 2028) (by decide +kernel) (by decide +kernel), rfl⟩)⟩
theorem l_13_181 : Cond.methodLink (cn 13) 181 (my mX12_stands) ∈ tblG := tblG_in (i := 2026) (by decide +kernel) (by decide +kernel)
theorem k_13_182 : MLk 13 182 mL_worth 0 6 := ⟨okL_worth, Or.inl (tblG_in (i := 1197) (by decide +kernel) (by decide +kernel)), Or.inl ⟨rfl, tblG_in (i := 1198) (by decide +kernel) (by decide +kernel)⟩⟩
theorem l_13_182 : Cond.methodLink (cn 13) 182 (my mL_worth) ∈ tblG := tblG_in (i := 1197) (by decide +kernel) (by decide +kernel)
theorem k_13_185 : MLk 13 185 mX12_worth 1 4 := ⟨okX12_worth, Or.inl (tblG_in (i := 2058) (by decide +kernel) (by decide +kernel)), Or.inr (Or.inl ⟨rfl, tblG_in (i := 2059) (by decide +kernel) (by decide +kernel), tblG_in (i := 2060) (by decide +kernel) (by decide +kernel), rfl⟩)⟩
theorem l_13_185 : Cond.methodLink (cn 13) 185 (my mX12_worth) ∈ tblG := tblG_in (i := 2058) (by decide +kernel) (by decide +kernel)
theorem k_13_186 : MLk 13 186 mX11_feed 1 5 := ⟨okX11_feed, Or.inl (tblG_in (i := 576) (by decide +kernel) (by decide +kernel)), Or.inr (Or.inl ⟨rfl, tblG_in (i := 577) (by decide +kernel) (by decide +kernel), tblG_in (i := 578) (by decide +kernel) (by decide +kernel), rfl⟩)⟩
theorem l_13_186 : Cond.methodLink (cn 13) 186 (my mX11_feed) ∈ tblG := tblG_in (i := 576) (by decide +kernel) (by decide +kernel)
theorem k_13_189 : MLk 13 189 mX12_feed 1 5 := ⟨okX12_feed, Or.inl (tblG_in (i := 2062) (by decide +kernel) (by decide +kernel)), Or.inr (Or.inl ⟨rfl, tblG_in (i := 2063) (by decide +kernel) (by decide +kernel), tblG_in (i := 2064) (by decide +kernel) (by decide +kernel), rfl⟩)⟩
theorem l_13_189 : Cond.methodLink (cn 13) 189 (my mX12_feed) ∈ tblG := tblG_in (i := 2062) (by decide +kernel) (by decide +kernel)
theorem k_13_190 : MLk 13 190 mL_telling 0 5 := ⟨okL_telling, Or.inl (tblG_in (i := 1218) (by decide +kernel) (by decide +kernel)), Or.inl ⟨rfl, tblG_in (i := 1219) (by decide +kernel) (by decide +kernel)⟩⟩
theorem l_13_190 : Cond.methodLink (cn 13) 190 (my mL_telling) ∈ tblG := tblG_in (i := 1218) (by decide +kernel) (by decide +kernel)
theorem k_13_192 : MLk 13 192 mX12_telling 1 3 := ⟨okX12_telling, Or.inl (tblG_in (i := 2066) (by decide +kernel) (by decide +kernel)), Or.inr (Or.inl ⟨rfl, tblG_in (i := 2067) (by decide +kernel) (by decide +kernel), tblG_in (i := 2068) (by decide +kernel) (by decide +kernel), rfl⟩)⟩
theorem l_13_192 : Cond.methodLink (cn 13) 192 (my mX12_telling) ∈ tblG := tblG_in (i := 2066) (by decide +kernel) (by decide +kernel)
theorem k_13_193 : MLk 13 193 mX11_fault 1 1 := ⟨okX11_fault, Or.inl (tblG_in (i := 584) (by decide +kernel) (by decide +kernel)), Or.inr (Or.inl ⟨rfl, tblG_in (i := 585) (by decide +kernel) (by decide +kernel), tblG_in (i := 586) (by decide +kernel) (by decide +kernel), rfl⟩)⟩
theorem l_13_193 : Cond.methodLink (cn 13) 193 (my mX11_fault) ∈ tblG := tblG_in (i := 584) (by decide +kernel) (by decide +kernel)
theorem k_13_196 : MLk 13 196 mX12_fault 1 1 := ⟨okX12_fault, Or.inl (tblG_in (i := 2162) (by decide +kernel) (by decide +kernel)), Or.inr (Or.inl ⟨rfl, tblG_in (i := 2163) (by decide +kernel) (by decide +kernel), tblG_in (i := 2164) (by decide +kernel) (by decide +kernel), rfl⟩)⟩
theorem l_13_196 : Cond.methodLink (cn 13) 196 (my mX12_fault) ∈ tblG := tblG_in (i := 2162) (by decide +kernel) (by decide +kernel)
theorem k_13_197 : MLk 13 197 mL_sayings 0 3 := ⟨okL_sayings, Or.inl (tblG_in (i := 1321) (by decide +kernel) (by decide +kernel)), Or.inl ⟨rfl, tblG_in (i := 1322) (by decide +kernel) (by decide +kernel)⟩⟩
theorem l_13_197 : Cond.methodLink (cn 13) 197 (my mL_sayings) ∈ tblG := tblG_in (i := 1321) (by decide +kernel) (by decide +kernel)
theorem k_13_200 : MLk 13 200 mX12_sayings 1 1 := ⟨okX12_sayings, Or.inl (tblG_in (i := 2166) (by decide +kernel) (by decide +kernel)), Or.inr (Or.inl ⟨rfl, tblG_in (i := 2167) (by decide +kernel) (by decide +kernel), tblG_in (i := 2168) (by decide +kernel) (by decide +kernel), rfl⟩)⟩
theorem l_13_200 : Cond.methodLink (cn 13) 200 (my mX12_sayings) ∈ tblG := tblG_in (i := 2166) (by decide +kernel) (by decide +kernel)
theorem k_13_201 : MLk 13 201 mL_leads 0 8 := ⟨okL_leads, Or.inl (tblG_in (i := 1332) (by decide +kernel) (by decide +kernel)), Or.inl ⟨rfl, tblG_in (i := 1333) (by decide +kernel) (by decide +kernel)⟩⟩
theorem l_13_201 : Cond.methodLink (cn 13) 201 (my mL_leads) ∈ tblG := tblG_in (i := 1332) (by decide +kernel) (by decide +kernel)
theorem k_13_203 : MLk 13 203 mX12_leads 1 6 := ⟨okX12_leads, Or.inl (tblG_in (i := 2178) (by decide +kernel) (by decide +kernel)), Or.inr (Or.inl ⟨rfl, tblG_in (i := 2179) (by decide +kernel) (by decide +kernel), tblG_in (i := 2180) (by decide +kernel) (by decide +kernel), rfl⟩)⟩
theorem l_13_203 : Cond.methodLink (cn 13) 203 (my mX12_leads) ∈ tblG := tblG_in (i := 2178) (by decide +kernel) (by decide +kernel)
theorem k_13_204 : MLk 13 204 mL_holds 0 6 := ⟨okL_holds, Or.inl (tblG_in (i := 1430) (by decide +kernel) (by decide +kernel)), Or.inl ⟨rfl, tblG_in (i := 1431) (by decide +kernel) (by decide +kernel)⟩⟩
theorem l_13_204 : Cond.methodLink (cn 13) 204 (my mL_holds) ∈ tblG := tblG_in (i := 1430) (by decide +kernel) (by decide +kernel)
theorem k_13_206 : MLk 13 206 mX12_holds 1 4 := ⟨okX12_holds, Or.inl (tblG_in (i := 2255) (by decide +kernel) (by decide +kernel)), Or.inr (Or.inl ⟨rfl, tblG_in (i := 2256) (by decide +kernel) (by decide +kernel), tblG_in (i := 2257) (by decide +kernel) (by decide +kernel), rfl⟩)⟩
theorem l_13_206 : Cond.methodLink (cn 13) 206 (my mX12_holds) ∈ tblG := tblG_in (i := 2255) (by decide +kernel) (by decide +kernel)
theorem k_13_207 : MLk 13 207 mL_end 0 7 := ⟨okL_end, Or.inl (tblG_in (i := 1437) (by decide +kernel) (by decide +kernel)), Or.inl ⟨rfl, tblG_in (i := 1438) (by decide +kernel) (by decide +kernel)⟩⟩
theorem l_13_207 : Cond.methodLink (cn 13) 207 (my mL_end) ∈ tblG := tblG_in (i := 1437) (by decide +kernel) (by decide +kernel)
theorem k_13_210 : MLk 13 210 mX12_end 1 5 := ⟨okX12_end, Or.inl (tblG_in (i := 2259) (by decide +kernel) (by decide +kernel)), Or.inr (Or.inl ⟨rfl, tblG_in (i := 2260) (by decide +kernel) (by decide +kernel), tblG_in (i := 2261) (by decide +kernel) (by decide +kernel), rfl⟩)⟩
theorem l_13_210 : Cond.methodLink (cn 13) 210 (my mX12_end) ∈ tblG := tblG_in (i := 2259) (by decide +kernel) (by decide +kernel)
theorem k_13_211 : MLk 13 211 mL_right 0 6 := ⟨okL_right, Or.inl (tblG_in (i := 1459) (by decide +kernel) (by decide +kernel)), Or.inl ⟨rfl, tblG_in (i := 1460) (by decide +kernel) (by decide +kernel)⟩⟩
theorem l_13_211 : Cond.methodLink (cn 13) 211 (my mL_right) ∈ tblG := tblG_in (i := 1459) (by decide +kernel) (by decide +kernel)
theorem k_13_213 : MLk 13 213 mX12_right 1 4 := ⟨okX12_right, Or.inl (tblG_in (i := 2267) (by decide +kernel) (by decide +kernel)), Or.inr (Or.inl ⟨rfl, tblG_in (i := 2268) (by decide +kernel) (by decide +kernel), tblG_in (i := 2269) (by decide +kernel) (by decide +kernel), rfl⟩)⟩
theorem l_13_213 : Cond.methodLink (cn 13) 213 (my mX12_right) ∈ tblG := tblG_in (i := 2267) (by decide +kernel) (by decide +kernel)
theorem k_13_214 : MLk 13 214 mL_odds 0 7 := ⟨okL_odds, Or.inl (tblG_in (i := 1470) (by decide +kernel) (by decide +kernel)), Or.inl ⟨rfl, tblG_in (i := 1471) (by decide +kernel) (by decide +kernel)⟩⟩
theorem l_13_214 : Cond.methodLink (cn 13) 214 (my mL_odds) ∈ tblG := tblG_in (i := 1470) (by decide +kernel) (by decide +kernel)
theorem k_13_216 : MLk 13 216 mX12_odds 1 5 := ⟨okX12_odds, Or.inl (tblG_in (i := 2279) (by decide +kernel) (by decide +kernel)), Or.inr (Or.inl ⟨rfl, tblG_in (i := 2280) (by decide +kernel) (by decide +kernel), tblG_in (i := 2281) (by decide +kernel) (by decide +kernel), rfl⟩)⟩
theorem l_13_216 : Cond.methodLink (cn 13) 216 (my mX12_odds) ∈ tblG := tblG_in (i := 2279) (by decide +kernel) (by decide +kernel)
theorem k_13_217 : MLk 13 217 mL_parts 0 6 := ⟨okL_parts, Or.inl (tblG_in (i := 1498) (by decide +kernel) (by decide +kernel)), Or.inl ⟨rfl, tblG_in (i := 1499) (by decide +kernel) (by decide +kernel)⟩⟩
theorem l_13_217 : Cond.methodLink (cn 13) 217 (my mL_parts) ∈ tblG := tblG_in (i := 1498) (by decide +kernel) (by decide +kernel)
theorem k_13_219 : MLk 13 219 mX12_parts 1 4 := ⟨okX12_parts, Or.inl (tblG_in (i := 2300) (by decide +kernel) (by decide +kernel)), Or.inr (Or.inl ⟨rfl, tblG_in (i := 2301) (by decide +kernel) (by decide +kernel), tblG_in (i := 2302) (by decide +kernel) (by decide +kernel), rfl⟩)⟩
theorem l_13_219 : Cond.methodLink (cn 13) 219 (my mX12_parts) ∈ tblG := tblG_in (i := 2300) (by decide +kernel) (by decide +kernel)
theorem k_13_220 : MLk 13 220 mL_hangs 0 7 := ⟨okL_hangs, Or.inl (tblG_in (i := 1505) (by decide +kernel) (by decide +kernel)), Or.inl ⟨rfl, tblG_in (i := 1506) (by decide +kernel) (by decide +kernel)⟩⟩
theorem l_13_220 : Cond.methodLink (cn 13) 220 (my mL_hangs) ∈ tblG := tblG_in (i := 1505) (by decide +kernel) (by decide +kernel)
theorem k_13_222 : MLk 13 222 mX12_hangs 1 5 := ⟨okX12_hangs, Or.inl (tblG_in (i := 2304) (by decide +kernel) (by decide +kernel)), Or.inr (Or.inl ⟨rfl, tblG_in (i := 2305) (by decide +kernel) (by decide +kernel), tblG_in (i := 2306) (by decide +kernel) (by decide +kernel), rfl⟩)⟩
theorem l_13_222 : Cond.methodLink (cn 13) 222 (my mX12_hangs) ∈ tblG := tblG_in (i := 2304) (by decide +kernel) (by decide +kernel)
theorem k_13_223 : MLk 13 223 mL_years 0 6 := ⟨okL_years, Or.inl (tblG_in (i := 1512) (by decide +kernel) (by decide +kernel)), Or.inl ⟨rfl, tblG_in (i := 1513) (by decide +kernel) (by decide +kernel)⟩⟩
theorem l_13_223 : Cond.methodLink (cn 13) 223 (my mL_years) ∈ tblG := tblG_in (i := 1512) (by decide +kernel) (by decide +kernel)
theorem k_13_225 : MLk 13 225 mX12_years 1 4 := ⟨okX12_years, Or.inl (tblG_in (i := 2308) (by decide +kernel) (by decide +kernel)), Or.inr (Or.inl ⟨rfl, tblG_in (i := 2309) (by decide +kernel) (by decide +kernel), tblG_in (i := 2310) (by decide +kernel) (by decide +kernel), rfl⟩)⟩
theorem l_13_225 : Cond.methodLink (cn 13) 225 (my mX12_years) ∈ tblG := tblG_in (i := 2308) (by decide +kernel) (by decide +kernel)
theorem k_13_226 : MLk 13 226 mL_two 0 9 := ⟨okL_two, Or.inl (tblG_in (i := 1520) (by decide +kernel) (by decide +kernel)), Or.inl ⟨rfl, tblG_in (i := 1521) (by decide +kernel) (by decide +kernel)⟩⟩
theorem l_13_226 : Cond.methodLink (cn 13) 226 (my mL_two) ∈ tblG := tblG_in (i := 1520) (by decide +kernel) (by decide +kernel)
theorem k_13_229 : MLk 13 229 mX12_two 1 7 := ⟨okX12_two, Or.inl (tblG_in (i := 2312) (by decide +kernel) (by decide +kernel)), Or.inr (Or.inl ⟨rfl, tblG_in (i := 2313) (by decide +kernel) (by decide +kernel), tblG_in (i := 2314) (by decide +kernel) (by decide +kernel), rfl⟩)⟩
theorem l_13_229 : Cond.methodLink (cn 13) 229 (my mX12_two) ∈ tblG := tblG_in (i := 2312) (by decide +kernel) (by decide +kernel)
theorem k_13_230 : MLk 13 230 mL_ask 0 9 := ⟨okL_ask, Or.inl (tblG_in (i := 1538) (by decide +kernel) (by decide +kernel)), Or.inl ⟨rfl, tblG_in (i := 1539) (by decide +kernel) (by decide +kernel)⟩⟩
theorem l_13_230 : Cond.methodLink (cn 13) 230 (my mL_ask) ∈ tblG := tblG_in (i := 1538) (by decide +kernel) (by decide +kernel)
theorem k_13_233 : MLk 13 233 mX12_ask 1 7 := ⟨okX12_ask, Or.inl (tblG_in (i := 2317) (by decide +kernel) (by decide +kernel)), Or.inr (Or.inl ⟨rfl, tblG_in (i := 2318) (by decide +kernel) (by decide +kernel), tblG_in (i := 2319) (by decide +kernel) (by decide +kernel), rfl⟩)⟩
theorem l_13_233 : Cond.methodLink (cn 13) 233 (my mX12_ask) ∈ tblG := tblG_in (i := 2317) (by decide +kernel) (by decide +kernel)
theorem k_13_234 : MLk 13 234 mL_shortest 0 8 := ⟨okL_shortest, Or.inl (tblG_in (i := 1555) (by decide +kernel) (by decide +kernel)), Or.inl ⟨rfl, tblG_in (i := 1556) (by decide +kernel) (by decide +kernel)⟩⟩
theorem l_13_234 : Cond.methodLink (cn 13) 234 (my mL_shortest) ∈ tblG := tblG_in (i := 1555) (by decide +kernel) (by decide +kernel)
theorem k_13_236 : MLk 13 236 mX12_shortest 1 6 := ⟨okX12_shortest, Or.inl (tblG_in (i := 2321) (by decide +kernel) (by decide +kernel)), Or.inr (Or.inl ⟨rfl, tblG_in (i := 2322) (by decide +kernel) (by decide +kernel), tblG_in (i := 2323) (by decide +kernel) (by decide +kernel), rfl⟩)⟩
theorem l_13_236 : Cond.methodLink (cn 13) 236 (my mX12_shortest) ∈ tblG := tblG_in (i := 2321) (by decide +kernel) (by decide +kernel)
theorem k_13_237 : MLk 13 237 mL_went 0 7 := ⟨okL_went, Or.inl (tblG_in (i := 1606) (by decide +kernel) (by decide +kernel)), Or.inl ⟨rfl, tblG_in (i := 1607) (by decide +kernel) (by decide +kernel)⟩⟩
theorem l_13_237 : Cond.methodLink (cn 13) 237 (my mL_went) ∈ tblG := tblG_in (i := 1606) (by decide +kernel) (by decide +kernel)
theorem k_13_239 : MLk 13 239 mX12_went 1 5 := ⟨okX12_went, Or.inl (tblG_in (i := 2338) (by decide +kernel) (by decide +kernel)), Or.inr (Or.inl ⟨rfl, tblG_in (i := 2339) (by decide +kernel) (by decide +kernel), tblG_in (i := 2340) (by decide +kernel) (by decide +kernel), rfl⟩)⟩
theorem l_13_239 : Cond.methodLink (cn 13) 239 (my mX12_went) ∈ tblG := tblG_in (i := 2338) (by decide +kernel) (by decide +kernel)
theorem k_13_240 : MLk 13 240 mL_learned 0 4 := ⟨okL_learned, Or.inl (tblG_in (i := 1617) (by decide +kernel) (by decide +kernel)), Or.inl ⟨rfl, tblG_in (i := 1618) (by decide +kernel) (by decide +kernel)⟩⟩
theorem l_13_240 : Cond.methodLink (cn 13) 240 (my mL_learned) ∈ tblG := tblG_in (i := 1617) (by decide +kernel) (by decide +kernel)
theorem k_13_242 : MLk 13 242 mX12_learned 1 2 := ⟨okX12_learned, Or.inl (tblG_in (i := 2342) (by decide +kernel) (by decide +kernel)), Or.inr (Or.inl ⟨rfl, tblG_in (i := 2343) (by decide +kernel) (by decide +kernel), tblG_in (i := 2344) (by decide +kernel) (by decide +kernel), rfl⟩)⟩
theorem l_13_242 : Cond.methodLink (cn 13) 242 (my mX12_learned) ∈ tblG := tblG_in (i := 2342) (by decide +kernel) (by decide +kernel)
theorem k_13_243 : MLk 13 243 mX11_teller 1 0 := ⟨okX11_teller, Or.inl (tblG_in (i := 588) (by decide +kernel) (by decide +kernel)), Or.inr (Or.inl ⟨rfl, tblG_in (i := 589) (by decide +kernel) (by decide +kernel), tblG_in (i := 590) (by decide +kernel) (by decide +kernel), rfl⟩)⟩
theorem l_13_243 : Cond.methodLink (cn 13) 243 (my mX11_teller) ∈ tblG := tblG_in (i := 588) (by decide +kernel) (by decide +kernel)
theorem k_13_246 : MLk 13 246 mX12_teller 1 0 := ⟨okX12_teller, Or.inl (tblG_in (i := 2350) (by decide +kernel) (by decide +kernel)), Or.inr (Or.inl ⟨rfl, tblG_in (i := 2351) (by decide +kernel) (by decide +kernel), tblG_in (i := 2352) (by decide +kernel) (by decide +kernel), rfl⟩)⟩
theorem l_13_246 : Cond.methodLink (cn 13) 246 (my mX12_teller) ∈ tblG := tblG_in (i := 2350) (by decide +kernel) (by decide +kernel)
theorem k_13_247 : MLk 13 247 mL_told 0 4 := ⟨okL_told, Or.inl (tblG_in (i := 1633) (by decide +kernel) (by decide +kernel)), Or.inl ⟨rfl, tblG_in (i := 1634) (by decide +kernel) (by decide +kernel)⟩⟩
theorem l_13_247 : Cond.methodLink (cn 13) 247 (my mL_told) ∈ tblG := tblG_in (i := 1633) (by decide +kernel) (by decide +kernel)
theorem k_13_250 : MLk 13 250 mX12_told 1 2 := ⟨okX12_told, Or.inl (tblG_in (i := 2358) (by decide +kernel) (by decide +kernel)), Or.inr (Or.inl ⟨rfl, tblG_in (i := 2359) (by decide +kernel) (by decide +kernel), tblG_in (i := 2360) (by decide +kernel) (by decide +kernel), rfl⟩)⟩
theorem l_13_250 : Cond.methodLink (cn 13) 250 (my mX12_told) ∈ tblG := tblG_in (i := 2358) (by decide +kernel) (by decide +kernel)
theorem k_13_251 : MLk 13 251 mL_tray 0 4 := ⟨okL_tray, Or.inl (tblG_in (i := 1640) (by decide +kernel) (by decide +kernel)), Or.inl ⟨rfl, tblG_in (i := 1641) (by decide +kernel) (by decide +kernel)⟩⟩
theorem l_13_251 : Cond.methodLink (cn 13) 251 (my mL_tray) ∈ tblG := tblG_in (i := 1640) (by decide +kernel) (by decide +kernel)
theorem k_13_254 : MLk 13 254 mX12_tray 1 3 := ⟨okX12_tray, Or.inl (tblG_in (i := 2362) (by decide +kernel) (by decide +kernel)), Or.inr (Or.inl ⟨rfl, tblG_in (i := 2363) (by decide +kernel) (by decide +kernel), tblG_in (i := 2364) (by decide +kernel) (by decide +kernel), rfl⟩)⟩
theorem l_13_254 : Cond.methodLink (cn 13) 254 (my mX12_tray) ∈ tblG := tblG_in (i := 2362) (by decide +kernel) (by decide +kernel)
theorem g_13_255 : Cond.constantLong (cn 13) 255 (4294967295) ∈ tblG := tblG_in (i := 2392) (by decide +kernel) (by decide +kernel)
theorem k_13_257 : MLk 13 257 mL_write 0 5 := ⟨okL_write, Or.inl (tblG_in (i := 1656) (by decide +kernel) (by decide +kernel)), Or.inl ⟨rfl, tblG_in (i := 1657) (by decide +kernel) (by decide +kernel)⟩⟩
theorem l_13_257 : Cond.methodLink (cn 13) 257 (my mL_write) ∈ tblG := tblG_in (i := 1656) (by decide +kernel) (by decide +kernel)
theorem k_13_260 : MLk 13 260 mX12_write 1 3 := ⟨okX12_write, Or.inl (tblG_in (i := 2370) (by decide +kernel) (by decide +kernel)), Or.inr (Or.inl ⟨rfl, tblG_in (i := 2371) (by decide +kernel) (by decide +kernel), tblG_in (i := 2372) (by decide +kernel) (by decide +kernel), rfl⟩)⟩
theorem l_13_260 : Cond.methodLink (cn 13) 260 (my mX12_write) ∈ tblG := tblG_in (i := 2370) (by decide +kernel) (by decide +kernel)
theorem k_13_261 : MLk 13 261 mL_say 0 5 := ⟨okL_say, Or.inl (tblG_in (i := 1703) (by decide +kernel) (by decide +kernel)), Or.inl ⟨rfl, tblG_in (i := 1704) (by decide +kernel) (by decide +kernel)⟩⟩
theorem l_13_261 : Cond.methodLink (cn 13) 261 (my mL_say) ∈ tblG := tblG_in (i := 1703) (by decide +kernel) (by decide +kernel)
theorem k_13_263 : MLk 13 263 mX12_say 1 3 := ⟨okX12_say, Or.inl (tblG_in (i := 2374) (by decide +kernel) (by decide +kernel)), Or.inr (Or.inl ⟨rfl, tblG_in (i := 2375) (by decide +kernel) (by decide +kernel), tblG_in (i := 2376) (by decide +kernel) (by decide +kernel), rfl⟩)⟩
theorem l_13_263 : Cond.methodLink (cn 13) 263 (my mX12_say) ∈ tblG := tblG_in (i := 2374) (by decide +kernel) (by decide +kernel)
theorem k_13_264 : MLk 13 264 mL_image 0 2 := ⟨okL_image, Or.inl (tblG_in (i := 1721) (by decide +kernel) (by decide +kernel)), Or.inl ⟨rfl, tblG_in (i := 1722) (by decide +kernel) (by decide +kernel)⟩⟩
theorem l_13_264 : Cond.methodLink (cn 13) 264 (my mL_image) ∈ tblG := tblG_in (i := 1721) (by decide +kernel) (by decide +kernel)
theorem k_13_267 : MLk 13 267 mX12_image 1 1 := ⟨okX12_image, Or.inl (tblG_in (i := 2379) (by decide +kernel) (by decide +kernel)), Or.inr (Or.inl ⟨rfl, tblG_in (i := 2380) (by decide +kernel) (by decide +kernel), tblG_in (i := 2381) (by decide +kernel) (by decide +kernel), rfl⟩)⟩
theorem l_13_267 : Cond.methodLink (cn 13) 267 (my mX12_image) ∈ tblG := tblG_in (i := 2379) (by decide +kernel) (by decide +kernel)
theorem k_13_268 : MLk 13 268 mL_restore 0 2 := ⟨okL_restore, Or.inl (tblG_in (i := 1746) (by decide +kernel) (by decide +kernel)), Or.inl ⟨rfl, tblG_in (i := 1747) (by decide +kernel) (by decide +kernel)⟩⟩
theorem l_13_268 : Cond.methodLink (cn 13) 268 (my mL_restore) ∈ tblG := tblG_in (i := 1746) (by decide +kernel) (by decide +kernel)
theorem k_13_270 : MLk 13 270 mX12_restore 1 1 := ⟨okX12_restore, Or.inl (tblG_in (i := 2383) (by decide +kernel) (by decide +kernel)), Or.inr (Or.inl ⟨rfl, tblG_in (i := 2384) (by decide +kernel) (by decide +kernel), tblG_in (i := 2385) (by decide +kernel) (by decide +kernel), rfl⟩)⟩
theorem l_13_270 : Cond.methodLink (cn 13) 270 (my mX12_restore) ∈ tblG := tblG_in (i := 2383) (by decide +kernel) (by decide +kernel)
theorem k_13_271 : MLk 13 271 mX11_count 1 1 := ⟨okX11_count, Or.inl (tblG_in (i := 596) (by decide +kernel) (by decide +kernel)), Or.inr (Or.inl ⟨rfl, tblG_in (i := 597) (by decide +kernel) (by decide +kernel), tblG_in (i := 598) (by decide +kernel) (by decide +kernel), rfl⟩)⟩
theorem l_13_271 : Cond.methodLink (cn 13) 271 (my mX11_count) ∈ tblG := tblG_in (i := 596) (by decide +kernel) (by decide +kernel)
theorem k_13_274 : MLk 13 274 mX12_count 1 1 := ⟨okX12_count, Or.inl (tblG_in (i := 2387) (by decide +kernel) (by decide +kernel)), Or.inr (Or.inl ⟨rfl, tblG_in (i := 2388) (by decide +kernel) (by decide +kernel), tblG_in (i := 2389) (by decide +kernel) (by decide +kernel), rfl⟩)⟩
theorem l_13_274 : Cond.methodLink (cn 13) 274 (my mX12_count) ∈ tblG := tblG_in (i := 2387) (by decide +kernel) (by decide +kernel)
end
section
/-! the start: what the Statement gives at the law's entry -/
def lvs : List Cond := flatC (Jvm.Cond.and given_1 narrow_1)
def stm (o i : Nat) : Term := .string (cn o) i
theorem sx0 : lvs[364]? = some (.exactly (stm 5 74) "java/lang/String") ∧ lvs[365]? = some (.eq (.field (stm 5 74) "java/lang/String" "coder" "B") (.int 0)) ∧ lvs[366]? = some (.arrayOf (.field (stm 5 74) "java/lang/String" "value" "[B") .byte) ∧ lvs[367]? = some (.eq (.length (.field (stm 5 74) "java/lang/String" "value" "[B")) (.int (Int32.ofNat ([sln 0].getD 0 0)))) ∧ ∀ k : Nat, k < [sln 0].getD 0 0 → lvs[368 + k]? = some (.eq (.elem (.field (stm 5 74) "java/lang/String" "value" "[B") (.int (Int32.ofNat k))) (.int (([strI.getD 0 []].getD 0 []).getD k 0))) := by decide +kernel
theorem sx1 : lvs[589]? = some (.exactly (stm 12 274) "java/lang/String") ∧ lvs[590]? = some (.eq (.field (stm 12 274) "java/lang/String" "coder" "B") (.int 0)) ∧ lvs[591]? = some (.arrayOf (.field (stm 12 274) "java/lang/String" "value" "[B") .byte) ∧ lvs[592]? = some (.eq (.length (.field (stm 12 274) "java/lang/String" "value" "[B")) (.int (Int32.ofNat ([sln 1].getD 0 0)))) ∧ ∀ k : Nat, k < [sln 1].getD 0 0 → lvs[593 + k]? = some (.eq (.elem (.field (stm 12 274) "java/lang/String" "value" "[B") (.int (Int32.ofNat k))) (.int (([strI.getD 1 []].getD 0 []).getD k 0))) := by decide +kernel
theorem sx2 : lvs[596]? = some (.exactly (stm 12 280) "java/lang/String") ∧ lvs[597]? = some (.eq (.field (stm 12 280) "java/lang/String" "coder" "B") (.int 0)) ∧ lvs[598]? = some (.arrayOf (.field (stm 12 280) "java/lang/String" "value" "[B") .byte) ∧ lvs[599]? = some (.eq (.length (.field (stm 12 280) "java/lang/String" "value" "[B")) (.int (Int32.ofNat ([sln 2].getD 0 0)))) ∧ ∀ k : Nat, k < [sln 2].getD 0 0 → lvs[600 + k]? = some (.eq (.elem (.field (stm 12 280) "java/lang/String" "value" "[B") (.int (Int32.ofNat k))) (.int (([strI.getD 2 []].getD 0 []).getD k 0))) := by decide +kernel
theorem sx3 : lvs[604]? = some (.exactly (stm 12 282) "java/lang/String") ∧ lvs[605]? = some (.eq (.field (stm 12 282) "java/lang/String" "coder" "B") (.int 0)) ∧ lvs[606]? = some (.arrayOf (.field (stm 12 282) "java/lang/String" "value" "[B") .byte) ∧ lvs[607]? = some (.eq (.length (.field (stm 12 282) "java/lang/String" "value" "[B")) (.int (Int32.ofNat ([sln 3].getD 0 0)))) ∧ ∀ k : Nat, k < [sln 3].getD 0 0 → lvs[608 + k]? = some (.eq (.elem (.field (stm 12 282) "java/lang/String" "value" "[B") (.int (Int32.ofNat k))) (.int (([strI.getD 3 []].getD 0 []).getD k 0))) := by decide +kernel
theorem sx4 : lvs[614]? = some (.exactly (stm 12 284) "java/lang/String") ∧ lvs[615]? = some (.eq (.field (stm 12 284) "java/lang/String" "coder" "B") (.int 0)) ∧ lvs[616]? = some (.arrayOf (.field (stm 12 284) "java/lang/String" "value" "[B") .byte) ∧ lvs[617]? = some (.eq (.length (.field (stm 12 284) "java/lang/String" "value" "[B")) (.int (Int32.ofNat ([sln 4].getD 0 0)))) ∧ ∀ k : Nat, k < [sln 4].getD 0 0 → lvs[618 + k]? = some (.eq (.elem (.field (stm 12 284) "java/lang/String" "value" "[B") (.int (Int32.ofNat k))) (.int (([strI.getD 4 []].getD 0 []).getD k 0))) := by decide +kernel
theorem sx5 : lvs[624]? = some (.exactly (stm 12 286) "java/lang/String") ∧ lvs[625]? = some (.eq (.field (stm 12 286) "java/lang/String" "coder" "B") (.int 0)) ∧ lvs[626]? = some (.arrayOf (.field (stm 12 286) "java/lang/String" "value" "[B") .byte) ∧ lvs[627]? = some (.eq (.length (.field (stm 12 286) "java/lang/String" "value" "[B")) (.int (Int32.ofNat ([sln 5].getD 0 0)))) ∧ ∀ k : Nat, k < [sln 5].getD 0 0 → lvs[628 + k]? = some (.eq (.elem (.field (stm 12 286) "java/lang/String" "value" "[B") (.int (Int32.ofNat k))) (.int (([strI.getD 5 []].getD 0 []).getD k 0))) := by decide +kernel
theorem sx6 : lvs[632]? = some (.exactly (stm 12 288) "java/lang/String") ∧ lvs[633]? = some (.eq (.field (stm 12 288) "java/lang/String" "coder" "B") (.int 0)) ∧ lvs[634]? = some (.arrayOf (.field (stm 12 288) "java/lang/String" "value" "[B") .byte) ∧ lvs[635]? = some (.eq (.length (.field (stm 12 288) "java/lang/String" "value" "[B")) (.int (Int32.ofNat ([sln 6].getD 0 0)))) ∧ ∀ k : Nat, k < [sln 6].getD 0 0 → lvs[636 + k]? = some (.eq (.elem (.field (stm 12 288) "java/lang/String" "value" "[B") (.int (Int32.ofNat k))) (.int (([strI.getD 6 []].getD 0 []).getD k 0))) := by decide +kernel
theorem sx7 : lvs[642]? = some (.exactly (stm 12 290) "java/lang/String") ∧ lvs[643]? = some (.eq (.field (stm 12 290) "java/lang/String" "coder" "B") (.int 0)) ∧ lvs[644]? = some (.arrayOf (.field (stm 12 290) "java/lang/String" "value" "[B") .byte) ∧ lvs[645]? = some (.eq (.length (.field (stm 12 290) "java/lang/String" "value" "[B")) (.int (Int32.ofNat ([sln 7].getD 0 0)))) ∧ ∀ k : Nat, k < [sln 7].getD 0 0 → lvs[646 + k]? = some (.eq (.elem (.field (stm 12 290) "java/lang/String" "value" "[B") (.int (Int32.ofNat k))) (.int (([strI.getD 7 []].getD 0 []).getD k 0))) := by decide +kernel
theorem sx8 : lvs[649]? = some (.exactly (stm 12 292) "java/lang/String") ∧ lvs[650]? = some (.eq (.field (stm 12 292) "java/lang/String" "coder" "B") (.int 0)) ∧ lvs[651]? = some (.arrayOf (.field (stm 12 292) "java/lang/String" "value" "[B") .byte) ∧ lvs[652]? = some (.eq (.length (.field (stm 12 292) "java/lang/String" "value" "[B")) (.int (Int32.ofNat ([sln 8].getD 0 0)))) ∧ ∀ k : Nat, k < [sln 8].getD 0 0 → lvs[653 + k]? = some (.eq (.elem (.field (stm 12 292) "java/lang/String" "value" "[B") (.int (Int32.ofNat k))) (.int (([strI.getD 8 []].getD 0 []).getD k 0))) := by decide +kernel
theorem sx9 : lvs[657]? = some (.exactly (stm 12 294) "java/lang/String") ∧ lvs[658]? = some (.eq (.field (stm 12 294) "java/lang/String" "coder" "B") (.int 0)) ∧ lvs[659]? = some (.arrayOf (.field (stm 12 294) "java/lang/String" "value" "[B") .byte) ∧ lvs[660]? = some (.eq (.length (.field (stm 12 294) "java/lang/String" "value" "[B")) (.int (Int32.ofNat ([sln 9].getD 0 0)))) ∧ ∀ k : Nat, k < [sln 9].getD 0 0 → lvs[661 + k]? = some (.eq (.elem (.field (stm 12 294) "java/lang/String" "value" "[B") (.int (Int32.ofNat k))) (.int (([strI.getD 9 []].getD 0 []).getD k 0))) := by decide +kernel
theorem sx10 : lvs[666]? = some (.exactly (stm 12 296) "java/lang/String") ∧ lvs[667]? = some (.eq (.field (stm 12 296) "java/lang/String" "coder" "B") (.int 0)) ∧ lvs[668]? = some (.arrayOf (.field (stm 12 296) "java/lang/String" "value" "[B") .byte) ∧ lvs[669]? = some (.eq (.length (.field (stm 12 296) "java/lang/String" "value" "[B")) (.int (Int32.ofNat ([sln 10].getD 0 0)))) ∧ ∀ k : Nat, k < [sln 10].getD 0 0 → lvs[670 + k]? = some (.eq (.elem (.field (stm 12 296) "java/lang/String" "value" "[B") (.int (Int32.ofNat k))) (.int (([strI.getD 10 []].getD 0 []).getD k 0))) := by decide +kernel
theorem sx11 : lvs[674]? = some (.exactly (stm 12 298) "java/lang/String") ∧ lvs[675]? = some (.eq (.field (stm 12 298) "java/lang/String" "coder" "B") (.int 0)) ∧ lvs[676]? = some (.arrayOf (.field (stm 12 298) "java/lang/String" "value" "[B") .byte) ∧ lvs[677]? = some (.eq (.length (.field (stm 12 298) "java/lang/String" "value" "[B")) (.int (Int32.ofNat ([sln 11].getD 0 0)))) ∧ ∀ k : Nat, k < [sln 11].getD 0 0 → lvs[678 + k]? = some (.eq (.elem (.field (stm 12 298) "java/lang/String" "value" "[B") (.int (Int32.ofNat k))) (.int (([strI.getD 11 []].getD 0 []).getD k 0))) := by decide +kernel
theorem sx12 : lvs[682]? = some (.exactly (stm 12 300) "java/lang/String") ∧ lvs[683]? = some (.eq (.field (stm 12 300) "java/lang/String" "coder" "B") (.int 0)) ∧ lvs[684]? = some (.arrayOf (.field (stm 12 300) "java/lang/String" "value" "[B") .byte) ∧ lvs[685]? = some (.eq (.length (.field (stm 12 300) "java/lang/String" "value" "[B")) (.int (Int32.ofNat ([sln 12].getD 0 0)))) ∧ ∀ k : Nat, k < [sln 12].getD 0 0 → lvs[686 + k]? = some (.eq (.elem (.field (stm 12 300) "java/lang/String" "value" "[B") (.int (Int32.ofNat k))) (.int (([strI.getD 12 []].getD 0 []).getD k 0))) := by decide +kernel
theorem sx13 : lvs[565]? = some (.exactly (stm 12 310) "java/lang/String") ∧ lvs[566]? = some (.eq (.field (stm 12 310) "java/lang/String" "coder" "B") (.int 0)) ∧ lvs[567]? = some (.arrayOf (.field (stm 12 310) "java/lang/String" "value" "[B") .byte) ∧ lvs[568]? = some (.eq (.length (.field (stm 12 310) "java/lang/String" "value" "[B")) (.int (Int32.ofNat ([sln 13].getD 0 0)))) ∧ ∀ k : Nat, k < [sln 13].getD 0 0 → lvs[569 + k]? = some (.eq (.elem (.field (stm 12 310) "java/lang/String" "value" "[B") (.int (Int32.ofNat k))) (.int (([strI.getD 13 []].getD 0 []).getD k 0))) := by decide +kernel
theorem sx14 : lvs[573]? = some (.exactly (stm 12 312) "java/lang/String") ∧ lvs[574]? = some (.eq (.field (stm 12 312) "java/lang/String" "coder" "B") (.int 0)) ∧ lvs[575]? = some (.arrayOf (.field (stm 12 312) "java/lang/String" "value" "[B") .byte) ∧ lvs[576]? = some (.eq (.length (.field (stm 12 312) "java/lang/String" "value" "[B")) (.int (Int32.ofNat ([sln 14].getD 0 0)))) ∧ ∀ k : Nat, k < [sln 14].getD 0 0 → lvs[577 + k]? = some (.eq (.elem (.field (stm 12 312) "java/lang/String" "value" "[B") (.int (Int32.ofNat k))) (.int (([strI.getD 14 []].getD 0 []).getD k 0))) := by decide +kernel
theorem sx15 : lvs[512]? = some (.exactly (stm 12 317) "java/lang/String") ∧ lvs[513]? = some (.eq (.field (stm 12 317) "java/lang/String" "coder" "B") (.int 0)) ∧ lvs[514]? = some (.arrayOf (.field (stm 12 317) "java/lang/String" "value" "[B") .byte) ∧ lvs[515]? = some (.eq (.length (.field (stm 12 317) "java/lang/String" "value" "[B")) (.int (Int32.ofNat ([sln 15].getD 0 0)))) ∧ ∀ k : Nat, k < [sln 15].getD 0 0 → lvs[516 + k]? = some (.eq (.elem (.field (stm 12 317) "java/lang/String" "value" "[B") (.int (Int32.ofNat k))) (.int (([strI.getD 15 []].getD 0 []).getD k 0))) := by decide +kernel
theorem sx16 : lvs[518]? = some (.exactly (stm 12 319) "java/lang/String") ∧ lvs[519]? = some (.eq (.field (stm 12 319) "java/lang/String" "coder" "B") (.int 0)) ∧ lvs[520]? = some (.arrayOf (.field (stm 12 319) "java/lang/String" "value" "[B") .byte) ∧ lvs[521]? = some (.eq (.length (.field (stm 12 319) "java/lang/String" "value" "[B")) (.int (Int32.ofNat ([sln 16].getD 0 0)))) ∧ ∀ k : Nat, k < [sln 16].getD 0 0 → lvs[522 + k]? = some (.eq (.elem (.field (stm 12 319) "java/lang/String" "value" "[B") (.int (Int32.ofNat k))) (.int (([strI.getD 16 []].getD 0 []).getD k 0))) := by decide +kernel
theorem sx17 : lvs[526]? = some (.exactly (stm 12 321) "java/lang/String") ∧ lvs[527]? = some (.eq (.field (stm 12 321) "java/lang/String" "coder" "B") (.int 0)) ∧ lvs[528]? = some (.arrayOf (.field (stm 12 321) "java/lang/String" "value" "[B") .byte) ∧ lvs[529]? = some (.eq (.length (.field (stm 12 321) "java/lang/String" "value" "[B")) (.int (Int32.ofNat ([sln 17].getD 0 0)))) ∧ ∀ k : Nat, k < [sln 17].getD 0 0 → lvs[530 + k]? = some (.eq (.elem (.field (stm 12 321) "java/lang/String" "value" "[B") (.int (Int32.ofNat k))) (.int (([strI.getD 17 []].getD 0 []).getD k 0))) := by decide +kernel
theorem sx18 : lvs[533]? = some (.exactly (stm 12 323) "java/lang/String") ∧ lvs[534]? = some (.eq (.field (stm 12 323) "java/lang/String" "coder" "B") (.int 0)) ∧ lvs[535]? = some (.arrayOf (.field (stm 12 323) "java/lang/String" "value" "[B") .byte) ∧ lvs[536]? = some (.eq (.length (.field (stm 12 323) "java/lang/String" "value" "[B")) (.int (Int32.ofNat ([sln 18].getD 0 0)))) ∧ ∀ k : Nat, k < [sln 18].getD 0 0 → lvs[537 + k]? = some (.eq (.elem (.field (stm 12 323) "java/lang/String" "value" "[B") (.int (Int32.ofNat k))) (.int (([strI.getD 18 []].getD 0 []).getD k 0))) := by decide +kernel
theorem sx19 : lvs[540]? = some (.exactly (stm 12 324) "java/lang/String") ∧ lvs[541]? = some (.eq (.field (stm 12 324) "java/lang/String" "coder" "B") (.int 0)) ∧ lvs[542]? = some (.arrayOf (.field (stm 12 324) "java/lang/String" "value" "[B") .byte) ∧ lvs[543]? = some (.eq (.length (.field (stm 12 324) "java/lang/String" "value" "[B")) (.int (Int32.ofNat ([sln 19].getD 0 0)))) ∧ ∀ k : Nat, k < [sln 19].getD 0 0 → lvs[544 + k]? = some (.eq (.elem (.field (stm 12 324) "java/lang/String" "value" "[B") (.int (Int32.ofNat k))) (.int (([strI.getD 19 []].getD 0 []).getD k 0))) := by decide +kernel
theorem sx20 : lvs[548]? = some (.exactly (stm 12 326) "java/lang/String") ∧ lvs[549]? = some (.eq (.field (stm 12 326) "java/lang/String" "coder" "B") (.int 0)) ∧ lvs[550]? = some (.arrayOf (.field (stm 12 326) "java/lang/String" "value" "[B") .byte) ∧ lvs[551]? = some (.eq (.length (.field (stm 12 326) "java/lang/String" "value" "[B")) (.int (Int32.ofNat ([sln 20].getD 0 0)))) ∧ ∀ k : Nat, k < [sln 20].getD 0 0 → lvs[552 + k]? = some (.eq (.elem (.field (stm 12 326) "java/lang/String" "value" "[B") (.int (Int32.ofNat k))) (.int (([strI.getD 20 []].getD 0 []).getD k 0))) := by decide +kernel
theorem sx21 : lvs[557]? = some (.exactly (stm 12 328) "java/lang/String") ∧ lvs[558]? = some (.eq (.field (stm 12 328) "java/lang/String" "coder" "B") (.int 0)) ∧ lvs[559]? = some (.arrayOf (.field (stm 12 328) "java/lang/String" "value" "[B") .byte) ∧ lvs[560]? = some (.eq (.length (.field (stm 12 328) "java/lang/String" "value" "[B")) (.int (Int32.ofNat ([sln 21].getD 0 0)))) ∧ ∀ k : Nat, k < [sln 21].getD 0 0 → lvs[561 + k]? = some (.eq (.elem (.field (stm 12 328) "java/lang/String" "value" "[B") (.int (Int32.ofNat k))) (.int (([strI.getD 21 []].getD 0 []).getD k 0))) := by decide +kernel
theorem sx22 : lvs[691]? = some (.exactly (stm 12 344) "java/lang/String") ∧ lvs[692]? = some (.eq (.field (stm 12 344) "java/lang/String" "coder" "B") (.int 0)) ∧ lvs[693]? = some (.arrayOf (.field (stm 12 344) "java/lang/String" "value" "[B") .byte) ∧ lvs[694]? = some (.eq (.length (.field (stm 12 344) "java/lang/String" "value" "[B")) (.int (Int32.ofNat ([sln 22].getD 0 0)))) ∧ ∀ k : Nat, k < [sln 22].getD 0 0 → lvs[695 + k]? = some (.eq (.elem (.field (stm 12 344) "java/lang/String" "value" "[B") (.int (Int32.ofNat k))) (.int (([strI.getD 22 []].getD 0 []).getD k 0))) := by decide +kernel
theorem sx23 : lvs[582]? = some (.exactly (stm 12 352) "java/lang/String") ∧ lvs[583]? = some (.eq (.field (stm 12 352) "java/lang/String" "coder" "B") (.int 0)) ∧ lvs[584]? = some (.arrayOf (.field (stm 12 352) "java/lang/String" "value" "[B") .byte) ∧ lvs[585]? = some (.eq (.length (.field (stm 12 352) "java/lang/String" "value" "[B")) (.int (Int32.ofNat ([sln 23].getD 0 0)))) ∧ ∀ k : Nat, k < [sln 23].getD 0 0 → lvs[586 + k]? = some (.eq (.elem (.field (stm 12 352) "java/lang/String" "value" "[B") (.int (Int32.ofNat k))) (.int (([strI.getD 23 []].getD 0 []).getD k 0))) := by decide +kernel
theorem sx24 : lvs[700]? = some (.exactly (stm 12 357) "java/lang/String") ∧ lvs[701]? = some (.eq (.field (stm 12 357) "java/lang/String" "coder" "B") (.int 0)) ∧ lvs[702]? = some (.arrayOf (.field (stm 12 357) "java/lang/String" "value" "[B") .byte) ∧ lvs[703]? = some (.eq (.length (.field (stm 12 357) "java/lang/String" "value" "[B")) (.int (Int32.ofNat ([sln 24].getD 0 0)))) ∧ ∀ k : Nat, k < [sln 24].getD 0 0 → lvs[704 + k]? = some (.eq (.elem (.field (stm 12 357) "java/lang/String" "value" "[B") (.int (Int32.ofNat k))) (.int (([strI.getD 24 []].getD 0 []).getD k 0))) := by decide +kernel
theorem str_of {args : Array Value} {s : State} (hs : ∀ w ∈ lvs, w.before args s = true) {j o i e co a ln el : Nat} (h : lvs[e]? = some (.exactly (stm o i) "java/lang/String") ∧ lvs[co]? = some (.eq (.field (stm o i) "java/lang/String" "coder" "B") (.int 0)) ∧ lvs[a]? = some (.arrayOf (.field (stm o i) "java/lang/String" "value" "[B") .byte) ∧ lvs[ln]? = some (.eq (.length (.field (stm o i) "java/lang/String" "value" "[B")) (.int (Int32.ofNat ([sln j].getD 0 0)))) ∧ ∀ k : Nat, k < [sln j].getD 0 0 → lvs[el + k]? = some (.eq (.elem (.field (stm o i) "java/lang/String" "value" "[B") (.int (Int32.ofNat k))) (.int (([strI.getD j []].getD 0 []).getD k 0)))) (hlt : sln j < 2 ^ 31) :
    ∃ q : Nat × Nat, vk_S 1 [sln j] [strI.getD j []] (fun _ => q.1) (fun _ => q.2) (fun q => s.heap.size ≤ q) s s.heap ∧ (stm o i).eval args s none [] s = some (.ref q.1) := by
  obtain ⟨h1, h2, h3, h4, h5⟩ := h
  have z : ∀ k : Nat, k < 1 → k = 0 := fun k hk => by omega
  obtain ⟨adK, adV, hv, he⟩ := vk_Sof (args := args) (s := s) (N := 1) (tm := fun _ => stm o i) (len := [sln j]) (byt := [strI.getD j []]) (A := fun q => s.heap.size ≤ q) (fun k hk => by obtain rfl := z k hk; exact hlt) (fun _ _ => hs _ (List.mem_of_getElem? h1)) (fun _ _ => hs _ (List.mem_of_getElem? h2)) (fun _ _ => hs _ (List.mem_of_getElem? h3)) (fun k hk => by obtain rfl := z k hk; exact hs _ (List.mem_of_getElem? h4)) (fun k hk c hc => by obtain rfl := z k hk; exact hs _ (List.mem_of_getElem? (h5 c hc))) (fun x y hx hy n => absurd ((z x hx).trans (z y hy).symm) n) (fun a ha q => by omega)
  refine ⟨(adK 0, adV 0), ⟨fun k hk => ?_, fun x y hx hy _ => (z x hx).trans (z y hy).symm⟩, he 0 (by omega)⟩
  obtain rfl := z k hk
  exact hv.1 0 hk
theorem nc0 : Cond.not (.castable "java/lang/IllegalArgumentException" "java/util/NoSuchElementException") ∈ lvs := List.mem_of_getElem? (i := 249) (by decide +kernel)
theorem nc1 : Cond.not (.castable "java/lang/IllegalStateException" "java/util/NoSuchElementException") ∈ lvs := List.mem_of_getElem? (i := 253) (by decide +kernel)
theorem nc2 : Cond.not (.castable "java/lang/IndexOutOfBoundsException" "java/util/NoSuchElementException") ∈ lvs := List.mem_of_getElem? (i := 254) (by decide +kernel)
theorem nc3 : Cond.not (.castable "java/lang/IndexOutOfBoundsException" "java/lang/IllegalStateException") ∈ lvs := List.mem_of_getElem? (i := 273) (by decide +kernel)
theorem nc4 : Cond.not (.castable "java/lang/IllegalArgumentException" "java/lang/IllegalStateException") ∈ lvs := List.mem_of_getElem? (i := 268) (by decide +kernel)
theorem zU : Cond.isRef (.static Bundle.tN "UNASSIGNED_STACK" Bundle.steD) ∈ lvs := List.mem_of_getElem? (i := 4) (by decide +kernel)
theorem zS : Cond.isRef (.static Bundle.tN "SUPPRESSED_SENTINEL" Bundle.listD) ∈ lvs := List.mem_of_getElem? (i := 5) (by decide +kernel)
theorem zC : Cond.eq (.static "java/lang/String" "COMPACT_STRINGS" "Z") (.int 1) ∈ lvs := List.mem_of_getElem? (i := 6) (by decide +kernel)
theorem wU : Cond.laysStatic Bundle.tN "UNASSIGNED_STACK" Bundle.steD ∈ lw_tbl := List.mem_append_right _ (List.mem_of_getElem? (i := 639) (by decide +kernel))
theorem wS : Cond.laysStatic Bundle.tN "SUPPRESSED_SENTINEL" Bundle.listD ∈ lw_tbl := List.mem_append_right _ (List.mem_of_getElem? (i := 641) (by decide +kernel))
theorem wC : Cond.laysStatic "java/lang/String" "COMPACT_STRINGS" "Z" ∈ lw_tbl := List.mem_append_right _ (List.mem_of_getElem? (i := 822) (by decide +kernel))
theorem wT : Cond.initialized Bundle.tN ∈ lw_tbl := List.mem_append_right _ (List.mem_of_getElem? (i := 14) (by decide +kernel))
theorem wJ : Cond.initialized "java/lang/String" ∈ lw_tbl := List.mem_append_right _ (List.mem_of_getElem? (i := 23) (by decide +kernel))
theorem sr0 : Cond.stringRef (cn 5) 74 "oak   farm  bridgeschoolpond  churchinn   gate  stone mill  well  cross on    until past  far   see   over  loose back  left  right or    not   " ∈ lw_tbl := List.mem_append_right _ (List.mem_of_getElem? (i := 1252) (by decide +kernel))
theorem sr1 : Cond.stringRef (cn 12) 274 "oak" ∈ lw_tbl := List.mem_append_right _ (List.mem_of_getElem? (i := 2137) (by decide +kernel))
theorem sr2 : Cond.stringRef (cn 12) 280 "farm" ∈ lw_tbl := List.mem_append_right _ (List.mem_of_getElem? (i := 2138) (by decide +kernel))
theorem sr3 : Cond.stringRef (cn 12) 282 "bridge" ∈ lw_tbl := List.mem_append_right _ (List.mem_of_getElem? (i := 2139) (by decide +kernel))
theorem sr4 : Cond.stringRef (cn 12) 284 "school" ∈ lw_tbl := List.mem_append_right _ (List.mem_of_getElem? (i := 2140) (by decide +kernel))
theorem sr5 : Cond.stringRef (cn 12) 286 "pond" ∈ lw_tbl := List.mem_append_right _ (List.mem_of_getElem? (i := 2141) (by decide +kernel))
theorem sr6 : Cond.stringRef (cn 12) 288 "church" ∈ lw_tbl := List.mem_append_right _ (List.mem_of_getElem? (i := 2142) (by decide +kernel))
theorem sr7 : Cond.stringRef (cn 12) 290 "inn" ∈ lw_tbl := List.mem_append_right _ (List.mem_of_getElem? (i := 2143) (by decide +kernel))
theorem sr8 : Cond.stringRef (cn 12) 292 "gate" ∈ lw_tbl := List.mem_append_right _ (List.mem_of_getElem? (i := 2144) (by decide +kernel))
theorem sr9 : Cond.stringRef (cn 12) 294 "stone" ∈ lw_tbl := List.mem_append_right _ (List.mem_of_getElem? (i := 2145) (by decide +kernel))
theorem sr10 : Cond.stringRef (cn 12) 296 "mill" ∈ lw_tbl := List.mem_append_right _ (List.mem_of_getElem? (i := 2146) (by decide +kernel))
theorem sr11 : Cond.stringRef (cn 12) 298 "well" ∈ lw_tbl := List.mem_append_right _ (List.mem_of_getElem? (i := 2147) (by decide +kernel))
theorem sr12 : Cond.stringRef (cn 12) 300 "cross" ∈ lw_tbl := List.mem_append_right _ (List.mem_of_getElem? (i := 2148) (by decide +kernel))
theorem sr13 : Cond.stringRef (cn 12) 310 "left" ∈ lw_tbl := List.mem_append_right _ (List.mem_of_getElem? (i := 2110) (by decide +kernel))
theorem sr14 : Cond.stringRef (cn 12) 312 "right" ∈ lw_tbl := List.mem_append_right _ (List.mem_of_getElem? (i := 2111) (by decide +kernel))
theorem sr15 : Cond.stringRef (cn 12) 317 "on" ∈ lw_tbl := List.mem_append_right _ (List.mem_of_getElem? (i := 2093) (by decide +kernel))
theorem sr16 : Cond.stringRef (cn 12) 319 "past" ∈ lw_tbl := List.mem_append_right _ (List.mem_of_getElem? (i := 2100) (by decide +kernel))
theorem sr17 : Cond.stringRef (cn 12) 321 "far" ∈ lw_tbl := List.mem_append_right _ (List.mem_of_getElem? (i := 2101) (by decide +kernel))
theorem sr18 : Cond.stringRef (cn 12) 323 "see" ∈ lw_tbl := List.mem_append_right _ (List.mem_of_getElem? (i := 2102) (by decide +kernel))
theorem sr19 : Cond.stringRef (cn 12) 324 "over" ∈ lw_tbl := List.mem_append_right _ (List.mem_of_getElem? (i := 2103) (by decide +kernel))
theorem sr20 : Cond.stringRef (cn 12) 326 "loose" ∈ lw_tbl := List.mem_append_right _ (List.mem_of_getElem? (i := 2104) (by decide +kernel))
theorem sr21 : Cond.stringRef (cn 12) 328 "back" ∈ lw_tbl := List.mem_append_right _ (List.mem_of_getElem? (i := 2105) (by decide +kernel))
theorem sr22 : Cond.stringRef (cn 12) 344 "until" ∈ lw_tbl := List.mem_append_right _ (List.mem_of_getElem? (i := 2156) (by decide +kernel))
theorem sr23 : Cond.stringRef (cn 12) 352 "not" ∈ lw_tbl := List.mem_append_right _ (List.mem_of_getElem? (i := 2128) (by decide +kernel))
theorem sr24 : Cond.stringRef (cn 12) 357 "or" ∈ lw_tbl := List.mem_append_right _ (List.mem_of_getElem? (i := 2157) (by decide +kernel))
theorem it0 : Cond.instantiable RX0 11 ∈ tblG := tblG_in (i := 169) (by decide +kernel) (by decide +kernel)
theorem it1 : Cond.instantiable RX1 11 ∈ tblG := tblG_in (i := 405) (by decide +kernel) (by decide +kernel)
theorem it2 : Cond.instantiable RX2 8 ∈ tblG := tblG_in (i := 131) (by decide +kernel) (by decide +kernel)
theorem it3 : Cond.instantiable RX3 17 ∈ tblG := tblG_in (i := 43) (by decide +kernel) (by decide +kernel)
theorem it4 : Cond.instantiable RX4 8 ∈ tblG := tblG_in (i := 372) (by decide +kernel) (by decide +kernel)
theorem it5 : Cond.instantiable RX5 14 ∈ tblG := tblG_in (i := 449) (by decide +kernel) (by decide +kernel)
theorem it6 : Cond.instantiable RX6 1 ∈ tblG := tblG_in (i := 283) (by decide +kernel) (by decide +kernel)
theorem it7 : Cond.instantiable RX7 11 ∈ tblG := tblG_in (i := 294) (by decide +kernel) (by decide +kernel)
theorem it8 : Cond.instantiable RX8 4 ∈ tblG := tblG_in (i := 508) (by decide +kernel) (by decide +kernel)
theorem it9 : Cond.instantiable RX9 10 ∈ tblG := tblG_in (i := 277) (by decide +kernel) (by decide +kernel)
theorem it10 : Cond.instantiable RX10 12 ∈ tblG := tblG_in (i := 223) (by decide +kernel) (by decide +kernel)
theorem it11 : Cond.instantiable RX11 12 ∈ tblG := tblG_in (i := 35) (by decide +kernel) (by decide +kernel)
theorem it12 : Cond.instantiable RX12 40 ∈ tblG := tblG_in (i := 1754) (by decide +kernel) (by decide +kernel)
theorem ao4 : Cond.arrayOver (.object RX8) ∈ exL := exL_in (i := 504) (by decide +kernel) rfl
theorem ao5 : Cond.arrayOver (.object RX3) ∈ exL := exL_in (i := 505) (by decide +kernel) rfl
theorem ao6 : Cond.arrayOver (.object RX2) ∈ exL := exL_in (i := 506) (by decide +kernel) rfl
theorem ao7 : Cond.arrayOver (.object RX0) ∈ exL := exL_in (i := 507) (by decide +kernel) rfl
theorem ao8 : Cond.arrayOver (.object RX6) ∈ exL := exL_in (i := 411) (by decide +kernel) rfl
theorem tblG_lw {w : Cond} (h : w ∈ tblG) : w ∈ lw_tbl := (List.mem_filter.mp h).1
theorem exL_lw {w : Cond} (h : w ∈ exL) : w ∈ lw_tbl := List.mem_append_right _ (List.mem_filter.mp h).1
theorem arr_of {args : Array Value} {s : State} {ty : FieldType} (hno : ∀ C, ty ≠ .object C) (h : (Cond.arrayClass ty).before args s = true) : ∃ c : ClassId, ArrOfT s c ty ∧ va_RA s c ty := by
  obtain ⟨c, k, comp, h1, h2, h3⟩ := Cond.arrayClass_spec h
  refine ⟨c, fun n z => ⟨fun k h => (by cases h), k, h2, comp, h3⟩, ?_⟩
  cases ty with
  | object C => exact absurd rfl (hno C)
  | _ => exact h1
theorem arr_ofO {args : Array Value} {s : State} {C : String} (h : (Cond.arrayOver (.object C)).before args s = true) : ∃ c : ClassId, ArrOfT s c (.object C) ∧ va_RA s c (.object C) := by
  obtain ⟨comp, c, k, h1, h2, h3, h4, h5⟩ := Cond.arrayOver_spec h
  exact ⟨c, fun n z => ⟨fun k h => (by cases h), k, h3, comp, h4⟩, k, comp, h3, h4, h1, h5⟩
def roB (b L : Nat) (xs : Nat → Int32) : Nat → Option (Nat × (Nat → Int32)) := fun a => if a = b then some (L, xs) else none
set_option maxHeartbeats 4000000 in
theorem start_G {args : Array Value} {s : State} (hts : ∀ w ∈ lw_tbl, w.before args s = true) (hgv : (Jvm.Cond.and given_1 narrow_1).before args s = true) {b L : Nat} {xs : Nat → Int32} (hX : va_X b L xs s s.heap) (hb : b < s.heap.size) :
    ∃ (D : va_G) (ar : Nat → ClassId) (sa sv : Nat → Nat), Gw D ar (roB b L xs) sa sv s s.heap (fun q => s.heap.size ≤ q) := by
  have hs : ∀ w ∈ lvs, w.before args s = true := flat_of_before _ hgv
  have hG : ∀ w ∈ tblG, w.before args s = true := fun w h => hts w (tblG_lw h)
  have hA : ∀ a : Nat, a < s.heap.size → ¬ (fun q => s.heap.size ≤ q) a := fun a h q => by have q : s.heap.size ≤ a := q; omega
  have hcl : ∀ k : Nat, ∃ q : ClassId × (Nat → Nat), ∀ r : vw_C, clsL[k]? = some r → u_Kn s r.1 r.2.1 r.2.2 q.1 q.2 := by
    intro k
    rcases Nat.lt_or_ge k 13 with hk | hk
    · rcases (show k = 0 ∨ k = 1 ∨ k = 2 ∨ k = 3 ∨ k = 4 ∨ k = 5 ∨ k = 6 ∨ k = 7 ∨ k = 8 ∨ k = 9 ∨ k = 10 ∨ k = 11 ∨ k = 12 by omega) with rfl | rfl | rfl | rfl | rfl | rfl | rfl | rfl | rfl | rfl | rfl | rfl | rfl
      · obtain ⟨c, iS, hk⟩ := u_known (C := RX0) (T := TX0) (N := 11) (n := 11) hG inX0 (hG _ it0); exact ⟨(c, iS), fun r hr => by cases hr; exact hk⟩
      · obtain ⟨c, iS, hk⟩ := u_known (C := RX1) (T := TX1) (N := 11) (n := 11) hG inX1 (hG _ it1); exact ⟨(c, iS), fun r hr => by cases hr; exact hk⟩
      · obtain ⟨c, iS, hk⟩ := u_known (C := RX2) (T := TX2) (N := 8) (n := 8) hG inX2 (hG _ it2); exact ⟨(c, iS), fun r hr => by cases hr; exact hk⟩
      · obtain ⟨c, iS, hk⟩ := u_known (C := RX3) (T := TX3) (N := 17) (n := 17) hG inX3 (hG _ it3); exact ⟨(c, iS), fun r hr => by cases hr; exact hk⟩
      · obtain ⟨c, iS, hk⟩ := u_known (C := RX4) (T := TX4) (N := 8) (n := 8) hG inX4 (hG _ it4); exact ⟨(c, iS), fun r hr => by cases hr; exact hk⟩
      · obtain ⟨c, iS, hk⟩ := u_known (C := RX5) (T := TX5) (N := 14) (n := 14) hG inX5 (hG _ it5); exact ⟨(c, iS), fun r hr => by cases hr; exact hk⟩
      · obtain ⟨c, iS, hk⟩ := u_known (C := RX6) (T := TX6) (N := 1) (n := 1) hG inX6 (hG _ it6); exact ⟨(c, iS), fun r hr => by cases hr; exact hk⟩
      · obtain ⟨c, iS, hk⟩ := u_known (C := RX7) (T := TX7) (N := 11) (n := 11) hG inX7 (hG _ it7); exact ⟨(c, iS), fun r hr => by cases hr; exact hk⟩
      · obtain ⟨c, iS, hk⟩ := u_known (C := RX8) (T := TX8) (N := 4) (n := 4) hG inX8 (hG _ it8); exact ⟨(c, iS), fun r hr => by cases hr; exact hk⟩
      · obtain ⟨c, iS, hk⟩ := u_known (C := RX9) (T := TX9) (N := 10) (n := 10) hG inX9 (hG _ it9); exact ⟨(c, iS), fun r hr => by cases hr; exact hk⟩
      · obtain ⟨c, iS, hk⟩ := u_known (C := RX10) (T := TX10) (N := 12) (n := 12) hG inX10 (hG _ it10); exact ⟨(c, iS), fun r hr => by cases hr; exact hk⟩
      · obtain ⟨c, iS, hk⟩ := u_known (C := RX11) (T := TX11) (N := 12) (n := 12) hG inX11 (hG _ it11); exact ⟨(c, iS), fun r hr => by cases hr; exact hk⟩
      · obtain ⟨c, iS, hk⟩ := u_known (C := RX12) (T := TX12) (N := 40) (n := 40) hG inX12 (hG _ it12); exact ⟨(c, iS), fun r hr => by cases hr; exact hk⟩
    · exact ⟨(0, fun _ => 0), fun r hr => by rw [List.getElem?_eq_none (by simpa [clsL] using hk)] at hr; cases hr⟩
  obtain ⟨dd, hdd⟩ := Classical.axiomOfChoice hcl
  have har : ∀ t : Nat, ∃ c : ClassId, t ≤ 8 → ArrOfT s c (tyN t) ∧ va_RA s c (tyN t) := by
    intro t
    rcases Nat.lt_or_ge t 9 with ht | ht
    · rcases (show t = 0 ∨ t = 1 ∨ t = 2 ∨ t = 3 ∨ t = 4 ∨ t = 5 ∨ t = 6 ∨ t = 7 ∨ t = 8 by omega) with rfl | rfl | rfl | rfl | rfl | rfl | rfl | rfl | rfl
      · obtain ⟨c, hc⟩ := arr_of (ty := .int) (by intro C h; cases h) (hG _ arC0); exact ⟨c, fun _ => hc⟩
      · obtain ⟨c, hc⟩ := arr_of (ty := .long) (by intro C h; cases h) (hG _ arC1); exact ⟨c, fun _ => hc⟩
      · obtain ⟨c, hc⟩ := arr_of (ty := .boolean) (by intro C h; cases h) (hG _ arC2); exact ⟨c, fun _ => hc⟩
      · obtain ⟨c, hc⟩ := arr_of (ty := .byte) (by intro C h; cases h) (hG _ arC3); exact ⟨c, fun _ => hc⟩
      · obtain ⟨c, hc⟩ := arr_ofO (hts _ (exL_lw ao4)); exact ⟨c, fun _ => hc⟩
      · obtain ⟨c, hc⟩ := arr_ofO (hts _ (exL_lw ao5)); exact ⟨c, fun _ => hc⟩
      · obtain ⟨c, hc⟩ := arr_ofO (hts _ (exL_lw ao6)); exact ⟨c, fun _ => hc⟩
      · obtain ⟨c, hc⟩ := arr_ofO (hts _ (exL_lw ao7)); exact ⟨c, fun _ => hc⟩
      · obtain ⟨c, hc⟩ := arr_ofO (hts _ (exL_lw ao8)); exact ⟨c, fun _ => hc⟩
    · exact ⟨0, fun h => absurd h (by omega)⟩
  obtain ⟨ar, har⟩ := Classical.axiomOfChoice har
  have hst : ∀ j : Nat, ∃ q : Nat × Nat, j < 25 → vk_S 1 [sln j] [strI.getD j []] (fun _ => q.1) (fun _ => q.2) (fun q => s.heap.size ≤ q) s s.heap ∧ ∀ (o i : Nat) (tx : String), strT[j]? = some (o, i, tx) → vk_R (cn o) i tx q.1 s := by
    intro j
    rcases Nat.lt_or_ge j 25 with hj | hj
    · rcases (show j = 0 ∨ j = 1 ∨ j = 2 ∨ j = 3 ∨ j = 4 ∨ j = 5 ∨ j = 6 ∨ j = 7 ∨ j = 8 ∨ j = 9 ∨ j = 10 ∨ j = 11 ∨ j = 12 ∨ j = 13 ∨ j = 14 ∨ j = 15 ∨ j = 16 ∨ j = 17 ∨ j = 18 ∨ j = 19 ∨ j = 20 ∨ j = 21 ∨ j = 22 ∨ j = 23 ∨ j = 24 by omega) with rfl | rfl | rfl | rfl | rfl | rfl | rfl | rfl | rfl | rfl | rfl | rfl | rfl | rfl | rfl | rfl | rfl | rfl | rfl | rfl | rfl | rfl | rfl | rfl | rfl
      · obtain ⟨q, h1, h2⟩ := str_of hs sx0 (by decide +kernel); exact ⟨q, fun _ => ⟨h1, fun o i tx h => by cases h; exact vk_R.of (hts _ sr0) h2⟩⟩
      · obtain ⟨q, h1, h2⟩ := str_of hs sx1 (by decide +kernel); exact ⟨q, fun _ => ⟨h1, fun o i tx h => by cases h; exact vk_R.of (hts _ sr1) h2⟩⟩
      · obtain ⟨q, h1, h2⟩ := str_of hs sx2 (by decide +kernel); exact ⟨q, fun _ => ⟨h1, fun o i tx h => by cases h; exact vk_R.of (hts _ sr2) h2⟩⟩
      · obtain ⟨q, h1, h2⟩ := str_of hs sx3 (by decide +kernel); exact ⟨q, fun _ => ⟨h1, fun o i tx h => by cases h; exact vk_R.of (hts _ sr3) h2⟩⟩
      · obtain ⟨q, h1, h2⟩ := str_of hs sx4 (by decide +kernel); exact ⟨q, fun _ => ⟨h1, fun o i tx h => by cases h; exact vk_R.of (hts _ sr4) h2⟩⟩
      · obtain ⟨q, h1, h2⟩ := str_of hs sx5 (by decide +kernel); exact ⟨q, fun _ => ⟨h1, fun o i tx h => by cases h; exact vk_R.of (hts _ sr5) h2⟩⟩
      · obtain ⟨q, h1, h2⟩ := str_of hs sx6 (by decide +kernel); exact ⟨q, fun _ => ⟨h1, fun o i tx h => by cases h; exact vk_R.of (hts _ sr6) h2⟩⟩
      · obtain ⟨q, h1, h2⟩ := str_of hs sx7 (by decide +kernel); exact ⟨q, fun _ => ⟨h1, fun o i tx h => by cases h; exact vk_R.of (hts _ sr7) h2⟩⟩
      · obtain ⟨q, h1, h2⟩ := str_of hs sx8 (by decide +kernel); exact ⟨q, fun _ => ⟨h1, fun o i tx h => by cases h; exact vk_R.of (hts _ sr8) h2⟩⟩
      · obtain ⟨q, h1, h2⟩ := str_of hs sx9 (by decide +kernel); exact ⟨q, fun _ => ⟨h1, fun o i tx h => by cases h; exact vk_R.of (hts _ sr9) h2⟩⟩
      · obtain ⟨q, h1, h2⟩ := str_of hs sx10 (by decide +kernel); exact ⟨q, fun _ => ⟨h1, fun o i tx h => by cases h; exact vk_R.of (hts _ sr10) h2⟩⟩
      · obtain ⟨q, h1, h2⟩ := str_of hs sx11 (by decide +kernel); exact ⟨q, fun _ => ⟨h1, fun o i tx h => by cases h; exact vk_R.of (hts _ sr11) h2⟩⟩
      · obtain ⟨q, h1, h2⟩ := str_of hs sx12 (by decide +kernel); exact ⟨q, fun _ => ⟨h1, fun o i tx h => by cases h; exact vk_R.of (hts _ sr12) h2⟩⟩
      · obtain ⟨q, h1, h2⟩ := str_of hs sx13 (by decide +kernel); exact ⟨q, fun _ => ⟨h1, fun o i tx h => by cases h; exact vk_R.of (hts _ sr13) h2⟩⟩
      · obtain ⟨q, h1, h2⟩ := str_of hs sx14 (by decide +kernel); exact ⟨q, fun _ => ⟨h1, fun o i tx h => by cases h; exact vk_R.of (hts _ sr14) h2⟩⟩
      · obtain ⟨q, h1, h2⟩ := str_of hs sx15 (by decide +kernel); exact ⟨q, fun _ => ⟨h1, fun o i tx h => by cases h; exact vk_R.of (hts _ sr15) h2⟩⟩
      · obtain ⟨q, h1, h2⟩ := str_of hs sx16 (by decide +kernel); exact ⟨q, fun _ => ⟨h1, fun o i tx h => by cases h; exact vk_R.of (hts _ sr16) h2⟩⟩
      · obtain ⟨q, h1, h2⟩ := str_of hs sx17 (by decide +kernel); exact ⟨q, fun _ => ⟨h1, fun o i tx h => by cases h; exact vk_R.of (hts _ sr17) h2⟩⟩
      · obtain ⟨q, h1, h2⟩ := str_of hs sx18 (by decide +kernel); exact ⟨q, fun _ => ⟨h1, fun o i tx h => by cases h; exact vk_R.of (hts _ sr18) h2⟩⟩
      · obtain ⟨q, h1, h2⟩ := str_of hs sx19 (by decide +kernel); exact ⟨q, fun _ => ⟨h1, fun o i tx h => by cases h; exact vk_R.of (hts _ sr19) h2⟩⟩
      · obtain ⟨q, h1, h2⟩ := str_of hs sx20 (by decide +kernel); exact ⟨q, fun _ => ⟨h1, fun o i tx h => by cases h; exact vk_R.of (hts _ sr20) h2⟩⟩
      · obtain ⟨q, h1, h2⟩ := str_of hs sx21 (by decide +kernel); exact ⟨q, fun _ => ⟨h1, fun o i tx h => by cases h; exact vk_R.of (hts _ sr21) h2⟩⟩
      · obtain ⟨q, h1, h2⟩ := str_of hs sx22 (by decide +kernel); exact ⟨q, fun _ => ⟨h1, fun o i tx h => by cases h; exact vk_R.of (hts _ sr22) h2⟩⟩
      · obtain ⟨q, h1, h2⟩ := str_of hs sx23 (by decide +kernel); exact ⟨q, fun _ => ⟨h1, fun o i tx h => by cases h; exact vk_R.of (hts _ sr23) h2⟩⟩
      · obtain ⟨q, h1, h2⟩ := str_of hs sx24 (by decide +kernel); exact ⟨q, fun _ => ⟨h1, fun o i tx h => by cases h; exact vk_R.of (hts _ sr24) h2⟩⟩
    · exact ⟨(0, 0), fun h => absurd h (by omega)⟩
  obtain ⟨ss, hss⟩ := Classical.axiomOfChoice hst
  refine ⟨(fun k => (dd k).1, fun k => (dd k).2), ar, fun j => (ss j).1, fun j => (ss j).2, fun w hw => ?_, ⟨fun c q hq => hdd c q hq, fun k q hk => ?_⟩, ?_, vx_Zqof (hts _ wU) (hts _ wT) (hs _ zU) hA, vx_Zqof (hts _ wS) (hts _ wT) (hs _ zS) hA, fun j hj => (hss j hj).1, fun j o i tx h => (hss j (by
      have := (List.getElem?_eq_some_iff.mp h).1
      simpa [strT] using this)).2 o i tx h, va_Zof (hts _ wC) (hts _ wJ) (va_eqi (hs _ zC)) hA, fun a n f h => ?_⟩
  · have hw1 := hts w (exL_lw hw)
    rcases exL_kind hw with ⟨a, b, c, d, rfl⟩ | ⟨a, b, rfl⟩ | ⟨C, rfl⟩ | ⟨x, rfl⟩ | ⟨x, b, n, r, rfl⟩
    · exact va_Nw.of rfl hw1
    · exact va_Nw.of rfl hw1
    · exact va_AO.of hw1
    · exact va_Nw.of rfl hw1
    · exact codeSync_warm (State.WarmedH.refl s) hw1
  · have hk9 : k < 9 := by
      have := (List.getElem?_eq_some_iff.mp hk).1
      simpa [tysA] using this
    rw [tysA_at ar (by omega)] at hk
    cases hk
    exact har k (by omega)
  · intro q hq
    simp only [ncsL, List.mem_cons, List.not_mem_nil, or_false] at hq
    rcases hq with rfl | rfl | rfl | rfl | rfl
    · exact va_Nc.of (hs _ nc0)
    · exact va_Nc.of (hs _ nc1)
    · exact va_Nc.of (hs _ nc2)
    · exact va_Nc.of (hs _ nc3)
    · exact va_Nc.of (hs _ nc4)
  · simp only [roB] at h
    split at h
    · rename_i e; cases h; subst e; exact ⟨hX, hb, hA a hb⟩
    · cases h
end
section
/-! the law: from its WP to the claim's W (follows the skeleton of the kit, with two things more: no traces, no table) -/
def R_law : String := "BurntOakLaw"
def lw_P (b : Addr) (xs : List Int32) (args : Array Value) (s : State) : Prop := args = #[.ref b] ∧ s.IntsAt b xs ∧ xs.length ≤ 4096 ∧ (Jvm.Cond.and given_1 narrow_1).before args s = true
def lw_Q (_ : Array Value) (s : State) (o : Outcome) (t : State) : Prop := o = .returned (some (.int 1)) ∧ Framed s o t [] 1201024 5493034
def lw_Z (below : List Frame) (a : Array Value) (s : State) : State → Prop := fun t => ∃ o, t.status = .running ∧ Ended t below o ∧ lw_Q a s o t
def lw_At (p : Program) (l : Launch) (s : State) (m : MethodId) (meth : Method) (c : Code) (b L : Nat) (xs : Nat → Int32) : Prop :=
  p.tables.exec = Jvm.exec ∧ c.code = code ∧ meth.sig.returnType = ret ∧ c.maxLocals = 8 ∧ s.vm.findClass R_law = some m.cls ∧ (∀ w ∈ lw_tbl, w.before #[Value.ref b] s = true) ∧ va_X b L xs s s.heap ∧ b < s.heap.size ∧ meth.locks = false ∧ (Jvm.Cond.and given_1 narrow_1).before #[Value.ref b] s = true ∧ c.exceptionTable.toList = [] ∧ meth.name = "law" ∧ l.stackTraces = false
def mL_law : Mth := (yL_law, cL_law, 8, some .boolean, 13, [])
abbrev lawQ : Ou → Hp → Prop := Ex (fun v _ => v = some (.int 1)) No
set_option maxHeartbeats 4000000 in
theorem law_W {p : Program} {e : Env} {s : State} {m : MethodId} {below : List Frame} {meth : Method} {c : Code} {l : Launch} {b L : Nat} {xs : Nat → Int32} (C0 : lw_At p l s m meth c b L xs)
    (hWP : ∀ (ar : Nat → ClassId) (sa : Nat → Nat), WP ar (roB b L xs) sa mL_law 1000 0 [some (.ref b), none, none, none, none, none, none, none] [] (fun _ => none) 1201024 5493034 lawQ) :
    W p l e room_1 s m #[Value.ref b] below meth c s.heap [] 0 0 (lw_Z below #[Value.ref b] s) (entryFrame m ([Value.ref b] : List Value).toArray 8) := by
  obtain ⟨hx, hb, hr, hml, hown, hts, hX, hbl, hlocks, hgv, htab, hnm, htr⟩ := C0
  obtain ⟨D, ar, sa, sv, hG⟩ := start_G hts hgv hX hbl
  have hsd : Sd D ar (roB b L xs) sa sv l _ := WPc.sound (hWP ar sa)
  have hw := hsd p e room_1 s m #[Value.ref b] below meth c (fun q => s.heap.size ≤ q) ⟨hx, hb, hml, hown, fun w h => hts w (tblG_lw h), hG, fun _ z => z, hr, hlocks, htab, hnm, by decide, by decide, htr⟩ s.heap [] 0 0 _ [] (entL_lr (av := [.ref b]) (n := 8) (Nat.le_of_ble_eq_true rfl)) rfl (fun _ => rfl) (fun k q h => by simp at h) ⟨fun i j p q h => by simp at h, fun k q h => by simp at h⟩ va_S.rf (by decide) (by decide)
  rw [lg_entry_eq]
  intro T hT X
  obtain ⟨t, a1, o, b1, b2, b3⟩ := hw T hT X
  refine ⟨t, a1, o, b1, b2, ?_⟩
  rcases b3 with ⟨⟨v, h, ws, ho, hv, -⟩, Lc, hF, hLc⟩ | ⟨q, -, E, ce, Lc, ⟨h, ws, hv, -⟩, -⟩
  · have hv : v = some (.int 1) := hv
    subst hv
    refine ⟨ho, hF.1, hF.2.1, ?_⟩
    exact hF.2.2.weaken (fun y hy hlt => absurd (hLc y hy) (Nat.not_le.mpr hlt)) (Nat.le_refl _) (Nat.le_refl _)
  · exact hv.elim
end
section
theorem eX6_init_0 : dc mX6_init 0 (.aload_n 0) 1 1 := ⟨by decide +kernel, rfl⟩
theorem eX6_init_1 : dc mX6_init 1 (.invokespecial 3) 3 4 := ⟨by decide +kernel, rfl⟩
theorem eX6_init_4 : dc mX6_init 4 (.aload_n 0) 1 5 := ⟨by decide +kernel, rfl⟩
theorem eX6_init_5 : dc mX6_init 5 (.iconst 4) 1 6 := ⟨by decide +kernel, rfl⟩
theorem eX6_init_6 : dc mX6_init 6 (.newarray .long) 2 8 := ⟨by decide +kernel, rfl⟩
theorem eX6_init_8 : dc mX6_init 8 (.putfield 11) 3 11 := ⟨by decide +kernel, rfl⟩
theorem eX6_init_11 : dc mX6_init 11 (.return_) 1 12 := ⟨by decide +kernel, rfl⟩
theorem eX8_init_0 : dc mX8_init 0 (.aload_n 0) 1 1 := ⟨by decide +kernel, rfl⟩
theorem eX8_init_1 : dc mX8_init 1 (.invokespecial 3) 3 4 := ⟨by decide +kernel, rfl⟩
theorem eX8_init_4 : dc mX8_init 4 (.aload_n 0) 1 5 := ⟨by decide +kernel, rfl⟩
theorem eX8_init_5 : dc mX8_init 5 (.iconst 1) 1 6 := ⟨by decide +kernel, rfl⟩
theorem eX8_init_6 : dc mX8_init 6 (.putfield 9) 3 9 := ⟨by decide +kernel, rfl⟩
theorem eX8_init_9 : dc mX8_init 9 (.aload_n 0) 1 10 := ⟨by decide +kernel, rfl⟩
theorem eX8_init_10 : dc mX8_init 10 (.bipush 12) 2 12 := ⟨by decide +kernel, rfl⟩
theorem eX8_init_12 : dc mX8_init 12 (.newarray .long) 2 14 := ⟨by decide +kernel, rfl⟩
theorem eX8_init_14 : dc mX8_init 14 (.putfield 15) 3 17 := ⟨by decide +kernel, rfl⟩
theorem eX8_init_17 : dc mX8_init 17 (.return_) 1 18 := ⟨by decide +kernel, rfl⟩
theorem eX5_init_0 : dc mX5_init 0 (.aload_n 0) 1 1 := ⟨by decide +kernel, rfl⟩
theorem eX5_init_1 : dc mX5_init 1 (.invokespecial 3) 3 4 := ⟨by decide +kernel, rfl⟩
theorem eX5_init_4 : dc mX5_init 4 (.aload_n 0) 1 5 := ⟨by decide +kernel, rfl⟩
theorem eX5_init_5 : dc mX5_init 5 (.sipush 200) 3 8 := ⟨by decide +kernel, rfl⟩
theorem eX5_init_8 : dc mX5_init 8 (.newarray .byte) 2 10 := ⟨by decide +kernel, rfl⟩
theorem eX5_init_10 : dc mX5_init 10 (.putfield 9) 3 13 := ⟨by decide +kernel, rfl⟩
theorem eX5_init_13 : dc mX5_init 13 (.aload_n 0) 1 14 := ⟨by decide +kernel, rfl⟩
theorem eX5_init_14 : dc mX5_init 14 (.iconst (-1)) 1 15 := ⟨by decide +kernel, rfl⟩
theorem eX5_init_15 : dc mX5_init 15 (.putfield 15) 3 18 := ⟨by decide +kernel, rfl⟩
theorem eX5_init_18 : dc mX5_init 18 (.aload_n 0) 1 19 := ⟨by decide +kernel, rfl⟩
theorem eX5_init_19 : dc mX5_init 19 (.bipush 40) 2 21 := ⟨by decide +kernel, rfl⟩
theorem eX5_init_21 : dc mX5_init 21 (.newarray .int) 2 23 := ⟨by decide +kernel, rfl⟩
theorem eX5_init_23 : dc mX5_init 23 (.putfield 19) 3 26 := ⟨by decide +kernel, rfl⟩
theorem eX5_init_26 : dc mX5_init 26 (.return_) 1 27 := ⟨by decide +kernel, rfl⟩
theorem eX7_init_0 : dc mX7_init 0 (.aload_n 0) 1 1 := ⟨by decide +kernel, rfl⟩
theorem eX7_init_1 : dc mX7_init 1 (.invokespecial 3) 3 4 := ⟨by decide +kernel, rfl⟩
theorem eX7_init_4 : dc mX7_init 4 (.aload_n 0) 1 5 := ⟨by decide +kernel, rfl⟩
theorem eX7_init_5 : dc mX7_init 5 (.bipush 120) 2 7 := ⟨by decide +kernel, rfl⟩
theorem eX7_init_7 : dc mX7_init 7 (.newarray .int) 2 9 := ⟨by decide +kernel, rfl⟩
theorem eX7_init_9 : dc mX7_init 9 (.putfield 9) 3 12 := ⟨by decide +kernel, rfl⟩
theorem eX7_init_12 : dc mX7_init 12 (.aload_n 0) 1 13 := ⟨by decide +kernel, rfl⟩
theorem eX7_init_13 : dc mX7_init 13 (.bipush 120) 2 15 := ⟨by decide +kernel, rfl⟩
theorem eX7_init_15 : dc mX7_init 15 (.newarray .long) 2 17 := ⟨by decide +kernel, rfl⟩
theorem eX7_init_17 : dc mX7_init 17 (.putfield 15) 3 20 := ⟨by decide +kernel, rfl⟩
theorem eX7_init_20 : dc mX7_init 20 (.aload_n 0) 1 21 := ⟨by decide +kernel, rfl⟩
theorem eX7_init_21 : dc mX7_init 21 (.bipush 120) 2 23 := ⟨by decide +kernel, rfl⟩
theorem eX7_init_23 : dc mX7_init 23 (.newarray .int) 2 25 := ⟨by decide +kernel, rfl⟩
theorem eX7_init_25 : dc mX7_init 25 (.putfield 19) 3 28 := ⟨by decide +kernel, rfl⟩
theorem eX7_init_28 : dc mX7_init 28 (.aload_n 0) 1 29 := ⟨by decide +kernel, rfl⟩
theorem eX7_init_29 : dc mX7_init 29 (.bipush 120) 2 31 := ⟨by decide +kernel, rfl⟩
theorem eX7_init_31 : dc mX7_init 31 (.newarray .long) 2 33 := ⟨by decide +kernel, rfl⟩
theorem eX7_init_33 : dc mX7_init 33 (.putfield 22) 3 36 := ⟨by decide +kernel, rfl⟩
theorem eX7_init_36 : dc mX7_init 36 (.aload_n 0) 1 37 := ⟨by decide +kernel, rfl⟩
theorem eX7_init_37 : dc mX7_init 37 (.iconst 1) 1 38 := ⟨by decide +kernel, rfl⟩
theorem eX7_init_38 : dc mX7_init 38 (.newarray .int) 2 40 := ⟨by decide +kernel, rfl⟩
theorem eX7_init_40 : dc mX7_init 40 (.putfield 25) 3 43 := ⟨by decide +kernel, rfl⟩
theorem eX7_init_43 : dc mX7_init 43 (.aload_n 0) 1 44 := ⟨by decide +kernel, rfl⟩
theorem eX7_init_44 : dc mX7_init 44 (.aload_n 1) 1 45 := ⟨by decide +kernel, rfl⟩
theorem eX7_init_45 : dc mX7_init 45 (.putfield 28) 3 48 := ⟨by decide +kernel, rfl⟩
theorem eX7_init_48 : dc mX7_init 48 (.return_) 1 49 := ⟨by decide +kernel, rfl⟩
theorem eX10_init_0 : dc mX10_init 0 (.aload_n 0) 1 1 := ⟨by decide +kernel, rfl⟩
theorem eX10_init_1 : dc mX10_init 1 (.invokespecial 3) 3 4 := ⟨by decide +kernel, rfl⟩
theorem eX10_init_4 : dc mX10_init 4 (.aload_n 0) 1 5 := ⟨by decide +kernel, rfl⟩
theorem eX10_init_5 : dc mX10_init 5 (.iconst 0) 1 6 := ⟨by decide +kernel, rfl⟩
theorem eX10_init_6 : dc mX10_init 6 (.putfield 9) 3 9 := ⟨by decide +kernel, rfl⟩
theorem eX10_init_9 : dc mX10_init 9 (.aload_n 0) 1 10 := ⟨by decide +kernel, rfl⟩
theorem eX10_init_10 : dc mX10_init 10 (.iconst (-1)) 1 11 := ⟨by decide +kernel, rfl⟩
theorem eX10_init_11 : dc mX10_init 11 (.putfield 15) 3 14 := ⟨by decide +kernel, rfl⟩
theorem eX10_init_14 : dc mX10_init 14 (.aload_n 0) 1 15 := ⟨by decide +kernel, rfl⟩
theorem eX10_init_15 : dc mX10_init 15 (.iconst 1) 1 16 := ⟨by decide +kernel, rfl⟩
theorem eX10_init_16 : dc mX10_init 16 (.putfield 18) 3 19 := ⟨by decide +kernel, rfl⟩
theorem eX10_init_19 : dc mX10_init 19 (.aload_n 0) 1 20 := ⟨by decide +kernel, rfl⟩
theorem eX10_init_20 : dc mX10_init 20 (.iconst 2) 1 21 := ⟨by decide +kernel, rfl⟩
theorem eX10_init_21 : dc mX10_init 21 (.newarray .long) 2 23 := ⟨by decide +kernel, rfl⟩
theorem eX10_init_23 : dc mX10_init 23 (.putfield 22) 3 26 := ⟨by decide +kernel, rfl⟩
theorem eX10_init_26 : dc mX10_init 26 (.aload_n 0) 1 27 := ⟨by decide +kernel, rfl⟩
theorem eX10_init_27 : dc mX10_init 27 (.bipush 80) 2 29 := ⟨by decide +kernel, rfl⟩
theorem eX10_init_29 : dc mX10_init 29 (.newarray .long) 2 31 := ⟨by decide +kernel, rfl⟩
theorem eX10_init_31 : dc mX10_init 31 (.putfield 26) 3 34 := ⟨by decide +kernel, rfl⟩
theorem eX10_init_34 : dc mX10_init 34 (.aload_n 0) 1 35 := ⟨by decide +kernel, rfl⟩
theorem eX10_init_35 : dc mX10_init 35 (.bipush 40) 2 37 := ⟨by decide +kernel, rfl⟩
theorem eX10_init_37 : dc mX10_init 37 (.newarray .long) 2 39 := ⟨by decide +kernel, rfl⟩
theorem eX10_init_39 : dc mX10_init 39 (.putfield 29) 3 42 := ⟨by decide +kernel, rfl⟩
theorem eX10_init_42 : dc mX10_init 42 (.aload_n 0) 1 43 := ⟨by decide +kernel, rfl⟩
theorem eX10_init_43 : dc mX10_init 43 (.bipush 12) 2 45 := ⟨by decide +kernel, rfl⟩
theorem eX10_init_45 : dc mX10_init 45 (.newarray .long) 2 47 := ⟨by decide +kernel, rfl⟩
theorem eX10_init_47 : dc mX10_init 47 (.putfield 32) 3 50 := ⟨by decide +kernel, rfl⟩
theorem eX10_init_50 : dc mX10_init 50 (.aload_n 0) 1 51 := ⟨by decide +kernel, rfl⟩
theorem eX10_init_51 : dc mX10_init 51 (.bipush 12) 2 53 := ⟨by decide +kernel, rfl⟩
theorem eX10_init_53 : dc mX10_init 53 (.newarray .long) 2 55 := ⟨by decide +kernel, rfl⟩
theorem eX10_init_55 : dc mX10_init 55 (.putfield 35) 3 58 := ⟨by decide +kernel, rfl⟩
theorem eX10_init_58 : dc mX10_init 58 (.aload_n 0) 1 59 := ⟨by decide +kernel, rfl⟩
theorem eX10_init_59 : dc mX10_init 59 (.sipush 240) 3 62 := ⟨by decide +kernel, rfl⟩
theorem eX10_init_62 : dc mX10_init 62 (.newarray .boolean) 2 64 := ⟨by decide +kernel, rfl⟩
theorem eX10_init_64 : dc mX10_init 64 (.putfield 38) 3 67 := ⟨by decide +kernel, rfl⟩
theorem eX10_init_67 : dc mX10_init 67 (.aload_n 0) 1 68 := ⟨by decide +kernel, rfl⟩
theorem eX10_init_68 : dc mX10_init 68 (.sipush 1920) 3 71 := ⟨by decide +kernel, rfl⟩
theorem eX10_init_71 : dc mX10_init 71 (.newarray .long) 2 73 := ⟨by decide +kernel, rfl⟩
theorem eX10_init_73 : dc mX10_init 73 (.putfield 42) 3 76 := ⟨by decide +kernel, rfl⟩
theorem eX10_init_76 : dc mX10_init 76 (.aload_n 0) 1 77 := ⟨by decide +kernel, rfl⟩
theorem eX10_init_77 : dc mX10_init 77 (.aload_n 1) 1 78 := ⟨by decide +kernel, rfl⟩
theorem eX10_init_78 : dc mX10_init 78 (.putfield 45) 3 81 := ⟨by decide +kernel, rfl⟩
theorem eX10_init_81 : dc mX10_init 81 (.return_) 1 82 := ⟨by decide +kernel, rfl⟩
theorem eX2_init_0 : dc mX2_init 0 (.aload_n 0) 1 1 := ⟨by decide +kernel, rfl⟩
theorem eX2_init_1 : dc mX2_init 1 (.invokespecial 3) 3 4 := ⟨by decide +kernel, rfl⟩
theorem eX2_init_4 : dc mX2_init 4 (.aload_n 0) 1 5 := ⟨by decide +kernel, rfl⟩
theorem eX2_init_5 : dc mX2_init 5 (.bipush 72) 2 7 := ⟨by decide +kernel, rfl⟩
theorem eX2_init_7 : dc mX2_init 7 (.newarray .int) 2 9 := ⟨by decide +kernel, rfl⟩
theorem eX2_init_9 : dc mX2_init 9 (.putfield 9) 3 12 := ⟨by decide +kernel, rfl⟩
theorem eX2_init_12 : dc mX2_init 12 (.aload_n 0) 1 13 := ⟨by decide +kernel, rfl⟩
theorem eX2_init_13 : dc mX2_init 13 (.bipush 8) 2 15 := ⟨by decide +kernel, rfl⟩
theorem eX2_init_15 : dc mX2_init 15 (.newarray .int) 2 17 := ⟨by decide +kernel, rfl⟩
theorem eX2_init_17 : dc mX2_init 17 (.putfield 15) 3 20 := ⟨by decide +kernel, rfl⟩
theorem eX2_init_20 : dc mX2_init 20 (.aload_n 0) 1 21 := ⟨by decide +kernel, rfl⟩
theorem eX2_init_21 : dc mX2_init 21 (.bipush 8) 2 23 := ⟨by decide +kernel, rfl⟩
theorem eX2_init_23 : dc mX2_init 23 (.newarray .int) 2 25 := ⟨by decide +kernel, rfl⟩
theorem eX2_init_25 : dc mX2_init 25 (.putfield 18) 3 28 := ⟨by decide +kernel, rfl⟩
theorem eX2_init_28 : dc mX2_init 28 (.aload_n 0) 1 29 := ⟨by decide +kernel, rfl⟩
theorem eX2_init_29 : dc mX2_init 29 (.bipush 8) 2 31 := ⟨by decide +kernel, rfl⟩
theorem eX2_init_31 : dc mX2_init 31 (.newarray .boolean) 2 33 := ⟨by decide +kernel, rfl⟩
theorem eX2_init_33 : dc mX2_init 33 (.putfield 21) 3 36 := ⟨by decide +kernel, rfl⟩
theorem eX2_init_36 : dc mX2_init 36 (.aload_n 0) 1 37 := ⟨by decide +kernel, rfl⟩
theorem eX2_init_37 : dc mX2_init 37 (.bipush 8) 2 39 := ⟨by decide +kernel, rfl⟩
theorem eX2_init_39 : dc mX2_init 39 (.newarray .boolean) 2 41 := ⟨by decide +kernel, rfl⟩
theorem eX2_init_41 : dc mX2_init 41 (.putfield 25) 3 44 := ⟨by decide +kernel, rfl⟩
theorem eX2_init_44 : dc mX2_init 44 (.aload_n 0) 1 45 := ⟨by decide +kernel, rfl⟩
theorem eX2_init_45 : dc mX2_init 45 (.bipush 8) 2 47 := ⟨by decide +kernel, rfl⟩
theorem eX2_init_47 : dc mX2_init 47 (.newarray .int) 2 49 := ⟨by decide +kernel, rfl⟩
theorem eX2_init_49 : dc mX2_init 49 (.putfield 28) 3 52 := ⟨by decide +kernel, rfl⟩
theorem eX2_init_52 : dc mX2_init 52 (.return_) 1 53 := ⟨by decide +kernel, rfl⟩
theorem eX0_init_0 : dc mX0_init 0 (.aload_n 0) 1 1 := ⟨by decide +kernel, rfl⟩
theorem eX0_init_1 : dc mX0_init 1 (.invokespecial 3) 3 4 := ⟨by decide +kernel, rfl⟩
theorem eX0_init_4 : dc mX0_init 4 (.aload_n 0) 1 5 := ⟨by decide +kernel, rfl⟩
theorem eX0_init_5 : dc mX0_init 5 (.bipush 12) 2 7 := ⟨by decide +kernel, rfl⟩
theorem eX0_init_7 : dc mX0_init 7 (.newarray .int) 2 9 := ⟨by decide +kernel, rfl⟩
theorem eX0_init_9 : dc mX0_init 9 (.putfield 9) 3 12 := ⟨by decide +kernel, rfl⟩
theorem eX0_init_12 : dc mX0_init 12 (.aload_n 0) 1 13 := ⟨by decide +kernel, rfl⟩
theorem eX0_init_13 : dc mX0_init 13 (.bipush 12) 2 15 := ⟨by decide +kernel, rfl⟩
theorem eX0_init_15 : dc mX0_init 15 (.newarray .int) 2 17 := ⟨by decide +kernel, rfl⟩
theorem eX0_init_17 : dc mX0_init 17 (.putfield 15) 3 20 := ⟨by decide +kernel, rfl⟩
theorem eX0_init_20 : dc mX0_init 20 (.aload_n 0) 1 21 := ⟨by decide +kernel, rfl⟩
theorem eX0_init_21 : dc mX0_init 21 (.bipush 12) 2 23 := ⟨by decide +kernel, rfl⟩
theorem eX0_init_23 : dc mX0_init 23 (.newarray .int) 2 25 := ⟨by decide +kernel, rfl⟩
theorem eX0_init_25 : dc mX0_init 25 (.putfield 18) 3 28 := ⟨by decide +kernel, rfl⟩
theorem eX0_init_28 : dc mX0_init 28 (.aload_n 0) 1 29 := ⟨by decide +kernel, rfl⟩
theorem eX0_init_29 : dc mX0_init 29 (.sipush 480) 3 32 := ⟨by decide +kernel, rfl⟩
theorem eX0_init_32 : dc mX0_init 32 (.newarray .int) 2 34 := ⟨by decide +kernel, rfl⟩
theorem eX0_init_34 : dc mX0_init 34 (.putfield 21) 3 37 := ⟨by decide +kernel, rfl⟩
theorem eX0_init_37 : dc mX0_init 37 (.aload_n 0) 1 38 := ⟨by decide +kernel, rfl⟩
theorem eX0_init_38 : dc mX0_init 38 (.bipush 30) 2 40 := ⟨by decide +kernel, rfl⟩
theorem eX0_init_40 : dc mX0_init 40 (.newarray .int) 2 42 := ⟨by decide +kernel, rfl⟩
theorem eX0_init_42 : dc mX0_init 42 (.putfield 24) 3 45 := ⟨by decide +kernel, rfl⟩
theorem eX0_init_45 : dc mX0_init 45 (.aload_n 0) 1 46 := ⟨by decide +kernel, rfl⟩
theorem eX0_init_46 : dc mX0_init 46 (.bipush 30) 2 48 := ⟨by decide +kernel, rfl⟩
theorem eX0_init_48 : dc mX0_init 48 (.newarray .int) 2 50 := ⟨by decide +kernel, rfl⟩
theorem eX0_init_50 : dc mX0_init 50 (.putfield 27) 3 53 := ⟨by decide +kernel, rfl⟩
theorem eX0_init_53 : dc mX0_init 53 (.aload_n 0) 1 54 := ⟨by decide +kernel, rfl⟩
theorem eX0_init_54 : dc mX0_init 54 (.bipush 30) 2 56 := ⟨by decide +kernel, rfl⟩
theorem eX0_init_56 : dc mX0_init 56 (.newarray .int) 2 58 := ⟨by decide +kernel, rfl⟩
theorem eX0_init_58 : dc mX0_init 58 (.putfield 30) 3 61 := ⟨by decide +kernel, rfl⟩
theorem eX0_init_61 : dc mX0_init 61 (.aload_n 0) 1 62 := ⟨by decide +kernel, rfl⟩
theorem eX0_init_62 : dc mX0_init 62 (.bipush 30) 2 64 := ⟨by decide +kernel, rfl⟩
theorem eX0_init_64 : dc mX0_init 64 (.newarray .int) 2 66 := ⟨by decide +kernel, rfl⟩
theorem eX0_init_66 : dc mX0_init 66 (.putfield 33) 3 69 := ⟨by decide +kernel, rfl⟩
theorem eX0_init_69 : dc mX0_init 69 (.aload_n 0) 1 70 := ⟨by decide +kernel, rfl⟩
theorem eX0_init_70 : dc mX0_init 70 (.bipush 30) 2 72 := ⟨by decide +kernel, rfl⟩
theorem eX0_init_72 : dc mX0_init 72 (.newarray .int) 2 74 := ⟨by decide +kernel, rfl⟩
theorem eX0_init_74 : dc mX0_init 74 (.putfield 36) 3 77 := ⟨by decide +kernel, rfl⟩
theorem eX0_init_77 : dc mX0_init 77 (.return_) 1 78 := ⟨by decide +kernel, rfl⟩
theorem eX3_init_0 : dc mX3_init 0 (.aload_n 0) 1 1 := ⟨by decide +kernel, rfl⟩
theorem eX3_init_1 : dc mX3_init 1 (.invokespecial 3) 3 4 := ⟨by decide +kernel, rfl⟩
theorem eX3_init_4 : dc mX3_init 4 (.aload_n 0) 1 5 := ⟨by decide +kernel, rfl⟩
theorem eX3_init_5 : dc mX3_init 5 (.bipush 40) 2 7 := ⟨by decide +kernel, rfl⟩
theorem eX3_init_7 : dc mX3_init 7 (.newarray .int) 2 9 := ⟨by decide +kernel, rfl⟩
theorem eX3_init_9 : dc mX3_init 9 (.putfield 9) 3 12 := ⟨by decide +kernel, rfl⟩
theorem eX3_init_12 : dc mX3_init 12 (.aload_n 0) 1 13 := ⟨by decide +kernel, rfl⟩
theorem eX3_init_13 : dc mX3_init 13 (.bipush 40) 2 15 := ⟨by decide +kernel, rfl⟩
theorem eX3_init_15 : dc mX3_init 15 (.newarray .int) 2 17 := ⟨by decide +kernel, rfl⟩
theorem eX3_init_17 : dc mX3_init 17 (.putfield 15) 3 20 := ⟨by decide +kernel, rfl⟩
theorem eX3_init_20 : dc mX3_init 20 (.aload_n 0) 1 21 := ⟨by decide +kernel, rfl⟩
theorem eX3_init_21 : dc mX3_init 21 (.bipush 60) 2 23 := ⟨by decide +kernel, rfl⟩
theorem eX3_init_23 : dc mX3_init 23 (.newarray .int) 2 25 := ⟨by decide +kernel, rfl⟩
theorem eX3_init_25 : dc mX3_init 25 (.putfield 18) 3 28 := ⟨by decide +kernel, rfl⟩
theorem eX3_init_28 : dc mX3_init 28 (.aload_n 0) 1 29 := ⟨by decide +kernel, rfl⟩
theorem eX3_init_29 : dc mX3_init 29 (.bipush 60) 2 31 := ⟨by decide +kernel, rfl⟩
theorem eX3_init_31 : dc mX3_init 31 (.newarray .int) 2 33 := ⟨by decide +kernel, rfl⟩
theorem eX3_init_33 : dc mX3_init 33 (.putfield 21) 3 36 := ⟨by decide +kernel, rfl⟩
theorem eX3_init_36 : dc mX3_init 36 (.aload_n 0) 1 37 := ⟨by decide +kernel, rfl⟩
theorem eX3_init_37 : dc mX3_init 37 (.bipush 60) 2 39 := ⟨by decide +kernel, rfl⟩
theorem eX3_init_39 : dc mX3_init 39 (.newarray .int) 2 41 := ⟨by decide +kernel, rfl⟩
theorem eX3_init_41 : dc mX3_init 41 (.putfield 24) 3 44 := ⟨by decide +kernel, rfl⟩
theorem eX3_init_44 : dc mX3_init 44 (.aload_n 0) 1 45 := ⟨by decide +kernel, rfl⟩
theorem eX3_init_45 : dc mX3_init 45 (.bipush 60) 2 47 := ⟨by decide +kernel, rfl⟩
theorem eX3_init_47 : dc mX3_init 47 (.newarray .int) 2 49 := ⟨by decide +kernel, rfl⟩
theorem eX3_init_49 : dc mX3_init 49 (.putfield 27) 3 52 := ⟨by decide +kernel, rfl⟩
theorem eX3_init_52 : dc mX3_init 52 (.aload_n 0) 1 53 := ⟨by decide +kernel, rfl⟩
theorem eX3_init_53 : dc mX3_init 53 (.sipush 240) 3 56 := ⟨by decide +kernel, rfl⟩
theorem eX3_init_56 : dc mX3_init 56 (.newarray .int) 2 58 := ⟨by decide +kernel, rfl⟩
theorem eX3_init_58 : dc mX3_init 58 (.putfield 30) 3 61 := ⟨by decide +kernel, rfl⟩
theorem eX3_init_61 : dc mX3_init 61 (.aload_n 0) 1 62 := ⟨by decide +kernel, rfl⟩
theorem eX3_init_62 : dc mX3_init 62 (.bipush 120) 2 64 := ⟨by decide +kernel, rfl⟩
theorem eX3_init_64 : dc mX3_init 64 (.newarray .int) 2 66 := ⟨by decide +kernel, rfl⟩
theorem eX3_init_66 : dc mX3_init 66 (.putfield 33) 3 69 := ⟨by decide +kernel, rfl⟩
theorem eX3_init_69 : dc mX3_init 69 (.aload_n 0) 1 70 := ⟨by decide +kernel, rfl⟩
theorem eX3_init_70 : dc mX3_init 70 (.bipush 120) 2 72 := ⟨by decide +kernel, rfl⟩
theorem eX3_init_72 : dc mX3_init 72 (.newarray .int) 2 74 := ⟨by decide +kernel, rfl⟩
theorem eX3_init_74 : dc mX3_init 74 (.putfield 36) 3 77 := ⟨by decide +kernel, rfl⟩
theorem eX3_init_77 : dc mX3_init 77 (.aload_n 0) 1 78 := ⟨by decide +kernel, rfl⟩
theorem eX3_init_78 : dc mX3_init 78 (.bipush 40) 2 80 := ⟨by decide +kernel, rfl⟩
theorem eX3_init_80 : dc mX3_init 80 (.newarray .int) 2 82 := ⟨by decide +kernel, rfl⟩
theorem eX3_init_82 : dc mX3_init 82 (.putfield 39) 3 85 := ⟨by decide +kernel, rfl⟩
theorem eX3_init_85 : dc mX3_init 85 (.aload_n 0) 1 86 := ⟨by decide +kernel, rfl⟩
theorem eX3_init_86 : dc mX3_init 86 (.bipush 40) 2 88 := ⟨by decide +kernel, rfl⟩
theorem eX3_init_88 : dc mX3_init 88 (.newarray .int) 2 90 := ⟨by decide +kernel, rfl⟩
theorem eX3_init_90 : dc mX3_init 90 (.putfield 42) 3 93 := ⟨by decide +kernel, rfl⟩
theorem eX3_init_93 : dc mX3_init 93 (.aload_n 0) 1 94 := ⟨by decide +kernel, rfl⟩
theorem eX3_init_94 : dc mX3_init 94 (.bipush 40) 2 96 := ⟨by decide +kernel, rfl⟩
theorem eX3_init_96 : dc mX3_init 96 (.newarray .boolean) 2 98 := ⟨by decide +kernel, rfl⟩
theorem eX3_init_98 : dc mX3_init 98 (.putfield 45) 3 101 := ⟨by decide +kernel, rfl⟩
theorem eX3_init_101 : dc mX3_init 101 (.aload_n 0) 1 102 := ⟨by decide +kernel, rfl⟩
theorem eX3_init_102 : dc mX3_init 102 (.bipush 40) 2 104 := ⟨by decide +kernel, rfl⟩
theorem eX3_init_104 : dc mX3_init 104 (.newarray .int) 2 106 := ⟨by decide +kernel, rfl⟩
theorem eX3_init_106 : dc mX3_init 106 (.putfield 49) 3 109 := ⟨by decide +kernel, rfl⟩
theorem eX3_init_109 : dc mX3_init 109 (.aload_n 0) 1 110 := ⟨by decide +kernel, rfl⟩
theorem eX3_init_110 : dc mX3_init 110 (.bipush 40) 2 112 := ⟨by decide +kernel, rfl⟩
theorem eX3_init_112 : dc mX3_init 112 (.newarray .int) 2 114 := ⟨by decide +kernel, rfl⟩
theorem eX3_init_114 : dc mX3_init 114 (.putfield 52) 3 117 := ⟨by decide +kernel, rfl⟩
theorem eX3_init_117 : dc mX3_init 117 (.return_) 1 118 := ⟨by decide +kernel, rfl⟩
theorem eX9_init_0 : dc mX9_init 0 (.aload_n 0) 1 1 := ⟨by decide +kernel, rfl⟩
theorem eX9_init_1 : dc mX9_init 1 (.invokespecial 3) 3 4 := ⟨by decide +kernel, rfl⟩
theorem eX9_init_4 : dc mX9_init 4 (.aload_n 0) 1 5 := ⟨by decide +kernel, rfl⟩
theorem eX9_init_5 : dc mX9_init 5 (.bipush 96) 2 7 := ⟨by decide +kernel, rfl⟩
theorem eX9_init_7 : dc mX9_init 7 (.newarray .int) 2 9 := ⟨by decide +kernel, rfl⟩
theorem eX9_init_9 : dc mX9_init 9 (.putfield 9) 3 12 := ⟨by decide +kernel, rfl⟩
theorem eX9_init_12 : dc mX9_init 12 (.aload_n 0) 1 13 := ⟨by decide +kernel, rfl⟩
theorem eX9_init_13 : dc mX9_init 13 (.bipush 96) 2 15 := ⟨by decide +kernel, rfl⟩
theorem eX9_init_15 : dc mX9_init 15 (.newarray .long) 2 17 := ⟨by decide +kernel, rfl⟩
theorem eX9_init_17 : dc mX9_init 17 (.putfield 15) 3 20 := ⟨by decide +kernel, rfl⟩
theorem eX9_init_20 : dc mX9_init 20 (.aload_n 0) 1 21 := ⟨by decide +kernel, rfl⟩
theorem eX9_init_21 : dc mX9_init 21 (.new 19) 3 24 := ⟨by decide +kernel, rfl⟩
theorem eX9_init_24 : dc mX9_init 24 (.dup) 1 25 := ⟨by decide +kernel, rfl⟩
theorem eX9_init_25 : dc mX9_init 25 (.invokespecial 21) 3 28 := ⟨by decide +kernel, rfl⟩
theorem eX9_init_28 : dc mX9_init 28 (.putfield 22) 3 31 := ⟨by decide +kernel, rfl⟩
theorem eX9_init_31 : dc mX9_init 31 (.aload_n 0) 1 32 := ⟨by decide +kernel, rfl⟩
theorem eX9_init_32 : dc mX9_init 32 (.new 19) 3 35 := ⟨by decide +kernel, rfl⟩
theorem eX9_init_35 : dc mX9_init 35 (.dup) 1 36 := ⟨by decide +kernel, rfl⟩
theorem eX9_init_36 : dc mX9_init 36 (.invokespecial 21) 3 39 := ⟨by decide +kernel, rfl⟩
theorem eX9_init_39 : dc mX9_init 39 (.putfield 26) 3 42 := ⟨by decide +kernel, rfl⟩
theorem eX9_init_42 : dc mX9_init 42 (.aload_n 0) 1 43 := ⟨by decide +kernel, rfl⟩
theorem eX9_init_43 : dc mX9_init 43 (.sipush 240) 3 46 := ⟨by decide +kernel, rfl⟩
theorem eX9_init_46 : dc mX9_init 46 (.newarray .int) 2 48 := ⟨by decide +kernel, rfl⟩
theorem eX9_init_48 : dc mX9_init 48 (.putfield 29) 3 51 := ⟨by decide +kernel, rfl⟩
theorem eX9_init_51 : dc mX9_init 51 (.aload_n 0) 1 52 := ⟨by decide +kernel, rfl⟩
theorem eX9_init_52 : dc mX9_init 52 (.aload_n 1) 1 53 := ⟨by decide +kernel, rfl⟩
theorem eX9_init_53 : dc mX9_init 53 (.putfield 32) 3 56 := ⟨by decide +kernel, rfl⟩
theorem eX9_init_56 : dc mX9_init 56 (.aload_n 0) 1 57 := ⟨by decide +kernel, rfl⟩
theorem eX9_init_57 : dc mX9_init 57 (.aload_n 2) 1 58 := ⟨by decide +kernel, rfl⟩
theorem eX9_init_58 : dc mX9_init 58 (.putfield 36) 3 61 := ⟨by decide +kernel, rfl⟩
theorem eX9_init_61 : dc mX9_init 61 (.aload_n 0) 1 62 := ⟨by decide +kernel, rfl⟩
theorem eX9_init_62 : dc mX9_init 62 (.aload_n 3) 1 63 := ⟨by decide +kernel, rfl⟩
theorem eX9_init_63 : dc mX9_init 63 (.putfield 40) 3 66 := ⟨by decide +kernel, rfl⟩
theorem eX9_init_66 : dc mX9_init 66 (.aload_n 0) 1 67 := ⟨by decide +kernel, rfl⟩
theorem eX9_init_67 : dc mX9_init 67 (.new 44) 3 70 := ⟨by decide +kernel, rfl⟩
theorem eX9_init_70 : dc mX9_init 70 (.dup) 1 71 := ⟨by decide +kernel, rfl⟩
theorem eX9_init_71 : dc mX9_init 71 (.aload_n 1) 1 72 := ⟨by decide +kernel, rfl⟩
theorem eX9_init_72 : dc mX9_init 72 (.invokespecial 46) 3 75 := ⟨by decide +kernel, rfl⟩
theorem eX9_init_75 : dc mX9_init 75 (.putfield 49) 3 78 := ⟨by decide +kernel, rfl⟩
theorem eX9_init_78 : dc mX9_init 78 (.return_) 1 79 := ⟨by decide +kernel, rfl⟩
theorem eX4_init_0 : dc mX4_init 0 (.aload_n 0) 1 1 := ⟨by decide +kernel, rfl⟩
theorem eX4_init_1 : dc mX4_init 1 (.invokespecial 3) 3 4 := ⟨by decide +kernel, rfl⟩
theorem eX4_init_4 : dc mX4_init 4 (.aload_n 0) 1 5 := ⟨by decide +kernel, rfl⟩
theorem eX4_init_5 : dc mX4_init 5 (.sipush 240) 3 8 := ⟨by decide +kernel, rfl⟩
theorem eX4_init_8 : dc mX4_init 8 (.newarray .int) 2 10 := ⟨by decide +kernel, rfl⟩
theorem eX4_init_10 : dc mX4_init 10 (.putfield 9) 3 13 := ⟨by decide +kernel, rfl⟩
theorem eX4_init_13 : dc mX4_init 13 (.aload_n 0) 1 14 := ⟨by decide +kernel, rfl⟩
theorem eX4_init_14 : dc mX4_init 14 (.sipush 240) 3 17 := ⟨by decide +kernel, rfl⟩
theorem eX4_init_17 : dc mX4_init 17 (.newarray .int) 2 19 := ⟨by decide +kernel, rfl⟩
theorem eX4_init_19 : dc mX4_init 19 (.putfield 15) 3 22 := ⟨by decide +kernel, rfl⟩
theorem eX4_init_22 : dc mX4_init 22 (.aload_n 0) 1 23 := ⟨by decide +kernel, rfl⟩
theorem eX4_init_23 : dc mX4_init 23 (.iconst 1) 1 24 := ⟨by decide +kernel, rfl⟩
theorem eX4_init_24 : dc mX4_init 24 (.newarray .int) 2 26 := ⟨by decide +kernel, rfl⟩
theorem eX4_init_26 : dc mX4_init 26 (.putfield 18) 3 29 := ⟨by decide +kernel, rfl⟩
theorem eX4_init_29 : dc mX4_init 29 (.aload_n 0) 1 30 := ⟨by decide +kernel, rfl⟩
theorem eX4_init_30 : dc mX4_init 30 (.new 21) 3 33 := ⟨by decide +kernel, rfl⟩
theorem eX4_init_33 : dc mX4_init 33 (.dup) 1 34 := ⟨by decide +kernel, rfl⟩
theorem eX4_init_34 : dc mX4_init 34 (.invokespecial 23) 3 37 := ⟨by decide +kernel, rfl⟩
theorem eX4_init_37 : dc mX4_init 37 (.putfield 24) 3 40 := ⟨by decide +kernel, rfl⟩
theorem eX4_init_40 : dc mX4_init 40 (.aload_n 0) 1 41 := ⟨by decide +kernel, rfl⟩
theorem eX4_init_41 : dc mX4_init 41 (.sipush 240) 3 44 := ⟨by decide +kernel, rfl⟩
theorem eX4_init_44 : dc mX4_init 44 (.newarray .int) 2 46 := ⟨by decide +kernel, rfl⟩
theorem eX4_init_46 : dc mX4_init 46 (.putfield 28) 3 49 := ⟨by decide +kernel, rfl⟩
theorem eX4_init_49 : dc mX4_init 49 (.aload_n 0) 1 50 := ⟨by decide +kernel, rfl⟩
theorem eX4_init_50 : dc mX4_init 50 (.bipush 40) 2 52 := ⟨by decide +kernel, rfl⟩
theorem eX4_init_52 : dc mX4_init 52 (.newarray .int) 2 54 := ⟨by decide +kernel, rfl⟩
theorem eX4_init_54 : dc mX4_init 54 (.putfield 31) 3 57 := ⟨by decide +kernel, rfl⟩
theorem eX4_init_57 : dc mX4_init 57 (.aload_n 0) 1 58 := ⟨by decide +kernel, rfl⟩
theorem eX4_init_58 : dc mX4_init 58 (.bipush 40) 2 60 := ⟨by decide +kernel, rfl⟩
theorem eX4_init_60 : dc mX4_init 60 (.newarray .int) 2 62 := ⟨by decide +kernel, rfl⟩
theorem eX4_init_62 : dc mX4_init 62 (.putfield 34) 3 65 := ⟨by decide +kernel, rfl⟩
theorem eX4_init_65 : dc mX4_init 65 (.aload_n 0) 1 66 := ⟨by decide +kernel, rfl⟩
theorem eX4_init_66 : dc mX4_init 66 (.aload_n 1) 1 67 := ⟨by decide +kernel, rfl⟩
theorem eX4_init_67 : dc mX4_init 67 (.putfield 37) 3 70 := ⟨by decide +kernel, rfl⟩
theorem eX4_init_70 : dc mX4_init 70 (.return_) 1 71 := ⟨by decide +kernel, rfl⟩
theorem eX3_isTaken_0 : dc mX3_isTaken 0 (.iconst 0) 1 1 := ⟨by decide +kernel, rfl⟩
theorem eX3_isTaken_1 : dc mX3_isTaken 1 (.istore_n 3) 1 2 := ⟨by decide +kernel, rfl⟩
theorem eX3_isTaken_2 : dc mX3_isTaken 2 (.iload_n 3) 1 3 := ⟨by decide +kernel, rfl⟩
theorem eX3_isTaken_3 : dc mX3_isTaken 3 (.aload_n 0) 1 4 := ⟨by decide +kernel, rfl⟩
theorem eX3_isTaken_4 : dc mX3_isTaken 4 (.getfield 55) 3 7 := ⟨by decide +kernel, rfl⟩
theorem eX3_isTaken_7 : dc mX3_isTaken 7 (.if_icmp .ge 31) 3 10 := ⟨by decide +kernel, rfl⟩
theorem eX3_isTaken_10 : dc mX3_isTaken 10 (.aload_n 0) 1 11 := ⟨by decide +kernel, rfl⟩
theorem eX3_isTaken_11 : dc mX3_isTaken 11 (.getfield 9) 3 14 := ⟨by decide +kernel, rfl⟩
theorem eX3_isTaken_14 : dc mX3_isTaken 14 (.iload_n 3) 1 15 := ⟨by decide +kernel, rfl⟩
theorem eX3_isTaken_15 : dc mX3_isTaken 15 (.iaload) 1 16 := ⟨by decide +kernel, rfl⟩
theorem eX3_isTaken_16 : dc mX3_isTaken 16 (.iload_n 1) 1 17 := ⟨by decide +kernel, rfl⟩
theorem eX3_isTaken_17 : dc mX3_isTaken 17 (.if_icmp .ne 15) 3 20 := ⟨by decide +kernel, rfl⟩
theorem eX3_isTaken_20 : dc mX3_isTaken 20 (.aload_n 0) 1 21 := ⟨by decide +kernel, rfl⟩
theorem eX3_isTaken_21 : dc mX3_isTaken 21 (.getfield 15) 3 24 := ⟨by decide +kernel, rfl⟩
theorem eX3_isTaken_24 : dc mX3_isTaken 24 (.iload_n 3) 1 25 := ⟨by decide +kernel, rfl⟩
theorem eX3_isTaken_25 : dc mX3_isTaken 25 (.iaload) 1 26 := ⟨by decide +kernel, rfl⟩
theorem eX3_isTaken_26 : dc mX3_isTaken 26 (.iload_n 2) 1 27 := ⟨by decide +kernel, rfl⟩
theorem eX3_isTaken_27 : dc mX3_isTaken 27 (.if_icmp .ne 5) 3 30 := ⟨by decide +kernel, rfl⟩
theorem eX3_isTaken_30 : dc mX3_isTaken 30 (.iconst 1) 1 31 := ⟨by decide +kernel, rfl⟩
theorem eX3_isTaken_31 : dc mX3_isTaken 31 (.ireturn) 1 32 := ⟨by decide +kernel, rfl⟩
theorem eX3_isTaken_32 : dc mX3_isTaken 32 (.iinc 3 1) 3 35 := ⟨by decide +kernel, rfl⟩
theorem eX3_isTaken_35 : dc mX3_isTaken 35 (.goto (-33)) 3 38 := ⟨by decide +kernel, rfl⟩
theorem eX3_isTaken_38 : dc mX3_isTaken 38 (.iconst 0) 1 39 := ⟨by decide +kernel, rfl⟩
theorem eX3_isTaken_39 : dc mX3_isTaken 39 (.ireturn) 1 40 := ⟨by decide +kernel, rfl⟩
theorem eX11_needPlace_0 : dc mX11_needPlace 0 (.iload_n 1) 1 1 := ⟨by decide +kernel, rfl⟩
theorem eX11_needPlace_1 : dc mX11_needPlace 1 (.ifCond .lt 14) 3 4 := ⟨by decide +kernel, rfl⟩
theorem eX11_needPlace_4 : dc mX11_needPlace 4 (.iload_n 1) 1 5 := ⟨by decide +kernel, rfl⟩
theorem eX11_needPlace_5 : dc mX11_needPlace 5 (.aload_n 0) 1 6 := ⟨by decide +kernel, rfl⟩
theorem eX11_needPlace_6 : dc mX11_needPlace 6 (.getfield 12) 3 9 := ⟨by decide +kernel, rfl⟩
theorem eX11_needPlace_9 : dc mX11_needPlace 9 (.getfield 426) 3 12 := ⟨by decide +kernel, rfl⟩
theorem eX11_needPlace_12 : dc mX11_needPlace 12 (.if_icmp .lt 11) 3 15 := ⟨by decide +kernel, rfl⟩
theorem eX11_needPlace_15 : dc mX11_needPlace 15 (.new 131) 3 18 := ⟨by decide +kernel, rfl⟩
theorem eX11_needPlace_18 : dc mX11_needPlace 18 (.dup) 1 19 := ⟨by decide +kernel, rfl⟩
theorem eX11_needPlace_19 : dc mX11_needPlace 19 (.invokespecial 133) 3 22 := ⟨by decide +kernel, rfl⟩
theorem eX11_needPlace_22 : dc mX11_needPlace 22 (.athrow) 1 23 := ⟨by decide +kernel, rfl⟩
theorem eX11_needPlace_23 : dc mX11_needPlace 23 (.return_) 1 24 := ⟨by decide +kernel, rfl⟩
theorem eX12_init_0 : dc mX12_init 0 (.aload_n 0) 1 1 := ⟨by decide +kernel, rfl⟩
theorem eX12_init_1 : dc mX12_init 1 (.invokespecial 3) 3 4 := ⟨by decide +kernel, rfl⟩
theorem eX12_init_4 : dc mX12_init 4 (.aload_n 0) 1 5 := ⟨by decide +kernel, rfl⟩
theorem eX12_init_5 : dc mX12_init 5 (.sipush 2988) 3 8 := ⟨by decide +kernel, rfl⟩
theorem eX12_init_8 : dc mX12_init 8 (.newarray .int) 2 10 := ⟨by decide +kernel, rfl⟩
theorem eX12_init_10 : dc mX12_init 10 (.putfield 9) 3 13 := ⟨by decide +kernel, rfl⟩
theorem eX12_init_13 : dc mX12_init 13 (.aload_n 0) 1 14 := ⟨by decide +kernel, rfl⟩
theorem eX12_init_14 : dc mX12_init 14 (.sipush 8964) 3 17 := ⟨by decide +kernel, rfl⟩
theorem eX12_init_17 : dc mX12_init 17 (.newarray .int) 2 19 := ⟨by decide +kernel, rfl⟩
theorem eX12_init_19 : dc mX12_init 19 (.putfield 13) 3 22 := ⟨by decide +kernel, rfl⟩
theorem eX12_init_22 : dc mX12_init 22 (.aload_n 0) 1 23 := ⟨by decide +kernel, rfl⟩
theorem eX12_init_23 : dc mX12_init 23 (.iconst 3) 1 24 := ⟨by decide +kernel, rfl⟩
theorem eX12_init_24 : dc mX12_init 24 (.newarray .boolean) 2 26 := ⟨by decide +kernel, rfl⟩
theorem eX12_init_26 : dc mX12_init 26 (.putfield 16) 3 29 := ⟨by decide +kernel, rfl⟩
theorem eX12_init_29 : dc mX12_init 29 (.aload_n 0) 1 30 := ⟨by decide +kernel, rfl⟩
theorem eX12_init_30 : dc mX12_init 30 (.iconst (-1)) 1 31 := ⟨by decide +kernel, rfl⟩
theorem eX12_init_31 : dc mX12_init 31 (.putfield 20) 3 34 := ⟨by decide +kernel, rfl⟩
theorem eX12_init_34 : dc mX12_init 34 (.aload_n 0) 1 35 := ⟨by decide +kernel, rfl⟩
theorem eX12_init_35 : dc mX12_init 35 (.sipush 4800) 3 38 := ⟨by decide +kernel, rfl⟩
theorem eX12_init_38 : dc mX12_init 38 (.newarray .long) 2 40 := ⟨by decide +kernel, rfl⟩
theorem eX12_init_40 : dc mX12_init 40 (.putfield 24) 3 43 := ⟨by decide +kernel, rfl⟩
theorem eX12_init_43 : dc mX12_init 43 (.aload_n 0) 1 44 := ⟨by decide +kernel, rfl⟩
theorem eX12_init_44 : dc mX12_init 44 (.sipush 384) 3 47 := ⟨by decide +kernel, rfl⟩
theorem eX12_init_47 : dc mX12_init 47 (.newarray .long) 2 49 := ⟨by decide +kernel, rfl⟩
theorem eX12_init_49 : dc mX12_init 49 (.putfield 28) 3 52 := ⟨by decide +kernel, rfl⟩
theorem eX12_init_52 : dc mX12_init 52 (.aload_n 0) 1 53 := ⟨by decide +kernel, rfl⟩
theorem eX12_init_53 : dc mX12_init 53 (.bipush 96) 2 55 := ⟨by decide +kernel, rfl⟩
theorem eX12_init_55 : dc mX12_init 55 (.newarray .boolean) 2 57 := ⟨by decide +kernel, rfl⟩
theorem eX12_init_57 : dc mX12_init 57 (.putfield 31) 3 60 := ⟨by decide +kernel, rfl⟩
theorem eX12_init_60 : dc mX12_init 60 (.aload_n 0) 1 61 := ⟨by decide +kernel, rfl⟩
theorem eX12_init_61 : dc mX12_init 61 (.bipush 120) 2 63 := ⟨by decide +kernel, rfl⟩
theorem eX12_init_63 : dc mX12_init 63 (.newarray .int) 2 65 := ⟨by decide +kernel, rfl⟩
theorem eX12_init_65 : dc mX12_init 65 (.putfield 34) 3 68 := ⟨by decide +kernel, rfl⟩
theorem eX12_init_68 : dc mX12_init 68 (.aload_n 0) 1 69 := ⟨by decide +kernel, rfl⟩
theorem eX12_init_69 : dc mX12_init 69 (.sipush 200) 3 72 := ⟨by decide +kernel, rfl⟩
theorem eX12_init_72 : dc mX12_init 72 (.newarray .int) 2 74 := ⟨by decide +kernel, rfl⟩
theorem eX12_init_74 : dc mX12_init 74 (.putfield 37) 3 77 := ⟨by decide +kernel, rfl⟩
theorem eX12_init_77 : dc mX12_init 77 (.aload_n 0) 1 78 := ⟨by decide +kernel, rfl⟩
theorem eX12_init_78 : dc mX12_init 78 (.iconst (-1)) 1 79 := ⟨by decide +kernel, rfl⟩
theorem eX12_init_79 : dc mX12_init 79 (.putfield 40) 3 82 := ⟨by decide +kernel, rfl⟩
theorem eX12_init_82 : dc mX12_init 82 (.aload_n 0) 1 83 := ⟨by decide +kernel, rfl⟩
theorem eX12_init_83 : dc mX12_init 83 (.sipush 173) 3 86 := ⟨by decide +kernel, rfl⟩
theorem eX12_init_86 : dc mX12_init 86 (.newarray .int) 2 88 := ⟨by decide +kernel, rfl⟩
theorem eX12_init_88 : dc mX12_init 88 (.putfield 43) 3 91 := ⟨by decide +kernel, rfl⟩
theorem eX12_init_91 : dc mX12_init 91 (.aload_n 0) 1 92 := ⟨by decide +kernel, rfl⟩
theorem eX12_init_92 : dc mX12_init 92 (.iconst 4) 1 93 := ⟨by decide +kernel, rfl⟩
theorem eX12_init_93 : dc mX12_init 93 (.newarray .long) 2 95 := ⟨by decide +kernel, rfl⟩
theorem eX12_init_95 : dc mX12_init 95 (.putfield 46) 3 98 := ⟨by decide +kernel, rfl⟩
theorem eX12_init_98 : dc mX12_init 98 (.aload_n 0) 1 99 := ⟨by decide +kernel, rfl⟩
theorem eX12_init_99 : dc mX12_init 99 (.iconst 4) 1 100 := ⟨by decide +kernel, rfl⟩
theorem eX12_init_100 : dc mX12_init 100 (.newarray .long) 2 102 := ⟨by decide +kernel, rfl⟩
theorem eX12_init_102 : dc mX12_init 102 (.putfield 49) 3 105 := ⟨by decide +kernel, rfl⟩
theorem eX12_init_105 : dc mX12_init 105 (.aload_n 0) 1 106 := ⟨by decide +kernel, rfl⟩
theorem eX12_init_106 : dc mX12_init 106 (.iconst 4) 1 107 := ⟨by decide +kernel, rfl⟩
theorem eX12_init_107 : dc mX12_init 107 (.newarray .long) 2 109 := ⟨by decide +kernel, rfl⟩
theorem eX12_init_109 : dc mX12_init 109 (.putfield 52) 3 112 := ⟨by decide +kernel, rfl⟩
theorem eX12_init_112 : dc mX12_init 112 (.aload_n 0) 1 113 := ⟨by decide +kernel, rfl⟩
theorem eX12_init_113 : dc mX12_init 113 (.sipush 164) 3 116 := ⟨by decide +kernel, rfl⟩
theorem eX12_init_116 : dc mX12_init 116 (.newarray .long) 2 118 := ⟨by decide +kernel, rfl⟩
theorem eX12_init_118 : dc mX12_init 118 (.putfield 55) 3 121 := ⟨by decide +kernel, rfl⟩
theorem eX12_init_121 : dc mX12_init 121 (.aload_n 0) 1 122 := ⟨by decide +kernel, rfl⟩
theorem eX12_init_122 : dc mX12_init 122 (.sipush 164) 3 125 := ⟨by decide +kernel, rfl⟩
theorem eX12_init_125 : dc mX12_init 125 (.newarray .long) 2 127 := ⟨by decide +kernel, rfl⟩
theorem eX12_init_127 : dc mX12_init 127 (.putfield 58) 3 130 := ⟨by decide +kernel, rfl⟩
theorem eX12_init_130 : dc mX12_init 130 (.aload_n 0) 1 131 := ⟨by decide +kernel, rfl⟩
theorem eX12_init_131 : dc mX12_init 131 (.iconst 4) 1 132 := ⟨by decide +kernel, rfl⟩
theorem eX12_init_132 : dc mX12_init 132 (.newarray .long) 2 134 := ⟨by decide +kernel, rfl⟩
theorem eX12_init_134 : dc mX12_init 134 (.putfield 61) 3 137 := ⟨by decide +kernel, rfl⟩
theorem eX12_init_137 : dc mX12_init 137 (.aload_n 0) 1 138 := ⟨by decide +kernel, rfl⟩
theorem eX12_init_138 : dc mX12_init 138 (.iconst 4) 1 139 := ⟨by decide +kernel, rfl⟩
theorem eX12_init_139 : dc mX12_init 139 (.newarray .long) 2 141 := ⟨by decide +kernel, rfl⟩
theorem eX12_init_141 : dc mX12_init 141 (.putfield 64) 3 144 := ⟨by decide +kernel, rfl⟩
theorem eX12_init_144 : dc mX12_init 144 (.aload_n 0) 1 145 := ⟨by decide +kernel, rfl⟩
theorem eX12_init_145 : dc mX12_init 145 (.bipush 40) 2 147 := ⟨by decide +kernel, rfl⟩
theorem eX12_init_147 : dc mX12_init 147 (.newarray .boolean) 2 149 := ⟨by decide +kernel, rfl⟩
theorem eX12_init_149 : dc mX12_init 149 (.putfield 67) 3 152 := ⟨by decide +kernel, rfl⟩
theorem eX12_init_152 : dc mX12_init 152 (.aload_n 0) 1 153 := ⟨by decide +kernel, rfl⟩
theorem eX12_init_153 : dc mX12_init 153 (.bipush 40) 2 155 := ⟨by decide +kernel, rfl⟩
theorem eX12_init_155 : dc mX12_init 155 (.newarray .boolean) 2 157 := ⟨by decide +kernel, rfl⟩
theorem eX12_init_157 : dc mX12_init 157 (.putfield 70) 3 160 := ⟨by decide +kernel, rfl⟩
theorem eX12_init_160 : dc mX12_init 160 (.aload_n 0) 1 161 := ⟨by decide +kernel, rfl⟩
theorem eX12_init_161 : dc mX12_init 161 (.sipush 240) 3 164 := ⟨by decide +kernel, rfl⟩
theorem eX12_init_164 : dc mX12_init 164 (.newarray .int) 2 166 := ⟨by decide +kernel, rfl⟩
theorem eX12_init_166 : dc mX12_init 166 (.putfield 73) 3 169 := ⟨by decide +kernel, rfl⟩
theorem eX12_init_169 : dc mX12_init 169 (.aload_n 0) 1 170 := ⟨by decide +kernel, rfl⟩
theorem eX12_init_170 : dc mX12_init 170 (.sipush 240) 3 173 := ⟨by decide +kernel, rfl⟩
theorem eX12_init_173 : dc mX12_init 173 (.newarray .int) 2 175 := ⟨by decide +kernel, rfl⟩
theorem eX12_init_175 : dc mX12_init 175 (.putfield 76) 3 178 := ⟨by decide +kernel, rfl⟩
theorem eX12_init_178 : dc mX12_init 178 (.aload_n 0) 1 179 := ⟨by decide +kernel, rfl⟩
theorem eX12_init_179 : dc mX12_init 179 (.bipush 40) 2 181 := ⟨by decide +kernel, rfl⟩
theorem eX12_init_181 : dc mX12_init 181 (.newarray .int) 2 183 := ⟨by decide +kernel, rfl⟩
theorem eX12_init_183 : dc mX12_init 183 (.putfield 79) 3 186 := ⟨by decide +kernel, rfl⟩
theorem eX12_init_186 : dc mX12_init 186 (.aload_n 0) 1 187 := ⟨by decide +kernel, rfl⟩
theorem eX12_init_187 : dc mX12_init 187 (.sipush 128) 3 190 := ⟨by decide +kernel, rfl⟩
theorem eX12_init_190 : dc mX12_init 190 (.newarray .long) 2 192 := ⟨by decide +kernel, rfl⟩
theorem eX12_init_192 : dc mX12_init 192 (.putfield 82) 3 195 := ⟨by decide +kernel, rfl⟩
theorem eX12_init_195 : dc mX12_init 195 (.aload_n 0) 1 196 := ⟨by decide +kernel, rfl⟩
theorem eX12_init_196 : dc mX12_init 196 (.iconst 3) 1 197 := ⟨by decide +kernel, rfl⟩
theorem eX12_init_197 : dc mX12_init 197 (.newarray .int) 2 199 := ⟨by decide +kernel, rfl⟩
theorem eX12_init_199 : dc mX12_init 199 (.putfield 85) 3 202 := ⟨by decide +kernel, rfl⟩
theorem eX12_init_202 : dc mX12_init 202 (.aload_n 0) 1 203 := ⟨by decide +kernel, rfl⟩
theorem eX12_init_203 : dc mX12_init 203 (.iconst 4) 1 204 := ⟨by decide +kernel, rfl⟩
theorem eX12_init_204 : dc mX12_init 204 (.newarray .int) 2 206 := ⟨by decide +kernel, rfl⟩
theorem eX12_init_206 : dc mX12_init 206 (.dup) 1 207 := ⟨by decide +kernel, rfl⟩
theorem eX12_init_207 : dc mX12_init 207 (.iconst 0) 1 208 := ⟨by decide +kernel, rfl⟩
theorem eX12_init_208 : dc mX12_init 208 (.iconst (-1)) 1 209 := ⟨by decide +kernel, rfl⟩
theorem eX12_init_209 : dc mX12_init 209 (.iastore) 1 210 := ⟨by decide +kernel, rfl⟩
theorem eX12_init_210 : dc mX12_init 210 (.dup) 1 211 := ⟨by decide +kernel, rfl⟩
theorem eX12_init_211 : dc mX12_init 211 (.iconst 1) 1 212 := ⟨by decide +kernel, rfl⟩
theorem eX12_init_212 : dc mX12_init 212 (.iconst (-1)) 1 213 := ⟨by decide +kernel, rfl⟩
theorem eX12_init_213 : dc mX12_init 213 (.iastore) 1 214 := ⟨by decide +kernel, rfl⟩
theorem eX12_init_214 : dc mX12_init 214 (.dup) 1 215 := ⟨by decide +kernel, rfl⟩
theorem eX12_init_215 : dc mX12_init 215 (.iconst 2) 1 216 := ⟨by decide +kernel, rfl⟩
theorem eX12_init_216 : dc mX12_init 216 (.iconst (-1)) 1 217 := ⟨by decide +kernel, rfl⟩
theorem eX12_init_217 : dc mX12_init 217 (.iastore) 1 218 := ⟨by decide +kernel, rfl⟩
theorem eX12_init_218 : dc mX12_init 218 (.dup) 1 219 := ⟨by decide +kernel, rfl⟩
theorem eX12_init_219 : dc mX12_init 219 (.iconst 3) 1 220 := ⟨by decide +kernel, rfl⟩
theorem eX12_init_220 : dc mX12_init 220 (.iconst (-1)) 1 221 := ⟨by decide +kernel, rfl⟩
theorem eX12_init_221 : dc mX12_init 221 (.iastore) 1 222 := ⟨by decide +kernel, rfl⟩
theorem eX12_init_222 : dc mX12_init 222 (.putfield 88) 3 225 := ⟨by decide +kernel, rfl⟩
theorem eX12_init_225 : dc mX12_init 225 (.aload_n 0) 1 226 := ⟨by decide +kernel, rfl⟩
theorem eX12_init_226 : dc mX12_init 226 (.iconst 4) 1 227 := ⟨by decide +kernel, rfl⟩
theorem eX12_init_227 : dc mX12_init 227 (.newarray .int) 2 229 := ⟨by decide +kernel, rfl⟩
theorem eX12_init_229 : dc mX12_init 229 (.putfield 91) 3 232 := ⟨by decide +kernel, rfl⟩
theorem eX12_init_232 : dc mX12_init 232 (.aload_n 0) 1 233 := ⟨by decide +kernel, rfl⟩
theorem eX12_init_233 : dc mX12_init 233 (.bipush 48) 2 235 := ⟨by decide +kernel, rfl⟩
theorem eX12_init_235 : dc mX12_init 235 (.newarray .long) 2 237 := ⟨by decide +kernel, rfl⟩
theorem eX12_init_237 : dc mX12_init 237 (.putfield 94) 3 240 := ⟨by decide +kernel, rfl⟩
theorem eX12_init_240 : dc mX12_init 240 (.return_) 1 241 := ⟨by decide +kernel, rfl⟩
end
section
theorem tw_11_131 : ∀ w ∈ vx_at0 (cn 11) 133 "java/util/NoSuchElementException" ["java/lang/RuntimeException", "java/lang/Exception"], (w ∈ tblG ∨ w ∈ exL) ∧ vx_ot w = true := by decide +kernel
theorem tc_11_131 : Cond.classLink (cn 11) 131 "java/util/NoSuchElementException" ∈ tblG ∧ Cond.initialized "java/util/NoSuchElementException" ∈ tblG := ⟨tblG_in (i := 694) (by decide +kernel) (by decide +kernel), tblG_in (i := 18) (by decide +kernel) (by decide +kernel)⟩
theorem th_X11_needPlace_15 : THk mX11_needPlace 15 131 133 "java/util/NoSuchElementException" ["java/lang/RuntimeException", "java/lang/Exception"] := ⟨rfl, by decide +kernel, by decide +kernel, tc_11_131.1, tc_11_131.2, tw_11_131, eX11_needPlace_15.1, eX11_needPlace_18.1, eX11_needPlace_19.1, eX11_needPlace_22.1, by decide⟩
end
section
/-! field lists of the classes: o objects, r arrays, s ints (and booleans), g longs, each by their order; what is made lies at r 0, r 1 .. in the order of making -/
def fsX0 (o r : Nat → Nat) (s : Nat → Int32) (g : Nat → Int64) : List Value := [.int (s 0), .ref (r 0), .ref (r 1), .ref (r 2), .ref (r 3), .int (s 1), .ref (r 4), .ref (r 5), .ref (r 6), .ref (r 7), .ref (r 8)]
def fsX1 (o r : Nat → Nat) (s : Nat → Int32) (g : Nat → Int64) : List Value := [.ref (o 0), .int (s 0), .long (g 0), .ref (r 0), .ref (r 1), .ref (r 2), .ref (r 3), .ref (r 4), .ref (o 1), .ref (r 5), .ref (r 6)]
def fsX2 (o r : Nat → Nat) (s : Nat → Int32) (g : Nat → Int64) : List Value := [.int (s 0), .ref (r 0), .int (s 1), .ref (r 1), .ref (r 2), .ref (r 3), .ref (r 4), .ref (r 5)]
def fsX3 (o r : Nat → Nat) (s : Nat → Int32) (g : Nat → Int64) : List Value := [.int (s 0), .ref (r 0), .ref (r 1), .int (s 1), .ref (r 2), .ref (r 3), .ref (r 4), .ref (r 5), .ref (r 6), .ref (r 7), .ref (r 8), .int (s 2), .ref (r 9), .ref (r 10), .ref (r 11), .ref (r 12), .ref (r 13)]
def fsX4 (o r : Nat → Nat) (s : Nat → Int32) (g : Nat → Int64) : List Value := [.ref (o 0), .ref (r 0), .ref (r 1), .ref (r 2), .ref (o 1), .ref (r 3), .ref (r 4), .ref (r 5)]
def fsX5 (o r : Nat → Nat) (s : Nat → Int32) (g : Nat → Int64) : List Value := [.ref (r 0), .int (s 0), .int (s 1), .int (s 2), .ref (r 1), .int (s 3), .int (s 4), .int (s 5), .int (s 6), .int (s 7), .int (s 8), .int (s 9), .int (s 10), .int (s 11)]
def fsX6 (o r : Nat → Nat) (s : Nat → Int32) (g : Nat → Int64) : List Value := [.ref (r 0)]
def fsX7 (o r : Nat → Nat) (s : Nat → Int32) (g : Nat → Int64) : List Value := [.ref (o 0), .int (s 0), .ref (r 0), .ref (r 1), .int (s 1), .ref (r 2), .ref (r 3), .ref (r 4), .int (s 2), .int (s 3), .long (g 0)]
def fsX8 (o r : Nat → Nat) (s : Nat → Int32) (g : Nat → Int64) : List Value := [.int (s 0), .int (s 1), .int (s 2), .ref (r 0)]
def fsX9 (o r : Nat → Nat) (s : Nat → Int32) (g : Nat → Int64) : List Value := [.ref (o 0), .ref (o 1), .ref (o 2), .ref (o 3), .ref (r 0), .ref (r 1), .int (s 0), .ref (o 4), .ref (o 5), .ref (r 2)]
def fsX10 (o r : Nat → Nat) (s : Nat → Int32) (g : Nat → Int64) : List Value := [.ref (o 0), .int (s 0), .int (s 1), .int (s 2), .long (g 0), .ref (r 0), .ref (r 1), .ref (r 2), .ref (r 3), .ref (r 4), .ref (r 5), .ref (r 6)]
def fsX11 (o r : Nat → Nat) (s : Nat → Int32) (g : Nat → Int64) : List Value := [.ref (o 0), .ref (o 1), .ref (o 2), .ref (o 3), .ref (o 4), .ref (o 5), .ref (o 6), .ref (o 7), .ref (r 0), .ref (r 1), .ref (r 2), .ref (r 3)]
def fsX12 (o r : Nat → Nat) (s : Nat → Int32) (g : Nat → Int64) : List Value := [.ref (r 0), .ref (r 1), .ref (r 2), .int (s 0), .int (s 1), .ref (r 3), .ref (r 4), .ref (r 5), .ref (r 6), .ref (r 7), .int (s 2), .int (s 3), .int (s 4), .int (s 5), .int (s 6), .int (s 7), .int (s 8), .int (s 9), .int (s 10), .int (s 11), .ref (r 8), .ref (r 9), .ref (r 10), .ref (r 11), .ref (r 12), .ref (r 13), .ref (r 14), .ref (r 15), .ref (r 16), .ref (r 17), .ref (r 18), .ref (r 19), .ref (r 20), .ref (r 21), .ref (r 22), .int (s 12), .int (s 13), .ref (r 23), .ref (r 24), .ref (r 25)]
def Nw (h : Hp) (a : Nat) (r : Nat → Nat) (n : Nat) : Prop := (∀ i, i < n → r i ≠ a ∧ h (r i) = none) ∧ ∀ i j, i < n → j < n → r i = r j → i = j
def Kp (h h' : Hp) (a : Nat) : Prop := ∀ (b : Nat) (x : va_E), b ≠ a → h b = some x → h' b = some x
theorem Kp.rf {h : Hp} {a : Nat} : Kp h h a := fun _ _ _ q => q
theorem Kp.trans {h h1 h2 : Hp} {a : Nat} (k1 : Kp h h1 a) (k2 : Kp h1 h2 a) : Kp h h2 a := fun b x n q => k2 b x n (k1 b x n q)
/-- the cells cs lie at r 0, r 1 .. -/
def AtL (h : Hp) (r : Nat → Nat) (cs : List va_E) : Prop := ∀ (i : Nat) (e : va_E), cs[i]? = some e → h (r i) = some e
/-- from h to h' the cells cs were made, at r 0, r 1 ..; of the old ones only a's has changed -/
def Al (h h' : Hp) (a : Nat) (r : Nat → Nat) (cs : List va_E) : Prop := Nw h a r cs.length ∧ Kp h h' a ∧ AtL h' r cs
def cat (n : Nat) (r1 r2 : Nat → Nat) (i : Nat) : Nat := if i < n then r1 i else r2 (i - n)
theorem Al.nil {h : Hp} {a : Nat} : Al h h a (fun _ => 0) [] := ⟨⟨fun i hi => absurd hi (Nat.not_lt_zero _), fun i j hi => absurd hi (Nat.not_lt_zero _)⟩, Kp.rf, fun i e q => by simp at q⟩
theorem Al.put {h h1 h2 : Hp} {a : Nat} {r : Nat → Nat} {cs : List va_E} (A : Al h h1 a r cs) (k : Kp h1 h2 a) : Al h h2 a r cs :=
  ⟨A.1, A.2.1.trans k, fun i e q => k _ _ ((A.1.1 i (List.getElem?_eq_some_iff.mp q).1).1) (A.2.2 i e q)⟩
theorem Al.trans {h h1 h2 : Hp} {a : Nat} {r1 r2 : Nat → Nat} {c1 c2 : List va_E} (A : Al h h1 a r1 c1) (B : Al h1 h2 a r2 c2) : Al h h2 a (cat c1.length r1 r2) (c1 ++ c2) := by
  have hs : ∀ i, i < c1.length → ∃ e, h1 (r1 i) = some e := fun i hi => ⟨_, A.2.2 i _ (List.getElem?_eq_getElem hi)⟩
  have hf : ∀ j, j < c2.length → h (r2 j) = none := fun j hj => by
    cases z : h (r2 j) with
    | none => rfl
    | some x => have := A.2.1 _ x (B.1.1 j hj).1 z; rw [(B.1.1 j hj).2] at this; cases this
  refine ⟨⟨fun i hi => ?_, fun i j hi hj e => ?_⟩, A.2.1.trans B.2.1, fun i e q => ?_⟩
  · rw [List.length_append] at hi
    unfold cat
    split
    · rename_i c; exact A.1.1 i c
    · exact ⟨(B.1.1 _ (by omega)).1, hf _ (by omega)⟩
  · rw [List.length_append] at hi hj
    unfold cat at e
    split at e
    · rename_i c1'
      split at e
      · rename_i c2'; exact A.1.2 i j c1' c2' e
      · obtain ⟨x, hx⟩ := hs i c1'
        rw [e, (B.1.1 _ (by omega)).2] at hx; cases hx
    · rename_i c1'
      split at e
      · rename_i c2'
        obtain ⟨x, hx⟩ := hs j c2'
        rw [← e, (B.1.1 _ (by omega)).2] at hx; cases hx
      · have := B.1.2 _ _ (by omega) (by omega) e; omega
  · unfold cat
    rw [List.getElem?_append] at q
    split
    · rename_i c
      rw [if_pos c] at q
      exact B.2.1 _ _ (A.1.1 i c).1 (A.2.2 i e q)
    · rename_i c
      rw [if_neg c] at q
      exact B.2.2 _ e q
theorem Al.one {h h' : Hp} {a q : Nat} {e : va_E} (hq : h q = none) (hn : q ≠ a) (hc : h' q = some e) (k : Kp h h' a) : Al h h' a (fun _ => q) [e] :=
  ⟨⟨fun i _ => ⟨hn, hq⟩, fun i j hi hj _ => by simp at hi hj; omega⟩, k, fun i x hx => by
    cases i with
    | zero => simp at hx; rw [← hx]; exact hc
    | succ n => simp at hx⟩
/-- an object q was made, then its own cells, then a's cell was changed -/
theorem Al.obj {h h1 h2 h3 : Hp} {a q : Nat} {e0 e : va_E} {r : Nat → Nat} {cs : List va_E} (hq : h q = none) (hn : q ≠ a) (h1e : h1 = hset h q e0) (B : Al h1 h2 q r cs) (hc : h2 q = some e) (ha : ∃ x, h a = some x) (k : Kp h2 h3 a) : Al h h3 a (cat 1 (fun _ => q) r) (e :: cs) := by
  obtain ⟨x, ha⟩ := ha
  have ha1 : h1 a = some x := by rw [h1e, hset_n _ _ (Ne.symm hn)]; exact ha
  have hra : ∀ i, i < cs.length → r i ≠ a := fun i hi z => by have := (B.1.1 i hi).2; rw [z, ha1] at this; cases this
  refine ⟨⟨fun i hi => ?_, fun i j hi hj e' => ?_⟩, fun b y nb hb => ?_, fun i y hy => ?_⟩
  · unfold cat
    split
    · exact ⟨hn, hq⟩
    · have hi' : i - 1 < cs.length := by simp at hi; omega
      refine ⟨hra _ hi', ?_⟩
      have := (B.1.1 _ hi').2
      rw [h1e, hset_n _ _ (B.1.1 _ hi').1] at this
      exact this
  · simp only [List.length_cons] at hi hj
    unfold cat at e'
    split at e'
    · split at e'
      · omega
      · exact absurd e'.symm (B.1.1 _ (by omega)).1
    · split at e'
      · exact absurd e' (B.1.1 _ (by omega)).1
      · have := B.1.2 _ _ (by omega) (by omega) e'; omega
  · have hbq : b ≠ q := fun z => by rw [z, hq] at hb; cases hb
    exact k b y nb (B.2.1 b y hbq (by rw [h1e, hset_n _ _ hbq]; exact hb))
  · cases i with
    | zero => simp at hy; rw [← hy]; exact k _ _ hn hc
    | succ n =>
      have hy : cs[n]? = some y := by simpa using hy
      have hl := (List.getElem?_eq_some_iff.mp hy).1
      show h3 (cat 1 (fun _ => q) r (n + 1)) = some y
      have : cat 1 (fun _ => q) r (n + 1) = r n := by unfold cat; rw [if_neg (by omega)]; rfl
      rw [this]
      exact k _ _ (hra n hl) (B.2.2 n y hy)
theorem hset_hset (h : Hp) (a : Nat) (e e2 : va_E) : hset (hset h a e) a e2 = hset h a e2 := by
  funext b; simp only [hset]; split <;> rfl
theorem kp_hset {h : Hp} {a q : Nat} {e : va_E} (hq : h q = none) : Kp h (hset h q e) a := fun b x _ hb => by
  rw [hset_n _ _ (fun z => by rw [z, hq] at hb; cases hb)]; exact hb
section MADE
variable {ar : Nat → ClassId} {ro : Nat → Option (Nat × (Nat → Int32))} {sa : Nat → Nat} {M : Mth} {d pc len nx p1 : Nat} {lv : Lv} {st : List Value} {h : Hp} {kc ks : Nat} {Φ : Ou → Hp → Prop}
theorem kp_put {a q : Nat} {e e2 : va_E} (hq : h q = none) : Kp h (hset (hset h q e) a e2) a := by
  intro b x n hb
  rw [hset_n _ _ n, hset_n _ _ (fun z => by rw [z, hq] at hb; cases hb)]
  exact hb
theorem r_putk {i a ci f : Nat} {fs fs2 : List Value} {v : Value} {fin : Bool} {ty : FieldType} (hd : dc M pc (.putfield i) 3 nx) (hf : FLp (mo M) i ci f fin ty) (ha : h a = some (.inr (ci, fs))) (hl : f < fs.length) (hn : narrow ty v = v) (hft : fits ty v = true) (hfi : fin = true → (my M).name = "<init>") (hs : fs.set f v = fs2) (k : ∀ h' : Hp, h' a = some (.inr (ci, fs2)) → Kp h h' a → WP ar ro sa M d nx lv st h' kc ks Φ) : WP ar ro sa M d pc lv (v :: .ref a :: st) h kc ks Φ :=
  r_putf hd hf ha hl hn hft hfi hs (k _ (hset_s _ _ _) (fun b x n hb => by rw [hset_n _ _ n]; exact hb))
theorem r_mki {i a ci f N : Nat} {n : Int32} {fs : List Value} {fs2 : Nat → List Value} {fin : Bool} {ty : FieldType} (hd : dc M pc (.newarray .int) 2 p1) (hd2 : dc M p1 (.putfield i) 3 nx) (hf : FLp (mo M) i ci f fin ty) (ha : h a = some (.inr (ci, fs))) (hl : f < fs.length) (hft : ∀ q, fits ty (.ref q) = true ∧ narrow ty (.ref q) = .ref q) (hfi : fin = true → (my M).name = "<init>") (hs : ∀ q, fs.set f (.ref q) = fs2 q) (hn : ¬ n < 0) (hN : n.toNatClampNeg = N) (hb : N ≤ 10000) (h1 : 1 ≤ kc) (h2 : N ≤ ks) (k : ∀ (q : Nat) (h' : Hp), h' a = some (.inr (ci, fs2 q)) → Al h h' a (fun _ => q) [.inl (ar 0, N, .inl (fun _ => 0))] → WP ar ro sa M d nx lv st h' (kc - 1) (ks - N) Φ) : WP ar ro sa M d pc lv (.int n :: .ref a :: st) h kc ks Φ := by
  refine r_newi hd hn hN hb h1 h2 (fun q hq => ?_)
  have hne : a ≠ q := fun z => by rw [z, hq] at ha; cases ha
  refine r_putf hd2 hf (by rw [hset_n _ _ hne]; exact ha) hl (hft q).2 (hft q).1 hfi (hs q) (k q _ (hset_s _ _ _) (Al.one hq (Ne.symm hne) ?_ (kp_put hq)))
  rw [hset_n _ _ (Ne.symm hne)]
  exact hset_s _ _ _
theorem r_mkl {i a ci f N : Nat} {n : Int32} {fs : List Value} {fs2 : Nat → List Value} {fin : Bool} {ty : FieldType} (hd : dc M pc (.newarray .long) 2 p1) (hd2 : dc M p1 (.putfield i) 3 nx) (hf : FLp (mo M) i ci f fin ty) (ha : h a = some (.inr (ci, fs))) (hl : f < fs.length) (hft : ∀ q, fits ty (.ref q) = true ∧ narrow ty (.ref q) = .ref q) (hfi : fin = true → (my M).name = "<init>") (hs : ∀ q, fs.set f (.ref q) = fs2 q) (hn : ¬ n < 0) (hN : n.toNatClampNeg = N) (hb : N ≤ 10000) (h1 : 1 ≤ kc) (h2 : N ≤ ks) (k : ∀ (q : Nat) (h' : Hp), h' a = some (.inr (ci, fs2 q)) → Al h h' a (fun _ => q) [.inl (ar 1, N, .inr (.inl (fun _ => 0)))] → WP ar ro sa M d nx lv st h' (kc - 1) (ks - N) Φ) : WP ar ro sa M d pc lv (.int n :: .ref a :: st) h kc ks Φ := by
  refine r_newl hd hn hN hb h1 h2 (fun q hq => ?_)
  have hne : a ≠ q := fun z => by rw [z, hq] at ha; cases ha
  refine r_putf hd2 hf (by rw [hset_n _ _ hne]; exact ha) hl (hft q).2 (hft q).1 hfi (hs q) (k q _ (hset_s _ _ _) (Al.one hq (Ne.symm hne) ?_ (kp_put hq)))
  rw [hset_n _ _ (Ne.symm hne)]
  exact hset_s _ _ _
theorem r_mkz {i a ci f N : Nat} {n : Int32} {fs : List Value} {fs2 : Nat → List Value} {fin : Bool} {ty : FieldType} (hd : dc M pc (.newarray .boolean) 2 p1) (hd2 : dc M p1 (.putfield i) 3 nx) (hf : FLp (mo M) i ci f fin ty) (ha : h a = some (.inr (ci, fs))) (hl : f < fs.length) (hft : ∀ q, fits ty (.ref q) = true ∧ narrow ty (.ref q) = .ref q) (hfi : fin = true → (my M).name = "<init>") (hs : ∀ q, fs.set f (.ref q) = fs2 q) (hn : ¬ n < 0) (hN : n.toNatClampNeg = N) (hb : N ≤ 10000) (h1 : 1 ≤ kc) (h2 : N ≤ ks) (k : ∀ (q : Nat) (h' : Hp), h' a = some (.inr (ci, fs2 q)) → Al h h' a (fun _ => q) [.inl (ar 2, N, .inl (fun _ => 0))] → WP ar ro sa M d nx lv st h' (kc - 1) (ks - N) Φ) : WP ar ro sa M d pc lv (.int n :: .ref a :: st) h kc ks Φ := by
  refine r_newz hd hn hN hb h1 h2 (fun q hq => ?_)
  have hne : a ≠ q := fun z => by rw [z, hq] at ha; cases ha
  refine r_putf hd2 hf (by rw [hset_n _ _ hne]; exact ha) hl (hft q).2 (hft q).1 hfi (hs q) (k q _ (hset_s _ _ _) (Al.one hq (Ne.symm hne) ?_ (kp_put hq)))
  rw [hset_n _ _ (Ne.symm hne)]
  exact hset_s _ _ _
theorem r_mkb {i a ci f N : Nat} {n : Int32} {fs : List Value} {fs2 : Nat → List Value} {fin : Bool} {ty : FieldType} (hd : dc M pc (.newarray .byte) 2 p1) (hd2 : dc M p1 (.putfield i) 3 nx) (hf : FLp (mo M) i ci f fin ty) (ha : h a = some (.inr (ci, fs))) (hl : f < fs.length) (hft : ∀ q, fits ty (.ref q) = true ∧ narrow ty (.ref q) = .ref q) (hfi : fin = true → (my M).name = "<init>") (hs : ∀ q, fs.set f (.ref q) = fs2 q) (hn : ¬ n < 0) (hN : n.toNatClampNeg = N) (hb : N ≤ 10000) (h1 : 1 ≤ kc) (h2 : N ≤ ks) (k : ∀ (q : Nat) (h' : Hp), h' a = some (.inr (ci, fs2 q)) → Al h h' a (fun _ => q) [.inl (ar 3, N, .inl (fun _ => 0))] → WP ar ro sa M d nx lv st h' (kc - 1) (ks - N) Φ) : WP ar ro sa M d pc lv (.int n :: .ref a :: st) h kc ks Φ := by
  refine r_newb hd hn hN hb h1 h2 (fun q hq => ?_)
  have hne : a ≠ q := fun z => by rw [z, hq] at ha; cases ha
  refine r_putf hd2 hf (by rw [hset_n _ _ hne]; exact ha) hl (hft q).2 (hft q).1 hfi (hs q) (k q _ (hset_s _ _ _) (Al.one hq (Ne.symm hne) ?_ (kp_put hq)))
  rw [hset_n _ _ (Ne.symm hne)]
  exact hset_s _ _ _
theorem r_mkq {i i2 a ci f N t : Nat} {C : String} {n : Int32} {fs : List Value} {fs2 : Nat → List Value} {fin : Bool} {ty : FieldType} (hd : dc M pc (.anewarray i2) 3 p1) (hd2 : dc M p1 (.putfield i) 3 nx) (ht : 4 ≤ t ∧ t ≤ 8) (hC : tyN t = .object C) (hlk : Cond.classLink (cn (mo M)) i2 C ∈ tblG ∧ Cond.arrayOver (.object C) ∈ exL) (hf : FLp (mo M) i ci f fin ty) (ha : h a = some (.inr (ci, fs))) (hl : f < fs.length) (hft : ∀ q, fits ty (.ref q) = true ∧ narrow ty (.ref q) = .ref q) (hfi : fin = true → (my M).name = "<init>") (hs : ∀ q, fs.set f (.ref q) = fs2 q) (hn : ¬ n < 0) (hN : n.toNatClampNeg = N) (hb : N ≤ 10000) (h1 : 1 ≤ kc) (h2 : N ≤ ks) (k : ∀ (q : Nat) (h' : Hp), h' a = some (.inr (ci, fs2 q)) → Al h h' a (fun _ => q) [.inl (ar t, N, .inr (.inr (.inr (.inr (fun _ => none)))))] → WP ar ro sa M d nx lv st h' (kc - 1) (ks - N) Φ) : WP ar ro sa M d pc lv (.int n :: .ref a :: st) h kc ks Φ := by
  refine r_newq hd ht hC hlk.1 hlk.2 hn hN hb h1 h2 (fun q hq => ?_)
  have hne : a ≠ q := fun z => by rw [z, hq] at ha; cases ha
  refine r_putf hd2 hf (by rw [hset_n _ _ hne]; exact ha) hl (hft q).2 (hft q).1 hfi (hs q) (k q _ (hset_s _ _ _) (Al.one hq (Ne.symm hne) ?_ (kp_put hq)))
  rw [hset_n _ _ (Ne.symm hne)]
  exact hset_s _ _ _
theorem r_newN {i ci N : Nat} {fs : List Value} (hd : dc M pc (.new i) 3 nx) (hc : CLn (mo M) i ci fs) (hN : fs.length = N) (h1 : 1 ≤ kc) (h2 : N ≤ ks) (k : ∀ q : Nat, h q = none → WP ar ro sa M d nx lv (.ref q :: st) (hset h q (.inr (ci, fs))) (kc - 1) (ks - N) Φ) : WP ar ro sa M d pc lv st h kc ks Φ := by
  subst hN
  exact r_new hd hc h1 h2 k
end MADE
theorem ob1 : Cond.instanceMethod objectInit ∈ tblG := tblG_in (i := 40) (by decide +kernel) (by decide +kernel)
theorem ob2 : Cond.code objectInit ⟨#[0xb1]⟩ 1 none ∈ tblG := tblG_in (i := 41) (by decide +kernel) (by decide +kernel)
theorem ob_0 : Cond.methodLink (cn 0) 3 objectInit ∈ tblG := tblG_in (i := 173) (by decide +kernel) (by decide +kernel)
theorem ob_1 : Cond.methodLink (cn 1) 3 objectInit ∈ tblG := tblG_in (i := 409) (by decide +kernel) (by decide +kernel)
theorem ob_2 : Cond.methodLink (cn 2) 3 objectInit ∈ tblG := tblG_in (i := 135) (by decide +kernel) (by decide +kernel)
theorem ob_3 : Cond.methodLink (cn 3) 3 objectInit ∈ tblG := tblG_in (i := 47) (by decide +kernel) (by decide +kernel)
theorem ob_4 : Cond.methodLink (cn 4) 3 objectInit ∈ tblG := tblG_in (i := 376) (by decide +kernel) (by decide +kernel)
theorem ob_5 : Cond.methodLink (cn 5) 3 objectInit ∈ tblG := tblG_in (i := 453) (by decide +kernel) (by decide +kernel)
theorem ob_6 : Cond.methodLink (cn 6) 3 objectInit ∈ tblG := tblG_in (i := 287) (by decide +kernel) (by decide +kernel)
theorem ob_7 : Cond.methodLink (cn 7) 3 objectInit ∈ tblG := tblG_in (i := 298) (by decide +kernel) (by decide +kernel)
theorem ob_8 : Cond.methodLink (cn 8) 3 objectInit ∈ tblG := tblG_in (i := 512) (by decide +kernel) (by decide +kernel)
theorem ob_9 : Cond.methodLink (cn 9) 3 objectInit ∈ tblG := tblG_in (i := 281) (by decide +kernel) (by decide +kernel)
theorem ob_10 : Cond.methodLink (cn 10) 3 objectInit ∈ tblG := tblG_in (i := 227) (by decide +kernel) (by decide +kernel)
theorem ob_11 : Cond.methodLink (cn 11) 3 objectInit ∈ tblG := tblG_in (i := 39) (by decide +kernel) (by decide +kernel)
theorem ob_12 : Cond.methodLink (cn 12) 3 objectInit ∈ tblG := tblG_in (i := 1758) (by decide +kernel) (by decide +kernel)
section INITS
variable {ar : Nat → ClassId} {ro : Nat → Option (Nat × (Nat → Int32))} {sa : Nat → Nat} {d : Nat} {h : Hp} {mc ms : Nat}
theorem c_X6_init {a : Nat} (ha : h a = some (.inr (6, [.null]))) (hm : 1 ≤ mc) (hs : 4 ≤ ms) : CT ar ro sa mX6_init d [.ref a] h mc ms (Ex (fun v h' => v = none ∧ ∃ r : Nat → Nat, Al h h' a r [.inl (ar 1, 4, .inr (.inl (fun _ => 0)))] ∧ h' a = some (.inr (6, fsX6 (fun i => [].getD i 0) (fun i => [(r 0)].getD i 0) (fun i => [].getD i 0) (fun _ => 0)))) No) := by
  show WP ar ro sa mX6_init _ 0 [some (.ref a)] [] h mc ms _
  have A0 : Al h h a (fun _ => 0) [] := Al.nil
  refine r_aload_n eX6_init_0 rfl ?_
  refine r_objinit eX6_init_1 ob_6 ob1 ob2 (by decide) ?_
  refine r_aload_n eX6_init_4 rfl ?_
  refine r_iconst (v := 4) eX6_init_5 (by decide) ?_
  refine r_mkl (N := 4) (fs2 := fun q => [.ref q]) eX6_init_6 eX6_init_8 p_6_11 ha (Nat.le_of_ble_eq_true rfl) (fun _ => ⟨rfl, rfl⟩) (fun _ => rfl) (fun _ => rfl) (by decide) (by decide) (by decide) (by omega) (by omega) (fun q0 h1 ha1 B1 => ?_)
  have A1 : Al h h1 a (cat 0 (fun _ => 0) (fun _ => q0)) [.inl (ar 1, 4, .inr (.inl (fun _ => 0)))] := A0.trans B1
  exact r_vret eX6_init_11 rfl ⟨rfl, _, A1, ha1⟩
theorem c_X8_init {a : Nat} (ha : h a = some (.inr (8, [.int 0, .int 0, .int 0, .null]))) (hm : 1 ≤ mc) (hs : 12 ≤ ms) : CT ar ro sa mX8_init d [.ref a] h mc ms (Ex (fun v h' => v = none ∧ ∃ r : Nat → Nat, Al h h' a r [.inl (ar 1, 12, .inr (.inl (fun _ => 0)))] ∧ h' a = some (.inr (8, fsX8 (fun i => [].getD i 0) (fun i => [(r 0)].getD i 0) (fun i => [((1) : Int32), (0 : Int32), (0 : Int32)].getD i 0) (fun _ => 0)))) No) := by
  show WP ar ro sa mX8_init _ 0 [some (.ref a)] [] h mc ms _
  have A0 : Al h h a (fun _ => 0) [] := Al.nil
  refine r_aload_n eX8_init_0 rfl ?_
  refine r_objinit eX8_init_1 ob_8 ob1 ob2 (by decide) ?_
  refine r_aload_n eX8_init_4 rfl ?_
  refine r_iconst (v := 1) eX8_init_5 (by decide) ?_
  refine r_putk (fs2 := [.int (1), .int 0, .int 0, .null]) eX8_init_6 p_8_9 ha (Nat.le_of_ble_eq_true rfl) (by first | rfl | decide) rfl (fun q => by first | rfl | cases q) rfl (fun h1 ha1 hk1 => ?_)
  have A1 : Al h h1 a (fun _ => 0) [] := A0.put hk1
  refine r_aload_n eX8_init_9 rfl ?_
  refine r_bipush (v := 12) eX8_init_10 (by decide) ?_
  refine r_mkl (N := 12) (fs2 := fun q => [.int (1), .int 0, .int 0, .ref q]) eX8_init_12 eX8_init_14 p_8_15 ha1 (Nat.le_of_ble_eq_true rfl) (fun _ => ⟨rfl, rfl⟩) (fun _ => rfl) (fun _ => rfl) (by decide) (by decide) (by decide) (by omega) (by omega) (fun q0 h2 ha2 B2 => ?_)
  have A2 : Al h h2 a (cat 0 (fun _ => 0) (fun _ => q0)) [.inl (ar 1, 12, .inr (.inl (fun _ => 0)))] := A1.trans B2
  exact r_vret eX8_init_17 rfl ⟨rfl, _, A2, ha2⟩
theorem c_X5_init {a : Nat} (ha : h a = some (.inr (5, [.null, .int 0, .int 0, .int 0, .null, .int 0, .int 0, .int 0, .int 0, .int 0, .int 0, .int 0, .int 0, .int 0]))) (hm : 2 ≤ mc) (hs : 240 ≤ ms) : CT ar ro sa mX5_init d [.ref a] h mc ms (Ex (fun v h' => v = none ∧ ∃ r : Nat → Nat, Al h h' a r [.inl (ar 3, 200, .inl (fun _ => 0)), .inl (ar 0, 40, .inl (fun _ => 0))] ∧ h' a = some (.inr (5, fsX5 (fun i => [].getD i 0) (fun i => [(r 0), (r 1)].getD i 0) (fun i => [(0 : Int32), (0 : Int32), ((-1) : Int32), (0 : Int32), (0 : Int32), (0 : Int32), (0 : Int32), (0 : Int32), (0 : Int32), (0 : Int32), (0 : Int32), (0 : Int32)].getD i 0) (fun _ => 0)))) No) := by
  show WP ar ro sa mX5_init _ 0 [some (.ref a)] [] h mc ms _
  have A0 : Al h h a (fun _ => 0) [] := Al.nil
  refine r_aload_n eX5_init_0 rfl ?_
  refine r_objinit eX5_init_1 ob_5 ob1 ob2 (by decide) ?_
  refine r_aload_n eX5_init_4 rfl ?_
  refine r_sipush (v := 200) eX5_init_5 (by decide) ?_
  refine r_mkb (N := 200) (fs2 := fun q => [.ref q, .int 0, .int 0, .int 0, .null, .int 0, .int 0, .int 0, .int 0, .int 0, .int 0, .int 0, .int 0, .int 0]) eX5_init_8 eX5_init_10 p_5_9 ha (Nat.le_of_ble_eq_true rfl) (fun _ => ⟨rfl, rfl⟩) (fun _ => rfl) (fun _ => rfl) (by decide) (by decide) (by decide) (by omega) (by omega) (fun q0 h1 ha1 B1 => ?_)
  have A1 : Al h h1 a (cat 0 (fun _ => 0) (fun _ => q0)) [.inl (ar 3, 200, .inl (fun _ => 0))] := A0.trans B1
  refine r_aload_n eX5_init_13 rfl ?_
  refine r_iconst (v := (-1)) eX5_init_14 (by decide) ?_
  refine r_putk (fs2 := [.ref q0, .int 0, .int 0, .int (-1), .null, .int 0, .int 0, .int 0, .int 0, .int 0, .int 0, .int 0, .int 0, .int 0]) eX5_init_15 p_5_15 ha1 (Nat.le_of_ble_eq_true rfl) (by first | rfl | decide) rfl (fun q => by first | rfl | cases q) rfl (fun h2 ha2 hk2 => ?_)
  have A2 : Al h h2 a (cat 0 (fun _ => 0) (fun _ => q0)) [.inl (ar 3, 200, .inl (fun _ => 0))] := A1.put hk2
  refine r_aload_n eX5_init_18 rfl ?_
  refine r_bipush (v := 40) eX5_init_19 (by decide) ?_
  refine r_mki (N := 40) (fs2 := fun q => [.ref q0, .int 0, .int 0, .int (-1), .ref q, .int 0, .int 0, .int 0, .int 0, .int 0, .int 0, .int 0, .int 0, .int 0]) eX5_init_21 eX5_init_23 p_5_19 ha2 (Nat.le_of_ble_eq_true rfl) (fun _ => ⟨rfl, rfl⟩) (fun _ => rfl) (fun _ => rfl) (by decide) (by decide) (by decide) (by omega) (by omega) (fun q1 h3 ha3 B3 => ?_)
  have A3 : Al h h3 a (cat 1 (cat 0 (fun _ => 0) (fun _ => q0)) (fun _ => q1)) [.inl (ar 3, 200, .inl (fun _ => 0)), .inl (ar 0, 40, .inl (fun _ => 0))] := A2.trans B3
  exact r_vret eX5_init_26 rfl ⟨rfl, _, A3, ha3⟩
theorem c_X7_init {a b0 : Nat} (ha : h a = some (.inr (7, [.null, .int 0, .null, .null, .int 0, .null, .null, .null, .int 0, .int 0, .long 0]))) (hm : 5 ≤ mc) (hs : 481 ≤ ms) : CT ar ro sa mX7_init d [.ref a, .ref b0] h mc ms (Ex (fun v h' => v = none ∧ ∃ r : Nat → Nat, Al h h' a r [.inl (ar 0, 120, .inl (fun _ => 0)), .inl (ar 1, 120, .inr (.inl (fun _ => 0))), .inl (ar 0, 120, .inl (fun _ => 0)), .inl (ar 1, 120, .inr (.inl (fun _ => 0))), .inl (ar 0, 1, .inl (fun _ => 0))] ∧ h' a = some (.inr (7, fsX7 (fun i => [(b0)].getD i 0) (fun i => [(r 0), (r 1), (r 2), (r 3), (r 4)].getD i 0) (fun i => [(0 : Int32), (0 : Int32), (0 : Int32), (0 : Int32)].getD i 0) (fun _ => 0)))) No) := by
  show WP ar ro sa mX7_init _ 0 [some (.ref a), some (.ref b0)] [] h mc ms _
  have A0 : Al h h a (fun _ => 0) [] := Al.nil
  refine r_aload_n eX7_init_0 rfl ?_
  refine r_objinit eX7_init_1 ob_7 ob1 ob2 (by decide) ?_
  refine r_aload_n eX7_init_4 rfl ?_
  refine r_bipush (v := 120) eX7_init_5 (by decide) ?_
  refine r_mki (N := 120) (fs2 := fun q => [.null, .int 0, .ref q, .null, .int 0, .null, .null, .null, .int 0, .int 0, .long 0]) eX7_init_7 eX7_init_9 p_7_9 ha (Nat.le_of_ble_eq_true rfl) (fun _ => ⟨rfl, rfl⟩) (fun _ => rfl) (fun _ => rfl) (by decide) (by decide) (by decide) (by omega) (by omega) (fun q0 h1 ha1 B1 => ?_)
  have A1 : Al h h1 a (cat 0 (fun _ => 0) (fun _ => q0)) [.inl (ar 0, 120, .inl (fun _ => 0))] := A0.trans B1
  refine r_aload_n eX7_init_12 rfl ?_
  refine r_bipush (v := 120) eX7_init_13 (by decide) ?_
  refine r_mkl (N := 120) (fs2 := fun q => [.null, .int 0, .ref q0, .ref q, .int 0, .null, .null, .null, .int 0, .int 0, .long 0]) eX7_init_15 eX7_init_17 p_7_15 ha1 (Nat.le_of_ble_eq_true rfl) (fun _ => ⟨rfl, rfl⟩) (fun _ => rfl) (fun _ => rfl) (by decide) (by decide) (by decide) (by omega) (by omega) (fun q1 h2 ha2 B2 => ?_)
  have A2 : Al h h2 a (cat 1 (cat 0 (fun _ => 0) (fun _ => q0)) (fun _ => q1)) [.inl (ar 0, 120, .inl (fun _ => 0)), .inl (ar 1, 120, .inr (.inl (fun _ => 0)))] := A1.trans B2
  refine r_aload_n eX7_init_20 rfl ?_
  refine r_bipush (v := 120) eX7_init_21 (by decide) ?_
  refine r_mki (N := 120) (fs2 := fun q => [.null, .int 0, .ref q0, .ref q1, .int 0, .ref q, .null, .null, .int 0, .int 0, .long 0]) eX7_init_23 eX7_init_25 p_7_19 ha2 (Nat.le_of_ble_eq_true rfl) (fun _ => ⟨rfl, rfl⟩) (fun _ => rfl) (fun _ => rfl) (by decide) (by decide) (by decide) (by omega) (by omega) (fun q2 h3 ha3 B3 => ?_)
  have A3 : Al h h3 a (cat 2 (cat 1 (cat 0 (fun _ => 0) (fun _ => q0)) (fun _ => q1)) (fun _ => q2)) [.inl (ar 0, 120, .inl (fun _ => 0)), .inl (ar 1, 120, .inr (.inl (fun _ => 0))), .inl (ar 0, 120, .inl (fun _ => 0))] := A2.trans B3
  refine r_aload_n eX7_init_28 rfl ?_
  refine r_bipush (v := 120) eX7_init_29 (by decide) ?_
  refine r_mkl (N := 120) (fs2 := fun q => [.null, .int 0, .ref q0, .ref q1, .int 0, .ref q2, .ref q, .null, .int 0, .int 0, .long 0]) eX7_init_31 eX7_init_33 p_7_22 ha3 (Nat.le_of_ble_eq_true rfl) (fun _ => ⟨rfl, rfl⟩) (fun _ => rfl) (fun _ => rfl) (by decide) (by decide) (by decide) (by omega) (by omega) (fun q3 h4 ha4 B4 => ?_)
  have A4 : Al h h4 a (cat 3 (cat 2 (cat 1 (cat 0 (fun _ => 0) (fun _ => q0)) (fun _ => q1)) (fun _ => q2)) (fun _ => q3)) [.inl (ar 0, 120, .inl (fun _ => 0)), .inl (ar 1, 120, .inr (.inl (fun _ => 0))), .inl (ar 0, 120, .inl (fun _ => 0)), .inl (ar 1, 120, .inr (.inl (fun _ => 0)))] := A3.trans B4
  refine r_aload_n eX7_init_36 rfl ?_
  refine r_iconst (v := 1) eX7_init_37 (by decide) ?_
  refine r_mki (N := 1) (fs2 := fun q => [.null, .int 0, .ref q0, .ref q1, .int 0, .ref q2, .ref q3, .ref q, .int 0, .int 0, .long 0]) eX7_init_38 eX7_init_40 p_7_25 ha4 (Nat.le_of_ble_eq_true rfl) (fun _ => ⟨rfl, rfl⟩) (fun _ => rfl) (fun _ => rfl) (by decide) (by decide) (by decide) (by omega) (by omega) (fun q4 h5 ha5 B5 => ?_)
  have A5 : Al h h5 a (cat 4 (cat 3 (cat 2 (cat 1 (cat 0 (fun _ => 0) (fun _ => q0)) (fun _ => q1)) (fun _ => q2)) (fun _ => q3)) (fun _ => q4)) [.inl (ar 0, 120, .inl (fun _ => 0)), .inl (ar 1, 120, .inr (.inl (fun _ => 0))), .inl (ar 0, 120, .inl (fun _ => 0)), .inl (ar 1, 120, .inr (.inl (fun _ => 0))), .inl (ar 0, 1, .inl (fun _ => 0))] := A4.trans B5
  refine r_aload_n eX7_init_43 rfl ?_
  refine r_aload_n eX7_init_44 rfl ?_
  refine r_putk (fs2 := [.ref b0, .int 0, .ref q0, .ref q1, .int 0, .ref q2, .ref q3, .ref q4, .int 0, .int 0, .long 0]) eX7_init_45 p_7_28 ha5 (Nat.le_of_ble_eq_true rfl) (by first | rfl | decide) rfl (fun q => by first | rfl | cases q) rfl (fun h6 ha6 hk6 => ?_)
  have A6 : Al h h6 a (cat 4 (cat 3 (cat 2 (cat 1 (cat 0 (fun _ => 0) (fun _ => q0)) (fun _ => q1)) (fun _ => q2)) (fun _ => q3)) (fun _ => q4)) [.inl (ar 0, 120, .inl (fun _ => 0)), .inl (ar 1, 120, .inr (.inl (fun _ => 0))), .inl (ar 0, 120, .inl (fun _ => 0)), .inl (ar 1, 120, .inr (.inl (fun _ => 0))), .inl (ar 0, 1, .inl (fun _ => 0))] := A5.put hk6
  exact r_vret eX7_init_48 rfl ⟨rfl, _, A6, ha6⟩
theorem c_X10_init {a b0 : Nat} (ha : h a = some (.inr (10, [.null, .int 0, .int 0, .int 0, .long 0, .null, .null, .null, .null, .null, .null, .null]))) (hm : 7 ≤ mc) (hs : 2306 ≤ ms) : CT ar ro sa mX10_init d [.ref a, .ref b0] h mc ms (Ex (fun v h' => v = none ∧ ∃ r : Nat → Nat, Al h h' a r [.inl (ar 1, 2, .inr (.inl (fun _ => 0))), .inl (ar 1, 80, .inr (.inl (fun _ => 0))), .inl (ar 1, 40, .inr (.inl (fun _ => 0))), .inl (ar 1, 12, .inr (.inl (fun _ => 0))), .inl (ar 1, 12, .inr (.inl (fun _ => 0))), .inl (ar 2, 240, .inl (fun _ => 0)), .inl (ar 1, 1920, .inr (.inl (fun _ => 0)))] ∧ h' a = some (.inr (10, fsX10 (fun i => [(b0)].getD i 0) (fun i => [(r 0), (r 1), (r 2), (r 3), (r 4), (r 5), (r 6)].getD i 0) (fun i => [((0) : Int32), ((-1) : Int32), ((1) : Int32)].getD i 0) (fun _ => 0)))) No) := by
  show WP ar ro sa mX10_init _ 0 [some (.ref a), some (.ref b0)] [] h mc ms _
  have A0 : Al h h a (fun _ => 0) [] := Al.nil
  refine r_aload_n eX10_init_0 rfl ?_
  refine r_objinit eX10_init_1 ob_10 ob1 ob2 (by decide) ?_
  refine r_aload_n eX10_init_4 rfl ?_
  refine r_iconst (v := 0) eX10_init_5 (by decide) ?_
  refine r_putk (fs2 := [.null, .int (0), .int 0, .int 0, .long 0, .null, .null, .null, .null, .null, .null, .null]) eX10_init_6 p_10_9 ha (Nat.le_of_ble_eq_true rfl) (by first | rfl | decide) rfl (fun q => by first | rfl | cases q) rfl (fun h1 ha1 hk1 => ?_)
  have A1 : Al h h1 a (fun _ => 0) [] := A0.put hk1
  refine r_aload_n eX10_init_9 rfl ?_
  refine r_iconst (v := (-1)) eX10_init_10 (by decide) ?_
  refine r_putk (fs2 := [.null, .int (0), .int (-1), .int 0, .long 0, .null, .null, .null, .null, .null, .null, .null]) eX10_init_11 p_10_15 ha1 (Nat.le_of_ble_eq_true rfl) (by first | rfl | decide) rfl (fun q => by first | rfl | cases q) rfl (fun h2 ha2 hk2 => ?_)
  have A2 : Al h h2 a (fun _ => 0) [] := A1.put hk2
  refine r_aload_n eX10_init_14 rfl ?_
  refine r_iconst (v := 1) eX10_init_15 (by decide) ?_
  refine r_putk (fs2 := [.null, .int (0), .int (-1), .int (1), .long 0, .null, .null, .null, .null, .null, .null, .null]) eX10_init_16 p_10_18 ha2 (Nat.le_of_ble_eq_true rfl) (by first | rfl | decide) rfl (fun q => by first | rfl | cases q) rfl (fun h3 ha3 hk3 => ?_)
  have A3 : Al h h3 a (fun _ => 0) [] := A2.put hk3
  refine r_aload_n eX10_init_19 rfl ?_
  refine r_iconst (v := 2) eX10_init_20 (by decide) ?_
  refine r_mkl (N := 2) (fs2 := fun q => [.null, .int (0), .int (-1), .int (1), .long 0, .ref q, .null, .null, .null, .null, .null, .null]) eX10_init_21 eX10_init_23 p_10_22 ha3 (Nat.le_of_ble_eq_true rfl) (fun _ => ⟨rfl, rfl⟩) (fun _ => rfl) (fun _ => rfl) (by decide) (by decide) (by decide) (by omega) (by omega) (fun q0 h4 ha4 B4 => ?_)
  have A4 : Al h h4 a (cat 0 (fun _ => 0) (fun _ => q0)) [.inl (ar 1, 2, .inr (.inl (fun _ => 0)))] := A3.trans B4
  refine r_aload_n eX10_init_26 rfl ?_
  refine r_bipush (v := 80) eX10_init_27 (by decide) ?_
  refine r_mkl (N := 80) (fs2 := fun q => [.null, .int (0), .int (-1), .int (1), .long 0, .ref q0, .ref q, .null, .null, .null, .null, .null]) eX10_init_29 eX10_init_31 p_10_26 ha4 (Nat.le_of_ble_eq_true rfl) (fun _ => ⟨rfl, rfl⟩) (fun _ => rfl) (fun _ => rfl) (by decide) (by decide) (by decide) (by omega) (by omega) (fun q1 h5 ha5 B5 => ?_)
  have A5 : Al h h5 a (cat 1 (cat 0 (fun _ => 0) (fun _ => q0)) (fun _ => q1)) [.inl (ar 1, 2, .inr (.inl (fun _ => 0))), .inl (ar 1, 80, .inr (.inl (fun _ => 0)))] := A4.trans B5
  refine r_aload_n eX10_init_34 rfl ?_
  refine r_bipush (v := 40) eX10_init_35 (by decide) ?_
  refine r_mkl (N := 40) (fs2 := fun q => [.null, .int (0), .int (-1), .int (1), .long 0, .ref q0, .ref q1, .ref q, .null, .null, .null, .null]) eX10_init_37 eX10_init_39 p_10_29 ha5 (Nat.le_of_ble_eq_true rfl) (fun _ => ⟨rfl, rfl⟩) (fun _ => rfl) (fun _ => rfl) (by decide) (by decide) (by decide) (by omega) (by omega) (fun q2 h6 ha6 B6 => ?_)
  have A6 : Al h h6 a (cat 2 (cat 1 (cat 0 (fun _ => 0) (fun _ => q0)) (fun _ => q1)) (fun _ => q2)) [.inl (ar 1, 2, .inr (.inl (fun _ => 0))), .inl (ar 1, 80, .inr (.inl (fun _ => 0))), .inl (ar 1, 40, .inr (.inl (fun _ => 0)))] := A5.trans B6
  refine r_aload_n eX10_init_42 rfl ?_
  refine r_bipush (v := 12) eX10_init_43 (by decide) ?_
  refine r_mkl (N := 12) (fs2 := fun q => [.null, .int (0), .int (-1), .int (1), .long 0, .ref q0, .ref q1, .ref q2, .ref q, .null, .null, .null]) eX10_init_45 eX10_init_47 p_10_32 ha6 (Nat.le_of_ble_eq_true rfl) (fun _ => ⟨rfl, rfl⟩) (fun _ => rfl) (fun _ => rfl) (by decide) (by decide) (by decide) (by omega) (by omega) (fun q3 h7 ha7 B7 => ?_)
  have A7 : Al h h7 a (cat 3 (cat 2 (cat 1 (cat 0 (fun _ => 0) (fun _ => q0)) (fun _ => q1)) (fun _ => q2)) (fun _ => q3)) [.inl (ar 1, 2, .inr (.inl (fun _ => 0))), .inl (ar 1, 80, .inr (.inl (fun _ => 0))), .inl (ar 1, 40, .inr (.inl (fun _ => 0))), .inl (ar 1, 12, .inr (.inl (fun _ => 0)))] := A6.trans B7
  refine r_aload_n eX10_init_50 rfl ?_
  refine r_bipush (v := 12) eX10_init_51 (by decide) ?_
  refine r_mkl (N := 12) (fs2 := fun q => [.null, .int (0), .int (-1), .int (1), .long 0, .ref q0, .ref q1, .ref q2, .ref q3, .ref q, .null, .null]) eX10_init_53 eX10_init_55 p_10_35 ha7 (Nat.le_of_ble_eq_true rfl) (fun _ => ⟨rfl, rfl⟩) (fun _ => rfl) (fun _ => rfl) (by decide) (by decide) (by decide) (by omega) (by omega) (fun q4 h8 ha8 B8 => ?_)
  have A8 : Al h h8 a (cat 4 (cat 3 (cat 2 (cat 1 (cat 0 (fun _ => 0) (fun _ => q0)) (fun _ => q1)) (fun _ => q2)) (fun _ => q3)) (fun _ => q4)) [.inl (ar 1, 2, .inr (.inl (fun _ => 0))), .inl (ar 1, 80, .inr (.inl (fun _ => 0))), .inl (ar 1, 40, .inr (.inl (fun _ => 0))), .inl (ar 1, 12, .inr (.inl (fun _ => 0))), .inl (ar 1, 12, .inr (.inl (fun _ => 0)))] := A7.trans B8
  refine r_aload_n eX10_init_58 rfl ?_
  refine r_sipush (v := 240) eX10_init_59 (by decide) ?_
  refine r_mkz (N := 240) (fs2 := fun q => [.null, .int (0), .int (-1), .int (1), .long 0, .ref q0, .ref q1, .ref q2, .ref q3, .ref q4, .ref q, .null]) eX10_init_62 eX10_init_64 p_10_38 ha8 (Nat.le_of_ble_eq_true rfl) (fun _ => ⟨rfl, rfl⟩) (fun _ => rfl) (fun _ => rfl) (by decide) (by decide) (by decide) (by omega) (by omega) (fun q5 h9 ha9 B9 => ?_)
  have A9 : Al h h9 a (cat 5 (cat 4 (cat 3 (cat 2 (cat 1 (cat 0 (fun _ => 0) (fun _ => q0)) (fun _ => q1)) (fun _ => q2)) (fun _ => q3)) (fun _ => q4)) (fun _ => q5)) [.inl (ar 1, 2, .inr (.inl (fun _ => 0))), .inl (ar 1, 80, .inr (.inl (fun _ => 0))), .inl (ar 1, 40, .inr (.inl (fun _ => 0))), .inl (ar 1, 12, .inr (.inl (fun _ => 0))), .inl (ar 1, 12, .inr (.inl (fun _ => 0))), .inl (ar 2, 240, .inl (fun _ => 0))] := A8.trans B9
  refine r_aload_n eX10_init_67 rfl ?_
  refine r_sipush (v := 1920) eX10_init_68 (by decide) ?_
  refine r_mkl (N := 1920) (fs2 := fun q => [.null, .int (0), .int (-1), .int (1), .long 0, .ref q0, .ref q1, .ref q2, .ref q3, .ref q4, .ref q5, .ref q]) eX10_init_71 eX10_init_73 p_10_42 ha9 (Nat.le_of_ble_eq_true rfl) (fun _ => ⟨rfl, rfl⟩) (fun _ => rfl) (fun _ => rfl) (by decide) (by decide) (by decide) (by omega) (by omega) (fun q6 h10 ha10 B10 => ?_)
  have A10 : Al h h10 a (cat 6 (cat 5 (cat 4 (cat 3 (cat 2 (cat 1 (cat 0 (fun _ => 0) (fun _ => q0)) (fun _ => q1)) (fun _ => q2)) (fun _ => q3)) (fun _ => q4)) (fun _ => q5)) (fun _ => q6)) [.inl (ar 1, 2, .inr (.inl (fun _ => 0))), .inl (ar 1, 80, .inr (.inl (fun _ => 0))), .inl (ar 1, 40, .inr (.inl (fun _ => 0))), .inl (ar 1, 12, .inr (.inl (fun _ => 0))), .inl (ar 1, 12, .inr (.inl (fun _ => 0))), .inl (ar 2, 240, .inl (fun _ => 0)), .inl (ar 1, 1920, .inr (.inl (fun _ => 0)))] := A9.trans B10
  refine r_aload_n eX10_init_76 rfl ?_
  refine r_aload_n eX10_init_77 rfl ?_
  refine r_putk (fs2 := [.ref b0, .int (0), .int (-1), .int (1), .long 0, .ref q0, .ref q1, .ref q2, .ref q3, .ref q4, .ref q5, .ref q6]) eX10_init_78 p_10_45 ha10 (Nat.le_of_ble_eq_true rfl) (by first | rfl | decide) rfl (fun q => by first | rfl | cases q) rfl (fun h11 ha11 hk11 => ?_)
  have A11 : Al h h11 a (cat 6 (cat 5 (cat 4 (cat 3 (cat 2 (cat 1 (cat 0 (fun _ => 0) (fun _ => q0)) (fun _ => q1)) (fun _ => q2)) (fun _ => q3)) (fun _ => q4)) (fun _ => q5)) (fun _ => q6)) [.inl (ar 1, 2, .inr (.inl (fun _ => 0))), .inl (ar 1, 80, .inr (.inl (fun _ => 0))), .inl (ar 1, 40, .inr (.inl (fun _ => 0))), .inl (ar 1, 12, .inr (.inl (fun _ => 0))), .inl (ar 1, 12, .inr (.inl (fun _ => 0))), .inl (ar 2, 240, .inl (fun _ => 0)), .inl (ar 1, 1920, .inr (.inl (fun _ => 0)))] := A10.put hk11
  exact r_vret eX10_init_81 rfl ⟨rfl, _, A11, ha11⟩
theorem c_X2_init {a : Nat} (ha : h a = some (.inr (2, [.int 0, .null, .int 0, .null, .null, .null, .null, .null]))) (hm : 6 ≤ mc) (hs : 112 ≤ ms) : CT ar ro sa mX2_init d [.ref a] h mc ms (Ex (fun v h' => v = none ∧ ∃ r : Nat → Nat, Al h h' a r [.inl (ar 0, 72, .inl (fun _ => 0)), .inl (ar 0, 8, .inl (fun _ => 0)), .inl (ar 0, 8, .inl (fun _ => 0)), .inl (ar 2, 8, .inl (fun _ => 0)), .inl (ar 2, 8, .inl (fun _ => 0)), .inl (ar 0, 8, .inl (fun _ => 0))] ∧ h' a = some (.inr (2, fsX2 (fun i => [].getD i 0) (fun i => [(r 0), (r 1), (r 2), (r 3), (r 4), (r 5)].getD i 0) (fun i => [(0 : Int32), (0 : Int32)].getD i 0) (fun _ => 0)))) No) := by
  show WP ar ro sa mX2_init _ 0 [some (.ref a)] [] h mc ms _
  have A0 : Al h h a (fun _ => 0) [] := Al.nil
  refine r_aload_n eX2_init_0 rfl ?_
  refine r_objinit eX2_init_1 ob_2 ob1 ob2 (by decide) ?_
  refine r_aload_n eX2_init_4 rfl ?_
  refine r_bipush (v := 72) eX2_init_5 (by decide) ?_
  refine r_mki (N := 72) (fs2 := fun q => [.int 0, .ref q, .int 0, .null, .null, .null, .null, .null]) eX2_init_7 eX2_init_9 p_2_9 ha (Nat.le_of_ble_eq_true rfl) (fun _ => ⟨rfl, rfl⟩) (fun _ => rfl) (fun _ => rfl) (by decide) (by decide) (by decide) (by omega) (by omega) (fun q0 h1 ha1 B1 => ?_)
  have A1 : Al h h1 a (cat 0 (fun _ => 0) (fun _ => q0)) [.inl (ar 0, 72, .inl (fun _ => 0))] := A0.trans B1
  refine r_aload_n eX2_init_12 rfl ?_
  refine r_bipush (v := 8) eX2_init_13 (by decide) ?_
  refine r_mki (N := 8) (fs2 := fun q => [.int 0, .ref q0, .int 0, .ref q, .null, .null, .null, .null]) eX2_init_15 eX2_init_17 p_2_15 ha1 (Nat.le_of_ble_eq_true rfl) (fun _ => ⟨rfl, rfl⟩) (fun _ => rfl) (fun _ => rfl) (by decide) (by decide) (by decide) (by omega) (by omega) (fun q1 h2 ha2 B2 => ?_)
  have A2 : Al h h2 a (cat 1 (cat 0 (fun _ => 0) (fun _ => q0)) (fun _ => q1)) [.inl (ar 0, 72, .inl (fun _ => 0)), .inl (ar 0, 8, .inl (fun _ => 0))] := A1.trans B2
  refine r_aload_n eX2_init_20 rfl ?_
  refine r_bipush (v := 8) eX2_init_21 (by decide) ?_
  refine r_mki (N := 8) (fs2 := fun q => [.int 0, .ref q0, .int 0, .ref q1, .ref q, .null, .null, .null]) eX2_init_23 eX2_init_25 p_2_18 ha2 (Nat.le_of_ble_eq_true rfl) (fun _ => ⟨rfl, rfl⟩) (fun _ => rfl) (fun _ => rfl) (by decide) (by decide) (by decide) (by omega) (by omega) (fun q2 h3 ha3 B3 => ?_)
  have A3 : Al h h3 a (cat 2 (cat 1 (cat 0 (fun _ => 0) (fun _ => q0)) (fun _ => q1)) (fun _ => q2)) [.inl (ar 0, 72, .inl (fun _ => 0)), .inl (ar 0, 8, .inl (fun _ => 0)), .inl (ar 0, 8, .inl (fun _ => 0))] := A2.trans B3
  refine r_aload_n eX2_init_28 rfl ?_
  refine r_bipush (v := 8) eX2_init_29 (by decide) ?_
  refine r_mkz (N := 8) (fs2 := fun q => [.int 0, .ref q0, .int 0, .ref q1, .ref q2, .ref q, .null, .null]) eX2_init_31 eX2_init_33 p_2_21 ha3 (Nat.le_of_ble_eq_true rfl) (fun _ => ⟨rfl, rfl⟩) (fun _ => rfl) (fun _ => rfl) (by decide) (by decide) (by decide) (by omega) (by omega) (fun q3 h4 ha4 B4 => ?_)
  have A4 : Al h h4 a (cat 3 (cat 2 (cat 1 (cat 0 (fun _ => 0) (fun _ => q0)) (fun _ => q1)) (fun _ => q2)) (fun _ => q3)) [.inl (ar 0, 72, .inl (fun _ => 0)), .inl (ar 0, 8, .inl (fun _ => 0)), .inl (ar 0, 8, .inl (fun _ => 0)), .inl (ar 2, 8, .inl (fun _ => 0))] := A3.trans B4
  refine r_aload_n eX2_init_36 rfl ?_
  refine r_bipush (v := 8) eX2_init_37 (by decide) ?_
  refine r_mkz (N := 8) (fs2 := fun q => [.int 0, .ref q0, .int 0, .ref q1, .ref q2, .ref q3, .ref q, .null]) eX2_init_39 eX2_init_41 p_2_25 ha4 (Nat.le_of_ble_eq_true rfl) (fun _ => ⟨rfl, rfl⟩) (fun _ => rfl) (fun _ => rfl) (by decide) (by decide) (by decide) (by omega) (by omega) (fun q4 h5 ha5 B5 => ?_)
  have A5 : Al h h5 a (cat 4 (cat 3 (cat 2 (cat 1 (cat 0 (fun _ => 0) (fun _ => q0)) (fun _ => q1)) (fun _ => q2)) (fun _ => q3)) (fun _ => q4)) [.inl (ar 0, 72, .inl (fun _ => 0)), .inl (ar 0, 8, .inl (fun _ => 0)), .inl (ar 0, 8, .inl (fun _ => 0)), .inl (ar 2, 8, .inl (fun _ => 0)), .inl (ar 2, 8, .inl (fun _ => 0))] := A4.trans B5
  refine r_aload_n eX2_init_44 rfl ?_
  refine r_bipush (v := 8) eX2_init_45 (by decide) ?_
  refine r_mki (N := 8) (fs2 := fun q => [.int 0, .ref q0, .int 0, .ref q1, .ref q2, .ref q3, .ref q4, .ref q]) eX2_init_47 eX2_init_49 p_2_28 ha5 (Nat.le_of_ble_eq_true rfl) (fun _ => ⟨rfl, rfl⟩) (fun _ => rfl) (fun _ => rfl) (by decide) (by decide) (by decide) (by omega) (by omega) (fun q5 h6 ha6 B6 => ?_)
  have A6 : Al h h6 a (cat 5 (cat 4 (cat 3 (cat 2 (cat 1 (cat 0 (fun _ => 0) (fun _ => q0)) (fun _ => q1)) (fun _ => q2)) (fun _ => q3)) (fun _ => q4)) (fun _ => q5)) [.inl (ar 0, 72, .inl (fun _ => 0)), .inl (ar 0, 8, .inl (fun _ => 0)), .inl (ar 0, 8, .inl (fun _ => 0)), .inl (ar 2, 8, .inl (fun _ => 0)), .inl (ar 2, 8, .inl (fun _ => 0)), .inl (ar 0, 8, .inl (fun _ => 0))] := A5.trans B6
  exact r_vret eX2_init_52 rfl ⟨rfl, _, A6, ha6⟩
theorem c_X0_init {a : Nat} (ha : h a = some (.inr (0, [.int 0, .null, .null, .null, .null, .int 0, .null, .null, .null, .null, .null]))) (hm : 9 ≤ mc) (hs : 666 ≤ ms) : CT ar ro sa mX0_init d [.ref a] h mc ms (Ex (fun v h' => v = none ∧ ∃ r : Nat → Nat, Al h h' a r [.inl (ar 0, 12, .inl (fun _ => 0)), .inl (ar 0, 12, .inl (fun _ => 0)), .inl (ar 0, 12, .inl (fun _ => 0)), .inl (ar 0, 480, .inl (fun _ => 0)), .inl (ar 0, 30, .inl (fun _ => 0)), .inl (ar 0, 30, .inl (fun _ => 0)), .inl (ar 0, 30, .inl (fun _ => 0)), .inl (ar 0, 30, .inl (fun _ => 0)), .inl (ar 0, 30, .inl (fun _ => 0))] ∧ h' a = some (.inr (0, fsX0 (fun i => [].getD i 0) (fun i => [(r 0), (r 1), (r 2), (r 3), (r 4), (r 5), (r 6), (r 7), (r 8)].getD i 0) (fun i => [(0 : Int32), (0 : Int32)].getD i 0) (fun _ => 0)))) No) := by
  show WP ar ro sa mX0_init _ 0 [some (.ref a)] [] h mc ms _
  have A0 : Al h h a (fun _ => 0) [] := Al.nil
  refine r_aload_n eX0_init_0 rfl ?_
  refine r_objinit eX0_init_1 ob_0 ob1 ob2 (by decide) ?_
  refine r_aload_n eX0_init_4 rfl ?_
  refine r_bipush (v := 12) eX0_init_5 (by decide) ?_
  refine r_mki (N := 12) (fs2 := fun q => [.int 0, .ref q, .null, .null, .null, .int 0, .null, .null, .null, .null, .null]) eX0_init_7 eX0_init_9 p_0_9 ha (Nat.le_of_ble_eq_true rfl) (fun _ => ⟨rfl, rfl⟩) (fun _ => rfl) (fun _ => rfl) (by decide) (by decide) (by decide) (by omega) (by omega) (fun q0 h1 ha1 B1 => ?_)
  have A1 : Al h h1 a (cat 0 (fun _ => 0) (fun _ => q0)) [.inl (ar 0, 12, .inl (fun _ => 0))] := A0.trans B1
  refine r_aload_n eX0_init_12 rfl ?_
  refine r_bipush (v := 12) eX0_init_13 (by decide) ?_
  refine r_mki (N := 12) (fs2 := fun q => [.int 0, .ref q0, .ref q, .null, .null, .int 0, .null, .null, .null, .null, .null]) eX0_init_15 eX0_init_17 p_0_15 ha1 (Nat.le_of_ble_eq_true rfl) (fun _ => ⟨rfl, rfl⟩) (fun _ => rfl) (fun _ => rfl) (by decide) (by decide) (by decide) (by omega) (by omega) (fun q1 h2 ha2 B2 => ?_)
  have A2 : Al h h2 a (cat 1 (cat 0 (fun _ => 0) (fun _ => q0)) (fun _ => q1)) [.inl (ar 0, 12, .inl (fun _ => 0)), .inl (ar 0, 12, .inl (fun _ => 0))] := A1.trans B2
  refine r_aload_n eX0_init_20 rfl ?_
  refine r_bipush (v := 12) eX0_init_21 (by decide) ?_
  refine r_mki (N := 12) (fs2 := fun q => [.int 0, .ref q0, .ref q1, .ref q, .null, .int 0, .null, .null, .null, .null, .null]) eX0_init_23 eX0_init_25 p_0_18 ha2 (Nat.le_of_ble_eq_true rfl) (fun _ => ⟨rfl, rfl⟩) (fun _ => rfl) (fun _ => rfl) (by decide) (by decide) (by decide) (by omega) (by omega) (fun q2 h3 ha3 B3 => ?_)
  have A3 : Al h h3 a (cat 2 (cat 1 (cat 0 (fun _ => 0) (fun _ => q0)) (fun _ => q1)) (fun _ => q2)) [.inl (ar 0, 12, .inl (fun _ => 0)), .inl (ar 0, 12, .inl (fun _ => 0)), .inl (ar 0, 12, .inl (fun _ => 0))] := A2.trans B3
  refine r_aload_n eX0_init_28 rfl ?_
  refine r_sipush (v := 480) eX0_init_29 (by decide) ?_
  refine r_mki (N := 480) (fs2 := fun q => [.int 0, .ref q0, .ref q1, .ref q2, .ref q, .int 0, .null, .null, .null, .null, .null]) eX0_init_32 eX0_init_34 p_0_21 ha3 (Nat.le_of_ble_eq_true rfl) (fun _ => ⟨rfl, rfl⟩) (fun _ => rfl) (fun _ => rfl) (by decide) (by decide) (by decide) (by omega) (by omega) (fun q3 h4 ha4 B4 => ?_)
  have A4 : Al h h4 a (cat 3 (cat 2 (cat 1 (cat 0 (fun _ => 0) (fun _ => q0)) (fun _ => q1)) (fun _ => q2)) (fun _ => q3)) [.inl (ar 0, 12, .inl (fun _ => 0)), .inl (ar 0, 12, .inl (fun _ => 0)), .inl (ar 0, 12, .inl (fun _ => 0)), .inl (ar 0, 480, .inl (fun _ => 0))] := A3.trans B4
  refine r_aload_n eX0_init_37 rfl ?_
  refine r_bipush (v := 30) eX0_init_38 (by decide) ?_
  refine r_mki (N := 30) (fs2 := fun q => [.int 0, .ref q0, .ref q1, .ref q2, .ref q3, .int 0, .ref q, .null, .null, .null, .null]) eX0_init_40 eX0_init_42 p_0_24 ha4 (Nat.le_of_ble_eq_true rfl) (fun _ => ⟨rfl, rfl⟩) (fun _ => rfl) (fun _ => rfl) (by decide) (by decide) (by decide) (by omega) (by omega) (fun q4 h5 ha5 B5 => ?_)
  have A5 : Al h h5 a (cat 4 (cat 3 (cat 2 (cat 1 (cat 0 (fun _ => 0) (fun _ => q0)) (fun _ => q1)) (fun _ => q2)) (fun _ => q3)) (fun _ => q4)) [.inl (ar 0, 12, .inl (fun _ => 0)), .inl (ar 0, 12, .inl (fun _ => 0)), .inl (ar 0, 12, .inl (fun _ => 0)), .inl (ar 0, 480, .inl (fun _ => 0)), .inl (ar 0, 30, .inl (fun _ => 0))] := A4.trans B5
  refine r_aload_n eX0_init_45 rfl ?_
  refine r_bipush (v := 30) eX0_init_46 (by decide) ?_
  refine r_mki (N := 30) (fs2 := fun q => [.int 0, .ref q0, .ref q1, .ref q2, .ref q3, .int 0, .ref q4, .ref q, .null, .null, .null]) eX0_init_48 eX0_init_50 p_0_27 ha5 (Nat.le_of_ble_eq_true rfl) (fun _ => ⟨rfl, rfl⟩) (fun _ => rfl) (fun _ => rfl) (by decide) (by decide) (by decide) (by omega) (by omega) (fun q5 h6 ha6 B6 => ?_)
  have A6 : Al h h6 a (cat 5 (cat 4 (cat 3 (cat 2 (cat 1 (cat 0 (fun _ => 0) (fun _ => q0)) (fun _ => q1)) (fun _ => q2)) (fun _ => q3)) (fun _ => q4)) (fun _ => q5)) [.inl (ar 0, 12, .inl (fun _ => 0)), .inl (ar 0, 12, .inl (fun _ => 0)), .inl (ar 0, 12, .inl (fun _ => 0)), .inl (ar 0, 480, .inl (fun _ => 0)), .inl (ar 0, 30, .inl (fun _ => 0)), .inl (ar 0, 30, .inl (fun _ => 0))] := A5.trans B6
  refine r_aload_n eX0_init_53 rfl ?_
  refine r_bipush (v := 30) eX0_init_54 (by decide) ?_
  refine r_mki (N := 30) (fs2 := fun q => [.int 0, .ref q0, .ref q1, .ref q2, .ref q3, .int 0, .ref q4, .ref q5, .ref q, .null, .null]) eX0_init_56 eX0_init_58 p_0_30 ha6 (Nat.le_of_ble_eq_true rfl) (fun _ => ⟨rfl, rfl⟩) (fun _ => rfl) (fun _ => rfl) (by decide) (by decide) (by decide) (by omega) (by omega) (fun q6 h7 ha7 B7 => ?_)
  have A7 : Al h h7 a (cat 6 (cat 5 (cat 4 (cat 3 (cat 2 (cat 1 (cat 0 (fun _ => 0) (fun _ => q0)) (fun _ => q1)) (fun _ => q2)) (fun _ => q3)) (fun _ => q4)) (fun _ => q5)) (fun _ => q6)) [.inl (ar 0, 12, .inl (fun _ => 0)), .inl (ar 0, 12, .inl (fun _ => 0)), .inl (ar 0, 12, .inl (fun _ => 0)), .inl (ar 0, 480, .inl (fun _ => 0)), .inl (ar 0, 30, .inl (fun _ => 0)), .inl (ar 0, 30, .inl (fun _ => 0)), .inl (ar 0, 30, .inl (fun _ => 0))] := A6.trans B7
  refine r_aload_n eX0_init_61 rfl ?_
  refine r_bipush (v := 30) eX0_init_62 (by decide) ?_
  refine r_mki (N := 30) (fs2 := fun q => [.int 0, .ref q0, .ref q1, .ref q2, .ref q3, .int 0, .ref q4, .ref q5, .ref q6, .ref q, .null]) eX0_init_64 eX0_init_66 p_0_33 ha7 (Nat.le_of_ble_eq_true rfl) (fun _ => ⟨rfl, rfl⟩) (fun _ => rfl) (fun _ => rfl) (by decide) (by decide) (by decide) (by omega) (by omega) (fun q7 h8 ha8 B8 => ?_)
  have A8 : Al h h8 a (cat 7 (cat 6 (cat 5 (cat 4 (cat 3 (cat 2 (cat 1 (cat 0 (fun _ => 0) (fun _ => q0)) (fun _ => q1)) (fun _ => q2)) (fun _ => q3)) (fun _ => q4)) (fun _ => q5)) (fun _ => q6)) (fun _ => q7)) [.inl (ar 0, 12, .inl (fun _ => 0)), .inl (ar 0, 12, .inl (fun _ => 0)), .inl (ar 0, 12, .inl (fun _ => 0)), .inl (ar 0, 480, .inl (fun _ => 0)), .inl (ar 0, 30, .inl (fun _ => 0)), .inl (ar 0, 30, .inl (fun _ => 0)), .inl (ar 0, 30, .inl (fun _ => 0)), .inl (ar 0, 30, .inl (fun _ => 0))] := A7.trans B8
  refine r_aload_n eX0_init_69 rfl ?_
  refine r_bipush (v := 30) eX0_init_70 (by decide) ?_
  refine r_mki (N := 30) (fs2 := fun q => [.int 0, .ref q0, .ref q1, .ref q2, .ref q3, .int 0, .ref q4, .ref q5, .ref q6, .ref q7, .ref q]) eX0_init_72 eX0_init_74 p_0_36 ha8 (Nat.le_of_ble_eq_true rfl) (fun _ => ⟨rfl, rfl⟩) (fun _ => rfl) (fun _ => rfl) (by decide) (by decide) (by decide) (by omega) (by omega) (fun q8 h9 ha9 B9 => ?_)
  have A9 : Al h h9 a (cat 8 (cat 7 (cat 6 (cat 5 (cat 4 (cat 3 (cat 2 (cat 1 (cat 0 (fun _ => 0) (fun _ => q0)) (fun _ => q1)) (fun _ => q2)) (fun _ => q3)) (fun _ => q4)) (fun _ => q5)) (fun _ => q6)) (fun _ => q7)) (fun _ => q8)) [.inl (ar 0, 12, .inl (fun _ => 0)), .inl (ar 0, 12, .inl (fun _ => 0)), .inl (ar 0, 12, .inl (fun _ => 0)), .inl (ar 0, 480, .inl (fun _ => 0)), .inl (ar 0, 30, .inl (fun _ => 0)), .inl (ar 0, 30, .inl (fun _ => 0)), .inl (ar 0, 30, .inl (fun _ => 0)), .inl (ar 0, 30, .inl (fun _ => 0)), .inl (ar 0, 30, .inl (fun _ => 0))] := A8.trans B9
  exact r_vret eX0_init_77 rfl ⟨rfl, _, A9, ha9⟩
theorem c_X3_init {a : Nat} (ha : h a = some (.inr (3, [.int 0, .null, .null, .int 0, .null, .null, .null, .null, .null, .null, .null, .int 0, .null, .null, .null, .null, .null]))) (hm : 14 ≤ mc) (hs : 1000 ≤ ms) : CT ar ro sa mX3_init d [.ref a] h mc ms (Ex (fun v h' => v = none ∧ ∃ r : Nat → Nat, Al h h' a r [.inl (ar 0, 40, .inl (fun _ => 0)), .inl (ar 0, 40, .inl (fun _ => 0)), .inl (ar 0, 60, .inl (fun _ => 0)), .inl (ar 0, 60, .inl (fun _ => 0)), .inl (ar 0, 60, .inl (fun _ => 0)), .inl (ar 0, 60, .inl (fun _ => 0)), .inl (ar 0, 240, .inl (fun _ => 0)), .inl (ar 0, 120, .inl (fun _ => 0)), .inl (ar 0, 120, .inl (fun _ => 0)), .inl (ar 0, 40, .inl (fun _ => 0)), .inl (ar 0, 40, .inl (fun _ => 0)), .inl (ar 2, 40, .inl (fun _ => 0)), .inl (ar 0, 40, .inl (fun _ => 0)), .inl (ar 0, 40, .inl (fun _ => 0))] ∧ h' a = some (.inr (3, fsX3 (fun i => [].getD i 0) (fun i => [(r 0), (r 1), (r 2), (r 3), (r 4), (r 5), (r 6), (r 7), (r 8), (r 9), (r 10), (r 11), (r 12), (r 13)].getD i 0) (fun i => [(0 : Int32), (0 : Int32), (0 : Int32)].getD i 0) (fun _ => 0)))) No) := by
  show WP ar ro sa mX3_init _ 0 [some (.ref a)] [] h mc ms _
  have A0 : Al h h a (fun _ => 0) [] := Al.nil
  refine r_aload_n eX3_init_0 rfl ?_
  refine r_objinit eX3_init_1 ob_3 ob1 ob2 (by decide) ?_
  refine r_aload_n eX3_init_4 rfl ?_
  refine r_bipush (v := 40) eX3_init_5 (by decide) ?_
  refine r_mki (N := 40) (fs2 := fun q => [.int 0, .ref q, .null, .int 0, .null, .null, .null, .null, .null, .null, .null, .int 0, .null, .null, .null, .null, .null]) eX3_init_7 eX3_init_9 p_3_9 ha (Nat.le_of_ble_eq_true rfl) (fun _ => ⟨rfl, rfl⟩) (fun _ => rfl) (fun _ => rfl) (by decide) (by decide) (by decide) (by omega) (by omega) (fun q0 h1 ha1 B1 => ?_)
  have A1 : Al h h1 a (cat 0 (fun _ => 0) (fun _ => q0)) [.inl (ar 0, 40, .inl (fun _ => 0))] := A0.trans B1
  refine r_aload_n eX3_init_12 rfl ?_
  refine r_bipush (v := 40) eX3_init_13 (by decide) ?_
  refine r_mki (N := 40) (fs2 := fun q => [.int 0, .ref q0, .ref q, .int 0, .null, .null, .null, .null, .null, .null, .null, .int 0, .null, .null, .null, .null, .null]) eX3_init_15 eX3_init_17 p_3_15 ha1 (Nat.le_of_ble_eq_true rfl) (fun _ => ⟨rfl, rfl⟩) (fun _ => rfl) (fun _ => rfl) (by decide) (by decide) (by decide) (by omega) (by omega) (fun q1 h2 ha2 B2 => ?_)
  have A2 : Al h h2 a (cat 1 (cat 0 (fun _ => 0) (fun _ => q0)) (fun _ => q1)) [.inl (ar 0, 40, .inl (fun _ => 0)), .inl (ar 0, 40, .inl (fun _ => 0))] := A1.trans B2
  refine r_aload_n eX3_init_20 rfl ?_
  refine r_bipush (v := 60) eX3_init_21 (by decide) ?_
  refine r_mki (N := 60) (fs2 := fun q => [.int 0, .ref q0, .ref q1, .int 0, .ref q, .null, .null, .null, .null, .null, .null, .int 0, .null, .null, .null, .null, .null]) eX3_init_23 eX3_init_25 p_3_18 ha2 (Nat.le_of_ble_eq_true rfl) (fun _ => ⟨rfl, rfl⟩) (fun _ => rfl) (fun _ => rfl) (by decide) (by decide) (by decide) (by omega) (by omega) (fun q2 h3 ha3 B3 => ?_)
  have A3 : Al h h3 a (cat 2 (cat 1 (cat 0 (fun _ => 0) (fun _ => q0)) (fun _ => q1)) (fun _ => q2)) [.inl (ar 0, 40, .inl (fun _ => 0)), .inl (ar 0, 40, .inl (fun _ => 0)), .inl (ar 0, 60, .inl (fun _ => 0))] := A2.trans B3
  refine r_aload_n eX3_init_28 rfl ?_
  refine r_bipush (v := 60) eX3_init_29 (by decide) ?_
  refine r_mki (N := 60) (fs2 := fun q => [.int 0, .ref q0, .ref q1, .int 0, .ref q2, .ref q, .null, .null, .null, .null, .null, .int 0, .null, .null, .null, .null, .null]) eX3_init_31 eX3_init_33 p_3_21 ha3 (Nat.le_of_ble_eq_true rfl) (fun _ => ⟨rfl, rfl⟩) (fun _ => rfl) (fun _ => rfl) (by decide) (by decide) (by decide) (by omega) (by omega) (fun q3 h4 ha4 B4 => ?_)
  have A4 : Al h h4 a (cat 3 (cat 2 (cat 1 (cat 0 (fun _ => 0) (fun _ => q0)) (fun _ => q1)) (fun _ => q2)) (fun _ => q3)) [.inl (ar 0, 40, .inl (fun _ => 0)), .inl (ar 0, 40, .inl (fun _ => 0)), .inl (ar 0, 60, .inl (fun _ => 0)), .inl (ar 0, 60, .inl (fun _ => 0))] := A3.trans B4
  refine r_aload_n eX3_init_36 rfl ?_
  refine r_bipush (v := 60) eX3_init_37 (by decide) ?_
  refine r_mki (N := 60) (fs2 := fun q => [.int 0, .ref q0, .ref q1, .int 0, .ref q2, .ref q3, .ref q, .null, .null, .null, .null, .int 0, .null, .null, .null, .null, .null]) eX3_init_39 eX3_init_41 p_3_24 ha4 (Nat.le_of_ble_eq_true rfl) (fun _ => ⟨rfl, rfl⟩) (fun _ => rfl) (fun _ => rfl) (by decide) (by decide) (by decide) (by omega) (by omega) (fun q4 h5 ha5 B5 => ?_)
  have A5 : Al h h5 a (cat 4 (cat 3 (cat 2 (cat 1 (cat 0 (fun _ => 0) (fun _ => q0)) (fun _ => q1)) (fun _ => q2)) (fun _ => q3)) (fun _ => q4)) [.inl (ar 0, 40, .inl (fun _ => 0)), .inl (ar 0, 40, .inl (fun _ => 0)), .inl (ar 0, 60, .inl (fun _ => 0)), .inl (ar 0, 60, .inl (fun _ => 0)), .inl (ar 0, 60, .inl (fun _ => 0))] := A4.trans B5
  refine r_aload_n eX3_init_44 rfl ?_
  refine r_bipush (v := 60) eX3_init_45 (by decide) ?_
  refine r_mki (N := 60) (fs2 := fun q => [.int 0, .ref q0, .ref q1, .int 0, .ref q2, .ref q3, .ref q4, .ref q, .null, .null, .null, .int 0, .null, .null, .null, .null, .null]) eX3_init_47 eX3_init_49 p_3_27 ha5 (Nat.le_of_ble_eq_true rfl) (fun _ => ⟨rfl, rfl⟩) (fun _ => rfl) (fun _ => rfl) (by decide) (by decide) (by decide) (by omega) (by omega) (fun q5 h6 ha6 B6 => ?_)
  have A6 : Al h h6 a (cat 5 (cat 4 (cat 3 (cat 2 (cat 1 (cat 0 (fun _ => 0) (fun _ => q0)) (fun _ => q1)) (fun _ => q2)) (fun _ => q3)) (fun _ => q4)) (fun _ => q5)) [.inl (ar 0, 40, .inl (fun _ => 0)), .inl (ar 0, 40, .inl (fun _ => 0)), .inl (ar 0, 60, .inl (fun _ => 0)), .inl (ar 0, 60, .inl (fun _ => 0)), .inl (ar 0, 60, .inl (fun _ => 0)), .inl (ar 0, 60, .inl (fun _ => 0))] := A5.trans B6
  refine r_aload_n eX3_init_52 rfl ?_
  refine r_sipush (v := 240) eX3_init_53 (by decide) ?_
  refine r_mki (N := 240) (fs2 := fun q => [.int 0, .ref q0, .ref q1, .int 0, .ref q2, .ref q3, .ref q4, .ref q5, .ref q, .null, .null, .int 0, .null, .null, .null, .null, .null]) eX3_init_56 eX3_init_58 p_3_30 ha6 (Nat.le_of_ble_eq_true rfl) (fun _ => ⟨rfl, rfl⟩) (fun _ => rfl) (fun _ => rfl) (by decide) (by decide) (by decide) (by omega) (by omega) (fun q6 h7 ha7 B7 => ?_)
  have A7 : Al h h7 a (cat 6 (cat 5 (cat 4 (cat 3 (cat 2 (cat 1 (cat 0 (fun _ => 0) (fun _ => q0)) (fun _ => q1)) (fun _ => q2)) (fun _ => q3)) (fun _ => q4)) (fun _ => q5)) (fun _ => q6)) [.inl (ar 0, 40, .inl (fun _ => 0)), .inl (ar 0, 40, .inl (fun _ => 0)), .inl (ar 0, 60, .inl (fun _ => 0)), .inl (ar 0, 60, .inl (fun _ => 0)), .inl (ar 0, 60, .inl (fun _ => 0)), .inl (ar 0, 60, .inl (fun _ => 0)), .inl (ar 0, 240, .inl (fun _ => 0))] := A6.trans B7
  refine r_aload_n eX3_init_61 rfl ?_
  refine r_bipush (v := 120) eX3_init_62 (by decide) ?_
  refine r_mki (N := 120) (fs2 := fun q => [.int 0, .ref q0, .ref q1, .int 0, .ref q2, .ref q3, .ref q4, .ref q5, .ref q6, .ref q, .null, .int 0, .null, .null, .null, .null, .null]) eX3_init_64 eX3_init_66 p_3_33 ha7 (Nat.le_of_ble_eq_true rfl) (fun _ => ⟨rfl, rfl⟩) (fun _ => rfl) (fun _ => rfl) (by decide) (by decide) (by decide) (by omega) (by omega) (fun q7 h8 ha8 B8 => ?_)
  have A8 : Al h h8 a (cat 7 (cat 6 (cat 5 (cat 4 (cat 3 (cat 2 (cat 1 (cat 0 (fun _ => 0) (fun _ => q0)) (fun _ => q1)) (fun _ => q2)) (fun _ => q3)) (fun _ => q4)) (fun _ => q5)) (fun _ => q6)) (fun _ => q7)) [.inl (ar 0, 40, .inl (fun _ => 0)), .inl (ar 0, 40, .inl (fun _ => 0)), .inl (ar 0, 60, .inl (fun _ => 0)), .inl (ar 0, 60, .inl (fun _ => 0)), .inl (ar 0, 60, .inl (fun _ => 0)), .inl (ar 0, 60, .inl (fun _ => 0)), .inl (ar 0, 240, .inl (fun _ => 0)), .inl (ar 0, 120, .inl (fun _ => 0))] := A7.trans B8
  refine r_aload_n eX3_init_69 rfl ?_
  refine r_bipush (v := 120) eX3_init_70 (by decide) ?_
  refine r_mki (N := 120) (fs2 := fun q => [.int 0, .ref q0, .ref q1, .int 0, .ref q2, .ref q3, .ref q4, .ref q5, .ref q6, .ref q7, .ref q, .int 0, .null, .null, .null, .null, .null]) eX3_init_72 eX3_init_74 p_3_36 ha8 (Nat.le_of_ble_eq_true rfl) (fun _ => ⟨rfl, rfl⟩) (fun _ => rfl) (fun _ => rfl) (by decide) (by decide) (by decide) (by omega) (by omega) (fun q8 h9 ha9 B9 => ?_)
  have A9 : Al h h9 a (cat 8 (cat 7 (cat 6 (cat 5 (cat 4 (cat 3 (cat 2 (cat 1 (cat 0 (fun _ => 0) (fun _ => q0)) (fun _ => q1)) (fun _ => q2)) (fun _ => q3)) (fun _ => q4)) (fun _ => q5)) (fun _ => q6)) (fun _ => q7)) (fun _ => q8)) [.inl (ar 0, 40, .inl (fun _ => 0)), .inl (ar 0, 40, .inl (fun _ => 0)), .inl (ar 0, 60, .inl (fun _ => 0)), .inl (ar 0, 60, .inl (fun _ => 0)), .inl (ar 0, 60, .inl (fun _ => 0)), .inl (ar 0, 60, .inl (fun _ => 0)), .inl (ar 0, 240, .inl (fun _ => 0)), .inl (ar 0, 120, .inl (fun _ => 0)), .inl (ar 0, 120, .inl (fun _ => 0))] := A8.trans B9
  refine r_aload_n eX3_init_77 rfl ?_
  refine r_bipush (v := 40) eX3_init_78 (by decide) ?_
  refine r_mki (N := 40) (fs2 := fun q => [.int 0, .ref q0, .ref q1, .int 0, .ref q2, .ref q3, .ref q4, .ref q5, .ref q6, .ref q7, .ref q8, .int 0, .ref q, .null, .null, .null, .null]) eX3_init_80 eX3_init_82 p_3_39 ha9 (Nat.le_of_ble_eq_true rfl) (fun _ => ⟨rfl, rfl⟩) (fun _ => rfl) (fun _ => rfl) (by decide) (by decide) (by decide) (by omega) (by omega) (fun q9 h10 ha10 B10 => ?_)
  have A10 : Al h h10 a (cat 9 (cat 8 (cat 7 (cat 6 (cat 5 (cat 4 (cat 3 (cat 2 (cat 1 (cat 0 (fun _ => 0) (fun _ => q0)) (fun _ => q1)) (fun _ => q2)) (fun _ => q3)) (fun _ => q4)) (fun _ => q5)) (fun _ => q6)) (fun _ => q7)) (fun _ => q8)) (fun _ => q9)) [.inl (ar 0, 40, .inl (fun _ => 0)), .inl (ar 0, 40, .inl (fun _ => 0)), .inl (ar 0, 60, .inl (fun _ => 0)), .inl (ar 0, 60, .inl (fun _ => 0)), .inl (ar 0, 60, .inl (fun _ => 0)), .inl (ar 0, 60, .inl (fun _ => 0)), .inl (ar 0, 240, .inl (fun _ => 0)), .inl (ar 0, 120, .inl (fun _ => 0)), .inl (ar 0, 120, .inl (fun _ => 0)), .inl (ar 0, 40, .inl (fun _ => 0))] := A9.trans B10
  refine r_aload_n eX3_init_85 rfl ?_
  refine r_bipush (v := 40) eX3_init_86 (by decide) ?_
  refine r_mki (N := 40) (fs2 := fun q => [.int 0, .ref q0, .ref q1, .int 0, .ref q2, .ref q3, .ref q4, .ref q5, .ref q6, .ref q7, .ref q8, .int 0, .ref q9, .ref q, .null, .null, .null]) eX3_init_88 eX3_init_90 p_3_42 ha10 (Nat.le_of_ble_eq_true rfl) (fun _ => ⟨rfl, rfl⟩) (fun _ => rfl) (fun _ => rfl) (by decide) (by decide) (by decide) (by omega) (by omega) (fun q10 h11 ha11 B11 => ?_)
  have A11 : Al h h11 a (cat 10 (cat 9 (cat 8 (cat 7 (cat 6 (cat 5 (cat 4 (cat 3 (cat 2 (cat 1 (cat 0 (fun _ => 0) (fun _ => q0)) (fun _ => q1)) (fun _ => q2)) (fun _ => q3)) (fun _ => q4)) (fun _ => q5)) (fun _ => q6)) (fun _ => q7)) (fun _ => q8)) (fun _ => q9)) (fun _ => q10)) [.inl (ar 0, 40, .inl (fun _ => 0)), .inl (ar 0, 40, .inl (fun _ => 0)), .inl (ar 0, 60, .inl (fun _ => 0)), .inl (ar 0, 60, .inl (fun _ => 0)), .inl (ar 0, 60, .inl (fun _ => 0)), .inl (ar 0, 60, .inl (fun _ => 0)), .inl (ar 0, 240, .inl (fun _ => 0)), .inl (ar 0, 120, .inl (fun _ => 0)), .inl (ar 0, 120, .inl (fun _ => 0)), .inl (ar 0, 40, .inl (fun _ => 0)), .inl (ar 0, 40, .inl (fun _ => 0))] := A10.trans B11
  refine r_aload_n eX3_init_93 rfl ?_
  refine r_bipush (v := 40) eX3_init_94 (by decide) ?_
  refine r_mkz (N := 40) (fs2 := fun q => [.int 0, .ref q0, .ref q1, .int 0, .ref q2, .ref q3, .ref q4, .ref q5, .ref q6, .ref q7, .ref q8, .int 0, .ref q9, .ref q10, .ref q, .null, .null]) eX3_init_96 eX3_init_98 p_3_45 ha11 (Nat.le_of_ble_eq_true rfl) (fun _ => ⟨rfl, rfl⟩) (fun _ => rfl) (fun _ => rfl) (by decide) (by decide) (by decide) (by omega) (by omega) (fun q11 h12 ha12 B12 => ?_)
  have A12 : Al h h12 a (cat 11 (cat 10 (cat 9 (cat 8 (cat 7 (cat 6 (cat 5 (cat 4 (cat 3 (cat 2 (cat 1 (cat 0 (fun _ => 0) (fun _ => q0)) (fun _ => q1)) (fun _ => q2)) (fun _ => q3)) (fun _ => q4)) (fun _ => q5)) (fun _ => q6)) (fun _ => q7)) (fun _ => q8)) (fun _ => q9)) (fun _ => q10)) (fun _ => q11)) [.inl (ar 0, 40, .inl (fun _ => 0)), .inl (ar 0, 40, .inl (fun _ => 0)), .inl (ar 0, 60, .inl (fun _ => 0)), .inl (ar 0, 60, .inl (fun _ => 0)), .inl (ar 0, 60, .inl (fun _ => 0)), .inl (ar 0, 60, .inl (fun _ => 0)), .inl (ar 0, 240, .inl (fun _ => 0)), .inl (ar 0, 120, .inl (fun _ => 0)), .inl (ar 0, 120, .inl (fun _ => 0)), .inl (ar 0, 40, .inl (fun _ => 0)), .inl (ar 0, 40, .inl (fun _ => 0)), .inl (ar 2, 40, .inl (fun _ => 0))] := A11.trans B12
  refine r_aload_n eX3_init_101 rfl ?_
  refine r_bipush (v := 40) eX3_init_102 (by decide) ?_
  refine r_mki (N := 40) (fs2 := fun q => [.int 0, .ref q0, .ref q1, .int 0, .ref q2, .ref q3, .ref q4, .ref q5, .ref q6, .ref q7, .ref q8, .int 0, .ref q9, .ref q10, .ref q11, .ref q, .null]) eX3_init_104 eX3_init_106 p_3_49 ha12 (Nat.le_of_ble_eq_true rfl) (fun _ => ⟨rfl, rfl⟩) (fun _ => rfl) (fun _ => rfl) (by decide) (by decide) (by decide) (by omega) (by omega) (fun q12 h13 ha13 B13 => ?_)
  have A13 : Al h h13 a (cat 12 (cat 11 (cat 10 (cat 9 (cat 8 (cat 7 (cat 6 (cat 5 (cat 4 (cat 3 (cat 2 (cat 1 (cat 0 (fun _ => 0) (fun _ => q0)) (fun _ => q1)) (fun _ => q2)) (fun _ => q3)) (fun _ => q4)) (fun _ => q5)) (fun _ => q6)) (fun _ => q7)) (fun _ => q8)) (fun _ => q9)) (fun _ => q10)) (fun _ => q11)) (fun _ => q12)) [.inl (ar 0, 40, .inl (fun _ => 0)), .inl (ar 0, 40, .inl (fun _ => 0)), .inl (ar 0, 60, .inl (fun _ => 0)), .inl (ar 0, 60, .inl (fun _ => 0)), .inl (ar 0, 60, .inl (fun _ => 0)), .inl (ar 0, 60, .inl (fun _ => 0)), .inl (ar 0, 240, .inl (fun _ => 0)), .inl (ar 0, 120, .inl (fun _ => 0)), .inl (ar 0, 120, .inl (fun _ => 0)), .inl (ar 0, 40, .inl (fun _ => 0)), .inl (ar 0, 40, .inl (fun _ => 0)), .inl (ar 2, 40, .inl (fun _ => 0)), .inl (ar 0, 40, .inl (fun _ => 0))] := A12.trans B13
  refine r_aload_n eX3_init_109 rfl ?_
  refine r_bipush (v := 40) eX3_init_110 (by decide) ?_
  refine r_mki (N := 40) (fs2 := fun q => [.int 0, .ref q0, .ref q1, .int 0, .ref q2, .ref q3, .ref q4, .ref q5, .ref q6, .ref q7, .ref q8, .int 0, .ref q9, .ref q10, .ref q11, .ref q12, .ref q]) eX3_init_112 eX3_init_114 p_3_52 ha13 (Nat.le_of_ble_eq_true rfl) (fun _ => ⟨rfl, rfl⟩) (fun _ => rfl) (fun _ => rfl) (by decide) (by decide) (by decide) (by omega) (by omega) (fun q13 h14 ha14 B14 => ?_)
  have A14 : Al h h14 a (cat 13 (cat 12 (cat 11 (cat 10 (cat 9 (cat 8 (cat 7 (cat 6 (cat 5 (cat 4 (cat 3 (cat 2 (cat 1 (cat 0 (fun _ => 0) (fun _ => q0)) (fun _ => q1)) (fun _ => q2)) (fun _ => q3)) (fun _ => q4)) (fun _ => q5)) (fun _ => q6)) (fun _ => q7)) (fun _ => q8)) (fun _ => q9)) (fun _ => q10)) (fun _ => q11)) (fun _ => q12)) (fun _ => q13)) [.inl (ar 0, 40, .inl (fun _ => 0)), .inl (ar 0, 40, .inl (fun _ => 0)), .inl (ar 0, 60, .inl (fun _ => 0)), .inl (ar 0, 60, .inl (fun _ => 0)), .inl (ar 0, 60, .inl (fun _ => 0)), .inl (ar 0, 60, .inl (fun _ => 0)), .inl (ar 0, 240, .inl (fun _ => 0)), .inl (ar 0, 120, .inl (fun _ => 0)), .inl (ar 0, 120, .inl (fun _ => 0)), .inl (ar 0, 40, .inl (fun _ => 0)), .inl (ar 0, 40, .inl (fun _ => 0)), .inl (ar 2, 40, .inl (fun _ => 0)), .inl (ar 0, 40, .inl (fun _ => 0)), .inl (ar 0, 40, .inl (fun _ => 0))] := A13.trans B14
  exact r_vret eX3_init_117 rfl ⟨rfl, _, A14, ha14⟩
theorem c_X9_init {a b0 b1 b2 : Nat} (ha : h a = some (.inr (9, [.null, .null, .null, .null, .null, .null, .int 0, .null, .null, .null]))) (hm : 13 ≤ mc) (hs : 934 ≤ ms) : CT ar ro sa mX9_init (d + 1) [.ref a, .ref b0, .ref b1, .ref b2] h mc ms (Ex (fun v h' => v = none ∧ ∃ r : Nat → Nat, Al h h' a r [.inl (ar 0, 96, .inl (fun _ => 0)), .inl (ar 1, 96, .inr (.inl (fun _ => 0))), .inr (6, fsX6 (fun i => [].getD i 0) (fun i => [(r 3)].getD i 0) (fun i => [].getD i 0) (fun _ => 0)), .inl (ar 1, 4, .inr (.inl (fun _ => 0))), .inr (6, fsX6 (fun i => [].getD i 0) (fun i => [(r 5)].getD i 0) (fun i => [].getD i 0) (fun _ => 0)), .inl (ar 1, 4, .inr (.inl (fun _ => 0))), .inl (ar 0, 240, .inl (fun _ => 0)), .inr (7, fsX7 (fun i => [(b0)].getD i 0) (fun i => [(r 8), (r 9), (r 10), (r 11), (r 12)].getD i 0) (fun i => [(0 : Int32), (0 : Int32), (0 : Int32), (0 : Int32)].getD i 0) (fun _ => 0)), .inl (ar 0, 120, .inl (fun _ => 0)), .inl (ar 1, 120, .inr (.inl (fun _ => 0))), .inl (ar 0, 120, .inl (fun _ => 0)), .inl (ar 1, 120, .inr (.inl (fun _ => 0))), .inl (ar 0, 1, .inl (fun _ => 0))] ∧ h' a = some (.inr (9, fsX9 (fun i => [(b0), (b1), (b2), (r 7), (r 2), (r 4)].getD i 0) (fun i => [(r 0), (r 1), (r 6)].getD i 0) (fun i => [(0 : Int32)].getD i 0) (fun _ => 0)))) No) := by
  show WP ar ro sa mX9_init _ 0 [some (.ref a), some (.ref b0), some (.ref b1), some (.ref b2)] [] h mc ms _
  have A0 : Al h h a (fun _ => 0) [] := Al.nil
  refine r_aload_n eX9_init_0 rfl ?_
  refine r_objinit eX9_init_1 ob_9 ob1 ob2 (by decide) ?_
  refine r_aload_n eX9_init_4 rfl ?_
  refine r_bipush (v := 96) eX9_init_5 (by decide) ?_
  refine r_mki (N := 96) (fs2 := fun q => [.null, .null, .null, .null, .ref q, .null, .int 0, .null, .null, .null]) eX9_init_7 eX9_init_9 p_9_9 ha (Nat.le_of_ble_eq_true rfl) (fun _ => ⟨rfl, rfl⟩) (fun _ => rfl) (fun _ => rfl) (by decide) (by decide) (by decide) (by omega) (by omega) (fun q0 h1 ha1 B1 => ?_)
  have A1 : Al h h1 a (cat 0 (fun _ => 0) (fun _ => q0)) [.inl (ar 0, 96, .inl (fun _ => 0))] := A0.trans B1
  refine r_aload_n eX9_init_12 rfl ?_
  refine r_bipush (v := 96) eX9_init_13 (by decide) ?_
  refine r_mkl (N := 96) (fs2 := fun q => [.null, .null, .null, .null, .ref q0, .ref q, .int 0, .null, .null, .null]) eX9_init_15 eX9_init_17 p_9_15 ha1 (Nat.le_of_ble_eq_true rfl) (fun _ => ⟨rfl, rfl⟩) (fun _ => rfl) (fun _ => rfl) (by decide) (by decide) (by decide) (by omega) (by omega) (fun q1 h2 ha2 B2 => ?_)
  have A2 : Al h h2 a (cat 1 (cat 0 (fun _ => 0) (fun _ => q0)) (fun _ => q1)) [.inl (ar 0, 96, .inl (fun _ => 0)), .inl (ar 1, 96, .inr (.inl (fun _ => 0)))] := A1.trans B2
  refine r_aload_n eX9_init_20 rfl ?_
  refine r_newN (N := 1) eX9_init_21 n_9_19 rfl (by omega) (by omega) (fun q2 hq3 => ?_)
  have hn3 : q2 ≠ a := fun z => by rw [z, ha2] at hq3; cases hq3
  obtain ⟨g3, hg3⟩ : ∃ g, g = hset h2 q2 (.inr (6, [.null])) := ⟨_, rfl⟩
  rw [← hg3]
  have hs3 : g3 q2 = some (.inr (6, [.null])) := by rw [hg3]; exact hset_s _ _ _
  have hG3 : g3 a = some (.inr (9, [.null, .null, .null, .null, .ref q0, .ref q1, .int 0, .null, .null, .null])) := by rw [hg3, hset_n _ _ (Ne.symm hn3)]; exact ha2
  refine r_dup eX9_init_24 rfl ?_
  refine r_init (As := []) (rest := [.ref q2, .ref a]) (b := q2) (mc := 1) (ms := 4) eX9_init_25 k_9_21 rfl rfl (Nat.le_of_ble_eq_true rfl) (Nat.le_of_ble_eq_true rfl) (by omega) (by omega) (c_X6_init hs3 (Nat.le_refl _) (Nat.le_refl _)) (fun v3 m3 z3 => ?_)
  obtain ⟨rfl, t3, C3, hc3⟩ := z3
  have hb3 : m3 a = some (.inr (9, [.null, .null, .null, .null, .ref q0, .ref q1, .int 0, .null, .null, .null])) := C3.2.1 a _ (Ne.symm hn3) hG3
  refine r_putk (fs2 := [.null, .null, .null, .null, .ref q0, .ref q1, .int 0, .ref q2, .null, .null]) eX9_init_28 p_9_22 hb3 (Nat.le_of_ble_eq_true rfl) rfl rfl (fun q => by first | rfl | cases q) rfl (fun h3 ha3 hk3 => ?_)
  have B3 := Al.obj hq3 hn3 hg3 C3 hc3 ⟨_, ha2⟩ hk3
  have A3 : Al h h3 a (cat 2 (cat 1 (cat 0 (fun _ => 0) (fun _ => q0)) (fun _ => q1)) (cat 1 (fun _ => q2) t3)) [.inl (ar 0, 96, .inl (fun _ => 0)), .inl (ar 1, 96, .inr (.inl (fun _ => 0))), .inr (6, fsX6 (fun i => [].getD i 0) (fun i => [(t3 0)].getD i 0) (fun i => [].getD i 0) (fun _ => 0)), .inl (ar 1, 4, .inr (.inl (fun _ => 0)))] := A2.trans B3
  refine r_aload_n eX9_init_31 rfl ?_
  refine r_newN (N := 1) eX9_init_32 n_9_19 rfl (by omega) (by omega) (fun q4 hq4 => ?_)
  have hn4 : q4 ≠ a := fun z => by rw [z, ha3] at hq4; cases hq4
  obtain ⟨g4, hg4⟩ : ∃ g, g = hset h3 q4 (.inr (6, [.null])) := ⟨_, rfl⟩
  rw [← hg4]
  have hs4 : g4 q4 = some (.inr (6, [.null])) := by rw [hg4]; exact hset_s _ _ _
  have hG4 : g4 a = some (.inr (9, [.null, .null, .null, .null, .ref q0, .ref q1, .int 0, .ref q2, .null, .null])) := by rw [hg4, hset_n _ _ (Ne.symm hn4)]; exact ha3
  refine r_dup eX9_init_35 rfl ?_
  refine r_init (As := []) (rest := [.ref q4, .ref a]) (b := q4) (mc := 1) (ms := 4) eX9_init_36 k_9_21 rfl rfl (Nat.le_of_ble_eq_true rfl) (Nat.le_of_ble_eq_true rfl) (by omega) (by omega) (c_X6_init hs4 (Nat.le_refl _) (Nat.le_refl _)) (fun v4 m4 z4 => ?_)
  obtain ⟨rfl, t4, C4, hc4⟩ := z4
  have hb4 : m4 a = some (.inr (9, [.null, .null, .null, .null, .ref q0, .ref q1, .int 0, .ref q2, .null, .null])) := C4.2.1 a _ (Ne.symm hn4) hG4
  refine r_putk (fs2 := [.null, .null, .null, .null, .ref q0, .ref q1, .int 0, .ref q2, .ref q4, .null]) eX9_init_39 p_9_26 hb4 (Nat.le_of_ble_eq_true rfl) rfl rfl (fun q => by first | rfl | cases q) rfl (fun h4 ha4 hk4 => ?_)
  have B4 := Al.obj hq4 hn4 hg4 C4 hc4 ⟨_, ha3⟩ hk4
  have A4 : Al h h4 a (cat 4 (cat 2 (cat 1 (cat 0 (fun _ => 0) (fun _ => q0)) (fun _ => q1)) (cat 1 (fun _ => q2) t3)) (cat 1 (fun _ => q4) t4)) [.inl (ar 0, 96, .inl (fun _ => 0)), .inl (ar 1, 96, .inr (.inl (fun _ => 0))), .inr (6, fsX6 (fun i => [].getD i 0) (fun i => [(t3 0)].getD i 0) (fun i => [].getD i 0) (fun _ => 0)), .inl (ar 1, 4, .inr (.inl (fun _ => 0))), .inr (6, fsX6 (fun i => [].getD i 0) (fun i => [(t4 0)].getD i 0) (fun i => [].getD i 0) (fun _ => 0)), .inl (ar 1, 4, .inr (.inl (fun _ => 0)))] := A3.trans B4
  refine r_aload_n eX9_init_42 rfl ?_
  refine r_sipush (v := 240) eX9_init_43 (by decide) ?_
  refine r_mki (N := 240) (fs2 := fun q => [.null, .null, .null, .null, .ref q0, .ref q1, .int 0, .ref q2, .ref q4, .ref q]) eX9_init_46 eX9_init_48 p_9_29 ha4 (Nat.le_of_ble_eq_true rfl) (fun _ => ⟨rfl, rfl⟩) (fun _ => rfl) (fun _ => rfl) (by decide) (by decide) (by decide) (by omega) (by omega) (fun q6 h5 ha5 B5 => ?_)
  have A5 : Al h h5 a (cat 6 (cat 4 (cat 2 (cat 1 (cat 0 (fun _ => 0) (fun _ => q0)) (fun _ => q1)) (cat 1 (fun _ => q2) t3)) (cat 1 (fun _ => q4) t4)) (fun _ => q6)) [.inl (ar 0, 96, .inl (fun _ => 0)), .inl (ar 1, 96, .inr (.inl (fun _ => 0))), .inr (6, fsX6 (fun i => [].getD i 0) (fun i => [(t3 0)].getD i 0) (fun i => [].getD i 0) (fun _ => 0)), .inl (ar 1, 4, .inr (.inl (fun _ => 0))), .inr (6, fsX6 (fun i => [].getD i 0) (fun i => [(t4 0)].getD i 0) (fun i => [].getD i 0) (fun _ => 0)), .inl (ar 1, 4, .inr (.inl (fun _ => 0))), .inl (ar 0, 240, .inl (fun _ => 0))] := A4.trans B5
  refine r_aload_n eX9_init_51 rfl ?_
  refine r_aload_n eX9_init_52 rfl ?_
  refine r_putk (fs2 := [.ref b0, .null, .null, .null, .ref q0, .ref q1, .int 0, .ref q2, .ref q4, .ref q6]) eX9_init_53 p_9_32 ha5 (Nat.le_of_ble_eq_true rfl) (by first | rfl | decide) rfl (fun q => by first | rfl | cases q) rfl (fun h6 ha6 hk6 => ?_)
  have A6 : Al h h6 a (cat 6 (cat 4 (cat 2 (cat 1 (cat 0 (fun _ => 0) (fun _ => q0)) (fun _ => q1)) (cat 1 (fun _ => q2) t3)) (cat 1 (fun _ => q4) t4)) (fun _ => q6)) [.inl (ar 0, 96, .inl (fun _ => 0)), .inl (ar 1, 96, .inr (.inl (fun _ => 0))), .inr (6, fsX6 (fun i => [].getD i 0) (fun i => [(t3 0)].getD i 0) (fun i => [].getD i 0) (fun _ => 0)), .inl (ar 1, 4, .inr (.inl (fun _ => 0))), .inr (6, fsX6 (fun i => [].getD i 0) (fun i => [(t4 0)].getD i 0) (fun i => [].getD i 0) (fun _ => 0)), .inl (ar 1, 4, .inr (.inl (fun _ => 0))), .inl (ar 0, 240, .inl (fun _ => 0))] := A5.put hk6
  refine r_aload_n eX9_init_56 rfl ?_
  refine r_aload_n eX9_init_57 rfl ?_
  refine r_putk (fs2 := [.ref b0, .ref b1, .null, .null, .ref q0, .ref q1, .int 0, .ref q2, .ref q4, .ref q6]) eX9_init_58 p_9_36 ha6 (Nat.le_of_ble_eq_true rfl) (by first | rfl | decide) rfl (fun q => by first | rfl | cases q) rfl (fun h7 ha7 hk7 => ?_)
  have A7 : Al h h7 a (cat 6 (cat 4 (cat 2 (cat 1 (cat 0 (fun _ => 0) (fun _ => q0)) (fun _ => q1)) (cat 1 (fun _ => q2) t3)) (cat 1 (fun _ => q4) t4)) (fun _ => q6)) [.inl (ar 0, 96, .inl (fun _ => 0)), .inl (ar 1, 96, .inr (.inl (fun _ => 0))), .inr (6, fsX6 (fun i => [].getD i 0) (fun i => [(t3 0)].getD i 0) (fun i => [].getD i 0) (fun _ => 0)), .inl (ar 1, 4, .inr (.inl (fun _ => 0))), .inr (6, fsX6 (fun i => [].getD i 0) (fun i => [(t4 0)].getD i 0) (fun i => [].getD i 0) (fun _ => 0)), .inl (ar 1, 4, .inr (.inl (fun _ => 0))), .inl (ar 0, 240, .inl (fun _ => 0))] := A6.put hk7
  refine r_aload_n eX9_init_61 rfl ?_
  refine r_aload_n eX9_init_62 rfl ?_
  refine r_putk (fs2 := [.ref b0, .ref b1, .ref b2, .null, .ref q0, .ref q1, .int 0, .ref q2, .ref q4, .ref q6]) eX9_init_63 p_9_40 ha7 (Nat.le_of_ble_eq_true rfl) (by first | rfl | decide) rfl (fun q => by first | rfl | cases q) rfl (fun h8 ha8 hk8 => ?_)
  have A8 : Al h h8 a (cat 6 (cat 4 (cat 2 (cat 1 (cat 0 (fun _ => 0) (fun _ => q0)) (fun _ => q1)) (cat 1 (fun _ => q2) t3)) (cat 1 (fun _ => q4) t4)) (fun _ => q6)) [.inl (ar 0, 96, .inl (fun _ => 0)), .inl (ar 1, 96, .inr (.inl (fun _ => 0))), .inr (6, fsX6 (fun i => [].getD i 0) (fun i => [(t3 0)].getD i 0) (fun i => [].getD i 0) (fun _ => 0)), .inl (ar 1, 4, .inr (.inl (fun _ => 0))), .inr (6, fsX6 (fun i => [].getD i 0) (fun i => [(t4 0)].getD i 0) (fun i => [].getD i 0) (fun _ => 0)), .inl (ar 1, 4, .inr (.inl (fun _ => 0))), .inl (ar 0, 240, .inl (fun _ => 0))] := A7.put hk8
  refine r_aload_n eX9_init_66 rfl ?_
  refine r_newN (N := 11) eX9_init_67 n_9_44 rfl (by omega) (by omega) (fun q7 hq9 => ?_)
  have hn9 : q7 ≠ a := fun z => by rw [z, ha8] at hq9; cases hq9
  obtain ⟨g9, hg9⟩ : ∃ g, g = hset h8 q7 (.inr (7, [.null, .int 0, .null, .null, .int 0, .null, .null, .null, .int 0, .int 0, .long 0])) := ⟨_, rfl⟩
  rw [← hg9]
  have hs9 : g9 q7 = some (.inr (7, [.null, .int 0, .null, .null, .int 0, .null, .null, .null, .int 0, .int 0, .long 0])) := by rw [hg9]; exact hset_s _ _ _
  have hG9 : g9 a = some (.inr (9, [.ref b0, .ref b1, .ref b2, .null, .ref q0, .ref q1, .int 0, .ref q2, .ref q4, .ref q6])) := by rw [hg9, hset_n _ _ (Ne.symm hn9)]; exact ha8
  refine r_dup eX9_init_70 rfl ?_
  refine r_aload_n eX9_init_71 rfl ?_
  refine r_init (As := [.ref b0]) (rest := [.ref q7, .ref a]) (b := q7) (mc := 5) (ms := 481) eX9_init_72 k_9_46 rfl rfl (Nat.le_of_ble_eq_true rfl) (Nat.le_of_ble_eq_true rfl) (by omega) (by omega) (c_X7_init hs9 (Nat.le_refl _) (Nat.le_refl _)) (fun v9 m9 z9 => ?_)
  obtain ⟨rfl, t9, C9, hc9⟩ := z9
  have hb9 : m9 a = some (.inr (9, [.ref b0, .ref b1, .ref b2, .null, .ref q0, .ref q1, .int 0, .ref q2, .ref q4, .ref q6])) := C9.2.1 a _ (Ne.symm hn9) hG9
  refine r_putk (fs2 := [.ref b0, .ref b1, .ref b2, .ref q7, .ref q0, .ref q1, .int 0, .ref q2, .ref q4, .ref q6]) eX9_init_75 p_9_49 hb9 (Nat.le_of_ble_eq_true rfl) rfl rfl (fun q => by first | rfl | cases q) rfl (fun h9 ha9 hk9 => ?_)
  have B9 := Al.obj hq9 hn9 hg9 C9 hc9 ⟨_, ha8⟩ hk9
  have A9 : Al h h9 a (cat 7 (cat 6 (cat 4 (cat 2 (cat 1 (cat 0 (fun _ => 0) (fun _ => q0)) (fun _ => q1)) (cat 1 (fun _ => q2) t3)) (cat 1 (fun _ => q4) t4)) (fun _ => q6)) (cat 1 (fun _ => q7) t9)) [.inl (ar 0, 96, .inl (fun _ => 0)), .inl (ar 1, 96, .inr (.inl (fun _ => 0))), .inr (6, fsX6 (fun i => [].getD i 0) (fun i => [(t3 0)].getD i 0) (fun i => [].getD i 0) (fun _ => 0)), .inl (ar 1, 4, .inr (.inl (fun _ => 0))), .inr (6, fsX6 (fun i => [].getD i 0) (fun i => [(t4 0)].getD i 0) (fun i => [].getD i 0) (fun _ => 0)), .inl (ar 1, 4, .inr (.inl (fun _ => 0))), .inl (ar 0, 240, .inl (fun _ => 0)), .inr (7, fsX7 (fun i => [(b0)].getD i 0) (fun i => [(t9 0), (t9 1), (t9 2), (t9 3), (t9 4)].getD i 0) (fun i => [(0 : Int32), (0 : Int32), (0 : Int32), (0 : Int32)].getD i 0) (fun _ => 0)), .inl (ar 0, 120, .inl (fun _ => 0)), .inl (ar 1, 120, .inr (.inl (fun _ => 0))), .inl (ar 0, 120, .inl (fun _ => 0)), .inl (ar 1, 120, .inr (.inl (fun _ => 0))), .inl (ar 0, 1, .inl (fun _ => 0))] := A8.trans B9
  exact r_vret eX9_init_78 rfl ⟨rfl, _, A9, ha9⟩
theorem c_X4_init {a b0 : Nat} (ha : h a = some (.inr (4, [.null, .null, .null, .null, .null, .null, .null, .null]))) (hm : 8 ≤ mc) (hs : 806 ≤ ms) : CT ar ro sa mX4_init (d + 1) [.ref a, .ref b0] h mc ms (Ex (fun v h' => v = none ∧ ∃ r : Nat → Nat, Al h h' a r [.inl (ar 0, 240, .inl (fun _ => 0)), .inl (ar 0, 240, .inl (fun _ => 0)), .inl (ar 0, 1, .inl (fun _ => 0)), .inr (6, fsX6 (fun i => [].getD i 0) (fun i => [(r 4)].getD i 0) (fun i => [].getD i 0) (fun _ => 0)), .inl (ar 1, 4, .inr (.inl (fun _ => 0))), .inl (ar 0, 240, .inl (fun _ => 0)), .inl (ar 0, 40, .inl (fun _ => 0)), .inl (ar 0, 40, .inl (fun _ => 0))] ∧ h' a = some (.inr (4, fsX4 (fun i => [(b0), (r 3)].getD i 0) (fun i => [(r 0), (r 1), (r 2), (r 5), (r 6), (r 7)].getD i 0) (fun i => [].getD i 0) (fun _ => 0)))) No) := by
  show WP ar ro sa mX4_init _ 0 [some (.ref a), some (.ref b0)] [] h mc ms _
  have A0 : Al h h a (fun _ => 0) [] := Al.nil
  refine r_aload_n eX4_init_0 rfl ?_
  refine r_objinit eX4_init_1 ob_4 ob1 ob2 (by decide) ?_
  refine r_aload_n eX4_init_4 rfl ?_
  refine r_sipush (v := 240) eX4_init_5 (by decide) ?_
  refine r_mki (N := 240) (fs2 := fun q => [.null, .ref q, .null, .null, .null, .null, .null, .null]) eX4_init_8 eX4_init_10 p_4_9 ha (Nat.le_of_ble_eq_true rfl) (fun _ => ⟨rfl, rfl⟩) (fun _ => rfl) (fun _ => rfl) (by decide) (by decide) (by decide) (by omega) (by omega) (fun q0 h1 ha1 B1 => ?_)
  have A1 : Al h h1 a (cat 0 (fun _ => 0) (fun _ => q0)) [.inl (ar 0, 240, .inl (fun _ => 0))] := A0.trans B1
  refine r_aload_n eX4_init_13 rfl ?_
  refine r_sipush (v := 240) eX4_init_14 (by decide) ?_
  refine r_mki (N := 240) (fs2 := fun q => [.null, .ref q0, .ref q, .null, .null, .null, .null, .null]) eX4_init_17 eX4_init_19 p_4_15 ha1 (Nat.le_of_ble_eq_true rfl) (fun _ => ⟨rfl, rfl⟩) (fun _ => rfl) (fun _ => rfl) (by decide) (by decide) (by decide) (by omega) (by omega) (fun q1 h2 ha2 B2 => ?_)
  have A2 : Al h h2 a (cat 1 (cat 0 (fun _ => 0) (fun _ => q0)) (fun _ => q1)) [.inl (ar 0, 240, .inl (fun _ => 0)), .inl (ar 0, 240, .inl (fun _ => 0))] := A1.trans B2
  refine r_aload_n eX4_init_22 rfl ?_
  refine r_iconst (v := 1) eX4_init_23 (by decide) ?_
  refine r_mki (N := 1) (fs2 := fun q => [.null, .ref q0, .ref q1, .ref q, .null, .null, .null, .null]) eX4_init_24 eX4_init_26 p_4_18 ha2 (Nat.le_of_ble_eq_true rfl) (fun _ => ⟨rfl, rfl⟩) (fun _ => rfl) (fun _ => rfl) (by decide) (by decide) (by decide) (by omega) (by omega) (fun q2 h3 ha3 B3 => ?_)
  have A3 : Al h h3 a (cat 2 (cat 1 (cat 0 (fun _ => 0) (fun _ => q0)) (fun _ => q1)) (fun _ => q2)) [.inl (ar 0, 240, .inl (fun _ => 0)), .inl (ar 0, 240, .inl (fun _ => 0)), .inl (ar 0, 1, .inl (fun _ => 0))] := A2.trans B3
  refine r_aload_n eX4_init_29 rfl ?_
  refine r_newN (N := 1) eX4_init_30 n_4_21 rfl (by omega) (by omega) (fun q3 hq4 => ?_)
  have hn4 : q3 ≠ a := fun z => by rw [z, ha3] at hq4; cases hq4
  obtain ⟨g4, hg4⟩ : ∃ g, g = hset h3 q3 (.inr (6, [.null])) := ⟨_, rfl⟩
  rw [← hg4]
  have hs4 : g4 q3 = some (.inr (6, [.null])) := by rw [hg4]; exact hset_s _ _ _
  have hG4 : g4 a = some (.inr (4, [.null, .ref q0, .ref q1, .ref q2, .null, .null, .null, .null])) := by rw [hg4, hset_n _ _ (Ne.symm hn4)]; exact ha3
  refine r_dup eX4_init_33 rfl ?_
  refine r_init (As := []) (rest := [.ref q3, .ref a]) (b := q3) (mc := 1) (ms := 4) eX4_init_34 k_4_23 rfl rfl (Nat.le_of_ble_eq_true rfl) (Nat.le_of_ble_eq_true rfl) (by omega) (by omega) (c_X6_init hs4 (Nat.le_refl _) (Nat.le_refl _)) (fun v4 m4 z4 => ?_)
  obtain ⟨rfl, t4, C4, hc4⟩ := z4
  have hb4 : m4 a = some (.inr (4, [.null, .ref q0, .ref q1, .ref q2, .null, .null, .null, .null])) := C4.2.1 a _ (Ne.symm hn4) hG4
  refine r_putk (fs2 := [.null, .ref q0, .ref q1, .ref q2, .ref q3, .null, .null, .null]) eX4_init_37 p_4_24 hb4 (Nat.le_of_ble_eq_true rfl) rfl rfl (fun q => by first | rfl | cases q) rfl (fun h4 ha4 hk4 => ?_)
  have B4 := Al.obj hq4 hn4 hg4 C4 hc4 ⟨_, ha3⟩ hk4
  have A4 : Al h h4 a (cat 3 (cat 2 (cat 1 (cat 0 (fun _ => 0) (fun _ => q0)) (fun _ => q1)) (fun _ => q2)) (cat 1 (fun _ => q3) t4)) [.inl (ar 0, 240, .inl (fun _ => 0)), .inl (ar 0, 240, .inl (fun _ => 0)), .inl (ar 0, 1, .inl (fun _ => 0)), .inr (6, fsX6 (fun i => [].getD i 0) (fun i => [(t4 0)].getD i 0) (fun i => [].getD i 0) (fun _ => 0)), .inl (ar 1, 4, .inr (.inl (fun _ => 0)))] := A3.trans B4
  refine r_aload_n eX4_init_40 rfl ?_
  refine r_sipush (v := 240) eX4_init_41 (by decide) ?_
  refine r_mki (N := 240) (fs2 := fun q => [.null, .ref q0, .ref q1, .ref q2, .ref q3, .ref q, .null, .null]) eX4_init_44 eX4_init_46 p_4_28 ha4 (Nat.le_of_ble_eq_true rfl) (fun _ => ⟨rfl, rfl⟩) (fun _ => rfl) (fun _ => rfl) (by decide) (by decide) (by decide) (by omega) (by omega) (fun q5 h5 ha5 B5 => ?_)
  have A5 : Al h h5 a (cat 5 (cat 3 (cat 2 (cat 1 (cat 0 (fun _ => 0) (fun _ => q0)) (fun _ => q1)) (fun _ => q2)) (cat 1 (fun _ => q3) t4)) (fun _ => q5)) [.inl (ar 0, 240, .inl (fun _ => 0)), .inl (ar 0, 240, .inl (fun _ => 0)), .inl (ar 0, 1, .inl (fun _ => 0)), .inr (6, fsX6 (fun i => [].getD i 0) (fun i => [(t4 0)].getD i 0) (fun i => [].getD i 0) (fun _ => 0)), .inl (ar 1, 4, .inr (.inl (fun _ => 0))), .inl (ar 0, 240, .inl (fun _ => 0))] := A4.trans B5
  refine r_aload_n eX4_init_49 rfl ?_
  refine r_bipush (v := 40) eX4_init_50 (by decide) ?_
  refine r_mki (N := 40) (fs2 := fun q => [.null, .ref q0, .ref q1, .ref q2, .ref q3, .ref q5, .ref q, .null]) eX4_init_52 eX4_init_54 p_4_31 ha5 (Nat.le_of_ble_eq_true rfl) (fun _ => ⟨rfl, rfl⟩) (fun _ => rfl) (fun _ => rfl) (by decide) (by decide) (by decide) (by omega) (by omega) (fun q6 h6 ha6 B6 => ?_)
  have A6 : Al h h6 a (cat 6 (cat 5 (cat 3 (cat 2 (cat 1 (cat 0 (fun _ => 0) (fun _ => q0)) (fun _ => q1)) (fun _ => q2)) (cat 1 (fun _ => q3) t4)) (fun _ => q5)) (fun _ => q6)) [.inl (ar 0, 240, .inl (fun _ => 0)), .inl (ar 0, 240, .inl (fun _ => 0)), .inl (ar 0, 1, .inl (fun _ => 0)), .inr (6, fsX6 (fun i => [].getD i 0) (fun i => [(t4 0)].getD i 0) (fun i => [].getD i 0) (fun _ => 0)), .inl (ar 1, 4, .inr (.inl (fun _ => 0))), .inl (ar 0, 240, .inl (fun _ => 0)), .inl (ar 0, 40, .inl (fun _ => 0))] := A5.trans B6
  refine r_aload_n eX4_init_57 rfl ?_
  refine r_bipush (v := 40) eX4_init_58 (by decide) ?_
  refine r_mki (N := 40) (fs2 := fun q => [.null, .ref q0, .ref q1, .ref q2, .ref q3, .ref q5, .ref q6, .ref q]) eX4_init_60 eX4_init_62 p_4_34 ha6 (Nat.le_of_ble_eq_true rfl) (fun _ => ⟨rfl, rfl⟩) (fun _ => rfl) (fun _ => rfl) (by decide) (by decide) (by decide) (by omega) (by omega) (fun q7 h7 ha7 B7 => ?_)
  have A7 : Al h h7 a (cat 7 (cat 6 (cat 5 (cat 3 (cat 2 (cat 1 (cat 0 (fun _ => 0) (fun _ => q0)) (fun _ => q1)) (fun _ => q2)) (cat 1 (fun _ => q3) t4)) (fun _ => q5)) (fun _ => q6)) (fun _ => q7)) [.inl (ar 0, 240, .inl (fun _ => 0)), .inl (ar 0, 240, .inl (fun _ => 0)), .inl (ar 0, 1, .inl (fun _ => 0)), .inr (6, fsX6 (fun i => [].getD i 0) (fun i => [(t4 0)].getD i 0) (fun i => [].getD i 0) (fun _ => 0)), .inl (ar 1, 4, .inr (.inl (fun _ => 0))), .inl (ar 0, 240, .inl (fun _ => 0)), .inl (ar 0, 40, .inl (fun _ => 0)), .inl (ar 0, 40, .inl (fun _ => 0))] := A6.trans B7
  refine r_aload_n eX4_init_65 rfl ?_
  refine r_aload_n eX4_init_66 rfl ?_
  refine r_putk (fs2 := [.ref b0, .ref q0, .ref q1, .ref q2, .ref q3, .ref q5, .ref q6, .ref q7]) eX4_init_67 p_4_37 ha7 (Nat.le_of_ble_eq_true rfl) (by first | rfl | decide) rfl (fun q => by first | rfl | cases q) rfl (fun h8 ha8 hk8 => ?_)
  have A8 : Al h h8 a (cat 7 (cat 6 (cat 5 (cat 3 (cat 2 (cat 1 (cat 0 (fun _ => 0) (fun _ => q0)) (fun _ => q1)) (fun _ => q2)) (cat 1 (fun _ => q3) t4)) (fun _ => q5)) (fun _ => q6)) (fun _ => q7)) [.inl (ar 0, 240, .inl (fun _ => 0)), .inl (ar 0, 240, .inl (fun _ => 0)), .inl (ar 0, 1, .inl (fun _ => 0)), .inr (6, fsX6 (fun i => [].getD i 0) (fun i => [(t4 0)].getD i 0) (fun i => [].getD i 0) (fun _ => 0)), .inl (ar 1, 4, .inr (.inl (fun _ => 0))), .inl (ar 0, 240, .inl (fun _ => 0)), .inl (ar 0, 40, .inl (fun _ => 0)), .inl (ar 0, 40, .inl (fun _ => 0))] := A7.put hk8
  exact r_vret eX4_init_70 rfl ⟨rfl, _, A8, ha8⟩
end INITS
end
section
/-! BurntOak$Land: what its cells hold; isTaken, addPlace -/
def fsLand (n w k : Int32) (r : Nat → Nat) : List Value := [.int n, .ref (r 0), .ref (r 1), .int w, .ref (r 2), .ref (r 3), .ref (r 4), .ref (r 5), .ref (r 6), .ref (r 7), .ref (r 8), .int k, .ref (r 9), .ref (r 10), .ref (r 11), .ref (r 12), .ref (r 13)]
section LAND
variable {ar : Nat → ClassId} {ro : Nat → Option (Nat × (Nat → Int32))} {sa : Nat → Nat} {d : Nat} {h : Hp} {mc ms : Nat}
theorem c_isTaken {n w k : Int32} {r : Nat → Nat} {fx fy : Nat → Int32} {a N : Nat} (hL : h a = some (.inr (3, fsLand n w k r))) (hx : h (r 0) = some (.inl (ar 0, 40, .inl fx))) (hy : h (r 1) = some (.inl (ar 0, 40, .inl fy))) (hn : n = nI N) (hN : N ≤ 40) (x y : Int32) :
    CT ar ro sa mX3_isTaken d [.ref a, .int x, .int y] h mc ms (Ex (fun v h' => h' = h ∧ ((v = some (.int 1) ∧ ∃ p, p < N ∧ fx p = x ∧ fy p = y) ∨ (v = some (.int 0) ∧ ∀ p, p < N → ¬ (fx p = x ∧ fy p = y)))) No) := by
  have loop : ∀ (g i : Nat), N - i = g → i ≤ N → (∀ p, p < i → ¬ (fx p = x ∧ fy p = y)) → WP ar ro sa mX3_isTaken d 2 [some (.ref a), some (.int x), some (.int y), some (.int (nI i))] [] h mc ms (Ex (fun v h' => h' = h ∧ ((v = some (.int 1) ∧ ∃ p, p < N ∧ fx p = x ∧ fy p = y) ∨ (v = some (.int 0) ∧ ∀ p, p < N → ¬ (fx p = x ∧ fy p = y)))) No) := by
    intro g
    induction g with
    | zero =>
      intro i hg hi hinv
      have e : i = N := by omega
      subst e
      refine r_iload_n eX3_isTaken_2 rfl ?_
      refine r_aload_n eX3_isTaken_3 rfl ?_
      refine r_getf eX3_isTaken_4 f_3_55 (by assumption) rfl ?_
      refine r_icmp_ge (t := 38) eX3_isTaken_7 (by decide) (fun c7 => ?_) (fun c7 => ?_)
      · refine r_iconst (v := 0) eX3_isTaken_38 (by decide) ?_
        exact r_zret eX3_isTaken_39 rfl (by first | rfl | assumption | decide) (⟨rfl, Or.inr ⟨rfl, hinv⟩⟩)
      · exact absurd (by rw [hn]; exact nI_le (Nat.le_refl _) (by omega)) c7
    | succ g ih =>
      intro i hg hi hinv
      have hlt : i < N := by omega
      have hcl : (nI i).toNatClampNeg = i := nI_clamp (by omega)
      have hin : vp_in (nI i) 40 := vp_in_nI (by omega) (by omega)
      refine r_iload_n eX3_isTaken_2 rfl ?_
      refine r_aload_n eX3_isTaken_3 rfl ?_
      refine r_getf eX3_isTaken_4 f_3_55 (by assumption) rfl ?_
      refine r_icmp_ge (t := 38) eX3_isTaken_7 (by decide) (fun c7 => ?_) (fun c7 => ?_)
      · exact absurd c7 (by rw [hn]; exact nI_ge hlt (by omega))
      · refine r_aload_n eX3_isTaken_10 rfl ?_
        refine r_getf eX3_isTaken_11 f_3_9 hL rfl ?_
        refine r_iload_n eX3_isTaken_14 rfl ?_
        refine r_iald eX3_isTaken_15 hx hin ?_
        refine r_iload_n eX3_isTaken_16 rfl ?_
        refine r_icmp_ne (t := 32) eX3_isTaken_17 (by decide) (fun c17 => ?_) (fun c17 => ?_)
        · refine r_iinc (v := 1) (lv' := [_, _, _, _]) eX3_isTaken_32 rfl (by decide) rfl ?_
          refine r_goto (t := 2) eX3_isTaken_35 (by decide) ?_
          rw [nI_1]; exact ih (i + 1) (by omega) (by omega) (lt_s hinv (fun q => c17 (by rw [hcl]; exact q.1)))
        · refine r_aload_n eX3_isTaken_20 rfl ?_
          refine r_getf eX3_isTaken_21 f_3_15 hL rfl ?_
          refine r_iload_n eX3_isTaken_24 rfl ?_
          refine r_iald eX3_isTaken_25 hy hin ?_
          refine r_iload_n eX3_isTaken_26 rfl ?_
          refine r_icmp_ne (t := 32) eX3_isTaken_27 (by decide) (fun c27 => ?_) (fun c27 => ?_)
          · refine r_iinc (v := 1) (lv' := [_, _, _, _]) eX3_isTaken_32 rfl (by decide) rfl ?_
            refine r_goto (t := 2) eX3_isTaken_35 (by decide) ?_
            rw [nI_1]; exact ih (i + 1) (by omega) (by omega) (lt_s hinv (fun q => c27 (by rw [hcl]; exact q.2)))
          · refine r_iconst (v := 1) eX3_isTaken_30 (by decide) ?_
            exact r_zret eX3_isTaken_31 rfl (by first | rfl | assumption | decide) (⟨rfl, Or.inl ⟨rfl, i, hlt, by rw [← hcl]; exact Classical.not_not.mp c17, by rw [← hcl]; exact Classical.not_not.mp c27⟩⟩)
  show WP ar ro sa mX3_isTaken d 0 [some (.ref a), some (.int x), some (.int y), none] [] h mc ms _
  refine r_iconst (v := 0) eX3_isTaken_0 (by decide) ?_
  refine r_istore_n (lv' := [_, _, _, _]) eX3_isTaken_1 (Nat.le_of_ble_eq_true rfl) rfl ?_
  exact loop N 0 (by omega) (by omega) lt_0
theorem c_needPlace {fs : List Value} {n w k : Int32} {r : Nat → Nat} {a b N : Nat} (hO : h a = some (.inr (11, .ref b :: fs))) (hL : h b = some (.inr (3, fsLand n w k r))) (hn : n = nI N) (hN : N ≤ 40) (x : Int32) (h1 : 1 ≤ mc) (h2 : 6 ≤ ms) :
    CT ar ro sa mX11_needPlace d [.ref a, .int x] h mc ms (Ex (fun v h' => h' = h ∧ v = none ∧ ¬ x < 0 ∧ x < n) (fun E h' => h' = h ∧ E = "java/util/NoSuchElementException" ∧ (x < 0 ∨ n ≤ x))) := by
  show WP ar ro sa mX11_needPlace d 0 [some (.ref a), some (.int x)] [] h mc ms _
  refine r_iload_n eX11_needPlace_0 rfl ?_
  refine r_if_lt (t := 15) eX11_needPlace_1 (by decide) (fun c => ?_) (fun c => ?_)
  · exact r_throw th_X11_needPlace_15 (by first | decide | simp) (by omega) (by omega) (⟨rfl, rfl, Or.inl c⟩)
  · refine r_iload_n eX11_needPlace_4 rfl ?_
    refine r_aload_n eX11_needPlace_5 rfl ?_
    refine r_getf eX11_needPlace_6 f_11_12 hO rfl ?_
    refine r_getf eX11_needPlace_9 f_11_426 hL rfl ?_
    refine r_icmp_lt (t := 23) eX11_needPlace_12 (by decide) (fun c2 => ?_) (fun c2 => ?_)
    · exact r_vret eX11_needPlace_23 rfl (⟨rfl, rfl, c, c2⟩)
    · exact r_throw th_X11_needPlace_15 (by first | decide | simp) (by omega) (by omega) (⟨rfl, rfl, Or.inr (Int32.not_lt.mp c2)⟩)
end LAND
end
section
/-! the reference's constructor -/
section INITM
variable {ar : Nat → ClassId} {ro : Nat → Option (Nat × (Nat → Int32))} {sa : Nat → Nat} {d : Nat} {h : Hp} {mc ms : Nat}
set_option maxRecDepth 100000 in
set_option maxHeartbeats 4000000 in
theorem c_X12_init {a : Nat} (ha : h a = some (.inr (12, [.null, .null, .null, .int 0, .int 0, .null, .null, .null, .null, .null, .int 0, .int 0, .int 0, .int 0, .int 0, .int 0, .int 0, .int 0, .int 0, .int 0, .null, .null, .null, .null, .null, .null, .null, .null, .null, .null, .null, .null, .null, .null, .null, .int 0, .int 0, .null, .null, .null]))) (hm : 26 ≤ mc) (hs : 18863 ≤ ms) : CT ar ro sa mX12_init d [.ref a] h mc ms (Ex (fun v h' => v = none ∧ ∃ r : Nat → Nat, Al h h' a r [.inl (ar 0, 2988, .inl (fun _ => 0)), .inl (ar 0, 8964, .inl (fun _ => 0)), .inl (ar 2, 3, .inl (fun _ => 0)), .inl (ar 1, 4800, .inr (.inl (fun _ => 0))), .inl (ar 1, 384, .inr (.inl (fun _ => 0))), .inl (ar 2, 96, .inl (fun _ => 0)), .inl (ar 0, 120, .inl (fun _ => 0)), .inl (ar 0, 200, .inl (fun _ => 0)), .inl (ar 0, 173, .inl (fun _ => 0)), .inl (ar 1, 4, .inr (.inl (fun _ => 0))), .inl (ar 1, 4, .inr (.inl (fun _ => 0))), .inl (ar 1, 4, .inr (.inl (fun _ => 0))), .inl (ar 1, 164, .inr (.inl (fun _ => 0))), .inl (ar 1, 164, .inr (.inl (fun _ => 0))), .inl (ar 1, 4, .inr (.inl (fun _ => 0))), .inl (ar 1, 4, .inr (.inl (fun _ => 0))), .inl (ar 2, 40, .inl (fun _ => 0)), .inl (ar 2, 40, .inl (fun _ => 0)), .inl (ar 0, 240, .inl (fun _ => 0)), .inl (ar 0, 240, .inl (fun _ => 0)), .inl (ar 0, 40, .inl (fun _ => 0)), .inl (ar 1, 128, .inr (.inl (fun _ => 0))), .inl (ar 0, 3, .inl (fun _ => 0)), .inl (ar 0, 4, .inl (upd (upd (upd (upd (fun _ => 0) 0 (-1)) 1 (-1)) 2 (-1)) 3 (-1))), .inl (ar 0, 4, .inl (fun _ => 0)), .inl (ar 1, 48, .inr (.inl (fun _ => 0)))] ∧ h' a = some (.inr (12, fsX12 (fun i => [].getD i 0) (fun i => [(r 0), (r 1), (r 2), (r 3), (r 4), (r 5), (r 6), (r 7), (r 8), (r 9), (r 10), (r 11), (r 12), (r 13), (r 14), (r 15), (r 16), (r 17), (r 18), (r 19), (r 20), (r 21), (r 22), (r 23), (r 24), (r 25)].getD i 0) (fun i => [(0 : Int32), ((-1) : Int32), (0 : Int32), (0 : Int32), (0 : Int32), (0 : Int32), (0 : Int32), (0 : Int32), (0 : Int32), (0 : Int32), (0 : Int32), ((-1) : Int32), (0 : Int32), (0 : Int32)].getD i 0) (fun _ => 0)))) No) := by
  show WP ar ro sa mX12_init _ 0 [some (.ref a)] [] h mc ms _
  have A0 : Al h h a (fun _ => 0) [] := Al.nil
  refine r_aload_n eX12_init_0 rfl ?_
  refine r_objinit eX12_init_1 ob_12 ob1 ob2 (by decide) ?_
  refine r_aload_n eX12_init_4 rfl ?_
  refine r_sipush (v := 2988) eX12_init_5 (by decide) ?_
  refine r_mki (N := 2988) (fs2 := fun q => [.ref q, .null, .null, .int 0, .int 0, .null, .null, .null, .null, .null, .int 0, .int 0, .int 0, .int 0, .int 0, .int 0, .int 0, .int 0, .int 0, .int 0, .null, .null, .null, .null, .null, .null, .null, .null, .null, .null, .null, .null, .null, .null, .null, .int 0, .int 0, .null, .null, .null]) eX12_init_8 eX12_init_10 p_12_9 ha (Nat.le_of_ble_eq_true rfl) (fun _ => ⟨rfl, rfl⟩) (fun _ => rfl) (fun _ => rfl) (by decide) (by decide) (by decide) (by omega) (by omega) (fun q0 h1 ha1 B1 => ?_)
  have A1 : Al h h1 a (cat 0 (fun _ => 0) (fun _ => q0)) [.inl (ar 0, 2988, .inl (fun _ => 0))] := A0.trans B1
  refine r_aload_n eX12_init_13 rfl ?_
  refine r_sipush (v := 8964) eX12_init_14 (by decide) ?_
  refine r_mki (N := 8964) (fs2 := fun q => [.ref q0, .ref q, .null, .int 0, .int 0, .null, .null, .null, .null, .null, .int 0, .int 0, .int 0, .int 0, .int 0, .int 0, .int 0, .int 0, .int 0, .int 0, .null, .null, .null, .null, .null, .null, .null, .null, .null, .null, .null, .null, .null, .null, .null, .int 0, .int 0, .null, .null, .null]) eX12_init_17 eX12_init_19 p_12_13 ha1 (Nat.le_of_ble_eq_true rfl) (fun _ => ⟨rfl, rfl⟩) (fun _ => rfl) (fun _ => rfl) (by decide) (by decide) (by decide) (by omega) (by omega) (fun q1 h2 ha2 B2 => ?_)
  have A2 : Al h h2 a (cat 1 (cat 0 (fun _ => 0) (fun _ => q0)) (fun _ => q1)) [.inl (ar 0, 2988, .inl (fun _ => 0)), .inl (ar 0, 8964, .inl (fun _ => 0))] := A1.trans B2
  refine r_aload_n eX12_init_22 rfl ?_
  refine r_iconst (v := 3) eX12_init_23 (by decide) ?_
  refine r_mkz (N := 3) (fs2 := fun q => [.ref q0, .ref q1, .ref q, .int 0, .int 0, .null, .null, .null, .null, .null, .int 0, .int 0, .int 0, .int 0, .int 0, .int 0, .int 0, .int 0, .int 0, .int 0, .null, .null, .null, .null, .null, .null, .null, .null, .null, .null, .null, .null, .null, .null, .null, .int 0, .int 0, .null, .null, .null]) eX12_init_24 eX12_init_26 p_12_16 ha2 (Nat.le_of_ble_eq_true rfl) (fun _ => ⟨rfl, rfl⟩) (fun _ => rfl) (fun _ => rfl) (by decide) (by decide) (by decide) (by omega) (by omega) (fun q2 h3 ha3 B3 => ?_)
  have A3 : Al h h3 a (cat 2 (cat 1 (cat 0 (fun _ => 0) (fun _ => q0)) (fun _ => q1)) (fun _ => q2)) [.inl (ar 0, 2988, .inl (fun _ => 0)), .inl (ar 0, 8964, .inl (fun _ => 0)), .inl (ar 2, 3, .inl (fun _ => 0))] := A2.trans B3
  refine r_aload_n eX12_init_29 rfl ?_
  refine r_iconst (v := (-1)) eX12_init_30 (by decide) ?_
  refine r_putk (fs2 := [.ref q0, .ref q1, .ref q2, .int 0, .int (-1), .null, .null, .null, .null, .null, .int 0, .int 0, .int 0, .int 0, .int 0, .int 0, .int 0, .int 0, .int 0, .int 0, .null, .null, .null, .null, .null, .null, .null, .null, .null, .null, .null, .null, .null, .null, .null, .int 0, .int 0, .null, .null, .null]) eX12_init_31 p_12_20 ha3 (Nat.le_of_ble_eq_true rfl) (by first | rfl | decide) rfl (fun q => by first | rfl | cases q) rfl (fun h4 ha4 hk4 => ?_)
  have A4 : Al h h4 a (cat 2 (cat 1 (cat 0 (fun _ => 0) (fun _ => q0)) (fun _ => q1)) (fun _ => q2)) [.inl (ar 0, 2988, .inl (fun _ => 0)), .inl (ar 0, 8964, .inl (fun _ => 0)), .inl (ar 2, 3, .inl (fun _ => 0))] := A3.put hk4
  refine r_aload_n eX12_init_34 rfl ?_
  refine r_sipush (v := 4800) eX12_init_35 (by decide) ?_
  refine r_mkl (N := 4800) (fs2 := fun q => [.ref q0, .ref q1, .ref q2, .int 0, .int (-1), .ref q, .null, .null, .null, .null, .int 0, .int 0, .int 0, .int 0, .int 0, .int 0, .int 0, .int 0, .int 0, .int 0, .null, .null, .null, .null, .null, .null, .null, .null, .null, .null, .null, .null, .null, .null, .null, .int 0, .int 0, .null, .null, .null]) eX12_init_38 eX12_init_40 p_12_24 ha4 (Nat.le_of_ble_eq_true rfl) (fun _ => ⟨rfl, rfl⟩) (fun _ => rfl) (fun _ => rfl) (by decide) (by decide) (by decide) (by omega) (by omega) (fun q3 h5 ha5 B5 => ?_)
  have A5 : Al h h5 a (cat 3 (cat 2 (cat 1 (cat 0 (fun _ => 0) (fun _ => q0)) (fun _ => q1)) (fun _ => q2)) (fun _ => q3)) [.inl (ar 0, 2988, .inl (fun _ => 0)), .inl (ar 0, 8964, .inl (fun _ => 0)), .inl (ar 2, 3, .inl (fun _ => 0)), .inl (ar 1, 4800, .inr (.inl (fun _ => 0)))] := A4.trans B5
  refine r_aload_n eX12_init_43 rfl ?_
  refine r_sipush (v := 384) eX12_init_44 (by decide) ?_
  refine r_mkl (N := 384) (fs2 := fun q => [.ref q0, .ref q1, .ref q2, .int 0, .int (-1), .ref q3, .ref q, .null, .null, .null, .int 0, .int 0, .int 0, .int 0, .int 0, .int 0, .int 0, .int 0, .int 0, .int 0, .null, .null, .null, .null, .null, .null, .null, .null, .null, .null, .null, .null, .null, .null, .null, .int 0, .int 0, .null, .null, .null]) eX12_init_47 eX12_init_49 p_12_28 ha5 (Nat.le_of_ble_eq_true rfl) (fun _ => ⟨rfl, rfl⟩) (fun _ => rfl) (fun _ => rfl) (by decide) (by decide) (by decide) (by omega) (by omega) (fun q4 h6 ha6 B6 => ?_)
  have A6 : Al h h6 a (cat 4 (cat 3 (cat 2 (cat 1 (cat 0 (fun _ => 0) (fun _ => q0)) (fun _ => q1)) (fun _ => q2)) (fun _ => q3)) (fun _ => q4)) [.inl (ar 0, 2988, .inl (fun _ => 0)), .inl (ar 0, 8964, .inl (fun _ => 0)), .inl (ar 2, 3, .inl (fun _ => 0)), .inl (ar 1, 4800, .inr (.inl (fun _ => 0))), .inl (ar 1, 384, .inr (.inl (fun _ => 0)))] := A5.trans B6
  refine r_aload_n eX12_init_52 rfl ?_
  refine r_bipush (v := 96) eX12_init_53 (by decide) ?_
  refine r_mkz (N := 96) (fs2 := fun q => [.ref q0, .ref q1, .ref q2, .int 0, .int (-1), .ref q3, .ref q4, .ref q, .null, .null, .int 0, .int 0, .int 0, .int 0, .int 0, .int 0, .int 0, .int 0, .int 0, .int 0, .null, .null, .null, .null, .null, .null, .null, .null, .null, .null, .null, .null, .null, .null, .null, .int 0, .int 0, .null, .null, .null]) eX12_init_55 eX12_init_57 p_12_31 ha6 (Nat.le_of_ble_eq_true rfl) (fun _ => ⟨rfl, rfl⟩) (fun _ => rfl) (fun _ => rfl) (by decide) (by decide) (by decide) (by omega) (by omega) (fun q5 h7 ha7 B7 => ?_)
  have A7 : Al h h7 a (cat 5 (cat 4 (cat 3 (cat 2 (cat 1 (cat 0 (fun _ => 0) (fun _ => q0)) (fun _ => q1)) (fun _ => q2)) (fun _ => q3)) (fun _ => q4)) (fun _ => q5)) [.inl (ar 0, 2988, .inl (fun _ => 0)), .inl (ar 0, 8964, .inl (fun _ => 0)), .inl (ar 2, 3, .inl (fun _ => 0)), .inl (ar 1, 4800, .inr (.inl (fun _ => 0))), .inl (ar 1, 384, .inr (.inl (fun _ => 0))), .inl (ar 2, 96, .inl (fun _ => 0))] := A6.trans B7
  refine r_aload_n eX12_init_60 rfl ?_
  refine r_bipush (v := 120) eX12_init_61 (by decide) ?_
  refine r_mki (N := 120) (fs2 := fun q => [.ref q0, .ref q1, .ref q2, .int 0, .int (-1), .ref q3, .ref q4, .ref q5, .ref q, .null, .int 0, .int 0, .int 0, .int 0, .int 0, .int 0, .int 0, .int 0, .int 0, .int 0, .null, .null, .null, .null, .null, .null, .null, .null, .null, .null, .null, .null, .null, .null, .null, .int 0, .int 0, .null, .null, .null]) eX12_init_63 eX12_init_65 p_12_34 ha7 (Nat.le_of_ble_eq_true rfl) (fun _ => ⟨rfl, rfl⟩) (fun _ => rfl) (fun _ => rfl) (by decide) (by decide) (by decide) (by omega) (by omega) (fun q6 h8 ha8 B8 => ?_)
  have A8 : Al h h8 a (cat 6 (cat 5 (cat 4 (cat 3 (cat 2 (cat 1 (cat 0 (fun _ => 0) (fun _ => q0)) (fun _ => q1)) (fun _ => q2)) (fun _ => q3)) (fun _ => q4)) (fun _ => q5)) (fun _ => q6)) [.inl (ar 0, 2988, .inl (fun _ => 0)), .inl (ar 0, 8964, .inl (fun _ => 0)), .inl (ar 2, 3, .inl (fun _ => 0)), .inl (ar 1, 4800, .inr (.inl (fun _ => 0))), .inl (ar 1, 384, .inr (.inl (fun _ => 0))), .inl (ar 2, 96, .inl (fun _ => 0)), .inl (ar 0, 120, .inl (fun _ => 0))] := A7.trans B8
  refine r_aload_n eX12_init_68 rfl ?_
  refine r_sipush (v := 200) eX12_init_69 (by decide) ?_
  refine r_mki (N := 200) (fs2 := fun q => [.ref q0, .ref q1, .ref q2, .int 0, .int (-1), .ref q3, .ref q4, .ref q5, .ref q6, .ref q, .int 0, .int 0, .int 0, .int 0, .int 0, .int 0, .int 0, .int 0, .int 0, .int 0, .null, .null, .null, .null, .null, .null, .null, .null, .null, .null, .null, .null, .null, .null, .null, .int 0, .int 0, .null, .null, .null]) eX12_init_72 eX12_init_74 p_12_37 ha8 (Nat.le_of_ble_eq_true rfl) (fun _ => ⟨rfl, rfl⟩) (fun _ => rfl) (fun _ => rfl) (by decide) (by decide) (by decide) (by omega) (by omega) (fun q7 h9 ha9 B9 => ?_)
  have A9 : Al h h9 a (cat 7 (cat 6 (cat 5 (cat 4 (cat 3 (cat 2 (cat 1 (cat 0 (fun _ => 0) (fun _ => q0)) (fun _ => q1)) (fun _ => q2)) (fun _ => q3)) (fun _ => q4)) (fun _ => q5)) (fun _ => q6)) (fun _ => q7)) [.inl (ar 0, 2988, .inl (fun _ => 0)), .inl (ar 0, 8964, .inl (fun _ => 0)), .inl (ar 2, 3, .inl (fun _ => 0)), .inl (ar 1, 4800, .inr (.inl (fun _ => 0))), .inl (ar 1, 384, .inr (.inl (fun _ => 0))), .inl (ar 2, 96, .inl (fun _ => 0)), .inl (ar 0, 120, .inl (fun _ => 0)), .inl (ar 0, 200, .inl (fun _ => 0))] := A8.trans B9
  refine r_aload_n eX12_init_77 rfl ?_
  refine r_iconst (v := (-1)) eX12_init_78 (by decide) ?_
  refine r_putk (fs2 := [.ref q0, .ref q1, .ref q2, .int 0, .int (-1), .ref q3, .ref q4, .ref q5, .ref q6, .ref q7, .int 0, .int 0, .int 0, .int 0, .int 0, .int 0, .int 0, .int 0, .int 0, .int (-1), .null, .null, .null, .null, .null, .null, .null, .null, .null, .null, .null, .null, .null, .null, .null, .int 0, .int 0, .null, .null, .null]) eX12_init_79 p_12_40 ha9 (Nat.le_of_ble_eq_true rfl) (by first | rfl | decide) rfl (fun q => by first | rfl | cases q) rfl (fun h10 ha10 hk10 => ?_)
  have A10 : Al h h10 a (cat 7 (cat 6 (cat 5 (cat 4 (cat 3 (cat 2 (cat 1 (cat 0 (fun _ => 0) (fun _ => q0)) (fun _ => q1)) (fun _ => q2)) (fun _ => q3)) (fun _ => q4)) (fun _ => q5)) (fun _ => q6)) (fun _ => q7)) [.inl (ar 0, 2988, .inl (fun _ => 0)), .inl (ar 0, 8964, .inl (fun _ => 0)), .inl (ar 2, 3, .inl (fun _ => 0)), .inl (ar 1, 4800, .inr (.inl (fun _ => 0))), .inl (ar 1, 384, .inr (.inl (fun _ => 0))), .inl (ar 2, 96, .inl (fun _ => 0)), .inl (ar 0, 120, .inl (fun _ => 0)), .inl (ar 0, 200, .inl (fun _ => 0))] := A9.put hk10
  refine r_aload_n eX12_init_82 rfl ?_
  refine r_sipush (v := 173) eX12_init_83 (by decide) ?_
  refine r_mki (N := 173) (fs2 := fun q => [.ref q0, .ref q1, .ref q2, .int 0, .int (-1), .ref q3, .ref q4, .ref q5, .ref q6, .ref q7, .int 0, .int 0, .int 0, .int 0, .int 0, .int 0, .int 0, .int 0, .int 0, .int (-1), .ref q, .null, .null, .null, .null, .null, .null, .null, .null, .null, .null, .null, .null, .null, .null, .int 0, .int 0, .null, .null, .null]) eX12_init_86 eX12_init_88 p_12_43 ha10 (Nat.le_of_ble_eq_true rfl) (fun _ => ⟨rfl, rfl⟩) (fun _ => rfl) (fun _ => rfl) (by decide) (by decide) (by decide) (by omega) (by omega) (fun q8 h11 ha11 B11 => ?_)
  have A11 : Al h h11 a (cat 8 (cat 7 (cat 6 (cat 5 (cat 4 (cat 3 (cat 2 (cat 1 (cat 0 (fun _ => 0) (fun _ => q0)) (fun _ => q1)) (fun _ => q2)) (fun _ => q3)) (fun _ => q4)) (fun _ => q5)) (fun _ => q6)) (fun _ => q7)) (fun _ => q8)) [.inl (ar 0, 2988, .inl (fun _ => 0)), .inl (ar 0, 8964, .inl (fun _ => 0)), .inl (ar 2, 3, .inl (fun _ => 0)), .inl (ar 1, 4800, .inr (.inl (fun _ => 0))), .inl (ar 1, 384, .inr (.inl (fun _ => 0))), .inl (ar 2, 96, .inl (fun _ => 0)), .inl (ar 0, 120, .inl (fun _ => 0)), .inl (ar 0, 200, .inl (fun _ => 0)), .inl (ar 0, 173, .inl (fun _ => 0))] := A10.trans B11
  refine r_aload_n eX12_init_91 rfl ?_
  refine r_iconst (v := 4) eX12_init_92 (by decide) ?_
  refine r_mkl (N := 4) (fs2 := fun q => [.ref q0, .ref q1, .ref q2, .int 0, .int (-1), .ref q3, .ref q4, .ref q5, .ref q6, .ref q7, .int 0, .int 0, .int 0, .int 0, .int 0, .int 0, .int 0, .int 0, .int 0, .int (-1), .ref q8, .ref q, .null, .null, .null, .null, .null, .null, .null, .null, .null, .null, .null, .null, .null, .int 0, .int 0, .null, .null, .null]) eX12_init_93 eX12_init_95 p_12_46 ha11 (Nat.le_of_ble_eq_true rfl) (fun _ => ⟨rfl, rfl⟩) (fun _ => rfl) (fun _ => rfl) (by decide) (by decide) (by decide) (by omega) (by omega) (fun q9 h12 ha12 B12 => ?_)
  have A12 : Al h h12 a (cat 9 (cat 8 (cat 7 (cat 6 (cat 5 (cat 4 (cat 3 (cat 2 (cat 1 (cat 0 (fun _ => 0) (fun _ => q0)) (fun _ => q1)) (fun _ => q2)) (fun _ => q3)) (fun _ => q4)) (fun _ => q5)) (fun _ => q6)) (fun _ => q7)) (fun _ => q8)) (fun _ => q9)) [.inl (ar 0, 2988, .inl (fun _ => 0)), .inl (ar 0, 8964, .inl (fun _ => 0)), .inl (ar 2, 3, .inl (fun _ => 0)), .inl (ar 1, 4800, .inr (.inl (fun _ => 0))), .inl (ar 1, 384, .inr (.inl (fun _ => 0))), .inl (ar 2, 96, .inl (fun _ => 0)), .inl (ar 0, 120, .inl (fun _ => 0)), .inl (ar 0, 200, .inl (fun _ => 0)), .inl (ar 0, 173, .inl (fun _ => 0)), .inl (ar 1, 4, .inr (.inl (fun _ => 0)))] := A11.trans B12
  refine r_aload_n eX12_init_98 rfl ?_
  refine r_iconst (v := 4) eX12_init_99 (by decide) ?_
  refine r_mkl (N := 4) (fs2 := fun q => [.ref q0, .ref q1, .ref q2, .int 0, .int (-1), .ref q3, .ref q4, .ref q5, .ref q6, .ref q7, .int 0, .int 0, .int 0, .int 0, .int 0, .int 0, .int 0, .int 0, .int 0, .int (-1), .ref q8, .ref q9, .ref q, .null, .null, .null, .null, .null, .null, .null, .null, .null, .null, .null, .null, .int 0, .int 0, .null, .null, .null]) eX12_init_100 eX12_init_102 p_12_49 ha12 (Nat.le_of_ble_eq_true rfl) (fun _ => ⟨rfl, rfl⟩) (fun _ => rfl) (fun _ => rfl) (by decide) (by decide) (by decide) (by omega) (by omega) (fun q10 h13 ha13 B13 => ?_)
  have A13 : Al h h13 a (cat 10 (cat 9 (cat 8 (cat 7 (cat 6 (cat 5 (cat 4 (cat 3 (cat 2 (cat 1 (cat 0 (fun _ => 0) (fun _ => q0)) (fun _ => q1)) (fun _ => q2)) (fun _ => q3)) (fun _ => q4)) (fun _ => q5)) (fun _ => q6)) (fun _ => q7)) (fun _ => q8)) (fun _ => q9)) (fun _ => q10)) [.inl (ar 0, 2988, .inl (fun _ => 0)), .inl (ar 0, 8964, .inl (fun _ => 0)), .inl (ar 2, 3, .inl (fun _ => 0)), .inl (ar 1, 4800, .inr (.inl (fun _ => 0))), .inl (ar 1, 384, .inr (.inl (fun _ => 0))), .inl (ar 2, 96, .inl (fun _ => 0)), .inl (ar 0, 120, .inl (fun _ => 0)), .inl (ar 0, 200, .inl (fun _ => 0)), .inl (ar 0, 173, .inl (fun _ => 0)), .inl (ar 1, 4, .inr (.inl (fun _ => 0))), .inl (ar 1, 4, .inr (.inl (fun _ => 0)))] := A12.trans B13
  refine r_aload_n eX12_init_105 rfl ?_
  refine r_iconst (v := 4) eX12_init_106 (by decide) ?_
  refine r_mkl (N := 4) (fs2 := fun q => [.ref q0, .ref q1, .ref q2, .int 0, .int (-1), .ref q3, .ref q4, .ref q5, .ref q6, .ref q7, .int 0, .int 0, .int 0, .int 0, .int 0, .int 0, .int 0, .int 0, .int 0, .int (-1), .ref q8, .ref q9, .ref q10, .ref q, .null, .null, .null, .null, .null, .null, .null, .null, .null, .null, .null, .int 0, .int 0, .null, .null, .null]) eX12_init_107 eX12_init_109 p_12_52 ha13 (Nat.le_of_ble_eq_true rfl) (fun _ => ⟨rfl, rfl⟩) (fun _ => rfl) (fun _ => rfl) (by decide) (by decide) (by decide) (by omega) (by omega) (fun q11 h14 ha14 B14 => ?_)
  have A14 : Al h h14 a (cat 11 (cat 10 (cat 9 (cat 8 (cat 7 (cat 6 (cat 5 (cat 4 (cat 3 (cat 2 (cat 1 (cat 0 (fun _ => 0) (fun _ => q0)) (fun _ => q1)) (fun _ => q2)) (fun _ => q3)) (fun _ => q4)) (fun _ => q5)) (fun _ => q6)) (fun _ => q7)) (fun _ => q8)) (fun _ => q9)) (fun _ => q10)) (fun _ => q11)) [.inl (ar 0, 2988, .inl (fun _ => 0)), .inl (ar 0, 8964, .inl (fun _ => 0)), .inl (ar 2, 3, .inl (fun _ => 0)), .inl (ar 1, 4800, .inr (.inl (fun _ => 0))), .inl (ar 1, 384, .inr (.inl (fun _ => 0))), .inl (ar 2, 96, .inl (fun _ => 0)), .inl (ar 0, 120, .inl (fun _ => 0)), .inl (ar 0, 200, .inl (fun _ => 0)), .inl (ar 0, 173, .inl (fun _ => 0)), .inl (ar 1, 4, .inr (.inl (fun _ => 0))), .inl (ar 1, 4, .inr (.inl (fun _ => 0))), .inl (ar 1, 4, .inr (.inl (fun _ => 0)))] := A13.trans B14
  refine r_aload_n eX12_init_112 rfl ?_
  refine r_sipush (v := 164) eX12_init_113 (by decide) ?_
  refine r_mkl (N := 164) (fs2 := fun q => [.ref q0, .ref q1, .ref q2, .int 0, .int (-1), .ref q3, .ref q4, .ref q5, .ref q6, .ref q7, .int 0, .int 0, .int 0, .int 0, .int 0, .int 0, .int 0, .int 0, .int 0, .int (-1), .ref q8, .ref q9, .ref q10, .ref q11, .ref q, .null, .null, .null, .null, .null, .null, .null, .null, .null, .null, .int 0, .int 0, .null, .null, .null]) eX12_init_116 eX12_init_118 p_12_55 ha14 (Nat.le_of_ble_eq_true rfl) (fun _ => ⟨rfl, rfl⟩) (fun _ => rfl) (fun _ => rfl) (by decide) (by decide) (by decide) (by omega) (by omega) (fun q12 h15 ha15 B15 => ?_)
  have A15 : Al h h15 a (cat 12 (cat 11 (cat 10 (cat 9 (cat 8 (cat 7 (cat 6 (cat 5 (cat 4 (cat 3 (cat 2 (cat 1 (cat 0 (fun _ => 0) (fun _ => q0)) (fun _ => q1)) (fun _ => q2)) (fun _ => q3)) (fun _ => q4)) (fun _ => q5)) (fun _ => q6)) (fun _ => q7)) (fun _ => q8)) (fun _ => q9)) (fun _ => q10)) (fun _ => q11)) (fun _ => q12)) [.inl (ar 0, 2988, .inl (fun _ => 0)), .inl (ar 0, 8964, .inl (fun _ => 0)), .inl (ar 2, 3, .inl (fun _ => 0)), .inl (ar 1, 4800, .inr (.inl (fun _ => 0))), .inl (ar 1, 384, .inr (.inl (fun _ => 0))), .inl (ar 2, 96, .inl (fun _ => 0)), .inl (ar 0, 120, .inl (fun _ => 0)), .inl (ar 0, 200, .inl (fun _ => 0)), .inl (ar 0, 173, .inl (fun _ => 0)), .inl (ar 1, 4, .inr (.inl (fun _ => 0))), .inl (ar 1, 4, .inr (.inl (fun _ => 0))), .inl (ar 1, 4, .inr (.inl (fun _ => 0))), .inl (ar 1, 164, .inr (.inl (fun _ => 0)))] := A14.trans B15
  refine r_aload_n eX12_init_121 rfl ?_
  refine r_sipush (v := 164) eX12_init_122 (by decide) ?_
  refine r_mkl (N := 164) (fs2 := fun q => [.ref q0, .ref q1, .ref q2, .int 0, .int (-1), .ref q3, .ref q4, .ref q5, .ref q6, .ref q7, .int 0, .int 0, .int 0, .int 0, .int 0, .int 0, .int 0, .int 0, .int 0, .int (-1), .ref q8, .ref q9, .ref q10, .ref q11, .ref q12, .ref q, .null, .null, .null, .null, .null, .null, .null, .null, .null, .int 0, .int 0, .null, .null, .null]) eX12_init_125 eX12_init_127 p_12_58 ha15 (Nat.le_of_ble_eq_true rfl) (fun _ => ⟨rfl, rfl⟩) (fun _ => rfl) (fun _ => rfl) (by decide) (by decide) (by decide) (by omega) (by omega) (fun q13 h16 ha16 B16 => ?_)
  have A16 : Al h h16 a (cat 13 (cat 12 (cat 11 (cat 10 (cat 9 (cat 8 (cat 7 (cat 6 (cat 5 (cat 4 (cat 3 (cat 2 (cat 1 (cat 0 (fun _ => 0) (fun _ => q0)) (fun _ => q1)) (fun _ => q2)) (fun _ => q3)) (fun _ => q4)) (fun _ => q5)) (fun _ => q6)) (fun _ => q7)) (fun _ => q8)) (fun _ => q9)) (fun _ => q10)) (fun _ => q11)) (fun _ => q12)) (fun _ => q13)) [.inl (ar 0, 2988, .inl (fun _ => 0)), .inl (ar 0, 8964, .inl (fun _ => 0)), .inl (ar 2, 3, .inl (fun _ => 0)), .inl (ar 1, 4800, .inr (.inl (fun _ => 0))), .inl (ar 1, 384, .inr (.inl (fun _ => 0))), .inl (ar 2, 96, .inl (fun _ => 0)), .inl (ar 0, 120, .inl (fun _ => 0)), .inl (ar 0, 200, .inl (fun _ => 0)), .inl (ar 0, 173, .inl (fun _ => 0)), .inl (ar 1, 4, .inr (.inl (fun _ => 0))), .inl (ar 1, 4, .inr (.inl (fun _ => 0))), .inl (ar 1, 4, .inr (.inl (fun _ => 0))), .inl (ar 1, 164, .inr (.inl (fun _ => 0))), .inl (ar 1, 164, .inr (.inl (fun _ => 0)))] := A15.trans B16
  refine r_aload_n eX12_init_130 rfl ?_
  refine r_iconst (v := 4) eX12_init_131 (by decide) ?_
  refine r_mkl (N := 4) (fs2 := fun q => [.ref q0, .ref q1, .ref q2, .int 0, .int (-1), .ref q3, .ref q4, .ref q5, .ref q6, .ref q7, .int 0, .int 0, .int 0, .int 0, .int 0, .int 0, .int 0, .int 0, .int 0, .int (-1), .ref q8, .ref q9, .ref q10, .ref q11, .ref q12, .ref q13, .ref q, .null, .null, .null, .null, .null, .null, .null, .null, .int 0, .int 0, .null, .null, .null]) eX12_init_132 eX12_init_134 p_12_61 ha16 (Nat.le_of_ble_eq_true rfl) (fun _ => ⟨rfl, rfl⟩) (fun _ => rfl) (fun _ => rfl) (by decide) (by decide) (by decide) (by omega) (by omega) (fun q14 h17 ha17 B17 => ?_)
  have A17 : Al h h17 a (cat 14 (cat 13 (cat 12 (cat 11 (cat 10 (cat 9 (cat 8 (cat 7 (cat 6 (cat 5 (cat 4 (cat 3 (cat 2 (cat 1 (cat 0 (fun _ => 0) (fun _ => q0)) (fun _ => q1)) (fun _ => q2)) (fun _ => q3)) (fun _ => q4)) (fun _ => q5)) (fun _ => q6)) (fun _ => q7)) (fun _ => q8)) (fun _ => q9)) (fun _ => q10)) (fun _ => q11)) (fun _ => q12)) (fun _ => q13)) (fun _ => q14)) [.inl (ar 0, 2988, .inl (fun _ => 0)), .inl (ar 0, 8964, .inl (fun _ => 0)), .inl (ar 2, 3, .inl (fun _ => 0)), .inl (ar 1, 4800, .inr (.inl (fun _ => 0))), .inl (ar 1, 384, .inr (.inl (fun _ => 0))), .inl (ar 2, 96, .inl (fun _ => 0)), .inl (ar 0, 120, .inl (fun _ => 0)), .inl (ar 0, 200, .inl (fun _ => 0)), .inl (ar 0, 173, .inl (fun _ => 0)), .inl (ar 1, 4, .inr (.inl (fun _ => 0))), .inl (ar 1, 4, .inr (.inl (fun _ => 0))), .inl (ar 1, 4, .inr (.inl (fun _ => 0))), .inl (ar 1, 164, .inr (.inl (fun _ => 0))), .inl (ar 1, 164, .inr (.inl (fun _ => 0))), .inl (ar 1, 4, .inr (.inl (fun _ => 0)))] := A16.trans B17
  refine r_aload_n eX12_init_137 rfl ?_
  refine r_iconst (v := 4) eX12_init_138 (by decide) ?_
  refine r_mkl (N := 4) (fs2 := fun q => [.ref q0, .ref q1, .ref q2, .int 0, .int (-1), .ref q3, .ref q4, .ref q5, .ref q6, .ref q7, .int 0, .int 0, .int 0, .int 0, .int 0, .int 0, .int 0, .int 0, .int 0, .int (-1), .ref q8, .ref q9, .ref q10, .ref q11, .ref q12, .ref q13, .ref q14, .ref q, .null, .null, .null, .null, .null, .null, .null, .int 0, .int 0, .null, .null, .null]) eX12_init_139 eX12_init_141 p_12_64 ha17 (Nat.le_of_ble_eq_true rfl) (fun _ => ⟨rfl, rfl⟩) (fun _ => rfl) (fun _ => rfl) (by decide) (by decide) (by decide) (by omega) (by omega) (fun q15 h18 ha18 B18 => ?_)
  have A18 : Al h h18 a (cat 15 (cat 14 (cat 13 (cat 12 (cat 11 (cat 10 (cat 9 (cat 8 (cat 7 (cat 6 (cat 5 (cat 4 (cat 3 (cat 2 (cat 1 (cat 0 (fun _ => 0) (fun _ => q0)) (fun _ => q1)) (fun _ => q2)) (fun _ => q3)) (fun _ => q4)) (fun _ => q5)) (fun _ => q6)) (fun _ => q7)) (fun _ => q8)) (fun _ => q9)) (fun _ => q10)) (fun _ => q11)) (fun _ => q12)) (fun _ => q13)) (fun _ => q14)) (fun _ => q15)) [.inl (ar 0, 2988, .inl (fun _ => 0)), .inl (ar 0, 8964, .inl (fun _ => 0)), .inl (ar 2, 3, .inl (fun _ => 0)), .inl (ar 1, 4800, .inr (.inl (fun _ => 0))), .inl (ar 1, 384, .inr (.inl (fun _ => 0))), .inl (ar 2, 96, .inl (fun _ => 0)), .inl (ar 0, 120, .inl (fun _ => 0)), .inl (ar 0, 200, .inl (fun _ => 0)), .inl (ar 0, 173, .inl (fun _ => 0)), .inl (ar 1, 4, .inr (.inl (fun _ => 0))), .inl (ar 1, 4, .inr (.inl (fun _ => 0))), .inl (ar 1, 4, .inr (.inl (fun _ => 0))), .inl (ar 1, 164, .inr (.inl (fun _ => 0))), .inl (ar 1, 164, .inr (.inl (fun _ => 0))), .inl (ar 1, 4, .inr (.inl (fun _ => 0))), .inl (ar 1, 4, .inr (.inl (fun _ => 0)))] := A17.trans B18
  refine r_aload_n eX12_init_144 rfl ?_
  refine r_bipush (v := 40) eX12_init_145 (by decide) ?_
  refine r_mkz (N := 40) (fs2 := fun q => [.ref q0, .ref q1, .ref q2, .int 0, .int (-1), .ref q3, .ref q4, .ref q5, .ref q6, .ref q7, .int 0, .int 0, .int 0, .int 0, .int 0, .int 0, .int 0, .int 0, .int 0, .int (-1), .ref q8, .ref q9, .ref q10, .ref q11, .ref q12, .ref q13, .ref q14, .ref q15, .ref q, .null, .null, .null, .null, .null, .null, .int 0, .int 0, .null, .null, .null]) eX12_init_147 eX12_init_149 p_12_67 ha18 (Nat.le_of_ble_eq_true rfl) (fun _ => ⟨rfl, rfl⟩) (fun _ => rfl) (fun _ => rfl) (by decide) (by decide) (by decide) (by omega) (by omega) (fun q16 h19 ha19 B19 => ?_)
  have A19 : Al h h19 a (cat 16 (cat 15 (cat 14 (cat 13 (cat 12 (cat 11 (cat 10 (cat 9 (cat 8 (cat 7 (cat 6 (cat 5 (cat 4 (cat 3 (cat 2 (cat 1 (cat 0 (fun _ => 0) (fun _ => q0)) (fun _ => q1)) (fun _ => q2)) (fun _ => q3)) (fun _ => q4)) (fun _ => q5)) (fun _ => q6)) (fun _ => q7)) (fun _ => q8)) (fun _ => q9)) (fun _ => q10)) (fun _ => q11)) (fun _ => q12)) (fun _ => q13)) (fun _ => q14)) (fun _ => q15)) (fun _ => q16)) [.inl (ar 0, 2988, .inl (fun _ => 0)), .inl (ar 0, 8964, .inl (fun _ => 0)), .inl (ar 2, 3, .inl (fun _ => 0)), .inl (ar 1, 4800, .inr (.inl (fun _ => 0))), .inl (ar 1, 384, .inr (.inl (fun _ => 0))), .inl (ar 2, 96, .inl (fun _ => 0)), .inl (ar 0, 120, .inl (fun _ => 0)), .inl (ar 0, 200, .inl (fun _ => 0)), .inl (ar 0, 173, .inl (fun _ => 0)), .inl (ar 1, 4, .inr (.inl (fun _ => 0))), .inl (ar 1, 4, .inr (.inl (fun _ => 0))), .inl (ar 1, 4, .inr (.inl (fun _ => 0))), .inl (ar 1, 164, .inr (.inl (fun _ => 0))), .inl (ar 1, 164, .inr (.inl (fun _ => 0))), .inl (ar 1, 4, .inr (.inl (fun _ => 0))), .inl (ar 1, 4, .inr (.inl (fun _ => 0))), .inl (ar 2, 40, .inl (fun _ => 0))] := A18.trans B19
  refine r_aload_n eX12_init_152 rfl ?_
  refine r_bipush (v := 40) eX12_init_153 (by decide) ?_
  refine r_mkz (N := 40) (fs2 := fun q => [.ref q0, .ref q1, .ref q2, .int 0, .int (-1), .ref q3, .ref q4, .ref q5, .ref q6, .ref q7, .int 0, .int 0, .int 0, .int 0, .int 0, .int 0, .int 0, .int 0, .int 0, .int (-1), .ref q8, .ref q9, .ref q10, .ref q11, .ref q12, .ref q13, .ref q14, .ref q15, .ref q16, .ref q, .null, .null, .null, .null, .null, .int 0, .int 0, .null, .null, .null]) eX12_init_155 eX12_init_157 p_12_70 ha19 (Nat.le_of_ble_eq_true rfl) (fun _ => ⟨rfl, rfl⟩) (fun _ => rfl) (fun _ => rfl) (by decide) (by decide) (by decide) (by omega) (by omega) (fun q17 h20 ha20 B20 => ?_)
  have A20 : Al h h20 a (cat 17 (cat 16 (cat 15 (cat 14 (cat 13 (cat 12 (cat 11 (cat 10 (cat 9 (cat 8 (cat 7 (cat 6 (cat 5 (cat 4 (cat 3 (cat 2 (cat 1 (cat 0 (fun _ => 0) (fun _ => q0)) (fun _ => q1)) (fun _ => q2)) (fun _ => q3)) (fun _ => q4)) (fun _ => q5)) (fun _ => q6)) (fun _ => q7)) (fun _ => q8)) (fun _ => q9)) (fun _ => q10)) (fun _ => q11)) (fun _ => q12)) (fun _ => q13)) (fun _ => q14)) (fun _ => q15)) (fun _ => q16)) (fun _ => q17)) [.inl (ar 0, 2988, .inl (fun _ => 0)), .inl (ar 0, 8964, .inl (fun _ => 0)), .inl (ar 2, 3, .inl (fun _ => 0)), .inl (ar 1, 4800, .inr (.inl (fun _ => 0))), .inl (ar 1, 384, .inr (.inl (fun _ => 0))), .inl (ar 2, 96, .inl (fun _ => 0)), .inl (ar 0, 120, .inl (fun _ => 0)), .inl (ar 0, 200, .inl (fun _ => 0)), .inl (ar 0, 173, .inl (fun _ => 0)), .inl (ar 1, 4, .inr (.inl (fun _ => 0))), .inl (ar 1, 4, .inr (.inl (fun _ => 0))), .inl (ar 1, 4, .inr (.inl (fun _ => 0))), .inl (ar 1, 164, .inr (.inl (fun _ => 0))), .inl (ar 1, 164, .inr (.inl (fun _ => 0))), .inl (ar 1, 4, .inr (.inl (fun _ => 0))), .inl (ar 1, 4, .inr (.inl (fun _ => 0))), .inl (ar 2, 40, .inl (fun _ => 0)), .inl (ar 2, 40, .inl (fun _ => 0))] := A19.trans B20
  refine r_aload_n eX12_init_160 rfl ?_
  refine r_sipush (v := 240) eX12_init_161 (by decide) ?_
  refine r_mki (N := 240) (fs2 := fun q => [.ref q0, .ref q1, .ref q2, .int 0, .int (-1), .ref q3, .ref q4, .ref q5, .ref q6, .ref q7, .int 0, .int 0, .int 0, .int 0, .int 0, .int 0, .int 0, .int 0, .int 0, .int (-1), .ref q8, .ref q9, .ref q10, .ref q11, .ref q12, .ref q13, .ref q14, .ref q15, .ref q16, .ref q17, .ref q, .null, .null, .null, .null, .int 0, .int 0, .null, .null, .null]) eX12_init_164 eX12_init_166 p_12_73 ha20 (Nat.le_of_ble_eq_true rfl) (fun _ => ⟨rfl, rfl⟩) (fun _ => rfl) (fun _ => rfl) (by decide) (by decide) (by decide) (by omega) (by omega) (fun q18 h21 ha21 B21 => ?_)
  have A21 : Al h h21 a (cat 18 (cat 17 (cat 16 (cat 15 (cat 14 (cat 13 (cat 12 (cat 11 (cat 10 (cat 9 (cat 8 (cat 7 (cat 6 (cat 5 (cat 4 (cat 3 (cat 2 (cat 1 (cat 0 (fun _ => 0) (fun _ => q0)) (fun _ => q1)) (fun _ => q2)) (fun _ => q3)) (fun _ => q4)) (fun _ => q5)) (fun _ => q6)) (fun _ => q7)) (fun _ => q8)) (fun _ => q9)) (fun _ => q10)) (fun _ => q11)) (fun _ => q12)) (fun _ => q13)) (fun _ => q14)) (fun _ => q15)) (fun _ => q16)) (fun _ => q17)) (fun _ => q18)) [.inl (ar 0, 2988, .inl (fun _ => 0)), .inl (ar 0, 8964, .inl (fun _ => 0)), .inl (ar 2, 3, .inl (fun _ => 0)), .inl (ar 1, 4800, .inr (.inl (fun _ => 0))), .inl (ar 1, 384, .inr (.inl (fun _ => 0))), .inl (ar 2, 96, .inl (fun _ => 0)), .inl (ar 0, 120, .inl (fun _ => 0)), .inl (ar 0, 200, .inl (fun _ => 0)), .inl (ar 0, 173, .inl (fun _ => 0)), .inl (ar 1, 4, .inr (.inl (fun _ => 0))), .inl (ar 1, 4, .inr (.inl (fun _ => 0))), .inl (ar 1, 4, .inr (.inl (fun _ => 0))), .inl (ar 1, 164, .inr (.inl (fun _ => 0))), .inl (ar 1, 164, .inr (.inl (fun _ => 0))), .inl (ar 1, 4, .inr (.inl (fun _ => 0))), .inl (ar 1, 4, .inr (.inl (fun _ => 0))), .inl (ar 2, 40, .inl (fun _ => 0)), .inl (ar 2, 40, .inl (fun _ => 0)), .inl (ar 0, 240, .inl (fun _ => 0))] := A20.trans B21
  refine r_aload_n eX12_init_169 rfl ?_
  refine r_sipush (v := 240) eX12_init_170 (by decide) ?_
  refine r_mki (N := 240) (fs2 := fun q => [.ref q0, .ref q1, .ref q2, .int 0, .int (-1), .ref q3, .ref q4, .ref q5, .ref q6, .ref q7, .int 0, .int 0, .int 0, .int 0, .int 0, .int 0, .int 0, .int 0, .int 0, .int (-1), .ref q8, .ref q9, .ref q10, .ref q11, .ref q12, .ref q13, .ref q14, .ref q15, .ref q16, .ref q17, .ref q18, .ref q, .null, .null, .null, .int 0, .int 0, .null, .null, .null]) eX12_init_173 eX12_init_175 p_12_76 ha21 (Nat.le_of_ble_eq_true rfl) (fun _ => ⟨rfl, rfl⟩) (fun _ => rfl) (fun _ => rfl) (by decide) (by decide) (by decide) (by omega) (by omega) (fun q19 h22 ha22 B22 => ?_)
  have A22 : Al h h22 a (cat 19 (cat 18 (cat 17 (cat 16 (cat 15 (cat 14 (cat 13 (cat 12 (cat 11 (cat 10 (cat 9 (cat 8 (cat 7 (cat 6 (cat 5 (cat 4 (cat 3 (cat 2 (cat 1 (cat 0 (fun _ => 0) (fun _ => q0)) (fun _ => q1)) (fun _ => q2)) (fun _ => q3)) (fun _ => q4)) (fun _ => q5)) (fun _ => q6)) (fun _ => q7)) (fun _ => q8)) (fun _ => q9)) (fun _ => q10)) (fun _ => q11)) (fun _ => q12)) (fun _ => q13)) (fun _ => q14)) (fun _ => q15)) (fun _ => q16)) (fun _ => q17)) (fun _ => q18)) (fun _ => q19)) [.inl (ar 0, 2988, .inl (fun _ => 0)), .inl (ar 0, 8964, .inl (fun _ => 0)), .inl (ar 2, 3, .inl (fun _ => 0)), .inl (ar 1, 4800, .inr (.inl (fun _ => 0))), .inl (ar 1, 384, .inr (.inl (fun _ => 0))), .inl (ar 2, 96, .inl (fun _ => 0)), .inl (ar 0, 120, .inl (fun _ => 0)), .inl (ar 0, 200, .inl (fun _ => 0)), .inl (ar 0, 173, .inl (fun _ => 0)), .inl (ar 1, 4, .inr (.inl (fun _ => 0))), .inl (ar 1, 4, .inr (.inl (fun _ => 0))), .inl (ar 1, 4, .inr (.inl (fun _ => 0))), .inl (ar 1, 164, .inr (.inl (fun _ => 0))), .inl (ar 1, 164, .inr (.inl (fun _ => 0))), .inl (ar 1, 4, .inr (.inl (fun _ => 0))), .inl (ar 1, 4, .inr (.inl (fun _ => 0))), .inl (ar 2, 40, .inl (fun _ => 0)), .inl (ar 2, 40, .inl (fun _ => 0)), .inl (ar 0, 240, .inl (fun _ => 0)), .inl (ar 0, 240, .inl (fun _ => 0))] := A21.trans B22
  refine r_aload_n eX12_init_178 rfl ?_
  refine r_bipush (v := 40) eX12_init_179 (by decide) ?_
  refine r_mki (N := 40) (fs2 := fun q => [.ref q0, .ref q1, .ref q2, .int 0, .int (-1), .ref q3, .ref q4, .ref q5, .ref q6, .ref q7, .int 0, .int 0, .int 0, .int 0, .int 0, .int 0, .int 0, .int 0, .int 0, .int (-1), .ref q8, .ref q9, .ref q10, .ref q11, .ref q12, .ref q13, .ref q14, .ref q15, .ref q16, .ref q17, .ref q18, .ref q19, .ref q, .null, .null, .int 0, .int 0, .null, .null, .null]) eX12_init_181 eX12_init_183 p_12_79 ha22 (Nat.le_of_ble_eq_true rfl) (fun _ => ⟨rfl, rfl⟩) (fun _ => rfl) (fun _ => rfl) (by decide) (by decide) (by decide) (by omega) (by omega) (fun q20 h23 ha23 B23 => ?_)
  have A23 : Al h h23 a (cat 20 (cat 19 (cat 18 (cat 17 (cat 16 (cat 15 (cat 14 (cat 13 (cat 12 (cat 11 (cat 10 (cat 9 (cat 8 (cat 7 (cat 6 (cat 5 (cat 4 (cat 3 (cat 2 (cat 1 (cat 0 (fun _ => 0) (fun _ => q0)) (fun _ => q1)) (fun _ => q2)) (fun _ => q3)) (fun _ => q4)) (fun _ => q5)) (fun _ => q6)) (fun _ => q7)) (fun _ => q8)) (fun _ => q9)) (fun _ => q10)) (fun _ => q11)) (fun _ => q12)) (fun _ => q13)) (fun _ => q14)) (fun _ => q15)) (fun _ => q16)) (fun _ => q17)) (fun _ => q18)) (fun _ => q19)) (fun _ => q20)) [.inl (ar 0, 2988, .inl (fun _ => 0)), .inl (ar 0, 8964, .inl (fun _ => 0)), .inl (ar 2, 3, .inl (fun _ => 0)), .inl (ar 1, 4800, .inr (.inl (fun _ => 0))), .inl (ar 1, 384, .inr (.inl (fun _ => 0))), .inl (ar 2, 96, .inl (fun _ => 0)), .inl (ar 0, 120, .inl (fun _ => 0)), .inl (ar 0, 200, .inl (fun _ => 0)), .inl (ar 0, 173, .inl (fun _ => 0)), .inl (ar 1, 4, .inr (.inl (fun _ => 0))), .inl (ar 1, 4, .inr (.inl (fun _ => 0))), .inl (ar 1, 4, .inr (.inl (fun _ => 0))), .inl (ar 1, 164, .inr (.inl (fun _ => 0))), .inl (ar 1, 164, .inr (.inl (fun _ => 0))), .inl (ar 1, 4, .inr (.inl (fun _ => 0))), .inl (ar 1, 4, .inr (.inl (fun _ => 0))), .inl (ar 2, 40, .inl (fun _ => 0)), .inl (ar 2, 40, .inl (fun _ => 0)), .inl (ar 0, 240, .inl (fun _ => 0)), .inl (ar 0, 240, .inl (fun _ => 0)), .inl (ar 0, 40, .inl (fun _ => 0))] := A22.trans B23
  refine r_aload_n eX12_init_186 rfl ?_
  refine r_sipush (v := 128) eX12_init_187 (by decide) ?_
  refine r_mkl (N := 128) (fs2 := fun q => [.ref q0, .ref q1, .ref q2, .int 0, .int (-1), .ref q3, .ref q4, .ref q5, .ref q6, .ref q7, .int 0, .int 0, .int 0, .int 0, .int 0, .int 0, .int 0, .int 0, .int 0, .int (-1), .ref q8, .ref q9, .ref q10, .ref q11, .ref q12, .ref q13, .ref q14, .ref q15, .ref q16, .ref q17, .ref q18, .ref q19, .ref q20, .ref q, .null, .int 0, .int 0, .null, .null, .null]) eX12_init_190 eX12_init_192 p_12_82 ha23 (Nat.le_of_ble_eq_true rfl) (fun _ => ⟨rfl, rfl⟩) (fun _ => rfl) (fun _ => rfl) (by decide) (by decide) (by decide) (by omega) (by omega) (fun q21 h24 ha24 B24 => ?_)
  have A24 : Al h h24 a (cat 21 (cat 20 (cat 19 (cat 18 (cat 17 (cat 16 (cat 15 (cat 14 (cat 13 (cat 12 (cat 11 (cat 10 (cat 9 (cat 8 (cat 7 (cat 6 (cat 5 (cat 4 (cat 3 (cat 2 (cat 1 (cat 0 (fun _ => 0) (fun _ => q0)) (fun _ => q1)) (fun _ => q2)) (fun _ => q3)) (fun _ => q4)) (fun _ => q5)) (fun _ => q6)) (fun _ => q7)) (fun _ => q8)) (fun _ => q9)) (fun _ => q10)) (fun _ => q11)) (fun _ => q12)) (fun _ => q13)) (fun _ => q14)) (fun _ => q15)) (fun _ => q16)) (fun _ => q17)) (fun _ => q18)) (fun _ => q19)) (fun _ => q20)) (fun _ => q21)) [.inl (ar 0, 2988, .inl (fun _ => 0)), .inl (ar 0, 8964, .inl (fun _ => 0)), .inl (ar 2, 3, .inl (fun _ => 0)), .inl (ar 1, 4800, .inr (.inl (fun _ => 0))), .inl (ar 1, 384, .inr (.inl (fun _ => 0))), .inl (ar 2, 96, .inl (fun _ => 0)), .inl (ar 0, 120, .inl (fun _ => 0)), .inl (ar 0, 200, .inl (fun _ => 0)), .inl (ar 0, 173, .inl (fun _ => 0)), .inl (ar 1, 4, .inr (.inl (fun _ => 0))), .inl (ar 1, 4, .inr (.inl (fun _ => 0))), .inl (ar 1, 4, .inr (.inl (fun _ => 0))), .inl (ar 1, 164, .inr (.inl (fun _ => 0))), .inl (ar 1, 164, .inr (.inl (fun _ => 0))), .inl (ar 1, 4, .inr (.inl (fun _ => 0))), .inl (ar 1, 4, .inr (.inl (fun _ => 0))), .inl (ar 2, 40, .inl (fun _ => 0)), .inl (ar 2, 40, .inl (fun _ => 0)), .inl (ar 0, 240, .inl (fun _ => 0)), .inl (ar 0, 240, .inl (fun _ => 0)), .inl (ar 0, 40, .inl (fun _ => 0)), .inl (ar 1, 128, .inr (.inl (fun _ => 0)))] := A23.trans B24
  refine r_aload_n eX12_init_195 rfl ?_
  refine r_iconst (v := 3) eX12_init_196 (by decide) ?_
  refine r_mki (N := 3) (fs2 := fun q => [.ref q0, .ref q1, .ref q2, .int 0, .int (-1), .ref q3, .ref q4, .ref q5, .ref q6, .ref q7, .int 0, .int 0, .int 0, .int 0, .int 0, .int 0, .int 0, .int 0, .int 0, .int (-1), .ref q8, .ref q9, .ref q10, .ref q11, .ref q12, .ref q13, .ref q14, .ref q15, .ref q16, .ref q17, .ref q18, .ref q19, .ref q20, .ref q21, .ref q, .int 0, .int 0, .null, .null, .null]) eX12_init_197 eX12_init_199 p_12_85 ha24 (Nat.le_of_ble_eq_true rfl) (fun _ => ⟨rfl, rfl⟩) (fun _ => rfl) (fun _ => rfl) (by decide) (by decide) (by decide) (by omega) (by omega) (fun q22 h25 ha25 B25 => ?_)
  have A25 : Al h h25 a (cat 22 (cat 21 (cat 20 (cat 19 (cat 18 (cat 17 (cat 16 (cat 15 (cat 14 (cat 13 (cat 12 (cat 11 (cat 10 (cat 9 (cat 8 (cat 7 (cat 6 (cat 5 (cat 4 (cat 3 (cat 2 (cat 1 (cat 0 (fun _ => 0) (fun _ => q0)) (fun _ => q1)) (fun _ => q2)) (fun _ => q3)) (fun _ => q4)) (fun _ => q5)) (fun _ => q6)) (fun _ => q7)) (fun _ => q8)) (fun _ => q9)) (fun _ => q10)) (fun _ => q11)) (fun _ => q12)) (fun _ => q13)) (fun _ => q14)) (fun _ => q15)) (fun _ => q16)) (fun _ => q17)) (fun _ => q18)) (fun _ => q19)) (fun _ => q20)) (fun _ => q21)) (fun _ => q22)) [.inl (ar 0, 2988, .inl (fun _ => 0)), .inl (ar 0, 8964, .inl (fun _ => 0)), .inl (ar 2, 3, .inl (fun _ => 0)), .inl (ar 1, 4800, .inr (.inl (fun _ => 0))), .inl (ar 1, 384, .inr (.inl (fun _ => 0))), .inl (ar 2, 96, .inl (fun _ => 0)), .inl (ar 0, 120, .inl (fun _ => 0)), .inl (ar 0, 200, .inl (fun _ => 0)), .inl (ar 0, 173, .inl (fun _ => 0)), .inl (ar 1, 4, .inr (.inl (fun _ => 0))), .inl (ar 1, 4, .inr (.inl (fun _ => 0))), .inl (ar 1, 4, .inr (.inl (fun _ => 0))), .inl (ar 1, 164, .inr (.inl (fun _ => 0))), .inl (ar 1, 164, .inr (.inl (fun _ => 0))), .inl (ar 1, 4, .inr (.inl (fun _ => 0))), .inl (ar 1, 4, .inr (.inl (fun _ => 0))), .inl (ar 2, 40, .inl (fun _ => 0)), .inl (ar 2, 40, .inl (fun _ => 0)), .inl (ar 0, 240, .inl (fun _ => 0)), .inl (ar 0, 240, .inl (fun _ => 0)), .inl (ar 0, 40, .inl (fun _ => 0)), .inl (ar 1, 128, .inr (.inl (fun _ => 0))), .inl (ar 0, 3, .inl (fun _ => 0))] := A24.trans B25
  refine r_aload_n eX12_init_202 rfl ?_
  refine r_iconst (v := 4) eX12_init_203 (by decide) ?_
  refine r_newi (N := 4) eX12_init_204 (by decide) (by decide) (by decide) (by omega) (by omega) (fun q23 hq26 => ?_)
  have hn26 : q23 ≠ a := fun z => by rw [z, ha25] at hq26; cases hq26
  refine r_dup eX12_init_206 rfl ?_
  refine r_iconst (v := 0) eX12_init_207 (by decide) ?_
  refine r_iconst (v := (-1)) eX12_init_208 (by decide) ?_
  refine r_iast eX12_init_209 (hset_s _ _ _) (by unfold vp_in; decide) ?_
  rw [hset_hset]
  refine r_dup eX12_init_210 rfl ?_
  refine r_iconst (v := 1) eX12_init_211 (by decide) ?_
  refine r_iconst (v := (-1)) eX12_init_212 (by decide) ?_
  refine r_iast eX12_init_213 (hset_s _ _ _) (by unfold vp_in; decide) ?_
  rw [hset_hset]
  refine r_dup eX12_init_214 rfl ?_
  refine r_iconst (v := 2) eX12_init_215 (by decide) ?_
  refine r_iconst (v := (-1)) eX12_init_216 (by decide) ?_
  refine r_iast eX12_init_217 (hset_s _ _ _) (by unfold vp_in; decide) ?_
  rw [hset_hset]
  refine r_dup eX12_init_218 rfl ?_
  refine r_iconst (v := 3) eX12_init_219 (by decide) ?_
  refine r_iconst (v := (-1)) eX12_init_220 (by decide) ?_
  refine r_iast eX12_init_221 (hset_s _ _ _) (by unfold vp_in; decide) ?_
  rw [hset_hset]
  refine r_putk (fs2 := [.ref q0, .ref q1, .ref q2, .int 0, .int (-1), .ref q3, .ref q4, .ref q5, .ref q6, .ref q7, .int 0, .int 0, .int 0, .int 0, .int 0, .int 0, .int 0, .int 0, .int 0, .int (-1), .ref q8, .ref q9, .ref q10, .ref q11, .ref q12, .ref q13, .ref q14, .ref q15, .ref q16, .ref q17, .ref q18, .ref q19, .ref q20, .ref q21, .ref q22, .int 0, .int 0, .ref q23, .null, .null]) eX12_init_222 p_12_88 (by rw [hset_n _ _ (Ne.symm hn26)]; exact ha25) (Nat.le_of_ble_eq_true rfl) rfl rfl (fun q => by first | rfl | cases q) rfl (fun h26 ha26 hk26 => ?_)
  have B26 := Al.one hq26 hn26 (hk26 _ _ hn26 (hset_s _ _ _)) ((kp_hset hq26).trans hk26)
  have A26 : Al h h26 a (cat 23 (cat 22 (cat 21 (cat 20 (cat 19 (cat 18 (cat 17 (cat 16 (cat 15 (cat 14 (cat 13 (cat 12 (cat 11 (cat 10 (cat 9 (cat 8 (cat 7 (cat 6 (cat 5 (cat 4 (cat 3 (cat 2 (cat 1 (cat 0 (fun _ => 0) (fun _ => q0)) (fun _ => q1)) (fun _ => q2)) (fun _ => q3)) (fun _ => q4)) (fun _ => q5)) (fun _ => q6)) (fun _ => q7)) (fun _ => q8)) (fun _ => q9)) (fun _ => q10)) (fun _ => q11)) (fun _ => q12)) (fun _ => q13)) (fun _ => q14)) (fun _ => q15)) (fun _ => q16)) (fun _ => q17)) (fun _ => q18)) (fun _ => q19)) (fun _ => q20)) (fun _ => q21)) (fun _ => q22)) (fun _ => q23)) [.inl (ar 0, 2988, .inl (fun _ => 0)), .inl (ar 0, 8964, .inl (fun _ => 0)), .inl (ar 2, 3, .inl (fun _ => 0)), .inl (ar 1, 4800, .inr (.inl (fun _ => 0))), .inl (ar 1, 384, .inr (.inl (fun _ => 0))), .inl (ar 2, 96, .inl (fun _ => 0)), .inl (ar 0, 120, .inl (fun _ => 0)), .inl (ar 0, 200, .inl (fun _ => 0)), .inl (ar 0, 173, .inl (fun _ => 0)), .inl (ar 1, 4, .inr (.inl (fun _ => 0))), .inl (ar 1, 4, .inr (.inl (fun _ => 0))), .inl (ar 1, 4, .inr (.inl (fun _ => 0))), .inl (ar 1, 164, .inr (.inl (fun _ => 0))), .inl (ar 1, 164, .inr (.inl (fun _ => 0))), .inl (ar 1, 4, .inr (.inl (fun _ => 0))), .inl (ar 1, 4, .inr (.inl (fun _ => 0))), .inl (ar 2, 40, .inl (fun _ => 0)), .inl (ar 2, 40, .inl (fun _ => 0)), .inl (ar 0, 240, .inl (fun _ => 0)), .inl (ar 0, 240, .inl (fun _ => 0)), .inl (ar 0, 40, .inl (fun _ => 0)), .inl (ar 1, 128, .inr (.inl (fun _ => 0))), .inl (ar 0, 3, .inl (fun _ => 0)), .inl (ar 0, 4, .inl (upd (upd (upd (upd (fun _ => 0) 0 (-1)) 1 (-1)) 2 (-1)) 3 (-1)))] := A25.trans B26
  refine r_aload_n eX12_init_225 rfl ?_
  refine r_iconst (v := 4) eX12_init_226 (by decide) ?_
  refine r_mki (N := 4) (fs2 := fun q => [.ref q0, .ref q1, .ref q2, .int 0, .int (-1), .ref q3, .ref q4, .ref q5, .ref q6, .ref q7, .int 0, .int 0, .int 0, .int 0, .int 0, .int 0, .int 0, .int 0, .int 0, .int (-1), .ref q8, .ref q9, .ref q10, .ref q11, .ref q12, .ref q13, .ref q14, .ref q15, .ref q16, .ref q17, .ref q18, .ref q19, .ref q20, .ref q21, .ref q22, .int 0, .int 0, .ref q23, .ref q, .null]) eX12_init_227 eX12_init_229 p_12_91 ha26 (Nat.le_of_ble_eq_true rfl) (fun _ => ⟨rfl, rfl⟩) (fun _ => rfl) (fun _ => rfl) (by decide) (by decide) (by decide) (by omega) (by omega) (fun q24 h27 ha27 B27 => ?_)
  have A27 : Al h h27 a (cat 24 (cat 23 (cat 22 (cat 21 (cat 20 (cat 19 (cat 18 (cat 17 (cat 16 (cat 15 (cat 14 (cat 13 (cat 12 (cat 11 (cat 10 (cat 9 (cat 8 (cat 7 (cat 6 (cat 5 (cat 4 (cat 3 (cat 2 (cat 1 (cat 0 (fun _ => 0) (fun _ => q0)) (fun _ => q1)) (fun _ => q2)) (fun _ => q3)) (fun _ => q4)) (fun _ => q5)) (fun _ => q6)) (fun _ => q7)) (fun _ => q8)) (fun _ => q9)) (fun _ => q10)) (fun _ => q11)) (fun _ => q12)) (fun _ => q13)) (fun _ => q14)) (fun _ => q15)) (fun _ => q16)) (fun _ => q17)) (fun _ => q18)) (fun _ => q19)) (fun _ => q20)) (fun _ => q21)) (fun _ => q22)) (fun _ => q23)) (fun _ => q24)) [.inl (ar 0, 2988, .inl (fun _ => 0)), .inl (ar 0, 8964, .inl (fun _ => 0)), .inl (ar 2, 3, .inl (fun _ => 0)), .inl (ar 1, 4800, .inr (.inl (fun _ => 0))), .inl (ar 1, 384, .inr (.inl (fun _ => 0))), .inl (ar 2, 96, .inl (fun _ => 0)), .inl (ar 0, 120, .inl (fun _ => 0)), .inl (ar 0, 200, .inl (fun _ => 0)), .inl (ar 0, 173, .inl (fun _ => 0)), .inl (ar 1, 4, .inr (.inl (fun _ => 0))), .inl (ar 1, 4, .inr (.inl (fun _ => 0))), .inl (ar 1, 4, .inr (.inl (fun _ => 0))), .inl (ar 1, 164, .inr (.inl (fun _ => 0))), .inl (ar 1, 164, .inr (.inl (fun _ => 0))), .inl (ar 1, 4, .inr (.inl (fun _ => 0))), .inl (ar 1, 4, .inr (.inl (fun _ => 0))), .inl (ar 2, 40, .inl (fun _ => 0)), .inl (ar 2, 40, .inl (fun _ => 0)), .inl (ar 0, 240, .inl (fun _ => 0)), .inl (ar 0, 240, .inl (fun _ => 0)), .inl (ar 0, 40, .inl (fun _ => 0)), .inl (ar 1, 128, .inr (.inl (fun _ => 0))), .inl (ar 0, 3, .inl (fun _ => 0)), .inl (ar 0, 4, .inl (upd (upd (upd (upd (fun _ => 0) 0 (-1)) 1 (-1)) 2 (-1)) 3 (-1))), .inl (ar 0, 4, .inl (fun _ => 0))] := A26.trans B27
  refine r_aload_n eX12_init_232 rfl ?_
  refine r_bipush (v := 48) eX12_init_233 (by decide) ?_
  refine r_mkl (N := 48) (fs2 := fun q => [.ref q0, .ref q1, .ref q2, .int 0, .int (-1), .ref q3, .ref q4, .ref q5, .ref q6, .ref q7, .int 0, .int 0, .int 0, .int 0, .int 0, .int 0, .int 0, .int 0, .int 0, .int (-1), .ref q8, .ref q9, .ref q10, .ref q11, .ref q12, .ref q13, .ref q14, .ref q15, .ref q16, .ref q17, .ref q18, .ref q19, .ref q20, .ref q21, .ref q22, .int 0, .int 0, .ref q23, .ref q24, .ref q]) eX12_init_235 eX12_init_237 p_12_94 ha27 (Nat.le_of_ble_eq_true rfl) (fun _ => ⟨rfl, rfl⟩) (fun _ => rfl) (fun _ => rfl) (by decide) (by decide) (by decide) (by omega) (by omega) (fun q25 h28 ha28 B28 => ?_)
  have A28 : Al h h28 a (cat 25 (cat 24 (cat 23 (cat 22 (cat 21 (cat 20 (cat 19 (cat 18 (cat 17 (cat 16 (cat 15 (cat 14 (cat 13 (cat 12 (cat 11 (cat 10 (cat 9 (cat 8 (cat 7 (cat 6 (cat 5 (cat 4 (cat 3 (cat 2 (cat 1 (cat 0 (fun _ => 0) (fun _ => q0)) (fun _ => q1)) (fun _ => q2)) (fun _ => q3)) (fun _ => q4)) (fun _ => q5)) (fun _ => q6)) (fun _ => q7)) (fun _ => q8)) (fun _ => q9)) (fun _ => q10)) (fun _ => q11)) (fun _ => q12)) (fun _ => q13)) (fun _ => q14)) (fun _ => q15)) (fun _ => q16)) (fun _ => q17)) (fun _ => q18)) (fun _ => q19)) (fun _ => q20)) (fun _ => q21)) (fun _ => q22)) (fun _ => q23)) (fun _ => q24)) (fun _ => q25)) [.inl (ar 0, 2988, .inl (fun _ => 0)), .inl (ar 0, 8964, .inl (fun _ => 0)), .inl (ar 2, 3, .inl (fun _ => 0)), .inl (ar 1, 4800, .inr (.inl (fun _ => 0))), .inl (ar 1, 384, .inr (.inl (fun _ => 0))), .inl (ar 2, 96, .inl (fun _ => 0)), .inl (ar 0, 120, .inl (fun _ => 0)), .inl (ar 0, 200, .inl (fun _ => 0)), .inl (ar 0, 173, .inl (fun _ => 0)), .inl (ar 1, 4, .inr (.inl (fun _ => 0))), .inl (ar 1, 4, .inr (.inl (fun _ => 0))), .inl (ar 1, 4, .inr (.inl (fun _ => 0))), .inl (ar 1, 164, .inr (.inl (fun _ => 0))), .inl (ar 1, 164, .inr (.inl (fun _ => 0))), .inl (ar 1, 4, .inr (.inl (fun _ => 0))), .inl (ar 1, 4, .inr (.inl (fun _ => 0))), .inl (ar 2, 40, .inl (fun _ => 0)), .inl (ar 2, 40, .inl (fun _ => 0)), .inl (ar 0, 240, .inl (fun _ => 0)), .inl (ar 0, 240, .inl (fun _ => 0)), .inl (ar 0, 40, .inl (fun _ => 0)), .inl (ar 1, 128, .inr (.inl (fun _ => 0))), .inl (ar 0, 3, .inl (fun _ => 0)), .inl (ar 0, 4, .inl (upd (upd (upd (upd (fun _ => 0) 0 (-1)) 1 (-1)) 2 (-1)) 3 (-1))), .inl (ar 0, 4, .inl (fun _ => 0)), .inl (ar 1, 48, .inr (.inl (fun _ => 0)))] := A27.trans B28
  exact r_vret eX12_init_240 rfl ⟨rfl, _, A28, ha28⟩
end INITM
end
