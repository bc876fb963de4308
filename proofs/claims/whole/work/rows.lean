section
-- ===== PART A: goes FIRST, ahead of the names: the tables' words, and 'selects' of the private methods out of them =====
/-- a private method of a class that the tables say can be made, by its rows of tables_1 -/
def lw_okq (q : MethodName × Nat) : Prop := (q.1.cls ≠ "java/lang/invoke/MethodHandle" ∧ q.1.cls ≠ "java/lang/invoke/VarHandle") ∧ Cond.instantiable q.1.cls q.2 ∈ tables_1 ∧ Cond.privateMethod q.1 ∈ tables_1 ∧ Cond.instanceMethod q.1 ∈ tables_1
theorem lw_p0 : lw_okq (⟨"java/lang/Throwable", "fillInStackTrace", "(I)Ljava/lang/Throwable;"⟩, 6) := ⟨⟨by decide +kernel, by decide +kernel⟩, List.mem_of_getElem? (i := 653) (by decide +kernel), List.mem_of_getElem? (i := 651) (by decide +kernel), List.mem_of_getElem? (i := 652) (by decide +kernel)⟩
theorem lw_p1 : lw_okq (⟨"BurntOak", "needPlace", "(I)V"⟩, 12) := ⟨⟨by decide +kernel, by decide +kernel⟩, List.mem_of_getElem? (i := 35) (by decide +kernel), List.mem_of_getElem? (i := 691) (by decide +kernel), List.mem_of_getElem? (i := 692) (by decide +kernel)⟩
theorem lw_p2 : lw_okq (⟨"BurntOak", "needYears", "(II)V"⟩, 12) := ⟨⟨by decide +kernel, by decide +kernel⟩, List.mem_of_getElem? (i := 35) (by decide +kernel), List.mem_of_getElem? (i := 710) (by decide +kernel), List.mem_of_getElem? (i := 711) (by decide +kernel)⟩
theorem lw_p3 : lw_okq (⟨"BurntOak", "needState", "(I)V"⟩, 12) := ⟨⟨by decide +kernel, by decide +kernel⟩, List.mem_of_getElem? (i := 35) (by decide +kernel), List.mem_of_getElem? (i := 751) (by decide +kernel), List.mem_of_getElem? (i := 752) (by decide +kernel)⟩
theorem lw_p4 : lw_okq (⟨"BurntOak", "needYear", "(I)V"⟩, 12) := ⟨⟨by decide +kernel, by decide +kernel⟩, List.mem_of_getElem? (i := 35) (by decide +kernel), List.mem_of_getElem? (i := 762) (by decide +kernel), List.mem_of_getElem? (i := 763) (by decide +kernel)⟩
theorem lw_p5 : lw_okq (⟨"BurntOak$YearMap", "isThere", "(III)Z"⟩, 12) := ⟨⟨by decide +kernel, by decide +kernel⟩, List.mem_of_getElem? (i := 223) (by decide +kernel), List.mem_of_getElem? (i := 774) (by decide +kernel), List.mem_of_getElem? (i := 775) (by decide +kernel)⟩
theorem lw_p6 : lw_okq (⟨"BurntOak$YearMap", "layWays", "(J)V"⟩, 12) := ⟨⟨by decide +kernel, by decide +kernel⟩, List.mem_of_getElem? (i := 223) (by decide +kernel), List.mem_of_getElem? (i := 784) (by decide +kernel), List.mem_of_getElem? (i := 785) (by decide +kernel)⟩
theorem lw_p7 : lw_okq (⟨"BurntOak$YearMap", "addWay", "(I)V"⟩, 12) := ⟨⟨by decide +kernel, by decide +kernel⟩, List.mem_of_getElem? (i := 223) (by decide +kernel), List.mem_of_getElem? (i := 794) (by decide +kernel), List.mem_of_getElem? (i := 795) (by decide +kernel)⟩
theorem lw_p8 : lw_okq (⟨"BurntOak$YearMap", "addMark", "(IJZ)V"⟩, 12) := ⟨⟨by decide +kernel, by decide +kernel⟩, List.mem_of_getElem? (i := 223) (by decide +kernel), List.mem_of_getElem? (i := 798) (by decide +kernel), List.mem_of_getElem? (i := 799) (by decide +kernel)⟩
theorem lw_p9 : lw_okq (⟨"BurntOak", "needTongue", "(I)V"⟩, 12) := ⟨⟨by decide +kernel, by decide +kernel⟩, List.mem_of_getElem? (i := 35) (by decide +kernel), List.mem_of_getElem? (i := 1130) (by decide +kernel), List.mem_of_getElem? (i := 1131) (by decide +kernel)⟩
theorem lw_p10 : lw_okq (⟨"BurntOak", "needName", "(I)V"⟩, 12) := ⟨⟨by decide +kernel, by decide +kernel⟩, List.mem_of_getElem? (i := 35) (by decide +kernel), List.mem_of_getElem? (i := 1134) (by decide +kernel), List.mem_of_getElem? (i := 1135) (by decide +kernel)⟩
theorem lw_p11 : lw_okq (⟨"BurntOak", "needKinds", "(I)V"⟩, 12) := ⟨⟨by decide +kernel, by decide +kernel⟩, List.mem_of_getElem? (i := 35) (by decide +kernel), List.mem_of_getElem? (i := 1138) (by decide +kernel), List.mem_of_getElem? (i := 1139) (by decide +kernel)⟩
theorem lw_p12 : lw_okq (⟨"BurntOak", "needWalker", "(I)V"⟩, 12) := ⟨⟨by decide +kernel, by decide +kernel⟩, List.mem_of_getElem? (i := 35) (by decide +kernel), List.mem_of_getElem? (i := 1160) (by decide +kernel), List.mem_of_getElem? (i := 1161) (by decide +kernel)⟩
theorem lw_p13 : lw_okq (⟨"BurntOak", "setOut", "(II)V"⟩, 12) := ⟨⟨by decide +kernel, by decide +kernel⟩, List.mem_of_getElem? (i := 35) (by decide +kernel), List.mem_of_getElem? (i := 1164) (by decide +kernel), List.mem_of_getElem? (i := 1165) (by decide +kernel)⟩
theorem lw_p14 : lw_okq (⟨"BurntOak", "needWalkers", "(I)V"⟩, 12) := ⟨⟨by decide +kernel, by decide +kernel⟩, List.mem_of_getElem? (i := 35) (by decide +kernel), List.mem_of_getElem? (i := 1205) (by decide +kernel), List.mem_of_getElem? (i := 1206) (by decide +kernel)⟩
theorem lw_p15 : lw_okq (⟨"BurntOak", "needTeller", "(I)V"⟩, 12) := ⟨⟨by decide +kernel, by decide +kernel⟩, List.mem_of_getElem? (i := 35) (by decide +kernel), List.mem_of_getElem? (i := 1226) (by decide +kernel), List.mem_of_getElem? (i := 1227) (by decide +kernel)⟩
def lw_privs_1 : List (MethodName × Nat) := [(⟨"java/lang/Throwable", "fillInStackTrace", "(I)Ljava/lang/Throwable;"⟩, 6), (⟨"BurntOak", "needPlace", "(I)V"⟩, 12), (⟨"BurntOak", "needYears", "(II)V"⟩, 12), (⟨"BurntOak", "needState", "(I)V"⟩, 12), (⟨"BurntOak", "needYear", "(I)V"⟩, 12), (⟨"BurntOak$YearMap", "isThere", "(III)Z"⟩, 12), (⟨"BurntOak$YearMap", "layWays", "(J)V"⟩, 12), (⟨"BurntOak$YearMap", "addWay", "(I)V"⟩, 12), (⟨"BurntOak$YearMap", "addMark", "(IJZ)V"⟩, 12), (⟨"BurntOak", "needTongue", "(I)V"⟩, 12), (⟨"BurntOak", "needName", "(I)V"⟩, 12), (⟨"BurntOak", "needKinds", "(I)V"⟩, 12), (⟨"BurntOak", "needWalker", "(I)V"⟩, 12), (⟨"BurntOak", "setOut", "(II)V"⟩, 12), (⟨"BurntOak", "needWalkers", "(I)V"⟩, 12), (⟨"BurntOak", "needTeller", "(I)V"⟩, 12)]
theorem lw_r1 : ∀ q ∈ lw_privs_1, lw_okq q := List.forall_mem_cons.mpr ⟨lw_p0, List.forall_mem_cons.mpr ⟨lw_p1, List.forall_mem_cons.mpr ⟨lw_p2, List.forall_mem_cons.mpr ⟨lw_p3, List.forall_mem_cons.mpr ⟨lw_p4, List.forall_mem_cons.mpr ⟨lw_p5, List.forall_mem_cons.mpr ⟨lw_p6, List.forall_mem_cons.mpr ⟨lw_p7, List.forall_mem_cons.mpr ⟨lw_p8, List.forall_mem_cons.mpr ⟨lw_p9, List.forall_mem_cons.mpr ⟨lw_p10, List.forall_mem_cons.mpr ⟨lw_p11, List.forall_mem_cons.mpr ⟨lw_p12, List.forall_mem_cons.mpr ⟨lw_p13, List.forall_mem_cons.mpr ⟨lw_p14, List.forall_mem_cons.mpr ⟨lw_p15, fun _ h => absurd h List.not_mem_nil⟩⟩⟩⟩⟩⟩⟩⟩⟩⟩⟩⟩⟩⟩⟩⟩
theorem lw_p16 : lw_okq (⟨"BurntOak$Reader", "scan", "(I)V"⟩, 14) := ⟨⟨by decide +kernel, by decide +kernel⟩, List.mem_of_getElem? (i := 449) (by decide +kernel), List.mem_of_getElem? (i := 1237) (by decide +kernel), List.mem_of_getElem? (i := 1238) (by decide +kernel)⟩
theorem lw_p17 : lw_okq (⟨"BurntOak$Reader", "scanNumber", "(I)V"⟩, 14) := ⟨⟨by decide +kernel, by decide +kernel⟩, List.mem_of_getElem? (i := 449) (by decide +kernel), List.mem_of_getElem? (i := 1241) (by decide +kernel), List.mem_of_getElem? (i := 1242) (by decide +kernel)⟩
theorem lw_p18 : lw_okq (⟨"BurntOak$Reader", "scanWord", "(I)V"⟩, 14) := ⟨⟨by decide +kernel, by decide +kernel⟩, List.mem_of_getElem? (i := 449) (by decide +kernel), List.mem_of_getElem? (i := 1245) (by decide +kernel), List.mem_of_getElem? (i := 1246) (by decide +kernel)⟩
theorem lw_p19 : lw_okq (⟨"BurntOak$Reader", "isWord", "(I)Z"⟩, 14) := ⟨⟨by decide +kernel, by decide +kernel⟩, List.mem_of_getElem? (i := 449) (by decide +kernel), List.mem_of_getElem? (i := 1249) (by decide +kernel), List.mem_of_getElem? (i := 1250) (by decide +kernel)⟩
theorem lw_p20 : lw_okq (⟨"BurntOak$Reader", "take", "()I"⟩, 14) := ⟨⟨by decide +kernel, by decide +kernel⟩, List.mem_of_getElem? (i := 449) (by decide +kernel), List.mem_of_getElem? (i := 1278) (by decide +kernel), List.mem_of_getElem? (i := 1279) (by decide +kernel)⟩
theorem lw_p21 : lw_okq (⟨"BurntOak$Reader", "takeFirst", "()I"⟩, 14) := ⟨⟨by decide +kernel, by decide +kernel⟩, List.mem_of_getElem? (i := 449) (by decide +kernel), List.mem_of_getElem? (i := 1282) (by decide +kernel), List.mem_of_getElem? (i := 1283) (by decide +kernel)⟩
theorem lw_p22 : lw_okq (⟨"BurntOak$Reader", "takeWord", "()I"⟩, 14) := ⟨⟨by decide +kernel, by decide +kernel⟩, List.mem_of_getElem? (i := 449) (by decide +kernel), List.mem_of_getElem? (i := 1286) (by decide +kernel), List.mem_of_getElem? (i := 1287) (by decide +kernel)⟩
theorem lw_p23 : lw_okq (⟨"BurntOak$Reader", "await", "(II)I"⟩, 14) := ⟨⟨by decide +kernel, by decide +kernel⟩, List.mem_of_getElem? (i := 449) (by decide +kernel), List.mem_of_getElem? (i := 1290) (by decide +kernel), List.mem_of_getElem? (i := 1291) (by decide +kernel)⟩
theorem lw_p24 : lw_okq (⟨"BurntOak$Reader", "keep", "(II)I"⟩, 14) := ⟨⟨by decide +kernel, by decide +kernel⟩, List.mem_of_getElem? (i := 449) (by decide +kernel), List.mem_of_getElem? (i := 1297) (by decide +kernel), List.mem_of_getElem? (i := 1298) (by decide +kernel)⟩
theorem lw_p25 : lw_okq (⟨"BurntOak$Reader", "isBadNumber", "()Z"⟩, 14) := ⟨⟨by decide +kernel, by decide +kernel⟩, List.mem_of_getElem? (i := 449) (by decide +kernel), List.mem_of_getElem? (i := 1301) (by decide +kernel), List.mem_of_getElem? (i := 1302) (by decide +kernel)⟩
theorem lw_p26 : lw_okq (⟨"BurntOak$Reader", "takeAmount", "(I)I"⟩, 14) := ⟨⟨by decide +kernel, by decide +kernel⟩, List.mem_of_getElem? (i := 449) (by decide +kernel), List.mem_of_getElem? (i := 1305) (by decide +kernel), List.mem_of_getElem? (i := 1306) (by decide +kernel)⟩
theorem lw_p27 : lw_okq (⟨"BurntOak$Reader", "takeSide", "()I"⟩, 14) := ⟨⟨by decide +kernel, by decide +kernel⟩, List.mem_of_getElem? (i := 449) (by decide +kernel), List.mem_of_getElem? (i := 1309) (by decide +kernel), List.mem_of_getElem? (i := 1310) (by decide +kernel)⟩
theorem lw_p28 : lw_okq (⟨"BurntOak$Reader", "takeMore", "()I"⟩, 14) := ⟨⟨by decide +kernel, by decide +kernel⟩, List.mem_of_getElem? (i := 449) (by decide +kernel), List.mem_of_getElem? (i := 1313) (by decide +kernel), List.mem_of_getElem? (i := 1314) (by decide +kernel)⟩
theorem lw_p29 : lw_okq (⟨"BurntOak", "needTelling", "(I)V"⟩, 12) := ⟨⟨by decide +kernel, by decide +kernel⟩, List.mem_of_getElem? (i := 35) (by decide +kernel), List.mem_of_getElem? (i := 1329) (by decide +kernel), List.mem_of_getElem? (i := 1330) (by decide +kernel)⟩
theorem lw_p30 : lw_okq (⟨"BurntOak", "needTold", "(IIII)V"⟩, 12) := ⟨⟨by decide +kernel, by decide +kernel⟩, List.mem_of_getElem? (i := 35) (by decide +kernel), List.mem_of_getElem? (i := 1340) (by decide +kernel), List.mem_of_getElem? (i := 1341) (by decide +kernel)⟩
theorem lw_p31 : lw_okq (⟨"BurntOak$Walk", "goTimes", "(I[IILBurntOak$States;)V"⟩, 10) := ⟨⟨by decide +kernel, by decide +kernel⟩, List.mem_of_getElem? (i := 277) (by decide +kernel), List.mem_of_getElem? (i := 1367) (by decide +kernel), List.mem_of_getElem? (i := 1368) (by decide +kernel)⟩
def lw_privs_2 : List (MethodName × Nat) := [(⟨"BurntOak$Reader", "scan", "(I)V"⟩, 14), (⟨"BurntOak$Reader", "scanNumber", "(I)V"⟩, 14), (⟨"BurntOak$Reader", "scanWord", "(I)V"⟩, 14), (⟨"BurntOak$Reader", "isWord", "(I)Z"⟩, 14), (⟨"BurntOak$Reader", "take", "()I"⟩, 14), (⟨"BurntOak$Reader", "takeFirst", "()I"⟩, 14), (⟨"BurntOak$Reader", "takeWord", "()I"⟩, 14), (⟨"BurntOak$Reader", "await", "(II)I"⟩, 14), (⟨"BurntOak$Reader", "keep", "(II)I"⟩, 14), (⟨"BurntOak$Reader", "isBadNumber", "()Z"⟩, 14), (⟨"BurntOak$Reader", "takeAmount", "(I)I"⟩, 14), (⟨"BurntOak$Reader", "takeSide", "()I"⟩, 14), (⟨"BurntOak$Reader", "takeMore", "()I"⟩, 14), (⟨"BurntOak", "needTelling", "(I)V"⟩, 12), (⟨"BurntOak", "needTold", "(IIII)V"⟩, 12), (⟨"BurntOak$Walk", "goTimes", "(I[IILBurntOak$States;)V"⟩, 10)]
theorem lw_r2 : ∀ q ∈ lw_privs_2, lw_okq q := List.forall_mem_cons.mpr ⟨lw_p16, List.forall_mem_cons.mpr ⟨lw_p17, List.forall_mem_cons.mpr ⟨lw_p18, List.forall_mem_cons.mpr ⟨lw_p19, List.forall_mem_cons.mpr ⟨lw_p20, List.forall_mem_cons.mpr ⟨lw_p21, List.forall_mem_cons.mpr ⟨lw_p22, List.forall_mem_cons.mpr ⟨lw_p23, List.forall_mem_cons.mpr ⟨lw_p24, List.forall_mem_cons.mpr ⟨lw_p25, List.forall_mem_cons.mpr ⟨lw_p26, List.forall_mem_cons.mpr ⟨lw_p27, List.forall_mem_cons.mpr ⟨lw_p28, List.forall_mem_cons.mpr ⟨lw_p29, List.forall_mem_cons.mpr ⟨lw_p30, List.forall_mem_cons.mpr ⟨lw_p31, fun _ h => absurd h List.not_mem_nil⟩⟩⟩⟩⟩⟩⟩⟩⟩⟩⟩⟩⟩⟩⟩⟩
theorem lw_p32 : lw_okq (⟨"BurntOak$Steps", "clearNow", "()V"⟩, 11) := ⟨⟨by decide +kernel, by decide +kernel⟩, List.mem_of_getElem? (i := 294) (by decide +kernel), List.mem_of_getElem? (i := 1375) (by decide +kernel), List.mem_of_getElem? (i := 1376) (by decide +kernel)⟩
theorem lw_p33 : lw_okq (⟨"BurntOak$Steps", "carry", "(IJ)V"⟩, 11) := ⟨⟨by decide +kernel, by decide +kernel⟩, List.mem_of_getElem? (i := 294) (by decide +kernel), List.mem_of_getElem? (i := 1384) (by decide +kernel), List.mem_of_getElem? (i := 1385) (by decide +kernel)⟩
theorem lw_p34 : lw_okq (⟨"BurntOak$Walk", "goUntil", "(J[IIZLBurntOak$States;)V"⟩, 10) := ⟨⟨by decide +kernel, by decide +kernel⟩, List.mem_of_getElem? (i := 277) (by decide +kernel), List.mem_of_getElem? (i := 1390) (by decide +kernel), List.mem_of_getElem? (i := 1391) (by decide +kernel)⟩
theorem lw_p35 : lw_okq (⟨"BurntOak$Walk", "goFar", "(I[IILBurntOak$States;)V"⟩, 10) := ⟨⟨by decide +kernel, by decide +kernel⟩, List.mem_of_getElem? (i := 277) (by decide +kernel), List.mem_of_getElem? (i := 1397) (by decide +kernel), List.mem_of_getElem? (i := 1398) (by decide +kernel)⟩
theorem lw_p36 : lw_okq (⟨"BurntOak$Walk", "staySeeing", "(J[IILBurntOak$States;)V"⟩, 10) := ⟨⟨by decide +kernel, by decide +kernel⟩, List.mem_of_getElem? (i := 277) (by decide +kernel), List.mem_of_getElem? (i := 1402) (by decide +kernel), List.mem_of_getElem? (i := 1403) (by decide +kernel)⟩
theorem lw_p37 : lw_okq (⟨"BurntOak$Walk", "stayAheadOf", "(J[IILBurntOak$States;)V"⟩, 10) := ⟨⟨by decide +kernel, by decide +kernel⟩, List.mem_of_getElem? (i := 277) (by decide +kernel), List.mem_of_getElem? (i := 1406) (by decide +kernel), List.mem_of_getElem? (i := 1407) (by decide +kernel)⟩
theorem lw_p38 : lw_okq (⟨"BurntOak$Walk", "goBack", "([IILBurntOak$States;)V"⟩, 10) := ⟨⟨by decide +kernel, by decide +kernel⟩, List.mem_of_getElem? (i := 277) (by decide +kernel), List.mem_of_getElem? (i := 1411) (by decide +kernel), List.mem_of_getElem? (i := 1412) (by decide +kernel)⟩
theorem lw_p39 : lw_okq (⟨"BurntOak$Walk", "sideOf", "(II)I"⟩, 10) := ⟨⟨by decide +kernel, by decide +kernel⟩, List.mem_of_getElem? (i := 277) (by decide +kernel), List.mem_of_getElem? (i := 1415) (by decide +kernel), List.mem_of_getElem? (i := 1416) (by decide +kernel)⟩
theorem lw_p40 : lw_okq (⟨"BurntOak$Walk", "turn", "(I[IILBurntOak$States;)V"⟩, 10) := ⟨⟨by decide +kernel, by decide +kernel⟩, List.mem_of_getElem? (i := 277) (by decide +kernel), List.mem_of_getElem? (i := 1419) (by decide +kernel), List.mem_of_getElem? (i := 1420) (by decide +kernel)⟩
theorem lw_p41 : lw_okq (⟨"BurntOak$Walk", "turnAt", "(IIJLBurntOak$States;)V"⟩, 10) := ⟨⟨by decide +kernel, by decide +kernel⟩, List.mem_of_getElem? (i := 277) (by decide +kernel), List.mem_of_getElem? (i := 1423) (by decide +kernel), List.mem_of_getElem? (i := 1424) (by decide +kernel)⟩
theorem lw_p42 : lw_okq (⟨"BurntOak$Odds", "share", "(ILBurntOak$States;[I)V"⟩, 8) := ⟨⟨by decide +kernel, by decide +kernel⟩, List.mem_of_getElem? (i := 372) (by decide +kernel), List.mem_of_getElem? (i := 1490) (by decide +kernel), List.mem_of_getElem? (i := 1491) (by decide +kernel)⟩
theorem lw_p43 : lw_okq (⟨"BurntOak$Odds", "sumUp", "([I)V"⟩, 8) := ⟨⟨by decide +kernel, by decide +kernel⟩, List.mem_of_getElem? (i := 372) (by decide +kernel), List.mem_of_getElem? (i := 1534) (by decide +kernel), List.mem_of_getElem? (i := 1535) (by decide +kernel)⟩
theorem lw_p44 : lw_okq (⟨"BurntOak", "lossBehind", "(IIIII)I"⟩, 12) := ⟨⟨by decide +kernel, by decide +kernel⟩, List.mem_of_getElem? (i := 35) (by decide +kernel), List.mem_of_getElem? (i := 1547) (by decide +kernel), List.mem_of_getElem? (i := 1548) (by decide +kernel)⟩
theorem lw_p45 : lw_okq (⟨"BurntOak$Finder", "search", "(II)Z"⟩, 11) := ⟨⟨by decide +kernel, by decide +kernel⟩, List.mem_of_getElem? (i := 405) (by decide +kernel), List.mem_of_getElem? (i := 1573) (by decide +kernel), List.mem_of_getElem? (i := 1574) (by decide +kernel)⟩
theorem lw_p46 : lw_okq (⟨"BurntOak$Finder", "arriving", "(III)I"⟩, 11) := ⟨⟨by decide +kernel, by decide +kernel⟩, List.mem_of_getElem? (i := 405) (by decide +kernel), List.mem_of_getElem? (i := 1578) (by decide +kernel), List.mem_of_getElem? (i := 1579) (by decide +kernel)⟩
theorem lw_p47 : lw_okq (⟨"BurntOak$Finder", "judge", "(II)V"⟩, 11) := ⟨⟨by decide +kernel, by decide +kernel⟩, List.mem_of_getElem? (i := 405) (by decide +kernel), List.mem_of_getElem? (i := 1596) (by decide +kernel), List.mem_of_getElem? (i := 1597) (by decide +kernel)⟩
def lw_privs_3 : List (MethodName × Nat) := [(⟨"BurntOak$Steps", "clearNow", "()V"⟩, 11), (⟨"BurntOak$Steps", "carry", "(IJ)V"⟩, 11), (⟨"BurntOak$Walk", "goUntil", "(J[IIZLBurntOak$States;)V"⟩, 10), (⟨"BurntOak$Walk", "goFar", "(I[IILBurntOak$States;)V"⟩, 10), (⟨"BurntOak$Walk", "staySeeing", "(J[IILBurntOak$States;)V"⟩, 10), (⟨"BurntOak$Walk", "stayAheadOf", "(J[IILBurntOak$States;)V"⟩, 10), (⟨"BurntOak$Walk", "goBack", "([IILBurntOak$States;)V"⟩, 10), (⟨"BurntOak$Walk", "sideOf", "(II)I"⟩, 10), (⟨"BurntOak$Walk", "turn", "(I[IILBurntOak$States;)V"⟩, 10), (⟨"BurntOak$Walk", "turnAt", "(IIJLBurntOak$States;)V"⟩, 10), (⟨"BurntOak$Odds", "share", "(ILBurntOak$States;[I)V"⟩, 8), (⟨"BurntOak$Odds", "sumUp", "([I)V"⟩, 8), (⟨"BurntOak", "lossBehind", "(IIIII)I"⟩, 12), (⟨"BurntOak$Finder", "search", "(II)Z"⟩, 11), (⟨"BurntOak$Finder", "arriving", "(III)I"⟩, 11), (⟨"BurntOak$Finder", "judge", "(II)V"⟩, 11)]
theorem lw_r3 : ∀ q ∈ lw_privs_3, lw_okq q := List.forall_mem_cons.mpr ⟨lw_p32, List.forall_mem_cons.mpr ⟨lw_p33, List.forall_mem_cons.mpr ⟨lw_p34, List.forall_mem_cons.mpr ⟨lw_p35, List.forall_mem_cons.mpr ⟨lw_p36, List.forall_mem_cons.mpr ⟨lw_p37, List.forall_mem_cons.mpr ⟨lw_p38, List.forall_mem_cons.mpr ⟨lw_p39, List.forall_mem_cons.mpr ⟨lw_p40, List.forall_mem_cons.mpr ⟨lw_p41, List.forall_mem_cons.mpr ⟨lw_p42, List.forall_mem_cons.mpr ⟨lw_p43, List.forall_mem_cons.mpr ⟨lw_p44, List.forall_mem_cons.mpr ⟨lw_p45, List.forall_mem_cons.mpr ⟨lw_p46, List.forall_mem_cons.mpr ⟨lw_p47, fun _ h => absurd h List.not_mem_nil⟩⟩⟩⟩⟩⟩⟩⟩⟩⟩⟩⟩⟩⟩⟩⟩
theorem lw_p48 : lw_okq (⟨"BurntOak$Finder", "allGoOn", "(II)Z"⟩, 11) := ⟨⟨by decide +kernel, by decide +kernel⟩, List.mem_of_getElem? (i := 405) (by decide +kernel), List.mem_of_getElem? (i := 1601) (by decide +kernel), List.mem_of_getElem? (i := 1602) (by decide +kernel)⟩
theorem lw_p49 : lw_okq (⟨"BurntOak", "kindsThatFit", "(III)I"⟩, 12) := ⟨⟨by decide +kernel, by decide +kernel⟩, List.mem_of_getElem? (i := 35) (by decide +kernel), List.mem_of_getElem? (i := 1625) (by decide +kernel), List.mem_of_getElem? (i := 1626) (by decide +kernel)⟩
theorem lw_p50 : lw_okq (⟨"BurntOak", "needTray", "(I)V"⟩, 12) := ⟨⟨by decide +kernel, by decide +kernel⟩, List.mem_of_getElem? (i := 35) (by decide +kernel), List.mem_of_getElem? (i := 1648) (by decide +kernel), List.mem_of_getElem? (i := 1649) (by decide +kernel)⟩
theorem lw_p51 : lw_okq (⟨"BurntOak", "needLaid", "(I)V"⟩, 12) := ⟨⟨by decide +kernel, by decide +kernel⟩, List.mem_of_getElem? (i := 35) (by decide +kernel), List.mem_of_getElem? (i := 1666) (by decide +kernel), List.mem_of_getElem? (i := 1667) (by decide +kernel)⟩
theorem lw_p52 : lw_okq (⟨"BurntOak", "needImage", "(I)V"⟩, 12) := ⟨⟨by decide +kernel, by decide +kernel⟩, List.mem_of_getElem? (i := 35) (by decide +kernel), List.mem_of_getElem? (i := 1729) (by decide +kernel), List.mem_of_getElem? (i := 1730) (by decide +kernel)⟩
theorem lw_p53 : lw_okq (⟨"BurntOakModel", "fails", "(I)I"⟩, 40) := ⟨⟨by decide +kernel, by decide +kernel⟩, List.mem_of_getElem? (i := 1754) (by decide +kernel), List.mem_of_getElem? (i := 1893) (by decide +kernel), List.mem_of_getElem? (i := 1894) (by decide +kernel)⟩
theorem lw_p54 : lw_okq (⟨"BurntOakModel", "more", "(I)I"⟩, 40) := ⟨⟨by decide +kernel, by decide +kernel⟩, List.mem_of_getElem? (i := 1754) (by decide +kernel), List.mem_of_getElem? (i := 1897) (by decide +kernel), List.mem_of_getElem? (i := 1898) (by decide +kernel)⟩
theorem lw_p55 : lw_okq (⟨"BurntOakModel", "isPlace", "(I)Z"⟩, 40) := ⟨⟨by decide +kernel, by decide +kernel⟩, List.mem_of_getElem? (i := 1754) (by decide +kernel), List.mem_of_getElem? (i := 1905) (by decide +kernel), List.mem_of_getElem? (i := 1906) (by decide +kernel)⟩
theorem lw_p56 : lw_okq (⟨"BurntOakModel", "is", "(II)Z"⟩, 40) := ⟨⟨by decide +kernel, by decide +kernel⟩, List.mem_of_getElem? (i := 1754) (by decide +kernel), List.mem_of_getElem? (i := 1909) (by decide +kernel), List.mem_of_getElem? (i := 1910) (by decide +kernel)⟩
theorem lw_p57 : lw_okq (⟨"BurntOakModel", "wayOf", "(II)I"⟩, 40) := ⟨⟨by decide +kernel, by decide +kernel⟩, List.mem_of_getElem? (i := 1754) (by decide +kernel), List.mem_of_getElem? (i := 1918) (by decide +kernel), List.mem_of_getElem? (i := 1919) (by decide +kernel)⟩
theorem lw_p58 : lw_okq (⟨"BurntOakModel", "isState", "(I)Z"⟩, 40) := ⟨⟨by decide +kernel, by decide +kernel⟩, List.mem_of_getElem? (i := 1754) (by decide +kernel), List.mem_of_getElem? (i := 1938) (by decide +kernel), List.mem_of_getElem? (i := 1939) (by decide +kernel)⟩
theorem lw_p59 : lw_okq (⟨"BurntOakModel", "placeOf", "(I)I"⟩, 40) := ⟨⟨by decide +kernel, by decide +kernel⟩, List.mem_of_getElem? (i := 1754) (by decide +kernel), List.mem_of_getElem? (i := 1942) (by decide +kernel), List.mem_of_getElem? (i := 1943) (by decide +kernel)⟩
theorem lw_p60 : lw_okq (⟨"BurntOakModel", "endOf", "(II)I"⟩, 40) := ⟨⟨by decide +kernel, by decide +kernel⟩, List.mem_of_getElem? (i := 1754) (by decide +kernel), List.mem_of_getElem? (i := 1946) (by decide +kernel), List.mem_of_getElem? (i := 1947) (by decide +kernel)⟩
theorem lw_p61 : lw_okq (⟨"BurntOakModel", "isOut", "(III)Z"⟩, 40) := ⟨⟨by decide +kernel, by decide +kernel⟩, List.mem_of_getElem? (i := 1754) (by decide +kernel), List.mem_of_getElem? (i := 1954) (by decide +kernel), List.mem_of_getElem? (i := 1955) (by decide +kernel)⟩
theorem lw_p62 : lw_okq (⟨"BurntOakModel", "isThere", "(II)Z"⟩, 40) := ⟨⟨by decide +kernel, by decide +kernel⟩, List.mem_of_getElem? (i := 1754) (by decide +kernel), List.mem_of_getElem? (i := 1958) (by decide +kernel), List.mem_of_getElem? (i := 1959) (by decide +kernel)⟩
theorem lw_p63 : lw_okq (⟨"BurntOakModel", "cross", "(II)I"⟩, 40) := ⟨⟨by decide +kernel, by decide +kernel⟩, List.mem_of_getElem? (i := 1754) (by decide +kernel), List.mem_of_getElem? (i := 1962) (by decide +kernel), List.mem_of_getElem? (i := 1963) (by decide +kernel)⟩
def lw_privs_4 : List (MethodName × Nat) := [(⟨"BurntOak$Finder", "allGoOn", "(II)Z"⟩, 11), (⟨"BurntOak", "kindsThatFit", "(III)I"⟩, 12), (⟨"BurntOak", "needTray", "(I)V"⟩, 12), (⟨"BurntOak", "needLaid", "(I)V"⟩, 12), (⟨"BurntOak", "needImage", "(I)V"⟩, 12), (⟨"BurntOakModel", "fails", "(I)I"⟩, 40), (⟨"BurntOakModel", "more", "(I)I"⟩, 40), (⟨"BurntOakModel", "isPlace", "(I)Z"⟩, 40), (⟨"BurntOakModel", "is", "(II)Z"⟩, 40), (⟨"BurntOakModel", "wayOf", "(II)I"⟩, 40), (⟨"BurntOakModel", "isState", "(I)Z"⟩, 40), (⟨"BurntOakModel", "placeOf", "(I)I"⟩, 40), (⟨"BurntOakModel", "endOf", "(II)I"⟩, 40), (⟨"BurntOakModel", "isOut", "(III)Z"⟩, 40), (⟨"BurntOakModel", "isThere", "(II)Z"⟩, 40), (⟨"BurntOakModel", "cross", "(II)I"⟩, 40)]
theorem lw_r4 : ∀ q ∈ lw_privs_4, lw_okq q := List.forall_mem_cons.mpr ⟨lw_p48, List.forall_mem_cons.mpr ⟨lw_p49, List.forall_mem_cons.mpr ⟨lw_p50, List.forall_mem_cons.mpr ⟨lw_p51, List.forall_mem_cons.mpr ⟨lw_p52, List.forall_mem_cons.mpr ⟨lw_p53, List.forall_mem_cons.mpr ⟨lw_p54, List.forall_mem_cons.mpr ⟨lw_p55, List.forall_mem_cons.mpr ⟨lw_p56, List.forall_mem_cons.mpr ⟨lw_p57, List.forall_mem_cons.mpr ⟨lw_p58, List.forall_mem_cons.mpr ⟨lw_p59, List.forall_mem_cons.mpr ⟨lw_p60, List.forall_mem_cons.mpr ⟨lw_p61, List.forall_mem_cons.mpr ⟨lw_p62, List.forall_mem_cons.mpr ⟨lw_p63, fun _ h => absurd h List.not_mem_nil⟩⟩⟩⟩⟩⟩⟩⟩⟩⟩⟩⟩⟩⟩⟩⟩
theorem lw_p64 : lw_okq (⟨"BurntOakModel", "alongX", "(I)I"⟩, 40) := ⟨⟨by decide +kernel, by decide +kernel⟩, List.mem_of_getElem? (i := 1754) (by decide +kernel), List.mem_of_getElem? (i := 1966) (by decide +kernel), List.mem_of_getElem? (i := 1967) (by decide +kernel)⟩
theorem lw_p65 : lw_okq (⟨"BurntOakModel", "alongY", "(I)I"⟩, 40) := ⟨⟨by decide +kernel, by decide +kernel⟩, List.mem_of_getElem? (i := 1754) (by decide +kernel), List.mem_of_getElem? (i := 1970) (by decide +kernel), List.mem_of_getElem? (i := 1971) (by decide +kernel)⟩
theorem lw_p66 : lw_okq (⟨"BurntOakModel", "lay", "(I)V"⟩, 40) := ⟨⟨by decide +kernel, by decide +kernel⟩, List.mem_of_getElem? (i := 1754) (by decide +kernel), List.mem_of_getElem? (i := 1978) (by decide +kernel), List.mem_of_getElem? (i := 1979) (by decide +kernel)⟩
theorem lw_p67 : lw_okq (⟨"BurntOakModel", "layOne", "(II)V"⟩, 40) := ⟨⟨by decide +kernel, by decide +kernel⟩, List.mem_of_getElem? (i := 1754) (by decide +kernel), List.mem_of_getElem? (i := 1982) (by decide +kernel), List.mem_of_getElem? (i := 1983) (by decide +kernel)⟩
theorem lw_p68 : lw_okq (⟨"BurntOakModel", "isLessTurned", "(III)Z"⟩, 40) := ⟨⟨by decide +kernel, by decide +kernel⟩, List.mem_of_getElem? (i := 1754) (by decide +kernel), List.mem_of_getElem? (i := 1992) (by decide +kernel), List.mem_of_getElem? (i := 1993) (by decide +kernel)⟩
theorem lw_p69 : lw_okq (⟨"BurntOakModel", "dots", "(II)J"⟩, 40) := ⟨⟨by decide +kernel, by decide +kernel⟩, List.mem_of_getElem? (i := 1754) (by decide +kernel), List.mem_of_getElem? (i := 1996) (by decide +kernel), List.mem_of_getElem? (i := 1997) (by decide +kernel)⟩
theorem lw_p70 : lw_okq (⟨"BurntOakModel", "sizes", "(I)J"⟩, 40) := ⟨⟨by decide +kernel, by decide +kernel⟩, List.mem_of_getElem? (i := 1754) (by decide +kernel), List.mem_of_getElem? (i := 2000) (by decide +kernel), List.mem_of_getElem? (i := 2001) (by decide +kernel)⟩
theorem lw_p71 : lw_okq (⟨"BurntOakModel", "isWalker", "(I)Z"⟩, 40) := ⟨⟨by decide +kernel, by decide +kernel⟩, List.mem_of_getElem? (i := 1754) (by decide +kernel), List.mem_of_getElem? (i := 2031) (by decide +kernel), List.mem_of_getElem? (i := 2032) (by decide +kernel)⟩
theorem lw_p72 : lw_okq (⟨"BurntOakModel", "fell", "(I)Z"⟩, 40) := ⟨⟨by decide +kernel, by decide +kernel⟩, List.mem_of_getElem? (i := 1754) (by decide +kernel), List.mem_of_getElem? (i := 2035) (by decide +kernel), List.mem_of_getElem? (i := 2036) (by decide +kernel)⟩
theorem lw_p73 : lw_okq (⟨"BurntOakModel", "isSeenAt", "(IIII)Z"⟩, 40) := ⟨⟨by decide +kernel, by decide +kernel⟩, List.mem_of_getElem? (i := 1754) (by decide +kernel), List.mem_of_getElem? (i := 2039) (by decide +kernel), List.mem_of_getElem? (i := 2040) (by decide +kernel)⟩
theorem lw_p74 : lw_okq (⟨"BurntOakModel", "standsAt", "(IIII)Z"⟩, 40) := ⟨⟨by decide +kernel, by decide +kernel⟩, List.mem_of_getElem? (i := 1754) (by decide +kernel), List.mem_of_getElem? (i := 2043) (by decide +kernel), List.mem_of_getElem? (i := 2044) (by decide +kernel)⟩
theorem lw_p75 : lw_okq (⟨"BurntOakModel", "kindsOf", "(II)I"⟩, 40) := ⟨⟨by decide +kernel, by decide +kernel⟩, List.mem_of_getElem? (i := 1754) (by decide +kernel), List.mem_of_getElem? (i := 2047) (by decide +kernel), List.mem_of_getElem? (i := 2048) (by decide +kernel)⟩
theorem lw_p76 : lw_okq (⟨"BurntOakModel", "isMark", "(III)Z"⟩, 40) := ⟨⟨by decide +kernel, by decide +kernel⟩, List.mem_of_getElem? (i := 1754) (by decide +kernel), List.mem_of_getElem? (i := 2051) (by decide +kernel), List.mem_of_getElem? (i := 2052) (by decide +kernel)⟩
theorem lw_p77 : lw_okq (⟨"BurntOakModel", "areJoined", "(III)Z"⟩, 40) := ⟨⟨by decide +kernel, by decide +kernel⟩, List.mem_of_getElem? (i := 1754) (by decide +kernel), List.mem_of_getElem? (i := 2055) (by decide +kernel), List.mem_of_getElem? (i := 2056) (by decide +kernel)⟩
theorem lw_p78 : lw_okq (⟨"BurntOakModel", "next", "()V"⟩, 40) := ⟨⟨by decide +kernel, by decide +kernel⟩, List.mem_of_getElem? (i := 1754) (by decide +kernel), List.mem_of_getElem? (i := 2072) (by decide +kernel), List.mem_of_getElem? (i := 2073) (by decide +kernel)⟩
theorem lw_p79 : lw_okq (⟨"BurntOakModel", "see", "(I)I"⟩, 40) := ⟨⟨by decide +kernel, by decide +kernel⟩, List.mem_of_getElem? (i := 1754) (by decide +kernel), List.mem_of_getElem? (i := 2079) (by decide +kernel), List.mem_of_getElem? (i := 2080) (by decide +kernel)⟩
def lw_privs_5 : List (MethodName × Nat) := [(⟨"BurntOakModel", "alongX", "(I)I"⟩, 40), (⟨"BurntOakModel", "alongY", "(I)I"⟩, 40), (⟨"BurntOakModel", "lay", "(I)V"⟩, 40), (⟨"BurntOakModel", "layOne", "(II)V"⟩, 40), (⟨"BurntOakModel", "isLessTurned", "(III)Z"⟩, 40), (⟨"BurntOakModel", "dots", "(II)J"⟩, 40), (⟨"BurntOakModel", "sizes", "(I)J"⟩, 40), (⟨"BurntOakModel", "isWalker", "(I)Z"⟩, 40), (⟨"BurntOakModel", "fell", "(I)Z"⟩, 40), (⟨"BurntOakModel", "isSeenAt", "(IIII)Z"⟩, 40), (⟨"BurntOakModel", "standsAt", "(IIII)Z"⟩, 40), (⟨"BurntOakModel", "kindsOf", "(II)I"⟩, 40), (⟨"BurntOakModel", "isMark", "(III)Z"⟩, 40), (⟨"BurntOakModel", "areJoined", "(III)Z"⟩, 40), (⟨"BurntOakModel", "next", "()V"⟩, 40), (⟨"BurntOakModel", "see", "(I)I"⟩, 40)]
theorem lw_r5 : ∀ q ∈ lw_privs_5, lw_okq q := List.forall_mem_cons.mpr ⟨lw_p64, List.forall_mem_cons.mpr ⟨lw_p65, List.forall_mem_cons.mpr ⟨lw_p66, List.forall_mem_cons.mpr ⟨lw_p67, List.forall_mem_cons.mpr ⟨lw_p68, List.forall_mem_cons.mpr ⟨lw_p69, List.forall_mem_cons.mpr ⟨lw_p70, List.forall_mem_cons.mpr ⟨lw_p71, List.forall_mem_cons.mpr ⟨lw_p72, List.forall_mem_cons.mpr ⟨lw_p73, List.forall_mem_cons.mpr ⟨lw_p74, List.forall_mem_cons.mpr ⟨lw_p75, List.forall_mem_cons.mpr ⟨lw_p76, List.forall_mem_cons.mpr ⟨lw_p77, List.forall_mem_cons.mpr ⟨lw_p78, List.forall_mem_cons.mpr ⟨lw_p79, fun _ h => absurd h List.not_mem_nil⟩⟩⟩⟩⟩⟩⟩⟩⟩⟩⟩⟩⟩⟩⟩⟩
theorem lw_p80 : lw_okq (⟨"BurntOakModel", "readSaying", "(I)V"⟩, 40) := ⟨⟨by decide +kernel, by decide +kernel⟩, List.mem_of_getElem? (i := 1754) (by decide +kernel), List.mem_of_getElem? (i := 2086) (by decide +kernel), List.mem_of_getElem? (i := 2087) (by decide +kernel)⟩
theorem lw_p81 : lw_okq (⟨"BurntOakModel", "isBegun", "()Z"⟩, 40) := ⟨⟨by decide +kernel, by decide +kernel⟩, List.mem_of_getElem? (i := 1754) (by decide +kernel), List.mem_of_getElem? (i := 2090) (by decide +kernel), List.mem_of_getElem? (i := 2091) (by decide +kernel)⟩
theorem lw_p82 : lw_okq (⟨"BurntOakModel", "isWord", "(Ljava/lang/String;)Z"⟩, 40) := ⟨⟨by decide +kernel, by decide +kernel⟩, List.mem_of_getElem? (i := 1754) (by decide +kernel), List.mem_of_getElem? (i := 2095) (by decide +kernel), List.mem_of_getElem? (i := 2096) (by decide +kernel)⟩
theorem lw_p83 : lw_okq (⟨"BurntOakModel", "sideNow", "()I"⟩, 40) := ⟨⟨by decide +kernel, by decide +kernel⟩, List.mem_of_getElem? (i := 1754) (by decide +kernel), List.mem_of_getElem? (i := 2107) (by decide +kernel), List.mem_of_getElem? (i := 2108) (by decide +kernel)⟩
theorem lw_p84 : lw_okq (⟨"BurntOakModel", "wrong", "(I)V"⟩, 40) := ⟨⟨by decide +kernel, by decide +kernel⟩, List.mem_of_getElem? (i := 1754) (by decide +kernel), List.mem_of_getElem? (i := 2113) (by decide +kernel), List.mem_of_getElem? (i := 2114) (by decide +kernel)⟩
theorem lw_p85 : lw_okq (⟨"BurntOakModel", "readWord", "(I)V"⟩, 40) := ⟨⟨by decide +kernel, by decide +kernel⟩, List.mem_of_getElem? (i := 1754) (by decide +kernel), List.mem_of_getElem? (i := 2117) (by decide +kernel), List.mem_of_getElem? (i := 2118) (by decide +kernel)⟩
theorem lw_p86 : lw_okq (⟨"BurntOakModel", "readNth", "(I)V"⟩, 40) := ⟨⟨by decide +kernel, by decide +kernel⟩, List.mem_of_getElem? (i := 1754) (by decide +kernel), List.mem_of_getElem? (i := 2121) (by decide +kernel), List.mem_of_getElem? (i := 2122) (by decide +kernel)⟩
theorem lw_p87 : lw_okq (⟨"BurntOakModel", "readNumber", "()I"⟩, 40) := ⟨⟨by decide +kernel, by decide +kernel⟩, List.mem_of_getElem? (i := 1754) (by decide +kernel), List.mem_of_getElem? (i := 2125) (by decide +kernel), List.mem_of_getElem? (i := 2126) (by decide +kernel)⟩
theorem lw_p88 : lw_okq (⟨"BurntOakModel", "readName", "()I"⟩, 40) := ⟨⟨by decide +kernel, by decide +kernel⟩, List.mem_of_getElem? (i := 1754) (by decide +kernel), List.mem_of_getElem? (i := 2130) (by decide +kernel), List.mem_of_getElem? (i := 2131) (by decide +kernel)⟩
theorem lw_p89 : lw_okq (⟨"BurntOakModel", "nameNow", "()I"⟩, 40) := ⟨⟨by decide +kernel, by decide +kernel⟩, List.mem_of_getElem? (i := 1754) (by decide +kernel), List.mem_of_getElem? (i := 2134) (by decide +kernel), List.mem_of_getElem? (i := 2135) (by decide +kernel)⟩
theorem lw_p90 : lw_okq (⟨"BurntOakModel", "lays", "(IIII)V"⟩, 40) := ⟨⟨by decide +kernel, by decide +kernel⟩, List.mem_of_getElem? (i := 1754) (by decide +kernel), List.mem_of_getElem? (i := 2150) (by decide +kernel), List.mem_of_getElem? (i := 2151) (by decide +kernel)⟩
theorem lw_p91 : lw_okq (⟨"BurntOakModel", "keeps", "(III)I"⟩, 40) := ⟨⟨by decide +kernel, by decide +kernel⟩, List.mem_of_getElem? (i := 1754) (by decide +kernel), List.mem_of_getElem? (i := 2159) (by decide +kernel), List.mem_of_getElem? (i := 2160) (by decide +kernel)⟩
theorem lw_p92 : lw_okq (⟨"BurntOakModel", "isTelling", "(I)Z"⟩, 40) := ⟨⟨by decide +kernel, by decide +kernel⟩, List.mem_of_getElem? (i := 1754) (by decide +kernel), List.mem_of_getElem? (i := 2171) (by decide +kernel), List.mem_of_getElem? (i := 2172) (by decide +kernel)⟩
theorem lw_p93 : lw_okq (⟨"BurntOakModel", "sayingsOf", "(I)I"⟩, 40) := ⟨⟨by decide +kernel, by decide +kernel⟩, List.mem_of_getElem? (i := 1754) (by decide +kernel), List.mem_of_getElem? (i := 2175) (by decide +kernel), List.mem_of_getElem? (i := 2176) (by decide +kernel)⟩
theorem lw_p94 : lw_okq (⟨"BurntOakModel", "areThere", "(III)Z"⟩, 40) := ⟨⟨by decide +kernel, by decide +kernel⟩, List.mem_of_getElem? (i := 1754) (by decide +kernel), List.mem_of_getElem? (i := 2183) (by decide +kernel), List.mem_of_getElem? (i := 2184) (by decide +kernel)⟩
theorem lw_p95 : lw_okq (⟨"BurntOakModel", "goes", "(IIIII)I"⟩, 40) := ⟨⟨by decide +kernel, by decide +kernel⟩, List.mem_of_getElem? (i := 1754) (by decide +kernel), List.mem_of_getElem? (i := 2187) (by decide +kernel), List.mem_of_getElem? (i := 2188) (by decide +kernel)⟩
def lw_privs_6 : List (MethodName × Nat) := [(⟨"BurntOakModel", "readSaying", "(I)V"⟩, 40), (⟨"BurntOakModel", "isBegun", "()Z"⟩, 40), (⟨"BurntOakModel", "isWord", "(Ljava/lang/String;)Z"⟩, 40), (⟨"BurntOakModel", "sideNow", "()I"⟩, 40), (⟨"BurntOakModel", "wrong", "(I)V"⟩, 40), (⟨"BurntOakModel", "readWord", "(I)V"⟩, 40), (⟨"BurntOakModel", "readNth", "(I)V"⟩, 40), (⟨"BurntOakModel", "readNumber", "()I"⟩, 40), (⟨"BurntOakModel", "readName", "()I"⟩, 40), (⟨"BurntOakModel", "nameNow", "()I"⟩, 40), (⟨"BurntOakModel", "lays", "(IIII)V"⟩, 40), (⟨"BurntOakModel", "keeps", "(III)I"⟩, 40), (⟨"BurntOakModel", "isTelling", "(I)Z"⟩, 40), (⟨"BurntOakModel", "sayingsOf", "(I)I"⟩, 40), (⟨"BurntOakModel", "areThere", "(III)Z"⟩, 40), (⟨"BurntOakModel", "goes", "(IIIII)I"⟩, 40)]
theorem lw_r6 : ∀ q ∈ lw_privs_6, lw_okq q := List.forall_mem_cons.mpr ⟨lw_p80, List.forall_mem_cons.mpr ⟨lw_p81, List.forall_mem_cons.mpr ⟨lw_p82, List.forall_mem_cons.mpr ⟨lw_p83, List.forall_mem_cons.mpr ⟨lw_p84, List.forall_mem_cons.mpr ⟨lw_p85, List.forall_mem_cons.mpr ⟨lw_p86, List.forall_mem_cons.mpr ⟨lw_p87, List.forall_mem_cons.mpr ⟨lw_p88, List.forall_mem_cons.mpr ⟨lw_p89, List.forall_mem_cons.mpr ⟨lw_p90, List.forall_mem_cons.mpr ⟨lw_p91, List.forall_mem_cons.mpr ⟨lw_p92, List.forall_mem_cons.mpr ⟨lw_p93, List.forall_mem_cons.mpr ⟨lw_p94, List.forall_mem_cons.mpr ⟨lw_p95, fun _ h => absurd h List.not_mem_nil⟩⟩⟩⟩⟩⟩⟩⟩⟩⟩⟩⟩⟩⟩⟩⟩
theorem lw_p96 : lw_okq (⟨"BurntOakModel", "says", "(III)V"⟩, 40) := ⟨⟨by decide +kernel, by decide +kernel⟩, List.mem_of_getElem? (i := 1754) (by decide +kernel), List.mem_of_getElem? (i := 2194) (by decide +kernel), List.mem_of_getElem? (i := 2195) (by decide +kernel)⟩
theorem lw_p97 : lw_okq (⟨"BurntOakModel", "word", "(IIII[JI[JI)V"⟩, 40) := ⟨⟨by decide +kernel, by decide +kernel⟩, List.mem_of_getElem? (i := 1754) (by decide +kernel), List.mem_of_getElem? (i := 2198) (by decide +kernel), List.mem_of_getElem? (i := 2199) (by decide +kernel)⟩
theorem lw_p98 : lw_okq (⟨"BurntOakModel", "onTimes", "(II[JI[JI)V"⟩, 40) := ⟨⟨by decide +kernel, by decide +kernel⟩, List.mem_of_getElem? (i := 1754) (by decide +kernel), List.mem_of_getElem? (i := 2202) (by decide +kernel), List.mem_of_getElem? (i := 2203) (by decide +kernel)⟩
theorem lw_p99 : lw_okq (⟨"BurntOakModel", "patience", "(I)I"⟩, 40) := ⟨⟨by decide +kernel, by decide +kernel⟩, List.mem_of_getElem? (i := 1754) (by decide +kernel), List.mem_of_getElem? (i := 2206) (by decide +kernel), List.mem_of_getElem? (i := 2207) (by decide +kernel)⟩
theorem lw_p100 : lw_okq (⟨"BurntOakModel", "goOn", "([JI[JI)V"⟩, 40) := ⟨⟨by decide +kernel, by decide +kernel⟩, List.mem_of_getElem? (i := 1754) (by decide +kernel), List.mem_of_getElem? (i := 2213) (by decide +kernel), List.mem_of_getElem? (i := 2214) (by decide +kernel)⟩
theorem lw_p101 : lw_okq (⟨"BurntOakModel", "until", "(IIZ[JI[JI)V"⟩, 40) := ⟨⟨by decide +kernel, by decide +kernel⟩, List.mem_of_getElem? (i := 1754) (by decide +kernel), List.mem_of_getElem? (i := 2220) (by decide +kernel), List.mem_of_getElem? (i := 2221) (by decide +kernel)⟩
theorem lw_p102 : lw_okq (⟨"BurntOakModel", "standing", "(II)I"⟩, 40) := ⟨⟨by decide +kernel, by decide +kernel⟩, List.mem_of_getElem? (i := 1754) (by decide +kernel), List.mem_of_getElem? (i := 2224) (by decide +kernel), List.mem_of_getElem? (i := 2225) (by decide +kernel)⟩
theorem lw_p103 : lw_okq (⟨"BurntOakModel", "far", "(II[JI[JI)V"⟩, 40) := ⟨⟨by decide +kernel, by decide +kernel⟩, List.mem_of_getElem? (i := 1754) (by decide +kernel), List.mem_of_getElem? (i := 2232) (by decide +kernel), List.mem_of_getElem? (i := 2233) (by decide +kernel)⟩
theorem lw_p104 : lw_okq (⟨"BurntOakModel", "goOnFar", "(II)V"⟩, 40) := ⟨⟨by decide +kernel, by decide +kernel⟩, List.mem_of_getElem? (i := 1754) (by decide +kernel), List.mem_of_getElem? (i := 2236) (by decide +kernel), List.mem_of_getElem? (i := 2237) (by decide +kernel)⟩
theorem lw_p105 : lw_okq (⟨"BurntOakModel", "isOver", "(III)Z"⟩, 40) := ⟨⟨by decide +kernel, by decide +kernel⟩, List.mem_of_getElem? (i := 1754) (by decide +kernel), List.mem_of_getElem? (i := 2240) (by decide +kernel), List.mem_of_getElem? (i := 2241) (by decide +kernel)⟩
theorem lw_p106 : lw_okq (⟨"BurntOakModel", "sideOf", "(II)I"⟩, 40) := ⟨⟨by decide +kernel, by decide +kernel⟩, List.mem_of_getElem? (i := 1754) (by decide +kernel), List.mem_of_getElem? (i := 2244) (by decide +kernel), List.mem_of_getElem? (i := 2245) (by decide +kernel)⟩
theorem lw_p107 : lw_okq (⟨"BurntOakModel", "nth", "(IIII[JI[JI)V"⟩, 40) := ⟨⟨by decide +kernel, by decide +kernel⟩, List.mem_of_getElem? (i := 1754) (by decide +kernel), List.mem_of_getElem? (i := 2248) (by decide +kernel), List.mem_of_getElem? (i := 2249) (by decide +kernel)⟩
theorem lw_p108 : lw_okq (⟨"BurntOakModel", "countsPaths", "(I)Z"⟩, 40) := ⟨⟨by decide +kernel, by decide +kernel⟩, List.mem_of_getElem? (i := 1754) (by decide +kernel), List.mem_of_getElem? (i := 2252) (by decide +kernel), List.mem_of_getElem? (i := 2253) (by decide +kernel)⟩
theorem lw_p109 : lw_okq (⟨"BurntOakModel", "placesOf", "([Z)I"⟩, 40) := ⟨⟨by decide +kernel, by decide +kernel⟩, List.mem_of_getElem? (i := 1754) (by decide +kernel), List.mem_of_getElem? (i := 2264) (by decide +kernel), List.mem_of_getElem? (i := 2265) (by decide +kernel)⟩
theorem lw_p110 : lw_okq (⟨"BurntOakModel", "isRight", "(IIII)Z"⟩, 40) := ⟨⟨by decide +kernel, by decide +kernel⟩, List.mem_of_getElem? (i := 1754) (by decide +kernel), List.mem_of_getElem? (i := 2272) (by decide +kernel), List.mem_of_getElem? (i := 2273) (by decide +kernel)⟩
theorem lw_p111 : lw_okq (⟨"BurntOakModel", "goalOf", "(I)I"⟩, 40) := ⟨⟨by decide +kernel, by decide +kernel⟩, List.mem_of_getElem? (i := 1754) (by decide +kernel), List.mem_of_getElem? (i := 2276) (by decide +kernel), List.mem_of_getElem? (i := 2277) (by decide +kernel)⟩
def lw_privs_7 : List (MethodName × Nat) := [(⟨"BurntOakModel", "says", "(III)V"⟩, 40), (⟨"BurntOakModel", "word", "(IIII[JI[JI)V"⟩, 40), (⟨"BurntOakModel", "onTimes", "(II[JI[JI)V"⟩, 40), (⟨"BurntOakModel", "patience", "(I)I"⟩, 40), (⟨"BurntOakModel", "goOn", "([JI[JI)V"⟩, 40), (⟨"BurntOakModel", "until", "(IIZ[JI[JI)V"⟩, 40), (⟨"BurntOakModel", "standing", "(II)I"⟩, 40), (⟨"BurntOakModel", "far", "(II[JI[JI)V"⟩, 40), (⟨"BurntOakModel", "goOnFar", "(II)V"⟩, 40), (⟨"BurntOakModel", "isOver", "(III)Z"⟩, 40), (⟨"BurntOakModel", "sideOf", "(II)I"⟩, 40), (⟨"BurntOakModel", "nth", "(IIII[JI[JI)V"⟩, 40), (⟨"BurntOakModel", "countsPaths", "(I)Z"⟩, 40), (⟨"BurntOakModel", "placesOf", "([Z)I"⟩, 40), (⟨"BurntOakModel", "isRight", "(IIII)Z"⟩, 40), (⟨"BurntOakModel", "goalOf", "(I)I"⟩, 40)]
theorem lw_r7 : ∀ q ∈ lw_privs_7, lw_okq q := List.forall_mem_cons.mpr ⟨lw_p96, List.forall_mem_cons.mpr ⟨lw_p97, List.forall_mem_cons.mpr ⟨lw_p98, List.forall_mem_cons.mpr ⟨lw_p99, List.forall_mem_cons.mpr ⟨lw_p100, List.forall_mem_cons.mpr ⟨lw_p101, List.forall_mem_cons.mpr ⟨lw_p102, List.forall_mem_cons.mpr ⟨lw_p103, List.forall_mem_cons.mpr ⟨lw_p104, List.forall_mem_cons.mpr ⟨lw_p105, List.forall_mem_cons.mpr ⟨lw_p106, List.forall_mem_cons.mpr ⟨lw_p107, List.forall_mem_cons.mpr ⟨lw_p108, List.forall_mem_cons.mpr ⟨lw_p109, List.forall_mem_cons.mpr ⟨lw_p110, List.forall_mem_cons.mpr ⟨lw_p111, fun _ h => absurd h List.not_mem_nil⟩⟩⟩⟩⟩⟩⟩⟩⟩⟩⟩⟩⟩⟩⟩⟩
theorem lw_p112 : lw_okq (⟨"BurntOakModel", "oddsFrom", "(IIII)V"⟩, 40) := ⟨⟨by decide +kernel, by decide +kernel⟩, List.mem_of_getElem? (i := 1754) (by decide +kernel), List.mem_of_getElem? (i := 2284) (by decide +kernel), List.mem_of_getElem? (i := 2285) (by decide +kernel)⟩
theorem lw_p113 : lw_okq (⟨"BurntOakModel", "oddsOn", "(III)V"⟩, 40) := ⟨⟨by decide +kernel, by decide +kernel⟩, List.mem_of_getElem? (i := 1754) (by decide +kernel), List.mem_of_getElem? (i := 2289) (by decide +kernel), List.mem_of_getElem? (i := 2290) (by decide +kernel)⟩
theorem lw_p114 : lw_okq (⟨"BurntOakModel", "parted", "(I[J[I)V"⟩, 40) := ⟨⟨by decide +kernel, by decide +kernel⟩, List.mem_of_getElem? (i := 1754) (by decide +kernel), List.mem_of_getElem? (i := 2293) (by decide +kernel), List.mem_of_getElem? (i := 2294) (by decide +kernel)⟩
theorem lw_p115 : lw_okq (⟨"BurntOakModel", "shareAt", "(I)I"⟩, 40) := ⟨⟨by decide +kernel, by decide +kernel⟩, List.mem_of_getElem? (i := 1754) (by decide +kernel), List.mem_of_getElem? (i := 2297) (by decide +kernel), List.mem_of_getElem? (i := 2298) (by decide +kernel)⟩
theorem lw_p116 : lw_okq (⟨"BurntOakModel", "seek", "(II)Z"⟩, 40) := ⟨⟨by decide +kernel, by decide +kernel⟩, List.mem_of_getElem? (i := 1754) (by decide +kernel), List.mem_of_getElem? (i := 2327) (by decide +kernel), List.mem_of_getElem? (i := 2328) (by decide +kernel)⟩
theorem lw_p117 : lw_okq (⟨"BurntOakModel", "areAll", "(I)Z"⟩, 40) := ⟨⟨by decide +kernel, by decide +kernel⟩, List.mem_of_getElem? (i := 1754) (by decide +kernel), List.mem_of_getElem? (i := 2331) (by decide +kernel), List.mem_of_getElem? (i := 2332) (by decide +kernel)⟩
theorem lw_p118 : lw_okq (⟨"BurntOakModel", "tries", "(II)Z"⟩, 40) := ⟨⟨by decide +kernel, by decide +kernel⟩, List.mem_of_getElem? (i := 1754) (by decide +kernel), List.mem_of_getElem? (i := 2335) (by decide +kernel), List.mem_of_getElem? (i := 2336) (by decide +kernel)⟩
theorem lw_p119 : lw_okq (⟨"BurntOakModel", "isAsWent", "(I)Z"⟩, 40) := ⟨⟨by decide +kernel, by decide +kernel⟩, List.mem_of_getElem? (i := 1754) (by decide +kernel), List.mem_of_getElem? (i := 2347) (by decide +kernel), List.mem_of_getElem? (i := 2348) (by decide +kernel)⟩
theorem lw_p120 : lw_okq (⟨"BurntOakModel", "records", "(IZ)I"⟩, 40) := ⟨⟨by decide +kernel, by decide +kernel⟩, List.mem_of_getElem? (i := 1754) (by decide +kernel), List.mem_of_getElem? (i := 2355) (by decide +kernel), List.mem_of_getElem? (i := 2356) (by decide +kernel)⟩
def lw_privs_8 : List (MethodName × Nat) := [(⟨"BurntOakModel", "oddsFrom", "(IIII)V"⟩, 40), (⟨"BurntOakModel", "oddsOn", "(III)V"⟩, 40), (⟨"BurntOakModel", "parted", "(I[J[I)V"⟩, 40), (⟨"BurntOakModel", "shareAt", "(I)I"⟩, 40), (⟨"BurntOakModel", "seek", "(II)Z"⟩, 40), (⟨"BurntOakModel", "areAll", "(I)Z"⟩, 40), (⟨"BurntOakModel", "tries", "(II)Z"⟩, 40), (⟨"BurntOakModel", "isAsWent", "(I)Z"⟩, 40), (⟨"BurntOakModel", "records", "(IZ)I"⟩, 40)]
theorem lw_r8 : ∀ q ∈ lw_privs_8, lw_okq q := List.forall_mem_cons.mpr ⟨lw_p112, List.forall_mem_cons.mpr ⟨lw_p113, List.forall_mem_cons.mpr ⟨lw_p114, List.forall_mem_cons.mpr ⟨lw_p115, List.forall_mem_cons.mpr ⟨lw_p116, List.forall_mem_cons.mpr ⟨lw_p117, List.forall_mem_cons.mpr ⟨lw_p118, List.forall_mem_cons.mpr ⟨lw_p119, List.forall_mem_cons.mpr ⟨lw_p120, fun _ h => absurd h List.not_mem_nil⟩⟩⟩⟩⟩⟩⟩⟩⟩
def lw_privs : List (MethodName × Nat) := lw_privs_1 ++ (lw_privs_2 ++ (lw_privs_3 ++ (lw_privs_4 ++ (lw_privs_5 ++ (lw_privs_6 ++ (lw_privs_7 ++ (lw_privs_8)))))))
def lw_tbl : List Cond := k2_sels lw_privs ++ tables_1
theorem lw_privs_ok : ∀ q ∈ lw_privs, lw_okq q := by
  show ∀ q ∈ lw_privs_1 ++ (lw_privs_2 ++ (lw_privs_3 ++ (lw_privs_4 ++ (lw_privs_5 ++ (lw_privs_6 ++ (lw_privs_7 ++ (lw_privs_8))))))), lw_okq q
  exact List.forall_mem_append.mpr ⟨lw_r1, List.forall_mem_append.mpr ⟨lw_r2, List.forall_mem_append.mpr ⟨lw_r3, List.forall_mem_append.mpr ⟨lw_r4, List.forall_mem_append.mpr ⟨lw_r5, List.forall_mem_append.mpr ⟨lw_r6, List.forall_mem_append.mpr ⟨lw_r7, lw_r8⟩⟩⟩⟩⟩⟩⟩
end
section
/-! ===== BEGIN words of one list among another's, by their places ===== -/
theorem goodIn_r {big : List Cond} (ws : List Cond) (ps : List Nat) (hp : ws = ps.filterMap (fun i => big[i]?)) (h : ws.all goodWord = true) : GoodIn big ws := by
  intro w hw
  have h1 := List.all_eq_true.mp h w hw
  rw [hp] at hw
  obtain ⟨i, -, hi⟩ := List.mem_filterMap.mp hw
  have hm : w ∈ big := by first | exact List.mem_of_getElem? hi | exact List.getElem?_mem hi
  exact ⟨hm, good_of_word h1⟩
theorem goodIn_app {big a b : List Cond} (ha : GoodIn big a) (hb : GoodIn big b) : GoodIn big (a ++ b) := fun w h => (List.mem_append.mp h).elim (ha w) (hb w)
theorem goodIn_ca {big a b : List Cond} {c : Cond} (ha : GoodIn big (c :: a)) (hb : GoodIn big b) : GoodIn big (c :: (a ++ b)) := fun w h => (List.mem_cons.mp h).elim (fun e => ha w (List.mem_cons.mpr (Or.inl e))) (fun h => (List.mem_append.mp h).elim (fun h => ha w (List.mem_cons.mpr (Or.inr h))) (hb w))
theorem goodIn_sub {big ws : List Cond} (hm : ∀ w ∈ ws, w ∈ big) (h : ws.all goodWord = true) : GoodIn big ws := fun w hw => ⟨hm w hw, good_of_word (List.all_eq_true.mp h w hw)⟩
/-! ===== END ===== -/

/-! ===== BEGIN exceptions that leave a method, and their catching by the caller (launches without stack traces) ===== -/
section VXA
/-! The laws vx_back, vx_callV, vx_callS, vx_callSW, vx_throw0, vx_throwS follow proofs of the library, with one case more: JvmDerived/Free/Laws.lean (Back.of_free), Shelf42/LK1.lean (callV, callS), Shelf/KitTraced.lean (throwNew0V, throwNewS). -/
/-- where a method has thrown q: the class by its name, the cell, what was written, the world -/
def vx_T (XC : String → State → State → Prop) (st : State) (q : Addr) (t : State) (mc ms : Nat) (free : Addr → Prop) : Prop :=
  ∃ (E : String) (ce : Cell) (L : List Loc), XC E st t ∧ t.heap[q]? = some ce ∧ ce.vm = .none ∧ st.vm.findClass E = some ce.cls ∧ st.WarmedH t.vm ∧ st.sameButNew ({ t with vm := st.vm } : State) L mc ms ∧ ∀ z ∈ L, free z.base
def vx_Q (Qc : Array Value → State → Outcome → State → Prop) (XC : String → State → State → Prop) (mc ms : Nat) (free : Addr → Prop) : Array Value → State → Outcome → State → Prop := fun a st o t =>
  (Qc a st o t ∧ ∃ L, FrameEnd st o t L mc ms ∧ ∀ q ∈ L, free q.base) ∨ ∃ q, o = .threw q ∧ vx_T XC st q t mc ms free
/-- a callee that returns or throws -/
def vx_Met (l : Launch) (y : MethodName) (ws : List Cond) (rm : Room) (Pc : Array Value → State → Prop) (Qc : Array Value → State → Outcome → State → Prop) (XC : String → State → State → Prop) (mc ms : Nat) (free : Addr → Prop) : Prop :=
  MetFree l y (headSpec ws rm) Pc (fun _ _ _ _ _ => True) (vx_Q Qc XC mc ms free)
def vx_Post (XC : String → State → State → Prop) (mc ms : Nat) (free : Addr → Prop) : Pt → Array Value → Addr → Pt → Prop := fun A a q B =>
  ∃ (g : JFrame) (mk : MethodId) (t : State) (L : List Loc) (E : String) (ce : Cell), B.U.heap = t.heap ∧ B.U.vm = t.vm ∧ XC E (A.U.calling g mk a) t ∧ t.heap[q]? = some ce ∧ ce.vm = .none ∧ A.U.vm.findClass E = some ce.cls ∧ B.locs = A.locs ++ L ∧ (∀ z ∈ L, free z.base) ∧ B.cells = A.cells + mc ∧ B.slots = A.slots + ms
def vx_Back (l : Launch) (R : Room) (p : Program) (e : Env) (below : List Frame) (s : State) (sargs : Array Value) (y : MethodName) (len W9 : Nat)
    (Pre : Pt → Array Value → Prop) (Post : Pt → Array Value → Option Value → Pt → Prop) (PostX : Pt → Array Value → Addr → Pt → Prop) : Prop :=
  ∀ (m : MethodId) (meth : Method) (c : Code) (A : Pt) (g : JFrame) (ig : Instr) (mk : MethodId) (a : Array Value),
    Stand p l e R s m sargs below meth c A.U A.locs A.cells A.slots → g.method = m → g.locals.size = c.maxLocals → decode c.code g.pc = .ok (ig, len) →
    2 * g.monitorRoom + (g.stack.map fun v => v.category).sum ≤ W9 → A.U.methodNamed? y = some mk → Pre A a →
    (∃ (v : Option Value) (B : Pt), Stand p l e R s m sargs below meth c B.U B.locs B.cells B.slots ∧ Post A a v B ∧
      Steps p.tables e below (doInvoke e (A.U.setTop g) [] mk a).1 (B.U.setTop { g with pc := g.pc + len, stack := v.toList ++ g.stack })) ∨
    (∃ (q : Addr) (B : Pt), Stand p l e R s m sargs below meth c B.U B.locs B.cells B.slots ∧ PostX A a q B ∧
      Steps p.tables e below (doInvoke e (A.U.setTop g) [] mk a).1 ((B.U.setTop g).pushFrame (.throwing q)))
section Payer
variable {l : Launch} {R : Room} {p : Program} {e : Env} {below : List Frame} {s : State} {sargs : Array Value} {y : MethodName} {len W9 : Nat}
theorem vx_back {ws : List Cond} {rm : Room} {Pc : Array Value → State → Prop} {Qc : Array Value → State → Outcome → State → Prop} {XC : String → State → State → Prop} {mc ms : Nat} {free : Addr → Prop} {bytes : ByteArray} {maxL : Nat} {ret : Option FieldType}
    (hM : vx_Met l y ws rm Pc Qc XC mc ms free) (hblind : FrameBlind Pc) (hrc : rm.cells = mc) (hrs : rm.slots = ms)
    (hframes : rm.frames + 1 ≤ R.frames) (hlocals : W9 + (maxL + 11) + rm.locals ≤ R.locals)
    (hws : ∀ w ∈ ws, ∀ a' U, s.WarmedH U.vm → w.before a' U = true) (hcode : Cond.code y bytes maxL ret ∈ ws) (hinit : ∀ a' U, s.WarmedH U.vm → (Cond.initialized y.cls).before a' U = true) :
    vx_Back l R p e below s sargs y len W9 (PreOf R mc ms Pc) (PostOf Qc mc ms free) (vx_Post XC mc ms free) := by
  intro m meth c A g ig mk a X hg hsize hdg hW hn hp
  have h1 : (headSpec ws rm).pre.before a A.U = true := atoms_intro fun w hw => hws w hw _ _ X.warmed
  have h2 : (Cond.code y bytes maxL ret).before a A.U = true := hws _ hcode _ _ X.warmed
  have h3 : (Cond.initialized y.cls).before a A.U = true := hinit _ _ X.warmed
  have h4 : A.cells + (headSpec ws rm).room.cells ≤ R.cells := by rw [show (headSpec ws rm).room.cells = mc from hrc]; exact hp.1
  have h5 : A.slots + (headSpec ws rm).room.slots ≤ R.slots := by rw [show (headSpec ws rm).room.slots = ms from hrs]; exact hp.2.1
  have hPc : Pc a (A.U.calling g mk a) := hblind _ _ _ _ hp.2.2
  obtain ⟨U, Ls, c0, s0⟩ := A
  dsimp only [Pt.U, Pt.locs, Pt.cells, Pt.slots] at h1 h2 h3 h4 h5 X hn hPc ⊢
  obtain ⟨methY, cY, hmY, hcY, -, hlY, -, -, -, -⟩ := Cond.code_spec hn h2
  obtain ⟨kY, hkY, -⟩ := className_of_methodNamed hn
  have hinitY : kY.init = .initialized := Cond.initialized_spec (findClass_of_methodNamed hn) hkY h3
  have h : At U g.method c below := by rw [hg]; exact X.here
  have hlocals9 : W9 + (maxL + 11) + (headSpec ws rm).room.locals ≤ R.locals := hlocals
  have happ : (headSpec ws rm).appliesLoose y e.platform (U.calling g mk a) = true :=
    Spec.appliesLoose_calling (g := g) h hdg hn hkY hinitY
      (X.room_calling (g := g) (R' := (headSpec ws rm).room) hsize hmY hcY hframes (by rw [hlY]; omega) h4 h5) h1
  obtain ⟨mid, hmid⟩ := h.above
  have hfr : (U.setTop g).frames = (.java g :: mid) ++ below := by rw [State.frames_setTop' g h.top, hmid]; rfl
  obtain ⟨o, s₂, hsteps, -, hend, hq⟩ := Steps.callFree hM p X.admits X.cas X.clock (acts := []) hfr happ hPc trivial
  have hq' : vx_Q Qc XC mc ms free a (U.calling g mk a) o s₂ := hq
  rw [State.frames_setTop' g h.top] at hend
  obtain ⟨g₀, hg0⟩ := Option.isSome_iff_exists.mp h.top
  obtain ⟨r, hr⟩ := State.topJava?_eq_some.mp hg0
  have hr' : (({ U with heap := s₂.heap, slotsUsed := s₂.slotsUsed } : State).setVm s₂.vm).frames = .java g₀ :: r := hr
  rcases hq' with ⟨hqc, L, hfe, hL⟩ | ⟨q, rfl, E, ce, L, hx, hce, hcv, hcl, hW₂, hsm, hL⟩
  · obtain ⟨⟨v, rfl⟩, hW₂, e2, q2, q3, q4, q5, q6⟩ := id hfe
    have e3 : s₂ = ({ (U.calling g mk a).setFrames s₂.frames with heap := s₂.heap, slotsUsed := s₂.slotsUsed } : State).setVm s₂.vm := by
      have : s₂ = ({ s₂ with vm := (U.calling g mk a).vm } : State).setVm s₂.vm := rfl
      rw [e2] at this
      exact this
    obtain ⟨c₂, i₂, len₂, hc₂, hd₂, hf₂⟩ := hend
    have hW' : U.WarmedH s₂.vm := hW₂
    have hcc : c₂ = c := by
      have h1 : s₂.code? g.method = U.code? g.method := by
        rw [State.code?_eq, State.code?_eq, hW'.alike.method?]
      exact Option.some.inj (hc₂.symm.trans (h1.trans h.code))
    subst hcc
    have hlen : len₂ = len := by rw [hdg] at hd₂; cases hd₂; rfl
    subst hlen
    have hs₂ : s₂ = (({ U with heap := s₂.heap, slotsUsed := s₂.slotsUsed } : State).setVm s₂.vm).setTop { g with pc := g.pc + len₂, stack := v.toList ++ g.stack } := by
      refine e3.trans ?_
      rw [hf₂, State.calling_eq h.top, State.setFrames_setFrames, State.setTop_of_frames _ hr', hr]
      rfl
    have hsame : U.sameButNew ({ U with heap := s₂.heap, slotsUsed := s₂.slotsUsed } : State) L mc ms := by
      refine ⟨?_, q2, q3, q4, q5, q6⟩
      obtain ⟨t, ht, -⟩ := State.frames_cons hr
      show ({ U with heap := s₂.heap, slotsUsed := s₂.slotsUsed } : State) = { U.setFrames U.frames with heap := s₂.heap, slotsUsed := s₂.slotsUsed }
      rw [State.setFrames_self ht]
    subst hg
    refine Or.inl ⟨v, ⟨(({ U with heap := s₂.heap, slotsUsed := s₂.slotsUsed } : State).setVm s₂.vm), Ls ++ L, c0 + mc, s0 + ms⟩,
      ⟨X.admits, X.cas, X.clock, X.frames, X.room, X.hears, X.method, X.code, (X.here.setHeapUsed s₂.heap s₂.slotsUsed).setVm hW'.alike, X.tail, State.WarmedH.trans X.warmed hW', X.limits, X.bytes, X.same.trans (hsame.setVm s.vm)⟩,
      ⟨g, mk, s₂, L, rfl, rfl, hqc, rfl, hL, rfl, rfl⟩, ?_⟩
    show Steps p.tables e below _ ((({ U with heap := s₂.heap, slotsUsed := s₂.slotsUsed } : State).setVm s₂.vm).setTop { g with pc := g.pc + len₂, stack := v.toList ++ g.stack })
    rw [← hs₂]
    exact hsteps
  · obtain ⟨e2, q2, q3, q4, q5, q6⟩ := id hsm
    have e3 : s₂ = ({ (U.calling g mk a).setFrames s₂.frames with heap := s₂.heap, slotsUsed := s₂.slotsUsed } : State).setVm s₂.vm := by
      have : s₂ = ({ s₂ with vm := (U.calling g mk a).vm } : State).setVm s₂.vm := rfl
      rw [e2] at this
      exact this
    have hf₂ : s₂.frames = .throwing q :: .java g :: U.frames.tail := hend
    have hW' : U.WarmedH s₂.vm := hW₂
    have hs₂ : s₂ = ((({ U with heap := s₂.heap, slotsUsed := s₂.slotsUsed } : State).setVm s₂.vm).setTop g).pushFrame (.throwing q) := by
      refine e3.trans ?_
      rw [hf₂, State.calling_eq h.top, State.setFrames_setFrames, State.pushFrame, State.frames_setTop _ hr', State.setTop_of_frames _ hr', State.setFrames_setFrames, hr]
      rfl
    have hsame : U.sameButNew ({ U with heap := s₂.heap, slotsUsed := s₂.slotsUsed } : State) L mc ms := by
      refine ⟨?_, q2, q3, q4, q5, q6⟩
      obtain ⟨t, ht, -⟩ := State.frames_cons hr
      show ({ U with heap := s₂.heap, slotsUsed := s₂.slotsUsed } : State) = { U.setFrames U.frames with heap := s₂.heap, slotsUsed := s₂.slotsUsed }
      rw [State.setFrames_self ht]
    subst hg
    refine Or.inr ⟨q, ⟨(({ U with heap := s₂.heap, slotsUsed := s₂.slotsUsed } : State).setVm s₂.vm), Ls ++ L, c0 + mc, s0 + ms⟩,
      ⟨X.admits, X.cas, X.clock, X.frames, X.room, X.hears, X.method, X.code, (X.here.setHeapUsed s₂.heap s₂.slotsUsed).setVm hW'.alike, X.tail, State.WarmedH.trans X.warmed hW', X.limits, X.bytes, X.same.trans (hsame.setVm s.vm)⟩,
      ⟨g, mk, s₂, L, E, ce, rfl, rfl, hx, hce, hcv, hcl, rfl, hL, rfl, rfl⟩, ?_⟩
    show Steps p.tables e below _ (((({ U with heap := s₂.heap, slotsUsed := s₂.slotsUsed } : State).setVm s₂.vm).setTop g).pushFrame (.throwing q))
    rw [← hs₂]
    exact hsteps
end Payer
section Calls
variable {p : Program} {l : Launch} {e : Env} {R : Room} {s : State} {m : MethodId} {args : Array Value} {below : List Frame} {meth : Method} {c : Code} {T : State} {locs : List Loc} {cells slots : Nat}
theorem vx_callV (X : Stand p l e R s m args below meth c T locs cells slots) (hexec : p.tables.exec = Jvm.exec) {own C : String} {index : Nat} {y : MethodName} {bytes : ByteArray} {maxL : Nat} {ret : Option FieldType}
    (hown : s.vm.findClass own = some m.cls) (hlink : (Cond.methodLink own index y).before args s = true) (hinst : (Cond.instanceMethod y).before args s = true) (hsel : (Cond.selects C y y).before args s = true)
    (hcode : (Cond.code y bytes maxL ret).before args s = true) (hy : y.cls ≠ "java/lang/invoke/MethodHandle" ∧ y.cls ≠ "java/lang/invoke/VarHandle")
    {W9 : Nat} {Pre : Pt → Array Value → Prop} {Post : Pt → Array Value → Option Value → Pt → Prop} {PostX : Pt → Array Value → Addr → Pt → Prop} (hK : vx_Back l R p e below s args y 3 W9 Pre Post PostX)
    {b : Addr} {cellB : Cell} (hcell : T.heap[b]? = some cellB) (hobj : cellB.vm.isStatics = false) (hcls : s.vm.findClass C = some cellB.cls)
    {g : JFrame} (hg : g.method = m) (hsize : g.locals.size = c.maxLocals) {argsL rest : List Value} (hlen : ∀ sig, parseMethodDescriptor y.desc = some sig → argsL.length = sig.parameters.length)
    (hstack : g.stack = argsL.reverse ++ .ref b :: rest) (hW : 2 * g.monitorRoom + (rest.map fun v => v.category).sum ≤ W9) (hdg : decode c.code g.pc = .ok (.invokevirtual index, 3))
    (hpre : ∀ vm₁, s.WarmedH vm₁ → Pre ⟨T.setVm vm₁, locs, cells, slots⟩ (Value.ref b :: argsL).toArray) :
    (∃ (v : Option Value) (vm₁ : Vm) (B : Pt), s.WarmedH vm₁ ∧ Stand p l e R s m args below meth c B.U B.locs B.cells B.slots ∧ Post ⟨T.setVm vm₁, locs, cells, slots⟩ (Value.ref b :: argsL).toArray v B ∧
      ∀ target, Steps p.tables e below (B.U.setTop { g with pc := g.pc + 3, stack := v.toList ++ rest }) target → Steps p.tables e below (T.setTop g) target) ∨
    (∃ (q : Addr) (vm₁ : Vm) (B : Pt), s.WarmedH vm₁ ∧ Stand p l e R s m args below meth c B.U B.locs B.cells B.slots ∧ PostX ⟨T.setVm vm₁, locs, cells, slots⟩ (Value.ref b :: argsL).toArray q B ∧
      Steps p.tables e below (T.setTop g) ((B.U.setTop { g with stack := rest }).pushFrame (.throwing q))) := by
  obtain ⟨mk, methM, hnamed, hmethM, hstM, habM⟩ := Cond.instanceMethod_spec hinst
  obtain ⟨methM', cM, hmethM', -, -, -, -, -, -, hsigM⟩ := Cond.code_spec hnamed hcode
  cases hmethM.symm.trans hmethM'
  obtain ⟨c2, r2, m2, q1, q2, q3, q4, kP, hkP, hkPi⟩ := Cond.selects_spec hsel
  cases hcls.symm.trans q1
  cases (State.methodFound?_of_named hnamed hy).symm.trans q2
  cases hnamed.symm.trans q3
  have hselP : selectMethod e.platform s.vm cellB.cls mk = .method mk := by rw [Launch.admits_selectMethod X.admits]; exact q4
  obtain ⟨vm₁, X₁, hstep₁⟩ := X.invokevirtual hexec hown hlink hnamed hmethM hstM hkP hkPi hy (a := b) (cell := cellB) hcell
    (fun z h => by rw [h] at hobj; cases hobj) hselP hmethM habM hkP hkPi (g := g) hg (argsL := argsL) (rest := rest) (hlen _ hsigM) hstack hdg
  rcases hK m meth c ⟨T.setVm vm₁, locs, cells, slots⟩ { g with stack := rest } (.invokevirtual index) mk (Value.ref b :: argsL).toArray X₁ hg hsize hdg hW (X₁.named hnamed) (hpre vm₁ X₁.warmed) with ⟨v, B, X', hpost, hsteps⟩ | ⟨q, B, X', hpost, hsteps⟩
  · exact Or.inl ⟨v, vm₁, B, X₁.warmed, X', hpost, fun target h => hstep₁ _ fun acts => by rw [doInvoke_state]; exact hsteps.trans h⟩
  · exact Or.inr ⟨q, vm₁, B, X₁.warmed, X', hpost, hstep₁ _ fun acts => by rw [doInvoke_state]; exact hsteps⟩
theorem vx_callS (X : Stand p l e R s m args below meth c T locs cells slots) (hexec : p.tables.exec = Jvm.exec) {own : String} {index : Nat} {y : MethodName} {bytes : ByteArray} {maxL : Nat} {ret : Option FieldType}
    (hown : s.vm.findClass own = some m.cls) (hlink : (Cond.methodLink own index y).before args s = true) (hstat : (Cond.static y).before args s = true) (hinit : (Cond.initialized y.cls).before args s = true)
    (hcode : (Cond.code y bytes maxL ret).before args s = true) (hy : y.cls ≠ "java/lang/invoke/MethodHandle" ∧ y.cls ≠ "java/lang/invoke/VarHandle")
    {W9 : Nat} {Pre : Pt → Array Value → Prop} {Post : Pt → Array Value → Option Value → Pt → Prop} {PostX : Pt → Array Value → Addr → Pt → Prop} (hK : vx_Back l R p e below s args y 3 W9 Pre Post PostX)
    {g : JFrame} (hg : g.method = m) (hsize : g.locals.size = c.maxLocals) {argsL rest : List Value} (hlen : ∀ sig, parseMethodDescriptor y.desc = some sig → argsL.length = sig.parameters.length)
    (hstack : g.stack = argsL.reverse ++ rest) (hW : 2 * g.monitorRoom + (rest.map fun v => v.category).sum ≤ W9) (hdg : decode c.code g.pc = .ok (.invokestatic index, 3))
    (hpre : ∀ vm₁, s.WarmedH vm₁ → Pre ⟨T.setVm vm₁, locs, cells, slots⟩ argsL.toArray) :
    (∃ (v : Option Value) (vm₁ : Vm) (B : Pt), s.WarmedH vm₁ ∧ Stand p l e R s m args below meth c B.U B.locs B.cells B.slots ∧ Post ⟨T.setVm vm₁, locs, cells, slots⟩ argsL.toArray v B ∧
      ∀ target, Steps p.tables e below (B.U.setTop { g with pc := g.pc + 3, stack := v.toList ++ rest }) target → Steps p.tables e below (T.setTop g) target) ∨
    (∃ (q : Addr) (vm₁ : Vm) (B : Pt), s.WarmedH vm₁ ∧ Stand p l e R s m args below meth c B.U B.locs B.cells B.slots ∧ PostX ⟨T.setVm vm₁, locs, cells, slots⟩ argsL.toArray q B ∧
      Steps p.tables e below (T.setTop g) ((B.U.setTop { g with stack := rest }).pushFrame (.throwing q))) := by
  obtain ⟨mk, hnamed⟩ := Cond.code_named hcode
  obtain ⟨methM, cM, hmethM, -, -, -, -, -, -, hsigM⟩ := Cond.code_spec hnamed hcode
  have hstatic : methM.isStatic = true := Cond.static_spec hnamed hmethM hstat
  obtain ⟨kP, hkP, -⟩ := className_of_methodNamed hnamed
  have hinitP : kP.init = .initialized := Cond.initialized_spec (findClass_of_methodNamed hnamed) hkP hinit
  obtain ⟨vm₁, X₁, hstep₁⟩ := X.invokestatic hexec hown hlink hnamed hmethM hstatic hkP hinitP hy (g := g) hg (argsL := argsL) (rest := rest) (hlen _ hsigM) hstack hdg
  rcases hK m meth c ⟨T.setVm vm₁, locs, cells, slots⟩ { g with stack := rest } (.invokestatic index) mk argsL.toArray X₁ hg hsize hdg hW (X₁.named hnamed) (hpre vm₁ X₁.warmed) with ⟨v, B, X', hpost, hsteps⟩ | ⟨q, B, X', hpost, hsteps⟩
  · exact Or.inl ⟨v, vm₁, B, X₁.warmed, X', hpost, fun target h => hstep₁ _ fun acts => by rw [doInvoke_state]; exact hsteps.trans h⟩
  · exact Or.inr ⟨q, vm₁, B, X₁.warmed, X', hpost, hstep₁ _ fun acts => by rw [doInvoke_state]; exact hsteps⟩
end Calls
theorem vx_cls {s : State} {T : State} {vm₁ : Vm} {E : String} {k : ClassId} (hW : s.WarmedH vm₁) (h : (T.setVm vm₁).vm.findClass E = some k) : s.vm.findClass E = some k := by
  have h1 : vm₁.findClass E = some k := h
  rw [hW.alike.findClass] at h1
  exact h1
/-- the method's frame g, with q thrown over it -/
def vx_W (p : Program) (l : Launch) (e : Env) (R : Room) (s : State) (m : MethodId) (args : Array Value) (below : List Frame) (meth : Method) (c : Code) (H : Heap) (locs : List Loc) (cells slots : Nat) (Q : State → Prop) (g : JFrame) (q : Addr) : Prop :=
  ∀ T : State, T.heap = H → Stand p l e R s m args below meth c T locs cells slots → ∃ t, Steps p.tables e below ((T.setTop g).pushFrame (.throwing q)) t ∧ Q t
def vx_Run (p : Program) (l : Launch) (e : Env) (R : Room) (s : State) (m : MethodId) (args : Array Value) (below : List Frame) (meth : Method) (c : Code) (H : Heap) (locs : List Loc) (cells slots mc ms : Nat) (g : JFrame) (rest : List Value) (Qa : State → Outcome → State → Prop) (XC : String → State → State → Prop) (free : Addr → Prop) : Prop :=
  ∀ T : State, T.heap = H → Stand p l e R s m args below meth c T locs cells slots →
    (∃ (v : Option Value) (st₀ t T' : State) (L : List Loc), st₀.heap = H ∧ Stand p l e R s m args below meth c T' (locs ++ L) (cells + mc) (slots + ms) ∧ (∀ q ∈ L, free q.base) ∧ T'.heap = t.heap ∧ T'.vm = t.vm ∧ Qa st₀ (.returned v) t ∧
      Goes p e below T g T' { g with pc := g.pc + 3, stack := v.toList ++ rest }) ∨
    (∃ (q : Addr) (st₀ t T' : State) (L : List Loc) (E : String) (ce : Cell), st₀.heap = H ∧ Stand p l e R s m args below meth c T' (locs ++ L) (cells + mc) (slots + ms) ∧ (∀ z ∈ L, free z.base) ∧ T'.heap = t.heap ∧ T'.vm = t.vm ∧ XC E st₀ t ∧ t.heap[q]? = some ce ∧ ce.vm = .none ∧ s.vm.findClass E = some ce.cls ∧
      Steps p.tables e below (T.setTop g) ((T'.setTop { g with stack := rest }).pushFrame (.throwing q)))
def vx_X {S : Type} (px : S → Prop) (B : String → S → State → Prop) (A : Nat → Prop) : String → State → State → Prop := fun E st t => ∃ u : S, px u ∧ B E u t ∧ va_F A st t
section Runs
variable {p : Program} {l : Launch} {e : Env} {R : Room} {s : State} {m : MethodId} {args : Array Value} {below : List Frame} {meth : Method} {c : Code} {H : Heap} {locs : List Loc} {cells slots : Nat}
variable {y : MethodName} {bytes cc : ByteArray} {maxL nL mc ms n index : Nat} {ret : Option FieldType} {ws : List Cond} {rm : Room} {Pc : Array Value → State → Prop} {Qc : Array Value → State → Outcome → State → Prop} {XC : String → State → State → Prop} {free : Addr → Prop} {Ts : List Cond} {own C : String} {b : Addr} {As rest : List Value} {g : JFrame}
theorem vx_callBack (cb : CallB R s args own index y bytes maxL ret ws rm mc ms n) (hM : vx_Met l y ws rm Pc Qc XC mc ms free) (hbl : FrameBlind Pc) : vx_Back l R p e below s args y 3 8 (PreOf R mc ms Pc) (PostOf Qc mc ms free) (vx_Post XC mc ms free) := by
  obtain ⟨hrc, hrs, hfr, hlo, hws, hcw, -, hini, -⟩ := cb
  exact vx_back (bytes := bytes) (maxL := maxL) (ret := ret) hM hbl hrc hrs hfr hlo hws hcw (fun a' U hW => word_at hW (Or.inl (by first | rfl | simp [Cond.onTables, Cond.keeps, Cond.steady])) hini)
theorem vx_runV (S : CallFix p m c cc nL s args Ts own) (hM : vx_Met l y ws rm Pc Qc XC mc ms free) (cw : CallW R s args own C index y bytes maxL ret ws rm mc ms n) (hp : PreV s H C b Pc As)
    (hg : g.method = m) (hn : As.length = n) (hsize : g.locals.size = nL) (hstack : g.stack = As.reverse ++ .ref b :: rest) (hW : 2 * g.monitorRoom + (rest.map fun v => v.category).sum ≤ 8) (hdg : decode cc g.pc = .ok (.invokevirtual index, 3)) (hf : cells + mc ≤ R.cells ∧ slots + ms ≤ R.slots) :
    vx_Run p l e R s m args below meth c H locs cells slots mc ms g rest (Qc (Value.ref b :: As).toArray) XC free := by
  have hK : vx_Back l R p e below s args y 3 8 (PreOf R mc ms Pc) (PostOf Qc mc ms free) (vx_Post XC mc ms free) := vx_callBack cw.1 hM hp.1
  obtain ⟨⟨-, -, -, -, -, -, hcode, -, hy, hlen, hl⟩, hin, hse⟩ := cw
  obtain ⟨hx, hb, hml, ho, -⟩ := S
  obtain ⟨-, ⟨cellB, hcB, hoB, hclB⟩, hPc⟩ := hp
  intro T hT X
  rcases vx_callV X hx (C := C) (bytes := bytes) (maxL := maxL) (ret := ret) ho hl hin hse hcode hy hK (by rw [hT]; exact hcB) hoB hclB hg (hsize.trans hml.symm) (argsL := As) (rest := rest) (fun sig h => hn.trans (hlen sig h)) hstack hW (by rw [hb]; exact hdg)
    (fun vm₁ hW₁ => ⟨hf.1, hf.2, hPc (T.setVm vm₁) hT hW₁⟩) with ⟨v, vm₁, ⟨U', l2, c2, s2⟩, hW₁, X', ⟨g', mk, t, L, e1, e2, hq, h1, hL, h2, h3⟩, st⟩ | ⟨q, vm₁, ⟨U', l2, c2, s2⟩, hW₁, X', ⟨g', mk, t, L, E, ce, e1, e2, hq, hce, hcv, hcl, h1, hL, h2, h3⟩, st⟩
  · dsimp only [Pt.U, Pt.locs, Pt.cells, Pt.slots] at X' e1 e2 h1 h2 h3 st
    subst h1; subst h2; subst h3
    exact Or.inl ⟨v, (T.setVm vm₁).calling g' mk (Value.ref b :: As).toArray, t, U', L, hT, X', hL, e1, e2, hq, st⟩
  · dsimp only [Pt.U, Pt.locs, Pt.cells, Pt.slots] at X' e1 e2 h1 h2 h3 st hcl
    subst h1; subst h2; subst h3
    exact Or.inr ⟨q, (T.setVm vm₁).calling g' mk (Value.ref b :: As).toArray, t, U', L, E, ce, hT, X', hL, e1, e2, hq, hce, hcv, vx_cls hW₁ hcl, st⟩
theorem vx_runS (S : CallFix p m c cc nL s args Ts own) (hM : vx_Met l y ws rm Pc Qc XC mc ms free) (cw : CallB R s args own index y bytes maxL ret ws rm mc ms n ∧ (Cond.static y).before args s = true) (hp : PreS s H Pc As)
    (hg : g.method = m) (hn : As.length = n) (hsize : g.locals.size = nL) (hstack : g.stack = As.reverse ++ rest) (hW : 2 * g.monitorRoom + (rest.map fun v => v.category).sum ≤ 8) (hdg : decode cc g.pc = .ok (.invokestatic index, 3)) (hf : cells + mc ≤ R.cells ∧ slots + ms ≤ R.slots) :
    vx_Run p l e R s m args below meth c H locs cells slots mc ms g rest (Qc As.toArray) XC free := by
  have hK : vx_Back l R p e below s args y 3 8 (PreOf R mc ms Pc) (PostOf Qc mc ms free) (vx_Post XC mc ms free) := vx_callBack cw.1 hM hp.1
  obtain ⟨⟨-, -, -, -, -, -, hcode, hini, hy, hlen, hl⟩, hstt⟩ := cw
  obtain ⟨hx, hb, hml, ho, -⟩ := S
  intro T hT X
  rcases vx_callS X hx (bytes := bytes) (maxL := maxL) (ret := ret) ho hl hstt hini hcode hy hK hg (hsize.trans hml.symm) (argsL := As) (rest := rest) (fun sig h => hn.trans (hlen sig h)) hstack hW (by rw [hb]; exact hdg)
    (fun vm₁ hW₁ => ⟨hf.1, hf.2, hp.2 (T.setVm vm₁) hT hW₁⟩) with ⟨v, vm₁, ⟨U', l2, c2, s2⟩, hW₁, X', ⟨g', mk, t, L, e1, e2, hq, h1, hL, h2, h3⟩, st⟩ | ⟨q, vm₁, ⟨U', l2, c2, s2⟩, hW₁, X', ⟨g', mk, t, L, E, ce, e1, e2, hq, hce, hcv, hcl, h1, hL, h2, h3⟩, st⟩
  · dsimp only [Pt.U, Pt.locs, Pt.cells, Pt.slots] at X' e1 e2 h1 h2 h3 st
    subst h1; subst h2; subst h3
    exact Or.inl ⟨v, (T.setVm vm₁).calling g' mk As.toArray, t, U', L, hT, X', hL, e1, e2, hq, st⟩
  · dsimp only [Pt.U, Pt.locs, Pt.cells, Pt.slots] at X' e1 e2 h1 h2 h3 st hcl
    subst h1; subst h2; subst h3
    exact Or.inr ⟨q, (T.setVm vm₁).calling g' mk As.toArray, t, U', L, E, ce, hT, X', hL, e1, e2, hq, hce, hcv, vx_cls hW₁ hcl, st⟩
end Runs
section Rows
variable {p : Program} {l : Launch} {e : Env} {R : Room} {s : State} {m : MethodId} {args : Array Value} {below : List Frame} {meth : Method} {c : Code} {H : Heap} {locs : List Loc} {cells slots : Nat} {Q : State → Prop}
variable {mc ms : Nat} {free : Addr → Prop} {A0 A1 : Nat → Prop} {H0 : Heap} {a : Array Value} {pc : Nat} {ls : Array Slot} {st0 rest : List Value}
theorem vx_keep {st₀ t T' : State} {L : List Loc} (h0 : st₀.heap = H) (e1 : T'.heap = t.heap) (hS : va_S A0 H0 H locs) (hA : ∀ q, q < H.size → A1 q → A0 q) (hf : ∀ q, free q → A0 q) (hL : ∀ q ∈ L, free q.base) (hF : va_F A1 st₀ t) :
    H.size ≤ T'.heap.size ∧ (∀ q : Nat, q < H.size → ¬ A1 q → T'.heap[q]? = H[q]?) ∧ va_S A0 H0 T'.heap (locs ++ L) := by
  obtain ⟨hz, hk⟩ := hF
  rw [h0] at hz hk
  exact ⟨by rw [e1]; exact hz, fun q h1 h2 => by rw [e1]; exact hk q h1 h2,
    ⟨Nat.le_trans hS.1 (by rw [e1]; exact hz), fun q h1 h2 => by rw [e1, hk q (Nat.lt_of_lt_of_le h1 hS.1) (fun z => h2 (hA q (Nat.lt_of_lt_of_le h1 hS.1) z))]; exact hS.2.1 q h1 h2, fun q hq => by
      rcases List.mem_append.mp hq with h | h
      · exact hS.2.2 q h
      · exact hf _ (hL q h)⟩⟩
theorem vx_calli {S SX : Type} {post : Int32 → S → Prop} {px : SX → Prop} {B : S → State → Prop} {BX : String → SX → State → Prop} {AX : Nat → Prop} (hr : vx_Run p l e R s m args below meth c H locs cells slots mc ms (F0 m pc ls st0) rest (va_Qi post B A1 a) (vx_X px BX AX) free) (hS : va_S A0 H0 H locs) (hA : ∀ q, q < H.size → A1 q → A0 q) (hf : ∀ q, free q → A0 q) (hAX : ∀ q, q < H.size → AX q → A0 q)
    (kx : ∀ (E : String) (ce : Cell) (q9 : Addr) (u : SX) (t : State) (H1 : Heap) (locs1 : List Loc), t.heap = H1 → s.vm.Alike t.vm → px u → BX E u t → H.size ≤ H1.size → (∀ q : Nat, q < H.size → ¬ AX q → H1[q]? = H[q]?) → va_S A0 H0 H1 locs1 → H1[q9]? = some ce → ce.vm = .none → s.vm.findClass E = some ce.cls → vx_W p l e R s m args below meth c H1 locs1 (cells + mc) (slots + ms) Q (F0 m pc ls rest) q9)
    (kk : ∀ (r : Int32) (u : S) (t : State) (H1 : Heap) (locs1 : List Loc), t.heap = H1 → s.vm.Alike t.vm → post r u → B u t → H.size ≤ H1.size → (∀ q : Nat, q < H.size → ¬ A1 q → H1[q]? = H[q]?) → va_S A0 H0 H1 locs1 → W p l e R s m args below meth c H1 locs1 (cells + mc) (slots + ms) Q (F0 m (pc + 3) ls (.int r :: rest))) : W p l e R s m args below meth c H locs cells slots Q (F0 m pc ls st0) := by
  intro T hT X
  rcases hr T hT X with ⟨v, st₀, t, T', L, h0, X', hL, e1, e2, ⟨⟨r, u, hv, hp, hb⟩, hF⟩, st⟩ | ⟨q, st₀, t, T', L, E, ce, h0, X', hL, e1, e2, ⟨u, hp, hb, hF⟩, hce, hcv, hcl, st⟩
  · cases hv
    obtain ⟨k1, k2, k3⟩ := vx_keep h0 e1 hS hA hf hL hF
    obtain ⟨t2, a1, b1⟩ := kk r u t T'.heap (locs ++ L) e1.symm (by rw [← e2]; exact X'.warmed.alike) hp hb k1 k2 k3 T' rfl X'
    exact ⟨t2, st t2 a1, b1⟩
  · obtain ⟨k1, k2, k3⟩ := vx_keep h0 e1 hS hAX hf hL hF
    obtain ⟨t2, a1, b1⟩ := kx E ce q u t T'.heap (locs ++ L) e1.symm (by rw [← e2]; exact X'.warmed.alike) hp hb k1 k2 k3 (by rw [e1]; exact hce) hcv hcl T' rfl X'
    exact ⟨t2, st.trans a1, b1⟩
theorem vx_calll {S SX : Type} {post : Int64 → S → Prop} {px : SX → Prop} {B : S → State → Prop} {BX : String → SX → State → Prop} {AX : Nat → Prop} (hr : vx_Run p l e R s m args below meth c H locs cells slots mc ms (F0 m pc ls st0) rest (va_Ql post B A1 a) (vx_X px BX AX) free) (hS : va_S A0 H0 H locs) (hA : ∀ q, q < H.size → A1 q → A0 q) (hf : ∀ q, free q → A0 q) (hAX : ∀ q, q < H.size → AX q → A0 q)
    (kx : ∀ (E : String) (ce : Cell) (q9 : Addr) (u : SX) (t : State) (H1 : Heap) (locs1 : List Loc), t.heap = H1 → s.vm.Alike t.vm → px u → BX E u t → H.size ≤ H1.size → (∀ q : Nat, q < H.size → ¬ AX q → H1[q]? = H[q]?) → va_S A0 H0 H1 locs1 → H1[q9]? = some ce → ce.vm = .none → s.vm.findClass E = some ce.cls → vx_W p l e R s m args below meth c H1 locs1 (cells + mc) (slots + ms) Q (F0 m pc ls rest) q9)
    (kk : ∀ (r : Int64) (u : S) (t : State) (H1 : Heap) (locs1 : List Loc), t.heap = H1 → s.vm.Alike t.vm → post r u → B u t → H.size ≤ H1.size → (∀ q : Nat, q < H.size → ¬ A1 q → H1[q]? = H[q]?) → va_S A0 H0 H1 locs1 → W p l e R s m args below meth c H1 locs1 (cells + mc) (slots + ms) Q (F0 m (pc + 3) ls (.long r :: rest))) : W p l e R s m args below meth c H locs cells slots Q (F0 m pc ls st0) := by
  intro T hT X
  rcases hr T hT X with ⟨v, st₀, t, T', L, h0, X', hL, e1, e2, ⟨⟨r, u, hv, hp, hb⟩, hF⟩, st⟩ | ⟨q, st₀, t, T', L, E, ce, h0, X', hL, e1, e2, ⟨u, hp, hb, hF⟩, hce, hcv, hcl, st⟩
  · cases hv
    obtain ⟨k1, k2, k3⟩ := vx_keep h0 e1 hS hA hf hL hF
    obtain ⟨t2, a1, b1⟩ := kk r u t T'.heap (locs ++ L) e1.symm (by rw [← e2]; exact X'.warmed.alike) hp hb k1 k2 k3 T' rfl X'
    exact ⟨t2, st t2 a1, b1⟩
  · obtain ⟨k1, k2, k3⟩ := vx_keep h0 e1 hS hAX hf hL hF
    obtain ⟨t2, a1, b1⟩ := kx E ce q u t T'.heap (locs ++ L) e1.symm (by rw [← e2]; exact X'.warmed.alike) hp hb k1 k2 k3 (by rw [e1]; exact hce) hcv hcl T' rfl X'
    exact ⟨t2, st.trans a1, b1⟩
theorem vx_callf {S SX : Type} {post : UInt32 → S → Prop} {px : SX → Prop} {B : S → State → Prop} {BX : String → SX → State → Prop} {AX : Nat → Prop} (hr : vx_Run p l e R s m args below meth c H locs cells slots mc ms (F0 m pc ls st0) rest (va_Qf post B A1 a) (vx_X px BX AX) free) (hS : va_S A0 H0 H locs) (hA : ∀ q, q < H.size → A1 q → A0 q) (hf : ∀ q, free q → A0 q) (hAX : ∀ q, q < H.size → AX q → A0 q)
    (kx : ∀ (E : String) (ce : Cell) (q9 : Addr) (u : SX) (t : State) (H1 : Heap) (locs1 : List Loc), t.heap = H1 → s.vm.Alike t.vm → px u → BX E u t → H.size ≤ H1.size → (∀ q : Nat, q < H.size → ¬ AX q → H1[q]? = H[q]?) → va_S A0 H0 H1 locs1 → H1[q9]? = some ce → ce.vm = .none → s.vm.findClass E = some ce.cls → vx_W p l e R s m args below meth c H1 locs1 (cells + mc) (slots + ms) Q (F0 m pc ls rest) q9)
    (kk : ∀ (r : UInt32) (u : S) (t : State) (H1 : Heap) (locs1 : List Loc), t.heap = H1 → s.vm.Alike t.vm → post r u → B u t → H.size ≤ H1.size → (∀ q : Nat, q < H.size → ¬ A1 q → H1[q]? = H[q]?) → va_S A0 H0 H1 locs1 → W p l e R s m args below meth c H1 locs1 (cells + mc) (slots + ms) Q (F0 m (pc + 3) ls (.float r :: rest))) : W p l e R s m args below meth c H locs cells slots Q (F0 m pc ls st0) := by
  intro T hT X
  rcases hr T hT X with ⟨v, st₀, t, T', L, h0, X', hL, e1, e2, ⟨⟨r, u, hv, hp, hb⟩, hF⟩, st⟩ | ⟨q, st₀, t, T', L, E, ce, h0, X', hL, e1, e2, ⟨u, hp, hb, hF⟩, hce, hcv, hcl, st⟩
  · cases hv
    obtain ⟨k1, k2, k3⟩ := vx_keep h0 e1 hS hA hf hL hF
    obtain ⟨t2, a1, b1⟩ := kk r u t T'.heap (locs ++ L) e1.symm (by rw [← e2]; exact X'.warmed.alike) hp hb k1 k2 k3 T' rfl X'
    exact ⟨t2, st t2 a1, b1⟩
  · obtain ⟨k1, k2, k3⟩ := vx_keep h0 e1 hS hAX hf hL hF
    obtain ⟨t2, a1, b1⟩ := kx E ce q u t T'.heap (locs ++ L) e1.symm (by rw [← e2]; exact X'.warmed.alike) hp hb k1 k2 k3 (by rw [e1]; exact hce) hcv hcl T' rfl X'
    exact ⟨t2, st.trans a1, b1⟩
theorem vx_calld {S SX : Type} {post : UInt64 → S → Prop} {px : SX → Prop} {B : S → State → Prop} {BX : String → SX → State → Prop} {AX : Nat → Prop} (hr : vx_Run p l e R s m args below meth c H locs cells slots mc ms (F0 m pc ls st0) rest (va_Qd post B A1 a) (vx_X px BX AX) free) (hS : va_S A0 H0 H locs) (hA : ∀ q, q < H.size → A1 q → A0 q) (hf : ∀ q, free q → A0 q) (hAX : ∀ q, q < H.size → AX q → A0 q)
    (kx : ∀ (E : String) (ce : Cell) (q9 : Addr) (u : SX) (t : State) (H1 : Heap) (locs1 : List Loc), t.heap = H1 → s.vm.Alike t.vm → px u → BX E u t → H.size ≤ H1.size → (∀ q : Nat, q < H.size → ¬ AX q → H1[q]? = H[q]?) → va_S A0 H0 H1 locs1 → H1[q9]? = some ce → ce.vm = .none → s.vm.findClass E = some ce.cls → vx_W p l e R s m args below meth c H1 locs1 (cells + mc) (slots + ms) Q (F0 m pc ls rest) q9)
    (kk : ∀ (r : UInt64) (u : S) (t : State) (H1 : Heap) (locs1 : List Loc), t.heap = H1 → s.vm.Alike t.vm → post r u → B u t → H.size ≤ H1.size → (∀ q : Nat, q < H.size → ¬ A1 q → H1[q]? = H[q]?) → va_S A0 H0 H1 locs1 → W p l e R s m args below meth c H1 locs1 (cells + mc) (slots + ms) Q (F0 m (pc + 3) ls (.double r :: rest))) : W p l e R s m args below meth c H locs cells slots Q (F0 m pc ls st0) := by
  intro T hT X
  rcases hr T hT X with ⟨v, st₀, t, T', L, h0, X', hL, e1, e2, ⟨⟨r, u, hv, hp, hb⟩, hF⟩, st⟩ | ⟨q, st₀, t, T', L, E, ce, h0, X', hL, e1, e2, ⟨u, hp, hb, hF⟩, hce, hcv, hcl, st⟩
  · cases hv
    obtain ⟨k1, k2, k3⟩ := vx_keep h0 e1 hS hA hf hL hF
    obtain ⟨t2, a1, b1⟩ := kk r u t T'.heap (locs ++ L) e1.symm (by rw [← e2]; exact X'.warmed.alike) hp hb k1 k2 k3 T' rfl X'
    exact ⟨t2, st t2 a1, b1⟩
  · obtain ⟨k1, k2, k3⟩ := vx_keep h0 e1 hS hAX hf hL hF
    obtain ⟨t2, a1, b1⟩ := kx E ce q u t T'.heap (locs ++ L) e1.symm (by rw [← e2]; exact X'.warmed.alike) hp hb k1 k2 k3 (by rw [e1]; exact hce) hcv hcl T' rfl X'
    exact ⟨t2, st.trans a1, b1⟩
theorem vx_callv {S SX : Type} {post : S → Prop} {px : SX → Prop} {B : S → State → Prop} {BX : String → SX → State → Prop} {AX : Nat → Prop} (hr : vx_Run p l e R s m args below meth c H locs cells slots mc ms (F0 m pc ls st0) rest (va_Qv post B A1 a) (vx_X px BX AX) free) (hS : va_S A0 H0 H locs) (hA : ∀ q, q < H.size → A1 q → A0 q) (hf : ∀ q, free q → A0 q) (hAX : ∀ q, q < H.size → AX q → A0 q)
    (kx : ∀ (E : String) (ce : Cell) (q9 : Addr) (u : SX) (t : State) (H1 : Heap) (locs1 : List Loc), t.heap = H1 → s.vm.Alike t.vm → px u → BX E u t → H.size ≤ H1.size → (∀ q : Nat, q < H.size → ¬ AX q → H1[q]? = H[q]?) → va_S A0 H0 H1 locs1 → H1[q9]? = some ce → ce.vm = .none → s.vm.findClass E = some ce.cls → vx_W p l e R s m args below meth c H1 locs1 (cells + mc) (slots + ms) Q (F0 m pc ls rest) q9)
    (kk : ∀ (u : S) (t : State) (H1 : Heap) (locs1 : List Loc), t.heap = H1 → s.vm.Alike t.vm → post u → B u t → H.size ≤ H1.size → (∀ q : Nat, q < H.size → ¬ A1 q → H1[q]? = H[q]?) → va_S A0 H0 H1 locs1 → W p l e R s m args below meth c H1 locs1 (cells + mc) (slots + ms) Q (F0 m (pc + 3) ls (rest))) : W p l e R s m args below meth c H locs cells slots Q (F0 m pc ls st0) := by
  intro T hT X
  rcases hr T hT X with ⟨v, st₀, t, T', L, h0, X', hL, e1, e2, ⟨⟨u, hv, hp, hb⟩, hF⟩, st⟩ | ⟨q, st₀, t, T', L, E, ce, h0, X', hL, e1, e2, ⟨u, hp, hb, hF⟩, hce, hcv, hcl, st⟩
  · cases hv
    obtain ⟨k1, k2, k3⟩ := vx_keep h0 e1 hS hA hf hL hF
    obtain ⟨t2, a1, b1⟩ := kk u t T'.heap (locs ++ L) e1.symm (by rw [← e2]; exact X'.warmed.alike) hp hb k1 k2 k3 T' rfl X'
    exact ⟨t2, st t2 a1, b1⟩
  · obtain ⟨k1, k2, k3⟩ := vx_keep h0 e1 hS hAX hf hL hF
    obtain ⟨t2, a1, b1⟩ := kx E ce q u t T'.heap (locs ++ L) e1.symm (by rw [← e2]; exact X'.warmed.alike) hp hb k1 k2 k3 (by rw [e1]; exact hce) hcv hcl T' rfl X'
    exact ⟨t2, st.trans a1, b1⟩
/-- caught by the row x of this method's table; the rows ahead don't take it -/
theorem vx_catch {own name : String} {E : String} {ce : Cell} {q : Addr} (hown : s.vm.findClass own = some m.cls) (pre : List ExceptionTableEntry) (x : ExceptionTableEntry) (suf : List ExceptionTableEntry) (hsplit : c.exceptionTable.toList = pre ++ x :: suf)
    (hpass : ∀ z ∈ pre, covers z pc = false ∨ (z.catchType ≠ 0 ∧ ∃ nm : String, (Cond.classLink own z.catchType nm).before args s = true ∧ va_Nc E nm s)) (hx : covers x pc = true) (h0 : x.catchType ≠ 0)
    (hlink : (Cond.classLink own x.catchType name).before args s = true) (hcast : (Cond.castable E name).before args s = true) (hcell : H[q]? = some ce) (hv : ce.vm = .none) (hcl : s.vm.findClass E = some ce.cls)
    (kk : W p l e R s m args below meth c H locs cells slots Q (F0 m x.handlerPc ls [.ref q])) : vx_W p l e R s m args below meth c H locs cells slots Q (F0 m pc ls rest) q := by
  intro T hT X
  have hpl : e.platform.magicAccessors = ({} : Platform).magicAccessors := by rw [X.admits.platform]
  obtain ⟨c3, c4, hc3, hc4, hasg⟩ := Cond.castable_spec hcast
  cases Option.some.inj (hc3.symm.trans hcl)
  obtain ⟨c5, hc5, hcl5⟩ := Cond.classLink_spec hown hlink e.platform hpl
  cases Option.some.inj (hc4.symm.trans hc5)
  obtain ⟨vm', X', st⟩ := Stand.thenCaughtThrough X q (g := F0 m pc ls rest) rfl (Steps.refl _) (by rw [hT]; exact hcell) (by rw [hv]; rfl) (by obtain ⟨k9, h9, -⟩ := Vm.findClass_spec hcl; exact ⟨k9, h9⟩) pre x suf hsplit
    (fun z hz => by
      rcases hpass z hz with h | ⟨hz0, nm, hl1, hn1⟩
      · exact Or.inl h
      · obtain ⟨c6, hc6, hcl6⟩ := Cond.classLink_spec hown hl1 e.platform hpl
        obtain ⟨a8, b8, h1, h2, h3⟩ := hn1
        cases Option.some.inj (h1.symm.trans hcl)
        cases Option.some.inj (h2.symm.trans hc6)
        exact Or.inr ⟨hz0, _, hcl6, h3⟩) hx (Or.inr ⟨h0, c4, hcl5, hasg⟩)
  obtain ⟨t, a1, b1⟩ := kk (T.setVm vm') hT X'
  exact ⟨t, st.trans a1, b1⟩
end Rows
section Ends
variable {p : Program} {l : Launch} {e : Env} {R : Room} {s : State} {m : MethodId} {args : Array Value} {below : List Frame} {meth : Method} {c : Code} {H : Heap} {locs : List Loc} {cells slots : Nat} {Q : State → Prop}
variable {mc ms : Nat} {free : Addr → Prop} {A0 A1 : Nat → Prop} {H0 : Heap} {a : Array Value} {ls : Array Slot} {st0 rest : List Value}
variable {Qc : Array Value → State → Outcome → State → Prop} {XC : String → State → State → Prop}
/-- what a body that may throw owes at its end -/
def vx_MQ (below : List Frame) (Qc : Array Value → State → Outcome → State → Prop) (XC : String → State → State → Prop) (a : Array Value) (s : State) (mc ms : Nat) (free : Addr → Prop) : State → Prop := fun t =>
  ∃ o, t.status = .running ∧ Ended t below o ∧ vx_Q Qc XC mc ms free a s o t
theorem vx_ret {g : JFrame} {mc ms : Nat} (k : W p l e R s m args below meth c H locs cells slots (MQ below Qc args s mc ms free) g) : W p l e R s m args below meth c H locs cells slots (vx_MQ below Qc XC args s mc ms free) g := by
  intro T hT X
  obtain ⟨t, a1, o, b1, b2, b3, b4⟩ := k T hT X
  exact ⟨t, a1, o, b1, b2, Or.inl ⟨b3, b4⟩⟩
/-- not caught here: it goes on to the caller -/
theorem vx_widen {g : JFrame} {q : Addr} {k n : Nat} (h1 : cells ≤ k) (h2 : slots ≤ n) (kk : vx_W p l e R s m args below meth c H locs k n Q g q) : vx_W p l e R s m args below meth c H locs cells slots Q g q := fun T hT X => kk T hT (stand_widen X h1 h2)
theorem vx_out {pc : Nat} {E : String} {ce : Cell} {q : Addr} {mc ms : Nat} (hout : ∀ x ∈ c.exceptionTable.toList, covers x pc = false) (hlocks : meth.locks = false) (hcell : H[q]? = some ce) (hv : ce.vm = .none) (hcl : s.vm.findClass E = some ce.cls)
    (hx : ∀ t : State, t.heap = H → s.vm.Alike t.vm → XC E s t) (hf : ∀ z ∈ locs, free z.base) (hc : cells ≤ mc) (hs : slots ≤ ms) :
    vx_W p l e R s m args below meth c H locs cells slots (vx_MQ below Qc XC args s mc ms free) (F0 m pc ls rest) q := by
  intro T hT X
  obtain ⟨st1, hrun, hend, hW, hsm⟩ := X.leaveThrown q (g := F0 m pc ls rest) rfl rfl rfl hout hlocks
  have hcell9 : (T.setFrames (.throwing q :: below)).heap[q]? = some ce := by
    show T.heap[q]? = some ce
    rw [hT]; exact hcell
  exact ⟨_, st1, .threw q, hrun, hend, Or.inr ⟨q, rfl, E, ce, locs, hx _ hT hW.alike, hcell9, hv, hcl, hW, hsm.mono hc hs, hf⟩⟩
theorem vx_frame {U : State} {k n : Nat} (h : s.sameButNew ({ U with vm := s.vm } : State) locs k n) : s.heap.size ≤ U.heap.size ∧ ∀ q : Nat, q < s.heap.size → (∀ z ∈ locs, z.base ≠ q) → U.heap[q]? = s.heap[q]? := by
  obtain ⟨-, h2, -, -, -, h6⟩ := h
  refine ⟨h2, fun q hq hz => ?_⟩
  obtain ⟨c9, e1, e2, e3, e4⟩ := h6 q _ (Array.getElem?_eq_getElem hq)
  have hs : c9.slots = (s.heap[q]).slots := Array.ext_getElem? fun i => e4 i fun hm => hz _ hm rfl
  have h9 : c9 = s.heap[q] := by
    rw [hs] at e2
    exact e2
  have e5 : U.heap[q]? = some c9 := e1
  rw [e5, h9, Array.getElem?_eq_getElem hq]
/-- the words of a throw but the four that speak of the heap -/
def vx_no (w : Cond) : Bool := decide (w ≠ .isRef (.static Bundle.tN "UNASSIGNED_STACK" Bundle.steD)) && decide (w ≠ .isRef (.static Bundle.tN "SUPPRESSED_SENTINEL" Bundle.listD)) && decide (w ≠ .laysStatic Bundle.tN "UNASSIGNED_STACK" Bundle.steD) && decide (w ≠ .laysStatic Bundle.tN "SUPPRESSED_SENTINEL" Bundle.listD)
def vx_at0 (own : String) (ic : Nat) (X : String) (names : List String) : List Cond := (Bundle.ownAtoms0 own ic X names).filter vx_no
def vx_atS (own : String) (ic : Nat) (X : String) (names : List String) : List Cond := (Bundle.ownAtoms own ic X names).filter vx_no
/-- a word that the tables alone decide, or a good one -/
def vx_ot (w : Cond) : Bool := w.onTables || goodWord w
theorem vx_ot_at {args a' : Array Value} {s U : State} {w : Cond} (hW : s.WarmedH U.vm) (hvm : s.vm = U.vm) (hg : vx_ot w = true) (h : w.before args s = true) : w.before a' U = true := by
  simp only [vx_ot, Bool.or_eq_true] at hg
  rcases hg with hg | hg
  · exact va_tabs hg hvm h
  · exact word_at hW (good_of_word hg) h
/-- a list's words: the good ones out of the method's own list, the others by premises of their own -/
theorem vx_hat {args : Array Value} {s : State} {L B : List Cond} (h1 : ∀ w ∈ L.filter goodWord, w.before args s = true) (h2 : ∀ w ∈ L.filter (fun w => !goodWord w), w ∈ B) (h3 : ∀ w ∈ B, w.before args s = true) : ∀ w ∈ L, w.before args s = true := by
  intro w hw
  by_cases g : goodWord w = true
  · exact h1 w (List.mem_filter.mpr ⟨hw, g⟩)
  · refine h3 w (h2 w (List.mem_filter.mpr ⟨hw, ?_⟩))
    show (!goodWord w) = true
    cases hgw : goodWord w
    · rfl
    · exact absurd hgw g
theorem vx_c {args : Array Value} {s : State} {w : Cond} {B : List Cond} (h : w.before args s = true) (t : ∀ w ∈ B, w.before args s = true) : ∀ w' ∈ w :: B, w'.before args s = true := fun w' h' => (List.mem_cons.mp h').elim (fun e => by rw [e]; exact h) (t w')
theorem vx_n {args : Array Value} {s : State} : ∀ w ∈ ([] : List Cond), w.before args s = true := fun _ h => nomatch h
theorem vx_own {args : Array Value} {s : State} {L : List Cond} (h1 : ∀ w ∈ L.filter vx_no, w.before args s = true)
    (hU : (Cond.isRef (.static Bundle.tN "UNASSIGNED_STACK" Bundle.steD)).before args s = true) (hN : (Cond.isRef (.static Bundle.tN "SUPPRESSED_SENTINEL" Bundle.listD)).before args s = true)
    (lU : (Cond.laysStatic Bundle.tN "UNASSIGNED_STACK" Bundle.steD).before args s = true) (lN : (Cond.laysStatic Bundle.tN "SUPPRESSED_SENTINEL" Bundle.listD).before args s = true) : ∀ w ∈ L, w.before args s = true := by
  intro w hw
  by_cases e1 : w = .isRef (.static Bundle.tN "UNASSIGNED_STACK" Bundle.steD)
  · rw [e1]; exact hU
  · by_cases e2 : w = .isRef (.static Bundle.tN "SUPPRESSED_SENTINEL" Bundle.listD)
    · rw [e2]; exact hN
    · by_cases e3 : w = .laysStatic Bundle.tN "UNASSIGNED_STACK" Bundle.steD
      · rw [e3]; exact lU
      · by_cases e4 : w = .laysStatic Bundle.tN "SUPPRESSED_SENTINEL" Bundle.listD
        · rw [e4]; exact lN
        · exact h1 w (List.mem_filter.mpr ⟨hw, by unfold vx_no; rw [decide_eq_true e1, decide_eq_true e2, decide_eq_true e3, decide_eq_true e4]; rfl⟩)
/-- where a static field lies, its class's statics cell in H -/
def vx_L (C n d : String) (A : Nat → Prop) (U : State) (H : Heap) : Prop := ∃ (c : ClassId) (k : Class) (i : Nat) (f : Field) (a : Nat) (cell : Cell), U.vm.findClass C = some c ∧ U.fieldFound? C n d = some (c, k, i, f) ∧ f.isStatic = true ∧ k.statics = some a ∧ H[a]? = some cell ∧ cell.vm.isStatics = true ∧ cell.cls = c ∧ f.slot < cell.slots.size ∧ k.staticTypes[f.slot]? = some f.type ∧ ¬ A a
theorem vx_L.moved {C n d : String} {A : Nat → Prop} {u U : State} {H : Heap} (hvm : u.vm.Alike U.vm) (h : vx_L C n d A u H) : vx_L C n d A U H := by
  obtain ⟨c, k, i, f, a, cell, h1, h2, h3, h4, h5, h6, h7, h8, h9, h10⟩ := h
  obtain ⟨k', hi', he⟩ := State.fieldFound?_setVm hvm h2
  exact ⟨c, k', i, f, a, cell, by rw [hvm.findClass]; exact h1, hi', h3, by rw [he]; exact h4, h5, h6, h7, h8, by rw [he]; exact h9, h10⟩
theorem vx_L.kept {C n d : String} {A : Nat → Prop} {U : State} {H H1 : Heap} (h : vx_L C n d A U H) (hq : ∀ a : Nat, a < H.size → ¬ A a → H1[a]? = H[a]?) : vx_L C n d A U H1 := by
  obtain ⟨c, k, i, f, a, cell, h1, h2, h3, h4, h5, h6, h7, h8, h9, h10⟩ := h
  exact ⟨c, k, i, f, a, cell, h1, h2, h3, h4, by rw [hq a (Array.getElem?_eq_some_iff.mp h5).1 h10]; exact h5, h6, h7, h8, h9, h10⟩
theorem vx_L.narrow {C n d : String} {A B : Nat → Prop} {U : State} {H : Heap} (h : vx_L C n d A U H) (hAB : ∀ q, B q → A q) : vx_L C n d B U H := by
  obtain ⟨c, k, i, f, a, cell, h1, h2, h3, h4, h5, h6, h7, h8, h9, h10⟩ := h
  exact ⟨c, k, i, f, a, cell, h1, h2, h3, h4, h5, h6, h7, h8, h9, fun z => h10 (hAB _ z)⟩
theorem vx_L.word {C n d : String} {A : Nat → Prop} {s : State} {args : Array Value} (h : vx_L C n d A s s.heap) : (Cond.laysStatic C n d).before args s = true := by
  obtain ⟨c, k, i, f, a, cell, h1, h2, h3, h4, h5, h6, h7, h8, h9, -⟩ := h
  show (Cond.laysStatic C n d).holds args s none s [] = true
  exact Cond.laysStatic_of h1 h2 h3 h4 h5 h6 h7 h8 h9
/-- .. and what it holds: null or some reference -/
def vx_Zq (C n d : String) (A : Nat → Prop) (U : State) (H : Heap) : Prop := va_Zq C n d A U H ∧ vx_L C n d A U H
theorem vx_Zq.moved {C n d : String} {A : Nat → Prop} {u U : State} {H : Heap} (hvm : u.vm.Alike U.vm) (h : vx_Zq C n d A u H) : vx_Zq C n d A U H := ⟨va_Zq.moved hvm h.1, vx_L.moved hvm h.2⟩
theorem vx_Zq.kept {C n d : String} {A : Nat → Prop} {U : State} {H H1 : Heap} (h : vx_Zq C n d A U H) (hq : ∀ a : Nat, a < H.size → ¬ A a → H1[a]? = H[a]?) : vx_Zq C n d A U H1 := ⟨va_Zq.kept h.1 hq, vx_L.kept h.2 hq⟩
theorem vx_Zq.narrow {C n d : String} {A B : Nat → Prop} {U : State} {H : Heap} (h : vx_Zq C n d A U H) (hAB : ∀ q, B q → A q) : vx_Zq C n d B U H := ⟨va_Zq.narrow h.1 hAB, vx_L.narrow h.2 hAB⟩
theorem vx_Zqof {args : Array Value} {s : State} {C n d : String} {A : Nat → Prop} (hl : (Cond.laysStatic C n d).before args s = true) (hini : (Cond.initialized C).before args s = true) (h : (Cond.isRef (.static C n d)).before args s = true) (hA : ∀ a : Nat, a < s.heap.size → ¬ A a) : vx_Zq C n d A s s.heap := by
  refine ⟨va_Zqof hl hini h hA, ?_⟩
  obtain ⟨c, k, i, f, a, cell, h1, h2, h3, h4, h5, h6, h7, h8, h9⟩ := Cond.laysStatic_spec hl
  exact ⟨c, k, i, f, a, cell, h1, h2, h3, h4, h5, h6, h7, h8, h9, hA a (Array.getElem?_eq_some_iff.mp h5).1⟩
theorem vx_isRef {C n d : String} {v : Value} {A : Nat → Prop} {s : State} {args : Array Value} (h : va_Z C n d v A s s.heap) (hv : v.isRef = true) : (Cond.isRef (.static C n d)).before args s = true := by
  obtain ⟨cf, kf, fi, f, a, cell, h1, h2, h3, h4, h5, h6, h7, -⟩ := h
  have he : (Term.static C n d).eval args s none [] s = some v := by
    simp [Term.eval, State.fieldNamed?, h1, h2, h4, h5, h6, h7]
  simp only [Cond.before, Cond.holds, Cond.value, he]
  cases v <;> simp_all [Value.isRef]
theorem vx_isRefq {C n d : String} {A : Nat → Prop} {s : State} {args : Array Value} (h : va_Zq C n d A s s.heap) : (Cond.isRef (.static C n d)).before args s = true := by
  rcases h with h | ⟨t, h⟩
  · exact vx_isRef h rfl
  · exact vx_isRef h rfl
/-- the same frame, seen from here: as if the method were called anew in this heap -/
theorem vx_rebase {T : State} (X : Stand p l e R s m args below meth c T locs cells slots) {R' : Room} (hf : R'.frames ≤ R.frames) (hl : R'.locals ≤ R.locals) (hc : cells + R'.cells ≤ R.cells) (hs : slots + R'.slots ≤ R.slots) :
    Stand p l e R' ((T.setVm s.vm).setFrames (.invoking m args :: below)) m args below meth c T [] 0 0 := by
  have htop : (T.setVm s.vm).topJava?.isSome := X.here.top
  have hF : ((T.setVm s.vm).setFrames (.invoking m args :: below)).frames = .invoking m args :: below := State.frames_setFrames _ (State.cur_lt_of_top htop)
  obtain ⟨g₀, hg0⟩ := Option.isSome_iff_exists.mp htop
  obtain ⟨r, hr⟩ := State.topJava?_eq_some.mp hg0
  have hl9 : e.platform.stackLimits (T.setVm s.vm).me = e.platform.stackLimits s.me := X.limits
  have hb9 : (T.setVm s.vm).me.stackBytes = s.me.stackBytes := X.bytes
  refine ⟨X.admits, X.cas, X.clock, hF, ?_, X.hears, X.method, X.code, X.here, X.tail, X.warmed, ?_, ?_, ?_⟩
  · have h := X.room
    have hU : ((T.setVm s.vm).setFrames (.invoking m args :: below)).localsInUse = s.localsInUse := by
      rw [State.localsInUse_invoking hF (meth := meth) (c := c) X.method X.code, State.localsInUse_invoking X.frames X.method X.code]
    simp only [State.hasRoom, Bool.and_eq_true, decide_eq_true_eq] at h ⊢
    obtain ⟨⟨⟨⟨h1, h2, h3, h4, h5, h6⟩, h7⟩, h8⟩, h9⟩ := h
    rw [X.frames, List.length_cons] at h2 h3
    have q1 := X.heapSize
    have q2 := X.used
    simp only [hF, hU, List.length_cons, State.stackLimits_setFrames, State.stackBytes_setFrames, hl9, hb9]
    refine ⟨⟨⟨⟨by omega, by omega, by omega, by omega, by omega, h6⟩, ?_⟩, ?_⟩, X.book⟩
    · show T.heap.size + R'.cells ≤ e.platform.maxCells
      omega
    · show T.slotsUsed + R'.slots ≤ e.platform.maxSlots
      omega
  · rw [State.stackLimits_setFrames]; rfl
  · rw [State.stackBytes_setFrames]; rfl
  · refine ⟨?_, Nat.le_refl _, Nat.le_refl _, ?_, ?_, fun a c9 h9 => ⟨c9, h9, rfl, rfl, fun _ _ => rfl⟩⟩
    · obtain ⟨t, ht, -⟩ := State.frames_cons hr
      show T.setVm s.vm = { ((T.setVm s.vm).setFrames (.invoking m args :: below)).setFrames (T.setVm s.vm).frames with heap := T.heap, slotsUsed := T.slotsUsed }
      rw [State.setFrames_setFrames, State.setFrames_self ht]
      rfl
    · show T.slotsUsed = T.slotsUsed + ((T.heap.toList.drop T.heap.size).map (·.slots.size)).sum
      rw [List.drop_eq_nil_of_le (Nat.le_of_eq Array.length_toList)]
      rfl
    · show ((T.heap.toList.drop T.heap.size).map (·.slots.size)).sum ≤ 0
      rw [List.drop_eq_nil_of_le (Nat.le_of_eq Array.length_toList)]
      exact Nat.le_refl _
/-- 'throw new E()': new; dup; invokespecial; athrow -/
theorem vx_throw0 {cc : ByteArray} {pc : Nat} (hexec : p.tables.exec = Jvm.exec) (hb : c.code = cc) (hl : l.stackTraces = false) {own cls : String} {names : List String} {ik ic mc ms : Nat} {A : Nat → Prop}
    (hown : s.vm.findClass own = some m.cls) (hcls : Bundle.fit cls = true) (hnames : ∀ n ∈ names, Bundle.fit n = true)
    (hk : (Cond.classLink own ik cls).before args s = true) (hini : (Cond.initialized cls).before args s = true) (hat : ∀ w ∈ vx_at0 own ic cls names, w.before args s = true)
    (hgood : ∀ w ∈ Cond.classLink own ik cls :: Cond.initialized cls :: vx_at0 own ic cls names, vx_ot w = true)
    (hU : vx_Zq Bundle.tN "UNASSIGNED_STACK" Bundle.steD A s s.heap) (hN : vx_Zq Bundle.tN "SUPPRESSED_SENTINEL" Bundle.listD A s s.heap) (hS : va_S A s.heap H locs) (hsize : ls.size = c.maxLocals)
    (d0 : decode cc pc = .ok (.new ik, 3)) (d3 : decode cc (pc + 3) = .ok (.dup, 1)) (d4 : decode cc (pc + 4) = .ok (.invokespecial ic, 3)) (d7 : decode cc (pc + 7) = .ok (.athrow, 1))
    (hout : ∀ x ∈ c.exceptionTable.toList, covers x (pc + 7) = false)
    (hRframes : names.length + 3 < R.frames) (hRlocals : (rest.map fun v => v.category).sum + (13 * (names.length + 1) + 42) ≤ R.locals) (hRcells : cells + 1 ≤ R.cells) (hRslots : slots + 6 ≤ R.slots) (hlocks : meth.locks = false)
    (hx : ∀ t : State, s.vm.Alike t.vm → H.size ≤ t.heap.size → (∀ q : Nat, q < H.size → t.heap[q]? = H[q]?) → XC cls s t)
    (hf : ∀ z ∈ locs, free z.base) (hc : cells + 1 ≤ mc) (hs : slots + 6 ≤ ms) :
    W p l e R s m args below meth c H locs cells slots (vx_MQ below Qc XC args s mc ms free) (F0 m pc ls rest) := by
  intro T hT X
  have htr : e.platform.stackTraces = false := (show e.platform.stackTraces = l.stackTraces by rw [X.admits.platform]).trans hl
  have Y := vx_rebase X (R' := { frames := R.frames, locals := R.locals, cells := 1, slots := 6 }) (Nat.le_refl _) (Nat.le_refl _) hRcells hRslots
  obtain ⟨s', hA⟩ : ∃ z, z = (T.setVm s.vm).setFrames (.invoking m args :: below) := ⟨_, rfl⟩
  rw [← hA] at Y
  have hvm : s'.vm = s.vm := by rw [hA]; rfl
  have hhp : s'.heap = H := by rw [hA]; exact hT
  have hW0 : s.WarmedH s'.vm := by rw [hvm]; exact State.WarmedH.refl s
  have hat' : ∀ w ∈ vx_at0 own ic cls names, w.before args s' = true := fun w hw => vx_ot_at hW0 hvm.symm (hgood w (List.mem_cons_of_mem _ (List.mem_cons_of_mem _ hw))) (hat w hw)
  have hk' : (Cond.classLink own ik cls).before args s' = true := vx_ot_at hW0 hvm.symm (hgood _ List.mem_cons_self) hk
  have hini' : (Cond.initialized cls).before args s' = true := vx_ot_at hW0 hvm.symm (hgood _ (List.mem_cons_of_mem _ List.mem_cons_self)) hini
  have hU' : vx_Zq Bundle.tN "UNASSIGNED_STACK" Bundle.steD A s' s'.heap := by rw [hhp]; exact vx_Zq.moved hW0.alike (hU.kept hS.2.1)
  have hN' : vx_Zq Bundle.tN "SUPPRESSED_SENTINEL" Bundle.listD A s' s'.heap := by rw [hhp]; exact vx_Zq.moved hW0.alike (hN.kept hS.2.1)
  have h : ∀ w ∈ Bundle.ownAtoms0 own ic cls names, w.before args s' = true := vx_own hat' (vx_isRefq hU'.1) (vx_isRefq hN'.1) hU'.2.word hN'.2.word
  have hown' : s'.vm.findClass own = some m.cls := by rw [hvm]; exact hown
  have hins : (Cond.instantiable cls 6).before args s' = true := h _ (by simp [Bundle.ownAtoms0])
  obtain ⟨vm₁, cX, kX, hfX, hkX, -, -, X₁, st1⟩ := Y.newCold hexec (own := own) (C := cls) (index := ik) (n := 6) hown' hk' hins hini'
    (g := F0 m pc ls rest) rfl (by rw [hb]; exact d0) (Nat.le_refl _) (Nat.le_refl _)
  generalize hT1 : (T.setVm vm₁).pushCell { cls := cX, slots := kX.instanceTypes.map defaultValue, vm := .none } = T1 at X₁ st1
  have hcat : (Value.ref T.heap.size).category = 1 := rfl
  have hcellA : T1.heap[T.heap.size]? = some (freshCell cX kX) := by rw [← hT1]; exact State.heap_pushCell_size _ _
  have d3' : decode c.code (pc + 3) = .ok (.dup, 1) := by rw [hb]; exact d3
  obtain ⟨U, hsteps, hrun, hend, hW, hsame, ce, hce, hO⟩ := X₁.ctorThrow0 hexec htr (own := own) (cls := cls) (names := names) (ic := ic) hown' hcls hnames h (fun x hx => nomatch hx) hfX hkX hcellA (by rw [hhp, hT]; exact Nat.le_refl _)
    (g := { method := m, pc := pc + 4, locals := ls, stack := .ref T.heap.size :: .ref T.heap.size :: rest, locked := none }) rfl hsize rfl rfl (rest := rest) rfl
    (by rw [hb]; exact d4) (by rw [hb]; exact d7) hout hRframes (by simp only [List.map_cons, List.sum_cons, hcat]; omega) hlocks
  obtain ⟨f1, f2⟩ := vx_frame hsame
  rw [hhp] at f1 f2
  have hWs : s.WarmedH U.vm := State.WarmedH.trans hW0 hW
  have hcl : s.vm.findClass cls = some ce.cls := by
    have h9 := hO.cls
    rw [hvm] at h9
    exact h9
  have hall : s.sameButNew ({ U with vm := s.vm } : State) locs mc ms := by
    subst hA
    obtain ⟨e1, e2⟩ := hsame
    rw [State.setFrames_setFrames] at e1
    have h2 : (T.setVm s.vm).sameButNew ({ U with vm := s.vm } : State) [] (0 + 1) (0 + 6) := ⟨e1, e2⟩
    have h3 := X.same.trans h2
    rw [List.append_nil] at h3
    exact h3.mono hc hs
  refine ⟨U, ?_, .threw T.heap.size, hrun, hend, Or.inr ⟨T.heap.size, rfl, cls, ce, locs, hx U hWs.alike f1 (fun q hq => f2 q hq (fun z hz => nomatch hz)), hce, hO.vm, hcl, hWs, hall, hf⟩⟩
  refine st1 _ ?_
  show Steps p.tables e below (T1.setTop { method := m, pc := pc + 3, locals := ls, stack := .ref T.heap.size :: rest, locked := none }) _
  jvm_step X₁.here [X₁.here.top, hexec, d3', Value.category]
  exact hsteps
/-- 'throw new E("text")': new; dup; ldc; invokespecial; athrow -/
theorem vx_throwS {cc : ByteArray} {pc : Nat} (hexec : p.tables.exec = Jvm.exec) (hb : c.code = cc) (hl : l.stackTraces = false) {own cls text : String} {names : List String} {ik is ic mc ms sa : Nat} {A : Nat → Prop}
    (hown : s.vm.findClass own = some m.cls) (hcls : Bundle.fit cls = true) (hnames : ∀ n ∈ names, Bundle.fit n = true)
    (hk : (Cond.classLink own ik cls).before args s = true) (hini : (Cond.initialized cls).before args s = true) (hstr : vk_R own is text sa s) (hat : ∀ w ∈ vx_atS own ic cls names, w.before args s = true)
    (hgood : ∀ w ∈ Cond.classLink own ik cls :: Cond.initialized cls :: vx_atS own ic cls names, vx_ot w = true)
    (hU : vx_Zq Bundle.tN "UNASSIGNED_STACK" Bundle.steD A s s.heap) (hN : vx_Zq Bundle.tN "SUPPRESSED_SENTINEL" Bundle.listD A s s.heap) (hS : va_S A s.heap H locs) (hsize : ls.size = c.maxLocals)
    (d0 : decode cc pc = .ok (.new ik, 3)) (d3 : decode cc (pc + 3) = .ok (.dup, 1)) (d4 : decode cc (pc + 4) = .ok (.ldc is, 2)) (d6 : decode cc (pc + 6) = .ok (.invokespecial ic, 3)) (d9 : decode cc (pc + 9) = .ok (.athrow, 1))
    (hout : ∀ x ∈ c.exceptionTable.toList, covers x (pc + 9) = false)
    (hRframes : names.length + 3 < R.frames) (hRlocals : (rest.map fun v => v.category).sum + (13 * (names.length + 1) + 43) ≤ R.locals) (hRcells : cells + 1 ≤ R.cells) (hRslots : slots + 6 ≤ R.slots) (hlocks : meth.locks = false)
    (hx : ∀ t : State, s.vm.Alike t.vm → H.size ≤ t.heap.size → (∀ q : Nat, q < H.size → t.heap[q]? = H[q]?) → XC cls s t)
    (hf : ∀ z ∈ locs, free z.base) (hc : cells + 1 ≤ mc) (hs : slots + 6 ≤ ms) :
    W p l e R s m args below meth c H locs cells slots (vx_MQ below Qc XC args s mc ms free) (F0 m pc ls rest) := by
  intro T hT X
  have htr : e.platform.stackTraces = false := (show e.platform.stackTraces = l.stackTraces by rw [X.admits.platform]).trans hl
  have Y := vx_rebase X (R' := { frames := R.frames, locals := R.locals, cells := 1, slots := 6 }) (Nat.le_refl _) (Nat.le_refl _) hRcells hRslots
  obtain ⟨s', hA⟩ : ∃ z, z = (T.setVm s.vm).setFrames (.invoking m args :: below) := ⟨_, rfl⟩
  rw [← hA] at Y
  have hvm : s'.vm = s.vm := by rw [hA]; rfl
  have hhp : s'.heap = H := by rw [hA]; exact hT
  have hW0 : s.WarmedH s'.vm := by rw [hvm]; exact State.WarmedH.refl s
  have hat' : ∀ w ∈ vx_atS own ic cls names, w.before args s' = true := fun w hw => vx_ot_at hW0 hvm.symm (hgood w (List.mem_cons_of_mem _ (List.mem_cons_of_mem _ hw))) (hat w hw)
  have hk' : (Cond.classLink own ik cls).before args s' = true := vx_ot_at hW0 hvm.symm (hgood _ List.mem_cons_self) hk
  have hini' : (Cond.initialized cls).before args s' = true := vx_ot_at hW0 hvm.symm (hgood _ (List.mem_cons_of_mem _ List.mem_cons_self)) hini
  have hU' : vx_Zq Bundle.tN "UNASSIGNED_STACK" Bundle.steD A s' s'.heap := by rw [hhp]; exact vx_Zq.moved hW0.alike (hU.kept hS.2.1)
  have hN' : vx_Zq Bundle.tN "SUPPRESSED_SENTINEL" Bundle.listD A s' s'.heap := by rw [hhp]; exact vx_Zq.moved hW0.alike (hN.kept hS.2.1)
  have h : ∀ w ∈ Bundle.ownAtoms own ic cls names, w.before args s' = true := vx_own hat' (vx_isRefq hU'.1) (vx_isRefq hN'.1) hU'.2.word hN'.2.word
  have hown' : s'.vm.findClass own = some m.cls := by rw [hvm]; exact hown
  have hins : (Cond.instantiable cls 6).before args s' = true := h _ (by simp [Bundle.ownAtoms])
  obtain ⟨vm₁, cX, kX, hfX, hkX, -, -, X₁, st1⟩ := Y.newCold hexec (own := own) (C := cls) (index := ik) (n := 6) hown' hk' hins hini'
    (g := F0 m pc ls rest) rfl (by rw [hb]; exact d0) (Nat.le_refl _) (Nat.le_refl _)
  generalize hT1 : (T.setVm vm₁).pushCell { cls := cX, slots := kX.instanceTypes.map defaultValue, vm := .none } = T1 at X₁ st1
  have hcat : (Value.ref T.heap.size).category = 1 := rfl
  have hcellA : T1.heap[T.heap.size]? = some (freshCell cX kX) := by rw [← hT1]; exact State.heap_pushCell_size _ _
  have d3' : decode c.code (pc + 3) = .ok (.dup, 1) := by rw [hb]; exact d3
  have d4' : decode c.code (pc + 4) = .ok (.ldc is, 2) := by rw [hb]; exact d4
  have hstr' : vk_R own is text sa s' := vk_R.warm hW0 hstr
  obtain ⟨U, hsteps, hrun, hend, hW, hsame, ce, hce, hO⟩ := X₁.ctorThrowS hexec htr (own := own) (cls := cls) (names := names) (ic := ic) hown' hcls hnames h (fun x hx => nomatch hx) hfX hkX hcellA (by rw [hhp, hT]; exact Nat.le_refl _) (msg := .ref sa) rfl
    (g := { method := m, pc := pc + 6, locals := ls, stack := .ref sa :: .ref T.heap.size :: .ref T.heap.size :: rest, locked := none }) rfl hsize rfl rfl (rest := rest) rfl
    (by rw [hb]; exact d6) (by rw [hb]; exact d9) hout hRframes (by simp only [List.map_cons, List.sum_cons, hcat]; omega) hlocks
  obtain ⟨f1, f2⟩ := vx_frame hsame
  rw [hhp] at f1 f2
  have hWs : s.WarmedH U.vm := State.WarmedH.trans hW0 hW
  have hcl : s.vm.findClass cls = some ce.cls := by
    have h9 := hO.cls
    rw [hvm] at h9
    exact h9
  have hall : s.sameButNew ({ U with vm := s.vm } : State) locs mc ms := by
    subst hA
    obtain ⟨e1, e2⟩ := hsame
    rw [State.setFrames_setFrames] at e1
    have h2 : (T.setVm s.vm).sameButNew ({ U with vm := s.vm } : State) [] (0 + 1) (0 + 6) := ⟨e1, e2⟩
    have h3 := X.same.trans h2
    rw [List.append_nil] at h3
    exact h3.mono hc hs
  refine ⟨U, ?_, .threw T.heap.size, hrun, hend, Or.inr ⟨T.heap.size, rfl, cls, ce, locs, hx U hWs.alike f1 (fun q hq => f2 q hq (fun z hz => nomatch hz)), hce, hO.vm, hcl, hWs, hall, hf⟩⟩
  refine st1 _ ?_
  show Steps p.tables e below (T1.setTop { method := m, pc := pc + 3, locals := ls, stack := .ref T.heap.size :: rest, locked := none }) _
  jvm_step X₁.here [X₁.here.top, hexec, d3', Value.category]
  exact X₁.ldcString hexec (own := own) (text := text) (index := is) (a := sa) hown' hstr'.1 hstr'.2
    (g := { method := m, pc := pc + 4, locals := ls, stack := .ref T.heap.size :: .ref T.heap.size :: rest, locked := none }) rfl d4' _ hsteps
/-- 'throw new E("text")', the text by a wide index -/
theorem vx_throwSW {cc : ByteArray} {pc : Nat} (hexec : p.tables.exec = Jvm.exec) (hb : c.code = cc) (hl : l.stackTraces = false) {own cls text : String} {names : List String} {ik is ic mc ms sa : Nat} {A : Nat → Prop}
    (hown : s.vm.findClass own = some m.cls) (hcls : Bundle.fit cls = true) (hnames : ∀ n ∈ names, Bundle.fit n = true)
    (hk : (Cond.classLink own ik cls).before args s = true) (hini : (Cond.initialized cls).before args s = true) (hstr : vk_R own is text sa s) (hat : ∀ w ∈ vx_atS own ic cls names, w.before args s = true)
    (hgood : ∀ w ∈ Cond.classLink own ik cls :: Cond.initialized cls :: vx_atS own ic cls names, vx_ot w = true)
    (hU : vx_Zq Bundle.tN "UNASSIGNED_STACK" Bundle.steD A s s.heap) (hN : vx_Zq Bundle.tN "SUPPRESSED_SENTINEL" Bundle.listD A s s.heap) (hS : va_S A s.heap H locs) (hsize : ls.size = c.maxLocals)
    (d0 : decode cc pc = .ok (.new ik, 3)) (d3 : decode cc (pc + 3) = .ok (.dup, 1)) (d4 : decode cc (pc + 4) = .ok (.ldc_w is, 3)) (d7 : decode cc (pc + 7) = .ok (.invokespecial ic, 3)) (d10 : decode cc (pc + 10) = .ok (.athrow, 1))
    (hout : ∀ x ∈ c.exceptionTable.toList, covers x (pc + 10) = false)
    (hRframes : names.length + 3 < R.frames) (hRlocals : (rest.map fun v => v.category).sum + (13 * (names.length + 1) + 43) ≤ R.locals) (hRcells : cells + 1 ≤ R.cells) (hRslots : slots + 6 ≤ R.slots) (hlocks : meth.locks = false)
    (hx : ∀ t : State, s.vm.Alike t.vm → H.size ≤ t.heap.size → (∀ q : Nat, q < H.size → t.heap[q]? = H[q]?) → XC cls s t)
    (hf : ∀ z ∈ locs, free z.base) (hc : cells + 1 ≤ mc) (hs : slots + 6 ≤ ms) :
    W p l e R s m args below meth c H locs cells slots (vx_MQ below Qc XC args s mc ms free) (F0 m pc ls rest) := by
  intro T hT X
  have htr : e.platform.stackTraces = false := (show e.platform.stackTraces = l.stackTraces by rw [X.admits.platform]).trans hl
  have Y := vx_rebase X (R' := { frames := R.frames, locals := R.locals, cells := 1, slots := 6 }) (Nat.le_refl _) (Nat.le_refl _) hRcells hRslots
  obtain ⟨s', hA⟩ : ∃ z, z = (T.setVm s.vm).setFrames (.invoking m args :: below) := ⟨_, rfl⟩
  rw [← hA] at Y
  have hvm : s'.vm = s.vm := by rw [hA]; rfl
  have hhp : s'.heap = H := by rw [hA]; exact hT
  have hW0 : s.WarmedH s'.vm := by rw [hvm]; exact State.WarmedH.refl s
  have hat' : ∀ w ∈ vx_atS own ic cls names, w.before args s' = true := fun w hw => vx_ot_at hW0 hvm.symm (hgood w (List.mem_cons_of_mem _ (List.mem_cons_of_mem _ hw))) (hat w hw)
  have hk' : (Cond.classLink own ik cls).before args s' = true := vx_ot_at hW0 hvm.symm (hgood _ List.mem_cons_self) hk
  have hini' : (Cond.initialized cls).before args s' = true := vx_ot_at hW0 hvm.symm (hgood _ (List.mem_cons_of_mem _ List.mem_cons_self)) hini
  have hU' : vx_Zq Bundle.tN "UNASSIGNED_STACK" Bundle.steD A s' s'.heap := by rw [hhp]; exact vx_Zq.moved hW0.alike (hU.kept hS.2.1)
  have hN' : vx_Zq Bundle.tN "SUPPRESSED_SENTINEL" Bundle.listD A s' s'.heap := by rw [hhp]; exact vx_Zq.moved hW0.alike (hN.kept hS.2.1)
  have h : ∀ w ∈ Bundle.ownAtoms own ic cls names, w.before args s' = true := vx_own hat' (vx_isRefq hU'.1) (vx_isRefq hN'.1) hU'.2.word hN'.2.word
  have hown' : s'.vm.findClass own = some m.cls := by rw [hvm]; exact hown
  have hins : (Cond.instantiable cls 6).before args s' = true := h _ (by simp [Bundle.ownAtoms])
  obtain ⟨vm₁, cX, kX, hfX, hkX, -, -, X₁, st1⟩ := Y.newCold hexec (own := own) (C := cls) (index := ik) (n := 6) hown' hk' hins hini'
    (g := F0 m pc ls rest) rfl (by rw [hb]; exact d0) (Nat.le_refl _) (Nat.le_refl _)
  generalize hT1 : (T.setVm vm₁).pushCell { cls := cX, slots := kX.instanceTypes.map defaultValue, vm := .none } = T1 at X₁ st1
  have hcat : (Value.ref T.heap.size).category = 1 := rfl
  have hcellA : T1.heap[T.heap.size]? = some (freshCell cX kX) := by rw [← hT1]; exact State.heap_pushCell_size _ _
  have d3' : decode c.code (pc + 3) = .ok (.dup, 1) := by rw [hb]; exact d3
  have d4' : decode c.code (pc + 4) = .ok (.ldc_w is, 3) := by rw [hb]; exact d4
  have hstr' : vk_R own is text sa s' := vk_R.warm hW0 hstr
  obtain ⟨U, hsteps, hrun, hend, hW, hsame, ce, hce, hO⟩ := X₁.ctorThrowS hexec htr (own := own) (cls := cls) (names := names) (ic := ic) hown' hcls hnames h (fun x hx => nomatch hx) hfX hkX hcellA (by rw [hhp, hT]; exact Nat.le_refl _) (msg := .ref sa) rfl
    (g := { method := m, pc := pc + 7, locals := ls, stack := .ref sa :: .ref T.heap.size :: .ref T.heap.size :: rest, locked := none }) rfl hsize rfl rfl (rest := rest) rfl
    (by rw [hb]; exact d7) (by rw [hb]; exact d10) hout hRframes (by simp only [List.map_cons, List.sum_cons, hcat]; omega) hlocks
  obtain ⟨f1, f2⟩ := vx_frame hsame
  rw [hhp] at f1 f2
  have hWs : s.WarmedH U.vm := State.WarmedH.trans hW0 hW
  have hcl : s.vm.findClass cls = some ce.cls := by
    have h9 := hO.cls
    rw [hvm] at h9
    exact h9
  have hall : s.sameButNew ({ U with vm := s.vm } : State) locs mc ms := by
    subst hA
    obtain ⟨e1, e2⟩ := hsame
    rw [State.setFrames_setFrames] at e1
    have h2 : (T.setVm s.vm).sameButNew ({ U with vm := s.vm } : State) [] (0 + 1) (0 + 6) := ⟨e1, e2⟩
    have h3 := X.same.trans h2
    rw [List.append_nil] at h3
    exact h3.mono hc hs
  refine ⟨U, ?_, .threw T.heap.size, hrun, hend, Or.inr ⟨T.heap.size, rfl, cls, ce, locs, hx U hWs.alike f1 (fun q hq => f2 q hq (fun z hz => nomatch hz)), hce, hO.vm, hcl, hWs, hall, hf⟩⟩
  refine st1 _ ?_
  show Steps p.tables e below (T1.setTop { method := m, pc := pc + 3, locals := ls, stack := .ref T.heap.size :: rest, locked := none }) _
  jvm_step X₁.here [X₁.here.top, hexec, d3', Value.category]
  exact X₁.ldcStringW hexec (own := own) (text := text) (index := is) (a := sa) hown' hstr'.1 hstr'.2
    (g := { method := m, pc := pc + 4, locals := ls, stack := .ref T.heap.size :: .ref T.heap.size :: rest, locked := none }) rfl d4' _ hsteps
end Ends
section Bodies
variable {l : Launch}
theorem vx_ofW {y : MethodName} {ws ws' : List Cond} {rm : Room} {Pc : Array Value → State → Prop} {Qc : Array Value → State → Outcome → State → Prop} {XC : String → State → State → Prop} {mc ms : Nat} {free : Addr → Prop} {cc : ByteArray} {maxL : Nat} {ret : Option FieldType}
    (hy : plainName y.cls = true) (hw : ws = Cond.code y cc maxL ret :: ws')
    (body : ∀ p e s m args below meth c s₁, BodyLoose p l y (headSpec ws rm) cc maxL ret e s m args below meth c s₁ → c.maxLocals = maxL → (∀ x ∈ c.exceptionTable.toList, False) → Pc args s →
      W p l e (headSpec ws rm).room s m args below meth c s.heap [] 0 0 (vx_MQ below Qc XC args s mc ms free) (entryFrame m args maxL)) : vx_Met l y ws rm Pc Qc XC mc ms free := by
  refine MetFree.of_bodyS (code := cc) (maxLocals := maxL) (ret := ret) hy ?_ ?_
  · intro args s m h hn
    obtain ⟨meth, c, h1, h2, h3, h4, h5, h6, -, -⟩ := Cond.code_spec hn (atoms_spec (ws := ws) h _ (by rw [hw]; exact List.mem_cons_self))
    exact ⟨meth, c, h1, h2, h3, h4, h5, h6⟩
  · intro p e s m args below meth c s₁ B hml hP _
    have hh0 : s₁.heap = s.heap := by rw [B.state]; rfl
    have ht : ∀ x ∈ c.exceptionTable.toList, False := by
      obtain ⟨meth9, c9, h1, h2, -, -, -, -, h7, -⟩ := Cond.code_spec B.named (atoms_spec (ws := ws) B.pre _ (by rw [hw]; exact List.mem_cons_self))
      cases Option.some.inj (h1.symm.trans B.method)
      cases Option.some.inj (h2.symm.trans (Stand.of_body B).code)
      intro x hx
      rw [Array.isEmpty_iff.mp h7] at hx
      cases hx
    obtain ⟨t, a1, o, b1, b2, b3⟩ := body p e s m args below meth c s₁ B hml ht hP s₁ hh0 (Stand.of_body B)
    exact ⟨t, o, a1, b1, b2, b3⟩
/-- the table of a body with handlers -/
theorem vx_table {p : Program} {x y : MethodName} {S : Spec} {cc bytes : ByteArray} {maxL maxL' : Nat} {ret ret' : Option FieldType} {e : Env} {s s₁ : State} {m : MethodId} {args : Array Value} {below : List Frame} {meth : Method} {c : Code} {hh : List (Nat × Nat × Nat × Nat)}
    (B : BodyLoose p l y S cc maxL ret e s m args below meth c s₁) (h : (Cond.codeWith y bytes maxL' ret' hh).before args s = true) : c.exceptionTable.toList = tableOf hh := by
  obtain ⟨m9, meth9, c9, hn9, h1, h2, -, -, h6, -⟩ := Cond.codeWith_spec h
  cases Option.some.inj (hn9.symm.trans B.named)
  cases Option.some.inj (h1.symm.trans B.method)
  cases Option.some.inj (h2.symm.trans (Stand.of_body B).code)
  rw [← h6, table_eq]
end Bodies
end VXA
/-! ===== END ===== -/
/-! ===== BEGIN a static call of a method with an exception table ===== -/
section VXS
variable {p : Program} {l : Launch} {e : Env} {R : Room} {s : State} {m : MethodId} {args : Array Value} {below : List Frame} {meth : Method} {c : Code} {T : State} {H : Heap} {locs : List Loc} {cells slots : Nat}
abbrev vx_CSW (R : Room) (s : State) (args : Array Value) (own : String) (index : Nat) (y : MethodName) (bytes : ByteArray) (maxL : Nat) (ret : Option FieldType) (hh : List (Nat × Nat × Nat × Nat)) (ws : List Cond) (rm : Room) (mc ms n : Nat) : Prop :=
  (rm.cells = mc ∧ rm.slots = ms ∧ rm.frames + 1 ≤ R.frames ∧ 8 + (maxL + 11) + rm.locals ≤ R.locals ∧ (∀ w ∈ ws, ∀ (a' : Array Value) (U : State), s.WarmedH U.vm → w.before a' U = true) ∧ Cond.codeWith y bytes maxL ret hh ∈ ws) ∧
  (Cond.codeWith y bytes maxL ret hh).before args s = true ∧ (Cond.initialized y.cls).before args s = true ∧ (y.cls ≠ "java/lang/invoke/MethodHandle" ∧ y.cls ≠ "java/lang/invoke/VarHandle") ∧
  (∀ sig, parseMethodDescriptor y.desc = some sig → n = sig.parameters.length) ∧ (Cond.methodLink own index y).before args s = true ∧ (Cond.static y).before args s = true
theorem vx_cwSW {own : String} {index maxL mc ms : Nat} {y : MethodName} {bytes : ByteArray} {ret : Option FieldType} {hh : List (Nat × Nat × Nat × Nat)} {Ts ws ws' : List Cond} {rm : Room} (n : Nat) (ht : ∀ w ∈ Ts, w.before args s = true) (hT : GoodIn Ts (va_wsS own index y ws)) (hw : ws = Cond.codeWith y bytes maxL ret hh :: ws') (hrc : rm.cells = mc) (hrs : rm.slots = ms)
    (hd : y.cls ≠ "java/lang/invoke/MethodHandle" ∧ y.cls ≠ "java/lang/invoke/VarHandle" ∧ (parseMethodDescriptor y.desc).map (fun d => d.parameters.length) = some n) (hR : rm.frames + 1 ≤ R.frames ∧ 8 + (maxL + 11) + rm.locals ≤ R.locals) :
    vx_CSW R s args own index y bytes maxL ret hh ws rm mc ms n := by
  have ok : ∀ w ∈ va_wsS own index y ws, w.before args s = true := fun w h => ht w (hT w h).1
  have hG : GoodIn Ts ws := fun w h => hT w (by unfold va_wsS; exact List.mem_append_right _ h)
  have hc : Cond.codeWith y bytes maxL ret hh ∈ ws := by rw [hw]; exact List.mem_cons_self
  refine ⟨⟨hrc, hrs, hR.1, hR.2, pay_in ht hG, hc⟩, ht _ (hG _ hc).1, ok _ (by simp [va_wsS]), ⟨hd.1, hd.2.1⟩, fun sig h => ?_, ok _ (by simp [va_wsS]), ok _ (by simp [va_wsS])⟩
  have h2 := hd.2.2
  rw [h] at h2
  exact (Option.some.inj h2).symm
theorem vx_callSW (X : Stand p l e R s m args below meth c T locs cells slots) (hexec : p.tables.exec = Jvm.exec) {own : String} {index : Nat} {y : MethodName} {bytes : ByteArray} {maxL : Nat} {ret : Option FieldType} {hh : List (Nat × Nat × Nat × Nat)}
    (hown : s.vm.findClass own = some m.cls) (hlink : (Cond.methodLink own index y).before args s = true) (hstat : (Cond.static y).before args s = true) (hinit : (Cond.initialized y.cls).before args s = true)
    (hcode : (Cond.codeWith y bytes maxL ret hh).before args s = true) (hy : y.cls ≠ "java/lang/invoke/MethodHandle" ∧ y.cls ≠ "java/lang/invoke/VarHandle")
    {W9 : Nat} {Pre : Pt → Array Value → Prop} {Post : Pt → Array Value → Option Value → Pt → Prop} (hK : Back l R p e below s args y 3 W9 Pre Post)
    {g : JFrame} (hg : g.method = m) (hsize : g.locals.size = c.maxLocals) {argsL rest : List Value} (hlen : ∀ sig, parseMethodDescriptor y.desc = some sig → argsL.length = sig.parameters.length)
    (hstack : g.stack = argsL.reverse ++ rest) (hW : 2 * g.monitorRoom + (rest.map fun v => v.category).sum ≤ W9) (hdg : decode c.code g.pc = .ok (.invokestatic index, 3))
    (hpre : ∀ vm₁, s.WarmedH vm₁ → Pre ⟨T.setVm vm₁, locs, cells, slots⟩ argsL.toArray) :
    ∃ (v : Option Value) (vm₁ : Vm) (B : Pt), s.WarmedH vm₁ ∧ Stand p l e R s m args below meth c B.U B.locs B.cells B.slots ∧ Post ⟨T.setVm vm₁, locs, cells, slots⟩ argsL.toArray v B ∧
      ∀ target, Steps p.tables e below (B.U.setTop { g with pc := g.pc + 3, stack := v.toList ++ rest }) target → Steps p.tables e below (T.setTop g) target := by
  obtain ⟨mk, methM, cM, hnamed, hmethM, -, -, -, -, -, -, hsigM⟩ := Cond.codeWith_spec hcode
  have hstatic : methM.isStatic = true := Cond.static_spec hnamed hmethM hstat
  obtain ⟨kP, hkP, -⟩ := className_of_methodNamed hnamed
  have hinitP : kP.init = .initialized := Cond.initialized_spec (findClass_of_methodNamed hnamed) hkP hinit
  obtain ⟨vm₁, X₁, hstep₁⟩ := X.invokestatic hexec hown hlink hnamed hmethM hstatic hkP hinitP hy (g := g) hg (argsL := argsL) (rest := rest) (hlen _ hsigM) hstack hdg
  obtain ⟨v, B, X', hpost, hsteps⟩ := hK m meth c ⟨T.setVm vm₁, locs, cells, slots⟩ { g with stack := rest } (.invokestatic index) mk argsL.toArray X₁ hg hsize hdg hW (X₁.named hnamed) (hpre vm₁ X₁.warmed)
  exact ⟨v, vm₁, B, X₁.warmed, X', hpost, fun target h => hstep₁ _ fun acts => by rw [doInvoke_state]; exact hsteps.trans h⟩
theorem vx_runSW {y : MethodName} {bytes cc : ByteArray} {maxL nL mc ms n index : Nat} {ret : Option FieldType} {hh : List (Nat × Nat × Nat × Nat)} {ws : List Cond} {rm : Room} {Pc : Array Value → State → Prop} {Qc : Array Value → State → Outcome → State → Prop} {free : Addr → Prop} {Ts : List Cond} {own : String} {As rest : List Value} {g : JFrame}
    (S : CallFix p m c cc nL s args Ts own) (hM : Met l y ws rm Pc Qc mc ms free) (cw : vx_CSW R s args own index y bytes maxL ret hh ws rm mc ms n) (hp : PreS s H Pc As)
    (hg : g.method = m) (hn : As.length = n) (hsize : g.locals.size = nL) (hstack : g.stack = As.reverse ++ rest) (hW : 2 * g.monitorRoom + (rest.map fun v => v.category).sum ≤ 8) (hdg : decode cc g.pc = .ok (.invokestatic index, 3)) (hf : cells + mc ≤ R.cells ∧ slots + ms ≤ R.slots) :
    va_Run p l e R s m args below meth c H locs cells slots mc ms g rest (Qc As.toArray) (free) := by
  obtain ⟨⟨hrc, hrs, hfr, hlo, hws, hcw⟩, hcode, hini, hy, hlen, hl, hstt⟩ := cw
  have hK : Back l R p e below s args y 3 8 (PreOf R mc ms Pc) (PostOf Qc mc ms free) := va_backW (hh := hh) (bytes := bytes) (maxL := maxL) (ret := ret) hM hp.1 hrc hrs hfr hlo hws hcw (fun a' U hW => word_at hW (Or.inl (by first | rfl | simp [Cond.onTables, Cond.keeps, Cond.steady])) hini)
  obtain ⟨hx, hb, hml, ho, -⟩ := S
  intro T hT X
  obtain ⟨v, vm₁, ⟨U', l2, c2, s2⟩, hW₁, X', ⟨g', mk, t, L, e1, e2, hq, h1, hL, h2, h3⟩, st⟩ := vx_callSW X hx (hh := hh) (bytes := bytes) (maxL := maxL) (ret := ret) ho hl hstt hini hcode hy hK hg (hsize.trans hml.symm) (argsL := As) (rest := rest) (fun sig h => hn.trans (hlen sig h)) hstack hW (by rw [hb]; exact hdg)
    (fun vm₁ hW₁ => ⟨hf.1, hf.2, hp.2 (T.setVm vm₁) hT hW₁⟩)
  dsimp only [Pt.U, Pt.locs, Pt.cells, Pt.slots] at X' e1 e2 h1 h2 h3 st
  subst h1; subst h2; subst h3
  exact ⟨v, (T.setVm vm₁).calling g' mk As.toArray, t, U', L, hT, X', hL, e1, e2, hq, st⟩
/-- not caught here, past rows that name other classes: it goes on to the caller -/
theorem vx_outP {p : Program} {l : Launch} {e : Env} {R : Room} {s : State} {m : MethodId} {args : Array Value} {below : List Frame} {meth : Method} {c : Code} {H : Heap} {locs : List Loc} {cells slots : Nat} {free : Addr → Prop} {ls : Array Slot} {rest : List Value} {Qc : Array Value → State → Outcome → State → Prop} {XC : String → State → State → Prop}
    {pc : Nat} {own E : String} {ce : Cell} {q : Addr} {mc ms : Nat} (hown : s.vm.findClass own = some m.cls) (hlocks : meth.locks = false)
    (hpass : ∀ z ∈ c.exceptionTable.toList, covers z pc = false ∨ (z.catchType ≠ 0 ∧ ∃ nm : String, (Cond.classLink own z.catchType nm).before args s = true ∧ va_Nc E nm s)) (hcell : H[q]? = some ce) (hv : ce.vm = .none) (hcl : s.vm.findClass E = some ce.cls)
    (hx : ∀ t : State, t.heap = H → s.vm.Alike t.vm → XC E s t) (hf : ∀ z ∈ locs, free z.base) (hc : cells ≤ mc) (hs : slots ≤ ms) :
    vx_W p l e R s m args below meth c H locs cells slots (vx_MQ below Qc XC args s mc ms free) (F0 m pc ls rest) q := by
  intro T hT X
  have hpl : e.platform.magicAccessors = ({} : Platform).magicAccessors := by rw [X.admits.platform]
  obtain ⟨vm', hW', X', st⟩ := Stand.outThrough X hlocks q (g := F0 m pc ls rest) rfl rfl rfl (cell := ce) (by rw [hT]; exact hcell) (by rw [hv]; rfl)
    (by obtain ⟨k9, h9, -⟩ := Vm.findClass_spec hcl; exact ⟨k9, h9⟩) (fun z hz => by
      rcases hpass z hz with h | ⟨hz0, nm, hl1, hn1⟩
      · exact Or.inl h
      · obtain ⟨c6, hc6, hcl6⟩ := Cond.classLink_spec hown hl1 e.platform hpl
        obtain ⟨a8, b8, h1, h2, h3⟩ := hn1
        cases Option.some.inj (h1.symm.trans hcl)
        cases Option.some.inj (h2.symm.trans hc6)
        exact Or.inr ⟨hz0, _, hcl6, h3⟩)
  obtain ⟨g₀, hfr⟩ := X'.frames_eq
  have hcell9 : ((T.setVm vm').setFrames (.throwing q :: below)).heap[q]? = some ce := by
    show T.heap[q]? = some ce
    rw [hT]; exact hcell
  have hend : Ended ((T.setVm vm').setFrames (.throwing q :: below)) below (.threw q) := State.frames_setFrames _ (State.cur_lt_of_frames hfr)
  refine ⟨(T.setVm vm').setFrames (.throwing q :: below), ?_, .threw q, X'.here.running, hend, Or.inr ⟨q, rfl, E, ce, locs, hx _ hT (X'.ends _).1.alike, hcell9, hv, hcl, (X'.ends _).1, (X'.ends _).2.mono hc hs, hf⟩⟩
  rw [X.pushThrowing_eq]
  exact st
/-- a thing of a world lies in the heap -/
theorem vx_lt {D : va_G} {cl : List vw_C} {ws : va_W} {H1 : Heap} (h : va_P D cl ws H1) {k : Nat} {q : Nat × va_E} (hk : ws[k]? = some q) : q.1 < H1.size := (h k q hk).lt
end VXS
/-! ===== END ===== -/
/-! ===== BEGIN methods with a table of their own: called by a name, returning or throwing ===== -/
section VXH
/-! vx_backW, vx_callVX, vx_callSX, vx_callVW, vx_runVW, vx_runVX, vx_runSX, vx_ofWH follow the same proofs as their sisters above (Free/Laws.lean, Shelf42/LK1.lean); vx_outP calls Shelf42/NT130.lean (outThrough). -/
section
variable {l : Launch} {R : Room} {p : Program} {e : Env} {below : List Frame} {s : State} {sargs : Array Value} {y : MethodName} {len W9 : Nat}
theorem vx_backW {ws : List Cond} {rm : Room} {Pc : Array Value → State → Prop} {Qc : Array Value → State → Outcome → State → Prop} {XC : String → State → State → Prop} {mc ms : Nat} {free : Addr → Prop} {bytes : ByteArray} {maxL : Nat} {ret : Option FieldType} {hh : List (Nat × Nat × Nat × Nat)}
    (hM : vx_Met l y ws rm Pc Qc XC mc ms free) (hblind : FrameBlind Pc) (hrc : rm.cells = mc) (hrs : rm.slots = ms)
    (hframes : rm.frames + 1 ≤ R.frames) (hlocals : W9 + (maxL + 11) + rm.locals ≤ R.locals)
    (hws : ∀ w ∈ ws, ∀ a' U, s.WarmedH U.vm → w.before a' U = true) (hcode : Cond.codeWith y bytes maxL ret hh ∈ ws) (hinit : ∀ a' U, s.WarmedH U.vm → (Cond.initialized y.cls).before a' U = true) :
    vx_Back l R p e below s sargs y len W9 (PreOf R mc ms Pc) (PostOf Qc mc ms free) (vx_Post XC mc ms free) := by
  intro m meth c A g ig mk a X hg hsize hdg hW hn hp
  have h1 : (headSpec ws rm).pre.before a A.U = true := atoms_intro fun w hw => hws w hw _ _ X.warmed
  have h2 : (Cond.codeWith y bytes maxL ret hh).before a A.U = true := hws _ hcode _ _ X.warmed
  have h3 : (Cond.initialized y.cls).before a A.U = true := hinit _ _ X.warmed
  have h4 : A.cells + (headSpec ws rm).room.cells ≤ R.cells := by rw [show (headSpec ws rm).room.cells = mc from hrc]; exact hp.1
  have h5 : A.slots + (headSpec ws rm).room.slots ≤ R.slots := by rw [show (headSpec ws rm).room.slots = ms from hrs]; exact hp.2.1
  have hPc : Pc a (A.U.calling g mk a) := hblind _ _ _ _ hp.2.2
  obtain ⟨U, Ls, c0, s0⟩ := A
  dsimp only [Pt.U, Pt.locs, Pt.cells, Pt.slots] at h1 h2 h3 h4 h5 X hn hPc ⊢
  obtain ⟨m9, methY, cY, hn9, hmY, hcY, -, hlY, -⟩ := Cond.codeWith_spec h2
  cases Option.some.inj (hn9.symm.trans hn)
  obtain ⟨kY, hkY, -⟩ := className_of_methodNamed hn
  have hinitY : kY.init = .initialized := Cond.initialized_spec (findClass_of_methodNamed hn) hkY h3
  have h : At U g.method c below := by rw [hg]; exact X.here
  have hlocals9 : W9 + (maxL + 11) + (headSpec ws rm).room.locals ≤ R.locals := hlocals
  have happ : (headSpec ws rm).appliesLoose y e.platform (U.calling g mk a) = true :=
    Spec.appliesLoose_calling (g := g) h hdg hn hkY hinitY
      (X.room_calling (g := g) (R' := (headSpec ws rm).room) hsize hmY hcY hframes (by rw [hlY]; omega) h4 h5) h1
  obtain ⟨mid, hmid⟩ := h.above
  have hfr : (U.setTop g).frames = (.java g :: mid) ++ below := by rw [State.frames_setTop' g h.top, hmid]; rfl
  obtain ⟨o, s₂, hsteps, -, hend, hq⟩ := Steps.callFree hM p X.admits X.cas X.clock (acts := []) hfr happ hPc trivial
  have hq' : vx_Q Qc XC mc ms free a (U.calling g mk a) o s₂ := hq
  rw [State.frames_setTop' g h.top] at hend
  obtain ⟨g₀, hg0⟩ := Option.isSome_iff_exists.mp h.top
  obtain ⟨r, hr⟩ := State.topJava?_eq_some.mp hg0
  have hr' : (({ U with heap := s₂.heap, slotsUsed := s₂.slotsUsed } : State).setVm s₂.vm).frames = .java g₀ :: r := hr
  rcases hq' with ⟨hqc, L, hfe, hL⟩ | ⟨q, rfl, E, ce, L, hx, hce, hcv, hcl, hW₂, hsm, hL⟩
  · obtain ⟨⟨v, rfl⟩, hW₂, e2, q2, q3, q4, q5, q6⟩ := id hfe
    have e3 : s₂ = ({ (U.calling g mk a).setFrames s₂.frames with heap := s₂.heap, slotsUsed := s₂.slotsUsed } : State).setVm s₂.vm := by
      have : s₂ = ({ s₂ with vm := (U.calling g mk a).vm } : State).setVm s₂.vm := rfl
      rw [e2] at this
      exact this
    obtain ⟨c₂, i₂, len₂, hc₂, hd₂, hf₂⟩ := hend
    have hW' : U.WarmedH s₂.vm := hW₂
    have hcc : c₂ = c := by
      have h1 : s₂.code? g.method = U.code? g.method := by
        rw [State.code?_eq, State.code?_eq, hW'.alike.method?]
      exact Option.some.inj (hc₂.symm.trans (h1.trans h.code))
    subst hcc
    have hlen : len₂ = len := by rw [hdg] at hd₂; cases hd₂; rfl
    subst hlen
    have hs₂ : s₂ = (({ U with heap := s₂.heap, slotsUsed := s₂.slotsUsed } : State).setVm s₂.vm).setTop { g with pc := g.pc + len₂, stack := v.toList ++ g.stack } := by
      refine e3.trans ?_
      rw [hf₂, State.calling_eq h.top, State.setFrames_setFrames, State.setTop_of_frames _ hr', hr]
      rfl
    have hsame : U.sameButNew ({ U with heap := s₂.heap, slotsUsed := s₂.slotsUsed } : State) L mc ms := by
      refine ⟨?_, q2, q3, q4, q5, q6⟩
      obtain ⟨t, ht, -⟩ := State.frames_cons hr
      show ({ U with heap := s₂.heap, slotsUsed := s₂.slotsUsed } : State) = { U.setFrames U.frames with heap := s₂.heap, slotsUsed := s₂.slotsUsed }
      rw [State.setFrames_self ht]
    subst hg
    refine Or.inl ⟨v, ⟨(({ U with heap := s₂.heap, slotsUsed := s₂.slotsUsed } : State).setVm s₂.vm), Ls ++ L, c0 + mc, s0 + ms⟩,
      ⟨X.admits, X.cas, X.clock, X.frames, X.room, X.hears, X.method, X.code, (X.here.setHeapUsed s₂.heap s₂.slotsUsed).setVm hW'.alike, X.tail, State.WarmedH.trans X.warmed hW', X.limits, X.bytes, X.same.trans (hsame.setVm s.vm)⟩,
      ⟨g, mk, s₂, L, rfl, rfl, hqc, rfl, hL, rfl, rfl⟩, ?_⟩
    show Steps p.tables e below _ ((({ U with heap := s₂.heap, slotsUsed := s₂.slotsUsed } : State).setVm s₂.vm).setTop { g with pc := g.pc + len₂, stack := v.toList ++ g.stack })
    rw [← hs₂]
    exact hsteps
  · obtain ⟨e2, q2, q3, q4, q5, q6⟩ := id hsm
    have e3 : s₂ = ({ (U.calling g mk a).setFrames s₂.frames with heap := s₂.heap, slotsUsed := s₂.slotsUsed } : State).setVm s₂.vm := by
      have : s₂ = ({ s₂ with vm := (U.calling g mk a).vm } : State).setVm s₂.vm := rfl
      rw [e2] at this
      exact this
    have hf₂ : s₂.frames = .throwing q :: .java g :: U.frames.tail := hend
    have hW' : U.WarmedH s₂.vm := hW₂
    have hs₂ : s₂ = ((({ U with heap := s₂.heap, slotsUsed := s₂.slotsUsed } : State).setVm s₂.vm).setTop g).pushFrame (.throwing q) := by
      refine e3.trans ?_
      rw [hf₂, State.calling_eq h.top, State.setFrames_setFrames, State.pushFrame, State.frames_setTop _ hr', State.setTop_of_frames _ hr', State.setFrames_setFrames, hr]
      rfl
    have hsame : U.sameButNew ({ U with heap := s₂.heap, slotsUsed := s₂.slotsUsed } : State) L mc ms := by
      refine ⟨?_, q2, q3, q4, q5, q6⟩
      obtain ⟨t, ht, -⟩ := State.frames_cons hr
      show ({ U with heap := s₂.heap, slotsUsed := s₂.slotsUsed } : State) = { U.setFrames U.frames with heap := s₂.heap, slotsUsed := s₂.slotsUsed }
      rw [State.setFrames_self ht]
    subst hg
    refine Or.inr ⟨q, ⟨(({ U with heap := s₂.heap, slotsUsed := s₂.slotsUsed } : State).setVm s₂.vm), Ls ++ L, c0 + mc, s0 + ms⟩,
      ⟨X.admits, X.cas, X.clock, X.frames, X.room, X.hears, X.method, X.code, (X.here.setHeapUsed s₂.heap s₂.slotsUsed).setVm hW'.alike, X.tail, State.WarmedH.trans X.warmed hW', X.limits, X.bytes, X.same.trans (hsame.setVm s.vm)⟩,
      ⟨g, mk, s₂, L, E, ce, rfl, rfl, hx, hce, hcv, hcl, rfl, hL, rfl, rfl⟩, ?_⟩
    show Steps p.tables e below _ (((({ U with heap := s₂.heap, slotsUsed := s₂.slotsUsed } : State).setVm s₂.vm).setTop g).pushFrame (.throwing q))
    rw [← hs₂]
    exact hsteps
end
variable {p : Program} {l : Launch} {e : Env} {R : Room} {s : State} {m : MethodId} {args : Array Value} {below : List Frame} {meth : Method} {c : Code} {T : State} {H : Heap} {locs : List Loc} {cells slots : Nat}
theorem vx_callVX (X : Stand p l e R s m args below meth c T locs cells slots) (hexec : p.tables.exec = Jvm.exec) {own C : String} {index : Nat} {y : MethodName} {bytes : ByteArray} {maxL : Nat} {ret : Option FieldType} {hh : List (Nat × Nat × Nat × Nat)}
    (hown : s.vm.findClass own = some m.cls) (hlink : (Cond.methodLink own index y).before args s = true) (hinst : (Cond.instanceMethod y).before args s = true) (hsel : (Cond.selects C y y).before args s = true)
    (hcode : (Cond.codeWith y bytes maxL ret hh).before args s = true) (hy : y.cls ≠ "java/lang/invoke/MethodHandle" ∧ y.cls ≠ "java/lang/invoke/VarHandle")
    {W9 : Nat} {Pre : Pt → Array Value → Prop} {Post : Pt → Array Value → Option Value → Pt → Prop} {PostX : Pt → Array Value → Addr → Pt → Prop} (hK : vx_Back l R p e below s args y 3 W9 Pre Post PostX)
    {b : Addr} {cellB : Cell} (hcell : T.heap[b]? = some cellB) (hobj : cellB.vm.isStatics = false) (hcls : s.vm.findClass C = some cellB.cls)
    {g : JFrame} (hg : g.method = m) (hsize : g.locals.size = c.maxLocals) {argsL rest : List Value} (hlen : ∀ sig, parseMethodDescriptor y.desc = some sig → argsL.length = sig.parameters.length)
    (hstack : g.stack = argsL.reverse ++ .ref b :: rest) (hW : 2 * g.monitorRoom + (rest.map fun v => v.category).sum ≤ W9) (hdg : decode c.code g.pc = .ok (.invokevirtual index, 3))
    (hpre : ∀ vm₁, s.WarmedH vm₁ → Pre ⟨T.setVm vm₁, locs, cells, slots⟩ (Value.ref b :: argsL).toArray) :
    (∃ (v : Option Value) (vm₁ : Vm) (B : Pt), s.WarmedH vm₁ ∧ Stand p l e R s m args below meth c B.U B.locs B.cells B.slots ∧ Post ⟨T.setVm vm₁, locs, cells, slots⟩ (Value.ref b :: argsL).toArray v B ∧
      ∀ target, Steps p.tables e below (B.U.setTop { g with pc := g.pc + 3, stack := v.toList ++ rest }) target → Steps p.tables e below (T.setTop g) target) ∨
    (∃ (q : Addr) (vm₁ : Vm) (B : Pt), s.WarmedH vm₁ ∧ Stand p l e R s m args below meth c B.U B.locs B.cells B.slots ∧ PostX ⟨T.setVm vm₁, locs, cells, slots⟩ (Value.ref b :: argsL).toArray q B ∧
      Steps p.tables e below (T.setTop g) ((B.U.setTop { g with stack := rest }).pushFrame (.throwing q))) := by
  obtain ⟨mk, methM, hnamed, hmethM, hstM, habM⟩ := Cond.instanceMethod_spec hinst
  obtain ⟨m8, methM', cM, hn8, hmethM', -, -, -, -, -, -, hsigM⟩ := Cond.codeWith_spec hcode
  cases Option.some.inj (hn8.symm.trans hnamed)
  cases hmethM.symm.trans hmethM'
  obtain ⟨c2, r2, m2, q1, q2, q3, q4, kP, hkP, hkPi⟩ := Cond.selects_spec hsel
  cases hcls.symm.trans q1
  cases (State.methodFound?_of_named hnamed hy).symm.trans q2
  cases hnamed.symm.trans q3
  have hselP : selectMethod e.platform s.vm cellB.cls mk = .method mk := by rw [Launch.admits_selectMethod X.admits]; exact q4
  obtain ⟨vm₁, X₁, hstep₁⟩ := X.invokevirtual hexec hown hlink hnamed hmethM hstM hkP hkPi hy (a := b) (cell := cellB) hcell
    (fun z h => by rw [h] at hobj; cases hobj) hselP hmethM habM hkP hkPi (g := g) hg (argsL := argsL) (rest := rest) (hlen _ hsigM) hstack hdg
  rcases hK m meth c ⟨T.setVm vm₁, locs, cells, slots⟩ { g with stack := rest } (.invokevirtual index) mk (Value.ref b :: argsL).toArray X₁ hg hsize hdg hW (X₁.named hnamed) (hpre vm₁ X₁.warmed) with ⟨v, B, X', hpost, hsteps⟩ | ⟨q, B, X', hpost, hsteps⟩
  · exact Or.inl ⟨v, vm₁, B, X₁.warmed, X', hpost, fun target h => hstep₁ _ fun acts => by rw [doInvoke_state]; exact hsteps.trans h⟩
  · exact Or.inr ⟨q, vm₁, B, X₁.warmed, X', hpost, hstep₁ _ fun acts => by rw [doInvoke_state]; exact hsteps⟩
theorem vx_callSX (X : Stand p l e R s m args below meth c T locs cells slots) (hexec : p.tables.exec = Jvm.exec) {own : String} {index : Nat} {y : MethodName} {bytes : ByteArray} {maxL : Nat} {ret : Option FieldType} {hh : List (Nat × Nat × Nat × Nat)}
    (hown : s.vm.findClass own = some m.cls) (hlink : (Cond.methodLink own index y).before args s = true) (hstat : (Cond.static y).before args s = true) (hinit : (Cond.initialized y.cls).before args s = true)
    (hcode : (Cond.codeWith y bytes maxL ret hh).before args s = true) (hy : y.cls ≠ "java/lang/invoke/MethodHandle" ∧ y.cls ≠ "java/lang/invoke/VarHandle")
    {W9 : Nat} {Pre : Pt → Array Value → Prop} {Post : Pt → Array Value → Option Value → Pt → Prop} {PostX : Pt → Array Value → Addr → Pt → Prop} (hK : vx_Back l R p e below s args y 3 W9 Pre Post PostX)
    {g : JFrame} (hg : g.method = m) (hsize : g.locals.size = c.maxLocals) {argsL rest : List Value} (hlen : ∀ sig, parseMethodDescriptor y.desc = some sig → argsL.length = sig.parameters.length)
    (hstack : g.stack = argsL.reverse ++ rest) (hW : 2 * g.monitorRoom + (rest.map fun v => v.category).sum ≤ W9) (hdg : decode c.code g.pc = .ok (.invokestatic index, 3))
    (hpre : ∀ vm₁, s.WarmedH vm₁ → Pre ⟨T.setVm vm₁, locs, cells, slots⟩ argsL.toArray) :
    (∃ (v : Option Value) (vm₁ : Vm) (B : Pt), s.WarmedH vm₁ ∧ Stand p l e R s m args below meth c B.U B.locs B.cells B.slots ∧ Post ⟨T.setVm vm₁, locs, cells, slots⟩ argsL.toArray v B ∧
      ∀ target, Steps p.tables e below (B.U.setTop { g with pc := g.pc + 3, stack := v.toList ++ rest }) target → Steps p.tables e below (T.setTop g) target) ∨
    (∃ (q : Addr) (vm₁ : Vm) (B : Pt), s.WarmedH vm₁ ∧ Stand p l e R s m args below meth c B.U B.locs B.cells B.slots ∧ PostX ⟨T.setVm vm₁, locs, cells, slots⟩ argsL.toArray q B ∧
      Steps p.tables e below (T.setTop g) ((B.U.setTop { g with stack := rest }).pushFrame (.throwing q))) := by
  obtain ⟨mk, methM, cM, hnamed, hmethM, -, -, -, -, -, -, hsigM⟩ := Cond.codeWith_spec hcode
  have hstatic : methM.isStatic = true := Cond.static_spec hnamed hmethM hstat
  obtain ⟨kP, hkP, -⟩ := className_of_methodNamed hnamed
  have hinitP : kP.init = .initialized := Cond.initialized_spec (findClass_of_methodNamed hnamed) hkP hinit
  obtain ⟨vm₁, X₁, hstep₁⟩ := X.invokestatic hexec hown hlink hnamed hmethM hstatic hkP hinitP hy (g := g) hg (argsL := argsL) (rest := rest) (hlen _ hsigM) hstack hdg
  rcases hK m meth c ⟨T.setVm vm₁, locs, cells, slots⟩ { g with stack := rest } (.invokestatic index) mk argsL.toArray X₁ hg hsize hdg hW (X₁.named hnamed) (hpre vm₁ X₁.warmed) with ⟨v, B, X', hpost, hsteps⟩ | ⟨q, B, X', hpost, hsteps⟩
  · exact Or.inl ⟨v, vm₁, B, X₁.warmed, X', hpost, fun target h => hstep₁ _ fun acts => by rw [doInvoke_state]; exact hsteps.trans h⟩
  · exact Or.inr ⟨q, vm₁, B, X₁.warmed, X', hpost, hstep₁ _ fun acts => by rw [doInvoke_state]; exact hsteps⟩
theorem vx_callVW (X : Stand p l e R s m args below meth c T locs cells slots) (hexec : p.tables.exec = Jvm.exec) {own C : String} {index : Nat} {y : MethodName} {bytes : ByteArray} {maxL : Nat} {ret : Option FieldType} {hh : List (Nat × Nat × Nat × Nat)}
    (hown : s.vm.findClass own = some m.cls) (hlink : (Cond.methodLink own index y).before args s = true) (hinst : (Cond.instanceMethod y).before args s = true) (hsel : (Cond.selects C y y).before args s = true)
    (hcode : (Cond.codeWith y bytes maxL ret hh).before args s = true) (hy : y.cls ≠ "java/lang/invoke/MethodHandle" ∧ y.cls ≠ "java/lang/invoke/VarHandle")
    {W9 : Nat} {Pre : Pt → Array Value → Prop} {Post : Pt → Array Value → Option Value → Pt → Prop} (hK : Back l R p e below s args y 3 W9 Pre Post)
    {b : Addr} {cellB : Cell} (hcell : T.heap[b]? = some cellB) (hobj : cellB.vm.isStatics = false) (hcls : s.vm.findClass C = some cellB.cls)
    {g : JFrame} (hg : g.method = m) (hsize : g.locals.size = c.maxLocals) {argsL rest : List Value} (hlen : ∀ sig, parseMethodDescriptor y.desc = some sig → argsL.length = sig.parameters.length)
    (hstack : g.stack = argsL.reverse ++ .ref b :: rest) (hW : 2 * g.monitorRoom + (rest.map fun v => v.category).sum ≤ W9) (hdg : decode c.code g.pc = .ok (.invokevirtual index, 3))
    (hpre : ∀ vm₁, s.WarmedH vm₁ → Pre ⟨T.setVm vm₁, locs, cells, slots⟩ (Value.ref b :: argsL).toArray) :
    ∃ (v : Option Value) (vm₁ : Vm) (B : Pt), s.WarmedH vm₁ ∧ Stand p l e R s m args below meth c B.U B.locs B.cells B.slots ∧ Post ⟨T.setVm vm₁, locs, cells, slots⟩ (Value.ref b :: argsL).toArray v B ∧
      ∀ target, Steps p.tables e below (B.U.setTop { g with pc := g.pc + 3, stack := v.toList ++ rest }) target → Steps p.tables e below (T.setTop g) target := by
  obtain ⟨mk, methM, hnamed, hmethM, hstM, habM⟩ := Cond.instanceMethod_spec hinst
  obtain ⟨m8, methM', cM, hn8, hmethM', -, -, -, -, -, -, hsigM⟩ := Cond.codeWith_spec hcode
  cases Option.some.inj (hn8.symm.trans hnamed)
  cases hmethM.symm.trans hmethM'
  obtain ⟨c2, r2, m2, q1, q2, q3, q4, kP, hkP, hkPi⟩ := Cond.selects_spec hsel
  cases hcls.symm.trans q1
  cases (State.methodFound?_of_named hnamed hy).symm.trans q2
  cases hnamed.symm.trans q3
  have hselP : selectMethod e.platform s.vm cellB.cls mk = .method mk := by rw [Launch.admits_selectMethod X.admits]; exact q4
  obtain ⟨vm₁, X₁, hstep₁⟩ := X.invokevirtual hexec hown hlink hnamed hmethM hstM hkP hkPi hy (a := b) (cell := cellB) hcell
    (fun z h => by rw [h] at hobj; cases hobj) hselP hmethM habM hkP hkPi (g := g) hg (argsL := argsL) (rest := rest) (hlen _ hsigM) hstack hdg
  obtain ⟨v, B, X', hpost, hsteps⟩ := hK m meth c ⟨T.setVm vm₁, locs, cells, slots⟩ { g with stack := rest } (.invokevirtual index) mk (Value.ref b :: argsL).toArray X₁ hg hsize hdg hW (X₁.named hnamed) (hpre vm₁ X₁.warmed)
  exact ⟨v, vm₁, B, X₁.warmed, X', hpost, fun target h => hstep₁ _ fun acts => by rw [doInvoke_state]; exact hsteps.trans h⟩
abbrev vx_CVW (R : Room) (s : State) (args : Array Value) (own C : String) (index : Nat) (y : MethodName) (bytes : ByteArray) (maxL : Nat) (ret : Option FieldType) (hh : List (Nat × Nat × Nat × Nat)) (ws : List Cond) (rm : Room) (mc ms n : Nat) : Prop :=
  (rm.cells = mc ∧ rm.slots = ms ∧ rm.frames + 1 ≤ R.frames ∧ 8 + (maxL + 11) + rm.locals ≤ R.locals ∧ (∀ w ∈ ws, ∀ (a' : Array Value) (U : State), s.WarmedH U.vm → w.before a' U = true) ∧ Cond.codeWith y bytes maxL ret hh ∈ ws) ∧
  (Cond.codeWith y bytes maxL ret hh).before args s = true ∧ (Cond.initialized y.cls).before args s = true ∧ (y.cls ≠ "java/lang/invoke/MethodHandle" ∧ y.cls ≠ "java/lang/invoke/VarHandle") ∧
  (∀ sig, parseMethodDescriptor y.desc = some sig → n = sig.parameters.length) ∧ (Cond.methodLink own index y).before args s = true ∧ (Cond.instanceMethod y).before args s = true ∧ (Cond.selects C y y).before args s = true
theorem vx_cwVW {own C : String} {index maxL mc ms : Nat} {y : MethodName} {bytes : ByteArray} {ret : Option FieldType} {hh : List (Nat × Nat × Nat × Nat)} {Ts ws ws' : List Cond} {rm : Room} (n : Nat) (ht : ∀ w ∈ Ts, w.before args s = true) (hT : GoodIn Ts (wsV own index C y ws)) (hw : ws = Cond.codeWith y bytes maxL ret hh :: ws') (hrc : rm.cells = mc) (hrs : rm.slots = ms)
    (hd : y.cls = C ∧ y.cls ≠ "java/lang/invoke/MethodHandle" ∧ y.cls ≠ "java/lang/invoke/VarHandle" ∧ (parseMethodDescriptor y.desc).map (fun d => d.parameters.length) = some n) (hR : rm.frames + 1 ≤ R.frames ∧ 8 + (maxL + 11) + rm.locals ≤ R.locals) :
    vx_CVW R s args own C index y bytes maxL ret hh ws rm mc ms n := by
  obtain ⟨hC, hd⟩ := hd
  subst hC
  have ok : ∀ w ∈ wsV own index y.cls y ws, w.before args s = true := fun w h => ht w (hT w h).1
  have hG : GoodIn Ts ws := fun w h => hT w (by unfold wsV; exact List.mem_append_right _ h)
  have hc : Cond.codeWith y bytes maxL ret hh ∈ ws := by rw [hw]; exact List.mem_cons_self
  refine ⟨⟨hrc, hrs, hR.1, hR.2, pay_in ht hG, hc⟩, ht _ (hG _ hc).1, ok _ (by simp [wsV]), ⟨hd.1, hd.2.1⟩, fun sig h => ?_, ok _ (by simp [wsV]), ok _ (by simp [wsV]), ok _ (by simp [wsV])⟩
  have h2 := hd.2.2
  rw [h] at h2
  exact (Option.some.inj h2).symm
theorem vx_runVW {y : MethodName} {bytes cc : ByteArray} {maxL nL mc ms n index : Nat} {ret : Option FieldType} {hh : List (Nat × Nat × Nat × Nat)} {ws : List Cond} {rm : Room} {Pc : Array Value → State → Prop} {Qc : Array Value → State → Outcome → State → Prop} {free : Addr → Prop} {Ts : List Cond} {own C : String} {b : Addr} {As rest : List Value} {g : JFrame}
    (S : CallFix p m c cc nL s args Ts own) (hM : Met l y ws rm Pc Qc mc ms free) (cw : vx_CVW R s args own C index y bytes maxL ret hh ws rm mc ms n) (hp : PreV s H C b Pc As)
    (hg : g.method = m) (hn : As.length = n) (hsize : g.locals.size = nL) (hstack : g.stack = As.reverse ++ .ref b :: rest) (hW : 2 * g.monitorRoom + (rest.map fun v => v.category).sum ≤ 8) (hdg : decode cc g.pc = .ok (.invokevirtual index, 3)) (hf : cells + mc ≤ R.cells ∧ slots + ms ≤ R.slots) :
    va_Run p l e R s m args below meth c H locs cells slots mc ms g rest (Qc (Value.ref b :: As).toArray) free := by
  obtain ⟨⟨hrc, hrs, hfr, hlo, hws, hcw⟩, hcode, hini, hy, hlen, hl, hin, hse⟩ := cw
  have hK : Back l R p e below s args y 3 8 (PreOf R mc ms Pc) (PostOf Qc mc ms free) := va_backW (hh := hh) (bytes := bytes) (maxL := maxL) (ret := ret) hM hp.1 hrc hrs hfr hlo hws hcw (fun a' U hW => word_at hW (Or.inl (by first | rfl | simp [Cond.onTables, Cond.keeps, Cond.steady])) hini)
  obtain ⟨hx, hb, hml, ho, -⟩ := S
  obtain ⟨-, ⟨cellB, hcB, hoB, hclB⟩, hPc⟩ := hp
  intro T hT X
  obtain ⟨v, vm₁, ⟨U', l2, c2, s2⟩, hW₁, X', ⟨g', mk, t, L, e1, e2, hq, h1, hL, h2, h3⟩, st⟩ := vx_callVW X hx (C := C) (hh := hh) (bytes := bytes) (maxL := maxL) (ret := ret) ho hl hin hse hcode hy hK (by rw [hT]; exact hcB) hoB hclB hg (hsize.trans hml.symm) (argsL := As) (rest := rest) (fun sig h => hn.trans (hlen sig h)) hstack hW (by rw [hb]; exact hdg)
    (fun vm₁ hW₁ => ⟨hf.1, hf.2, hPc (T.setVm vm₁) hT hW₁⟩)
  dsimp only [Pt.U, Pt.locs, Pt.cells, Pt.slots] at X' e1 e2 h1 h2 h3 st
  subst h1; subst h2; subst h3
  exact ⟨v, (T.setVm vm₁).calling g' mk (Value.ref b :: As).toArray, t, U', L, hT, X', hL, e1, e2, hq, st⟩
section
variable {y : MethodName} {bytes cc : ByteArray} {maxL nL mc ms n index : Nat} {ret : Option FieldType} {ws : List Cond} {rm : Room} {Pc : Array Value → State → Prop} {Qc : Array Value → State → Outcome → State → Prop} {XC : String → State → State → Prop} {free : Addr → Prop} {Ts : List Cond} {own C : String} {b : Addr} {As rest : List Value} {g : JFrame}
theorem vx_runVX {hh : List (Nat × Nat × Nat × Nat)} (S : CallFix p m c cc nL s args Ts own) (hM : vx_Met l y ws rm Pc Qc XC mc ms free) (cw : vx_CVW R s args own C index y bytes maxL ret hh ws rm mc ms n) (hp : PreV s H C b Pc As)
    (hg : g.method = m) (hn : As.length = n) (hsize : g.locals.size = nL) (hstack : g.stack = As.reverse ++ .ref b :: rest) (hW : 2 * g.monitorRoom + (rest.map fun v => v.category).sum ≤ 8) (hdg : decode cc g.pc = .ok (.invokevirtual index, 3)) (hf : cells + mc ≤ R.cells ∧ slots + ms ≤ R.slots) :
    vx_Run p l e R s m args below meth c H locs cells slots mc ms g rest (Qc (Value.ref b :: As).toArray) XC free := by
  obtain ⟨⟨hrc, hrs, hfr, hlo, hws, hcw⟩, hcode, hini, hy, hlen, hl, hin, hse⟩ := cw
  have hK : vx_Back l R p e below s args y 3 8 (PreOf R mc ms Pc) (PostOf Qc mc ms free) (vx_Post XC mc ms free) := vx_backW (hh := hh) (bytes := bytes) (maxL := maxL) (ret := ret) hM hp.1 hrc hrs hfr hlo hws hcw (fun a' U hW => word_at hW (Or.inl (by first | rfl | simp [Cond.onTables, Cond.keeps, Cond.steady])) hini)
  obtain ⟨hx, hb, hml, ho, -⟩ := S
  obtain ⟨-, ⟨cellB, hcB, hoB, hclB⟩, hPc⟩ := hp
  intro T hT X
  rcases vx_callVX X hx (C := C) (hh := hh) (bytes := bytes) (maxL := maxL) (ret := ret) ho hl hin hse hcode hy hK (by rw [hT]; exact hcB) hoB hclB hg (hsize.trans hml.symm) (argsL := As) (rest := rest) (fun sig h => hn.trans (hlen sig h)) hstack hW (by rw [hb]; exact hdg)
    (fun vm₁ hW₁ => ⟨hf.1, hf.2, hPc (T.setVm vm₁) hT hW₁⟩) with ⟨v, vm₁, ⟨U', l2, c2, s2⟩, hW₁, X', ⟨g', mk, t, L, e1, e2, hq, h1, hL, h2, h3⟩, st⟩ | ⟨q, vm₁, ⟨U', l2, c2, s2⟩, hW₁, X', ⟨g', mk, t, L, E, ce, e1, e2, hq, hce, hcv, hcl, h1, hL, h2, h3⟩, st⟩
  · dsimp only [Pt.U, Pt.locs, Pt.cells, Pt.slots] at X' e1 e2 h1 h2 h3 st
    subst h1; subst h2; subst h3
    exact Or.inl ⟨v, (T.setVm vm₁).calling g' mk (Value.ref b :: As).toArray, t, U', L, hT, X', hL, e1, e2, hq, st⟩
  · dsimp only [Pt.U, Pt.locs, Pt.cells, Pt.slots] at X' e1 e2 h1 h2 h3 st hcl
    subst h1; subst h2; subst h3
    exact Or.inr ⟨q, (T.setVm vm₁).calling g' mk (Value.ref b :: As).toArray, t, U', L, E, ce, hT, X', hL, e1, e2, hq, hce, hcv, vx_cls hW₁ hcl, st⟩
theorem vx_runSX {hh : List (Nat × Nat × Nat × Nat)} (S : CallFix p m c cc nL s args Ts own) (hM : vx_Met l y ws rm Pc Qc XC mc ms free) (cw : vx_CSW R s args own index y bytes maxL ret hh ws rm mc ms n) (hp : PreS s H Pc As)
    (hg : g.method = m) (hn : As.length = n) (hsize : g.locals.size = nL) (hstack : g.stack = As.reverse ++ rest) (hW : 2 * g.monitorRoom + (rest.map fun v => v.category).sum ≤ 8) (hdg : decode cc g.pc = .ok (.invokestatic index, 3)) (hf : cells + mc ≤ R.cells ∧ slots + ms ≤ R.slots) :
    vx_Run p l e R s m args below meth c H locs cells slots mc ms g rest (Qc As.toArray) XC free := by
  obtain ⟨⟨hrc, hrs, hfr, hlo, hws, hcw⟩, hcode, hini, hy, hlen, hl, hstt⟩ := cw
  have hK : vx_Back l R p e below s args y 3 8 (PreOf R mc ms Pc) (PostOf Qc mc ms free) (vx_Post XC mc ms free) := vx_backW (hh := hh) (bytes := bytes) (maxL := maxL) (ret := ret) hM hp.1 hrc hrs hfr hlo hws hcw (fun a' U hW => word_at hW (Or.inl (by first | rfl | simp [Cond.onTables, Cond.keeps, Cond.steady])) hini)
  obtain ⟨hx, hb, hml, ho, -⟩ := S
  intro T hT X
  rcases vx_callSX X hx (hh := hh) (bytes := bytes) (maxL := maxL) (ret := ret) ho hl hstt hini hcode hy hK hg (hsize.trans hml.symm) (argsL := As) (rest := rest) (fun sig h => hn.trans (hlen sig h)) hstack hW (by rw [hb]; exact hdg)
    (fun vm₁ hW₁ => ⟨hf.1, hf.2, hp.2 (T.setVm vm₁) hT hW₁⟩) with ⟨v, vm₁, ⟨U', l2, c2, s2⟩, hW₁, X', ⟨g', mk, t, L, e1, e2, hq, h1, hL, h2, h3⟩, st⟩ | ⟨q, vm₁, ⟨U', l2, c2, s2⟩, hW₁, X', ⟨g', mk, t, L, E, ce, e1, e2, hq, hce, hcv, hcl, h1, hL, h2, h3⟩, st⟩
  · dsimp only [Pt.U, Pt.locs, Pt.cells, Pt.slots] at X' e1 e2 h1 h2 h3 st
    subst h1; subst h2; subst h3
    exact Or.inl ⟨v, (T.setVm vm₁).calling g' mk As.toArray, t, U', L, hT, X', hL, e1, e2, hq, st⟩
  · dsimp only [Pt.U, Pt.locs, Pt.cells, Pt.slots] at X' e1 e2 h1 h2 h3 st hcl
    subst h1; subst h2; subst h3
    exact Or.inr ⟨q, (T.setVm vm₁).calling g' mk As.toArray, t, U', L, E, ce, hT, X', hL, e1, e2, hq, hce, hcv, vx_cls hW₁ hcl, st⟩
end
end VXH
theorem vx_ofWH {l : Launch} {y : MethodName} {ws ws' : List Cond} {rm : Room} {Pc : Array Value → State → Prop} {Qc : Array Value → State → Outcome → State → Prop} {XC : String → State → State → Prop} {mc ms : Nat} {free : Addr → Prop} {cc : ByteArray} {maxL : Nat} {ret : Option FieldType} {hh : List (Nat × Nat × Nat × Nat)}
    (hy : plainName y.cls = true) (hw : ws = Cond.codeWith y cc maxL ret hh :: ws')
    (body : ∀ p e s m args below meth c s₁, BodyLoose p l y (headSpec ws rm) cc maxL ret e s m args below meth c s₁ → c.maxLocals = maxL → Pc args s →
      W p l e (headSpec ws rm).room s m args below meth c s.heap [] 0 0 (vx_MQ below Qc XC args s mc ms free) (entryFrame m args maxL)) : vx_Met l y ws rm Pc Qc XC mc ms free := by
  refine MetFree.of_bodyS (code := cc) (maxLocals := maxL) (ret := ret) hy ?_ ?_
  · intro args s m h hn
    obtain ⟨m9, meth, c, hn9, h1, h2, h3, h4, -, h5, h6, -⟩ := Cond.codeWith_spec (atoms_spec (ws := ws) h _ (by rw [hw]; exact List.mem_cons_self))
    cases hn.symm.trans hn9
    exact ⟨meth, c, h1, h2, h3, h4, h5, h6⟩
  · intro p e s m args below meth c s₁ B hml hP _
    have hh0 : s₁.heap = s.heap := by rw [B.state]; rfl
    obtain ⟨t, a1, o, b1, b2, b3⟩ := body p e s m args below meth c s₁ B hml hP s₁ hh0 (Stand.of_body B)
    exact ⟨t, o, a1, b1, b2, b3⟩
/-! ===== END ===== -/

def RX0 : String := "BurntOak$Book"
def TX0 : u_T := fun k => match k with
  | 0 => ("BurntOak$Book", "tellings", "I", false)
  | 1 => ("BurntOak$Book", "goals", "[I", true)
  | 2 => ("BurntOak$Book", "tellers", "[I", true)
  | 3 => ("BurntOak$Book", "sayings", "[I", true)
  | 4 => ("BurntOak$Book", "words", "[I", true)
  | 5 => ("BurntOak$Book", "records", "I", false)
  | 6 => ("BurntOak$Book", "recordWalker", "[I", true)
  | 7 => ("BurntOak$Book", "recordTelling", "[I", true)
  | 8 => ("BurntOak$Book", "recordState", "[I", true)
  | 9 => ("BurntOak$Book", "recordYear", "[I", true)
  | _ => ("BurntOak$Book", "recordPlace", "[I", true)
def tyX0 : Nat → FieldType := fun k => match k with
  | 0 => .int
  | 1 => .array .int
  | 2 => .array .int
  | 3 => .array .int
  | 4 => .array .int
  | 5 => .int
  | 6 => .array .int
  | 7 => .array .int
  | 8 => .array .int
  | 9 => .array .int
  | _ => .array .int
theorem nmX0 : ∀ a, a < 11 → ∀ b, b < 11 → a ≠ b → (TX0 a).2.1 ≠ (TX0 b).2.1 := by decide +kernel
theorem tyX0_ok : ∀ k, k < 11 → parseFieldDescriptor (TX0 k).2.2.1 = some (tyX0 k) := by decide +kernel
abbrev cX0_init : ByteArray := prog_2_method_1_code
def yX0_init : MethodName := ⟨RX0, "<init>", "()V"⟩
abbrev cX0_addTelling : ByteArray := prog_2_method_2_code
def yX0_addTelling : MethodName := ⟨RX0, "addTelling", "([IIII)I"⟩
abbrev cX0_addListed : ByteArray := prog_2_method_3_code
def yX0_addListed : MethodName := ⟨RX0, "addListed", "(LBurntOak$Tray;II)I"⟩
abbrev cX0_addRecord : ByteArray := prog_2_method_4_code
def yX0_addRecord : MethodName := ⟨RX0, "addRecord", "(IIIII)I"⟩
abbrev cX0_recordsOf : ByteArray := prog_2_method_5_code
def yX0_recordsOf : MethodName := ⟨RX0, "recordsOf", "(IZ)I"⟩
abbrev cX0_take : ByteArray := prog_2_method_6_code
def yX0_take : MethodName := ⟨RX0, "take", "(LBurntOak$Book;)V"⟩
def RX1 : String := "BurntOak$Finder"
def TX1 : u_T := fun k => match k with
  | 0 => ("BurntOak$Finder", "walk", "LBurntOak$Walk;", true)
  | 1 => ("BurntOak$Finder", "walkers", "I", false)
  | 2 => ("BurntOak$Finder", "goal", "J", false)
  | 3 => ("BurntOak$Finder", "found", "[I", true)
  | 4 => ("BurntOak$Finder", "sets", "[LBurntOak$States;", true)
  | 5 => ("BurntOak$Finder", "tried", "[I", true)
  | 6 => ("BurntOak$Finder", "leading", "[I", true)
  | 7 => ("BurntOak$Finder", "astray", "[I", true)
  | 8 => ("BurntOak$Finder", "target", "LBurntOak$States;", true)
  | 9 => ("BurntOak$Finder", "list", "[I", true)
  | _ => ("BurntOak$Finder", "one", "[I", true)
def tyX1 : Nat → FieldType := fun k => match k with
  | 0 => .object "BurntOak$Walk"
  | 1 => .int
  | 2 => .long
  | 3 => .array .int
  | 4 => .array (.object "BurntOak$States")
  | 5 => .array .int
  | 6 => .array .int
  | 7 => .array .int
  | 8 => .object "BurntOak$States"
  | 9 => .array .int
  | _ => .array .int
theorem nmX1 : ∀ a, a < 11 → ∀ b, b < 11 → a ≠ b → (TX1 a).2.1 ≠ (TX1 b).2.1 := by decide +kernel
theorem tyX1_ok : ∀ k, k < 11 → parseFieldDescriptor (TX1 k).2.2.1 = some (tyX1 k) := by decide +kernel
abbrev cX1_init : ByteArray := prog_3_method_1_code
def yX1_init : MethodName := ⟨RX1, "<init>", "(LBurntOak$Walk;)V"⟩
abbrev cX1_begin : ByteArray := prog_3_method_2_code
def yX1_begin : MethodName := ⟨RX1, "begin", "(III)V"⟩
abbrev cX1_search : ByteArray := prog_3_method_3_code
def yX1_search : MethodName := ⟨RX1, "search", "(II)Z"⟩
abbrev cX1_allGoOn : ByteArray := prog_3_method_4_code
def yX1_allGoOn : MethodName := ⟨RX1, "allGoOn", "(II)Z"⟩
abbrev cX1_arriving : ByteArray := prog_3_method_5_code
def yX1_arriving : MethodName := ⟨RX1, "arriving", "(III)I"⟩
abbrev cX1_judge : ByteArray := prog_3_method_6_code
def yX1_judge : MethodName := ⟨RX1, "judge", "(II)V"⟩
def RX2 : String := "BurntOak$Folk"
def TX2 : u_T := fun k => match k with
  | 0 => ("BurntOak$Folk", "tongues", "I", false)
  | 1 => ("BurntOak$Folk", "meanings", "[I", true)
  | 2 => ("BurntOak$Folk", "walkers", "I", false)
  | 3 => ("BurntOak$Folk", "tongueOf", "[I", true)
  | 4 => ("BurntOak$Folk", "notices", "[I", true)
  | 5 => ("BurntOak$Folk", "turns", "[Z", true)
  | 6 => ("BurntOak$Folk", "paths", "[Z", true)
  | _ => ("BurntOak$Folk", "patience", "[I", true)
def tyX2 : Nat → FieldType := fun k => match k with
  | 0 => .int
  | 1 => .array .int
  | 2 => .int
  | 3 => .array .int
  | 4 => .array .int
  | 5 => .array .boolean
  | 6 => .array .boolean
  | _ => .array .int
theorem nmX2 : ∀ a, a < 8 → ∀ b, b < 8 → a ≠ b → (TX2 a).2.1 ≠ (TX2 b).2.1 := by decide +kernel
theorem tyX2_ok : ∀ k, k < 8 → parseFieldDescriptor (TX2 k).2.2.1 = some (tyX2 k) := by decide +kernel
abbrev cX2_init : ByteArray := prog_4_method_1_code
def yX2_init : MethodName := ⟨RX2, "<init>", "()V"⟩
abbrev cX2_addTongue : ByteArray := prog_4_method_2_code
def yX2_addTongue : MethodName := ⟨RX2, "addTongue", "()I"⟩
abbrev cX2_addWalker : ByteArray := prog_4_method_3_code
def yX2_addWalker : MethodName := ⟨RX2, "addWalker", "(IIZZI)I"⟩
abbrev cX2_kindsOf : ByteArray := prog_4_method_4_code
def yX2_kindsOf : MethodName := ⟨RX2, "kindsOf", "(II)I"⟩
abbrev cX2_howManyKnow : ByteArray := prog_4_method_5_code
def yX2_howManyKnow : MethodName := ⟨RX2, "howManyKnow", "(II)I"⟩
abbrev cX2_take : ByteArray := prog_4_method_6_code
def yX2_take : MethodName := ⟨RX2, "take", "(LBurntOak$Folk;)V"⟩
def RX3 : String := "BurntOak$Land"
def TX3 : u_T := fun k => match k with
  | 0 => ("BurntOak$Land", "places", "I", false)
  | 1 => ("BurntOak$Land", "x", "[I", true)
  | 2 => ("BurntOak$Land", "y", "[I", true)
  | 3 => ("BurntOak$Land", "ways", "I", false)
  | 4 => ("BurntOak$Land", "wayKind", "[I", true)
  | 5 => ("BurntOak$Land", "wayLength", "[I", true)
  | 6 => ("BurntOak$Land", "wayFrom", "[I", true)
  | 7 => ("BurntOak$Land", "wayTo", "[I", true)
  | 8 => ("BurntOak$Land", "spots", "[I", true)
  | 9 => ("BurntOak$Land", "dx", "[I", true)
  | 10 => ("BurntOak$Land", "dy", "[I", true)
  | 11 => ("BurntOak$Land", "marks", "I", false)
  | 12 => ("BurntOak$Land", "markPlace", "[I", true)
  | 13 => ("BurntOak$Land", "markKind", "[I", true)
  | 14 => ("BurntOak$Land", "markTall", "[Z", true)
  | 15 => ("BurntOak$Land", "markFrom", "[I", true)
  | _ => ("BurntOak$Land", "markTo", "[I", true)
def tyX3 : Nat → FieldType := fun k => match k with
  | 0 => .int
  | 1 => .array .int
  | 2 => .array .int
  | 3 => .int
  | 4 => .array .int
  | 5 => .array .int
  | 6 => .array .int
  | 7 => .array .int
  | 8 => .array .int
  | 9 => .array .int
  | 10 => .array .int
  | 11 => .int
  | 12 => .array .int
  | 13 => .array .int
  | 14 => .array .boolean
  | 15 => .array .int
  | _ => .array .int
theorem nmX3 : ∀ a, a < 17 → ∀ b, b < 17 → a ≠ b → (TX3 a).2.1 ≠ (TX3 b).2.1 := by decide +kernel
theorem tyX3_ok : ∀ k, k < 17 → parseFieldDescriptor (TX3 k).2.2.1 = some (tyX3 k) := by decide +kernel
abbrev cX3_init : ByteArray := prog_5_method_1_code
def yX3_init : MethodName := ⟨RX3, "<init>", "()V"⟩
abbrev cX3_isTaken : ByteArray := prog_5_method_2_code
def yX3_isTaken : MethodName := ⟨RX3, "isTaken", "(II)Z"⟩
abbrev cX3_addPlace : ByteArray := prog_5_method_3_code
def yX3_addPlace : MethodName := ⟨RX3, "addPlace", "(II)I"⟩
abbrev cX3_isJoined : ByteArray := prog_5_method_4_code
def yX3_isJoined : MethodName := ⟨RX3, "isJoined", "(IIII)Z"⟩
abbrev cX3_addWay : ByteArray := prog_5_method_5_code
def yX3_addWay : MethodName := ⟨RX3, "addWay", "(IIIIII)I"⟩
abbrev cX3_addMark : ByteArray := prog_5_method_6_code
def yX3_addMark : MethodName := ⟨RX3, "addMark", "(IIZII)I"⟩
abbrev cX3_marksOf : ByteArray := prog_5_method_7_code
def yX3_marksOf : MethodName := ⟨RX3, "marksOf", "(II)I"⟩
abbrev cX3_take : ByteArray := prog_5_method_8_code
def yX3_take : MethodName := ⟨RX3, "take", "(LBurntOak$Land;)V"⟩
def RX4 : String := "BurntOak$Odds"
def TX4 : u_T := fun k => match k with
  | 0 => ("BurntOak$Odds", "walk", "LBurntOak$Walk;", true)
  | 1 => ("BurntOak$Odds", "here", "[I", false)
  | 2 => ("BurntOak$Odds", "there", "[I", false)
  | 3 => ("BurntOak$Odds", "one", "[I", true)
  | 4 => ("BurntOak$Odds", "target", "LBurntOak$States;", true)
  | 5 => ("BurntOak$Odds", "list", "[I", true)
  | 6 => ("BurntOak$Odds", "firstAt", "[I", true)
  | _ => ("BurntOak$Odds", "secondAt", "[I", true)
def tyX4 : Nat → FieldType := fun k => match k with
  | 0 => .object "BurntOak$Walk"
  | 1 => .array .int
  | 2 => .array .int
  | 3 => .array .int
  | 4 => .object "BurntOak$States"
  | 5 => .array .int
  | 6 => .array .int
  | _ => .array .int
theorem nmX4 : ∀ a, a < 8 → ∀ b, b < 8 → a ≠ b → (TX4 a).2.1 ≠ (TX4 b).2.1 := by decide +kernel
theorem tyX4_ok : ∀ k, k < 8 → parseFieldDescriptor (TX4 k).2.2.1 = some (tyX4 k) := by decide +kernel
abbrev cX4_init : ByteArray := prog_6_method_1_code
def yX4_init : MethodName := ⟨RX4, "<init>", "(LBurntOak$Walk;)V"⟩
abbrev cX4_start : ByteArray := prog_6_method_2_code
def yX4_start : MethodName := ⟨RX4, "start", "(I)V"⟩
abbrev cX4_spread : ByteArray := prog_6_method_3_code
def yX4_spread : MethodName := ⟨RX4, "spread", "(LBurntOak$States;)V"⟩
abbrev cX4_share : ByteArray := prog_6_method_4_code
def yX4_share : MethodName := ⟨RX4, "share", "(ILBurntOak$States;[I)V"⟩
abbrev cX4_goOn : ByteArray := prog_6_method_5_code
def yX4_goOn : MethodName := ⟨RX4, "goOn", "(II)V"⟩
abbrev cX4_partsAt : ByteArray := prog_6_method_6_code
def yX4_partsAt : MethodName := ⟨RX4, "partsAt", "(I)I"⟩
abbrev cX4_sumUp : ByteArray := prog_6_method_7_code
def yX4_sumUp : MethodName := ⟨RX4, "sumUp", "([I)V"⟩
abbrev cX4_meet : ByteArray := prog_6_method_8_code
def yX4_meet : MethodName := ⟨RX4, "meet", "(IIII)I"⟩
def RX5 : String := "BurntOak$Reader"
def TX5 : u_T := fun k => match k with
  | 0 => ("BurntOak$Reader", "tape", "[B", true)
  | 1 => ("BurntOak$Reader", "held", "I", false)
  | 2 => ("BurntOak$Reader", "fault", "I", false)
  | 3 => ("BurntOak$Reader", "faultAt", "I", false)
  | 4 => ("BurntOak$Reader", "words", "[I", true)
  | 5 => ("BurntOak$Reader", "many", "I", false)
  | 6 => ("BurntOak$Reader", "at", "I", false)
  | 7 => ("BurntOak$Reader", "begun", "I", false)
  | 8 => ("BurntOak$Reader", "token", "I", false)
  | 9 => ("BurntOak$Reader", "number", "I", false)
  | 10 => ("BurntOak$Reader", "awaited", "I", false)
  | 11 => ("BurntOak$Reader", "ors", "I", false)
  | 12 => ("BurntOak$Reader", "does", "I", false)
  | _ => ("BurntOak$Reader", "amount", "I", false)
def tyX5 : Nat → FieldType := fun k => match k with
  | 0 => .array .byte
  | 1 => .int
  | 2 => .int
  | 3 => .int
  | 4 => .array .int
  | 5 => .int
  | 6 => .int
  | 7 => .int
  | 8 => .int
  | 9 => .int
  | 10 => .int
  | 11 => .int
  | 12 => .int
  | _ => .int
theorem nmX5 : ∀ a, a < 14 → ∀ b, b < 14 → a ≠ b → (TX5 a).2.1 ≠ (TX5 b).2.1 := by decide +kernel
theorem tyX5_ok : ∀ k, k < 14 → parseFieldDescriptor (TX5 k).2.2.1 = some (tyX5 k) := by decide +kernel
abbrev cX5_init : ByteArray := prog_7_method_1_code
def yX5_init : MethodName := ⟨RX5, "<init>", "()V"⟩
abbrev cX5_put : ByteArray := prog_7_method_2_code
def yX5_put : MethodName := ⟨RX5, "put", "(I)V"⟩
abbrev cX5_read : ByteArray := prog_7_method_3_code
def yX5_read : MethodName := ⟨RX5, "read", "(I)I"⟩
abbrev cX5_scan : ByteArray := prog_7_method_4_code
def yX5_scan : MethodName := ⟨RX5, "scan", "(I)V"⟩
abbrev cX5_scanNumber : ByteArray := prog_7_method_5_code
def yX5_scanNumber : MethodName := ⟨RX5, "scanNumber", "(I)V"⟩
abbrev cX5_scanWord : ByteArray := prog_7_method_6_code
def yX5_scanWord : MethodName := ⟨RX5, "scanWord", "(I)V"⟩
abbrev cX5_isWord : ByteArray := prog_7_method_7_code
def yX5_isWord : MethodName := ⟨RX5, "isWord", "(I)Z"⟩
abbrev cX5_take : ByteArray := prog_7_method_8_code
def yX5_take : MethodName := ⟨RX5, "take", "()I"⟩
abbrev cX5_await : ByteArray := prog_7_method_9_code
def yX5_await : MethodName := ⟨RX5, "await", "(II)I"⟩
abbrev cX5_keep : ByteArray := prog_7_method_10_code
def yX5_keep : MethodName := ⟨RX5, "keep", "(II)I"⟩
abbrev cX5_takeFirst : ByteArray := prog_7_method_11_code
def yX5_takeFirst : MethodName := ⟨RX5, "takeFirst", "()I"⟩
abbrev cX5_takeWord : ByteArray := prog_7_method_12_code
def yX5_takeWord : MethodName := ⟨RX5, "takeWord", "()I"⟩
abbrev cX5_isBadNumber : ByteArray := prog_7_method_13_code
def yX5_isBadNumber : MethodName := ⟨RX5, "isBadNumber", "()Z"⟩
abbrev cX5_takeAmount : ByteArray := prog_7_method_14_code
def yX5_takeAmount : MethodName := ⟨RX5, "takeAmount", "(I)I"⟩
abbrev cX5_takeSide : ByteArray := prog_7_method_15_code
def yX5_takeSide : MethodName := ⟨RX5, "takeSide", "()I"⟩
abbrev cX5_takeMore : ByteArray := prog_7_method_16_code
def yX5_takeMore : MethodName := ⟨RX5, "takeMore", "()I"⟩
def RX6 : String := "BurntOak$States"
def TX6 : u_T := fun k => match k with
  | _ => ("BurntOak$States", "quarters", "[J", true)
def tyX6 : Nat → FieldType := fun k => match k with
  | _ => .array .long
theorem nmX6 : ∀ a, a < 1 → ∀ b, b < 1 → a ≠ b → (TX6 a).2.1 ≠ (TX6 b).2.1 := by decide +kernel
theorem tyX6_ok : ∀ k, k < 1 → parseFieldDescriptor (TX6 k).2.2.1 = some (tyX6 k) := by decide +kernel
abbrev cX6_init : ByteArray := prog_8_method_1_code
def yX6_init : MethodName := ⟨RX6, "<init>", "()V"⟩
abbrev cX6_stateOf : ByteArray := prog_8_method_2_code
def yX6_stateOf : MethodName := ⟨RX6, "stateOf", "(II)I"⟩
abbrev cX6_clear : ByteArray := prog_8_method_3_code
def yX6_clear : MethodName := ⟨RX6, "clear", "()V"⟩
abbrev cX6_add : ByteArray := prog_8_method_4_code
def yX6_add : MethodName := ⟨RX6, "add", "(I)V"⟩
abbrev cX6_addArrows : ByteArray := prog_8_method_5_code
def yX6_addArrows : MethodName := ⟨RX6, "addArrows", "(JJ)V"⟩
abbrev cX6_isEmpty : ByteArray := prog_8_method_6_code
def yX6_isEmpty : MethodName := ⟨RX6, "isEmpty", "()Z"⟩
abbrev cX6_size : ByteArray := prog_8_method_7_code
def yX6_size : MethodName := ⟨RX6, "size", "()I"⟩
abbrev cX6_list : ByteArray := prog_8_method_8_code
def yX6_list : MethodName := ⟨RX6, "list", "([I)I"⟩
abbrev cX6_nth : ByteArray := prog_8_method_9_code
def yX6_nth : MethodName := ⟨RX6, "nth", "(I)I"⟩
def RX7 : String := "BurntOak$Steps"
def TX7 : u_T := fun k => match k with
  | 0 => ("BurntOak$Steps", "map", "LBurntOak$YearMap;", true)
  | 1 => ("BurntOak$Steps", "many", "I", false)
  | 2 => ("BurntOak$Steps", "arrows", "[I", false)
  | 3 => ("BurntOak$Steps", "tags", "[J", false)
  | 4 => ("BurntOak$Steps", "nextMany", "I", false)
  | 5 => ("BurntOak$Steps", "nextArrows", "[I", false)
  | 6 => ("BurntOak$Steps", "nextTags", "[J", false)
  | 7 => ("BurntOak$Steps", "starts", "[I", false)
  | 8 => ("BurntOak$Steps", "start", "I", false)
  | 9 => ("BurntOak$Steps", "startsEnd", "I", false)
  | _ => ("BurntOak$Steps", "lengths", "J", false)
def tyX7 : Nat → FieldType := fun k => match k with
  | 0 => .object "BurntOak$YearMap"
  | 1 => .int
  | 2 => .array .int
  | 3 => .array .long
  | 4 => .int
  | 5 => .array .int
  | 6 => .array .long
  | 7 => .array .int
  | 8 => .int
  | 9 => .int
  | _ => .long
theorem nmX7 : ∀ a, a < 11 → ∀ b, b < 11 → a ≠ b → (TX7 a).2.1 ≠ (TX7 b).2.1 := by decide +kernel
theorem tyX7_ok : ∀ k, k < 11 → parseFieldDescriptor (TX7 k).2.2.1 = some (tyX7 k) := by decide +kernel
abbrev cX7_init : ByteArray := prog_9_method_1_code
def yX7_init : MethodName := ⟨RX7, "<init>", "(LBurntOak$YearMap;)V"⟩
abbrev cX7_begin : ByteArray := prog_9_method_2_code
def yX7_begin : MethodName := ⟨RX7, "begin", "([IIIJ)V"⟩
abbrev cX7_go : ByteArray := prog_9_method_3_code
def yX7_go : MethodName := ⟨RX7, "go", "()Z"⟩
abbrev cX7_clearNow : ByteArray := prog_9_method_4_code
def yX7_clearNow : MethodName := ⟨RX7, "clearNow", "()V"⟩
abbrev cX7_carry : ByteArray := prog_9_method_5_code
def yX7_carry : MethodName := ⟨RX7, "carry", "(IJ)V"⟩
def RX8 : String := "BurntOak$Tray"
def TX8 : u_T := fun k => match k with
  | 0 => ("BurntOak$Tray", "missing", "Z", false)
  | 1 => ("BurntOak$Tray", "sort", "I", false)
  | 2 => ("BurntOak$Tray", "many", "I", false)
  | _ => ("BurntOak$Tray", "row", "[J", true)
def tyX8 : Nat → FieldType := fun k => match k with
  | 0 => .boolean
  | 1 => .int
  | 2 => .int
  | _ => .array .long
theorem nmX8 : ∀ a, a < 4 → ∀ b, b < 4 → a ≠ b → (TX8 a).2.1 ≠ (TX8 b).2.1 := by decide +kernel
theorem tyX8_ok : ∀ k, k < 4 → parseFieldDescriptor (TX8 k).2.2.1 = some (tyX8 k) := by decide +kernel
abbrev cX8_init : ByteArray := prog_10_method_1_code
def yX8_init : MethodName := ⟨RX8, "<init>", "()V"⟩
abbrev cX8_lay : ByteArray := prog_10_method_2_code
def yX8_lay : MethodName := ⟨RX8, "lay", "(II)V"⟩
abbrev cX8_cut : ByteArray := prog_10_method_3_code
def yX8_cut : MethodName := ⟨RX8, "cut", "(J)J"⟩
abbrev cX8_isSayable : ByteArray := prog_10_method_4_code
def yX8_isSayable : MethodName := ⟨RX8, "isSayable", "()Z"⟩
def RX9 : String := "BurntOak$Walk"
def TX9 : u_T := fun k => match k with
  | 0 => ("BurntOak$Walk", "map", "LBurntOak$YearMap;", true)
  | 1 => ("BurntOak$Walk", "folk", "LBurntOak$Folk;", true)
  | 2 => ("BurntOak$Walk", "book", "LBurntOak$Book;", true)
  | 3 => ("BurntOak$Walk", "steps", "LBurntOak$Steps;", true)
  | 4 => ("BurntOak$Walk", "kinds", "[I", true)
  | 5 => ("BurntOak$Walk", "standing", "[J", true)
  | 6 => ("BurntOak$Walk", "who", "I", false)
  | 7 => ("BurntOak$Walk", "now", "LBurntOak$States;", false)
  | 8 => ("BurntOak$Walk", "next", "LBurntOak$States;", false)
  | _ => ("BurntOak$Walk", "list", "[I", true)
def tyX9 : Nat → FieldType := fun k => match k with
  | 0 => .object "BurntOak$YearMap"
  | 1 => .object "BurntOak$Folk"
  | 2 => .object "BurntOak$Book"
  | 3 => .object "BurntOak$Steps"
  | 4 => .array .int
  | 5 => .array .long
  | 6 => .int
  | 7 => .object "BurntOak$States"
  | 8 => .object "BurntOak$States"
  | _ => .array .int
theorem nmX9 : ∀ a, a < 10 → ∀ b, b < 10 → a ≠ b → (TX9 a).2.1 ≠ (TX9 b).2.1 := by decide +kernel
theorem tyX9_ok : ∀ k, k < 10 → parseFieldDescriptor (TX9 k).2.2.1 = some (tyX9 k) := by decide +kernel
abbrev cX9_init : ByteArray := prog_11_method_1_code
def yX9_init : MethodName := ⟨RX9, "<init>", "(LBurntOak$YearMap;LBurntOak$Folk;LBurntOak$Book;)V"⟩
abbrev cX9_learnGround : ByteArray := prog_11_method_2_code
def yX9_learnGround : MethodName := ⟨RX9, "learnGround", "(I)V"⟩
abbrev cX9_become : ByteArray := prog_11_method_3_code
def yX9_become : MethodName := ⟨RX9, "become", "(I)V"⟩
abbrev cX9_suppose : ByteArray := prog_11_method_4_code
def yX9_suppose : MethodName := ⟨RX9, "suppose", "(II)V"⟩
abbrev cX9_placesWith : ByteArray := prog_11_method_5_code
def yX9_placesWith : MethodName := ⟨RX9, "placesWith", "(I)J"⟩
abbrev cX9_seenPlaces : ByteArray := prog_11_method_6_code
def yX9_seenPlaces : MethodName := ⟨RX9, "seenPlaces", "(I)J"⟩
abbrev cX9_lead : ByteArray := prog_11_method_7_code
def yX9_lead : MethodName := ⟨RX9, "lead", "(I[IILBurntOak$States;)V"⟩
abbrev cX9_sideOf : ByteArray := prog_11_method_8_code
def yX9_sideOf : MethodName := ⟨RX9, "sideOf", "(II)I"⟩
abbrev cX9_goTimes : ByteArray := prog_11_method_9_code
def yX9_goTimes : MethodName := ⟨RX9, "goTimes", "(I[IILBurntOak$States;)V"⟩
abbrev cX9_goUntil : ByteArray := prog_11_method_10_code
def yX9_goUntil : MethodName := ⟨RX9, "goUntil", "(J[IIZLBurntOak$States;)V"⟩
abbrev cX9_goFar : ByteArray := prog_11_method_11_code
def yX9_goFar : MethodName := ⟨RX9, "goFar", "(I[IILBurntOak$States;)V"⟩
abbrev cX9_staySeeing : ByteArray := prog_11_method_12_code
def yX9_staySeeing : MethodName := ⟨RX9, "staySeeing", "(J[IILBurntOak$States;)V"⟩
abbrev cX9_stayAheadOf : ByteArray := prog_11_method_13_code
def yX9_stayAheadOf : MethodName := ⟨RX9, "stayAheadOf", "(J[IILBurntOak$States;)V"⟩
abbrev cX9_goBack : ByteArray := prog_11_method_14_code
def yX9_goBack : MethodName := ⟨RX9, "goBack", "([IILBurntOak$States;)V"⟩
abbrev cX9_turn : ByteArray := prog_11_method_15_code
def yX9_turn : MethodName := ⟨RX9, "turn", "(I[IILBurntOak$States;)V"⟩
abbrev cX9_turnAt : ByteArray := prog_11_method_16_code
def yX9_turnAt : MethodName := ⟨RX9, "turnAt", "(IIJLBurntOak$States;)V"⟩
abbrev cX9_follow : ByteArray := prog_11_method_17_code
def yX9_follow : MethodName := ⟨RX9, "follow", "(III)I"⟩
abbrev cX9_lastPlaces : ByteArray := prog_11_method_18_code
def yX9_lastPlaces : MethodName := ⟨RX9, "lastPlaces", "(II)J"⟩
abbrev cX9_getsThere : ByteArray := prog_11_method_19_code
def yX9_getsThere : MethodName := ⟨RX9, "getsThere", "(II)Z"⟩
def RX10 : String := "BurntOak$YearMap"
def TX10 : u_T := fun k => match k with
  | 0 => ("BurntOak$YearMap", "land", "LBurntOak$Land;", true)
  | 1 => ("BurntOak$YearMap", "first", "I", false)
  | 2 => ("BurntOak$YearMap", "last", "I", false)
  | 3 => ("BurntOak$YearMap", "stale", "Z", false)
  | 4 => ("BurntOak$YearMap", "ways", "J", false)
  | 5 => ("BurntOak$YearMap", "paths", "[J", true)
  | 6 => ("BurntOak$YearMap", "outs", "[J", true)
  | 7 => ("BurntOak$YearMap", "neighbours", "[J", true)
  | 8 => ("BurntOak$YearMap", "kindPlaces", "[J", true)
  | 9 => ("BurntOak$YearMap", "tallPlaces", "[J", true)
  | 10 => ("BurntOak$YearMap", "known", "[Z", true)
  | _ => ("BurntOak$YearMap", "rows", "[J", true)
def tyX10 : Nat → FieldType := fun k => match k with
  | 0 => .object "BurntOak$Land"
  | 1 => .int
  | 2 => .int
  | 3 => .boolean
  | 4 => .long
  | 5 => .array .long
  | 6 => .array .long
  | 7 => .array .long
  | 8 => .array .long
  | 9 => .array .long
  | 10 => .array .boolean
  | _ => .array .long
theorem nmX10 : ∀ a, a < 12 → ∀ b, b < 12 → a ≠ b → (TX10 a).2.1 ≠ (TX10 b).2.1 := by decide +kernel
theorem tyX10_ok : ∀ k, k < 12 → parseFieldDescriptor (TX10 k).2.2.1 = some (tyX10 k) := by decide +kernel
abbrev cX10_init : ByteArray := prog_12_method_1_code
def yX10_init : MethodName := ⟨RX10, "<init>", "(LBurntOak$Land;)V"⟩
abbrev cX10_forget : ByteArray := prog_12_method_2_code
def yX10_forget : MethodName := ⟨RX10, "forget", "()V"⟩
abbrev cX10_isPreparedFor : ByteArray := prog_12_method_3_code
def yX10_isPreparedFor : MethodName := ⟨RX10, "isPreparedFor", "(I)Z"⟩
abbrev cX10_prepare : ByteArray := prog_12_method_4_code
def yX10_prepare : MethodName := ⟨RX10, "prepare", "(I)V"⟩
abbrev cX10_layWays : ByteArray := prog_12_method_5_code
def yX10_layWays : MethodName := ⟨RX10, "layWays", "(J)V"⟩
abbrev cX10_isThere : ByteArray := prog_12_method_6_code
def yX10_isThere : MethodName := ⟨RX10, "isThere", "(III)Z"⟩
abbrev cX10_addWay : ByteArray := prog_12_method_7_code
def yX10_addWay : MethodName := ⟨RX10, "addWay", "(I)V"⟩
abbrev cX10_addMark : ByteArray := prog_12_method_8_code
def yX10_addMark : MethodName := ⟨RX10, "addMark", "(IJZ)V"⟩
abbrev cX10_placesWith : ByteArray := prog_12_method_9_code
def yX10_placesWith : MethodName := ⟨RX10, "placesWith", "(I)J"⟩
abbrev cX10_seenPlaces : ByteArray := prog_12_method_10_code
def yX10_seenPlaces : MethodName := ⟨RX10, "seenPlaces", "(I)J"⟩
abbrev cX10_look : ByteArray := prog_12_method_11_code
def yX10_look : MethodName := ⟨RX10, "look", "(I)I"⟩
abbrev cX10_placesOf : ByteArray := prog_12_method_12_code
def yX10_placesOf : MethodName := ⟨RX10, "placesOf", "(LBurntOak$States;)J"⟩
def RX11 : String := "BurntOak"
def TX11 : u_T := fun k => match k with
  | 0 => ("BurntOak", "land", "LBurntOak$Land;", true)
  | 1 => ("BurntOak", "folk", "LBurntOak$Folk;", true)
  | 2 => ("BurntOak", "book", "LBurntOak$Book;", true)
  | 3 => ("BurntOak", "map", "LBurntOak$YearMap;", true)
  | 4 => ("BurntOak", "walk", "LBurntOak$Walk;", true)
  | 5 => ("BurntOak", "odds", "LBurntOak$Odds;", true)
  | 6 => ("BurntOak", "finder", "LBurntOak$Finder;", true)
  | 7 => ("BurntOak", "reader", "LBurntOak$Reader;", true)
  | 8 => ("BurntOak", "trays", "[LBurntOak$Tray;", true)
  | 9 => ("BurntOak", "lands", "[LBurntOak$Land;", true)
  | 10 => ("BurntOak", "folks", "[LBurntOak$Folk;", true)
  | _ => ("BurntOak", "books", "[LBurntOak$Book;", true)
def tyX11 : Nat → FieldType := fun k => match k with
  | 0 => .object "BurntOak$Land"
  | 1 => .object "BurntOak$Folk"
  | 2 => .object "BurntOak$Book"
  | 3 => .object "BurntOak$YearMap"
  | 4 => .object "BurntOak$Walk"
  | 5 => .object "BurntOak$Odds"
  | 6 => .object "BurntOak$Finder"
  | 7 => .object "BurntOak$Reader"
  | 8 => .array (.object "BurntOak$Tray")
  | 9 => .array (.object "BurntOak$Land")
  | 10 => .array (.object "BurntOak$Folk")
  | _ => .array (.object "BurntOak$Book")
theorem nmX11 : ∀ a, a < 12 → ∀ b, b < 12 → a ≠ b → (TX11 a).2.1 ≠ (TX11 b).2.1 := by decide +kernel
theorem tyX11_ok : ∀ k, k < 12 → parseFieldDescriptor (TX11 k).2.2.1 = some (tyX11 k) := by decide +kernel
abbrev cX11_init : ByteArray := prog_1_method_1_code
def yX11_init : MethodName := ⟨RX11, "<init>", "()V"⟩
abbrev cX11_place : ByteArray := prog_1_method_2_code
def yX11_place : MethodName := ⟨RX11, "place", "(II)I"⟩
abbrev cX11_way : ByteArray := prog_1_method_3_code
def yX11_way : MethodName := ⟨RX11, "way", "(IIIIII)I"⟩
abbrev cX11_mark : ByteArray := prog_1_method_4_code
def yX11_mark : MethodName := ⟨RX11, "mark", "(IIZII)I"⟩
abbrev cX11_ends : ByteArray := prog_1_method_5_code
def yX11_ends : MethodName := ⟨RX11, "ends", "(ZII)I"⟩
abbrev cX11_state : ByteArray := prog_1_method_6_code
def yX11_state : MethodName := ⟨RX11, "state", "(II)I"⟩
abbrev cX11_out : ByteArray := prog_1_method_7_code
def yX11_out : MethodName := ⟨RX11, "out", "(III)I"⟩
abbrev cX11_on : ByteArray := prog_1_method_8_code
def yX11_on : MethodName := ⟨RX11, "on", "(III)I"⟩
abbrev cX11_tongue : ByteArray := prog_1_method_9_code
def yX11_tongue : MethodName := ⟨RX11, "tongue", "()I"⟩
abbrev cX11_means : ByteArray := prog_1_method_10_code
def yX11_means : MethodName := ⟨RX11, "means", "(III)I"⟩
abbrev cX11_walker : ByteArray := prog_1_method_11_code
def yX11_walker : MethodName := ⟨RX11, "walker", "(IIZZI)I"⟩
abbrev cX11_stands : ByteArray := prog_1_method_12_code
def yX11_stands : MethodName := ⟨RX11, "stands", "(IIIIZ)Z"⟩
abbrev cX11_worth : ByteArray := prog_1_method_13_code
def yX11_worth : MethodName := ⟨RX11, "worth", "(IIII)I"⟩
abbrev cX11_feed : ByteArray := prog_1_method_14_code
def yX11_feed : MethodName := ⟨RX11, "feed", "(IIIII)I"⟩
abbrev cX11_telling : ByteArray := prog_1_method_15_code
def yX11_telling : MethodName := ⟨RX11, "telling", "(III)I"⟩
abbrev cX11_fault : ByteArray := prog_1_method_16_code
def yX11_fault : MethodName := ⟨RX11, "fault", "(I)I"⟩
abbrev cX11_sayings : ByteArray := prog_1_method_17_code
def yX11_sayings : MethodName := ⟨RX11, "sayings", "(I)I"⟩
abbrev cX11_leads : ByteArray := prog_1_method_18_code
def yX11_leads : MethodName := ⟨RX11, "leads", "(IIIIII)I"⟩
abbrev cX11_holds : ByteArray := prog_1_method_19_code
def yX11_holds : MethodName := ⟨RX11, "holds", "(IIII)I"⟩
abbrev cX11_end : ByteArray := prog_1_method_20_code
def yX11_end : MethodName := ⟨RX11, "end", "(IIIII)I"⟩
abbrev cX11_right : ByteArray := prog_1_method_21_code
def yX11_right : MethodName := ⟨RX11, "right", "(IIII)Z"⟩
abbrev cX11_odds : ByteArray := prog_1_method_22_code
def yX11_odds : MethodName := ⟨RX11, "odds", "(IIIII)I"⟩
abbrev cX11_parts : ByteArray := prog_1_method_23_code
def yX11_parts : MethodName := ⟨RX11, "parts", "(IIII)I"⟩
abbrev cX11_hangs : ByteArray := prog_1_method_24_code
def yX11_hangs : MethodName := ⟨RX11, "hangs", "(IIIIZ)I"⟩
abbrev cX11_years : ByteArray := prog_1_method_25_code
def yX11_years : MethodName := ⟨RX11, "years", "(IIII)I"⟩
abbrev cX11_two : ByteArray := prog_1_method_26_code
def yX11_two : MethodName := ⟨RX11, "two", "(IIIIIII)I"⟩
abbrev cX11_ask : ByteArray := prog_1_method_27_code
def yX11_ask : MethodName := ⟨RX11, "ask", "(IIIIIIZ)I"⟩
abbrev cX11_lossBehind : ByteArray := prog_1_method_28_code
def yX11_lossBehind : MethodName := ⟨RX11, "lossBehind", "(IIIII)I"⟩
abbrev cX11_shortest : ByteArray := prog_1_method_29_code
def yX11_shortest : MethodName := ⟨RX11, "shortest", "(IIIIII)I"⟩
abbrev cX11_went : ByteArray := prog_1_method_30_code
def yX11_went : MethodName := ⟨RX11, "went", "(IIIII)I"⟩
abbrev cX11_learned : ByteArray := prog_1_method_31_code
def yX11_learned : MethodName := ⟨RX11, "learned", "(II)I"⟩
abbrev cX11_kindsThatFit : ByteArray := prog_1_method_32_code
def yX11_kindsThatFit : MethodName := ⟨RX11, "kindsThatFit", "(III)I"⟩
abbrev cX11_teller : ByteArray := prog_1_method_33_code
def yX11_teller : MethodName := ⟨RX11, "teller", "()I"⟩
abbrev cX11_told : ByteArray := prog_1_method_34_code
def yX11_told : MethodName := ⟨RX11, "told", "(IZ)I"⟩
abbrev cX11_tray : ByteArray := prog_1_method_35_code
def yX11_tray : MethodName := ⟨RX11, "tray", "(III)V"⟩
abbrev cX11_write : ByteArray := prog_1_method_36_code
def yX11_write : MethodName := ⟨RX11, "write", "(IIJ)J"⟩
abbrev cX11_say : ByteArray := prog_1_method_37_code
def yX11_say : MethodName := ⟨RX11, "say", "(III)I"⟩
abbrev cX11_image : ByteArray := prog_1_method_38_code
def yX11_image : MethodName := ⟨RX11, "image", "(I)V"⟩
abbrev cX11_restore : ByteArray := prog_1_method_39_code
def yX11_restore : MethodName := ⟨RX11, "restore", "(I)V"⟩
abbrev cX11_count : ByteArray := prog_1_method_40_code
def yX11_count : MethodName := ⟨RX11, "count", "(I)I"⟩
abbrev cX11_needPlace : ByteArray := prog_1_method_41_code
def yX11_needPlace : MethodName := ⟨RX11, "needPlace", "(I)V"⟩
abbrev cX11_needState : ByteArray := prog_1_method_42_code
def yX11_needState : MethodName := ⟨RX11, "needState", "(I)V"⟩
abbrev cX11_needTongue : ByteArray := prog_1_method_43_code
def yX11_needTongue : MethodName := ⟨RX11, "needTongue", "(I)V"⟩
abbrev cX11_needName : ByteArray := prog_1_method_44_code
def yX11_needName : MethodName := ⟨RX11, "needName", "(I)V"⟩
abbrev cX11_needWalker : ByteArray := prog_1_method_45_code
def yX11_needWalker : MethodName := ⟨RX11, "needWalker", "(I)V"⟩
abbrev cX11_needTelling : ByteArray := prog_1_method_46_code
def yX11_needTelling : MethodName := ⟨RX11, "needTelling", "(I)V"⟩
abbrev cX11_needTray : ByteArray := prog_1_method_47_code
def yX11_needTray : MethodName := ⟨RX11, "needTray", "(I)V"⟩
abbrev cX11_needLaid : ByteArray := prog_1_method_48_code
def yX11_needLaid : MethodName := ⟨RX11, "needLaid", "(I)V"⟩
abbrev cX11_needImage : ByteArray := prog_1_method_49_code
def yX11_needImage : MethodName := ⟨RX11, "needImage", "(I)V"⟩
abbrev cX11_needYear : ByteArray := prog_1_method_50_code
def yX11_needYear : MethodName := ⟨RX11, "needYear", "(I)V"⟩
abbrev cX11_needYears : ByteArray := prog_1_method_51_code
def yX11_needYears : MethodName := ⟨RX11, "needYears", "(II)V"⟩
abbrev cX11_needKinds : ByteArray := prog_1_method_52_code
def yX11_needKinds : MethodName := ⟨RX11, "needKinds", "(I)V"⟩
abbrev cX11_needWalkers : ByteArray := prog_1_method_53_code
def yX11_needWalkers : MethodName := ⟨RX11, "needWalkers", "(I)V"⟩
abbrev cX11_needTeller : ByteArray := prog_1_method_54_code
def yX11_needTeller : MethodName := ⟨RX11, "needTeller", "(I)V"⟩
abbrev cX11_needTold : ByteArray := prog_1_method_55_code
def yX11_needTold : MethodName := ⟨RX11, "needTold", "(IIII)V"⟩
abbrev cX11_setOut : ByteArray := prog_1_method_56_code
def yX11_setOut : MethodName := ⟨RX11, "setOut", "(II)V"⟩
abbrev cX11_isIn : ByteArray := prog_1_method_57_code
def yX11_isIn : MethodName := ⟨RX11, "isIn", "(JI)Z"⟩
abbrev cX11_lowest : ByteArray := prog_1_method_58_code
def yX11_lowest : MethodName := ⟨RX11, "lowest", "(J)I"⟩
abbrev cX11_nthOf : ByteArray := prog_1_method_59_code
def yX11_nthOf : MethodName := ⟨RX11, "nthOf", "(JI)I"⟩
abbrev cX11_wordOf : ByteArray := prog_1_method_60_code
def yX11_wordOf : MethodName := ⟨RX11, "wordOf", "(III)I"⟩
abbrev cX11_listedWord : ByteArray := prog_1_method_61_code
def yX11_listedWord : MethodName := ⟨RX11, "listedWord", "(I)I"⟩
def RX12 : String := "BurntOakModel"
def TX12 : u_T := fun k => match k with
  | 0 => ("BurntOakModel", "told", "[I", true)
  | 1 => ("BurntOakModel", "images", "[I", true)
  | 2 => ("BurntOakModel", "isImage", "[Z", true)
  | 3 => ("BurntOakModel", "thrown", "I", false)
  | 4 => ("BurntOakModel", "laidYear", "I", false)
  | 5 => ("BurntOakModel", "leads", "[J", true)
  | 6 => ("BurntOakModel", "standing", "[J", true)
  | 7 => ("BurntOakModel", "isStanding", "[Z", true)
  | 8 => ("BurntOakModel", "outs", "[I", true)
  | 9 => ("BurntOakModel", "tape", "[I", true)
  | 10 => ("BurntOakModel", "taped", "I", false)
  | 11 => ("BurntOakModel", "size", "I", false)
  | 12 => ("BurntOakModel", "at", "I", false)
  | 13 => ("BurntOakModel", "begin", "I", false)
  | 14 => ("BurntOakModel", "token", "I", false)
  | 15 => ("BurntOakModel", "value", "I", false)
  | 16 => ("BurntOakModel", "bad", "I", false)
  | 17 => ("BurntOakModel", "badPlace", "I", false)
  | 18 => ("BurntOakModel", "faultKind", "I", false)
  | 19 => ("BurntOakModel", "faultPlace", "I", false)
  | 20 => ("BurntOakModel", "fresh", "[I", true)
  | 21 => ("BurntOakModel", "front", "[J", true)
  | 22 => ("BurntOakModel", "after", "[J", true)
  | 23 => ("BurntOakModel", "some", "[J", true)
  | 24 => ("BurntOakModel", "byOnes", "[J", true)
  | 25 => ("BurntOakModel", "byThen", "[J", true)
  | 26 => ("BurntOakModel", "here", "[J", true)
  | 27 => ("BurntOakModel", "there", "[J", true)
  | 28 => ("BurntOakModel", "isEnd", "[Z", true)
  | 29 => ("BurntOakModel", "isOther", "[Z", true)
  | 30 => ("BurntOakModel", "share", "[I", true)
  | 31 => ("BurntOakModel", "then", "[I", true)
  | 32 => ("BurntOakModel", "atPlace", "[I", true)
  | 33 => ("BurntOakModel", "behind", "[J", true)
  | 34 => ("BurntOakModel", "row", "[I", true)
  | 35 => ("BurntOakModel", "goal", "I", false)
  | 36 => ("BurntOakModel", "asked", "I", false)
  | 37 => ("BurntOakModel", "tSort", "[I", true)
  | 38 => ("BurntOakModel", "tMany", "[I", true)
  | _ => ("BurntOakModel", "numbers", "[J", true)
def tyX12 : Nat → FieldType := fun k => match k with
  | 0 => .array .int
  | 1 => .array .int
  | 2 => .array .boolean
  | 3 => .int
  | 4 => .int
  | 5 => .array .long
  | 6 => .array .long
  | 7 => .array .boolean
  | 8 => .array .int
  | 9 => .array .int
  | 10 => .int
  | 11 => .int
  | 12 => .int
  | 13 => .int
  | 14 => .int
  | 15 => .int
  | 16 => .int
  | 17 => .int
  | 18 => .int
  | 19 => .int
  | 20 => .array .int
  | 21 => .array .long
  | 22 => .array .long
  | 23 => .array .long
  | 24 => .array .long
  | 25 => .array .long
  | 26 => .array .long
  | 27 => .array .long
  | 28 => .array .boolean
  | 29 => .array .boolean
  | 30 => .array .int
  | 31 => .array .int
  | 32 => .array .int
  | 33 => .array .long
  | 34 => .array .int
  | 35 => .int
  | 36 => .int
  | 37 => .array .int
  | 38 => .array .int
  | _ => .array .long
theorem nmX12 : ∀ a, a < 40 → ∀ b, b < 40 → a ≠ b → (TX12 a).2.1 ≠ (TX12 b).2.1 := by decide +kernel
theorem tyX12_ok : ∀ k, k < 40 → parseFieldDescriptor (TX12 k).2.2.1 = some (tyX12 k) := by decide +kernel
abbrev cX12_init : ByteArray := prog_14_method_1_code
def yX12_init : MethodName := ⟨RX12, "<init>", "()V"⟩
abbrev cX12_thrown : ByteArray := prog_14_method_2_code
def yX12_thrown : MethodName := ⟨RX12, "thrown", "()I"⟩
abbrev cX12_fails : ByteArray := prog_14_method_3_code
def yX12_fails : MethodName := ⟨RX12, "fails", "(I)I"⟩
abbrev cX12_fell : ByteArray := prog_14_method_4_code
def yX12_fell : MethodName := ⟨RX12, "fell", "(I)Z"⟩
abbrev cX12_within : ByteArray := prog_14_method_5_code
def yX12_within : MethodName := ⟨RX12, "within", "(JJJ)Z"⟩
abbrev cX12_isYear : ByteArray := prog_14_method_6_code
def yX12_isYear : MethodName := ⟨RX12, "isYear", "(I)Z"⟩
abbrev cX12_is : ByteArray := prog_14_method_7_code
def yX12_is : MethodName := ⟨RX12, "is", "(II)Z"⟩
abbrev cX12_isPlace : ByteArray := prog_14_method_8_code
def yX12_isPlace : MethodName := ⟨RX12, "isPlace", "(I)Z"⟩
abbrev cX12_isWalker : ByteArray := prog_14_method_9_code
def yX12_isWalker : MethodName := ⟨RX12, "isWalker", "(I)Z"⟩
abbrev cX12_isTelling : ByteArray := prog_14_method_10_code
def yX12_isTelling : MethodName := ⟨RX12, "isTelling", "(I)Z"⟩
abbrev cX12_isState : ByteArray := prog_14_method_11_code
def yX12_isState : MethodName := ⟨RX12, "isState", "(I)Z"⟩
abbrev cX12_isName : ByteArray := prog_14_method_12_code
def yX12_isName : MethodName := ⟨RX12, "isName", "(I)Z"⟩
abbrev cX12_more : ByteArray := prog_14_method_13_code
def yX12_more : MethodName := ⟨RX12, "more", "(I)I"⟩
abbrev cX12_place : ByteArray := prog_14_method_14_code
def yX12_place : MethodName := ⟨RX12, "place", "(II)I"⟩
abbrev cX12_wayOf : ByteArray := prog_14_method_15_code
def yX12_wayOf : MethodName := ⟨RX12, "wayOf", "(II)I"⟩
abbrev cX12_way : ByteArray := prog_14_method_16_code
def yX12_way : MethodName := ⟨RX12, "way", "(IIIIII)I"⟩
abbrev cX12_mark : ByteArray := prog_14_method_17_code
def yX12_mark : MethodName := ⟨RX12, "mark", "(IIZII)I"⟩
abbrev cX12_ends : ByteArray := prog_14_method_18_code
def yX12_ends : MethodName := ⟨RX12, "ends", "(ZII)I"⟩
abbrev cX12_isThere : ByteArray := prog_14_method_19_code
def yX12_isThere : MethodName := ⟨RX12, "isThere", "(II)Z"⟩
abbrev cX12_endOf : ByteArray := prog_14_method_20_code
def yX12_endOf : MethodName := ⟨RX12, "endOf", "(II)I"⟩
abbrev cX12_placeOf : ByteArray := prog_14_method_21_code
def yX12_placeOf : MethodName := ⟨RX12, "placeOf", "(I)I"⟩
abbrev cX12_alongX : ByteArray := prog_14_method_22_code
def yX12_alongX : MethodName := ⟨RX12, "alongX", "(I)I"⟩
abbrev cX12_alongY : ByteArray := prog_14_method_23_code
def yX12_alongY : MethodName := ⟨RX12, "alongY", "(I)I"⟩
abbrev cX12_state : ByteArray := prog_14_method_24_code
def yX12_state : MethodName := ⟨RX12, "state", "(II)I"⟩
abbrev cX12_isOut : ByteArray := prog_14_method_25_code
def yX12_isOut : MethodName := ⟨RX12, "isOut", "(III)Z"⟩
abbrev cX12_cross : ByteArray := prog_14_method_26_code
def yX12_cross : MethodName := ⟨RX12, "cross", "(II)I"⟩
abbrev cX12_isLessTurned : ByteArray := prog_14_method_27_code
def yX12_isLessTurned : MethodName := ⟨RX12, "isLessTurned", "(III)Z"⟩
abbrev cX12_dots : ByteArray := prog_14_method_28_code
def yX12_dots : MethodName := ⟨RX12, "dots", "(II)J"⟩
abbrev cX12_sizes : ByteArray := prog_14_method_29_code
def yX12_sizes : MethodName := ⟨RX12, "sizes", "(I)J"⟩
abbrev cX12_out : ByteArray := prog_14_method_30_code
def yX12_out : MethodName := ⟨RX12, "out", "(III)I"⟩
abbrev cX12_has : ByteArray := prog_14_method_31_code
def yX12_has : MethodName := ⟨RX12, "has", "([JII)Z"⟩
abbrev cX12_put : ByteArray := prog_14_method_32_code
def yX12_put : MethodName := ⟨RX12, "put", "([JII)V"⟩
abbrev cX12_join : ByteArray := prog_14_method_33_code
def yX12_join : MethodName := ⟨RX12, "join", "([JI[JI)V"⟩
abbrev cX12_empty : ByteArray := prog_14_method_34_code
def yX12_empty : MethodName := ⟨RX12, "empty", "([JI)V"⟩
abbrev cX12_copy : ByteArray := prog_14_method_35_code
def yX12_copy : MethodName := ⟨RX12, "copy", "([JI[JI)V"⟩
abbrev cX12_isNone : ByteArray := prog_14_method_36_code
def yX12_isNone : MethodName := ⟨RX12, "isNone", "([JI)Z"⟩
abbrev cX12_sideAt : ByteArray := prog_14_method_37_code
def yX12_sideAt : MethodName := ⟨RX12, "sideAt", "(IZI)I"⟩
abbrev cX12_lay : ByteArray := prog_14_method_38_code
def yX12_lay : MethodName := ⟨RX12, "lay", "(I)V"⟩
abbrev cX12_layOne : ByteArray := prog_14_method_39_code
def yX12_layOne : MethodName := ⟨RX12, "layOne", "(II)V"⟩
abbrev cX12_sizeOf : ByteArray := prog_14_method_40_code
def yX12_sizeOf : MethodName := ⟨RX12, "sizeOf", "([JI)I"⟩
abbrev cX12_numberOf : ByteArray := prog_14_method_41_code
def yX12_numberOf : MethodName := ⟨RX12, "numberOf", "([JII)I"⟩
abbrev cX12_on : ByteArray := prog_14_method_42_code
def yX12_on : MethodName := ⟨RX12, "on", "(III)I"⟩
abbrev cX12_tongue : ByteArray := prog_14_method_43_code
def yX12_tongue : MethodName := ⟨RX12, "tongue", "()I"⟩
abbrev cX12_means : ByteArray := prog_14_method_44_code
def yX12_means : MethodName := ⟨RX12, "means", "(III)I"⟩
abbrev cX12_walker : ByteArray := prog_14_method_45_code
def yX12_walker : MethodName := ⟨RX12, "walker", "(IIZZI)I"⟩
abbrev cX12_patience : ByteArray := prog_14_method_46_code
def yX12_patience : MethodName := ⟨RX12, "patience", "(I)I"⟩
abbrev cX12_countsPaths : ByteArray := prog_14_method_47_code
def yX12_countsPaths : MethodName := ⟨RX12, "countsPaths", "(I)Z"⟩
abbrev cX12_kindsOf : ByteArray := prog_14_method_48_code
def yX12_kindsOf : MethodName := ⟨RX12, "kindsOf", "(II)I"⟩
abbrev cX12_isMark : ByteArray := prog_14_method_49_code
def yX12_isMark : MethodName := ⟨RX12, "isMark", "(III)Z"⟩
abbrev cX12_standsAt : ByteArray := prog_14_method_50_code
def yX12_standsAt : MethodName := ⟨RX12, "standsAt", "(IIII)Z"⟩
abbrev cX12_isSeenAt : ByteArray := prog_14_method_51_code
def yX12_isSeenAt : MethodName := ⟨RX12, "isSeenAt", "(IIII)Z"⟩
abbrev cX12_areJoined : ByteArray := prog_14_method_52_code
def yX12_areJoined : MethodName := ⟨RX12, "areJoined", "(III)Z"⟩
abbrev cX12_standing : ByteArray := prog_14_method_53_code
def yX12_standing : MethodName := ⟨RX12, "standing", "(II)I"⟩
abbrev cX12_stands : ByteArray := prog_14_method_54_code
def yX12_stands : MethodName := ⟨RX12, "stands", "(IIIIZ)Z"⟩
abbrev cX12_worth : ByteArray := prog_14_method_55_code
def yX12_worth : MethodName := ⟨RX12, "worth", "(IIII)I"⟩
abbrev cX12_feed : ByteArray := prog_14_method_56_code
def yX12_feed : MethodName := ⟨RX12, "feed", "(IIIII)I"⟩
abbrev cX12_see : ByteArray := prog_14_method_57_code
def yX12_see : MethodName := ⟨RX12, "see", "(I)I"⟩
abbrev cX12_isLetter : ByteArray := prog_14_method_58_code
def yX12_isLetter : MethodName := ⟨RX12, "isLetter", "(I)Z"⟩
abbrev cX12_isDigit : ByteArray := prog_14_method_59_code
def yX12_isDigit : MethodName := ⟨RX12, "isDigit", "(I)Z"⟩
abbrev cX12_next : ByteArray := prog_14_method_60_code
def yX12_next : MethodName := ⟨RX12, "next", "()V"⟩
abbrev cX12_wrong : ByteArray := prog_14_method_61_code
def yX12_wrong : MethodName := ⟨RX12, "wrong", "(I)V"⟩
abbrev cX12_isWord : ByteArray := prog_14_method_62_code
def yX12_isWord : MethodName := ⟨RX12, "isWord", "(Ljava/lang/String;)Z"⟩
abbrev cX12_nameNow : ByteArray := prog_14_method_63_code
def yX12_nameNow : MethodName := ⟨RX12, "nameNow", "()I"⟩
abbrev cX12_readName : ByteArray := prog_14_method_64_code
def yX12_readName : MethodName := ⟨RX12, "readName", "()I"⟩
abbrev cX12_readNumber : ByteArray := prog_14_method_65_code
def yX12_readNumber : MethodName := ⟨RX12, "readNumber", "()I"⟩
abbrev cX12_sideNow : ByteArray := prog_14_method_66_code
def yX12_sideNow : MethodName := ⟨RX12, "sideNow", "()I"⟩
abbrev cX12_wordAt : ByteArray := prog_14_method_67_code
def yX12_wordAt : MethodName := ⟨RX12, "wordAt", "(II)I"⟩
abbrev cX12_lays : ByteArray := prog_14_method_68_code
def yX12_lays : MethodName := ⟨RX12, "lays", "(IIII)V"⟩
abbrev cX12_isBegun : ByteArray := prog_14_method_69_code
def yX12_isBegun : MethodName := ⟨RX12, "isBegun", "()Z"⟩
abbrev cX12_readWord : ByteArray := prog_14_method_70_code
def yX12_readWord : MethodName := ⟨RX12, "readWord", "(I)V"⟩
abbrev cX12_readNth : ByteArray := prog_14_method_71_code
def yX12_readNth : MethodName := ⟨RX12, "readNth", "(I)V"⟩
abbrev cX12_readSaying : ByteArray := prog_14_method_72_code
def yX12_readSaying : MethodName := ⟨RX12, "readSaying", "(I)V"⟩
abbrev cX12_keeps : ByteArray := prog_14_method_73_code
def yX12_keeps : MethodName := ⟨RX12, "keeps", "(III)I"⟩
abbrev cX12_telling : ByteArray := prog_14_method_74_code
def yX12_telling : MethodName := ⟨RX12, "telling", "(III)I"⟩
abbrev cX12_fault : ByteArray := prog_14_method_75_code
def yX12_fault : MethodName := ⟨RX12, "fault", "(I)I"⟩
abbrev cX12_sayingsOf : ByteArray := prog_14_method_76_code
def yX12_sayingsOf : MethodName := ⟨RX12, "sayingsOf", "(I)I"⟩
abbrev cX12_goalOf : ByteArray := prog_14_method_77_code
def yX12_goalOf : MethodName := ⟨RX12, "goalOf", "(I)I"⟩
abbrev cX12_sayings : ByteArray := prog_14_method_78_code
def yX12_sayings : MethodName := ⟨RX12, "sayings", "(I)I"⟩
abbrev cX12_goOn : ByteArray := prog_14_method_79_code
def yX12_goOn : MethodName := ⟨RX12, "goOn", "([JI[JI)V"⟩
abbrev cX12_word : ByteArray := prog_14_method_80_code
def yX12_word : MethodName := ⟨RX12, "word", "(IIII[JI[JI)V"⟩
abbrev cX12_sideOf : ByteArray := prog_14_method_81_code
def yX12_sideOf : MethodName := ⟨RX12, "sideOf", "(II)I"⟩
abbrev cX12_onTimes : ByteArray := prog_14_method_82_code
def yX12_onTimes : MethodName := ⟨RX12, "onTimes", "(II[JI[JI)V"⟩
abbrev cX12_until : ByteArray := prog_14_method_83_code
def yX12_until : MethodName := ⟨RX12, "until", "(IIZ[JI[JI)V"⟩
abbrev cX12_isOver : ByteArray := prog_14_method_84_code
def yX12_isOver : MethodName := ⟨RX12, "isOver", "(III)Z"⟩
abbrev cX12_far : ByteArray := prog_14_method_85_code
def yX12_far : MethodName := ⟨RX12, "far", "(II[JI[JI)V"⟩
abbrev cX12_goOnFar : ByteArray := prog_14_method_86_code
def yX12_goOnFar : MethodName := ⟨RX12, "goOnFar", "(II)V"⟩
abbrev cX12_nth : ByteArray := prog_14_method_87_code
def yX12_nth : MethodName := ⟨RX12, "nth", "(IIII[JI[JI)V"⟩
abbrev cX12_says : ByteArray := prog_14_method_88_code
def yX12_says : MethodName := ⟨RX12, "says", "(III)V"⟩
abbrev cX12_goes : ByteArray := prog_14_method_89_code
def yX12_goes : MethodName := ⟨RX12, "goes", "(IIIII)I"⟩
abbrev cX12_placesOf : ByteArray := prog_14_method_90_code
def yX12_placesOf : MethodName := ⟨RX12, "placesOf", "([Z)I"⟩
abbrev cX12_isRight : ByteArray := prog_14_method_91_code
def yX12_isRight : MethodName := ⟨RX12, "isRight", "(IIII)Z"⟩
abbrev cX12_areThere : ByteArray := prog_14_method_92_code
def yX12_areThere : MethodName := ⟨RX12, "areThere", "(III)Z"⟩
abbrev cX12_leads : ByteArray := prog_14_method_93_code
def yX12_leads : MethodName := ⟨RX12, "leads", "(IIIIII)I"⟩
abbrev cX12_holds : ByteArray := prog_14_method_94_code
def yX12_holds : MethodName := ⟨RX12, "holds", "(IIII)I"⟩
abbrev cX12_end : ByteArray := prog_14_method_95_code
def yX12_end : MethodName := ⟨RX12, "end", "(IIIII)I"⟩
abbrev cX12_right : ByteArray := prog_14_method_96_code
def yX12_right : MethodName := ⟨RX12, "right", "(IIII)Z"⟩
abbrev cX12_parted : ByteArray := prog_14_method_97_code
def yX12_parted : MethodName := ⟨RX12, "parted", "(I[J[I)V"⟩
abbrev cX12_oddsOn : ByteArray := prog_14_method_98_code
def yX12_oddsOn : MethodName := ⟨RX12, "oddsOn", "(III)V"⟩
abbrev cX12_shareAt : ByteArray := prog_14_method_99_code
def yX12_shareAt : MethodName := ⟨RX12, "shareAt", "(I)I"⟩
abbrev cX12_oddsFrom : ByteArray := prog_14_method_100_code
def yX12_oddsFrom : MethodName := ⟨RX12, "oddsFrom", "(IIII)V"⟩
abbrev cX12_odds : ByteArray := prog_14_method_101_code
def yX12_odds : MethodName := ⟨RX12, "odds", "(IIIII)I"⟩
abbrev cX12_parts : ByteArray := prog_14_method_102_code
def yX12_parts : MethodName := ⟨RX12, "parts", "(IIII)I"⟩
abbrev cX12_hangs : ByteArray := prog_14_method_103_code
def yX12_hangs : MethodName := ⟨RX12, "hangs", "(IIIIZ)I"⟩
abbrev cX12_years : ByteArray := prog_14_method_104_code
def yX12_years : MethodName := ⟨RX12, "years", "(IIII)I"⟩
abbrev cX12_two : ByteArray := prog_14_method_105_code
def yX12_two : MethodName := ⟨RX12, "two", "(IIIIIII)I"⟩
abbrev cX12_ask : ByteArray := prog_14_method_106_code
def yX12_ask : MethodName := ⟨RX12, "ask", "(IIIIIIZ)I"⟩
abbrev cX12_tries : ByteArray := prog_14_method_107_code
def yX12_tries : MethodName := ⟨RX12, "tries", "(II)Z"⟩
abbrev cX12_areAll : ByteArray := prog_14_method_108_code
def yX12_areAll : MethodName := ⟨RX12, "areAll", "(I)Z"⟩
abbrev cX12_seek : ByteArray := prog_14_method_109_code
def yX12_seek : MethodName := ⟨RX12, "seek", "(II)Z"⟩
abbrev cX12_shortest : ByteArray := prog_14_method_110_code
def yX12_shortest : MethodName := ⟨RX12, "shortest", "(IIIIII)I"⟩
abbrev cX12_went : ByteArray := prog_14_method_111_code
def yX12_went : MethodName := ⟨RX12, "went", "(IIIII)I"⟩
abbrev cX12_isAsWent : ByteArray := prog_14_method_112_code
def yX12_isAsWent : MethodName := ⟨RX12, "isAsWent", "(I)Z"⟩
abbrev cX12_learned : ByteArray := prog_14_method_113_code
def yX12_learned : MethodName := ⟨RX12, "learned", "(II)I"⟩
abbrev cX12_records : ByteArray := prog_14_method_114_code
def yX12_records : MethodName := ⟨RX12, "records", "(IZ)I"⟩
abbrev cX12_teller : ByteArray := prog_14_method_115_code
def yX12_teller : MethodName := ⟨RX12, "teller", "()I"⟩
abbrev cX12_told : ByteArray := prog_14_method_116_code
def yX12_told : MethodName := ⟨RX12, "told", "(IZ)I"⟩
abbrev cX12_isTray : ByteArray := prog_14_method_117_code
def yX12_isTray : MethodName := ⟨RX12, "isTray", "(I)Z"⟩
abbrev cX12_tray : ByteArray := prog_14_method_118_code
def yX12_tray : MethodName := ⟨RX12, "tray", "(III)V"⟩
abbrev cX12_write : ByteArray := prog_14_method_119_code
def yX12_write : MethodName := ⟨RX12, "write", "(IIJ)J"⟩
abbrev cX12_say : ByteArray := prog_14_method_120_code
def yX12_say : MethodName := ⟨RX12, "say", "(III)I"⟩
abbrev cX12_image : ByteArray := prog_14_method_121_code
def yX12_image : MethodName := ⟨RX12, "image", "(I)V"⟩
abbrev cX12_restore : ByteArray := prog_14_method_122_code
def yX12_restore : MethodName := ⟨RX12, "restore", "(I)V"⟩
abbrev cX12_count : ByteArray := prog_14_method_123_code
def yX12_count : MethodName := ⟨RX12, "count", "(I)I"⟩
def RL : String := "BurntOakLaw"
abbrev cL_place : ByteArray := method_3_code
def yL_place : MethodName := ⟨RL, "place", "(LBurntOak;II[J)I"⟩
abbrev cL_way : ByteArray := method_4_code
def yL_way : MethodName := ⟨RL, "way", "(LBurntOak;IIIIII[J)I"⟩
abbrev cL_mark : ByteArray := method_5_code
def yL_mark : MethodName := ⟨RL, "mark", "(LBurntOak;IIZII[J)I"⟩
abbrev cL_ends : ByteArray := method_6_code
def yL_ends : MethodName := ⟨RL, "ends", "(LBurntOak;ZII[J)I"⟩
abbrev cL_state : ByteArray := method_7_code
def yL_state : MethodName := ⟨RL, "state", "(LBurntOak;II[J)I"⟩
abbrev cL_out : ByteArray := method_8_code
def yL_out : MethodName := ⟨RL, "out", "(LBurntOak;III[J)I"⟩
abbrev cL_on : ByteArray := method_9_code
def yL_on : MethodName := ⟨RL, "on", "(LBurntOak;III[J)I"⟩
abbrev cL_means : ByteArray := method_10_code
def yL_means : MethodName := ⟨RL, "means", "(LBurntOak;III[J)I"⟩
abbrev cL_walker : ByteArray := method_11_code
def yL_walker : MethodName := ⟨RL, "walker", "(LBurntOak;IIZZI[J)I"⟩
abbrev cL_stands : ByteArray := method_12_code
def yL_stands : MethodName := ⟨RL, "stands", "(LBurntOak;IIIIZ[J)I"⟩
abbrev cL_worth : ByteArray := method_13_code
def yL_worth : MethodName := ⟨RL, "worth", "(LBurntOak;IIII[J)I"⟩
abbrev cL_telling : ByteArray := method_14_code
def yL_telling : MethodName := ⟨RL, "telling", "(LBurntOak;III[J)I"⟩
abbrev cL_sayings : ByteArray := method_15_code
def yL_sayings : MethodName := ⟨RL, "sayings", "(LBurntOak;I[J)I"⟩
abbrev cL_leads : ByteArray := method_16_code
def yL_leads : MethodName := ⟨RL, "leads", "(LBurntOak;IIIIII[J)I"⟩
abbrev cL_holds : ByteArray := method_17_code
def yL_holds : MethodName := ⟨RL, "holds", "(LBurntOak;IIII[J)I"⟩
abbrev cL_end : ByteArray := method_18_code
def yL_end : MethodName := ⟨RL, "end", "(LBurntOak;IIIII[J)I"⟩
abbrev cL_right : ByteArray := method_19_code
def yL_right : MethodName := ⟨RL, "right", "(LBurntOak;IIII[J)I"⟩
abbrev cL_odds : ByteArray := method_20_code
def yL_odds : MethodName := ⟨RL, "odds", "(LBurntOak;IIIII[J)I"⟩
abbrev cL_parts : ByteArray := method_21_code
def yL_parts : MethodName := ⟨RL, "parts", "(LBurntOak;IIII[J)I"⟩
abbrev cL_hangs : ByteArray := method_22_code
def yL_hangs : MethodName := ⟨RL, "hangs", "(LBurntOak;IIIIZ[J)I"⟩
abbrev cL_years : ByteArray := method_23_code
def yL_years : MethodName := ⟨RL, "years", "(LBurntOak;IIII[J)I"⟩
abbrev cL_two : ByteArray := method_24_code
def yL_two : MethodName := ⟨RL, "two", "(LBurntOak;IIIIIII[J)I"⟩
abbrev cL_ask : ByteArray := method_25_code
def yL_ask : MethodName := ⟨RL, "ask", "(LBurntOak;IIIIIIZ[J)I"⟩
abbrev cL_shortest : ByteArray := method_26_code
def yL_shortest : MethodName := ⟨RL, "shortest", "(LBurntOak;IIIIII[J)I"⟩
abbrev cL_went : ByteArray := method_27_code
def yL_went : MethodName := ⟨RL, "went", "(LBurntOak;IIIII[J)I"⟩
abbrev cL_learned : ByteArray := method_28_code
def yL_learned : MethodName := ⟨RL, "learned", "(LBurntOak;II[J)I"⟩
abbrev cL_told : ByteArray := method_29_code
def yL_told : MethodName := ⟨RL, "told", "(LBurntOak;IZ[J)I"⟩
abbrev cL_tray : ByteArray := method_30_code
def yL_tray : MethodName := ⟨RL, "tray", "(LBurntOak;III)I"⟩
abbrev cL_write : ByteArray := method_31_code
def yL_write : MethodName := ⟨RL, "write", "(LBurntOak;IIJ[J)I"⟩
abbrev cL_say : ByteArray := method_32_code
def yL_say : MethodName := ⟨RL, "say", "(LBurntOak;III[J)I"⟩
abbrev cL_image : ByteArray := method_33_code
def yL_image : MethodName := ⟨RL, "image", "(LBurntOak;I)I"⟩
abbrev cL_restore : ByteArray := method_34_code
def yL_restore : MethodName := ⟨RL, "restore", "(LBurntOak;I)I"⟩
abbrev cL_law : ByteArray := code
def yL_law : MethodName := ⟨RL, "law", "([I)Z"⟩
end
section
/-! AN ABSTRACT MACHINE over pure states: WP, the least predicate closed under F, one case an instruction. Soundness: the next part. -/
abbrev Hp : Type := Nat → Option va_E
abbrev Lv : Type := List (Option Value)
abbrev Ou : Type := Option Value ⊕ String
abbrev Mth : Type := MethodName × ByteArray × Nat × Option FieldType × Nat × List (Nat × Nat × Nat × Nat)
def my (M : Mth) : MethodName := M.1
def mb (M : Mth) : ByteArray := M.2.1
def ml (M : Mth) : Nat := M.2.2.1
def mr (M : Mth) : Option FieldType := M.2.2.2.1
def mo (M : Mth) : Nat := M.2.2.2.2.1
def mh (M : Mth) : List (Nat × Nat × Nat × Nat) := M.2.2.2.2.2
def clsL : List vw_C := [(RX0, TX0, 11), (RX1, TX1, 11), (RX2, TX2, 8), (RX3, TX3, 17), (RX4, TX4, 8), (RX5, TX5, 14), (RX6, TX6, 1), (RX7, TX7, 11), (RX8, TX8, 4), (RX9, TX9, 10), (RX10, TX10, 12), (RX11, TX11, 12), (RX12, TX12, 40)]
def cn (k : Nat) : String := match k with
  | 0 => RX0 | 1 => RX1 | 2 => RX2 | 3 => RX3 | 4 => RX4 | 5 => RX5 | 6 => RX6 | 7 => RX7 | 8 => RX8 | 9 => RX9 | 10 => RX10 | 11 => RX11 | 12 => RX12 | 13 => RL
  | 14 => "java/util/Arrays" | 15 => "java/lang/Long" | 16 => "java/lang/Integer" | _ => "java/lang/String"
def tblG : List Cond := lw_tbl.filter goodWord
def hset (h : Hp) (a : Nat) (e : va_E) : Hp := fun b => if b = a then some e else h b
theorem hset_s (h : Hp) (a : Nat) (e : va_E) : hset h a e a = some e := by simp [hset]
theorem hset_n (h : Hp) {a b : Nat} (e : va_E) (n : b ≠ a) : hset h a e b = h b := by simp [hset, n]
/-- locals: a store at i -/
def stl (lv : Lv) (i : Nat) (v : Value) : Lv :=
  let l1 := match i with
    | 0 => lv
    | j + 1 => match lv[j]? with
      | some (some w) => if w.category = 2 then lv.set j none else lv
      | _ => lv
  let l2 := l1.set i (some v)
  if v.category = 2 then l2.set (i + 1) none else l2
def ldl (lv : Lv) (i : Nat) : Option Value := (lv[i]?).join
def isRf (v : Value) : Bool := match v with | .ref _ => true | .null => true | _ => false
/-- what a condition says of two ints -/
def cdI (cd : ClassFile.Cond) (x y : Int32) : Bool := match cd with
  | .eq => decide (x = y) | .ne => decide (¬ x = y) | .lt => decide (x < y) | .ge => decide (y ≤ x) | .gt => decide (y < x) | .le => decide (x ≤ y)
def tgt (pc : Nat) (off : Int) : Nat := ((pc : Int) + off).toNat
/-- an instruction that touches the frame alone: the next pc, locals, stack -/
def sx (ig : Instr) (len pc : Nat) (lv : Lv) (st : List Value) : Option (Nat × Lv × List Value) :=
  match ig, len, st with
  | .iconst n, 1, st => some (pc + 1, lv, .int (Int32.ofInt n) :: st)
  | .bipush n, 2, st => some (pc + 2, lv, .int (Int8.ofInt n).toInt32 :: st)
  | .sipush n, 3, st => some (pc + 3, lv, .int (Int16.ofInt n).toInt32 :: st)
  | .lconst n, 1, st => some (pc + 1, lv, .long (Int64.ofNat (n : Nat)) :: st)
  | .iload_n k, 1, st => match ldl lv (k : Nat) with | some (.int x) => some (pc + 1, lv, .int x :: st) | _ => none
  | .iload i, 2, st => match ldl lv i with | some (.int x) => some (pc + 2, lv, .int x :: st) | _ => none
  | .lload_n k, 1, st => match ldl lv (k : Nat) with | some (.long x) => some (pc + 1, lv, .long x :: st) | _ => none
  | .lload i, 2, st => match ldl lv i with | some (.long x) => some (pc + 2, lv, .long x :: st) | _ => none
  | .aload_n k, 1, st => match ldl lv (k : Nat) with | some (.ref x) => some (pc + 1, lv, .ref x :: st) | _ => none
  | .aload i, 2, st => match ldl lv i with | some (.ref x) => some (pc + 2, lv, .ref x :: st) | _ => none
  | .istore_n k, 1, .int x :: st => if (k : Nat) < lv.length then some (pc + 1, stl lv (k : Nat) (.int x), st) else none
  | .istore i, 2, .int x :: st => if i < lv.length then some (pc + 2, stl lv i (.int x), st) else none
  | .lstore_n k, 1, .long x :: st => if (k : Nat) + 1 < lv.length then some (pc + 1, stl lv (k : Nat) (.long x), st) else none
  | .lstore i, 2, .long x :: st => if i + 1 < lv.length then some (pc + 2, stl lv i (.long x), st) else none
  | .astore_n k, 1, .ref x :: st => if (k : Nat) < lv.length then some (pc + 1, stl lv (k : Nat) (.ref x), st) else none
  | .astore i, 2, .ref x :: st => if i < lv.length then some (pc + 2, stl lv i (.ref x), st) else none
  | .iinc i n, 3, st => match ldl lv i with | some (.int x) => some (pc + 3, stl lv i (.int (x + Int32.ofInt n)), st) | _ => none
  | .iadd, 1, .int y :: .int x :: st => some (pc + 1, lv, .int (x + y) :: st)
  | .isub, 1, .int y :: .int x :: st => some (pc + 1, lv, .int (x - y) :: st)
  | .imul, 1, .int y :: .int x :: st => some (pc + 1, lv, .int (x * y) :: st)
  | .iand, 1, .int y :: .int x :: st => some (pc + 1, lv, .int (x &&& y) :: st)
  | .ior, 1, .int y :: .int x :: st => some (pc + 1, lv, .int (x ||| y) :: st)
  | .ixor, 1, .int y :: .int x :: st => some (pc + 1, lv, .int (x ^^^ y) :: st)
  | .ineg, 1, .int x :: st => some (pc + 1, lv, .int (-x) :: st)
  | .ladd, 1, .long y :: .long x :: st => some (pc + 1, lv, .long (x + y) :: st)
  | .lsub, 1, .long y :: .long x :: st => some (pc + 1, lv, .long (x - y) :: st)
  | .lmul, 1, .long y :: .long x :: st => some (pc + 1, lv, .long (x * y) :: st)
  | .land, 1, .long y :: .long x :: st => some (pc + 1, lv, .long (x &&& y) :: st)
  | .lor, 1, .long y :: .long x :: st => some (pc + 1, lv, .long (x ||| y) :: st)
  | .lxor, 1, .long y :: .long x :: st => some (pc + 1, lv, .long (x ^^^ y) :: st)
  | .lneg, 1, .long x :: st => some (pc + 1, lv, .long (-x) :: st)
  | .ishl, 1, .int y :: .int x :: st => some (pc + 1, lv, .int (x <<< (y &&& 31)) :: st)
  | .ishr, 1, .int y :: .int x :: st => some (pc + 1, lv, .int (x >>> (y &&& 31)) :: st)
  | .iushr, 1, .int y :: .int x :: st => some (pc + 1, lv, .int (x.toUInt32 >>> (y.toUInt32 &&& Int32.toUInt32 31)).toInt32 :: st)
  | .lshl, 1, .int y :: .long x :: st => some (pc + 1, lv, .long (x <<< (y.toInt64 &&& 63)) :: st)
  | .lshr, 1, .int y :: .long x :: st => some (pc + 1, lv, .long (x >>> (y.toInt64 &&& 63)) :: st)
  | .lushr, 1, .int y :: .long x :: st => some (pc + 1, lv, .long (x.toUInt64 >>> (y.toInt64.toUInt64 &&& Int64.toUInt64 63)).toInt64 :: st)
  | .i2l, 1, .int x :: st => some (pc + 1, lv, .long x.toInt64 :: st)
  | .l2i, 1, .long x :: st => some (pc + 1, lv, .int x.toInt32 :: st)
  | .i2b, 1, .int x :: st => some (pc + 1, lv, .int x.toInt8.toInt32 :: st)
  | .i2s, 1, .int x :: st => some (pc + 1, lv, .int x.toInt16.toInt32 :: st)
  | .lcmp, 1, .long y :: .long x :: st => some (pc + 1, lv, .int (lg_cmp x y) :: st)
  | .dup, 1, v :: st => if v.category = 1 then some (pc + 1, lv, v :: v :: st) else none
  | .pop, 1, v :: st => if v.category = 1 then some (pc + 1, lv, st) else none
  | .dup_x1, 1, v :: w :: st => if v.category = 1 ∧ w.category = 1 then some (pc + 1, lv, v :: w :: v :: st) else none
  | .dup2, 1, v :: w :: st => if v.category = 1 ∧ w.category = 1 then some (pc + 1, lv, v :: w :: v :: w :: st) else none
  | .goto off, 3, st => if 0 ≤ (pc : Int) + off then some (tgt pc off, lv, st) else none
  | .ifCond cd off, 3, .int x :: st => if 0 ≤ (pc : Int) + off then some (if cdI cd x 0 then tgt pc off else pc + 3, lv, st) else none
  | .if_icmp cd off, 3, .int y :: .int x :: st => if 0 ≤ (pc : Int) + off then some (if cdI cd x y then tgt pc off else pc + 3, lv, st) else none
  | .ifnull off, 3, .ref _ :: st => some (pc + 3, lv, st)
  | .ifnull off, 3, .null :: st => if 0 ≤ (pc : Int) + off then some (tgt pc off, lv, st) else none
  | .ifnonnull off, 3, .ref _ :: st => if 0 ≤ (pc : Int) + off then some (tgt pc off, lv, st) else none
  | .ifnonnull off, 3, .null :: st => some (pc + 3, lv, st)
  | _, _, _ => none
/-- links: what the tables say, as the kit's rows ask for it -/
def FLg (own idx ci k : Nat) : Prop := ∃ (C : String) (T : u_T) (N : Nat), clsL[ci]? = some (C, T, N) ∧ k < N ∧ (∀ w ∈ u_ws C T N, w ∈ tblG) ∧ Cond.fieldLink (cn own) idx (T k).1 (T k).2.1 (T k).2.2.1 ∈ tblG
def FLp (own idx ci k : Nat) (fin : Bool) (ty : FieldType) : Prop := ∃ (C : String) (T : u_T) (N : Nat) (ty0 : Nat → FieldType), clsL[ci]? = some (C, T, N) ∧ k < N ∧ (∀ w ∈ u_ws C T N, w ∈ tblG) ∧ Cond.fieldLink (cn own) idx (T k).1 (T k).2.1 (T k).2.2.1 ∈ tblG ∧ (∀ k, k < N → parseFieldDescriptor (T k).2.2.1 = some (ty0 k)) ∧ (∀ a, a < N → ∀ b, b < N → a ≠ b → (T a).2.1 ≠ (T b).2.1) ∧ (T k).2.2.2 = fin ∧ parseFieldDescriptor (T k).2.2.1 = some ty ∧ (fin = true → (T k).1 = cn own)
def CLn (own idx ci : Nat) (fs : List Value) : Prop := ∃ (C : String) (T : u_T) (N : Nat) (ty : Nat → FieldType), clsL[ci]? = some (C, T, N) ∧ (∀ w ∈ u_ws C T N, w ∈ tblG) ∧ (∀ k, k < N → parseFieldDescriptor (T k).2.2.1 = some (ty k)) ∧ Cond.classLink (cn own) idx C ∈ tblG ∧ Cond.instantiable C N ∈ tblG ∧ Cond.initialized C ∈ tblG ∧ (∀ j, j < N → defaultValue (ty j) = vp_V fs j) ∧ fs.length = N
/-- a method of ours: its class, its word -/
def mw (M : Mth) : Cond := match mh M with
  | [] => Cond.code (my M) (mb M) (ml M) (mr M)
  | h :: t => Cond.codeWith (my M) (mb M) (ml M) (mr M) (h :: t)
def MOk (M : Mth) (n : Nat) : Prop := (my M).cls = cn (mo M) ∧ plainName (my M).cls = true ∧ ((my M).cls ≠ "java/lang/invoke/MethodHandle" ∧ (my M).cls ≠ "java/lang/invoke/VarHandle") ∧ (parseMethodDescriptor (my M).desc).map (fun d => d.parameters.length) = some n ∧ mw M ∈ tblG ∧ Cond.initialized (my M).cls ∈ tblG ∧ ml M ≤ 60
/-- words that aren't good ones, kept by themselves -/
def exL : List Cond := tables_1.filter (fun w => match w with | .methodLinkNest _ _ _ _ => true | .castable _ _ => true | .arrayOver (.object _) => true | _ => false)
def hostN : String := "BurntOak"
/-- how a call of M is linked: 0 static, 1 virtual, 2 <init> -/
def MLk (own idx : Nat) (M : Mth) (kind n : Nat) : Prop := MOk M n ∧ (Cond.methodLink (cn own) idx (my M) ∈ tblG ∨ (Cond.methodLinkNest (cn own) idx (my M) hostN ∈ exL ∧ mh M = [])) ∧
  ((kind = 0 ∧ Cond.static (my M) ∈ tblG) ∨ (kind = 1 ∧ Cond.instanceMethod (my M) ∈ tblG ∧ Cond.selects (my M).cls (my M) (my M) ∈ tblG ∧ mh M = []) ∨ (kind = 2 ∧ (my M).name = "<init>" ∧ Cond.instanceMethod (my M) ∈ tblG ∧ mh M = [] ∧ mr M = none))
/-- the array classes, by their types -/
def tyN (k : Nat) : FieldType := match k with
  | 0 => .int | 1 => .long | 2 => .boolean | 3 => .byte | 4 => .object RX9 | 5 => .object RX3 | 6 => .object RX2 | 7 => .object RX0 | _ => .object RX6
/-- the constant texts: owner, number in its pool, text; their signs -/
def strT : List (Nat × Nat × String) := [(5, 74, "oak   farm  bridgeschoolpond  churchinn   gate  stone mill  well  cross on    until past  far   see   over  loose back  left  right or    not   "), (12, 274, "oak"), (12, 280, "farm"), (12, 282, "bridge"), (12, 284, "school"), (12, 286, "pond"), (12, 288, "church"), (12, 290, "inn"), (12, 292, "gate"), (12, 294, "stone"), (12, 296, "mill"), (12, 298, "well"), (12, 300, "cross"), (12, 310, "left"), (12, 312, "right"), (12, 317, "on"), (12, 319, "past"), (12, 321, "far"), (12, 323, "see"), (12, 324, "over"), (12, 326, "loose"), (12, 328, "back"), (12, 344, "until"), (12, 352, "not"), (12, 357, "or")]
def strB : List (List Nat) := [[111, 97, 107, 32, 32, 32, 102, 97, 114, 109, 32, 32, 98, 114, 105, 100, 103, 101, 115, 99, 104, 111, 111, 108, 112, 111, 110, 100, 32, 32, 99, 104, 117, 114, 99, 104, 105, 110, 110, 32, 32, 32, 103, 97, 116, 101, 32, 32, 115, 116, 111, 110, 101, 32, 109, 105, 108, 108, 32, 32, 119, 101, 108, 108, 32, 32, 99, 114, 111, 115, 115, 32, 111, 110, 32, 32, 32, 32, 117, 110, 116, 105, 108, 32, 112, 97, 115, 116, 32, 32, 102, 97, 114, 32, 32, 32, 115, 101, 101, 32, 32, 32, 111, 118, 101, 114, 32, 32, 108, 111, 111, 115, 101, 32, 98, 97, 99, 107, 32, 32, 108, 101, 102, 116, 32, 32, 114, 105, 103, 104, 116, 32, 111, 114, 32, 32, 32, 32, 110, 111, 116, 32, 32, 32], [111, 97, 107], [102, 97, 114, 109], [98, 114, 105, 100, 103, 101], [115, 99, 104, 111, 111, 108], [112, 111, 110, 100], [99, 104, 117, 114, 99, 104], [105, 110, 110], [103, 97, 116, 101], [115, 116, 111, 110, 101], [109, 105, 108, 108], [119, 101, 108, 108], [99, 114, 111, 115, 115], [108, 101, 102, 116], [114, 105, 103, 104, 116], [111, 110], [112, 97, 115, 116], [102, 97, 114], [115, 101, 101], [111, 118, 101, 114], [108, 111, 111, 115, 101], [98, 97, 99, 107], [117, 110, 116, 105, 108], [110, 111, 116], [111, 114]]
def sln (j : Nat) : Nat := (strB.getD j []).length
def sch (j k : Nat) : Nat := (strB.getD j []).getD k 0
def yLen : MethodName := ⟨"java/lang/String", "length", "()I"⟩
def yChr : MethodName := ⟨"java/lang/String", "charAt", "(I)C"⟩
abbrev Cd : Type := Mth × Nat × (Nat × Lv × List Value × Hp × Nat × Nat) × (Ou → Hp → Prop)
section AM
-- ar: the array classes' numbers (tyN); ro: int arrays that are only read; sa: the constant texts' addresses
variable (ar : Nat → ClassId) (ro : Nat → Option (Nat × (Nat → Int32))) (sa : Nat → Nat)
abbrev aI (n : Nat) (f : Nat → Int32) : va_E := .inl (ar 0, n, .inl f)
/-- heap reads and writes -/
def am_h (P : Cd → Prop) (M : Mth) (d : Nat) (ig : Instr) (len pc : Nat) (lv : Lv) (st : List Value) (h : Hp) (kc ks : Nat) (Φ : Ou → Hp → Prop) : Prop :=
  match ig, len, st with
  | .getfield i, 3, .ref a :: st => ∃ (ci k : Nat) (fs : List Value) (v : Value), FLg (mo M) i ci k ∧ h a = some (.inr (ci, fs)) ∧ fs[k]? = some v ∧ P (M, d, (pc + 3, lv, v :: st, h, kc, ks), Φ)
  | .putfield i, 3, v :: .ref a :: st => ∃ (ci k : Nat) (fs : List Value) (fin : Bool) (ty : FieldType), FLp (mo M) i ci k fin ty ∧ h a = some (.inr (ci, fs)) ∧ k < fs.length ∧ narrow ty v = v ∧ fits ty v = true ∧ (fin = true → (my M).name = "<init>") ∧ P (M, d, (pc + 3, lv, st, hset h a (.inr (ci, fs.set k v)), kc, ks), Φ)
  | .iaload, 1, .int i :: .ref a :: st => (∃ (n : Nat) (f : Nat → Int32), h a = some (.inl (ar 0, n, .inl f)) ∧ vp_in i n ∧ P (M, d, (pc + 1, lv, .int (f i.toNatClampNeg) :: st, h, kc, ks), Φ)) ∨ (∃ (n : Nat) (f : Nat → Int32), ro a = some (n, f) ∧ vp_in i n ∧ P (M, d, (pc + 1, lv, .int (f i.toNatClampNeg) :: st, h, kc, ks), Φ))
  | .laload, 1, .int i :: .ref a :: st => ∃ (n : Nat) (f : Nat → Int64), h a = some (.inl (ar 1, n, .inr (.inl f))) ∧ vp_in i n ∧ P (M, d, (pc + 1, lv, .long (f i.toNatClampNeg) :: st, h, kc, ks), Φ)
  | .baload, 1, .int i :: .ref a :: st => ∃ (t n : Nat) (f : Nat → Int32), (t = 2 ∨ t = 3) ∧ h a = some (.inl (ar t, n, .inl f)) ∧ vp_in i n ∧ P (M, d, (pc + 1, lv, .int (f i.toNatClampNeg) :: st, h, kc, ks), Φ)
  | .aaload, 1, .int i :: .ref a :: st => ∃ (t n : Nat) (f : Nat → Option Nat), 4 ≤ t ∧ t ≤ 8 ∧ h a = some (.inl (ar t, n, .inr (.inr (.inr (.inr f))))) ∧ vp_in i n ∧ P (M, d, (pc + 1, lv, va_rf (f i.toNatClampNeg) :: st, h, kc, ks), Φ)
  | .iastore, 1, .int x :: .int i :: .ref a :: st => ∃ (n : Nat) (f : Nat → Int32), h a = some (.inl (ar 0, n, .inl f)) ∧ vp_in i n ∧ P (M, d, (pc + 1, lv, st, hset h a (.inl (ar 0, n, .inl (upd f i.toNatClampNeg x))), kc, ks), Φ)
  | .lastore, 1, .long x :: .int i :: .ref a :: st => ∃ (n : Nat) (f : Nat → Int64), h a = some (.inl (ar 1, n, .inr (.inl f))) ∧ vp_in i n ∧ P (M, d, (pc + 1, lv, st, hset h a (.inl (ar 1, n, .inr (.inl (vp_updL f i.toNatClampNeg x)))), kc, ks), Φ)
  | .bastore, 1, .int x :: .int i :: .ref a :: st => ∃ (t n : Nat) (f : Nat → Int32), (t = 2 ∨ t = 3) ∧ h a = some (.inl (ar t, n, .inl f)) ∧ vp_in i n ∧ P (M, d, (pc + 1, lv, st, hset h a (.inl (ar t, n, .inl (upd f i.toNatClampNeg (vp_nar (tyN t) x)))), kc, ks), Φ)
  | .aastore, 1, .ref v :: .int i :: .ref a :: st => ∃ (t n ci : Nat) (f : Nat → Option Nat) (vs : List Value) (r : vw_C), 4 ≤ t ∧ t ≤ 8 ∧ h a = some (.inl (ar t, n, .inr (.inr (.inr (.inr f))))) ∧ h v = some (.inr (ci, vs)) ∧ clsL[ci]? = some r ∧ tyN t = .object r.1 ∧ vp_in i n ∧ P (M, d, (pc + 1, lv, st, hset h a (.inl (ar t, n, .inr (.inr (.inr (.inr (va_up f i.toNatClampNeg (some v))))))), kc, ks), Φ)
  | .arraylength, 1, .ref a :: st => (∃ (t : Nat) (x : vp_A), t ≤ 8 ∧ h a = some (.inl (ar t, x)) ∧ P (M, d, (pc + 1, lv, .int (Int32.ofNat x.1) :: st, h, kc, ks), Φ)) ∨ (∃ (n : Nat) (f : Nat → Int32), ro a = some (n, f) ∧ P (M, d, (pc + 1, lv, .int (Int32.ofNat n) :: st, h, kc, ks), Φ))
  | .new i, 3, st => ∃ (ci : Nat) (fs : List Value), CLn (mo M) i ci fs ∧ 1 ≤ kc ∧ fs.length ≤ ks ∧ ∀ q : Nat, h q = none → P (M, d, (pc + 3, lv, .ref q :: st, hset h q (.inr (ci, fs)), kc - 1, ks - fs.length), Φ)
  | .newarray .int, 2, .int n :: st => ¬ n < 0 ∧ n.toNatClampNeg ≤ 10000 ∧ 1 ≤ kc ∧ n.toNatClampNeg ≤ ks ∧ ∀ q : Nat, h q = none → P (M, d, (pc + 2, lv, .ref q :: st, hset h q (.inl (ar 0, n.toNatClampNeg, .inl (fun _ => 0))), kc - 1, ks - n.toNatClampNeg), Φ)
  | .newarray .long, 2, .int n :: st => ¬ n < 0 ∧ n.toNatClampNeg ≤ 10000 ∧ 1 ≤ kc ∧ n.toNatClampNeg ≤ ks ∧ ∀ q : Nat, h q = none → P (M, d, (pc + 2, lv, .ref q :: st, hset h q (.inl (ar 1, n.toNatClampNeg, .inr (.inl (fun _ => 0)))), kc - 1, ks - n.toNatClampNeg), Φ)
  | .newarray .boolean, 2, .int n :: st => ¬ n < 0 ∧ n.toNatClampNeg ≤ 10000 ∧ 1 ≤ kc ∧ n.toNatClampNeg ≤ ks ∧ ∀ q : Nat, h q = none → P (M, d, (pc + 2, lv, .ref q :: st, hset h q (.inl (ar 2, n.toNatClampNeg, .inl (fun _ => 0))), kc - 1, ks - n.toNatClampNeg), Φ)
  | .newarray .byte, 2, .int n :: st => ¬ n < 0 ∧ n.toNatClampNeg ≤ 10000 ∧ 1 ≤ kc ∧ n.toNatClampNeg ≤ ks ∧ ∀ q : Nat, h q = none → P (M, d, (pc + 2, lv, .ref q :: st, hset h q (.inl (ar 3, n.toNatClampNeg, .inl (fun _ => 0))), kc - 1, ks - n.toNatClampNeg), Φ)
  | .anewarray i, 3, .int n :: st => ∃ (t : Nat) (C : String), 4 ≤ t ∧ t ≤ 8 ∧ tyN t = .object C ∧ Cond.classLink (cn (mo M)) i C ∈ tblG ∧ Cond.arrayOver (.object C) ∈ exL ∧ ¬ n < 0 ∧ n.toNatClampNeg ≤ 10000 ∧ 1 ≤ kc ∧ n.toNatClampNeg ≤ ks ∧ ∀ q : Nat, h q = none → P (M, d, (pc + 3, lv, .ref q :: st, hset h q (.inl (ar t, n.toNatClampNeg, .inr (.inr (.inr (.inr (fun _ => none)))))), kc - 1, ks - n.toNatClampNeg), Φ)
  | _, _, _ => False
/-- division; constants; switches -/
def am_d (P : Cd → Prop) (M : Mth) (d : Nat) (ig : Instr) (len pc : Nat) (lv : Lv) (st : List Value) (h : Hp) (kc ks : Nat) (Φ : Ou → Hp → Prop) : Prop :=
  match ig, len, st with
  | .idiv, 1, .int y :: .int x :: st => ¬ y = 0 ∧ P (M, d, (pc + 1, lv, .int (x / y) :: st, h, kc, ks), Φ)
  | .irem, 1, .int y :: .int x :: st => ¬ y = 0 ∧ P (M, d, (pc + 1, lv, .int (x - x / y * y) :: st, h, kc, ks), Φ)
  | .ldiv, 1, .long y :: .long x :: st => ¬ y = 0 ∧ P (M, d, (pc + 1, lv, .long (x / y) :: st, h, kc, ks), Φ)
  | .ldc i, 2, st => (∃ v : Int32, Cond.constant (cn (mo M)) i v ∈ tblG ∧ P (M, d, (pc + 2, lv, .int v :: st, h, kc, ks), Φ)) ∨ (∃ (j : Nat) (tx : String), strT[j]? = some (mo M, i, tx) ∧ P (M, d, (pc + 2, lv, .ref (sa j) :: st, h, kc, ks), Φ))
  | .ldc_w i, 3, st => (∃ v : Int32, Cond.constant (cn (mo M)) i v ∈ tblG ∧ P (M, d, (pc + 3, lv, .int v :: st, h, kc, ks), Φ)) ∨ (∃ (j : Nat) (tx : String), strT[j]? = some (mo M, i, tx) ∧ P (M, d, (pc + 3, lv, .ref (sa j) :: st, h, kc, ks), Φ))
  | .ldc2_w i, 3, st => ∃ v : Int64, Cond.constantLong (cn (mo M)) i v ∈ tblG ∧ P (M, d, (pc + 3, lv, .long v :: st, h, kc, ks), Φ)
  | .lookupswitch df ps, _, .int x :: st => (ps.toList.zip (ps.toList.drop 1)).all (fun (a, next) => a.1 < next.1) = true ∧ 0 ≤ (pc : Int) + Op.lookupswitch.offset ps.toList df x.toInt ∧ P (M, d, (tgt pc (Op.lookupswitch.offset ps.toList df x.toInt), lv, st, h, kc, ks), Φ)
  | .tableswitch df lo hi offs, _, .int x :: st => ((x.toInt < lo ∨ hi < x.toInt) → 0 ≤ (pc : Int) + df ∧ P (M, d, (tgt pc df, lv, st, h, kc, ks), Φ)) ∧ (¬ x.toInt < lo → ¬ hi < x.toInt → ∃ off, offs[(x.toInt - lo).toNat]? = some off ∧ 0 ≤ (pc : Int) + off ∧ P (M, d, (tgt pc off, lv, st, h, kc, ks), Φ))
  | _, _, _ => False
/-- ends: returns, throw new E() -/
def am_e (M : Mth) (ig : Instr) (len pc : Nat) (st : List Value) (h : Hp) (kc ks : Nat) (Φ : Ou → Hp → Prop) : Prop :=
  match ig, len, st with
  | .ireturn, 1, [.int v] => (mr M = some .int ∨ (mr M = some .boolean ∧ narrow .boolean (.int v) = .int v)) ∧ Φ (.inl (some (.int v))) h
  | .lreturn, 1, [.long v] => mr M = some .long ∧ Φ (.inl (some (.long v))) h
  | .return_, 1, [] => mr M = none ∧ Φ (.inl none) h
  | .new ik, 3, st => ∃ (ic : Nat) (E : String) (names : List String), mh M = [] ∧ Bundle.fit E = true ∧ (∀ n ∈ names, Bundle.fit n = true) ∧ Cond.classLink (cn (mo M)) ik E ∈ tblG ∧ Cond.initialized E ∈ tblG ∧ (∀ w ∈ vx_at0 (cn (mo M)) ic E names, (w ∈ tblG ∨ w ∈ exL) ∧ vx_ot w = true) ∧ decode (mb M) (pc + 3) = .ok (.dup, 1) ∧ decode (mb M) (pc + 4) = .ok (.invokespecial ic, 3) ∧ decode (mb M) (pc + 7) = .ok (.athrow, 1) ∧ names.length ≤ 4 ∧ (st.map fun v => v.category).sum ≤ 8 ∧ 1 ≤ kc ∧ 6 ≤ ks ∧ Φ (.inr E) h
  | _, _, _ => False
/-- who catches E at pc -/
def XHs (M : Mth) (pc : Nat) (E : String) (hpc : Nat) (ncs : List (String × String)) : Prop := ∃ (pre : List ExceptionTableEntry) (x : ExceptionTableEntry) (suf : List ExceptionTableEntry) (name : String), tableOf (mh M) = pre ++ x :: suf ∧ (∀ z ∈ pre, covers z pc = false ∨ (z.catchType ≠ 0 ∧ ∃ nm : String, Cond.classLink (cn (mo M)) z.catchType nm ∈ tblG ∧ (E, nm) ∈ ncs)) ∧ covers x pc = true ∧ x.catchType ≠ 0 ∧ Cond.classLink (cn (mo M)) x.catchType name ∈ tblG ∧ Cond.castable E name ∈ exL ∧ x.handlerPc = hpc
def ncsL : List (String × String) := [("java/lang/IllegalArgumentException", "java/util/NoSuchElementException"), ("java/lang/IllegalStateException", "java/util/NoSuchElementException"), ("java/lang/IndexOutOfBoundsException", "java/util/NoSuchElementException"), ("java/lang/IndexOutOfBoundsException", "java/lang/IllegalStateException"), ("java/lang/IllegalArgumentException", "java/lang/IllegalStateException")]
/-- calls of our methods -/
def am_c (P : Cd → Prop) (M : Mth) (d : Nat) (ig : Instr) (len pc : Nat) (lv : Lv) (st : List Value) (h : Hp) (kc ks : Nat) (Φ : Ou → Hp → Prop) : Prop :=
  ∃ (idx kind d' mc ms : Nat) (M' : Mth) (As rest av : List Value) (Ψ : Ou → Hp → Prop), d = d' + 1 ∧ len = 3 ∧ MLk (mo M) idx M' kind As.length ∧
    ((kind = 0 ∧ ig = .invokestatic idx ∧ st = As.reverse ++ rest ∧ av = As) ∨ (∃ (b ci : Nat) (fs : List Value) (r : vw_C), kind = 1 ∧ ig = .invokevirtual idx ∧ st = As.reverse ++ .ref b :: rest ∧ av = .ref b :: As ∧ h b = some (.inr (ci, fs)) ∧ clsL[ci]? = some r ∧ r.1 = (my M').cls) ∨ (∃ b : Nat, kind = 2 ∧ ig = .invokespecial idx ∧ st = As.reverse ++ .ref b :: rest ∧ av = .ref b :: As)) ∧
    (rest.map fun v => v.category).sum ≤ 8 ∧ (lg_sl av).length ≤ ml M' ∧ mc ≤ kc ∧ ms ≤ ks ∧ P (M', d', (0, (lg_sl av ++ List.replicate (ml M' - (lg_sl av).length) Slot.unset).map (fun z => match z with | .val v => some v | _ => none), [], h, mc, ms), Ψ) ∧
    (∀ (v : Option Value) (h' : Hp), Ψ (.inl v) h' → P (M, d, (pc + 3, lv, v.toList ++ rest, h', kc - mc, ks - ms), Φ)) ∧
    (∀ (E : String) (h' : Hp), Ψ (.inr E) h' → ((Cond.methodLink (cn (mo M)) idx (my M') ∈ tblG) ∧ ¬ kind = 2) ∧ ((mh M = [] ∧ Φ (.inr E) h') ∨ (∃ hpc : Nat, XHs M pc E hpc ncsL ∧ ∀ q : Nat, P (M, d, (hpc, lv, [.ref q], h', kc - mc, ks - ms), Φ))))
/-- calls of the library that have rows of their own -/
def am_j (P : Cd → Prop) (M : Mth) (d : Nat) (ig : Instr) (len pc : Nat) (lv : Lv) (st : List Value) (h : Hp) (kc ks : Nat) (Φ : Ou → Hp → Prop) : Prop :=
  match ig, len, st with
  | .invokespecial i, 3, .ref _ :: st => Cond.methodLink (cn (mo M)) i objectInit ∈ tblG ∧ Cond.instanceMethod objectInit ∈ tblG ∧ Cond.code objectInit ⟨#[0xb1]⟩ 1 none ∈ tblG ∧ (st.map fun v => v.category).sum ≤ 8 ∧ P (M, d, (pc + 3, lv, st, h, kc, ks), Φ)
  | .invokestatic i, 3, .int y :: .int x :: .ref b :: .int z :: .ref a :: st => Cond.methodLink (cn (mo M)) i arraycopyName ∈ tblG ∧ Cond.native arraycopyName ∈ tblG ∧ Cond.static arraycopyName ∈ tblG ∧ Cond.initialized "java/lang/System" ∈ tblG ∧ (st.map fun v => v.category).sum ≤ 8 ∧ ¬ z < 0 ∧ ¬ x < 0 ∧ ¬ y < 0 ∧
      ∃ (t n0 n1 : Nat) (f g : Nat → Int32), (t = 0 ∨ t = 2) ∧ h a = some (.inl (ar t, n0, .inl f)) ∧ h b = some (.inl (ar t, n1, .inl g)) ∧ z.toNatClampNeg + y.toNatClampNeg ≤ n0 ∧ x.toNatClampNeg + y.toNatClampNeg ≤ n1 ∧ (∀ i, i < y.toNatClampNeg → fits (tyN t) (.int (f (z.toNatClampNeg + i))) = true) ∧ P (M, d, (pc + 3, lv, st, hset h b (.inl (ar t, n1, .inl (va_cpy f g z.toNatClampNeg x.toNatClampNeg y.toNatClampNeg))), kc, ks), Φ)
  | .invokestatic i, 3, .int y :: .int x :: st => (Cond.methodLink (cn (mo M)) i Lib.Math.max.name ∈ tblG ∧ Cond.static Lib.Math.max.name ∈ tblG ∧ Cond.initialized "java/lang/Math" ∈ tblG ∧ Cond.code Lib.Math.max.name Lib.Math.max.code 2 (some .int) ∈ tblG ∧ (st.map fun v => v.category).sum ≤ 8 ∧ P (M, d, (pc + 3, lv, .int (if x < y then y else x) :: st, h, kc, ks), Φ)) ∨
      (Cond.methodLink (cn (mo M)) i Lib.Math.min.name ∈ tblG ∧ Cond.static Lib.Math.min.name ∈ tblG ∧ Cond.initialized "java/lang/Math" ∈ tblG ∧ Cond.code Lib.Math.min.name Lib.Math.min.code 2 (some .int) ∈ tblG ∧ (st.map fun v => v.category).sum ≤ 8 ∧ P (M, d, (pc + 3, lv, .int (if y < x then y else x) :: st, h, kc, ks), Φ))
  | .invokevirtual i, 3, .ref a :: st => ∃ j : Nat, j < 25 ∧ a = sa j ∧ Cond.methodLink (cn (mo M)) i yLen ∈ tblG ∧ (st.map fun v => v.category).sum ≤ 8 ∧ P (M, d, (pc + 3, lv, .int (Int32.ofNat (sln j)) :: st, h, kc, ks), Φ)
  | .invokevirtual i, 3, .int k :: .ref a :: st => ∃ j : Nat, j < 25 ∧ a = sa j ∧ Cond.methodLink (cn (mo M)) i yChr ∈ tblG ∧ vp_in k (sln j) ∧ (st.map fun v => v.category).sum ≤ 8 ∧ P (M, d, (pc + 3, lv, .int (Int32.ofNat (sch j k.toNatClampNeg)) :: st, h, kc, ks), Φ)
  | .invokestatic i, 3, .long x :: st => Cond.methodLink (cn (mo M)) i Lib.MathLoose.abs_long.x ∈ tblG ∧ Cond.static Lib.MathLoose.abs_long.x ∈ tblG ∧ Cond.initialized "java/lang/Math" ∈ tblG ∧ Cond.code Lib.MathLoose.abs_long.x Lib.MathLoose.abs_long.code 2 (some .long) ∈ tblG ∧ (st.map fun v => v.category).sum ≤ 8 ∧ P (M, d, (pc + 3, lv, .long (if 0 < x then x else -x) :: st, h, kc, ks), Φ)
  | _, _, _ => False
def am_s (P : Cd → Prop) (M : Mth) (d : Nat) (ig : Instr) (len pc : Nat) (lv : Lv) (st : List Value) (h : Hp) (kc ks : Nat) (Φ : Ou → Hp → Prop) : Prop :=
  ∃ r : Nat × Lv × List Value, sx ig len pc lv st = some r ∧ P (M, d, (r.1, r.2.1, r.2.2, h, kc, ks), Φ)
def am_F (P : Cd → Prop) (q : Cd) : Prop := match q with
  | (M, d, (pc, lv, st, h, kc, ks), Φ) => ∃ (ig : Instr) (len : Nat), decode (mb M) pc = .ok (ig, len) ∧
    (am_s P M d ig len pc lv st h kc ks Φ ∨ am_h ar ro P M d ig len pc lv st h kc ks Φ ∨ am_d sa P M d ig len pc lv st h kc ks Φ ∨ am_e M ig len pc st h kc ks Φ ∨ am_c P M d ig len pc lv st h kc ks Φ ∨ am_j ar sa P M d ig len pc lv st h kc ks Φ)
def WPc (q : Cd) : Prop := ∀ P : Cd → Prop, (∀ (S : Cd → Prop) (q : Cd), am_F ar ro sa S q → (∀ q, S q → P q) → P q) → P q
abbrev WP (M : Mth) (d pc : Nat) (lv : Lv) (st : List Value) (h : Hp) (kc ks : Nat) (Φ : Ou → Hp → Prop) : Prop := WPc ar ro sa (M, d, (pc, lv, st, h, kc, ks), Φ)
theorem WPc.intro {q : Cd} (h : am_F ar ro sa (WPc ar ro sa) q) : WPc ar ro sa q := fun P hc => hc _ q h (fun _ hq => hq P hc)
end AM
end
section
/-! the frame's own instructions: sx is what the machine does -/
def lr (ls : Array Slot) (lv : Lv) : Prop := ls.size = lv.length ∧ lv_wf ls ∧ ∀ (i : Nat) (v : Value), ldl lv i = some v → ls[i]? = some (.val v)
def al (lv : Lv) : List (Nat × Value) := (List.range lv.length).filterMap (fun i => (ldl lv i).map (fun v => (i, v)))
theorem ldl_lt {lv : Lv} {i : Nat} {v : Value} (h : ldl lv i = some v) : i < lv.length := by
  rcases Nat.lt_or_ge i lv.length with q | q
  · exact q
  · simp [ldl, List.getElem?_eq_none q] at h
theorem al_mem {lv : Lv} {i : Nat} {v : Value} : (i, v) ∈ al lv ↔ ldl lv i = some v := by
  constructor
  · intro h
    obtain ⟨j, -, hj⟩ := List.mem_filterMap.mp h
    cases e : ldl lv j with
    | none => rw [e] at hj; cases hj
    | some w => rw [e] at hj; cases hj; exact e
  · intro h
    exact List.mem_filterMap.mpr ⟨i, List.mem_range.mpr (ldl_lt h), by rw [h]; rfl⟩
theorem lr.has {ls : Array Slot} {lv : Lv} (h : lr ls lv) : lv_has ls lv.length (al lv) := ⟨h.1, h.2.1, fun q hq => h.2.2 q.1 q.2 (al_mem.mp hq)⟩
theorem stl_len (lv : Lv) (i : Nat) (v : Value) : (stl lv i v).length = lv.length := by
  cases i with
  | zero => simp only [stl]; split <;> simp
  | succ j =>
    simp only [stl]
    split <;> split <;> (try split) <;> simp
theorem ldl_set {lv : Lv} {i j : Nat} {o : Option Value} {w : Value} (h : ldl (lv.set i o) j = some w) : (j = i ∧ o = some w) ∨ (j ≠ i ∧ ldl lv j = some w) := by
  rcases Nat.decEq j i with n | rfl
  · right; refine ⟨n, ?_⟩
    simp only [ldl, List.getElem?_set_ne (Ne.symm n)] at h ⊢
    exact h
  · left; refine ⟨rfl, ?_⟩
    have hl := ldl_lt h
    simp only [List.length_set] at hl
    simpa [ldl, hl] using h
theorem stl_get {lv : Lv} {i j : Nat} {v w : Value} (h : ldl (stl lv i v) j = some w) : (j = i ∧ v = w) ∨ (j ≠ i ∧ ldl lv j = some w ∧ ¬ (j + 1 = i ∧ w.category = 2) ∧ (v.category = 2 → j ≠ i + 1)) := by
  have key : ∀ l1 : Lv, (ldl (l1.set i (some v)) j = some w ∨ (v.category = 2 ∧ j ≠ i + 1 ∧ ldl (l1.set i (some v)) j = some w)) → (v.category = 2 → j ≠ i + 1) → (∀ w', ldl l1 j = some w' → ldl lv j = some w' ∧ ¬ (j + 1 = i ∧ w'.category = 2)) → (j = i ∧ v = w) ∨ (j ≠ i ∧ ldl lv j = some w ∧ ¬ (j + 1 = i ∧ w.category = 2) ∧ (v.category = 2 → j ≠ i + 1)) := by
    intro l1 h1 hc hl
    have h1 : ldl (l1.set i (some v)) j = some w := h1.elim id (fun q => q.2.2)
    rcases ldl_set h1 with ⟨e, q⟩ | ⟨n, q⟩
    · exact Or.inl ⟨e, Option.some.inj q⟩
    · exact Or.inr ⟨n, (hl w q).1, (hl w q).2, hc⟩
  have fin : ∀ l1 : Lv, ldl (if v.category = 2 then (l1.set i (some v)).set (i + 1) none else l1.set i (some v)) j = some w → (∀ w', ldl l1 j = some w' → ldl lv j = some w' ∧ ¬ (j + 1 = i ∧ w'.category = 2)) → (j = i ∧ v = w) ∨ (j ≠ i ∧ ldl lv j = some w ∧ ¬ (j + 1 = i ∧ w.category = 2) ∧ (v.category = 2 → j ≠ i + 1)) := by
    intro l1 h1 hl
    by_cases c : v.category = 2
    · rw [if_pos c] at h1
      rcases ldl_set h1 with ⟨-, q⟩ | ⟨n, q⟩
      · cases q
      · exact key l1 (Or.inl q) (fun _ => n) hl
    · rw [if_neg c] at h1
      exact key l1 (Or.inl h1) (fun q => absurd q c) hl
  cases i with
  | zero => exact fin lv h (fun w' q => ⟨q, fun z => by omega⟩)
  | succ k =>
    refine fin (match lv[k]? with
      | some (some w) => if w.category = 2 then lv.set k none else lv
      | _ => lv) h (fun w' q => ?_)
    split at q
    · rename_i w0 e0
      by_cases c0 : w0.category = 2
      · rw [if_pos c0] at q
        rcases ldl_set q with ⟨-, z⟩ | ⟨n, z⟩
        · cases z
        · exact ⟨z, fun y => n (by omega)⟩
      · rw [if_neg c0] at q
        refine ⟨q, fun y => ?_⟩
        have : j = k := by omega
        subst this
        rw [ldl, e0] at q
        cases q
        exact c0 y.2
    · rename_i e0
      refine ⟨q, fun y => ?_⟩
      have : j = k := by omega
      subst this
      cases e1 : lv[j]? with
      | none => rw [ldl, e1] at q; cases q
      | some o =>
        cases o with
        | none => rw [ldl, e1] at q; cases q
        | some w1 => exact e0 w1 e1
theorem lr.store1 {ls : Array Slot} {lv : Lv} {i : Nat} {v : Value} (hc : v.category = 1) (h : lv_has ls lv.length ((i, v) :: (al lv).filter (fun q => !(q.1 == i) && !(q.1 + 1 == i && q.2.category == 2)))) : lr ls (stl lv i v) := by
  refine ⟨by rw [stl_len]; exact h.1, h.2.1, fun j w hj => ?_⟩
  rcases stl_get hj with ⟨rfl, rfl⟩ | ⟨n, q, z, -⟩
  · exact h.2.2 (j, v) List.mem_cons_self
  · refine h.2.2 (j, w) (List.mem_cons_of_mem _ (List.mem_filter.mpr ⟨al_mem.mpr q, ?_⟩))
    simp only [Bool.and_eq_true, Bool.not_eq_true', beq_eq_false_iff_ne, Bool.and_eq_false_iff]
    refine ⟨n, ?_⟩
    by_cases e : j + 1 = i
    · exact Or.inr (fun y => z ⟨e, y⟩)
    · exact Or.inl e
theorem lr.store2 {ls : Array Slot} {lv : Lv} {i : Nat} {v : Value} (hc : v.category = 2) (h : lv_has ls lv.length ((i, v) :: (al lv).filter (fun q => !(q.1 == i) && (!(q.1 == i + 1) && !(q.1 + 1 == i && q.2.category == 2))))) : lr ls (stl lv i v) := by
  refine ⟨by rw [stl_len]; exact h.1, h.2.1, fun j w hj => ?_⟩
  rcases stl_get hj with ⟨rfl, rfl⟩ | ⟨n, q, z, y⟩
  · exact h.2.2 (j, v) List.mem_cons_self
  · refine h.2.2 (j, w) (List.mem_cons_of_mem _ (List.mem_filter.mpr ⟨al_mem.mpr q, ?_⟩))
    simp only [Bool.and_eq_true, Bool.not_eq_true', beq_eq_false_iff_ne, Bool.and_eq_false_iff]
    refine ⟨n, y hc, ?_⟩
    by_cases e : j + 1 = i
    · exact Or.inr (fun x => z ⟨e, x⟩)
    · exact Or.inl e
theorem tgt_ok {pc : Nat} {off : Int} (h : 0 ≤ (pc : Int) + off) : (pc : Int) + off = ((tgt pc off : Nat) : Int) := by
  unfold tgt; omega
section SX
variable {p : Program} {l : Launch} {e : Env} {R : Room} {s : State} {m : MethodId} {args : Array Value} {below : List Frame} {meth : Method} {c : Code} {H : Heap} {locs : List Loc} {cells slots : Nat} {Q : State → Prop}
theorem br_W {cd : ClassFile.Cond} {x y : Int32} {a b : Nat} {ls : Array Slot} {st : List Value} (k : W p l e R s m args below meth c H locs cells slots Q (F0 m (if cdI cd x y then a else b) ls st)) : (cdI cd x y = true → W p l e R s m args below meth c H locs cells slots Q (F0 m a ls st)) ∧ (cdI cd x y = false → W p l e R s m args below meth c H locs cells slots Q (F0 m b ls st)) := by
  constructor <;> intro h <;> simpa [h] using k
set_option maxHeartbeats 4000000 in
theorem sx_sound (hx : p.tables.exec = Jvm.exec) {cc : ByteArray} (hb : c.code = cc) {ig : Instr} {len pc : Nat} {lv : Lv} {st : List Value} {ls : Array Slot} {r : Nat × Lv × List Value} (hd : decode cc pc = .ok (ig, len)) (hs : sx ig len pc lv st = some r) (hl : lr ls lv)
    (k : ∀ ls', lr ls' r.2.1 → W p l e R s m args below meth c H locs cells slots Q (F0 m r.1 ls' r.2.2)) : W p l e R s m args below meth c H locs cells slots Q (F0 m pc ls st) := by
  unfold sx at hs
  split at hs
  · cases hs; exact lv_iconst hx hb hd rfl (k ls hl)
  · cases hs; exact lv_bipush hx hb hd rfl (k ls hl)
  · cases hs; exact lv_sipush hx hb hd rfl (k ls hl)
  · cases hs; exact lv_lconst hx hb hd rfl (k ls hl)
  · split at hs
    · rename_i q; cases hs; exact lv_iload_n hx hb hd rfl (hl.2.2 _ _ q) (k ls hl)
    · cases hs
  · split at hs
    · rename_i q; cases hs; exact lv_iload hx hb hd (hl.2.2 _ _ q) (k ls hl)
    · cases hs
  · split at hs
    · rename_i q; cases hs; exact lv_lload_n hx hb hd rfl (hl.2.2 _ _ q) (k ls hl)
    · cases hs
  · split at hs
    · rename_i q; cases hs; exact lv_lload hx hb hd (hl.2.2 _ _ q) (k ls hl)
    · cases hs
  · split at hs
    · rename_i q; cases hs; exact lv_aload_n hx hb hd rfl (hl.2.2 _ _ q) (k ls hl)
    · cases hs
  · split at hs
    · rename_i q; cases hs; exact lv_aload hx hb hd (hl.2.2 _ _ q) (k ls hl)
    · cases hs
  · split at hs
    · rename_i q; cases hs; exact lv_istore_n hx hb hd rfl hl.has q rfl (fun ls' h' => k ls' (lr.store1 rfl h'))
    · cases hs
  · split at hs
    · rename_i q; cases hs; exact lv_istore hx hb hd hl.has q rfl (fun ls' h' => k ls' (lr.store1 rfl h'))
    · cases hs
  · split at hs
    · rename_i q; cases hs; exact lv_lstore_n hx hb hd rfl hl.has q rfl (fun ls' h' => k ls' (lr.store2 rfl h'))
    · cases hs
  · split at hs
    · rename_i q; cases hs; exact lv_lstore hx hb hd hl.has q rfl (fun ls' h' => k ls' (lr.store2 rfl h'))
    · cases hs
  · split at hs
    · rename_i q; cases hs; exact lv_astore_n hx hb hd rfl hl.has q rfl (fun ls' h' => k ls' (lr.store1 rfl h'))
    · cases hs
  · split at hs
    · rename_i q; cases hs; exact lv_astore hx hb hd hl.has q rfl (fun ls' h' => k ls' (lr.store1 rfl h'))
    · cases hs
  · split at hs
    · rename_i q; cases hs
      obtain ⟨j, hj⟩ := List.getElem?_of_mem (al_mem.mpr q)
      exact lv_iinc hx hb hd hl.has hj rfl (ldl_lt q) rfl (fun ls' h' => k ls' (lr.store1 rfl h'))
    · cases hs
  · cases hs; exact lv_iadd hx hb hd (k ls hl)
  · cases hs; exact lv_isub hx hb hd (k ls hl)
  · cases hs; exact lv_imul hx hb hd (k ls hl)
  · cases hs; exact lv_iand hx hb hd (k ls hl)
  · cases hs; exact lv_ior hx hb hd (k ls hl)
  · cases hs; exact lv_ixor hx hb hd (k ls hl)
  · cases hs; exact lv_ineg hx hb hd (k ls hl)
  · cases hs; exact lv_ladd hx hb hd (k ls hl)
  · cases hs; exact lv_lsub hx hb hd (k ls hl)
  · cases hs; exact lv_lmul hx hb hd (k ls hl)
  · cases hs; exact lv_land hx hb hd (k ls hl)
  · cases hs; exact lv_lor hx hb hd (k ls hl)
  · cases hs; exact lv_lxor hx hb hd (k ls hl)
  · cases hs; exact lv_lneg hx hb hd (k ls hl)
  · cases hs; exact lv_ishl hx hb hd (k ls hl)
  · cases hs; exact lv_ishr hx hb hd (k ls hl)
  · cases hs; exact lv_iushr hx hb hd rfl (k ls hl)
  · cases hs; exact lv_lshl hx hb hd rfl (k ls hl)
  · cases hs; exact lv_lshr hx hb hd rfl (k ls hl)
  · cases hs; exact lv_lushr hx hb hd rfl (k ls hl)
  · cases hs; exact lv_i2l hx hb hd rfl (k ls hl)
  · cases hs; exact lv_l2i hx hb hd rfl (k ls hl)
  · cases hs; exact lv_i2b hx hb hd rfl (k ls hl)
  · cases hs; exact lv_i2s hx hb hd rfl (k ls hl)
  · cases hs; exact W.lcmp hx hb hd (k ls hl)
  · split at hs
    · rename_i q; cases hs; exact lv_dup hx hb hd q (k ls hl)
    · cases hs
  · split at hs
    · rename_i q; cases hs; exact lv_pop hx hb hd q (k ls hl)
    · cases hs
  · split at hs
    · rename_i q; cases hs; exact lv_dup_x1 hx hb hd q.1 q.2 (k ls hl)
    · cases hs
  · split at hs
    · rename_i q; cases hs; exact lv_dup2_11 hx hb hd q.1 q.2 (k ls hl)
    · cases hs
  · split at hs
    · rename_i q; cases hs; exact lv_goto hx hb hd (tgt_ok q) (k ls hl)
    · cases hs
  · split at hs
    · rename_i cd off x st1 q; cases hs
      obtain ⟨k1, k2⟩ := br_W (k ls hl)
      cases cd
      · exact lv_if_eq hx hb hd (tgt_ok q) (fun h => k1 (decide_eq_true h)) (fun h => k2 (decide_eq_false h))
      · exact lv_if_ne hx hb hd (tgt_ok q) (fun h => k1 (decide_eq_true h)) (fun h => k2 (decide_eq_false (fun z => z h)))
      · exact lv_if_lt hx hb hd (tgt_ok q) (fun h => k1 (decide_eq_true h)) (fun h => k2 (decide_eq_false h))
      · exact lv_if_ge hx hb hd (tgt_ok q) (fun h => k1 (decide_eq_true h)) (fun h => k2 (decide_eq_false h))
      · exact lv_if_gt hx hb hd (tgt_ok q) (fun h => k1 (decide_eq_true h)) (fun h => k2 (decide_eq_false h))
      · exact lv_if_le hx hb hd (tgt_ok q) (fun h => k1 (decide_eq_true h)) (fun h => k2 (decide_eq_false h))
    · cases hs
  · split at hs
    · rename_i cd off y x st1 q; cases hs
      obtain ⟨k1, k2⟩ := br_W (k ls hl)
      cases cd
      · exact lv_icmp_eq hx hb hd (tgt_ok q) (fun h => k1 (decide_eq_true h)) (fun h => k2 (decide_eq_false h))
      · exact lv_icmp_ne hx hb hd (tgt_ok q) (fun h => k1 (decide_eq_true h)) (fun h => k2 (decide_eq_false (fun z => z h)))
      · exact lv_icmp_lt hx hb hd (tgt_ok q) (fun h => k1 (decide_eq_true h)) (fun h => k2 (decide_eq_false h))
      · exact lv_icmp_ge hx hb hd (tgt_ok q) (fun h => k1 (decide_eq_true h)) (fun h => k2 (decide_eq_false h))
      · exact lv_icmp_gt hx hb hd (tgt_ok q) (fun h => k1 (decide_eq_true h)) (fun h => k2 (decide_eq_false h))
      · exact lv_icmp_le hx hb hd (tgt_ok q) (fun h => k1 (decide_eq_true h)) (fun h => k2 (decide_eq_false h))
    · cases hs
  · cases hs; exact lv_ifnull hx hb hd (k ls hl)
  · split at hs
    · rename_i q; cases hs; exact lv_ifnullN hx hb hd (tgt_ok q) (k ls hl)
    · cases hs
  · split at hs
    · rename_i q; cases hs; exact lv_ifnonnull hx hb hd (tgt_ok q) (k ls hl)
    · cases hs
  · cases hs; exact lv_ifnonnullN hx hb hd (k ls hl)
  · cases hs
end SX
end
section
/-! the worlds: a pure heap h beside the machine's heap H -/
def lkp (ws : va_W) (a : Nat) : Option va_E := (ws.find? (fun q => q.1 == a)).map (fun q => q.2)
theorem lkp_nil (a : Nat) : lkp [] a = none := rfl
theorem lkp_cons (q : Nat × va_E) (ws : va_W) (a : Nat) : lkp (q :: ws) a = if q.1 = a then some q.2 else lkp ws a := by
  by_cases e : q.1 = a
  · simp [lkp, List.find?_cons, e]
  · simp [lkp, List.find?_cons, e]
theorem lkp_at {ws : va_W} {a : Nat} {e : va_E} (h : lkp ws a = some e) : ∃ k : Nat, ws[k]? = some (a, e) := by
  induction ws with
  | nil => cases h
  | cons q ws ih =>
    rw [lkp_cons] at h
    split at h
    · rename_i c; cases h; exact ⟨0, by rw [← c]; rfl⟩
    · obtain ⟨k, hk⟩ := ih h; exact ⟨k + 1, hk⟩
theorem lkp_none {ws : va_W} {a : Nat} (h : ∀ (k : Nat) (e : va_E), ws[k]? = some (a, e) → False) : lkp ws a = none := by
  cases e : lkp ws a with
  | none => rfl
  | some x => obtain ⟨k, hk⟩ := lkp_at e; exact (h k x hk).elim
theorem lkp_of {A : Nat → Prop} {ws : va_W} (hD : va_D A ws) {k a : Nat} {e : va_E} (h : ws[k]? = some (a, e)) : lkp ws a = some e := by
  cases q : lkp ws a with
  | none =>
    exfalso
    induction ws generalizing k with
    | nil => simp at h
    | cons x ws ih =>
      rw [lkp_cons] at q
      split at q
      · cases q
      · rename_i n
        cases k with
        | zero => simp at h; exact n (by rw [h])
        | succ k => exact ih ⟨fun i j p q' a1 a2 a3 => by have := hD.1 (i + 1) (j + 1) p q' (by simpa using a1) (by simpa using a2) a3; omega, fun k q' a1 => hD.2 (k + 1) q' (by simpa using a1)⟩ (by simpa using h) q
  | some x =>
    obtain ⟨j, hj⟩ := lkp_at q
    have := hD.1 j k _ _ hj h rfl
    subst this
    rw [hj] at h
    cases h; rfl
theorem lkp_set {A : Nat → Prop} {ws : va_W} {k a : Nat} {e e' : va_E} (hD : va_D A ws) (h : ws[k]? = some (a, e)) (hD' : va_D A (ws.set k (a, e'))) (b : Nat) : lkp (ws.set k (a, e')) b = if b = a then some e' else lkp ws b := by
  have hk : k < ws.length := (List.getElem?_eq_some_iff.mp h).1
  by_cases c : b = a
  · subst c
    rw [if_pos rfl]
    exact lkp_of hD' (k := k) (by simp [hk])
  · rw [if_neg c]
    cases q : lkp ws b with
    | none =>
      refine lkp_none (fun j x hj => ?_)
      by_cases ej : k = j
      · subst ej; simp [hk] at hj; exact c hj.1.symm
      · rw [List.getElem?_set_ne ej] at hj
        rw [lkp_of hD hj] at q; cases q
    | some x =>
      obtain ⟨j, hj⟩ := lkp_at q
      have ej : k ≠ j := by rintro rfl; rw [hj] at h; cases h; exact c rfl
      exact lkp_of hD' (k := j) (by rw [List.getElem?_set_ne ej]; exact hj)
theorem lkp_push {A : Nat → Prop} {ws : va_W} {q : Nat} {e : va_E} (hD : va_D A ws) (hD' : va_D A (ws ++ [(q, e)])) : lkp ws q = none ∧ ∀ b : Nat, lkp (ws ++ [(q, e)]) b = if b = q then some e else lkp ws b := by
  have h0 : lkp ws q = none := lkp_none (fun k x hk => by
    have hl : k < ws.length := (List.getElem?_eq_some_iff.mp hk).1
    have := hD'.1 k ws.length (q, x) (q, e) (by rw [List.getElem?_append_left hl]; exact hk) (by simp) rfl
    omega)
  refine ⟨h0, fun b => ?_⟩
  by_cases c : b = q
  · subst c; rw [if_pos rfl]; exact lkp_of hD' (k := ws.length) (by simp)
  · rw [if_neg c]
    cases z : lkp ws b with
    | none =>
      refine lkp_none (fun j x hj => ?_)
      rcases Nat.lt_or_ge j ws.length with hl | hl
      · rw [List.getElem?_append_left hl] at hj; rw [lkp_of hD hj] at z; cases z
      · rw [List.getElem?_append_right hl] at hj
        cases hj2 : j - ws.length with
        | zero => rw [hj2] at hj; simp at hj; exact c hj.1.symm
        | succ n => rw [hj2] at hj; simp at hj
    | some x =>
      obtain ⟨j, hj⟩ := lkp_at z
      have hl : j < ws.length := (List.getElem?_eq_some_iff.mp hj).1
      exact lkp_of hD' (k := j) (by rw [List.getElem?_append_left hl]; exact hj)
def tysA (ar : Nat → ClassId) : List (ClassId × FieldType) := (List.range 9).map (fun k => (ar k, tyN k))
theorem tysA_at (ar : Nat → ClassId) {t : Nat} (h : t ≤ 8) : (tysA ar)[t]? = some (ar t, tyN t) := by
  simp [tysA, show t < 9 by omega]
def strN : List Nat := strB.map List.length
def strI : List (List Int32) := strB.map (fun l => l.map Int32.ofNat)
theorem exL_kind {w : Cond} (h : w ∈ exL) : (∃ a b c d, w = .methodLinkNest a b c d) ∨ (∃ a b, w = .castable a b) ∨ ∃ C, w = .arrayOver (.object C) := by
  have h2 := (List.mem_filter.mp h).2
  split at h2
  · exact Or.inl ⟨_, _, _, _, rfl⟩
  · exact Or.inr (Or.inl ⟨_, _, rfl⟩)
  · exact Or.inr (Or.inr ⟨_, rfl⟩)
  · cases h2
/-- what stays true of the tables and of cells outside A, all the way -/
def Gw (D : va_G) (ar : Nat → ClassId) (ro : Nat → Option (Nat × (Nat → Int32))) (sa sv : Nat → Nat) (U : State) (H : Heap) (A : Nat → Prop) : Prop :=
  (∀ w ∈ exL, va_Nw w U) ∧ va_K D clsL (tysA ar) U ∧ (∀ q ∈ ncsL, va_Nc q.1 q.2 U) ∧ vx_Zq Bundle.tN "UNASSIGNED_STACK" Bundle.steD A U H ∧ vx_Zq Bundle.tN "SUPPRESSED_SENTINEL" Bundle.listD A U H ∧ vk_S 25 strN strI sa sv A U H ∧ (∀ (j o i : Nat) (tx : String), strT[j]? = some (o, i, tx) → vk_R (cn o) i tx (sa j) U) ∧ va_Z "java/lang/String" "COMPACT_STRINGS" "Z" (.int 1) A U H ∧ (∀ (a n : Nat) (f : Nat → Int32), ro a = some (n, f) → va_X a n f U H ∧ a < H.size ∧ ¬ A a)
theorem Gw.to {D : va_G} {ar : Nat → ClassId} {ro : Nat → Option (Nat × (Nat → Int32))} {sa sv : Nat → Nat} {s U : State} {H0 H : Heap} {A B : Nat → Prop} (hG : Gw D ar ro sa sv s H0 A) (hW : s.WarmedH U.vm) (hz : H0.size ≤ H.size) (hk : ∀ q : Nat, q < H0.size → ¬ A q → H[q]? = H0[q]?) (hAB : ∀ q, B q → A q) : Gw D ar ro sa sv U H B := by
  obtain ⟨h1, h2, h3, h4, h5, h6, h7, h8, h9⟩ := hG
  refine ⟨fun w hw => ?_, va_K.moved hW.alike h2, fun q hq => (h3 q hq).moved hW.alike, ((h4.kept hk).narrow hAB).moved hW.alike, ((h5.kept hk).narrow hAB).moved hW.alike, vk_S.moved hW.alike ((h6.kept hk).narrow hAB), fun j o i tx h => (h7 j o i tx h).warm hW, ((h8.kept hk).narrow hAB).moved hW.alike, fun a n f h => ?_⟩
  · have hn := h1 w hw
    rcases exL_kind hw with ⟨a, b, c, d, rfl⟩ | ⟨a, b, rfl⟩ | ⟨C, rfl⟩
    · exact hn.warmM hW
    · exact hn.warmC hW
    · exact va_AO.moved hW.alike hn
  · obtain ⟨x1, x2, x3⟩ := h9 a n f h
    exact ⟨(x1.kept (hk a x2 x3)).moved hW.alike, Nat.lt_of_lt_of_le x2 hz, fun q => x3 (hAB a q)⟩
/-- what a method's context gives -/
def Cx (D : va_G) (ar : Nat → ClassId) (ro : Nat → Option (Nat × (Nat → Int32))) (sa sv : Nat → Nat) (p : Program) (l : Launch) (R : Room) (s : State) (m : MethodId) (args : Array Value) (meth : Method) (c : Code) (A : Nat → Prop) (M : Mth) (d : Nat) : Prop :=
  p.tables.exec = Jvm.exec ∧ c.code = mb M ∧ c.maxLocals = ml M ∧ s.vm.findClass (cn (mo M)) = some m.cls ∧ (∀ w ∈ tblG, w.before args s = true) ∧ Gw D ar ro sa sv s s.heap A ∧ (∀ q, s.heap.size ≤ q → A q) ∧ meth.sig.returnType = mr M ∧ meth.locks = false ∧ c.exceptionTable.toList = tableOf (mh M) ∧ meth.name = (my M).name ∧ d + 8 ≤ R.frames ∧ 80 * d + 160 ≤ R.locals ∧ l.stackTraces = false
def Ww (D : va_G) (A : Nat → Prop) (h : Hp) (ws : va_W) (st t : State) : Prop := (∀ b, h b = lkp ws b) ∧ va_P D clsL ws t.heap ∧ va_D A ws ∧ va_F A st t
def QcO (D : va_G) (A : Nat → Prop) (Φ : Ou → Hp → Prop) : Array Value → State → Outcome → State → Prop := fun _ st oc t => ∃ (v : Option Value) (h : Hp) (ws : va_W), oc = .returned v ∧ Φ (.inl v) h ∧ Ww D A h ws st t
def XcO (D : va_G) (A : Nat → Prop) (Φ : Ou → Hp → Prop) : String → State → State → Prop := fun E st t => ∃ (h : Hp) (ws : va_W), Φ (.inr E) h ∧ Ww D A h ws st t
/-- what WP stands for -/
def Sd (D : va_G) (ar : Nat → ClassId) (ro : Nat → Option (Nat × (Nat → Int32))) (sa sv : Nat → Nat) (l : Launch) (q : Cd) : Prop := match q with
  | (M, d, (pc, lv, st, h, kc, ks), Φ) => ∀ (p : Program) (e : Env) (R : Room) (s : State) (m : MethodId) (args : Array Value) (below : List Frame) (meth : Method) (c : Code) (A : Nat → Prop), Cx D ar ro sa sv p l R s m args meth c A M d →
    ∀ (H : Heap) (locs : List Loc) (cells slots : Nat) (ls : Array Slot) (ws : va_W), lr ls lv → lv.length = ml M → (∀ b, h b = lkp ws b) → va_P D clsL ws H → va_D A ws → va_S A s.heap H locs → cells + kc ≤ R.cells → slots + ks ≤ R.slots →
      W p l e R s m args below meth c H locs cells slots (vx_MQ below (QcO D A Φ) (XcO D A Φ) args s R.cells R.slots A) (F0 m pc ls st)
theorem sx_len {ig : Instr} {len pc : Nat} {lv : Lv} {st : List Value} {r : Nat × Lv × List Value} (hs : sx ig len pc lv st = some r) : r.2.1.length = lv.length := by
  unfold sx at hs
  split at hs
  all_goals first | (cases hs; done) | (injection hs with hs; subst hs; simp [stl_len]; done) | (split at hs <;> first | (cases hs; done) | (injection hs with hs; subst hs; simp [stl_len]; done))
end
section
/-! the cases of am_h, am_d, am_e are sound -/
theorem tblG_in {i : Nat} {w : Cond} (h : tables_1[i]? = some w) (hg : goodWord w = true) : w ∈ tblG := List.mem_filter.mpr ⟨List.mem_append_right _ (List.mem_of_getElem? h), hg⟩
theorem arC0 : Cond.arrayClass .int ∈ tblG := tblG_in (i := 128) (by decide +kernel) (by decide +kernel)
theorem arC2 : Cond.arrayClass .boolean ∈ tblG := tblG_in (i := 129) (by decide +kernel) (by decide +kernel)
theorem arC1 : Cond.arrayClass .long ∈ tblG := tblG_in (i := 275) (by decide +kernel) (by decide +kernel)
theorem arC3 : Cond.arrayClass .byte ∈ tblG := tblG_in (i := 502) (by decide +kernel) (by decide +kernel)
section HS
variable {D : va_G} {ar : Nat → ClassId} {ro : Nat → Option (Nat × (Nat → Int32))} {sa sv : Nat → Nat} {l : Launch}
variable {p : Program} {e : Env} {R : Room} {s : State} {m : MethodId} {args : Array Value} {below : List Frame} {meth : Method} {c : Code} {A : Nat → Prop} {M : Mth} {d : Nat}
variable {H : Heap} {locs : List Loc} {cells slots : Nat} {ls : Array Slot} {ws : va_W} {pc : Nat} {lv : Lv} {st : List Value} {h : Hp} {kc ks : Nat} {Φ : Ou → Hp → Prop} {S : Cd → Prop} {ig : Instr} {len : Nat}
theorem rel_set {q0 a : Nat} {e0 e' : va_E} (hh : ∀ b, h b = lkp ws b) (hD : va_D A ws) (he : ws[q0]? = some (a, e0)) (hD' : va_D A (ws.set q0 (a, e'))) : ∀ b, hset h a e' b = lkp (ws.set q0 (a, e')) b := by
  intro b
  rw [lkp_set hD he hD', hset, hh b]
theorem rel_push {q : Nat} {e' : va_E} (hh : ∀ b, h b = lkp ws b) (hD : va_D A ws) (hD' : va_D A (ws ++ [(q, e')])) : h q = none ∧ ∀ b, hset h q e' b = lkp (ws ++ [(q, e')]) b := by
  obtain ⟨h1, h2⟩ := lkp_push hD hD'
  exact ⟨by rw [hh]; exact h1, fun b => by rw [h2, hset, hh b]⟩
theorem arr_same {cA : ClassId} {t : Nat} (ht : t ≤ 8) (hK : va_K D clsL (tysA ar ++ [(cA, tyN t)]) s) : cA = ar t := by
  have e1 := (hK.2 t (ar t, tyN t) (by rw [List.getElem?_append_left (by simp [tysA]; omega)]; exact tysA_at ar ht)).2
  have e2 := (hK.2 9 (cA, tyN t) (by simp [tysA])).2
  have key : ∀ ty : FieldType, va_RA s (ar t) ty → va_RA s cA ty → cA = ar t := by
    intro ty a1 a2
    cases ty with
    | object C =>
      obtain ⟨_, _, _, _, _, z1⟩ := a1
      obtain ⟨_, _, _, _, _, z2⟩ := a2
      rw [z1] at z2; cases z2; rfl
    | _ =>
      have z1 : s.vm.findClass _ = some (ar t) := a1
      have z2 : s.vm.findClass _ = some cA := a2
      rw [z1] at z2; cases z2; rfl
  exact key _ e1 e2
set_option maxHeartbeats 4000000 in
theorem ah_sound (hc : Cx D ar ro sa sv p l R s m args meth c A M d) (hd : decode (mb M) pc = .ok (ig, len)) (hF : am_h ar ro S M d ig len pc lv st h kc ks Φ) (hS : ∀ q, S q → Sd D ar ro sa sv l q)
    (hl : lr ls lv) (hn : lv.length = ml M) (hh : ∀ b, h b = lkp ws b) (hP : va_P D clsL ws H) (hD : va_D A ws) (hs : va_S A s.heap H locs) (h1 : cells + kc ≤ R.cells) (h2 : slots + ks ≤ R.slots) :
    W p l e R s m args below meth c H locs cells slots (vx_MQ below (QcO D A Φ) (XcO D A Φ) args s R.cells R.slots A) (F0 m pc ls st) := by
  have hc0 := hc
  obtain ⟨hx, hb, hml, hown, hts, hG, hA, hr, hlk, htab, hnm, hRf, hRl, htr⟩ := hc0
  have hK := hG.2.1
  have go : ∀ {pc' : Nat} {lv' : Lv} {st' : List Value} {h' : Hp} {kc' ks' : Nat} {H' : Heap} {locs' : List Loc} {cells' slots' : Nat} {ls' : Array Slot} {ws' : va_W}, S (M, d, (pc', lv', st', h', kc', ks'), Φ) → lr ls' lv' → lv'.length = ml M → (∀ b, h' b = lkp ws' b) → va_P D clsL ws' H' → va_D A ws' → va_S A s.heap H' locs' → cells' + kc' ≤ R.cells → slots' + ks' ≤ R.slots → W p l e R s m args below meth c H' locs' cells' slots' (vx_MQ below (QcO D A Φ) (XcO D A Φ) args s R.cells R.slots A) (F0 m pc' ls' st') :=
    fun hq a1 a2 a3 a4 a5 a6 a7 a8 => hS _ hq p e R s m args below meth c A hc _ _ _ _ _ _ a1 a2 a3 a4 a5 a6 a7 a8
  have find : ∀ {a : Nat} {x : va_E}, h a = some x → ∃ k : Nat, ws[k]? = some (a, x) := fun q => lkp_at (by rw [← hh]; exact q)
  unfold am_h at hF
  split at hF
  · obtain ⟨ci, k, fs, v, ⟨C, T, N, g1, g2, g3, g4⟩, ha, hv, hq⟩ := hF
    obtain ⟨q0, he⟩ := find ha
    exact va_get hx hb hts g3 hown hK hP q0 he g1 k g2 (hts _ g4) (fun _ z => z) hv hd (go hq hl hn hh hP hD hs h1 h2)
  · obtain ⟨ci, k, fs, fin, ty, ⟨C, T, N, ty0, g1, g2, g3, g4, g5, g6, g7, g8, g9⟩, ha, hkl, hnr, hft, hfi, hq⟩ := hF
    obtain ⟨q0, he⟩ := find ha
    cases fin with
    | false => exact va_put hx hb hts g3 ty0 g5 g6 hown hK hP hD hs q0 he g1 k g2 (hts _ g4) (fun _ z => z) g7 g8 hnr hft hkl hd (fun H1 locs1 hP1 hD1 hS1 => go hq hl hn (rel_set hh hD he hD1) hP1 hD1 hS1 h1 h2)
    | true => exact va_putF hx hb hts g3 ty0 g5 g6 hown hK hP hD hs q0 he g1 k g2 (hts _ g4) (fun _ z => z) g7 (by rw [hnm]; exact hfi rfl) (g9 rfl) g8 hnr hft hkl hd (fun H1 locs1 hP1 hD1 hS1 => go hq hl hn (rel_set hh hD he hD1) hP1 hD1 hS1 h1 h2)
  · rcases hF with ⟨n, f, ha, hi, hq⟩ | ⟨n, f, ha, hi, hq⟩
    · obtain ⟨q0, he⟩ := find ha
      exact va_iald hx hb hK hP q0 0 he (tysA_at ar (by omega)) hi hd (go hq hl hn hh hP hD hs h1 h2)
    · obtain ⟨x1, x2, x3⟩ := hG.2.2.2.2.2.2.2.2 _ n f ha
      exact va_sld hx hb x1 x2 x3 hs hi hd (go hq hl hn hh hP hD hs h1 h2)
  · obtain ⟨n, f, ha, hi, hq⟩ := hF
    obtain ⟨q0, he⟩ := find ha
    exact va_lald hx hb hK hP q0 1 he (tysA_at ar (by omega)) hi hd (go hq hl hn hh hP hD hs h1 h2)
  · obtain ⟨t, n, f, ht, ha, hi, hq⟩ := hF
    obtain ⟨q0, he⟩ := find ha
    rcases ht with rfl | rfl
    · exact va_zald hx hb hK hP q0 2 he (tysA_at ar (by omega)) hi hd (go hq hl hn hh hP hD hs h1 h2)
    · exact va_bald hx hb hK hP q0 3 he (tysA_at ar (by omega)) hi hd (go hq hl hn hh hP hD hs h1 h2)
  · obtain ⟨t, n, f, t1, t2, ha, hi, hq⟩ := hF
    obtain ⟨q0, he⟩ := find ha
    have hto : ∃ C, tyN t = .object C := by
      rcases (show t = 4 ∨ t = 5 ∨ t = 6 ∨ t = 7 ∨ t = 8 by omega) with rfl | rfl | rfl | rfl | rfl <;> exact ⟨_, rfl⟩
    obtain ⟨C, hC⟩ := hto
    exact va_aldq hx hb hK hP q0 t he (by rw [tysA_at ar t2, hC]) hi hd (go hq hl hn hh hP hD hs h1 h2)
  · obtain ⟨n, f, ha, hi, hq⟩ := hF
    obtain ⟨q0, he⟩ := find ha
    exact va_iast hx hb hK hP hD hs q0 0 he (tysA_at ar (by omega)) hi hd (fun H1 locs1 hP1 hD1 hS1 => go hq hl hn (rel_set hh hD he hD1) hP1 hD1 hS1 h1 h2)
  · obtain ⟨n, f, ha, hi, hq⟩ := hF
    obtain ⟨q0, he⟩ := find ha
    exact va_last hx hb hK hP hD hs q0 1 he (tysA_at ar (by omega)) hi hd (fun H1 locs1 hP1 hD1 hS1 => go hq hl hn (rel_set hh hD he hD1) hP1 hD1 hS1 h1 h2)
  · obtain ⟨t, n, f, ht, ha, hi, hq⟩ := hF
    obtain ⟨q0, he⟩ := find ha
    rcases ht with rfl | rfl
    · exact va_zast hx hb hK hP hD hs q0 2 he (tysA_at ar (by omega)) hi hd (fun H1 locs1 hP1 hD1 hS1 => go hq hl hn (rel_set hh hD he hD1) hP1 hD1 hS1 h1 h2)
    · exact va_bast hx hb hK hP hD hs q0 3 he (tysA_at ar (by omega)) hi hd (fun H1 locs1 hP1 hD1 hS1 => go hq hl hn (rel_set hh hD he hD1) hP1 hD1 hS1 h1 h2)
  · obtain ⟨t, n, ci, f, vs, r, t1, t2, ha, hv, hcl, hty, hi, hq⟩ := hF
    obtain ⟨q0, he⟩ := find ha
    obtain ⟨qk, hek⟩ := find hv
    exact va_astq hx hb hK hP hD hs q0 t qk ci he (by rw [tysA_at ar t2, hty]) hek hcl hi hd (fun H1 locs1 hP1 hD1 hS1 => go hq hl hn (rel_set hh hD he hD1) hP1 hD1 hS1 h1 h2)
  · rcases hF with ⟨t, x, t2, ha, hq⟩ | ⟨n, f, ha, hq⟩
    · obtain ⟨q0, he⟩ := find ha
      exact va_alen hx hb hK hP q0 t he (tysA_at ar t2) rfl hd (go hq hl hn hh hP hD hs h1 h2)
    · obtain ⟨x1, x2, x3⟩ := hG.2.2.2.2.2.2.2.2 _ n f ha
      exact va_slen hx hb x1 x2 x3 hs hd (go hq hl hn hh hP hD hs h1 h2)
  · obtain ⟨ci, fs, ⟨C, T, N, ty, g1, g3, g5, g6, g7, g8, g9, g10⟩, hk1, hk2, hq⟩ := hF
    subst g10
    exact va_new hx hb hts g3 ty g5 hown (hts _ g6) (hts _ g7) (hts _ g8) hK hP hD hs hA g1 g9 (by omega) (by omega) hd (fun q H1 hP1 hD1 hS1 => go (hq q (rel_push hh hD hD1).1) hl hn (rel_push hh hD hD1).2 hP1 hD1 hS1 (by omega) (by omega))
  · rename_i n st0
    obtain ⟨hn0, hn1, hk1, hk2, hq⟩ := hF
    refine va_newa (atype := .int) (N' := n.toNatClampNeg) hx hb (hts _ arC0) (ty := .int) rfl hK hP hD hs hA (a0 := (n.toNatClampNeg, .inl (fun _ => 0))) (fun _ => rfl) hn0 rfl (by show _ * 4 ≤ _; omega) (by omega) (by omega) hd (fun q cA H1 hK1 hP1 hD1 hS1 => ?_)
    obtain rfl : cA = ar 0 := arr_same (t := 0) (by omega) hK1
    exact go (hq q (rel_push hh hD hD1).1) hl hn (rel_push hh hD hD1).2 hP1 hD1 hS1 (by omega) (by omega)
  · rename_i n st0
    obtain ⟨hn0, hn1, hk1, hk2, hq⟩ := hF
    refine va_newa (atype := .long) (N' := n.toNatClampNeg) hx hb (hts _ arC1) (ty := .long) rfl hK hP hD hs hA (a0 := (n.toNatClampNeg, .inr (.inl (fun _ => 0)))) (fun _ => rfl) hn0 rfl (by show _ * 8 ≤ _; omega) (by omega) (by omega) hd (fun q cA H1 hK1 hP1 hD1 hS1 => ?_)
    obtain rfl : cA = ar 1 := arr_same (t := 1) (by omega) hK1
    exact go (hq q (rel_push hh hD hD1).1) hl hn (rel_push hh hD hD1).2 hP1 hD1 hS1 (by omega) (by omega)
  · rename_i n st0
    obtain ⟨hn0, hn1, hk1, hk2, hq⟩ := hF
    refine va_newa (atype := .boolean) (N' := n.toNatClampNeg) hx hb (hts _ arC2) (ty := .boolean) rfl hK hP hD hs hA (a0 := (n.toNatClampNeg, .inl (fun _ => 0))) (fun _ => rfl) hn0 rfl (by show _ * 1 ≤ _; omega) (by omega) (by omega) hd (fun q cA H1 hK1 hP1 hD1 hS1 => ?_)
    obtain rfl : cA = ar 2 := arr_same (t := 2) (by omega) hK1
    exact go (hq q (rel_push hh hD hD1).1) hl hn (rel_push hh hD hD1).2 hP1 hD1 hS1 (by omega) (by omega)
  · rename_i n st0
    obtain ⟨hn0, hn1, hk1, hk2, hq⟩ := hF
    refine va_newa (atype := .byte) (N' := n.toNatClampNeg) hx hb (hts _ arC3) (ty := .byte) rfl hK hP hD hs hA (a0 := (n.toNatClampNeg, .inl (fun _ => 0))) (fun _ => rfl) hn0 rfl (by show _ * 1 ≤ _; omega) (by omega) (by omega) hd (fun q cA H1 hK1 hP1 hD1 hS1 => ?_)
    obtain rfl : cA = ar 3 := arr_same (t := 3) (by omega) hK1
    exact go (hq q (rel_push hh hD hD1).1) hl hn (rel_push hh hD hD1).2 hP1 hD1 hS1 (by omega) (by omega)
  · obtain ⟨t, C, t1, t2, hC, hcl, hov, hn0, hn1, hk1, hk2, hq⟩ := hF
    refine va_newq hx hb hown (hts _ hcl) (hG.1 _ hov) hK hP hD hs hA hn0 rfl (by omega) (by omega) (by omega) hd (fun q cA H1 hK1 hP1 hD1 hS1 => ?_)
    rw [← hC] at hK1
    obtain rfl : cA = ar t := arr_same t2 hK1
    exact go (hq q (rel_push hh hD hD1).1) hl hn (rel_push hh hD hD1).2 hP1 hD1 hS1 (by omega) (by omega)
  · exact hF.elim
end HS
end
section
/-! am_d, am_e, am_j -/
section DS
variable {D : va_G} {ar : Nat → ClassId} {ro : Nat → Option (Nat × (Nat → Int32))} {sa sv : Nat → Nat} {l : Launch}
variable {p : Program} {e : Env} {R : Room} {s : State} {m : MethodId} {args : Array Value} {below : List Frame} {meth : Method} {c : Code} {A : Nat → Prop} {M : Mth} {d : Nat}
variable {H : Heap} {locs : List Loc} {cells slots : Nat} {ls : Array Slot} {ws : va_W} {pc : Nat} {lv : Lv} {st : List Value} {h : Hp} {kc ks : Nat} {Φ : Ou → Hp → Prop} {S : Cd → Prop} {ig : Instr} {len : Nat}
theorem ldcw_str {cc : ByteArray} {Q : State → Prop} {rest : List Value} (hexec : p.tables.exec = Jvm.exec) (hb : c.code = cc) {own tx : String} {index q : Nat} (hown : s.vm.findClass own = some m.cls) (hZ : vk_R own index tx q s) (hdg : decode cc pc = .ok (.ldc_w index, 3))
    (k : W p l e R s m args below meth c H locs cells slots Q (F0 m (pc + 3) ls (.ref q :: rest))) : W p l e R s m args below meth c H locs cells slots Q (F0 m pc ls rest) := by
  intro T hT X
  obtain ⟨t, a1, b1⟩ := k T hT X
  refine ⟨t, ?_, b1⟩
  have hdg : decode c.code pc = .ok (.ldc_w index, 3) := by rw [hb]; exact hdg
  obtain ⟨k, cf, i, a', hk, hcf, hcp, -, hr, hev'⟩ := Cond.stringRef_spec hown hZ.1
  cases hZ.2.symm.trans hev'
  obtain ⟨k', hk', he⟩ := X.warmed.alike.2.2 _ _ hk
  have hr' : k'.resolved[index]? = some (some (.string q)) := by
    rcases X.warmed.entry hk hk' index with h | ⟨h, -⟩
    · rw [h]; exact hr
    · rw [hr] at h; cases h
  jvm_step X.here [hexec, hdg, ldc_w.wp_string (e := e) (s := T) (f := F0 m pc ls rest) X.here.top hk' (by rw [he]; exact hcf) hcp hr']
  exact a1
set_option maxHeartbeats 4000000 in
theorem ad_sound (hc : Cx D ar ro sa sv p l R s m args meth c A M d) (hd : decode (mb M) pc = .ok (ig, len)) (hF : am_d sa S M d ig len pc lv st h kc ks Φ) (hS : ∀ q, S q → Sd D ar ro sa sv l q)
    (hl : lr ls lv) (hn : lv.length = ml M) (hh : ∀ b, h b = lkp ws b) (hP : va_P D clsL ws H) (hD : va_D A ws) (hs : va_S A s.heap H locs) (h1 : cells + kc ≤ R.cells) (h2 : slots + ks ≤ R.slots) :
    W p l e R s m args below meth c H locs cells slots (vx_MQ below (QcO D A Φ) (XcO D A Φ) args s R.cells R.slots A) (F0 m pc ls st) := by
  have hc0 := hc
  obtain ⟨hx, hb, hml, hown, hts, hG, hA, hr, hlk, htab, hnm, hRf, hRl, htr⟩ := hc0
  have go : ∀ {pc' : Nat} {st' : List Value}, S (M, d, (pc', lv, st', h, kc, ks), Φ) → W p l e R s m args below meth c H locs cells slots (vx_MQ below (QcO D A Φ) (XcO D A Φ) args s R.cells R.slots A) (F0 m pc' ls st') :=
    fun hq => hS _ hq p e R s m args below meth c A hc _ _ _ _ _ _ hl hn hh hP hD hs h1 h2
  unfold am_d at hF
  split at hF
  · exact lv_idiv hx hb hd hF.1 (go hF.2)
  · exact lv_irem hx hb hd hF.1 (go hF.2)
  · exact lv_ldiv hx hb hd hF.1 (go hF.2)
  · rcases hF with ⟨v, g1, hq⟩ | ⟨j, tx, g1, hq⟩
    · exact lv_ldc hx hb hown (hts _ g1) hd (go hq)
    · exact va_ldcS hx hb hown (hG.2.2.2.2.2.2.1 j _ _ _ g1) hd (go hq)
  · rcases hF with ⟨v, g1, hq⟩ | ⟨j, tx, g1, hq⟩
    · exact lv_ldcw hx hb hown (hts _ g1) hd (go hq)
    · exact ldcw_str hx hb hown (hG.2.2.2.2.2.2.1 j _ _ _ g1) hd (go hq)
  · obtain ⟨v, g1, hq⟩ := hF
    exact lv_ldc2 hx hb hown (hts _ g1) hd (go hq)
  · obtain ⟨g1, g2, hq⟩ := hF
    exact lv_lookup hx hb hd g1 rfl (tgt_ok g2) (go hq)
  · obtain ⟨g1, g2⟩ := hF
    rename_i df lo hi offs x st0
    by_cases c1 : x.toInt < lo
    · exact lv_tableOut hx hb hd (Or.inl c1) (tgt_ok (g1 (Or.inl c1)).1) (go (g1 (Or.inl c1)).2)
    · by_cases c2 : hi < x.toInt
      · exact lv_tableOut hx hb hd (Or.inr c2) (tgt_ok (g1 (Or.inr c2)).1) (go (g1 (Or.inr c2)).2)
      · obtain ⟨off, f1, f2, hq⟩ := g2 c1 c2
        exact lv_tableIn hx hb hd c1 c2 f1 (tgt_ok f2) (go hq)
  · exact hF.elim
theorem ww_ret {t : State} (hh : ∀ b, h b = lkp ws b) (hP : va_P D clsL ws H) (hD : va_D A ws) (hs : va_S A s.heap H locs) (ht : t.heap = H) : Ww D A h ws s t := ⟨hh, by rw [ht]; exact hP, hD, hs.F ht⟩
theorem ww_thr {t : State} (hh : ∀ b, h b = lkp ws b) (hP : va_P D clsL ws H) (hD : va_D A ws) (hs : va_S A s.heap H locs) (hz : H.size ≤ t.heap.size) (hk : ∀ q : Nat, q < H.size → t.heap[q]? = H[q]?) : Ww D A h ws s t := by
  refine ⟨hh, fun k q hq => (hP k q hq).kept (hk q.1 ((hP k q hq).lt)), hD, Nat.le_trans hs.1 hz, fun q a1 a2 => ?_⟩
  rw [hk q (Nat.lt_of_lt_of_le a1 hs.1)]
  exact hs.2.1 q a1 a2
theorem exL_use {w : Cond} (hw : w ∈ exL) (h : va_Nw w s) : w.before args s = true := by
  rcases exL_kind hw with ⟨a, b, c, d, rfl⟩ | ⟨a, b, rfl⟩ | ⟨C, rfl⟩
  · exact h.use rfl
  · exact h.use rfl
  · exact va_AO.use h
set_option maxHeartbeats 4000000 in
theorem ae_sound (hc : Cx D ar ro sa sv p l R s m args meth c A M d) (hd : decode (mb M) pc = .ok (ig, len)) (hF : am_e M ig len pc st h kc ks Φ)
    (hl : lr ls lv) (hn : lv.length = ml M) (hh : ∀ b, h b = lkp ws b) (hP : va_P D clsL ws H) (hD : va_D A ws) (hs : va_S A s.heap H locs) (h1 : cells + kc ≤ R.cells) (h2 : slots + ks ≤ R.slots) :
    W p l e R s m args below meth c H locs cells slots (vx_MQ below (QcO D A Φ) (XcO D A Φ) args s R.cells R.slots A) (F0 m pc ls st) := by
  obtain ⟨hx, hb, hml, hown, hts, hG, hA, hr, hlk, htab, hnm, hRf, hRl, htr⟩ := hc
  unfold am_e at hF
  split at hF
  · obtain ⟨g1, hq⟩ := hF
    refine W.widen (k := R.cells) (n := R.slots) (by omega) (by omega) (vx_ret ?_)
    rcases g1 with g1 | ⟨g1, g2⟩
    · exact W.iret hx hb (hr.trans g1) (fun t ht _ => ⟨_, h, ws, rfl, hq, ww_ret hh hP hD hs ht⟩) hs.2.2 hd
    · exact W.zret hx hb (hr.trans g1) g2 (fun t ht _ => ⟨_, h, ws, rfl, hq, ww_ret hh hP hD hs ht⟩) hs.2.2 hd
  · obtain ⟨g1, hq⟩ := hF
    refine W.widen (k := R.cells) (n := R.slots) (by omega) (by omega) (vx_ret ?_)
    exact W.lret hx hb (hr.trans g1) (fun t ht _ => ⟨_, h, ws, rfl, hq, ww_ret hh hP hD hs ht⟩) hs.2.2 hd
  · obtain ⟨g1, hq⟩ := hF
    refine W.widen (k := R.cells) (n := R.slots) (by omega) (by omega) (vx_ret ?_)
    exact W.vret hx hb (hr.trans g1) (fun t ht _ => ⟨_, h, ws, rfl, hq, ww_ret hh hP hD hs ht⟩) hs.2.2 hd
  · obtain ⟨ic, E, names, g0, g1, g2, g3, g4, g5, e3, e4, e7, g6, g7, g8, g9, hq⟩ := hF
    refine vx_throw0 (A := A) (names := names) hx hb htr hown g1 g2 (hts _ g3) (hts _ g4) (fun w hw => ?_) (fun w hw => ?_) hG.2.2.2.1 hG.2.2.2.2.1 hs (by rw [hl.1, hn, hml]) hd e3 e4 e7 (fun x hx => ?_) (by omega) (by omega) (by omega) (by omega) hlk (fun t _ hz hk => ⟨h, ws, hq, ww_thr hh hP hD hs hz hk⟩) hs.2.2 (by omega) (by omega)
    · rcases (g5 w hw).1 with z | z
      · exact hts _ z
      · exact exL_use z (hG.1 w z)
    · rcases List.mem_cons.mp hw with rfl | hw
      · rfl
      · rcases List.mem_cons.mp hw with rfl | hw
        · rfl
        · exact (g5 w hw).2
    · rw [htab, g0] at hx; cases hx
  · exact hF.elim
set_option maxHeartbeats 4000000 in
theorem aj_sound (hc : Cx D ar ro sa sv p l R s m args meth c A M d) (hd : decode (mb M) pc = .ok (ig, len)) (hF : am_j ar sa S M d ig len pc lv st h kc ks Φ) (hS : ∀ q, S q → Sd D ar ro sa sv l q)
    (hl : lr ls lv) (hn : lv.length = ml M) (hh : ∀ b, h b = lkp ws b) (hP : va_P D clsL ws H) (hD : va_D A ws) (hs : va_S A s.heap H locs) (h1 : cells + kc ≤ R.cells) (h2 : slots + ks ≤ R.slots) :
    W p l e R s m args below meth c H locs cells slots (vx_MQ below (QcO D A Φ) (XcO D A Φ) args s R.cells R.slots A) (F0 m pc ls st) := by
  have hc0 := hc
  obtain ⟨hx, hb, hml, hown, hts, hG, hA, hr, hlk, htab, hnm, hRf, hRl, htr⟩ := hc0
  have hK := hG.2.1
  have go : ∀ {pc' : Nat} {st' : List Value} {h' : Hp} {H' : Heap} {locs' : List Loc} {ws' : va_W}, S (M, d, (pc', lv, st', h', kc, ks), Φ) → (∀ b, h' b = lkp ws' b) → va_P D clsL ws' H' → va_D A ws' → va_S A s.heap H' locs' → W p l e R s m args below meth c H' locs' cells slots (vx_MQ below (QcO D A Φ) (XcO D A Φ) args s R.cells R.slots A) (F0 m pc' ls st') :=
    fun hq a3 a4 a5 a6 => hS _ hq p e R s m args below meth c A hc _ _ _ _ _ _ hl hn a3 a4 a5 a6 h1 h2
  have find : ∀ {a : Nat} {x : va_E}, h a = some x → ∃ k : Nat, ws[k]? = some (a, x) := fun q => lkp_at (by rw [← hh]; exact q)
  unfold am_j at hF
  split at hF
  · rename_i i0 a0 st0
    obtain ⟨g1, g2, g3, g4, hq⟩ := hF
    refine W.objInit hx hb hown (hts _ g1) (hts _ g2) (hts _ g3) rfl (by rw [hml]; exact hl.1.trans hn) rfl hd (by omega) ?_ (W.eq rfl (go hq hh hP hD hs))
    have := lv_room (m := m) (pc := pc) (ls := ls) (rest := .ref a0 :: st0) g4
    omega
  · obtain ⟨g1, g2, g3, g4, g5, z1, z2, z3, t, n0, n1, f, g, ht, ha, hb2, i1, i2, hft, hq⟩ := hF
    obtain ⟨q0, he⟩ := find ha
    obtain ⟨q1, he1⟩ := find hb2
    have ht8 : t ≤ 8 := by omega
    refine va_copyi hx hb (by rw [hml]; exact (hl.1.trans hn).symm) hown (hts _ g1) (hts _ g2) (hts _ g3) (hts _ g4) hK hP hD hs q0 q1 t t he he1 (tysA_at ar ht8) (tysA_at ar ht8) (by rcases ht with rfl | rfl <;> rfl) z1 z2 z3 i1 i2 hft (by omega) ?_ hd (fun H1 locs1 hP1 hD1 hS1 => go hq (rel_set hh hD he1 hD1) hP1 hD1 hS1)
    have : nativeFrameWords "java/lang/System" "arraycopy" 5 ≤ 100 := by decide +kernel
    omega
  · rcases hF with ⟨g1, g2, g3, g4, g5, hq⟩ | ⟨g1, g2, g3, g4, g5, hq⟩
    · exact va_mmax hx hb (by rw [hml]; exact (hl.1.trans hn).symm) hown (hts _ g1) (hts _ g2) (hts _ g3) (hts _ g4) (by omega) (by omega) (by omega) (by omega) hd (go hq hh hP hD hs)
    · exact va_mmin hx hb (by rw [hml]; exact (hl.1.trans hn).symm) hown (hts _ g1) (hts _ g2) (hts _ g3) (hts _ g4) (by omega) (by omega) (by omega) (by omega) hd (go hq hh hP hD hs)
  · sorry
  · sorry
  · obtain ⟨g1, g2, g3, g4, g5, hq⟩ := hF
    exact va_mabs_long hx hb (by rw [hml]; exact (hl.1.trans hn).symm) hown (hts _ g1) (hts _ g2) (hts _ g3) (hts _ g4) (by omega) (by omega) (by omega) (by omega) hd (go hq hh hP hD hs)
  · exact hF.elim
end DS
end
section
/-! calls are sound; WP is sound -/
section CS
variable {D : va_G} {ar : Nat → ClassId} {ro : Nat → Option (Nat × (Nat → Int32))} {sa sv : Nat → Nat} {l : Launch}
abbrev rmD (d mc ms : Nat) : Room := { frames := d + 8, cells := mc, slots := ms, locals := 80 * d + 160 }
def entL (av : List Value) (n : Nat) : Lv := (lg_sl av ++ List.replicate (n - (lg_sl av).length) Slot.unset).map (fun z => match z with | .val v => some v | _ => none)
def PcM (D : va_G) (ar : Nat → ClassId) (ro : Nat → Option (Nat × (Nat → Int32))) (sa sv : Nat → Nat) (av : List Value) (ws : va_W) (sz : Nat) : Array Value → State → Prop := fun a U => a = av.toArray ∧ U.heap.size = sz ∧ va_P D clsL ws U.heap ∧ va_D (fun _ => True) ws ∧ Gw D ar ro sa sv U U.heap (va_A ws sz)
theorem entL_lr {av : List Value} {n : Nat} (h : (lg_sl av).length ≤ n) : lr ((lg_sl av ++ List.replicate (n - (lg_sl av).length) Slot.unset).toArray) (entL av n) := by
  have h0 := lv_entry av h
  refine ⟨by simp [entL], h0.2.1, fun i v hv => ?_⟩
  simp only [entL, ldl, List.getElem?_map] at hv
  rw [List.getElem?_toArray]
  cases e : (lg_sl av ++ List.replicate (n - (lg_sl av).length) Slot.unset)[i]? with
  | none => rw [e] at hv; cases hv
  | some z =>
    rw [e] at hv
    cases z with
    | val w => cases hv; rfl
    | second => cases hv
    | unset => cases hv
theorem entL_len {av : List Value} {n : Nat} (h : (lg_sl av).length ≤ n) : (entL av n).length = n := by simp [entL]; omega
theorem good_tbl : GoodIn tblG tblG := fun w hw => ⟨hw, good_of_word (List.mem_filter.mp hw).2⟩
theorem good_cons {w : Cond} (hw : w ∈ tblG) : GoodIn tblG (w :: tblG) := fun x hx => (List.mem_cons.mp hx).elim (fun q => by rw [q]; exact good_tbl w hw) (good_tbl x)
set_option maxHeartbeats 4000000 in
theorem met_of (htr : l.stackTraces = false) {M : Mth} {d n mc ms : Nat} {av : List Value} {h : Hp} {Ψ : Ou → Hp → Prop} (hM : MOk M n) (hal : (lg_sl av).length ≤ ml M) (hq : Sd D ar ro sa sv l (M, d, (0, entL av (ml M), [], h, mc, ms), Ψ)) (ws : va_W) (sz : Nat) (hh : ∀ b, h b = lkp ws b) :
    vx_Met l (my M) (mw M :: tblG) (rmD d mc ms) (PcM D ar ro sa sv av ws sz) (QcO D (va_A ws sz) Ψ) (XcO D (va_A ws sz) Ψ) mc ms (va_A ws sz) := by
  obtain ⟨m1, m2, m3, m4, m5, m6, m7⟩ := hM
  have main : ∀ (p : Program) (e : Env) (s : State) (m : MethodId) (args : Array Value) (below : List Frame) (meth : Method) (c : Code), p.tables.exec = Jvm.exec → c.code = mb M → c.maxLocals = ml M → s.vm.findClass (my M).cls = some m.cls → (∀ w ∈ tblG, w.before args s = true) → meth.sig.returnType = mr M → meth.locks = false → c.exceptionTable.toList = tableOf (mh M) → meth.name = (my M).name → PcM D ar ro sa sv av ws sz args s →
      W p l e (rmD d mc ms) s m args below meth c s.heap [] 0 0 (vx_MQ below (QcO D (va_A ws sz) Ψ) (XcO D (va_A ws sz) Ψ) args s mc ms (va_A ws sz)) (entryFrame m args (ml M)) := by
    intro p e s m args below meth c a1 a2 a3 a4 a5 a6 a7 a8 a9 hp
    obtain ⟨rfl, hsz, hP, hD, hG⟩ := hp
    subst hsz
    rw [lg_entry_eq]
    exact hq p e (rmD d mc ms) s m _ below meth c (va_A ws s.heap.size) ⟨a1, a2, a3, by rw [← m1]; exact a4, a5, hG, fun q z => Or.inr z, a6, a7, a8, a9, Nat.le_refl _, Nat.le_refl _, htr⟩ s.heap [] 0 0 _ ws (entL_lr hal) (entL_len hal) hh hP hD.self va_S.rf (by simp) (by simp)
  cases hmh : mh M with
  | nil =>
    have hw : mw M = Cond.code (my M) (mb M) (ml M) (mr M) := by simp only [mw, hmh]
    rw [hw]
    refine vx_ofW (cc := mb M) (maxL := ml M) (ret := mr M) m2 rfl ?_
    intro p e s m args below meth c s₁ B hml ht hPc
    have hts := atoms_spec (ws := Cond.code (my M) (mb M) (ml M) (mr M) :: tblG) B.pre
    refine main p e s m args below meth c B.exec B.bytes hml (findClass_of_methodNamed B.named) (fun w hw => hts w (List.mem_cons_of_mem _ hw)) B.returns B.notSynchronized ?_ (name_of_methodNamed B.named B.method).1 hPc
    rw [hmh]
    exact List.eq_nil_iff_forall_not_mem.mpr (fun x hx => ht x hx)
  | cons x t =>
    have hw : mw M = Cond.codeWith (my M) (mb M) (ml M) (mr M) (x :: t) := by simp only [mw, hmh]
    rw [hw]
    refine vx_ofWH (cc := mb M) (maxL := ml M) (ret := mr M) (hh := x :: t) m2 rfl ?_
    intro p e s m args below meth c s₁ B hml hPc
    have hts := atoms_spec (ws := Cond.codeWith (my M) (mb M) (ml M) (mr M) (x :: t) :: tblG) B.pre
    refine main p e s m args below meth c B.exec B.bytes hml (findClass_of_methodNamed B.named) (fun w hw => hts w (List.mem_cons_of_mem _ hw)) B.returns B.notSynchronized ?_ (name_of_methodNamed B.named B.method).1 hPc
    rw [hmh]
    exact vx_table (x := my M) B (hts _ List.mem_cons_self)
theorem met_plain {y : MethodName} {ws : List Cond} {rm : Room} {Pc : Array Value → State → Prop} {Qc : Array Value → State → Outcome → State → Prop} {XC : String → State → State → Prop} {mc ms : Nat} {free : Addr → Prop} (hM : vx_Met l y ws rm Pc Qc XC mc ms free) (hX : ∀ E st t, ¬ XC E st t) : Met l y ws rm Pc Qc mc ms free := by
  intro p e a1 a2 a3 s m args below a4 a5 a6 a7
  obtain ⟨n, o, b1, b2, b3, b4⟩ := hM p e a1 a2 a3 s m args below a4 a5 a6 a7
  refine ⟨n, o, b1, b2, b3, ?_⟩
  rcases b4 with b4 | ⟨q, -, E, ce, L, hx, -⟩
  · exact b4
  · exact (hX _ _ _ hx).elim
variable {p : Program} {e : Env} {R : Room} {s : State} {m : MethodId} {args : Array Value} {below : List Frame} {meth : Method} {c : Code} {A : Nat → Prop} {M : Mth} {d : Nat}
variable {H : Heap} {locs : List Loc} {cells slots : Nat} {ls : Array Slot} {ws : va_W} {pc : Nat} {lv : Lv} {st : List Value} {h : Hp} {kc ks : Nat} {Φ : Ou → Hp → Prop} {S : Cd → Prop} {ig : Instr} {len : Nat}
theorem run_vx {mc ms : Nat} {g : JFrame} {rest : List Value} {Qa : State → Outcome → State → Prop} {XC : String → State → State → Prop} {free : Addr → Prop} (h : va_Run p l e R s m args below meth c H locs cells slots mc ms g rest Qa free) : vx_Run p l e R s m args below meth c H locs cells slots mc ms g rest Qa XC free := fun T hT X => Or.inl (h T hT X)
theorem call_W {mc ms : Nat} {st0 rest : List Value} {a : Array Value} {A1 : Nat → Prop} {Ψ : Ou → Hp → Prop} {Q : State → Prop} (hr : vx_Run p l e R s m args below meth c H locs cells slots mc ms (F0 m pc ls st0) rest (QcO D A1 Ψ a) (XcO D A1 Ψ) A1) (hS : va_S A s.heap H locs) (hA1 : ∀ q, A1 q → A q)
    (kk : ∀ (v : Option Value) (h' : Hp) (H1 : Heap) (locs1 : List Loc) (ws' : va_W), Ψ (.inl v) h' → (∀ b, h' b = lkp ws' b) → va_P D clsL ws' H1 → va_D A ws' → va_S A s.heap H1 locs1 → W p l e R s m args below meth c H1 locs1 (cells + mc) (slots + ms) Q (F0 m (pc + 3) ls (v.toList ++ rest)))
    (kx : ∀ (E : String) (h' : Hp) (H1 : Heap) (locs1 : List Loc) (ws' : va_W) (q : Addr) (ce : Cell), Ψ (.inr E) h' → (∀ b, h' b = lkp ws' b) → va_P D clsL ws' H1 → va_D A ws' → va_S A s.heap H1 locs1 → H1[q]? = some ce → ce.vm = .none → s.vm.findClass E = some ce.cls → vx_W p l e R s m args below meth c H1 locs1 (cells + mc) (slots + ms) Q (F0 m pc ls rest) q) :
    W p l e R s m args below meth c H locs cells slots Q (F0 m pc ls st0) := by
  intro T hT X
  rcases hr T hT X with ⟨v, st₀, t, T', L, h0, X', hL, e1, e2, ⟨v', h', ws', hv, hp, hb, hP1, hD1, hF⟩, st⟩ | ⟨q, st₀, t, T', L, E, ce, h0, X', hL, e1, e2, ⟨h', ws', hp, hb, hP1, hD1, hF⟩, hce, hcv, hcl, st⟩
  · cases hv
    obtain ⟨-, -, k3⟩ := vx_keep h0 e1 hS (fun q _ z => hA1 q z) hA1 hL hF
    obtain ⟨t2, a1, b1⟩ := kk v h' T'.heap (locs ++ L) ws' hp hb (by rw [e1]; exact hP1) (hD1.weaken (fun k q _ z => hA1 q.1 z)) k3 T' rfl X'
    exact ⟨t2, st t2 a1, b1⟩
  · obtain ⟨-, -, k3⟩ := vx_keep h0 e1 hS (fun q _ z => hA1 q z) hA1 hL hF
    obtain ⟨t2, a1, b1⟩ := kx E h' T'.heap (locs ++ L) ws' q ce hp hb (by rw [e1]; exact hP1) (hD1.weaken (fun k q _ z => hA1 q.1 z)) k3 (by rw [e1]; exact hce) hcv hcl T' rfl X'
    exact ⟨t2, st.trans a1, b1⟩
theorem pc_blind {av : List Value} {sz : Nat} : FrameBlind (PcM D ar ro sa sv av ws sz) := by
  intro a U g mk hp
  obtain ⟨h1, h2, h3, h4, h5⟩ := hp
  exact ⟨h1, h2, h3, h4, h5.to (U := U.calling g mk a) (H := U.heap) (State.WarmedH.refl U) (Nat.le_refl _) (fun _ _ _ => rfl) (fun _ z => z)⟩
set_option maxHeartbeats 4000000 in
theorem ac_sound (hc : Cx D ar ro sa sv p l R s m args meth c A M d) (hd : decode (mb M) pc = .ok (ig, len)) (hF : am_c S M d ig len pc lv st h kc ks Φ) (hS : ∀ q, S q → Sd D ar ro sa sv l q)
    (hl : lr ls lv) (hn : lv.length = ml M) (hh : ∀ b, h b = lkp ws b) (hP : va_P D clsL ws H) (hD : va_D A ws) (hs : va_S A s.heap H locs) (h1 : cells + kc ≤ R.cells) (h2 : slots + ks ≤ R.slots) :
    W p l e R s m args below meth c H locs cells slots (vx_MQ below (QcO D A Φ) (XcO D A Φ) args s R.cells R.slots A) (F0 m pc ls st) := by
  obtain ⟨idx, kind, d', mc, ms, M', As, rest, av, Ψ, hdd, hlen, ⟨hM, hlnk, hkind⟩, hst, hw8, hal, hmc, hms, hq, hk, hkx⟩ := hF
  subst hlen
  have hc0 := hc
  obtain ⟨hx, hb, hml, hown, hts, hG, hA, hr, hlk, htab, hnm, hRf, hRl, htr⟩ := hc0
  obtain ⟨m1, m2, m3, m4, m5, m6, m7⟩ := id hM
  have hA1 : ∀ q, va_A ws H.size q → A q := va_free (wc := ws) hD hs hA (List.range ws.length) (by
    apply List.ext_getElem? ; intro i
    simp only [List.getElem?_map, List.getElem?_range]
    rcases Nat.lt_or_ge i ws.length with q | q
    · simp [q]
    · simp [q, Nat.not_lt.mpr q])
  have hMet := met_of htr hM hal (hS _ hq) ws H.size hh
  have hGH : ∀ U : State, U.heap = H → s.WarmedH U.vm → PcM D ar ro sa sv av ws H.size av.toArray U := fun U hU hW => ⟨rfl, by rw [hU], by rw [hU]; exact hP, hD.weaken (fun _ _ _ _ => trivial), by rw [hU]; exact hG.to hW hs.1 hs.2.1 hA1⟩
  have hCF : CallFix p m c (mb M) (ml M) s args tblG (cn (mo M)) := ⟨hx, hb, hml, hown, hts⟩
  have hsz : (F0 m pc ls st).locals.size = ml M := hl.1.trans hn
  have hRoom : (rmD d' mc ms).frames + 1 ≤ R.frames ∧ 8 + (ml M' + 11) + (rmD d' mc ms).locals ≤ R.locals := ⟨by show d' + 8 + 1 ≤ _; omega, by show 8 + (ml M' + 11) + (80 * d' + 160) ≤ _; omega⟩
  have hwt : 2 * (F0 m pc ls st).monitorRoom + (rest.map fun v => v.category).sum ≤ 8 := lv_room hw8
  have hf : cells + mc ≤ R.cells ∧ slots + ms ≤ R.slots := ⟨by omega, by omega⟩
  have hdd2 : (my M').cls ≠ "java/lang/invoke/MethodHandle" ∧ (my M').cls ≠ "java/lang/invoke/VarHandle" ∧ (parseMethodDescriptor (my M').desc).map (fun d => d.parameters.length) = some As.length := ⟨m3.1, m3.2, m4⟩
  have hnone : (¬ Cond.methodLink (cn (mo M)) idx (my M') ∈ tblG ∨ kind = 2) → ∀ E st t, ¬ XcO D (va_A ws H.size) Ψ E st t := by
    rintro hz E st t ⟨h', ws', hp, -⟩
    obtain ⟨⟨y1, y2⟩, -⟩ := hkx E h' hp
    rcases hz with z | z
    · exact z y1
    · exact y2 z
  have hrun : vx_Run p l e R s m args below meth c H locs cells slots mc ms (F0 m pc ls st) rest (QcO D (va_A ws H.size) Ψ av.toArray) (XcO D (va_A ws H.size) Ψ) (va_A ws H.size) := by
    by_cases hln : Cond.methodLink (cn (mo M)) idx (my M') ∈ tblG
    · rcases hkind with ⟨k0, w1⟩ | ⟨k0, w1, w2, w3⟩ | ⟨k0, w1, w2, w3, w4⟩
      · rcases hst with ⟨-, rfl, rfl, rfl⟩ | ⟨_, _, _, _, k1, _⟩ | ⟨_, k1, _⟩
        · cases hmh : mh M' with
          | nil =>
            have hw : mw M' = Cond.code (my M') (mb M') (ml M') (mr M') := by simp only [mw, hmh]
            rw [hw] at hMet m5
            exact vx_runS hCF hMet ⟨callB_of _ hts (good_cons m5) rfl rfl rfl (hts _ m6) (hts _ hln) hdd2 hRoom, hts _ w1⟩ ⟨pc_blind, hGH⟩ rfl rfl hsz rfl hwt hd hf
          | cons x t =>
            have hw : mw M' = Cond.codeWith (my M') (mb M') (ml M') (mr M') (x :: t) := by simp only [mw, hmh]
            rw [hw] at hMet m5
            refine vx_runSX (hh := x :: t) hCF hMet ⟨⟨rfl, rfl, hRoom.1, hRoom.2, pay_in hts (good_cons m5), List.mem_cons_self⟩, hts _ m5, hts _ m6, m3, fun sig hsig => ?_, hts _ hln, hts _ w1⟩ ⟨pc_blind, hGH⟩ rfl rfl hsz rfl hwt hd hf
            rw [hsig] at m4; exact (Option.some.inj m4).symm
        · omega
        · omega
      · rcases hst with ⟨k1, _⟩ | ⟨b, ci, fs, r, -, rfl, rfl, rfl, hb2, hcl, hr1⟩ | ⟨_, k1, _⟩
        · omega
        · have hw : mw M' = Cond.code (my M') (mb M') (ml M') (mr M') := by simp only [mw, w3]
          rw [hw] at hMet m5
          obtain ⟨q0, he⟩ := lkp_at (by rw [← hh]; exact hb2)
          refine vx_runV (C := (my M').cls) hCF hMet ⟨callB_of _ hts (good_cons m5) rfl rfl rfl (hts _ m6) (hts _ hln) hdd2 hRoom, hts _ w1, hts _ w2⟩ ⟨pc_blind, ?_, hGH⟩ rfl rfl hsz rfl hwt hd hf
          rw [← hr1]
          exact va_recv hG.2.1 hP hcl he
        · omega
      · rcases hst with ⟨k1, _⟩ | ⟨_, _, _, _, k1, _⟩ | ⟨b, -, rfl, rfl, rfl⟩
        · omega
        · omega
        · have hw : mw M' = Cond.code (my M') (mb M') (ml M') (mr M') := by simp only [mw, w3]
          rw [hw] at hMet m5
          rw [w4] at hMet m5
          exact run_vx (va_runI hCF (met_plain hMet (hnone (Or.inr k0))) ⟨callB_of _ hts (good_cons m5) rfl rfl rfl (hts _ m6) (hts _ hln) hdd2 hRoom, w1, hts _ w2⟩ ⟨pc_blind, hGH⟩ rfl rfl hsz rfl hwt hd hf)
    · have hM2 := met_plain hMet (hnone (Or.inl hln))
      rcases hlnk with z | ⟨hne, hmh⟩
      · exact (hln z).elim
      · have hw : mw M' = Cond.code (my M') (mb M') (ml M') (mr M') := by simp only [mw, hmh]
        rw [hw] at hM2 m5
        rcases hkind with ⟨k0, w1⟩ | ⟨k0, w1, w2, w3⟩ | ⟨k0, w1, w2, w3, w4⟩
        · rcases hst with ⟨-, rfl, rfl, rfl⟩ | ⟨_, _, _, _, k1, _⟩ | ⟨_, k1, _⟩
          · exact run_vx (va_runSN hCF hM2 ⟨va_cnB _ hts (good_cons m5) rfl rfl rfl (hG.1 _ hne) (hts _ m6) hdd2 hRoom, hts _ w1, trivial⟩ ⟨pc_blind, hGH⟩ rfl rfl hsz rfl hwt hd hf)
          · omega
          · omega
        · rcases hst with ⟨k1, _⟩ | ⟨b, ci, fs, r, -, rfl, rfl, rfl, hb2, hcl, hr1⟩ | ⟨_, k1, _⟩
          · omega
          · obtain ⟨q0, he⟩ := lkp_at (by rw [← hh]; exact hb2)
            refine run_vx (va_runVN (C := (my M').cls) hCF hM2 ⟨va_cnB _ hts (good_cons m5) rfl rfl rfl (hG.1 _ hne) (hts _ m6) hdd2 hRoom, hts _ w1, hts _ w2⟩ ⟨pc_blind, ?_, hGH⟩ rfl rfl hsz rfl hwt hd hf)
            rw [← hr1]
            exact va_recv hG.2.1 hP hcl he
          · omega
        · rcases hst with ⟨k1, _⟩ | ⟨_, _, _, _, k1, _⟩ | ⟨b, -, rfl, rfl, rfl⟩
          · omega
          · omega
          · rw [w4] at hM2 m5
            exact run_vx (va_runIN hCF hM2 ⟨va_cnB _ hts (good_cons m5) rfl rfl rfl (hG.1 _ hne) (hts _ m6) hdd2 hRoom, w1, hts _ w2⟩ ⟨pc_blind, hGH⟩ rfl rfl hsz rfl hwt hd hf)
  refine call_W hrun hs hA1 (fun v h' H1 locs1 ws' hΨ a3 a4 a5 a6 => ?_) (fun E h' H1 locs1 ws' q ce hΨ a3 a4 a5 a6 hce hcv hcl => ?_)
  · exact hS _ (hk v h' hΨ) p e R s m args below meth c A hc _ _ _ _ _ _ hl hn a3 a4 a5 a6 (by omega) (by omega)
  · rcases (hkx E h' hΨ).2 with ⟨y1, y2⟩ | ⟨hpc, ⟨pre, x, suf, name, x1, x2, x3, x4, x5, x6, x7⟩, y2⟩
    · exact vx_out (fun x hx => by rw [htab, y1] at hx; cases hx) hlk hce hcv hcl (fun t ht _ => ⟨h', ws', y2, ww_ret a3 a4 a5 a6 ht⟩) a6.2.2 (by omega) (by omega)
    · subst x7
      refine vx_catch hown pre x suf (htab.trans x1) (fun z hz => ?_) x3 x4 (hts _ x5) (exL_use x6 (hG.1 _ x6)) hce hcv hcl (hS _ (y2 q) p e R s m args below meth c A hc _ _ _ _ _ _ hl hn a3 a4 a5 a6 (by omega) (by omega))
      rcases x2 z hz with w | ⟨w1, nm, w2, w3⟩
      · exact Or.inl w
      · exact Or.inr ⟨w1, nm, hts _ w2, hG.2.2.1 _ w3⟩
/-- THE ABSTRACT MACHINE IS SOUND -/
theorem WPc.sound {q : Cd} (hq : WPc ar ro sa q) : Sd D ar ro sa sv l q := by
  refine hq _ (fun S q hF hS => ?_)
  obtain ⟨M, d, ⟨pc, lv, st, h, kc, ks⟩, Φ⟩ := q
  obtain ⟨ig, len, hd, hF⟩ := hF
  intro p e R s m args below meth c A hc H locs cells slots ls ws hl hn hh hP hD hs h1 h2
  rcases hF with ⟨r, hr, hq⟩ | hF | hF | hF | hF | hF
  · exact sx_sound hc.1 hc.2.1 hd hr hl (fun ls' hl' => hS _ hq p e R s m args below meth c A hc _ _ _ _ _ _ hl' ((sx_len hr).trans hn) hh hP hD hs h1 h2)
  · exact ah_sound hc hd hF hS hl hn hh hP hD hs h1 h2
  · exact ad_sound hc hd hF hS hl hn hh hP hD hs h1 h2
  · exact ae_sound hc hd hF hl hn hh hP hD hs h1 h2
  · exact ac_sound hc hd hF hS hl hn hh hP hD hs h1 h2
  · exact aj_sound hc hd hF hS hl hn hh hP hD hs h1 h2
end CS
end
section
/-! rows of WP: a row an instruction, over pure states -/
def dc (M : Mth) (pc : Nat) (ig : Instr) (len nx : Nat) : Prop := decode (mb M) pc = .ok (ig, len) ∧ pc + len = nx
/-- what a method leaves: a value and a heap, or an exception and a heap -/
def Ex (post : Option Value → Hp → Prop) (xs : String → Hp → Prop) : Ou → Hp → Prop := fun o h => match o with | .inl v => post v h | .inr E => xs E h
abbrev No : String → Hp → Prop := fun _ _ => False
section RW
variable {ar : Nat → ClassId} {ro : Nat → Option (Nat × (Nat → Int32))} {sa : Nat → Nat} {M : Mth} {d pc len nx : Nat} {ig : Instr} {lv lv' : Lv} {st : List Value} {h : Hp} {kc ks : Nat} {Φ : Ou → Hp → Prop}
theorem r_s {r : Nat × Lv × List Value} (hd : dc M pc ig len nx) (hs : sx ig len pc lv st = some r) (k : WP ar ro sa M d r.1 r.2.1 r.2.2 h kc ks Φ) : WP ar ro sa M d pc lv st h kc ks Φ := WPc.intro ar ro sa ⟨ig, len, hd.1, Or.inl ⟨r, hs, k⟩⟩
theorem r_iconst {n : Int} {v : Int32} (hd : dc M pc (.iconst n) 1 nx) (hv : Int32.ofInt n = v) (k : WP ar ro sa M d nx lv (.int v :: st) h kc ks Φ) : WP ar ro sa M d pc lv st h kc ks Φ := by
  subst hv; obtain ⟨h9, rfl⟩ := hd
  exact r_s ⟨h9, rfl⟩ rfl k
theorem r_bipush {n : Int} {v : Int32} (hd : dc M pc (.bipush n) 2 nx) (hv : (Int8.ofInt n).toInt32 = v) (k : WP ar ro sa M d nx lv (.int v :: st) h kc ks Φ) : WP ar ro sa M d pc lv st h kc ks Φ := by
  subst hv; obtain ⟨h9, rfl⟩ := hd
  exact r_s ⟨h9, rfl⟩ rfl k
theorem r_sipush {n : Int} {v : Int32} (hd : dc M pc (.sipush n) 3 nx) (hv : (Int16.ofInt n).toInt32 = v) (k : WP ar ro sa M d nx lv (.int v :: st) h kc ks Φ) : WP ar ro sa M d pc lv st h kc ks Φ := by
  subst hv; obtain ⟨h9, rfl⟩ := hd
  exact r_s ⟨h9, rfl⟩ rfl k
theorem r_lconst {n : Fin 2} {v : Int64} (hd : dc M pc (.lconst n) 1 nx) (hv : Int64.ofNat (n : Nat) = v) (k : WP ar ro sa M d nx lv (.long v :: st) h kc ks Φ) : WP ar ro sa M d pc lv st h kc ks Φ := by
  subst hv; obtain ⟨h9, rfl⟩ := hd
  exact r_s ⟨h9, rfl⟩ rfl k
theorem r_iload_n {z4 : Fin 4} {x : Int32} (hd : dc M pc (.iload_n z4) 1 nx) (hl : ldl lv (z4 : Nat) = some (.int x)) (k : WP ar ro sa M d nx lv (.int x :: st) h kc ks Φ) : WP ar ro sa M d pc lv st h kc ks Φ := by
  obtain ⟨h9, rfl⟩ := hd
  exact r_s (r := (pc + 1, lv, .int x :: st)) ⟨h9, rfl⟩ (by simp only [sx, hl]) k
theorem r_iload {i : Nat} {x : Int32} (hd : dc M pc (.iload i) 2 nx) (hl : ldl lv i = some (.int x)) (k : WP ar ro sa M d nx lv (.int x :: st) h kc ks Φ) : WP ar ro sa M d pc lv st h kc ks Φ := by
  obtain ⟨h9, rfl⟩ := hd
  exact r_s (r := (pc + 2, lv, .int x :: st)) ⟨h9, rfl⟩ (by simp only [sx, hl]) k
theorem r_istore_n {z4 : Fin 4} {x : Int32} (hd : dc M pc (.istore_n z4) 1 nx) (hi : (z4 : Nat) < lv.length) (hl : stl lv (z4 : Nat) (.int x) = lv') (k : WP ar ro sa M d nx lv' st h kc ks Φ) : WP ar ro sa M d pc lv (.int x :: st) h kc ks Φ := by
  subst hl; obtain ⟨h9, rfl⟩ := hd
  exact r_s (r := (pc + 1, stl lv (z4 : Nat) (.int x), st)) ⟨h9, rfl⟩ (by simp only [sx, hi, if_true]) k
theorem r_istore {i : Nat} {x : Int32} (hd : dc M pc (.istore i) 2 nx) (hi : i < lv.length) (hl : stl lv i (.int x) = lv') (k : WP ar ro sa M d nx lv' st h kc ks Φ) : WP ar ro sa M d pc lv (.int x :: st) h kc ks Φ := by
  subst hl; obtain ⟨h9, rfl⟩ := hd
  exact r_s (r := (pc + 2, stl lv i (.int x), st)) ⟨h9, rfl⟩ (by simp only [sx, hi, if_true]) k
theorem r_lload_n {z4 : Fin 4} {x : Int64} (hd : dc M pc (.lload_n z4) 1 nx) (hl : ldl lv (z4 : Nat) = some (.long x)) (k : WP ar ro sa M d nx lv (.long x :: st) h kc ks Φ) : WP ar ro sa M d pc lv st h kc ks Φ := by
  obtain ⟨h9, rfl⟩ := hd
  exact r_s (r := (pc + 1, lv, .long x :: st)) ⟨h9, rfl⟩ (by simp only [sx, hl]) k
theorem r_lload {i : Nat} {x : Int64} (hd : dc M pc (.lload i) 2 nx) (hl : ldl lv i = some (.long x)) (k : WP ar ro sa M d nx lv (.long x :: st) h kc ks Φ) : WP ar ro sa M d pc lv st h kc ks Φ := by
  obtain ⟨h9, rfl⟩ := hd
  exact r_s (r := (pc + 2, lv, .long x :: st)) ⟨h9, rfl⟩ (by simp only [sx, hl]) k
theorem r_lstore_n {z4 : Fin 4} {x : Int64} (hd : dc M pc (.lstore_n z4) 1 nx) (hi : (z4 : Nat) + 1 < lv.length) (hl : stl lv (z4 : Nat) (.long x) = lv') (k : WP ar ro sa M d nx lv' st h kc ks Φ) : WP ar ro sa M d pc lv (.long x :: st) h kc ks Φ := by
  subst hl; obtain ⟨h9, rfl⟩ := hd
  exact r_s (r := (pc + 1, stl lv (z4 : Nat) (.long x), st)) ⟨h9, rfl⟩ (by simp only [sx, hi, if_true]) k
theorem r_lstore {i : Nat} {x : Int64} (hd : dc M pc (.lstore i) 2 nx) (hi : i + 1 < lv.length) (hl : stl lv i (.long x) = lv') (k : WP ar ro sa M d nx lv' st h kc ks Φ) : WP ar ro sa M d pc lv (.long x :: st) h kc ks Φ := by
  subst hl; obtain ⟨h9, rfl⟩ := hd
  exact r_s (r := (pc + 2, stl lv i (.long x), st)) ⟨h9, rfl⟩ (by simp only [sx, hi, if_true]) k
theorem r_aload_n {z4 : Fin 4} {x : Nat} (hd : dc M pc (.aload_n z4) 1 nx) (hl : ldl lv (z4 : Nat) = some (.ref x)) (k : WP ar ro sa M d nx lv (.ref x :: st) h kc ks Φ) : WP ar ro sa M d pc lv st h kc ks Φ := by
  obtain ⟨h9, rfl⟩ := hd
  exact r_s (r := (pc + 1, lv, .ref x :: st)) ⟨h9, rfl⟩ (by simp only [sx, hl]) k
theorem r_aload {i : Nat} {x : Nat} (hd : dc M pc (.aload i) 2 nx) (hl : ldl lv i = some (.ref x)) (k : WP ar ro sa M d nx lv (.ref x :: st) h kc ks Φ) : WP ar ro sa M d pc lv st h kc ks Φ := by
  obtain ⟨h9, rfl⟩ := hd
  exact r_s (r := (pc + 2, lv, .ref x :: st)) ⟨h9, rfl⟩ (by simp only [sx, hl]) k
theorem r_astore_n {z4 : Fin 4} {x : Nat} (hd : dc M pc (.astore_n z4) 1 nx) (hi : (z4 : Nat) < lv.length) (hl : stl lv (z4 : Nat) (.ref x) = lv') (k : WP ar ro sa M d nx lv' st h kc ks Φ) : WP ar ro sa M d pc lv (.ref x :: st) h kc ks Φ := by
  subst hl; obtain ⟨h9, rfl⟩ := hd
  exact r_s (r := (pc + 1, stl lv (z4 : Nat) (.ref x), st)) ⟨h9, rfl⟩ (by simp only [sx, hi, if_true]) k
theorem r_astore {i : Nat} {x : Nat} (hd : dc M pc (.astore i) 2 nx) (hi : i < lv.length) (hl : stl lv i (.ref x) = lv') (k : WP ar ro sa M d nx lv' st h kc ks Φ) : WP ar ro sa M d pc lv (.ref x :: st) h kc ks Φ := by
  subst hl; obtain ⟨h9, rfl⟩ := hd
  exact r_s (r := (pc + 2, stl lv i (.ref x), st)) ⟨h9, rfl⟩ (by simp only [sx, hi, if_true]) k
theorem r_iinc {i : Nat} {n : Int} {x v : Int32} (hd : dc M pc (.iinc i n) 3 nx) (hx : ldl lv i = some (.int x)) (hv : Int32.ofInt n = v) (hl : stl lv i (.int (x + v)) = lv') (k : WP ar ro sa M d nx lv' st h kc ks Φ) : WP ar ro sa M d pc lv st h kc ks Φ := by
  subst hv; subst hl; obtain ⟨h9, rfl⟩ := hd
  exact r_s (r := (pc + 3, stl lv i (.int (x + Int32.ofInt n)), st)) ⟨h9, rfl⟩ (by simp only [sx, hx]) k
theorem r_iadd {x y : Int32} (hd : dc M pc .iadd 1 nx)  (k : WP ar ro sa M d nx lv (.int (x + y) :: st) h kc ks Φ) : WP ar ro sa M d pc lv (.int y :: .int x :: st) h kc ks Φ := by
  obtain ⟨h9, rfl⟩ := hd
  exact r_s ⟨h9, rfl⟩ rfl k
theorem r_isub {x y : Int32} (hd : dc M pc .isub 1 nx)  (k : WP ar ro sa M d nx lv (.int (x - y) :: st) h kc ks Φ) : WP ar ro sa M d pc lv (.int y :: .int x :: st) h kc ks Φ := by
  obtain ⟨h9, rfl⟩ := hd
  exact r_s ⟨h9, rfl⟩ rfl k
theorem r_imul {x y : Int32} (hd : dc M pc .imul 1 nx)  (k : WP ar ro sa M d nx lv (.int (x * y) :: st) h kc ks Φ) : WP ar ro sa M d pc lv (.int y :: .int x :: st) h kc ks Φ := by
  obtain ⟨h9, rfl⟩ := hd
  exact r_s ⟨h9, rfl⟩ rfl k
theorem r_iand {x y : Int32} (hd : dc M pc .iand 1 nx)  (k : WP ar ro sa M d nx lv (.int (x &&& y) :: st) h kc ks Φ) : WP ar ro sa M d pc lv (.int y :: .int x :: st) h kc ks Φ := by
  obtain ⟨h9, rfl⟩ := hd
  exact r_s ⟨h9, rfl⟩ rfl k
theorem r_ior {x y : Int32} (hd : dc M pc .ior 1 nx)  (k : WP ar ro sa M d nx lv (.int (x ||| y) :: st) h kc ks Φ) : WP ar ro sa M d pc lv (.int y :: .int x :: st) h kc ks Φ := by
  obtain ⟨h9, rfl⟩ := hd
  exact r_s ⟨h9, rfl⟩ rfl k
theorem r_ixor {x y : Int32} (hd : dc M pc .ixor 1 nx)  (k : WP ar ro sa M d nx lv (.int (x ^^^ y) :: st) h kc ks Φ) : WP ar ro sa M d pc lv (.int y :: .int x :: st) h kc ks Φ := by
  obtain ⟨h9, rfl⟩ := hd
  exact r_s ⟨h9, rfl⟩ rfl k
theorem r_ishl {x y : Int32} (hd : dc M pc .ishl 1 nx)  (k : WP ar ro sa M d nx lv (.int (x <<< (y &&& 31)) :: st) h kc ks Φ) : WP ar ro sa M d pc lv (.int y :: .int x :: st) h kc ks Φ := by
  obtain ⟨h9, rfl⟩ := hd
  exact r_s ⟨h9, rfl⟩ rfl k
theorem r_ishr {x y : Int32} (hd : dc M pc .ishr 1 nx)  (k : WP ar ro sa M d nx lv (.int (x >>> (y &&& 31)) :: st) h kc ks Φ) : WP ar ro sa M d pc lv (.int y :: .int x :: st) h kc ks Φ := by
  obtain ⟨h9, rfl⟩ := hd
  exact r_s ⟨h9, rfl⟩ rfl k
theorem r_iushr {x y : Int32} (hd : dc M pc .iushr 1 nx)  (k : WP ar ro sa M d nx lv (.int ((x.toUInt32 >>> (y.toUInt32 &&& Int32.toUInt32 31)).toInt32) :: st) h kc ks Φ) : WP ar ro sa M d pc lv (.int y :: .int x :: st) h kc ks Φ := by
  obtain ⟨h9, rfl⟩ := hd
  exact r_s ⟨h9, rfl⟩ rfl k
theorem r_ladd {x y : Int64} (hd : dc M pc .ladd 1 nx)  (k : WP ar ro sa M d nx lv (.long (x + y) :: st) h kc ks Φ) : WP ar ro sa M d pc lv (.long y :: .long x :: st) h kc ks Φ := by
  obtain ⟨h9, rfl⟩ := hd
  exact r_s ⟨h9, rfl⟩ rfl k
theorem r_lsub {x y : Int64} (hd : dc M pc .lsub 1 nx)  (k : WP ar ro sa M d nx lv (.long (x - y) :: st) h kc ks Φ) : WP ar ro sa M d pc lv (.long y :: .long x :: st) h kc ks Φ := by
  obtain ⟨h9, rfl⟩ := hd
  exact r_s ⟨h9, rfl⟩ rfl k
theorem r_lmul {x y : Int64} (hd : dc M pc .lmul 1 nx)  (k : WP ar ro sa M d nx lv (.long (x * y) :: st) h kc ks Φ) : WP ar ro sa M d pc lv (.long y :: .long x :: st) h kc ks Φ := by
  obtain ⟨h9, rfl⟩ := hd
  exact r_s ⟨h9, rfl⟩ rfl k
theorem r_land {x y : Int64} (hd : dc M pc .land 1 nx)  (k : WP ar ro sa M d nx lv (.long (x &&& y) :: st) h kc ks Φ) : WP ar ro sa M d pc lv (.long y :: .long x :: st) h kc ks Φ := by
  obtain ⟨h9, rfl⟩ := hd
  exact r_s ⟨h9, rfl⟩ rfl k
theorem r_lor {x y : Int64} (hd : dc M pc .lor 1 nx)  (k : WP ar ro sa M d nx lv (.long (x ||| y) :: st) h kc ks Φ) : WP ar ro sa M d pc lv (.long y :: .long x :: st) h kc ks Φ := by
  obtain ⟨h9, rfl⟩ := hd
  exact r_s ⟨h9, rfl⟩ rfl k
theorem r_lxor {x y : Int64} (hd : dc M pc .lxor 1 nx)  (k : WP ar ro sa M d nx lv (.long (x ^^^ y) :: st) h kc ks Φ) : WP ar ro sa M d pc lv (.long y :: .long x :: st) h kc ks Φ := by
  obtain ⟨h9, rfl⟩ := hd
  exact r_s ⟨h9, rfl⟩ rfl k
theorem r_ineg {x : Int32} (hd : dc M pc .ineg 1 nx)  (k : WP ar ro sa M d nx lv (.int (-x) :: st) h kc ks Φ) : WP ar ro sa M d pc lv (.int x :: st) h kc ks Φ := by
  obtain ⟨h9, rfl⟩ := hd
  exact r_s ⟨h9, rfl⟩ rfl k
theorem r_lneg {x : Int64} (hd : dc M pc .lneg 1 nx)  (k : WP ar ro sa M d nx lv (.long (-x) :: st) h kc ks Φ) : WP ar ro sa M d pc lv (.long x :: st) h kc ks Φ := by
  obtain ⟨h9, rfl⟩ := hd
  exact r_s ⟨h9, rfl⟩ rfl k
theorem r_lshl {x : Int64} {y : Int32} (hd : dc M pc .lshl 1 nx)  (k : WP ar ro sa M d nx lv (.long (x <<< (y.toInt64 &&& 63)) :: st) h kc ks Φ) : WP ar ro sa M d pc lv (.int y :: .long x :: st) h kc ks Φ := by
  obtain ⟨h9, rfl⟩ := hd
  exact r_s ⟨h9, rfl⟩ rfl k
theorem r_lshr {x : Int64} {y : Int32} (hd : dc M pc .lshr 1 nx)  (k : WP ar ro sa M d nx lv (.long (x >>> (y.toInt64 &&& 63)) :: st) h kc ks Φ) : WP ar ro sa M d pc lv (.int y :: .long x :: st) h kc ks Φ := by
  obtain ⟨h9, rfl⟩ := hd
  exact r_s ⟨h9, rfl⟩ rfl k
theorem r_lushr {x : Int64} {y : Int32} (hd : dc M pc .lushr 1 nx)  (k : WP ar ro sa M d nx lv (.long ((x.toUInt64 >>> (y.toInt64.toUInt64 &&& Int64.toUInt64 63)).toInt64) :: st) h kc ks Φ) : WP ar ro sa M d pc lv (.int y :: .long x :: st) h kc ks Φ := by
  obtain ⟨h9, rfl⟩ := hd
  exact r_s ⟨h9, rfl⟩ rfl k
theorem r_i2l {x : Int32} (hd : dc M pc .i2l 1 nx)  (k : WP ar ro sa M d nx lv (.long x.toInt64 :: st) h kc ks Φ) : WP ar ro sa M d pc lv (.int x :: st) h kc ks Φ := by
  obtain ⟨h9, rfl⟩ := hd
  exact r_s ⟨h9, rfl⟩ rfl k
theorem r_l2i {x : Int64} (hd : dc M pc .l2i 1 nx)  (k : WP ar ro sa M d nx lv (.int x.toInt32 :: st) h kc ks Φ) : WP ar ro sa M d pc lv (.long x :: st) h kc ks Φ := by
  obtain ⟨h9, rfl⟩ := hd
  exact r_s ⟨h9, rfl⟩ rfl k
theorem r_i2b {x : Int32} (hd : dc M pc .i2b 1 nx)  (k : WP ar ro sa M d nx lv (.int x.toInt8.toInt32 :: st) h kc ks Φ) : WP ar ro sa M d pc lv (.int x :: st) h kc ks Φ := by
  obtain ⟨h9, rfl⟩ := hd
  exact r_s ⟨h9, rfl⟩ rfl k
theorem r_i2s {x : Int32} (hd : dc M pc .i2s 1 nx)  (k : WP ar ro sa M d nx lv (.int x.toInt16.toInt32 :: st) h kc ks Φ) : WP ar ro sa M d pc lv (.int x :: st) h kc ks Φ := by
  obtain ⟨h9, rfl⟩ := hd
  exact r_s ⟨h9, rfl⟩ rfl k
theorem r_lcmp {x y : Int64} (hd : dc M pc .lcmp 1 nx)  (k : WP ar ro sa M d nx lv (.int (lg_cmp x y) :: st) h kc ks Φ) : WP ar ro sa M d pc lv (.long y :: .long x :: st) h kc ks Φ := by
  obtain ⟨h9, rfl⟩ := hd
  exact r_s ⟨h9, rfl⟩ rfl k
theorem r_dup {v : Value} (hd : dc M pc .dup 1 nx) (hv : v.category = 1) (k : WP ar ro sa M d nx lv (v :: v :: st) h kc ks Φ) : WP ar ro sa M d pc lv (v :: st) h kc ks Φ := by
  obtain ⟨h9, rfl⟩ := hd
  exact r_s (r := (pc + 1, lv, v :: v :: st)) ⟨h9, rfl⟩ (by simp only [sx, hv, if_true]) k
theorem r_pop {v : Value} (hd : dc M pc .pop 1 nx) (hv : v.category = 1) (k : WP ar ro sa M d nx lv st h kc ks Φ) : WP ar ro sa M d pc lv (v :: st) h kc ks Φ := by
  obtain ⟨h9, rfl⟩ := hd
  exact r_s (r := (pc + 1, lv, st)) ⟨h9, rfl⟩ (by simp only [sx, hv, if_true]) k
theorem r_dup_x1 {v w : Value} (hd : dc M pc .dup_x1 1 nx) (hv : v.category = 1) (hw : w.category = 1) (k : WP ar ro sa M d nx lv (v :: w :: v :: st) h kc ks Φ) : WP ar ro sa M d pc lv (v :: w :: st) h kc ks Φ := by
  obtain ⟨h9, rfl⟩ := hd
  exact r_s (r := (pc + 1, lv, v :: w :: v :: st)) ⟨h9, rfl⟩ (by simp only [sx, hv, hw, and_self, if_true]) k
theorem r_dup2 {v w : Value} (hd : dc M pc .dup2 1 nx) (hv : v.category = 1) (hw : w.category = 1) (k : WP ar ro sa M d nx lv (v :: w :: v :: w :: st) h kc ks Φ) : WP ar ro sa M d pc lv (v :: w :: st) h kc ks Φ := by
  obtain ⟨h9, rfl⟩ := hd
  exact r_s (r := (pc + 1, lv, v :: w :: v :: w :: st)) ⟨h9, rfl⟩ (by simp only [sx, hv, hw, and_self, if_true]) k
theorem r_goto {off : Int} {t : Nat} (hd : dc M pc (.goto off) 3 nx) (ht : (pc : Int) + off = t) (k : WP ar ro sa M d t lv st h kc ks Φ) : WP ar ro sa M d pc lv st h kc ks Φ := by
  have e : tgt pc off = t := by unfold tgt; omega
  exact r_s (r := (tgt pc off, lv, st)) hd (by simp only [sx, show 0 ≤ (pc : Int) + off by omega, if_true]) (by rw [e]; exact k)
theorem r_icmp_eq {x y : Int32} {off : Int} {t : Nat} (hd : dc M pc (.if_icmp .eq off) 3 nx) (ht : (pc : Int) + off = t) (kt : (x = y) → WP ar ro sa M d t lv st h kc ks Φ) (kf : ¬ (x = y) → WP ar ro sa M d nx lv st h kc ks Φ) : WP ar ro sa M d pc lv (.int y :: .int x :: st) h kc ks Φ := by
  obtain ⟨h9, rfl⟩ := hd
  have e : tgt pc off = t := by unfold tgt; omega
  refine r_s (r := (if cdI .eq x y then tgt pc off else pc + 3, lv, st)) ⟨h9, rfl⟩ (by simp only [sx, show 0 ≤ (pc : Int) + off by omega, if_true]) ?_
  by_cases c : x = y
  · have z : cdI .eq x y = true := decide_eq_true c
    simp only [z, if_true, e]; exact kt c
  · have z : cdI .eq x y = false := decide_eq_false c
    simp only [z]; exact kf c
theorem r_if_eq {x : Int32} {off : Int} {t : Nat} (hd : dc M pc (.ifCond .eq off) 3 nx) (ht : (pc : Int) + off = t) (kt : (x = 0) → WP ar ro sa M d t lv st h kc ks Φ) (kf : ¬ (x = 0) → WP ar ro sa M d nx lv st h kc ks Φ) : WP ar ro sa M d pc lv (.int x :: st) h kc ks Φ := by
  obtain ⟨h9, rfl⟩ := hd
  have e : tgt pc off = t := by unfold tgt; omega
  refine r_s (r := (if cdI .eq x 0 then tgt pc off else pc + 3, lv, st)) ⟨h9, rfl⟩ (by simp only [sx, show 0 ≤ (pc : Int) + off by omega, if_true]) ?_
  by_cases c : x = 0
  · have z : cdI .eq x 0 = true := decide_eq_true c
    simp only [z, if_true, e]; exact kt c
  · have z : cdI .eq x 0 = false := decide_eq_false c
    simp only [z]; exact kf c
theorem r_icmp_ne {x y : Int32} {off : Int} {t : Nat} (hd : dc M pc (.if_icmp .ne off) 3 nx) (ht : (pc : Int) + off = t) (kt : (¬ x = y) → WP ar ro sa M d t lv st h kc ks Φ) (kf : ¬ (¬ x = y) → WP ar ro sa M d nx lv st h kc ks Φ) : WP ar ro sa M d pc lv (.int y :: .int x :: st) h kc ks Φ := by
  obtain ⟨h9, rfl⟩ := hd
  have e : tgt pc off = t := by unfold tgt; omega
  refine r_s (r := (if cdI .ne x y then tgt pc off else pc + 3, lv, st)) ⟨h9, rfl⟩ (by simp only [sx, show 0 ≤ (pc : Int) + off by omega, if_true]) ?_
  by_cases c : ¬ x = y
  · have z : cdI .ne x y = true := decide_eq_true c
    simp only [z, if_true, e]; exact kt c
  · have z : cdI .ne x y = false := decide_eq_false c
    simp only [z]; exact kf c
theorem r_if_ne {x : Int32} {off : Int} {t : Nat} (hd : dc M pc (.ifCond .ne off) 3 nx) (ht : (pc : Int) + off = t) (kt : (¬ x = 0) → WP ar ro sa M d t lv st h kc ks Φ) (kf : ¬ (¬ x = 0) → WP ar ro sa M d nx lv st h kc ks Φ) : WP ar ro sa M d pc lv (.int x :: st) h kc ks Φ := by
  obtain ⟨h9, rfl⟩ := hd
  have e : tgt pc off = t := by unfold tgt; omega
  refine r_s (r := (if cdI .ne x 0 then tgt pc off else pc + 3, lv, st)) ⟨h9, rfl⟩ (by simp only [sx, show 0 ≤ (pc : Int) + off by omega, if_true]) ?_
  by_cases c : ¬ x = 0
  · have z : cdI .ne x 0 = true := decide_eq_true c
    simp only [z, if_true, e]; exact kt c
  · have z : cdI .ne x 0 = false := decide_eq_false c
    simp only [z]; exact kf c
theorem r_icmp_lt {x y : Int32} {off : Int} {t : Nat} (hd : dc M pc (.if_icmp .lt off) 3 nx) (ht : (pc : Int) + off = t) (kt : (x < y) → WP ar ro sa M d t lv st h kc ks Φ) (kf : ¬ (x < y) → WP ar ro sa M d nx lv st h kc ks Φ) : WP ar ro sa M d pc lv (.int y :: .int x :: st) h kc ks Φ := by
  obtain ⟨h9, rfl⟩ := hd
  have e : tgt pc off = t := by unfold tgt; omega
  refine r_s (r := (if cdI .lt x y then tgt pc off else pc + 3, lv, st)) ⟨h9, rfl⟩ (by simp only [sx, show 0 ≤ (pc : Int) + off by omega, if_true]) ?_
  by_cases c : x < y
  · have z : cdI .lt x y = true := decide_eq_true c
    simp only [z, if_true, e]; exact kt c
  · have z : cdI .lt x y = false := decide_eq_false c
    simp only [z]; exact kf c
theorem r_if_lt {x : Int32} {off : Int} {t : Nat} (hd : dc M pc (.ifCond .lt off) 3 nx) (ht : (pc : Int) + off = t) (kt : (x < 0) → WP ar ro sa M d t lv st h kc ks Φ) (kf : ¬ (x < 0) → WP ar ro sa M d nx lv st h kc ks Φ) : WP ar ro sa M d pc lv (.int x :: st) h kc ks Φ := by
  obtain ⟨h9, rfl⟩ := hd
  have e : tgt pc off = t := by unfold tgt; omega
  refine r_s (r := (if cdI .lt x 0 then tgt pc off else pc + 3, lv, st)) ⟨h9, rfl⟩ (by simp only [sx, show 0 ≤ (pc : Int) + off by omega, if_true]) ?_
  by_cases c : x < 0
  · have z : cdI .lt x 0 = true := decide_eq_true c
    simp only [z, if_true, e]; exact kt c
  · have z : cdI .lt x 0 = false := decide_eq_false c
    simp only [z]; exact kf c
theorem r_icmp_ge {x y : Int32} {off : Int} {t : Nat} (hd : dc M pc (.if_icmp .ge off) 3 nx) (ht : (pc : Int) + off = t) (kt : (y ≤ x) → WP ar ro sa M d t lv st h kc ks Φ) (kf : ¬ (y ≤ x) → WP ar ro sa M d nx lv st h kc ks Φ) : WP ar ro sa M d pc lv (.int y :: .int x :: st) h kc ks Φ := by
  obtain ⟨h9, rfl⟩ := hd
  have e : tgt pc off = t := by unfold tgt; omega
  refine r_s (r := (if cdI .ge x y then tgt pc off else pc + 3, lv, st)) ⟨h9, rfl⟩ (by simp only [sx, show 0 ≤ (pc : Int) + off by omega, if_true]) ?_
  by_cases c : y ≤ x
  · have z : cdI .ge x y = true := decide_eq_true c
    simp only [z, if_true, e]; exact kt c
  · have z : cdI .ge x y = false := decide_eq_false c
    simp only [z]; exact kf c
theorem r_if_ge {x : Int32} {off : Int} {t : Nat} (hd : dc M pc (.ifCond .ge off) 3 nx) (ht : (pc : Int) + off = t) (kt : (0 ≤ x) → WP ar ro sa M d t lv st h kc ks Φ) (kf : ¬ (0 ≤ x) → WP ar ro sa M d nx lv st h kc ks Φ) : WP ar ro sa M d pc lv (.int x :: st) h kc ks Φ := by
  obtain ⟨h9, rfl⟩ := hd
  have e : tgt pc off = t := by unfold tgt; omega
  refine r_s (r := (if cdI .ge x 0 then tgt pc off else pc + 3, lv, st)) ⟨h9, rfl⟩ (by simp only [sx, show 0 ≤ (pc : Int) + off by omega, if_true]) ?_
  by_cases c : 0 ≤ x
  · have z : cdI .ge x 0 = true := decide_eq_true c
    simp only [z, if_true, e]; exact kt c
  · have z : cdI .ge x 0 = false := decide_eq_false c
    simp only [z]; exact kf c
theorem r_icmp_gt {x y : Int32} {off : Int} {t : Nat} (hd : dc M pc (.if_icmp .gt off) 3 nx) (ht : (pc : Int) + off = t) (kt : (y < x) → WP ar ro sa M d t lv st h kc ks Φ) (kf : ¬ (y < x) → WP ar ro sa M d nx lv st h kc ks Φ) : WP ar ro sa M d pc lv (.int y :: .int x :: st) h kc ks Φ := by
  obtain ⟨h9, rfl⟩ := hd
  have e : tgt pc off = t := by unfold tgt; omega
  refine r_s (r := (if cdI .gt x y then tgt pc off else pc + 3, lv, st)) ⟨h9, rfl⟩ (by simp only [sx, show 0 ≤ (pc : Int) + off by omega, if_true]) ?_
  by_cases c : y < x
  · have z : cdI .gt x y = true := decide_eq_true c
    simp only [z, if_true, e]; exact kt c
  · have z : cdI .gt x y = false := decide_eq_false c
    simp only [z]; exact kf c
theorem r_if_gt {x : Int32} {off : Int} {t : Nat} (hd : dc M pc (.ifCond .gt off) 3 nx) (ht : (pc : Int) + off = t) (kt : (0 < x) → WP ar ro sa M d t lv st h kc ks Φ) (kf : ¬ (0 < x) → WP ar ro sa M d nx lv st h kc ks Φ) : WP ar ro sa M d pc lv (.int x :: st) h kc ks Φ := by
  obtain ⟨h9, rfl⟩ := hd
  have e : tgt pc off = t := by unfold tgt; omega
  refine r_s (r := (if cdI .gt x 0 then tgt pc off else pc + 3, lv, st)) ⟨h9, rfl⟩ (by simp only [sx, show 0 ≤ (pc : Int) + off by omega, if_true]) ?_
  by_cases c : 0 < x
  · have z : cdI .gt x 0 = true := decide_eq_true c
    simp only [z, if_true, e]; exact kt c
  · have z : cdI .gt x 0 = false := decide_eq_false c
    simp only [z]; exact kf c
theorem r_icmp_le {x y : Int32} {off : Int} {t : Nat} (hd : dc M pc (.if_icmp .le off) 3 nx) (ht : (pc : Int) + off = t) (kt : (x ≤ y) → WP ar ro sa M d t lv st h kc ks Φ) (kf : ¬ (x ≤ y) → WP ar ro sa M d nx lv st h kc ks Φ) : WP ar ro sa M d pc lv (.int y :: .int x :: st) h kc ks Φ := by
  obtain ⟨h9, rfl⟩ := hd
  have e : tgt pc off = t := by unfold tgt; omega
  refine r_s (r := (if cdI .le x y then tgt pc off else pc + 3, lv, st)) ⟨h9, rfl⟩ (by simp only [sx, show 0 ≤ (pc : Int) + off by omega, if_true]) ?_
  by_cases c : x ≤ y
  · have z : cdI .le x y = true := decide_eq_true c
    simp only [z, if_true, e]; exact kt c
  · have z : cdI .le x y = false := decide_eq_false c
    simp only [z]; exact kf c
theorem r_if_le {x : Int32} {off : Int} {t : Nat} (hd : dc M pc (.ifCond .le off) 3 nx) (ht : (pc : Int) + off = t) (kt : (x ≤ 0) → WP ar ro sa M d t lv st h kc ks Φ) (kf : ¬ (x ≤ 0) → WP ar ro sa M d nx lv st h kc ks Φ) : WP ar ro sa M d pc lv (.int x :: st) h kc ks Φ := by
  obtain ⟨h9, rfl⟩ := hd
  have e : tgt pc off = t := by unfold tgt; omega
  refine r_s (r := (if cdI .le x 0 then tgt pc off else pc + 3, lv, st)) ⟨h9, rfl⟩ (by simp only [sx, show 0 ≤ (pc : Int) + off by omega, if_true]) ?_
  by_cases c : x ≤ 0
  · have z : cdI .le x 0 = true := decide_eq_true c
    simp only [z, if_true, e]; exact kt c
  · have z : cdI .le x 0 = false := decide_eq_false c
    simp only [z]; exact kf c
theorem r_ifnull_r {x : Nat} {off : Int} (hd : dc M pc (.ifnull off) 3 nx) (k : WP ar ro sa M d nx lv st h kc ks Φ) : WP ar ro sa M d pc lv (.ref x :: st) h kc ks Φ := by
  obtain ⟨h9, rfl⟩ := hd
  exact r_s ⟨h9, rfl⟩ rfl k
theorem r_ifnonnull_n {off : Int} (hd : dc M pc (.ifnonnull off) 3 nx) (k : WP ar ro sa M d nx lv st h kc ks Φ) : WP ar ro sa M d pc lv (.null :: st) h kc ks Φ := by
  obtain ⟨h9, rfl⟩ := hd
  exact r_s ⟨h9, rfl⟩ rfl k
theorem r_ifnull_n {off : Int} {t : Nat} (hd : dc M pc (.ifnull off) 3 nx) (ht : (pc : Int) + off = t) (k : WP ar ro sa M d t lv st h kc ks Φ) : WP ar ro sa M d pc lv (.null :: st) h kc ks Φ := by
  have e : tgt pc off = t := by unfold tgt; omega
  exact r_s (r := (tgt pc off, lv, st)) hd (by simp only [sx, show 0 ≤ (pc : Int) + off by omega, if_true]) (by rw [e]; exact k)
theorem r_ifnonnull_r {x : Nat} {off : Int} {t : Nat} (hd : dc M pc (.ifnonnull off) 3 nx) (ht : (pc : Int) + off = t) (k : WP ar ro sa M d t lv st h kc ks Φ) : WP ar ro sa M d pc lv (.ref x :: st) h kc ks Φ := by
  have e : tgt pc off = t := by unfold tgt; omega
  exact r_s (r := (tgt pc off, lv, st)) hd (by simp only [sx, show 0 ≤ (pc : Int) + off by omega, if_true]) (by rw [e]; exact k)
theorem r_getf {i a ci f : Nat} {fs : List Value} {v : Value} (hd : dc M pc (.getfield i) 3 nx) (hf : FLg (mo M) i ci f) (ha : h a = some (.inr (ci, fs))) (hv : fs[f]? = some v) (k : WP ar ro sa M d nx lv (v :: st) h kc ks Φ) : WP ar ro sa M d pc lv (.ref a :: st) h kc ks Φ := by
  obtain ⟨h9, rfl⟩ := hd
  exact WPc.intro ar ro sa ⟨_, _, h9, Or.inr (Or.inl ⟨ci, f, fs, v, hf, ha, hv, k⟩)⟩
theorem r_putf {i a ci f : Nat} {fs fs2 : List Value} {v : Value} {fin : Bool} {ty : FieldType} (hd : dc M pc (.putfield i) 3 nx) (hf : FLp (mo M) i ci f fin ty) (ha : h a = some (.inr (ci, fs))) (hl : f < fs.length) (hn : narrow ty v = v) (hft : fits ty v = true) (hfi : fin = true → (my M).name = "<init>") (hs : fs.set f v = fs2) (k : WP ar ro sa M d nx lv st (hset h a (.inr (ci, fs2))) kc ks Φ) : WP ar ro sa M d pc lv (v :: .ref a :: st) h kc ks Φ := by
  obtain ⟨h9, rfl⟩ := hd
  exact WPc.intro ar ro sa ⟨_, _, h9, Or.inr (Or.inl ⟨ci, f, fs, fin, ty, hf, ha, hl, hn, hft, hfi, by rw [hs]; exact k⟩)⟩
theorem r_iald {a n : Nat} {f : Nat → Int32} {i : Int32} (hd : dc M pc .iaload 1 nx) (ha : h a = some (.inl (ar 0, n, .inl f))) (hi : vp_in i n) (k : WP ar ro sa M d nx lv (.int (f i.toNatClampNeg) :: st) h kc ks Φ) : WP ar ro sa M d pc lv (.int i :: .ref a :: st) h kc ks Φ := by
  obtain ⟨h9, rfl⟩ := hd
  exact WPc.intro ar ro sa ⟨_, _, h9, Or.inr (Or.inl (Or.inl ⟨n, f, ha, hi, k⟩))⟩
theorem r_iald_ro {a n : Nat} {f : Nat → Int32} {i : Int32} (hd : dc M pc .iaload 1 nx) (ha : ro a = some (n, f)) (hi : vp_in i n) (k : WP ar ro sa M d nx lv (.int (f i.toNatClampNeg) :: st) h kc ks Φ) : WP ar ro sa M d pc lv (.int i :: .ref a :: st) h kc ks Φ := by
  obtain ⟨h9, rfl⟩ := hd
  exact WPc.intro ar ro sa ⟨_, _, h9, Or.inr (Or.inl (Or.inr ⟨n, f, ha, hi, k⟩))⟩
theorem r_lald {a n : Nat} {f : Nat → Int64} {i : Int32} (hd : dc M pc .laload 1 nx) (ha : h a = some (.inl (ar 1, n, .inr (.inl f)))) (hi : vp_in i n) (k : WP ar ro sa M d nx lv (.long (f i.toNatClampNeg) :: st) h kc ks Φ) : WP ar ro sa M d pc lv (.int i :: .ref a :: st) h kc ks Φ := by
  obtain ⟨h9, rfl⟩ := hd
  exact WPc.intro ar ro sa ⟨_, _, h9, Or.inr (Or.inl ⟨n, f, ha, hi, k⟩)⟩
theorem r_zald {a n : Nat} {f : Nat → Int32} {i : Int32} (hd : dc M pc .baload 1 nx) (ha : h a = some (.inl (ar 2, n, .inl f))) (hi : vp_in i n) (k : WP ar ro sa M d nx lv (.int (f i.toNatClampNeg) :: st) h kc ks Φ) : WP ar ro sa M d pc lv (.int i :: .ref a :: st) h kc ks Φ := by
  obtain ⟨h9, rfl⟩ := hd
  exact WPc.intro ar ro sa ⟨_, _, h9, Or.inr (Or.inl ⟨2, n, f, by omega, ha, hi, k⟩)⟩
theorem r_bald {a n : Nat} {f : Nat → Int32} {i : Int32} (hd : dc M pc .baload 1 nx) (ha : h a = some (.inl (ar 3, n, .inl f))) (hi : vp_in i n) (k : WP ar ro sa M d nx lv (.int (f i.toNatClampNeg) :: st) h kc ks Φ) : WP ar ro sa M d pc lv (.int i :: .ref a :: st) h kc ks Φ := by
  obtain ⟨h9, rfl⟩ := hd
  exact WPc.intro ar ro sa ⟨_, _, h9, Or.inr (Or.inl ⟨3, n, f, by omega, ha, hi, k⟩)⟩
theorem r_aald {a n t : Nat} {f : Nat → Option Nat} {i : Int32} {v : Value} (hd : dc M pc .aaload 1 nx) (ha : h a = some (.inl (ar t, n, .inr (.inr (.inr (.inr f)))))) (ht : 4 ≤ t ∧ t ≤ 8) (hi : vp_in i n) (hv : va_rf (f i.toNatClampNeg) = v) (k : WP ar ro sa M d nx lv (v :: st) h kc ks Φ) : WP ar ro sa M d pc lv (.int i :: .ref a :: st) h kc ks Φ := by
  obtain ⟨h9, rfl⟩ := hd
  exact WPc.intro ar ro sa ⟨_, _, h9, Or.inr (Or.inl ⟨t, n, f, ht.1, ht.2, ha, hi, by rw [hv]; exact k⟩)⟩
theorem r_iast {a n : Nat} {f : Nat → Int32} {i x : Int32} (hd : dc M pc .iastore 1 nx) (ha : h a = some (.inl (ar 0, n, .inl f))) (hi : vp_in i n) (k : WP ar ro sa M d nx lv st (hset h a (.inl (ar 0, n, .inl (upd f i.toNatClampNeg x)))) kc ks Φ) : WP ar ro sa M d pc lv (.int x :: .int i :: .ref a :: st) h kc ks Φ := by
  obtain ⟨h9, rfl⟩ := hd
  exact WPc.intro ar ro sa ⟨_, _, h9, Or.inr (Or.inl ⟨n, f, ha, hi, k⟩)⟩
theorem r_last {a n : Nat} {f : Nat → Int64} {i : Int32} {x : Int64} (hd : dc M pc .lastore 1 nx) (ha : h a = some (.inl (ar 1, n, .inr (.inl f)))) (hi : vp_in i n) (k : WP ar ro sa M d nx lv st (hset h a (.inl (ar 1, n, .inr (.inl (vp_updL f i.toNatClampNeg x))))) kc ks Φ) : WP ar ro sa M d pc lv (.long x :: .int i :: .ref a :: st) h kc ks Φ := by
  obtain ⟨h9, rfl⟩ := hd
  exact WPc.intro ar ro sa ⟨_, _, h9, Or.inr (Or.inl ⟨n, f, ha, hi, k⟩)⟩
theorem r_zast {a n : Nat} {f : Nat → Int32} {i x : Int32} (hd : dc M pc .bastore 1 nx) (ha : h a = some (.inl (ar 2, n, .inl f))) (hi : vp_in i n) (k : WP ar ro sa M d nx lv st (hset h a (.inl (ar 2, n, .inl (upd f i.toNatClampNeg (vp_nar .boolean x))))) kc ks Φ) : WP ar ro sa M d pc lv (.int x :: .int i :: .ref a :: st) h kc ks Φ := by
  obtain ⟨h9, rfl⟩ := hd
  exact WPc.intro ar ro sa ⟨_, _, h9, Or.inr (Or.inl ⟨2, n, f, by omega, ha, hi, k⟩)⟩
theorem r_bast {a n : Nat} {f : Nat → Int32} {i x : Int32} (hd : dc M pc .bastore 1 nx) (ha : h a = some (.inl (ar 3, n, .inl f))) (hi : vp_in i n) (k : WP ar ro sa M d nx lv st (hset h a (.inl (ar 3, n, .inl (upd f i.toNatClampNeg (vp_nar .byte x))))) kc ks Φ) : WP ar ro sa M d pc lv (.int x :: .int i :: .ref a :: st) h kc ks Φ := by
  obtain ⟨h9, rfl⟩ := hd
  exact WPc.intro ar ro sa ⟨_, _, h9, Or.inr (Or.inl ⟨3, n, f, by omega, ha, hi, k⟩)⟩
theorem r_aast {a n t ci v : Nat} {f : Nat → Option Nat} {i : Int32} {vs : List Value} {r : vw_C} (hd : dc M pc .aastore 1 nx) (ha : h a = some (.inl (ar t, n, .inr (.inr (.inr (.inr f)))))) (ht : 4 ≤ t ∧ t ≤ 8) (hv : h v = some (.inr (ci, vs))) (hc : clsL[ci]? = some r) (hty : tyN t = .object r.1) (hi : vp_in i n) (k : WP ar ro sa M d nx lv st (hset h a (.inl (ar t, n, .inr (.inr (.inr (.inr (va_up f i.toNatClampNeg (some v)))))))) kc ks Φ) : WP ar ro sa M d pc lv (.ref v :: .int i :: .ref a :: st) h kc ks Φ := by
  obtain ⟨h9, rfl⟩ := hd
  exact WPc.intro ar ro sa ⟨_, _, h9, Or.inr (Or.inl ⟨t, n, ci, f, vs, r, ht.1, ht.2, ha, hv, hc, hty, hi, k⟩)⟩
theorem r_alen {a t : Nat} {x : vp_A} (hd : dc M pc .arraylength 1 nx) (ha : h a = some (.inl (ar t, x))) (ht : t ≤ 8) (k : WP ar ro sa M d nx lv (.int (Int32.ofNat x.1) :: st) h kc ks Φ) : WP ar ro sa M d pc lv (.ref a :: st) h kc ks Φ := by
  obtain ⟨h9, rfl⟩ := hd
  exact WPc.intro ar ro sa ⟨_, _, h9, Or.inr (Or.inl (Or.inl ⟨t, x, ht, ha, k⟩))⟩
theorem r_alen_ro {a n : Nat} {f : Nat → Int32} (hd : dc M pc .arraylength 1 nx) (ha : ro a = some (n, f)) (k : WP ar ro sa M d nx lv (.int (Int32.ofNat n) :: st) h kc ks Φ) : WP ar ro sa M d pc lv (.ref a :: st) h kc ks Φ := by
  obtain ⟨h9, rfl⟩ := hd
  exact WPc.intro ar ro sa ⟨_, _, h9, Or.inr (Or.inl (Or.inr ⟨n, f, ha, k⟩))⟩
theorem r_new {i ci : Nat} {fs : List Value} (hd : dc M pc (.new i) 3 nx) (hc : CLn (mo M) i ci fs) (h1 : 1 ≤ kc) (h2 : fs.length ≤ ks) (k : ∀ q : Nat, h q = none → WP ar ro sa M d nx lv (.ref q :: st) (hset h q (.inr (ci, fs))) (kc - 1) (ks - fs.length) Φ) : WP ar ro sa M d pc lv st h kc ks Φ := by
  obtain ⟨h9, rfl⟩ := hd
  exact WPc.intro ar ro sa ⟨_, _, h9, Or.inr (Or.inl ⟨ci, fs, hc, h1, h2, k⟩)⟩
theorem r_newi {n : Int32} {N : Nat} (hd : dc M pc (.newarray .int) 2 nx) (hn : ¬ n < 0) (hN : n.toNatClampNeg = N) (hb : N ≤ 10000) (h1 : 1 ≤ kc) (h2 : N ≤ ks) (k : ∀ q : Nat, h q = none → WP ar ro sa M d nx lv (.ref q :: st) (hset h q (.inl (ar 0, N, .inl (fun _ => 0)))) (kc - 1) (ks - N) Φ) : WP ar ro sa M d pc lv (.int n :: st) h kc ks Φ := by
  subst hN; obtain ⟨h9, rfl⟩ := hd
  exact WPc.intro ar ro sa ⟨_, _, h9, Or.inr (Or.inl ⟨hn, hb, h1, h2, k⟩)⟩
theorem r_newl {n : Int32} {N : Nat} (hd : dc M pc (.newarray .long) 2 nx) (hn : ¬ n < 0) (hN : n.toNatClampNeg = N) (hb : N ≤ 10000) (h1 : 1 ≤ kc) (h2 : N ≤ ks) (k : ∀ q : Nat, h q = none → WP ar ro sa M d nx lv (.ref q :: st) (hset h q (.inl (ar 1, N, .inr (.inl (fun _ => 0))))) (kc - 1) (ks - N) Φ) : WP ar ro sa M d pc lv (.int n :: st) h kc ks Φ := by
  subst hN; obtain ⟨h9, rfl⟩ := hd
  exact WPc.intro ar ro sa ⟨_, _, h9, Or.inr (Or.inl ⟨hn, hb, h1, h2, k⟩)⟩
theorem r_newz {n : Int32} {N : Nat} (hd : dc M pc (.newarray .boolean) 2 nx) (hn : ¬ n < 0) (hN : n.toNatClampNeg = N) (hb : N ≤ 10000) (h1 : 1 ≤ kc) (h2 : N ≤ ks) (k : ∀ q : Nat, h q = none → WP ar ro sa M d nx lv (.ref q :: st) (hset h q (.inl (ar 2, N, .inl (fun _ => 0)))) (kc - 1) (ks - N) Φ) : WP ar ro sa M d pc lv (.int n :: st) h kc ks Φ := by
  subst hN; obtain ⟨h9, rfl⟩ := hd
  exact WPc.intro ar ro sa ⟨_, _, h9, Or.inr (Or.inl ⟨hn, hb, h1, h2, k⟩)⟩
theorem r_newb {n : Int32} {N : Nat} (hd : dc M pc (.newarray .byte) 2 nx) (hn : ¬ n < 0) (hN : n.toNatClampNeg = N) (hb : N ≤ 10000) (h1 : 1 ≤ kc) (h2 : N ≤ ks) (k : ∀ q : Nat, h q = none → WP ar ro sa M d nx lv (.ref q :: st) (hset h q (.inl (ar 3, N, .inl (fun _ => 0)))) (kc - 1) (ks - N) Φ) : WP ar ro sa M d pc lv (.int n :: st) h kc ks Φ := by
  subst hN; obtain ⟨h9, rfl⟩ := hd
  exact WPc.intro ar ro sa ⟨_, _, h9, Or.inr (Or.inl ⟨hn, hb, h1, h2, k⟩)⟩
theorem r_newq {n : Int32} {N i t : Nat} {C : String} (hd : dc M pc (.anewarray i) 3 nx) (ht : 4 ≤ t ∧ t ≤ 8) (hC : tyN t = .object C) (hl : Cond.classLink (cn (mo M)) i C ∈ tblG) (ho : Cond.arrayOver (.object C) ∈ exL) (hn : ¬ n < 0) (hN : n.toNatClampNeg = N) (hb : N ≤ 10000) (h1 : 1 ≤ kc) (h2 : N ≤ ks) (k : ∀ q : Nat, h q = none → WP ar ro sa M d nx lv (.ref q :: st) (hset h q (.inl (ar t, N, .inr (.inr (.inr (.inr (fun _ => none))))))) (kc - 1) (ks - N) Φ) : WP ar ro sa M d pc lv (.int n :: st) h kc ks Φ := by
  subst hN; obtain ⟨h9, rfl⟩ := hd
  exact WPc.intro ar ro sa ⟨_, _, h9, Or.inr (Or.inl ⟨t, C, ht.1, ht.2, hC, hl, ho, hn, hb, h1, h2, k⟩)⟩
theorem r_idiv {x y : Int32} (hd : dc M pc .idiv 1 nx) (hy : ¬ y = 0) (k : WP ar ro sa M d nx lv (.int (x / y) :: st) h kc ks Φ) : WP ar ro sa M d pc lv (.int y :: .int x :: st) h kc ks Φ := by
  obtain ⟨h9, rfl⟩ := hd
  exact WPc.intro ar ro sa ⟨_, _, h9, Or.inr (Or.inr (Or.inl ⟨hy, k⟩))⟩
theorem r_irem {x y : Int32} (hd : dc M pc .irem 1 nx) (hy : ¬ y = 0) (k : WP ar ro sa M d nx lv (.int (x - x / y * y) :: st) h kc ks Φ) : WP ar ro sa M d pc lv (.int y :: .int x :: st) h kc ks Φ := by
  obtain ⟨h9, rfl⟩ := hd
  exact WPc.intro ar ro sa ⟨_, _, h9, Or.inr (Or.inr (Or.inl ⟨hy, k⟩))⟩
theorem r_ldiv {x y : Int64} (hd : dc M pc .ldiv 1 nx) (hy : ¬ y = 0) (k : WP ar ro sa M d nx lv (.long (x / y) :: st) h kc ks Φ) : WP ar ro sa M d pc lv (.long y :: .long x :: st) h kc ks Φ := by
  obtain ⟨h9, rfl⟩ := hd
  exact WPc.intro ar ro sa ⟨_, _, h9, Or.inr (Or.inr (Or.inl ⟨hy, k⟩))⟩
theorem r_ldc {i : Nat} {v : Int32} (hd : dc M pc (.ldc i) 2 nx) (hc : Cond.constant (cn (mo M)) i v ∈ tblG) (k : WP ar ro sa M d nx lv (.int v :: st) h kc ks Φ) : WP ar ro sa M d pc lv st h kc ks Φ := by
  obtain ⟨h9, rfl⟩ := hd
  exact WPc.intro ar ro sa ⟨_, _, h9, Or.inr (Or.inr (Or.inl (Or.inl ⟨v, hc, k⟩)))⟩
theorem r_ldcw {i : Nat} {v : Int32} (hd : dc M pc (.ldc_w i) 3 nx) (hc : Cond.constant (cn (mo M)) i v ∈ tblG) (k : WP ar ro sa M d nx lv (.int v :: st) h kc ks Φ) : WP ar ro sa M d pc lv st h kc ks Φ := by
  obtain ⟨h9, rfl⟩ := hd
  exact WPc.intro ar ro sa ⟨_, _, h9, Or.inr (Or.inr (Or.inl (Or.inl ⟨v, hc, k⟩)))⟩
theorem r_ldcs {i j : Nat} {tx : String} (hd : dc M pc (.ldc i) 2 nx) (hc : strT[j]? = some (mo M, i, tx)) (k : WP ar ro sa M d nx lv (.ref (sa j) :: st) h kc ks Φ) : WP ar ro sa M d pc lv st h kc ks Φ := by
  obtain ⟨h9, rfl⟩ := hd
  exact WPc.intro ar ro sa ⟨_, _, h9, Or.inr (Or.inr (Or.inl (Or.inr ⟨j, tx, hc, k⟩)))⟩
theorem r_ldcws {i j : Nat} {tx : String} (hd : dc M pc (.ldc_w i) 3 nx) (hc : strT[j]? = some (mo M, i, tx)) (k : WP ar ro sa M d nx lv (.ref (sa j) :: st) h kc ks Φ) : WP ar ro sa M d pc lv st h kc ks Φ := by
  obtain ⟨h9, rfl⟩ := hd
  exact WPc.intro ar ro sa ⟨_, _, h9, Or.inr (Or.inr (Or.inl (Or.inr ⟨j, tx, hc, k⟩)))⟩
theorem r_ldc2 {i : Nat} {v : Int64} (hd : dc M pc (.ldc2_w i) 3 nx) (hc : Cond.constantLong (cn (mo M)) i v ∈ tblG) (k : WP ar ro sa M d nx lv (.long v :: st) h kc ks Φ) : WP ar ro sa M d pc lv st h kc ks Φ := by
  obtain ⟨h9, rfl⟩ := hd
  exact WPc.intro ar ro sa ⟨_, _, h9, Or.inr (Or.inr (Or.inl ⟨v, hc, k⟩))⟩
theorem r_iret {v : Int32} (hd : dc M pc .ireturn 1 nx) (hr : mr M = some .int) (hq : Φ (.inl (some (.int v))) h) : WP ar ro sa M d pc lv [.int v] h kc ks Φ := WPc.intro ar ro sa ⟨_, _, hd.1, Or.inr (Or.inr (Or.inr (Or.inl (⟨Or.inl hr, hq⟩))))⟩
theorem r_zret {v : Int32} (hd : dc M pc .ireturn 1 nx) (hr : mr M = some .boolean) (hn : narrow .boolean (.int v) = .int v) (hq : Φ (.inl (some (.int v))) h) : WP ar ro sa M d pc lv [.int v] h kc ks Φ := WPc.intro ar ro sa ⟨_, _, hd.1, Or.inr (Or.inr (Or.inr (Or.inl (⟨Or.inr ⟨hr, hn⟩, hq⟩))))⟩
theorem r_lret {v : Int64} (hd : dc M pc .lreturn 1 nx) (hr : mr M = some .long) (hq : Φ (.inl (some (.long v))) h) : WP ar ro sa M d pc lv [.long v] h kc ks Φ := WPc.intro ar ro sa ⟨_, _, hd.1, Or.inr (Or.inr (Or.inr (Or.inl (⟨hr, hq⟩))))⟩
theorem r_vret  (hd : dc M pc .return_ 1 nx) (hr : mr M = none) (hq : Φ (.inl none) h) : WP ar ro sa M d pc lv [] h kc ks Φ := WPc.intro ar ro sa ⟨_, _, hd.1, Or.inr (Or.inr (Or.inr (Or.inl (⟨hr, hq⟩))))⟩
/-- the words of 'throw new E()' at a place -/
def THk (M : Mth) (pc ik ic : Nat) (E : String) (names : List String) : Prop := mh M = [] ∧ Bundle.fit E = true ∧ (∀ n ∈ names, Bundle.fit n = true) ∧ Cond.classLink (cn (mo M)) ik E ∈ tblG ∧ Cond.initialized E ∈ tblG ∧ (∀ w ∈ vx_at0 (cn (mo M)) ic E names, (w ∈ tblG ∨ w ∈ exL) ∧ vx_ot w = true) ∧ decode (mb M) pc = .ok (.new ik, 3) ∧ decode (mb M) (pc + 3) = .ok (.dup, 1) ∧ decode (mb M) (pc + 4) = .ok (.invokespecial ic, 3) ∧ decode (mb M) (pc + 7) = .ok (.athrow, 1) ∧ names.length ≤ 4
theorem r_throw {ik ic : Nat} {E : String} {names : List String} (ht : THk M pc ik ic E names) (hs : (st.map fun v => v.category).sum ≤ 8) (h1 : 1 ≤ kc) (h2 : 6 ≤ ks) (hq : Φ (.inr E) h) : WP ar ro sa M d pc lv st h kc ks Φ := by
  obtain ⟨t1, t2, t3, t4, t5, t6, t7, t8, t9, t10, t11⟩ := ht
  exact WPc.intro ar ro sa ⟨_, _, t7, Or.inr (Or.inr (Or.inr (Or.inl ⟨ic, E, names, t1, t2, t3, t4, t5, t6, t8, t9, t10, t11, hs, h1, h2, hq⟩)))⟩
abbrev CT (ar : Nat → ClassId) (ro : Nat → Option (Nat × (Nat → Int32))) (sa : Nat → Nat) (M : Mth) (d : Nat) (av : List Value) (h : Hp) (mc ms : Nat) (Ψ : Ou → Hp → Prop) : Prop := WP ar ro sa M d 0 (entL av (ml M)) [] h mc ms Ψ
def Lkd (M : Mth) (idx : Nat) (M' : Mth) : Prop := Cond.methodLink (cn (mo M)) idx (my M') ∈ tblG
theorem r_stat {idx d' mc ms : Nat} {M' : Mth} {As rest : List Value}  {post : Option Value → Hp → Prop}  (hd : dc M pc (.invokestatic idx) 3 nx) (hl : MLk (mo M) idx M' 0 As.length)  (hst : st = As.reverse ++ rest)  (hdd : d = d' + 1) (hw : (rest.map fun v => v.category).sum ≤ 8) (ha : (lg_sl (As)).length ≤ ml M') (h1 : mc ≤ kc) (h2 : ms ≤ ks) (hq : CT ar ro sa M' d' (As) h mc ms (Ex post No))  (k : ∀ (v : Option Value) (h' : Hp), post v h' → WP ar ro sa M d nx lv (v.toList ++ rest) h' (kc - mc) (ks - ms) Φ) : WP ar ro sa M d pc lv st h kc ks Φ := by
  obtain ⟨h9, rfl⟩ := hd
  exact WPc.intro ar ro sa ⟨_, _, h9, Or.inr (Or.inr (Or.inr (Or.inr (Or.inl ⟨idx, 0, d', mc, ms, M', As, rest, _, Ex post No, hdd, rfl, hl, Or.inl ⟨rfl, rfl, hst, rfl⟩, hw, ha, h1, h2, hq, k, fun E h' q => q.elim⟩))))⟩
theorem r_statX {idx d' mc ms : Nat} {M' : Mth} {As rest : List Value}  {post : Option Value → Hp → Prop} {xs : String → Hp → Prop} (hd : dc M pc (.invokestatic idx) 3 nx) (hl : MLk (mo M) idx M' 0 As.length) (hL : Lkd M idx M') (hst : st = As.reverse ++ rest)  (hdd : d = d' + 1) (hw : (rest.map fun v => v.category).sum ≤ 8) (ha : (lg_sl (As)).length ≤ ml M') (h1 : mc ≤ kc) (h2 : ms ≤ ks) (hq : CT ar ro sa M' d' (As) h mc ms (Ex post xs)) (kx : ∀ (E : String) (h' : Hp), xs E h' → (mh M = [] ∧ Φ (.inr E) h') ∨ (∃ hpc : Nat, XHs M pc E hpc ncsL ∧ ∀ q : Nat, WP ar ro sa M d hpc lv [.ref q] h' (kc - mc) (ks - ms) Φ)) (k : ∀ (v : Option Value) (h' : Hp), post v h' → WP ar ro sa M d nx lv (v.toList ++ rest) h' (kc - mc) (ks - ms) Φ) : WP ar ro sa M d pc lv st h kc ks Φ := by
  obtain ⟨h9, rfl⟩ := hd
  exact WPc.intro ar ro sa ⟨_, _, h9, Or.inr (Or.inr (Or.inr (Or.inr (Or.inl ⟨idx, 0, d', mc, ms, M', As, rest, _, Ex post xs, hdd, rfl, hl, Or.inl ⟨rfl, rfl, hst, rfl⟩, hw, ha, h1, h2, hq, k, fun E h' q => ⟨⟨hL, by decide⟩, kx E h' q⟩⟩))))⟩
theorem r_virt {idx d' mc ms : Nat} {M' : Mth} {As rest : List Value} {b ci : Nat} {fs : List Value} {r : vw_C} {post : Option Value → Hp → Prop}  (hd : dc M pc (.invokevirtual idx) 3 nx) (hl : MLk (mo M) idx M' 1 As.length)  (hst : st = As.reverse ++ .ref b :: rest) (hb : h b = some (.inr (ci, fs))) (hc : clsL[ci]? = some r) (hr : r.1 = (my M').cls) (hdd : d = d' + 1) (hw : (rest.map fun v => v.category).sum ≤ 8) (ha : (lg_sl (.ref b :: As)).length ≤ ml M') (h1 : mc ≤ kc) (h2 : ms ≤ ks) (hq : CT ar ro sa M' d' (.ref b :: As) h mc ms (Ex post No))  (k : ∀ (v : Option Value) (h' : Hp), post v h' → WP ar ro sa M d nx lv (v.toList ++ rest) h' (kc - mc) (ks - ms) Φ) : WP ar ro sa M d pc lv st h kc ks Φ := by
  obtain ⟨h9, rfl⟩ := hd
  exact WPc.intro ar ro sa ⟨_, _, h9, Or.inr (Or.inr (Or.inr (Or.inr (Or.inl ⟨idx, 1, d', mc, ms, M', As, rest, _, Ex post No, hdd, rfl, hl, Or.inr (Or.inl ⟨b, ci, fs, r, rfl, rfl, hst, rfl, hb, hc, hr⟩), hw, ha, h1, h2, hq, k, fun E h' q => q.elim⟩))))⟩
theorem r_virtX {idx d' mc ms : Nat} {M' : Mth} {As rest : List Value} {b ci : Nat} {fs : List Value} {r : vw_C} {post : Option Value → Hp → Prop} {xs : String → Hp → Prop} (hd : dc M pc (.invokevirtual idx) 3 nx) (hl : MLk (mo M) idx M' 1 As.length) (hL : Lkd M idx M') (hst : st = As.reverse ++ .ref b :: rest) (hb : h b = some (.inr (ci, fs))) (hc : clsL[ci]? = some r) (hr : r.1 = (my M').cls) (hdd : d = d' + 1) (hw : (rest.map fun v => v.category).sum ≤ 8) (ha : (lg_sl (.ref b :: As)).length ≤ ml M') (h1 : mc ≤ kc) (h2 : ms ≤ ks) (hq : CT ar ro sa M' d' (.ref b :: As) h mc ms (Ex post xs)) (kx : ∀ (E : String) (h' : Hp), xs E h' → (mh M = [] ∧ Φ (.inr E) h') ∨ (∃ hpc : Nat, XHs M pc E hpc ncsL ∧ ∀ q : Nat, WP ar ro sa M d hpc lv [.ref q] h' (kc - mc) (ks - ms) Φ)) (k : ∀ (v : Option Value) (h' : Hp), post v h' → WP ar ro sa M d nx lv (v.toList ++ rest) h' (kc - mc) (ks - ms) Φ) : WP ar ro sa M d pc lv st h kc ks Φ := by
  obtain ⟨h9, rfl⟩ := hd
  exact WPc.intro ar ro sa ⟨_, _, h9, Or.inr (Or.inr (Or.inr (Or.inr (Or.inl ⟨idx, 1, d', mc, ms, M', As, rest, _, Ex post xs, hdd, rfl, hl, Or.inr (Or.inl ⟨b, ci, fs, r, rfl, rfl, hst, rfl, hb, hc, hr⟩), hw, ha, h1, h2, hq, k, fun E h' q => ⟨⟨hL, by decide⟩, kx E h' q⟩⟩))))⟩
theorem r_init {idx d' mc ms : Nat} {M' : Mth} {As rest : List Value} {b : Nat} {post : Option Value → Hp → Prop}  (hd : dc M pc (.invokespecial idx) 3 nx) (hl : MLk (mo M) idx M' 2 As.length)  (hst : st = As.reverse ++ .ref b :: rest)  (hdd : d = d' + 1) (hw : (rest.map fun v => v.category).sum ≤ 8) (ha : (lg_sl (.ref b :: As)).length ≤ ml M') (h1 : mc ≤ kc) (h2 : ms ≤ ks) (hq : CT ar ro sa M' d' (.ref b :: As) h mc ms (Ex post No))  (k : ∀ (v : Option Value) (h' : Hp), post v h' → WP ar ro sa M d nx lv (v.toList ++ rest) h' (kc - mc) (ks - ms) Φ) : WP ar ro sa M d pc lv st h kc ks Φ := by
  obtain ⟨h9, rfl⟩ := hd
  exact WPc.intro ar ro sa ⟨_, _, h9, Or.inr (Or.inr (Or.inr (Or.inr (Or.inl ⟨idx, 2, d', mc, ms, M', As, rest, _, Ex post No, hdd, rfl, hl, Or.inr (Or.inr ⟨b, rfl, rfl, hst, rfl⟩), hw, ha, h1, h2, hq, k, fun E h' q => q.elim⟩))))⟩
theorem r_objinit {i a : Nat} (hd : dc M pc (.invokespecial i) 3 nx) (hl : Cond.methodLink (cn (mo M)) i objectInit ∈ tblG) (h2 : Cond.instanceMethod objectInit ∈ tblG) (h3 : Cond.code objectInit ⟨#[0xb1]⟩ 1 none ∈ tblG) (hs : (st.map fun v => v.category).sum ≤ 8) (k : WP ar ro sa M d nx lv st h kc ks Φ) : WP ar ro sa M d pc lv (.ref a :: st) h kc ks Φ := by
  obtain ⟨h9, rfl⟩ := hd
  exact WPc.intro ar ro sa ⟨_, _, h9, Or.inr (Or.inr (Or.inr (Or.inr (Or.inr (⟨hl, h2, h3, hs, k⟩)))))⟩
end RW
end
