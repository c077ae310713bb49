section
-- ===== PART A: goes FIRST, ahead of the names: the tables' words, and 'selects' of the private methods out of them =====
/-- a private method of a class that the tables say can be made, by its rows of tables_1 -/
def lw_okq (q : MethodName × Nat) : Prop := (q.1.cls ≠ "java/lang/invoke/MethodHandle" ∧ q.1.cls ≠ "java/lang/invoke/VarHandle") ∧ Cond.instantiable q.1.cls q.2 ∈ tables_1 ∧ Cond.privateMethod q.1 ∈ tables_1 ∧ Cond.instanceMethod q.1 ∈ tables_1
theorem lw_p0 : lw_okq (⟨"BookedEmpty", "ofInRoom", "(LBookedEmpty$Hour;I)I"⟩, 10) := ⟨⟨by decide +kernel, by decide +kernel⟩, List.mem_of_getElem? (i := 22) (by decide +kernel), List.mem_of_getElem? (i := 403) (by decide +kernel), List.mem_of_getElem? (i := 404) (by decide +kernel)⟩
theorem lw_p1 : lw_okq (⟨"BookedEmpty$Office", "isSo", "(IILBookedEmpty$Hour;LBookedEmpty$Room;)Z"⟩, 7) := ⟨⟨by decide +kernel, by decide +kernel⟩, List.mem_of_getElem? (i := 113) (by decide +kernel), List.mem_of_getElem? (i := 415) (by decide +kernel), List.mem_of_getElem? (i := 416) (by decide +kernel)⟩
theorem lw_p2 : lw_okq (⟨"BookedEmpty$Reader", "clause", "()V"⟩, 5) := ⟨⟨by decide +kernel, by decide +kernel⟩, List.mem_of_getElem? (i := 292) (by decide +kernel), List.mem_of_getElem? (i := 517) (by decide +kernel), List.mem_of_getElem? (i := 518) (by decide +kernel)⟩
theorem lw_p3 : lw_okq (⟨"BookedEmpty$Reader", "sign", "()I"⟩, 5) := ⟨⟨by decide +kernel, by decide +kernel⟩, List.mem_of_getElem? (i := 292) (by decide +kernel), List.mem_of_getElem? (i := 521) (by decide +kernel), List.mem_of_getElem? (i := 522) (by decide +kernel)⟩
theorem lw_p4 : lw_okq (⟨"BookedEmpty$Reader", "word", "(I)V"⟩, 5) := ⟨⟨by decide +kernel, by decide +kernel⟩, List.mem_of_getElem? (i := 292) (by decide +kernel), List.mem_of_getElem? (i := 525) (by decide +kernel), List.mem_of_getElem? (i := 526) (by decide +kernel)⟩
theorem lw_p5 : lw_okq (⟨"BookedEmpty$Reader", "expects", "(I)V"⟩, 5) := ⟨⟨by decide +kernel, by decide +kernel⟩, List.mem_of_getElem? (i := 292) (by decide +kernel), List.mem_of_getElem? (i := 589) (by decide +kernel), List.mem_of_getElem? (i := 590) (by decide +kernel)⟩
theorem lw_p6 : lw_okq (⟨"BookedEmpty$Reader", "number", "()I"⟩, 5) := ⟨⟨by decide +kernel, by decide +kernel⟩, List.mem_of_getElem? (i := 292) (by decide +kernel), List.mem_of_getElem? (i := 593) (by decide +kernel), List.mem_of_getElem? (i := 594) (by decide +kernel)⟩
theorem lw_p7 : lw_okq (⟨"BookedEmpty$Reader", "either", "(I)V"⟩, 5) := ⟨⟨by decide +kernel, by decide +kernel⟩, List.mem_of_getElem? (i := 292) (by decide +kernel), List.mem_of_getElem? (i := 599) (by decide +kernel), List.mem_of_getElem? (i := 600) (by decide +kernel)⟩
theorem lw_p8 : lw_okq (⟨"BookedEmpty$Reader", "both", "(I)V"⟩, 5) := ⟨⟨by decide +kernel, by decide +kernel⟩, List.mem_of_getElem? (i := 292) (by decide +kernel), List.mem_of_getElem? (i := 603) (by decide +kernel), List.mem_of_getElem? (i := 604) (by decide +kernel)⟩
theorem lw_p9 : lw_okq (⟨"BookedEmpty$Reader", "one", "(I)V"⟩, 5) := ⟨⟨by decide +kernel, by decide +kernel⟩, List.mem_of_getElem? (i := 292) (by decide +kernel), List.mem_of_getElem? (i := 607) (by decide +kernel), List.mem_of_getElem? (i := 608) (by decide +kernel)⟩
theorem lw_p10 : lw_okq (⟨"BookedEmpty$Reader", "takes", "(I)Z"⟩, 5) := ⟨⟨by decide +kernel, by decide +kernel⟩, List.mem_of_getElem? (i := 292) (by decide +kernel), List.mem_of_getElem? (i := 611) (by decide +kernel), List.mem_of_getElem? (i := 612) (by decide +kernel)⟩
theorem lw_p11 : lw_okq (⟨"BookedEmpty$Reader", "oneOf", "(Ljava/lang/String;)I"⟩, 5) := ⟨⟨by decide +kernel, by decide +kernel⟩, List.mem_of_getElem? (i := 292) (by decide +kernel), List.mem_of_getElem? (i := 620) (by decide +kernel), List.mem_of_getElem? (i := 621) (by decide +kernel)⟩
theorem lw_p12 : lw_okq (⟨"BookedEmpty", "asksHour", "(I)Z"⟩, 10) := ⟨⟨by decide +kernel, by decide +kernel⟩, List.mem_of_getElem? (i := 22) (by decide +kernel), List.mem_of_getElem? (i := 733) (by decide +kernel), List.mem_of_getElem? (i := 734) (by decide +kernel)⟩
theorem lw_p13 : lw_okq (⟨"BookedEmpty$Ways", "lookAt", "(LBookedEmpty$House;LBookedEmpty$Hour;I)V"⟩, 11) := ⟨⟨by decide +kernel, by decide +kernel⟩, List.mem_of_getElem? (i := 32) (by decide +kernel), List.mem_of_getElem? (i := 741) (by decide +kernel), List.mem_of_getElem? (i := 742) (by decide +kernel)⟩
theorem lw_p14 : lw_okq (⟨"BookedEmpty$Ways", "goOn", "(III)V"⟩, 11) := ⟨⟨by decide +kernel, by decide +kernel⟩, List.mem_of_getElem? (i := 32) (by decide +kernel), List.mem_of_getElem? (i := 748) (by decide +kernel), List.mem_of_getElem? (i := 749) (by decide +kernel)⟩
theorem lw_p15 : lw_okq (⟨"BookedEmpty$Ways", "keepBetter", "(II)V"⟩, 11) := ⟨⟨by decide +kernel, by decide +kernel⟩, List.mem_of_getElem? (i := 32) (by decide +kernel), List.mem_of_getElem? (i := 752) (by decide +kernel), List.mem_of_getElem? (i := 753) (by decide +kernel)⟩
def lw_privs_1 : List (MethodName × Nat) := [(⟨"BookedEmpty", "ofInRoom", "(LBookedEmpty$Hour;I)I"⟩, 10), (⟨"BookedEmpty$Office", "isSo", "(IILBookedEmpty$Hour;LBookedEmpty$Room;)Z"⟩, 7), (⟨"BookedEmpty$Reader", "clause", "()V"⟩, 5), (⟨"BookedEmpty$Reader", "sign", "()I"⟩, 5), (⟨"BookedEmpty$Reader", "word", "(I)V"⟩, 5), (⟨"BookedEmpty$Reader", "expects", "(I)V"⟩, 5), (⟨"BookedEmpty$Reader", "number", "()I"⟩, 5), (⟨"BookedEmpty$Reader", "either", "(I)V"⟩, 5), (⟨"BookedEmpty$Reader", "both", "(I)V"⟩, 5), (⟨"BookedEmpty$Reader", "one", "(I)V"⟩, 5), (⟨"BookedEmpty$Reader", "takes", "(I)Z"⟩, 5), (⟨"BookedEmpty$Reader", "oneOf", "(Ljava/lang/String;)I"⟩, 5), (⟨"BookedEmpty", "asksHour", "(I)Z"⟩, 10), (⟨"BookedEmpty$Ways", "lookAt", "(LBookedEmpty$House;LBookedEmpty$Hour;I)V"⟩, 11), (⟨"BookedEmpty$Ways", "goOn", "(III)V"⟩, 11), (⟨"BookedEmpty$Ways", "keepBetter", "(II)V"⟩, 11)]
theorem lw_r1 : ∀ q ∈ lw_privs_1, lw_okq q := List.forall_mem_cons.mpr ⟨lw_p0, List.forall_mem_cons.mpr ⟨lw_p1, List.forall_mem_cons.mpr ⟨lw_p2, List.forall_mem_cons.mpr ⟨lw_p3, List.forall_mem_cons.mpr ⟨lw_p4, List.forall_mem_cons.mpr ⟨lw_p5, List.forall_mem_cons.mpr ⟨lw_p6, List.forall_mem_cons.mpr ⟨lw_p7, List.forall_mem_cons.mpr ⟨lw_p8, List.forall_mem_cons.mpr ⟨lw_p9, List.forall_mem_cons.mpr ⟨lw_p10, List.forall_mem_cons.mpr ⟨lw_p11, List.forall_mem_cons.mpr ⟨lw_p12, List.forall_mem_cons.mpr ⟨lw_p13, List.forall_mem_cons.mpr ⟨lw_p14, List.forall_mem_cons.mpr ⟨lw_p15, fun _ h => absurd h List.not_mem_nil⟩⟩⟩⟩⟩⟩⟩⟩⟩⟩⟩⟩⟩⟩⟩⟩
theorem lw_p16 : lw_okq (⟨"BookedEmpty", "roomy", "()I"⟩, 10) := ⟨⟨by decide +kernel, by decide +kernel⟩, List.mem_of_getElem? (i := 22) (by decide +kernel), List.mem_of_getElem? (i := 768) (by decide +kernel), List.mem_of_getElem? (i := 769) (by decide +kernel)⟩
theorem lw_p17 : lw_okq (⟨"BookedEmpty", "more", "()I"⟩, 10) := ⟨⟨by decide +kernel, by decide +kernel⟩, List.mem_of_getElem? (i := 22) (by decide +kernel), List.mem_of_getElem? (i := 778) (by decide +kernel), List.mem_of_getElem? (i := 779) (by decide +kernel)⟩
theorem lw_p18 : lw_okq (⟨"BookedEmpty", "mend", "()I"⟩, 10) := ⟨⟨by decide +kernel, by decide +kernel⟩, List.mem_of_getElem? (i := 22) (by decide +kernel), List.mem_of_getElem? (i := 807) (by decide +kernel), List.mem_of_getElem? (i := 808) (by decide +kernel)⟩
theorem lw_p19 : lw_okq (⟨"BookedEmpty$Acts", "run", "(LBookedEmpty$Hour;IIII)I"⟩, 2) := ⟨⟨by decide +kernel, by decide +kernel⟩, List.mem_of_getElem? (i := 78) (by decide +kernel), List.mem_of_getElem? (i := 912) (by decide +kernel), List.mem_of_getElem? (i := 913) (by decide +kernel)⟩
theorem lw_p20 : lw_okq (⟨"BookedEmpty$Acts", "begin", "(I)V"⟩, 2) := ⟨⟨by decide +kernel, by decide +kernel⟩, List.mem_of_getElem? (i := 78) (by decide +kernel), List.mem_of_getElem? (i := 923) (by decide +kernel), List.mem_of_getElem? (i := 924) (by decide +kernel)⟩
theorem lw_p21 : lw_okq (⟨"BookedEmptyModel", "isSeats", "(I)Z"⟩, 83) := ⟨⟨by decide +kernel, by decide +kernel⟩, List.mem_of_getElem? (i := 985) (by decide +kernel), List.mem_of_getElem? (i := 1246) (by decide +kernel), List.mem_of_getElem? (i := 1247) (by decide +kernel)⟩
theorem lw_p22 : lw_okq (⟨"BookedEmptyModel", "in", "(III)Z"⟩, 83) := ⟨⟨by decide +kernel, by decide +kernel⟩, List.mem_of_getElem? (i := 985) (by decide +kernel), List.mem_of_getElem? (i := 1250) (by decide +kernel), List.mem_of_getElem? (i := 1251) (by decide +kernel)⟩
theorem lw_p23 : lw_okq (⟨"BookedEmptyModel", "isQuarter", "(I)Z"⟩, 83) := ⟨⟨by decide +kernel, by decide +kernel⟩, List.mem_of_getElem? (i := 985) (by decide +kernel), List.mem_of_getElem? (i := 1258) (by decide +kernel), List.mem_of_getElem? (i := 1259) (by decide +kernel)⟩
theorem lw_p24 : lw_okq (⟨"BookedEmptyModel", "isRoom", "(I)Z"⟩, 83) := ⟨⟨by decide +kernel, by decide +kernel⟩, List.mem_of_getElem? (i := 985) (by decide +kernel), List.mem_of_getElem? (i := 1266) (by decide +kernel), List.mem_of_getElem? (i := 1267) (by decide +kernel)⟩
theorem lw_p25 : lw_okq (⟨"BookedEmptyModel", "has", "(II)Z"⟩, 83) := ⟨⟨by decide +kernel, by decide +kernel⟩, List.mem_of_getElem? (i := 985) (by decide +kernel), List.mem_of_getElem? (i := 1270) (by decide +kernel), List.mem_of_getElem? (i := 1271) (by decide +kernel)⟩
theorem lw_p26 : lw_okq (⟨"BookedEmptyModel", "isHour", "(I)Z"⟩, 83) := ⟨⟨by decide +kernel, by decide +kernel⟩, List.mem_of_getElem? (i := 985) (by decide +kernel), List.mem_of_getElem? (i := 1278) (by decide +kernel), List.mem_of_getElem? (i := 1279) (by decide +kernel)⟩
theorem lw_p27 : lw_okq (⟨"BookedEmptyModel", "goesText", "(I)Z"⟩, 83) := ⟨⟨by decide +kernel, by decide +kernel⟩, List.mem_of_getElem? (i := 985) (by decide +kernel), List.mem_of_getElem? (i := 1290) (by decide +kernel), List.mem_of_getElem? (i := 1291) (by decide +kernel)⟩
theorem lw_p28 : lw_okq (⟨"BookedEmptyModel", "takesClause", "(I)Z"⟩, 83) := ⟨⟨by decide +kernel, by decide +kernel⟩, List.mem_of_getElem? (i := 985) (by decide +kernel), List.mem_of_getElem? (i := 1294) (by decide +kernel), List.mem_of_getElem? (i := 1295) (by decide +kernel)⟩
theorem lw_p29 : lw_okq (⟨"BookedEmptyModel", "takesHead", "(I)Z"⟩, 83) := ⟨⟨by decide +kernel, by decide +kernel⟩, List.mem_of_getElem? (i := 985) (by decide +kernel), List.mem_of_getElem? (i := 1298) (by decide +kernel), List.mem_of_getElem? (i := 1299) (by decide +kernel)⟩
theorem lw_p30 : lw_okq (⟨"BookedEmptyModel", "next", "()I"⟩, 83) := ⟨⟨by decide +kernel, by decide +kernel⟩, List.mem_of_getElem? (i := 985) (by decide +kernel), List.mem_of_getElem? (i := 1302) (by decide +kernel), List.mem_of_getElem? (i := 1303) (by decide +kernel)⟩
theorem lw_p31 : lw_okq (⟨"BookedEmptyModel", "takesWord", "(II)Z"⟩, 83) := ⟨⟨by decide +kernel, by decide +kernel⟩, List.mem_of_getElem? (i := 985) (by decide +kernel), List.mem_of_getElem? (i := 1306) (by decide +kernel), List.mem_of_getElem? (i := 1307) (by decide +kernel)⟩
def lw_privs_2 : List (MethodName × Nat) := [(⟨"BookedEmpty", "roomy", "()I"⟩, 10), (⟨"BookedEmpty", "more", "()I"⟩, 10), (⟨"BookedEmpty", "mend", "()I"⟩, 10), (⟨"BookedEmpty$Acts", "run", "(LBookedEmpty$Hour;IIII)I"⟩, 2), (⟨"BookedEmpty$Acts", "begin", "(I)V"⟩, 2), (⟨"BookedEmptyModel", "isSeats", "(I)Z"⟩, 83), (⟨"BookedEmptyModel", "in", "(III)Z"⟩, 83), (⟨"BookedEmptyModel", "isQuarter", "(I)Z"⟩, 83), (⟨"BookedEmptyModel", "isRoom", "(I)Z"⟩, 83), (⟨"BookedEmptyModel", "has", "(II)Z"⟩, 83), (⟨"BookedEmptyModel", "isHour", "(I)Z"⟩, 83), (⟨"BookedEmptyModel", "goesText", "(I)Z"⟩, 83), (⟨"BookedEmptyModel", "takesClause", "(I)Z"⟩, 83), (⟨"BookedEmptyModel", "takesHead", "(I)Z"⟩, 83), (⟨"BookedEmptyModel", "next", "()I"⟩, 83), (⟨"BookedEmptyModel", "takesWord", "(II)Z"⟩, 83)]
theorem lw_r2 : ∀ q ∈ lw_privs_2, lw_okq q := List.forall_mem_cons.mpr ⟨lw_p16, List.forall_mem_cons.mpr ⟨lw_p17, List.forall_mem_cons.mpr ⟨lw_p18, List.forall_mem_cons.mpr ⟨lw_p19, List.forall_mem_cons.mpr ⟨lw_p20, List.forall_mem_cons.mpr ⟨lw_p21, List.forall_mem_cons.mpr ⟨lw_p22, List.forall_mem_cons.mpr ⟨lw_p23, List.forall_mem_cons.mpr ⟨lw_p24, List.forall_mem_cons.mpr ⟨lw_p25, List.forall_mem_cons.mpr ⟨lw_p26, List.forall_mem_cons.mpr ⟨lw_p27, List.forall_mem_cons.mpr ⟨lw_p28, List.forall_mem_cons.mpr ⟨lw_p29, List.forall_mem_cons.mpr ⟨lw_p30, List.forall_mem_cons.mpr ⟨lw_p31, fun _ h => absurd h List.not_mem_nil⟩⟩⟩⟩⟩⟩⟩⟩⟩⟩⟩⟩⟩⟩⟩⟩
theorem lw_p32 : lw_okq (⟨"BookedEmptyModel", "takes", "(I)Z"⟩, 83) := ⟨⟨by decide +kernel, by decide +kernel⟩, List.mem_of_getElem? (i := 985) (by decide +kernel), List.mem_of_getElem? (i := 1310) (by decide +kernel), List.mem_of_getElem? (i := 1311) (by decide +kernel)⟩
theorem lw_p33 : lw_okq (⟨"BookedEmptyModel", "takesNumber", "()Z"⟩, 83) := ⟨⟨by decide +kernel, by decide +kernel⟩, List.mem_of_getElem? (i := 985) (by decide +kernel), List.mem_of_getElem? (i := 1314) (by decide +kernel), List.mem_of_getElem? (i := 1315) (by decide +kernel)⟩
theorem lw_p34 : lw_okq (⟨"BookedEmptyModel", "isDigit", "()Z"⟩, 83) := ⟨⟨by decide +kernel, by decide +kernel⟩, List.mem_of_getElem? (i := 985) (by decide +kernel), List.mem_of_getElem? (i := 1318) (by decide +kernel), List.mem_of_getElem? (i := 1319) (by decide +kernel)⟩
theorem lw_p35 : lw_okq (⟨"BookedEmptyModel", "takesE", "(I)Z"⟩, 83) := ⟨⟨by decide +kernel, by decide +kernel⟩, List.mem_of_getElem? (i := 985) (by decide +kernel), List.mem_of_getElem? (i := 1322) (by decide +kernel), List.mem_of_getElem? (i := 1323) (by decide +kernel)⟩
theorem lw_p36 : lw_okq (⟨"BookedEmptyModel", "takesTest", "()Z"⟩, 83) := ⟨⟨by decide +kernel, by decide +kernel⟩, List.mem_of_getElem? (i := 985) (by decide +kernel), List.mem_of_getElem? (i := 1326) (by decide +kernel), List.mem_of_getElem? (i := 1327) (by decide +kernel)⟩
theorem lw_p37 : lw_okq (⟨"BookedEmptyModel", "place", "(I)I"⟩, 83) := ⟨⟨by decide +kernel, by decide +kernel⟩, List.mem_of_getElem? (i := 985) (by decide +kernel), List.mem_of_getElem? (i := 1330) (by decide +kernel), List.mem_of_getElem? (i := 1331) (by decide +kernel)⟩
theorem lw_p38 : lw_okq (⟨"BookedEmptyModel", "emits", "(I)V"⟩, 83) := ⟨⟨by decide +kernel, by decide +kernel⟩, List.mem_of_getElem? (i := 985) (by decide +kernel), List.mem_of_getElem? (i := 1334) (by decide +kernel), List.mem_of_getElem? (i := 1335) (by decide +kernel)⟩
theorem lw_p39 : lw_okq (⟨"BookedEmptyModel", "whole", "()V"⟩, 83) := ⟨⟨by decide +kernel, by decide +kernel⟩, List.mem_of_getElem? (i := 985) (by decide +kernel), List.mem_of_getElem? (i := 1338) (by decide +kernel), List.mem_of_getElem? (i := 1339) (by decide +kernel)⟩
theorem lw_p40 : lw_okq (⟨"BookedEmptyModel", "settle", "(I)V"⟩, 83) := ⟨⟨by decide +kernel, by decide +kernel⟩, List.mem_of_getElem? (i := 985) (by decide +kernel), List.mem_of_getElem? (i := 1342) (by decide +kernel), List.mem_of_getElem? (i := 1343) (by decide +kernel)⟩
theorem lw_p41 : lw_okq (⟨"BookedEmptyModel", "insideSet", "(II)I"⟩, 83) := ⟨⟨by decide +kernel, by decide +kernel⟩, List.mem_of_getElem? (i := 985) (by decide +kernel), List.mem_of_getElem? (i := 1350) (by decide +kernel), List.mem_of_getElem? (i := 1351) (by decide +kernel)⟩
theorem lw_p42 : lw_okq (⟨"BookedEmptyModel", "isInside", "(II)Z"⟩, 83) := ⟨⟨by decide +kernel, by decide +kernel⟩, List.mem_of_getElem? (i := 985) (by decide +kernel), List.mem_of_getElem? (i := 1354) (by decide +kernel), List.mem_of_getElem? (i := 1355) (by decide +kernel)⟩
theorem lw_p43 : lw_okq (⟨"BookedEmptyModel", "comes", "(I)I"⟩, 83) := ⟨⟨by decide +kernel, by decide +kernel⟩, List.mem_of_getElem? (i := 985) (by decide +kernel), List.mem_of_getElem? (i := 1358) (by decide +kernel), List.mem_of_getElem? (i := 1359) (by decide +kernel)⟩
theorem lw_p44 : lw_okq (⟨"BookedEmptyModel", "goes", "(I)I"⟩, 83) := ⟨⟨by decide +kernel, by decide +kernel⟩, List.mem_of_getElem? (i := 985) (by decide +kernel), List.mem_of_getElem? (i := 1362) (by decide +kernel), List.mem_of_getElem? (i := 1363) (by decide +kernel)⟩
theorem lw_p45 : lw_okq (⟨"BookedEmptyModel", "quarters", "()I"⟩, 83) := ⟨⟨by decide +kernel, by decide +kernel⟩, List.mem_of_getElem? (i := 985) (by decide +kernel), List.mem_of_getElem? (i := 1366) (by decide +kernel), List.mem_of_getElem? (i := 1367) (by decide +kernel)⟩
theorem lw_p46 : lw_okq (⟨"BookedEmptyModel", "lastOf", "(II)I"⟩, 83) := ⟨⟨by decide +kernel, by decide +kernel⟩, List.mem_of_getElem? (i := 985) (by decide +kernel), List.mem_of_getElem? (i := 1370) (by decide +kernel), List.mem_of_getElem? (i := 1371) (by decide +kernel)⟩
theorem lw_p47 : lw_okq (⟨"BookedEmptyModel", "begin", "()I"⟩, 83) := ⟨⟨by decide +kernel, by decide +kernel⟩, List.mem_of_getElem? (i := 985) (by decide +kernel), List.mem_of_getElem? (i := 1374) (by decide +kernel), List.mem_of_getElem? (i := 1375) (by decide +kernel)⟩
def lw_privs_3 : List (MethodName × Nat) := [(⟨"BookedEmptyModel", "takes", "(I)Z"⟩, 83), (⟨"BookedEmptyModel", "takesNumber", "()Z"⟩, 83), (⟨"BookedEmptyModel", "isDigit", "()Z"⟩, 83), (⟨"BookedEmptyModel", "takesE", "(I)Z"⟩, 83), (⟨"BookedEmptyModel", "takesTest", "()Z"⟩, 83), (⟨"BookedEmptyModel", "place", "(I)I"⟩, 83), (⟨"BookedEmptyModel", "emits", "(I)V"⟩, 83), (⟨"BookedEmptyModel", "whole", "()V"⟩, 83), (⟨"BookedEmptyModel", "settle", "(I)V"⟩, 83), (⟨"BookedEmptyModel", "insideSet", "(II)I"⟩, 83), (⟨"BookedEmptyModel", "isInside", "(II)Z"⟩, 83), (⟨"BookedEmptyModel", "comes", "(I)I"⟩, 83), (⟨"BookedEmptyModel", "goes", "(I)I"⟩, 83), (⟨"BookedEmptyModel", "quarters", "()I"⟩, 83), (⟨"BookedEmptyModel", "lastOf", "(II)I"⟩, 83), (⟨"BookedEmptyModel", "begin", "()I"⟩, 83)]
theorem lw_r3 : ∀ q ∈ lw_privs_3, lw_okq q := List.forall_mem_cons.mpr ⟨lw_p32, List.forall_mem_cons.mpr ⟨lw_p33, List.forall_mem_cons.mpr ⟨lw_p34, List.forall_mem_cons.mpr ⟨lw_p35, List.forall_mem_cons.mpr ⟨lw_p36, List.forall_mem_cons.mpr ⟨lw_p37, List.forall_mem_cons.mpr ⟨lw_p38, List.forall_mem_cons.mpr ⟨lw_p39, List.forall_mem_cons.mpr ⟨lw_p40, List.forall_mem_cons.mpr ⟨lw_p41, List.forall_mem_cons.mpr ⟨lw_p42, List.forall_mem_cons.mpr ⟨lw_p43, List.forall_mem_cons.mpr ⟨lw_p44, List.forall_mem_cons.mpr ⟨lw_p45, List.forall_mem_cons.mpr ⟨lw_p46, List.forall_mem_cons.mpr ⟨lw_p47, fun _ h => absurd h List.not_mem_nil⟩⟩⟩⟩⟩⟩⟩⟩⟩⟩⟩⟩⟩⟩⟩⟩
theorem lw_p48 : lw_okq (⟨"BookedEmptyModel", "behind", "()I"⟩, 83) := ⟨⟨by decide +kernel, by decide +kernel⟩, List.mem_of_getElem? (i := 985) (by decide +kernel), List.mem_of_getElem? (i := 1378) (by decide +kernel), List.mem_of_getElem? (i := 1379) (by decide +kernel)⟩
theorem lw_p49 : lw_okq (⟨"BookedEmptyModel", "least", "(II)I"⟩, 83) := ⟨⟨by decide +kernel, by decide +kernel⟩, List.mem_of_getElem? (i := 985) (by decide +kernel), List.mem_of_getElem? (i := 1382) (by decide +kernel), List.mem_of_getElem? (i := 1383) (by decide +kernel)⟩
theorem lw_p50 : lw_okq (⟨"BookedEmptyModel", "heldSet", "(II)I"⟩, 83) := ⟨⟨by decide +kernel, by decide +kernel⟩, List.mem_of_getElem? (i := 985) (by decide +kernel), List.mem_of_getElem? (i := 1390) (by decide +kernel), List.mem_of_getElem? (i := 1391) (by decide +kernel)⟩
theorem lw_p51 : lw_okq (⟨"BookedEmptyModel", "isHeldFor", "(II)Z"⟩, 83) := ⟨⟨by decide +kernel, by decide +kernel⟩, List.mem_of_getElem? (i := 985) (by decide +kernel), List.mem_of_getElem? (i := 1394) (by decide +kernel), List.mem_of_getElem? (i := 1395) (by decide +kernel)⟩
theorem lw_p52 : lw_okq (⟨"BookedEmptyModel", "heldTill", "(I)I"⟩, 83) := ⟨⟨by decide +kernel, by decide +kernel⟩, List.mem_of_getElem? (i := 985) (by decide +kernel), List.mem_of_getElem? (i := 1398) (by decide +kernel), List.mem_of_getElem? (i := 1399) (by decide +kernel)⟩
theorem lw_p53 : lw_okq (⟨"BookedEmptyModel", "hold", "()I"⟩, 83) := ⟨⟨by decide +kernel, by decide +kernel⟩, List.mem_of_getElem? (i := 985) (by decide +kernel), List.mem_of_getElem? (i := 1402) (by decide +kernel), List.mem_of_getElem? (i := 1403) (by decide +kernel)⟩
theorem lw_p54 : lw_okq (⟨"BookedEmptyModel", "bookedTill", "(I)I"⟩, 83) := ⟨⟨by decide +kernel, by decide +kernel⟩, List.mem_of_getElem? (i := 985) (by decide +kernel), List.mem_of_getElem? (i := 1406) (by decide +kernel), List.mem_of_getElem? (i := 1407) (by decide +kernel)⟩
theorem lw_p55 : lw_okq (⟨"BookedEmptyModel", "unused", "(IZ)I"⟩, 83) := ⟨⟨by decide +kernel, by decide +kernel⟩, List.mem_of_getElem? (i := 985) (by decide +kernel), List.mem_of_getElem? (i := 1414) (by decide +kernel), List.mem_of_getElem? (i := 1415) (by decide +kernel)⟩
theorem lw_p56 : lw_okq (⟨"BookedEmptyModel", "fits", "(II)Z"⟩, 83) := ⟨⟨by decide +kernel, by decide +kernel⟩, List.mem_of_getElem? (i := 985) (by decide +kernel), List.mem_of_getElem? (i := 1422) (by decide +kernel), List.mem_of_getElem? (i := 1423) (by decide +kernel)⟩
theorem lw_p57 : lw_okq (⟨"BookedEmptyModel", "isQuiet", "(I)Z"⟩, 83) := ⟨⟨by decide +kernel, by decide +kernel⟩, List.mem_of_getElem? (i := 985) (by decide +kernel), List.mem_of_getElem? (i := 1426) (by decide +kernel), List.mem_of_getElem? (i := 1427) (by decide +kernel)⟩
theorem lw_p58 : lw_okq (⟨"BookedEmptyModel", "worth", "(II)I"⟩, 83) := ⟨⟨by decide +kernel, by decide +kernel⟩, List.mem_of_getElem? (i := 985) (by decide +kernel), List.mem_of_getElem? (i := 1430) (by decide +kernel), List.mem_of_getElem? (i := 1431) (by decide +kernel)⟩
theorem lw_p59 : lw_okq (⟨"BookedEmptyModel", "holds", "(III)Z"⟩, 83) := ⟨⟨by decide +kernel, by decide +kernel⟩, List.mem_of_getElem? (i := 985) (by decide +kernel), List.mem_of_getElem? (i := 1434) (by decide +kernel), List.mem_of_getElem? (i := 1435) (by decide +kernel)⟩
theorem lw_p60 : lw_okq (⟨"BookedEmptyModel", "factOf", "(III)I"⟩, 83) := ⟨⟨by decide +kernel, by decide +kernel⟩, List.mem_of_getElem? (i := 985) (by decide +kernel), List.mem_of_getElem? (i := 1438) (by decide +kernel), List.mem_of_getElem? (i := 1439) (by decide +kernel)⟩
theorem lw_p61 : lw_okq (⟨"BookedEmptyModel", "clash", "(II)Z"⟩, 83) := ⟨⟨by decide +kernel, by decide +kernel⟩, List.mem_of_getElem? (i := 985) (by decide +kernel), List.mem_of_getElem? (i := 1446) (by decide +kernel), List.mem_of_getElem? (i := 1447) (by decide +kernel)⟩
theorem lw_p62 : lw_okq (⟨"BookedEmptyModel", "wasteOf", "(I)I"⟩, 83) := ⟨⟨by decide +kernel, by decide +kernel⟩, List.mem_of_getElem? (i := 985) (by decide +kernel), List.mem_of_getElem? (i := 1462) (by decide +kernel), List.mem_of_getElem? (i := 1463) (by decide +kernel)⟩
theorem lw_p63 : lw_okq (⟨"BookedEmptyModel", "allUnused", "(Z)I"⟩, 83) := ⟨⟨by decide +kernel, by decide +kernel⟩, List.mem_of_getElem? (i := 985) (by decide +kernel), List.mem_of_getElem? (i := 1466) (by decide +kernel), List.mem_of_getElem? (i := 1467) (by decide +kernel)⟩
def lw_privs_4 : List (MethodName × Nat) := [(⟨"BookedEmptyModel", "behind", "()I"⟩, 83), (⟨"BookedEmptyModel", "least", "(II)I"⟩, 83), (⟨"BookedEmptyModel", "heldSet", "(II)I"⟩, 83), (⟨"BookedEmptyModel", "isHeldFor", "(II)Z"⟩, 83), (⟨"BookedEmptyModel", "heldTill", "(I)I"⟩, 83), (⟨"BookedEmptyModel", "hold", "()I"⟩, 83), (⟨"BookedEmptyModel", "bookedTill", "(I)I"⟩, 83), (⟨"BookedEmptyModel", "unused", "(IZ)I"⟩, 83), (⟨"BookedEmptyModel", "fits", "(II)Z"⟩, 83), (⟨"BookedEmptyModel", "isQuiet", "(I)Z"⟩, 83), (⟨"BookedEmptyModel", "worth", "(II)I"⟩, 83), (⟨"BookedEmptyModel", "holds", "(III)Z"⟩, 83), (⟨"BookedEmptyModel", "factOf", "(III)I"⟩, 83), (⟨"BookedEmptyModel", "clash", "(II)Z"⟩, 83), (⟨"BookedEmptyModel", "wasteOf", "(I)I"⟩, 83), (⟨"BookedEmptyModel", "allUnused", "(Z)I"⟩, 83)]
theorem lw_r4 : ∀ q ∈ lw_privs_4, lw_okq q := List.forall_mem_cons.mpr ⟨lw_p48, List.forall_mem_cons.mpr ⟨lw_p49, List.forall_mem_cons.mpr ⟨lw_p50, List.forall_mem_cons.mpr ⟨lw_p51, List.forall_mem_cons.mpr ⟨lw_p52, List.forall_mem_cons.mpr ⟨lw_p53, List.forall_mem_cons.mpr ⟨lw_p54, List.forall_mem_cons.mpr ⟨lw_p55, List.forall_mem_cons.mpr ⟨lw_p56, List.forall_mem_cons.mpr ⟨lw_p57, List.forall_mem_cons.mpr ⟨lw_p58, List.forall_mem_cons.mpr ⟨lw_p59, List.forall_mem_cons.mpr ⟨lw_p60, List.forall_mem_cons.mpr ⟨lw_p61, List.forall_mem_cons.mpr ⟨lw_p62, List.forall_mem_cons.mpr ⟨lw_p63, fun _ h => absurd h List.not_mem_nil⟩⟩⟩⟩⟩⟩⟩⟩⟩⟩⟩⟩⟩⟩⟩⟩
theorem lw_p64 : lw_okq (⟨"BookedEmptyModel", "layBest", "(Z)V"⟩, 83) := ⟨⟨by decide +kernel, by decide +kernel⟩, List.mem_of_getElem? (i := 985) (by decide +kernel), List.mem_of_getElem? (i := 1478) (by decide +kernel), List.mem_of_getElem? (i := 1479) (by decide +kernel)⟩
theorem lw_p65 : lw_okq (⟨"BookedEmptyModel", "layFits", "()V"⟩, 83) := ⟨⟨by decide +kernel, by decide +kernel⟩, List.mem_of_getElem? (i := 985) (by decide +kernel), List.mem_of_getElem? (i := 1482) (by decide +kernel), List.mem_of_getElem? (i := 1483) (by decide +kernel)⟩
theorem lw_p66 : lw_okq (⟨"BookedEmptyModel", "layWay", "(I)Z"⟩, 83) := ⟨⟨by decide +kernel, by decide +kernel⟩, List.mem_of_getElem? (i := 985) (by decide +kernel), List.mem_of_getElem? (i := 1486) (by decide +kernel), List.mem_of_getElem? (i := 1487) (by decide +kernel)⟩
theorem lw_p67 : lw_okq (⟨"BookedEmptyModel", "bestOf", "(I)I"⟩, 83) := ⟨⟨by decide +kernel, by decide +kernel⟩, List.mem_of_getElem? (i := 985) (by decide +kernel), List.mem_of_getElem? (i := 1490) (by decide +kernel), List.mem_of_getElem? (i := 1491) (by decide +kernel)⟩
theorem lw_p68 : lw_okq (⟨"BookedEmptyModel", "roomy", "()I"⟩, 83) := ⟨⟨by decide +kernel, by decide +kernel⟩, List.mem_of_getElem? (i := 985) (by decide +kernel), List.mem_of_getElem? (i := 1502) (by decide +kernel), List.mem_of_getElem? (i := 1503) (by decide +kernel)⟩
theorem lw_p69 : lw_okq (⟨"BookedEmptyModel", "allRooms", "()I"⟩, 83) := ⟨⟨by decide +kernel, by decide +kernel⟩, List.mem_of_getElem? (i := 985) (by decide +kernel), List.mem_of_getElem? (i := 1506) (by decide +kernel), List.mem_of_getElem? (i := 1507) (by decide +kernel)⟩
theorem lw_p70 : lw_okq (⟨"BookedEmptyModel", "mostBy", "(I)I"⟩, 83) := ⟨⟨by decide +kernel, by decide +kernel⟩, List.mem_of_getElem? (i := 985) (by decide +kernel), List.mem_of_getElem? (i := 1510) (by decide +kernel), List.mem_of_getElem? (i := 1511) (by decide +kernel)⟩
theorem lw_p71 : lw_okq (⟨"BookedEmptyModel", "clearSets", "()V"⟩, 83) := ⟨⟨by decide +kernel, by decide +kernel⟩, List.mem_of_getElem? (i := 985) (by decide +kernel), List.mem_of_getElem? (i := 1514) (by decide +kernel), List.mem_of_getElem? (i := 1515) (by decide +kernel)⟩
theorem lw_p72 : lw_okq (⟨"BookedEmptyModel", "addRoom", "(I)V"⟩, 83) := ⟨⟨by decide +kernel, by decide +kernel⟩, List.mem_of_getElem? (i := 985) (by decide +kernel), List.mem_of_getElem? (i := 1518) (by decide +kernel), List.mem_of_getElem? (i := 1519) (by decide +kernel)⟩
theorem lw_p73 : lw_okq (⟨"BookedEmptyModel", "canShare", "(II)Z"⟩, 83) := ⟨⟨by decide +kernel, by decide +kernel⟩, List.mem_of_getElem? (i := 985) (by decide +kernel), List.mem_of_getElem? (i := 1522) (by decide +kernel), List.mem_of_getElem? (i := 1523) (by decide +kernel)⟩
theorem lw_p74 : lw_okq (⟨"BookedEmptyModel", "mostSets", "()I"⟩, 83) := ⟨⟨by decide +kernel, by decide +kernel⟩, List.mem_of_getElem? (i := 985) (by decide +kernel), List.mem_of_getElem? (i := 1526) (by decide +kernel), List.mem_of_getElem? (i := 1527) (by decide +kernel)⟩
theorem lw_p75 : lw_okq (⟨"BookedEmptyModel", "bits", "(I)I"⟩, 83) := ⟨⟨by decide +kernel, by decide +kernel⟩, List.mem_of_getElem? (i := 985) (by decide +kernel), List.mem_of_getElem? (i := 1530) (by decide +kernel), List.mem_of_getElem? (i := 1531) (by decide +kernel)⟩
theorem lw_p76 : lw_okq (⟨"BookedEmptyModel", "more", "()I"⟩, 83) := ⟨⟨by decide +kernel, by decide +kernel⟩, List.mem_of_getElem? (i := 985) (by decide +kernel), List.mem_of_getElem? (i := 1534) (by decide +kernel), List.mem_of_getElem? (i := 1535) (by decide +kernel)⟩
theorem lw_p77 : lw_okq (⟨"BookedEmptyModel", "mend", "()I"⟩, 83) := ⟨⟨by decide +kernel, by decide +kernel⟩, List.mem_of_getElem? (i := 985) (by decide +kernel), List.mem_of_getElem? (i := 1538) (by decide +kernel), List.mem_of_getElem? (i := 1539) (by decide +kernel)⟩
theorem lw_p78 : lw_okq (⟨"BookedEmptyModel", "isSeen", "()Z"⟩, 83) := ⟨⟨by decide +kernel, by decide +kernel⟩, List.mem_of_getElem? (i := 985) (by decide +kernel), List.mem_of_getElem? (i := 1558) (by decide +kernel), List.mem_of_getElem? (i := 1559) (by decide +kernel)⟩
theorem lw_p79 : lw_okq (⟨"BookedEmptyModel", "lowest", "(III)J"⟩, 83) := ⟨⟨by decide +kernel, by decide +kernel⟩, List.mem_of_getElem? (i := 985) (by decide +kernel), List.mem_of_getElem? (i := 1570) (by decide +kernel), List.mem_of_getElem? (i := 1571) (by decide +kernel)⟩
def lw_privs_5 : List (MethodName × Nat) := [(⟨"BookedEmptyModel", "layBest", "(Z)V"⟩, 83), (⟨"BookedEmptyModel", "layFits", "()V"⟩, 83), (⟨"BookedEmptyModel", "layWay", "(I)Z"⟩, 83), (⟨"BookedEmptyModel", "bestOf", "(I)I"⟩, 83), (⟨"BookedEmptyModel", "roomy", "()I"⟩, 83), (⟨"BookedEmptyModel", "allRooms", "()I"⟩, 83), (⟨"BookedEmptyModel", "mostBy", "(I)I"⟩, 83), (⟨"BookedEmptyModel", "clearSets", "()V"⟩, 83), (⟨"BookedEmptyModel", "addRoom", "(I)V"⟩, 83), (⟨"BookedEmptyModel", "canShare", "(II)Z"⟩, 83), (⟨"BookedEmptyModel", "mostSets", "()I"⟩, 83), (⟨"BookedEmptyModel", "bits", "(I)I"⟩, 83), (⟨"BookedEmptyModel", "more", "()I"⟩, 83), (⟨"BookedEmptyModel", "mend", "()I"⟩, 83), (⟨"BookedEmptyModel", "isSeen", "()Z"⟩, 83), (⟨"BookedEmptyModel", "lowest", "(III)J"⟩, 83)]
theorem lw_r5 : ∀ q ∈ lw_privs_5, lw_okq q := List.forall_mem_cons.mpr ⟨lw_p64, List.forall_mem_cons.mpr ⟨lw_p65, List.forall_mem_cons.mpr ⟨lw_p66, List.forall_mem_cons.mpr ⟨lw_p67, List.forall_mem_cons.mpr ⟨lw_p68, List.forall_mem_cons.mpr ⟨lw_p69, List.forall_mem_cons.mpr ⟨lw_p70, List.forall_mem_cons.mpr ⟨lw_p71, List.forall_mem_cons.mpr ⟨lw_p72, List.forall_mem_cons.mpr ⟨lw_p73, List.forall_mem_cons.mpr ⟨lw_p74, List.forall_mem_cons.mpr ⟨lw_p75, List.forall_mem_cons.mpr ⟨lw_p76, List.forall_mem_cons.mpr ⟨lw_p77, List.forall_mem_cons.mpr ⟨lw_p78, List.forall_mem_cons.mpr ⟨lw_p79, fun _ h => absurd h List.not_mem_nil⟩⟩⟩⟩⟩⟩⟩⟩⟩⟩⟩⟩⟩⟩⟩⟩
theorem lw_p80 : lw_okq (⟨"BookedEmptyModel", "divisor", "(II)I"⟩, 83) := ⟨⟨by decide +kernel, by decide +kernel⟩, List.mem_of_getElem? (i := 985) (by decide +kernel), List.mem_of_getElem? (i := 1574) (by decide +kernel), List.mem_of_getElem? (i := 1575) (by decide +kernel)⟩
theorem lw_p81 : lw_okq (⟨"BookedEmptyModel", "isTape", "(I)Z"⟩, 83) := ⟨⟨by decide +kernel, by decide +kernel⟩, List.mem_of_getElem? (i := 985) (by decide +kernel), List.mem_of_getElem? (i := 1603) (by decide +kernel), List.mem_of_getElem? (i := 1604) (by decide +kernel)⟩
theorem lw_p82 : lw_okq (⟨"BookedEmptyModel", "knocksAct", "(II)I"⟩, 83) := ⟨⟨by decide +kernel, by decide +kernel⟩, List.mem_of_getElem? (i := 985) (by decide +kernel), List.mem_of_getElem? (i := 1619) (by decide +kernel), List.mem_of_getElem? (i := 1620) (by decide +kernel)⟩
theorem lw_p83 : lw_okq (⟨"BookedEmptyModel", "body", "(I)V"⟩, 83) := ⟨⟨by decide +kernel, by decide +kernel⟩, List.mem_of_getElem? (i := 985) (by decide +kernel), List.mem_of_getElem? (i := 1623) (by decide +kernel), List.mem_of_getElem? (i := 1624) (by decide +kernel)⟩
theorem lw_p84 : lw_okq (⟨"BookedEmptyModel", "hourKnocks", "(II)I"⟩, 83) := ⟨⟨by decide +kernel, by decide +kernel⟩, List.mem_of_getElem? (i := 985) (by decide +kernel), List.mem_of_getElem? (i := 1627) (by decide +kernel), List.mem_of_getElem? (i := 1628) (by decide +kernel)⟩
theorem lw_p85 : lw_okq (⟨"BookedEmptyModel", "sitsAct", "(II)I"⟩, 83) := ⟨⟨by decide +kernel, by decide +kernel⟩, List.mem_of_getElem? (i := 985) (by decide +kernel), List.mem_of_getElem? (i := 1631) (by decide +kernel), List.mem_of_getElem? (i := 1632) (by decide +kernel)⟩
theorem lw_p86 : lw_okq (⟨"BookedEmptyModel", "busySits", "(II)I"⟩, 83) := ⟨⟨by decide +kernel, by decide +kernel⟩, List.mem_of_getElem? (i := 985) (by decide +kernel), List.mem_of_getElem? (i := 1635) (by decide +kernel), List.mem_of_getElem? (i := 1636) (by decide +kernel)⟩
theorem lw_p87 : lw_okq (⟨"BookedEmptyModel", "hourSits", "(II)I"⟩, 83) := ⟨⟨by decide +kernel, by decide +kernel⟩, List.mem_of_getElem? (i := 985) (by decide +kernel), List.mem_of_getElem? (i := 1639) (by decide +kernel), List.mem_of_getElem? (i := 1640) (by decide +kernel)⟩
theorem lw_p88 : lw_okq (⟨"BookedEmptyModel", "tellsAct", "(II)I"⟩, 83) := ⟨⟨by decide +kernel, by decide +kernel⟩, List.mem_of_getElem? (i := 985) (by decide +kernel), List.mem_of_getElem? (i := 1643) (by decide +kernel), List.mem_of_getElem? (i := 1644) (by decide +kernel)⟩
theorem lw_p89 : lw_okq (⟨"BookedEmptyModel", "hourTells", "(II)I"⟩, 83) := ⟨⟨by decide +kernel, by decide +kernel⟩, List.mem_of_getElem? (i := 985) (by decide +kernel), List.mem_of_getElem? (i := 1647) (by decide +kernel), List.mem_of_getElem? (i := 1648) (by decide +kernel)⟩
theorem lw_p90 : lw_okq (⟨"BookedEmptyModel", "narrow", "(IJ)J"⟩, 83) := ⟨⟨by decide +kernel, by decide +kernel⟩, List.mem_of_getElem? (i := 985) (by decide +kernel), List.mem_of_getElem? (i := 1671) (by decide +kernel), List.mem_of_getElem? (i := 1672) (by decide +kernel)⟩
def lw_privs_6 : List (MethodName × Nat) := [(⟨"BookedEmptyModel", "divisor", "(II)I"⟩, 83), (⟨"BookedEmptyModel", "isTape", "(I)Z"⟩, 83), (⟨"BookedEmptyModel", "knocksAct", "(II)I"⟩, 83), (⟨"BookedEmptyModel", "body", "(I)V"⟩, 83), (⟨"BookedEmptyModel", "hourKnocks", "(II)I"⟩, 83), (⟨"BookedEmptyModel", "sitsAct", "(II)I"⟩, 83), (⟨"BookedEmptyModel", "busySits", "(II)I"⟩, 83), (⟨"BookedEmptyModel", "hourSits", "(II)I"⟩, 83), (⟨"BookedEmptyModel", "tellsAct", "(II)I"⟩, 83), (⟨"BookedEmptyModel", "hourTells", "(II)I"⟩, 83), (⟨"BookedEmptyModel", "narrow", "(IJ)J"⟩, 83)]
theorem lw_r6 : ∀ q ∈ lw_privs_6, lw_okq q := List.forall_mem_cons.mpr ⟨lw_p80, List.forall_mem_cons.mpr ⟨lw_p81, List.forall_mem_cons.mpr ⟨lw_p82, List.forall_mem_cons.mpr ⟨lw_p83, List.forall_mem_cons.mpr ⟨lw_p84, List.forall_mem_cons.mpr ⟨lw_p85, List.forall_mem_cons.mpr ⟨lw_p86, List.forall_mem_cons.mpr ⟨lw_p87, List.forall_mem_cons.mpr ⟨lw_p88, List.forall_mem_cons.mpr ⟨lw_p89, List.forall_mem_cons.mpr ⟨lw_p90, fun _ h => absurd h List.not_mem_nil⟩⟩⟩⟩⟩⟩⟩⟩⟩⟩⟩
def lw_privs : List (MethodName × Nat) := lw_privs_1 ++ (lw_privs_2 ++ (lw_privs_3 ++ (lw_privs_4 ++ (lw_privs_5 ++ (lw_privs_6)))))
def lw_tbl : List Cond := k2_sels lw_privs ++ tables_1
theorem lw_privs_ok : ∀ q ∈ lw_privs, lw_okq q := by
  show ∀ q ∈ lw_privs_1 ++ (lw_privs_2 ++ (lw_privs_3 ++ (lw_privs_4 ++ (lw_privs_5 ++ (lw_privs_6))))), lw_okq q
  exact List.forall_mem_append.mpr ⟨lw_r1, List.forall_mem_append.mpr ⟨lw_r2, List.forall_mem_append.mpr ⟨lw_r3, List.forall_mem_append.mpr ⟨lw_r4, List.forall_mem_append.mpr ⟨lw_r5, lw_r6⟩⟩⟩⟩⟩
end
section
/-! TABLES, by program: the classes, what kinds of made things there are, the methods with their instructions. -/
abbrev am_E : Type := Nat × Instr × Nat × (Nat × Nat × Nat) × List (Int × Nat)
abbrev am_Mt : Type := MethodName × ByteArray × Nat × Option FieldType × List am_E × Nat × Nat
def am_nX0 : String := "BookedEmpty$Acts"
def am_tX0 : u_T := fun k => match k with
  | 0 => ("BookedEmpty$Acts", "bodies", "[I", true)
  | _ => ("BookedEmpty$Acts", "ran", "I", false)
def am_nX1 : String := "BookedEmpty$Hour"
def am_tX1 : u_T := fun k => match k with
  | 0 => ("BookedEmpty$Hour", "number", "I", true)
  | 1 => ("BookedEmpty$Hour", "kind", "I", false)
  | 2 => ("BookedEmpty$Hour", "v", "I", false)
  | 3 => ("BookedEmpty$Hour", "from", "I", false)
  | 4 => ("BookedEmpty$Hour", "quarters", "I", false)
  | 5 => ("BookedEmpty$Hour", "people", "I", false)
  | 6 => ("BookedEmpty$Hour", "room", "I", false)
  | _ => ("BookedEmpty$Hour", "row", "[I", true)
def am_nX2 : String := "BookedEmpty$House"
def am_tX2 : u_T := fun k => match k with
  | 0 => ("BookedEmpty$House", "rooms", "[LBookedEmpty$Room;", true)
  | 1 => ("BookedEmpty$House", "hours", "[LBookedEmpty$Hour;", true)
  | 2 => ("BookedEmpty$House", "roomCount", "I", false)
  | 3 => ("BookedEmpty$House", "hourCount", "I", false)
  | 4 => ("BookedEmpty$House", "day", "I", false)
  | 5 => ("BookedEmpty$House", "office", "LBookedEmpty$Office;", false)
  | 6 => ("BookedEmpty$House", "hold", "I", false)
  | 7 => ("BookedEmpty$House", "seen", "LBookedEmpty$Rows;", true)
  | 8 => ("BookedEmpty$House", "plan", "LBookedEmpty$Rows;", true)
  | _ => ("BookedEmpty$House", "book", "LBookedEmpty$Rows;", true)
def am_nX3 : String := "BookedEmpty$Office"
def am_tX3 : u_T := fun k => match k with
  | 0 => ("BookedEmpty$Office", "hold", "I", false)
  | 1 => ("BookedEmpty$Office", "quarters", "I", false)
  | 2 => ("BookedEmpty$Office", "wishes", "I", false)
  | 3 => ("BookedEmpty$Office", "weights", "[I", true)
  | 4 => ("BookedEmpty$Office", "ends", "[I", true)
  | 5 => ("BookedEmpty$Office", "code", "[I", true)
  | _ => ("BookedEmpty$Office", "size", "I", false)
def am_nX4 : String := "BookedEmpty$Reader"
def am_tX4 : u_T := fun k => match k with
  | 0 => ("BookedEmpty$Reader", "text", "[B", true)
  | 1 => ("BookedEmpty$Reader", "length", "I", false)
  | 2 => ("BookedEmpty$Reader", "place", "I", false)
  | 3 => ("BookedEmpty$Reader", "failed", "Z", false)
  | _ => ("BookedEmpty$Reader", "into", "LBookedEmpty$Office;", false)
def am_nX5 : String := "BookedEmpty$Room"
def am_tX5 : u_T := fun k => match k with
  | 0 => ("BookedEmpty$Room", "number", "I", true)
  | 1 => ("BookedEmpty$Room", "seats", "I", false)
  | _ => ("BookedEmpty$Room", "fault", "Z", false)
def am_nX6 : String := "BookedEmpty$Rows"
def am_tX6 : u_T := fun k => match k with
  | 0 => ("BookedEmpty$Rows", "rows", "[[I", true)
  | _ => ("BookedEmpty$Rows", "size", "I", false)
def am_nX7 : String := "BookedEmpty$Tapes"
def am_tX7 : u_T := fun k => match k with
  | 0 => ("BookedEmpty$Tapes", "items", "[[J", true)
  | 1 => ("BookedEmpty$Tapes", "sorts", "[I", true)
  | _ => ("BookedEmpty$Tapes", "sizes", "[I", true)
def am_nX8 : String := "BookedEmpty$Ways"
def am_tX8 : u_T := fun k => match k with
  | 0 => ("BookedEmpty$Ways", "hours", "I", false)
  | 1 => ("BookedEmpty$Ways", "rooms", "I", false)
  | 2 => ("BookedEmpty$Ways", "byCount", "Z", false)
  | 3 => ("BookedEmpty$Ways", "fitting", "[I", true)
  | 4 => ("BookedEmpty$Ways", "booked", "[J", true)
  | 5 => ("BookedEmpty$Ways", "worths", "[[I", true)
  | 6 => ("BookedEmpty$Ways", "full", "[J", true)
  | 7 => ("BookedEmpty$Ways", "way", "[I", true)
  | 8 => ("BookedEmpty$Ways", "best", "[I", true)
  | 9 => ("BookedEmpty$Ways", "bestCount", "I", false)
  | _ => ("BookedEmpty$Ways", "bestWorth", "I", false)
def am_nX9 : String := "BookedEmpty"
def am_tX9 : u_T := fun k => match k with
  | 0 => ("BookedEmpty", "now", "LBookedEmpty$House;", true)
  | 1 => ("BookedEmpty", "kept", "LBookedEmpty$House;", true)
  | 2 => ("BookedEmpty", "hasImage", "Z", false)
  | 3 => ("BookedEmpty", "trial", "LBookedEmpty$House;", true)
  | 4 => ("BookedEmpty", "offices", "[LBookedEmpty$Office;", true)
  | 5 => ("BookedEmpty", "officeCount", "I", false)
  | 6 => ("BookedEmpty", "reader", "LBookedEmpty$Reader;", true)
  | 7 => ("BookedEmpty", "ways", "LBookedEmpty$Ways;", true)
  | 8 => ("BookedEmpty", "acts", "LBookedEmpty$Acts;", true)
  | _ => ("BookedEmpty", "tapes", "LBookedEmpty$Tapes;", true)
def am_nX10 : String := "BookedEmptyModel"
def am_tX10 : u_T := fun k => match k with
  | 0 => ("BookedEmptyModel", "rooms", "I", false)
  | 1 => ("BookedEmptyModel", "faults", "I", false)
  | 2 => ("BookedEmptyModel", "hours", "I", false)
  | 3 => ("BookedEmptyModel", "days", "I", false)
  | 4 => ("BookedEmptyModel", "seats", "[I", true)
  | 5 => ("BookedEmptyModel", "kind", "[I", true)
  | 6 => ("BookedEmptyModel", "v", "[I", true)
  | 7 => ("BookedEmptyModel", "start", "[I", true)
  | 8 => ("BookedEmptyModel", "long0", "[I", true)
  | 9 => ("BookedEmptyModel", "people", "[I", true)
  | 10 => ("BookedEmptyModel", "room0", "[I", true)
  | 11 => ("BookedEmptyModel", "rows", "[I", true)
  | 12 => ("BookedEmptyModel", "offices", "I", false)
  | 13 => ("BookedEmptyModel", "the", "I", false)
  | 14 => ("BookedEmptyModel", "fed", "I", false)
  | 15 => ("BookedEmptyModel", "at", "I", false)
  | 16 => ("BookedEmptyModel", "digits", "I", false)
  | 17 => ("BookedEmptyModel", "text", "[I", true)
  | 18 => ("BookedEmptyModel", "clauses", "[I", true)
  | 19 => ("BookedEmptyModel", "word", "[I", true)
  | 20 => ("BookedEmptyModel", "number", "[I", true)
  | 21 => ("BookedEmptyModel", "from", "[I", true)
  | 22 => ("BookedEmptyModel", "to", "[I", true)
  | 23 => ("BookedEmptyModel", "sign", "[I", true)
  | 24 => ("BookedEmptyModel", "waits", "[I", true)
  | 25 => ("BookedEmptyModel", "signs", "I", false)
  | 26 => ("BookedEmptyModel", "waiting", "I", false)
  | 27 => ("BookedEmptyModel", "open", "I", false)
  | 28 => ("BookedEmptyModel", "letters", "[I", true)
  | 29 => ("BookedEmptyModel", "holdInMind", "I", false)
  | 30 => ("BookedEmptyModel", "pile", "[Z", true)
  | 31 => ("BookedEmptyModel", "way", "[I", true)
  | 32 => ("BookedEmptyModel", "bestWay", "[I", true)
  | 33 => ("BookedEmptyModel", "bestMany", "I", false)
  | 34 => ("BookedEmptyModel", "bestWorth", "I", false)
  | 35 => ("BookedEmptyModel", "fit", "[Z", true)
  | 36 => ("BookedEmptyModel", "foe", "[Z", true)
  | 37 => ("BookedEmptyModel", "worthOf", "[I", true)
  | 38 => ("BookedEmptyModel", "can0", "[Z", true)
  | 39 => ("BookedEmptyModel", "next0", "[Z", true)
  | 40 => ("BookedEmptyModel", "seen", "I", false)
  | 41 => ("BookedEmptyModel", "seenRoom", "[I", true)
  | 42 => ("BookedEmptyModel", "seenQuarter", "[I", true)
  | 43 => ("BookedEmptyModel", "seenWhen", "[I", true)
  | 44 => ("BookedEmptyModel", "seenIn", "[Z", true)
  | 45 => ("BookedEmptyModel", "plans", "I", false)
  | 46 => ("BookedEmptyModel", "books", "I", false)
  | 47 => ("BookedEmptyModel", "planWhat", "[I", true)
  | 48 => ("BookedEmptyModel", "planNumber", "[I", true)
  | 49 => ("BookedEmptyModel", "bookHour", "[I", true)
  | 50 => ("BookedEmptyModel", "bookRoom", "[I", true)
  | 51 => ("BookedEmptyModel", "roomWas", "[I", true)
  | 52 => ("BookedEmptyModel", "hasImage", "Z", false)
  | 53 => ("BookedEmptyModel", "imageThe", "I", false)
  | 54 => ("BookedEmptyModel", "imageRooms", "I", false)
  | 55 => ("BookedEmptyModel", "imageFaults", "I", false)
  | 56 => ("BookedEmptyModel", "imageHours", "I", false)
  | 57 => ("BookedEmptyModel", "imageDays", "I", false)
  | 58 => ("BookedEmptyModel", "imageSeen", "I", false)
  | 59 => ("BookedEmptyModel", "imagePlans", "I", false)
  | 60 => ("BookedEmptyModel", "imageBooks", "I", false)
  | 61 => ("BookedEmptyModel", "imageSeats", "[I", true)
  | 62 => ("BookedEmptyModel", "imageKind", "[I", true)
  | 63 => ("BookedEmptyModel", "imageV", "[I", true)
  | 64 => ("BookedEmptyModel", "imageStart", "[I", true)
  | 65 => ("BookedEmptyModel", "imageLong", "[I", true)
  | 66 => ("BookedEmptyModel", "imagePeople", "[I", true)
  | 67 => ("BookedEmptyModel", "imageRoom", "[I", true)
  | 68 => ("BookedEmptyModel", "imageRows", "[I", true)
  | 69 => ("BookedEmptyModel", "imageSeenRoom", "[I", true)
  | 70 => ("BookedEmptyModel", "imageQuarter", "[I", true)
  | 71 => ("BookedEmptyModel", "imageWhen", "[I", true)
  | 72 => ("BookedEmptyModel", "imageWhat", "[I", true)
  | 73 => ("BookedEmptyModel", "imageNumber", "[I", true)
  | 74 => ("BookedEmptyModel", "imageBookHour", "[I", true)
  | 75 => ("BookedEmptyModel", "imageBookRoom", "[I", true)
  | 76 => ("BookedEmptyModel", "imageIn", "[Z", true)
  | 77 => ("BookedEmptyModel", "ran", "I", false)
  | 78 => ("BookedEmptyModel", "bodies", "[I", true)
  | 79 => ("BookedEmptyModel", "sort", "[I", true)
  | 80 => ("BookedEmptyModel", "length", "[I", true)
  | 81 => ("BookedEmptyModel", "item", "[J", true)
  | _ => ("BookedEmptyModel", "aside", "[J", true)
def am_CL : List vw_C := [(am_nX0, am_tX0, 2), (am_nX1, am_tX1, 8), (am_nX2, am_tX2, 10), (am_nX3, am_tX3, 7), (am_nX4, am_tX4, 5), (am_nX5, am_tX5, 3), (am_nX6, am_tX6, 2), (am_nX7, am_tX7, 3), (am_nX8, am_tX8, 11), (am_nX9, am_tX9, 10), (am_nX10, am_tX10, 83)]
def am_nf (c : Nat) : Nat := bif Nat.ble 5 c then (bif Nat.ble 8 c then (bif Nat.ble 9 c then (bif Nat.ble 50 c then (bif Nat.beq c 50 then 83 else 0) else (bif Nat.beq c 9 then 10 else 0)) else (bif Nat.beq c 8 then 11 else 0)) else (bif Nat.ble 6 c then (bif Nat.ble 7 c then (bif Nat.beq c 7 then 3 else 0) else (bif Nat.beq c 6 then 2 else 0)) else (bif Nat.beq c 5 then 3 else 0))) else (bif Nat.ble 2 c then (bif Nat.ble 3 c then (bif Nat.ble 4 c then (bif Nat.beq c 4 then 5 else 0) else (bif Nat.beq c 3 then 7 else 0)) else (bif Nat.beq c 2 then 10 else 0)) else (bif Nat.ble 1 c then (bif Nat.beq c 1 then 8 else 0) else (bif Nat.beq c 0 then 2 else 0)))
def am_fk (c j : Nat) : Nat := bif Nat.ble 5 c then (bif Nat.ble 8 c then (bif Nat.ble 9 c then (bif Nat.ble 50 c then (bif Nat.beq c 50 then (bif Nat.ble 41 j then (bif Nat.ble 52 j then (bif Nat.ble 61 j then (bif Nat.ble 78 j then (bif Nat.ble 78 j && Nat.ble j 82 then 2 else 0) else (bif Nat.ble 61 j && Nat.ble j 76 then 2 else 0)) else (bif Nat.beq j 52 then 3 else 0)) else (bif Nat.ble 47 j then (bif Nat.ble 47 j && Nat.ble j 51 then 2 else 0) else (bif Nat.ble 41 j && Nat.ble j 44 then 2 else 0))) else (bif Nat.ble 28 j then (bif Nat.ble 30 j then (bif Nat.ble 35 j then (bif Nat.ble 35 j && Nat.ble j 39 then 2 else 0) else (bif Nat.ble 30 j && Nat.ble j 32 then 2 else 0)) else (bif Nat.beq j 28 then 2 else 0)) else (bif Nat.ble 17 j then (bif Nat.ble 17 j && Nat.ble j 24 then 2 else 0) else (bif Nat.ble 4 j && Nat.ble j 11 then 2 else 0)))) else 0) else (bif Nat.beq c 9 then (bif Nat.ble 3 j then (bif Nat.ble 6 j then (bif Nat.ble 6 j && Nat.ble j 9 then 2 else 0) else (bif Nat.ble 3 j && Nat.ble j 4 then 2 else 0)) else (bif Nat.ble 2 j then (bif Nat.beq j 2 then 3 else 0) else (bif Nat.ble 0 j && Nat.ble j 1 then 2 else 0))) else 0)) else (bif Nat.beq c 8 then (bif Nat.ble 3 j then (bif Nat.ble 3 j && Nat.ble j 8 then 2 else 0) else (bif Nat.beq j 2 then 3 else 0)) else 0)) else (bif Nat.ble 6 c then (bif Nat.ble 7 c then (bif Nat.beq c 7 then (bif Nat.ble 0 j && Nat.ble j 2 then 2 else 0) else 0) else (bif Nat.beq c 6 then (bif Nat.beq j 0 then 2 else 0) else 0)) else (bif Nat.beq c 5 then (bif Nat.beq j 2 then 3 else 0) else 0))) else (bif Nat.ble 2 c then (bif Nat.ble 3 c then (bif Nat.ble 4 c then (bif Nat.beq c 4 then (bif Nat.ble 3 j then (bif Nat.ble 4 j then (bif Nat.beq j 4 then 2 else 0) else (bif Nat.beq j 3 then 3 else 0)) else (bif Nat.beq j 0 then 2 else 0)) else 0) else (bif Nat.beq c 3 then (bif Nat.ble 3 j && Nat.ble j 5 then 2 else 0) else 0)) else (bif Nat.beq c 2 then (bif Nat.ble 5 j then (bif Nat.ble 7 j then (bif Nat.ble 7 j && Nat.ble j 9 then 2 else 0) else (bif Nat.beq j 5 then 2 else 0)) else (bif Nat.ble 0 j && Nat.ble j 1 then 2 else 0)) else 0)) else (bif Nat.ble 1 c then (bif Nat.beq c 1 then (bif Nat.beq j 7 then 2 else 0) else 0) else (bif Nat.beq c 0 then (bif Nat.beq j 0 then 2 else 0) else 0)))
def am_ci (c : Nat) : Nat := bif Nat.beq c 50 then 10 else c
def am_on (k : Nat) : String := bif Nat.ble 8 k then (bif Nat.ble 12 k then (bif Nat.ble 14 k then (bif Nat.ble 15 k then (bif Nat.ble 16 k then (bif Nat.beq k 16 then "BookedEmptyLaw" else "none") else (bif Nat.beq k 15 then "jdk/internal/util/Preconditions" else "none")) else (bif Nat.beq k 14 then "java/lang/StringLatin1" else "none")) else (bif Nat.ble 13 k then (bif Nat.beq k 13 then "java/lang/String" else "none") else (bif Nat.beq k 12 then "java/lang/Long" else "none"))) else (bif Nat.ble 10 k then (bif Nat.ble 11 k then (bif Nat.beq k 11 then "java/lang/Integer" else "none") else (bif Nat.beq k 10 then "BookedEmptyModel" else "none")) else (bif Nat.ble 9 k then (bif Nat.beq k 9 then "BookedEmpty" else "none") else (bif Nat.beq k 8 then "BookedEmpty$Ways" else "none")))) else (bif Nat.ble 4 k then (bif Nat.ble 6 k then (bif Nat.ble 7 k then (bif Nat.beq k 7 then "BookedEmpty$Tapes" else "none") else (bif Nat.beq k 6 then "BookedEmpty$Rows" else "none")) else (bif Nat.ble 5 k then (bif Nat.beq k 5 then "BookedEmpty$Room" else "none") else (bif Nat.beq k 4 then "BookedEmpty$Reader" else "none"))) else (bif Nat.ble 2 k then (bif Nat.ble 3 k then (bif Nat.beq k 3 then "BookedEmpty$Office" else "none") else (bif Nat.beq k 2 then "BookedEmpty$House" else "none")) else (bif Nat.ble 1 k then (bif Nat.beq k 1 then "BookedEmpty$Hour" else "none") else (bif Nat.beq k 0 then "BookedEmpty$Acts" else "none"))))
def am_tk (c : Nat) : Nat := bif Nat.ble 51 c then (bif Nat.ble 79 c then (bif Nat.ble 104 c then (bif Nat.ble 202 c then (bif Nat.ble 204 c then (bif Nat.beq c 204 then 0 else 9) else (bif Nat.beq c 202 then 3 else 9)) else (bif Nat.ble 200 c then (bif Nat.ble 200 c && Nat.ble c 201 then 0 else 9) else (bif Nat.ble 104 c && Nat.ble c 105 then 1 else 9))) else (bif Nat.ble 100 c then (bif Nat.ble 101 c then (bif Nat.ble 101 c && Nat.ble c 103 then 0 else 9) else (bif Nat.beq c 100 then 4 else 9)) else (bif Nat.ble 80 c then (bif Nat.ble 80 c && Nat.ble c 99 then 0 else 9) else (bif Nat.beq c 79 then 4 else 9)))) else (bif Nat.ble 71 c then (bif Nat.ble 74 c then (bif Nat.ble 76 c then (bif Nat.ble 76 c && Nat.ble c 78 then 0 else 9) else (bif Nat.ble 74 c && Nat.ble c 75 then 4 else 9)) else (bif Nat.ble 73 c then (bif Nat.beq c 73 then 0 else 9) else (bif Nat.ble 71 c && Nat.ble c 72 then 4 else 9))) else (bif Nat.ble 68 c then (bif Nat.ble 69 c then (bif Nat.ble 69 c && Nat.ble c 70 then 0 else 9) else (bif Nat.beq c 68 then 4 else 9)) else (bif Nat.ble 51 c && Nat.ble c 67 then 0 else 9)))) else (bif Nat.ble 21 c then (bif Nat.ble 27 c then (bif Nat.ble 29 c then (bif Nat.ble 31 c then (bif Nat.beq c 31 then 2 else 9) else (bif Nat.ble 29 c && Nat.ble c 30 then 0 else 9)) else (bif Nat.ble 28 c then (bif Nat.beq c 28 then 1 else 9) else (bif Nat.beq c 27 then 0 else 9))) else (bif Nat.ble 25 c then (bif Nat.ble 26 c then (bif Nat.beq c 26 then 2 else 9) else (bif Nat.beq c 25 then 1 else 9)) else (bif Nat.ble 22 c then (bif Nat.ble 22 c && Nat.ble c 24 then 0 else 9) else (bif Nat.beq c 21 then 1 else 9)))) else (bif Nat.ble 17 c then (bif Nat.ble 19 c then (bif Nat.ble 20 c then (bif Nat.beq c 20 then 2 else 9) else (bif Nat.beq c 19 then 0 else 9)) else (bif Nat.ble 18 c then (bif Nat.beq c 18 then 2 else 9) else (bif Nat.beq c 17 then 3 else 9))) else (bif Nat.ble 12 c then (bif Nat.ble 14 c then (bif Nat.ble 14 c && Nat.ble c 16 then 0 else 9) else (bif Nat.ble 12 c && Nat.ble c 13 then 2 else 9)) else (bif Nat.ble 10 c && Nat.ble c 11 then 0 else 9))))
def am_ty (c : Nat) : FieldType := bif Nat.ble 31 c then (bif Nat.ble 79 c then (bif Nat.ble 104 c then (bif Nat.ble 202 c then (bif Nat.ble 204 c then (bif Nat.beq c 204 then .int else .int) else (bif Nat.beq c 202 then .byte else .int)) else (bif Nat.ble 200 c then (bif Nat.ble 200 c && Nat.ble c 201 then .int else .int) else (bif Nat.ble 104 c && Nat.ble c 105 then .long else .int))) else (bif Nat.ble 100 c then (bif Nat.ble 101 c then (bif Nat.ble 101 c && Nat.ble c 103 then .int else .int) else (bif Nat.beq c 100 then .boolean else .int)) else (bif Nat.ble 80 c then (bif Nat.ble 80 c && Nat.ble c 99 then .int else .int) else (bif Nat.beq c 79 then .boolean else .int)))) else (bif Nat.ble 71 c then (bif Nat.ble 74 c then (bif Nat.ble 76 c then (bif Nat.ble 76 c && Nat.ble c 78 then .int else .int) else (bif Nat.ble 74 c && Nat.ble c 75 then .boolean else .int)) else (bif Nat.ble 73 c then (bif Nat.beq c 73 then .int else .int) else (bif Nat.ble 71 c && Nat.ble c 72 then .boolean else .int))) else (bif Nat.ble 68 c then (bif Nat.ble 69 c then (bif Nat.ble 69 c && Nat.ble c 70 then .int else .int) else (bif Nat.beq c 68 then .boolean else .int)) else (bif Nat.ble 51 c then (bif Nat.ble 51 c && Nat.ble c 67 then .int else .int) else (bif Nat.beq c 31 then .object "BookedEmpty$Office" else .int))))) else (bif Nat.ble 20 c then (bif Nat.ble 26 c then (bif Nat.ble 28 c then (bif Nat.ble 29 c then (bif Nat.ble 29 c && Nat.ble c 30 then .int else .int) else (bif Nat.beq c 28 then .long else .int)) else (bif Nat.ble 27 c then (bif Nat.beq c 27 then .int else .int) else (bif Nat.beq c 26 then .array .int else .int))) else (bif Nat.ble 22 c then (bif Nat.ble 25 c then (bif Nat.beq c 25 then .long else .int) else (bif Nat.ble 22 c && Nat.ble c 24 then .int else .int)) else (bif Nat.ble 21 c then (bif Nat.beq c 21 then .long else .int) else (bif Nat.beq c 20 then .array .long else .int)))) else (bif Nat.ble 14 c then (bif Nat.ble 18 c then (bif Nat.ble 19 c then (bif Nat.beq c 19 then .int else .int) else (bif Nat.beq c 18 then .array .int else .int)) else (bif Nat.ble 17 c then (bif Nat.beq c 17 then .byte else .int) else (bif Nat.ble 14 c && Nat.ble c 16 then .int else .int))) else (bif Nat.ble 12 c then (bif Nat.ble 13 c then (bif Nat.beq c 13 then .object "BookedEmpty$Hour" else .int) else (bif Nat.beq c 12 then .object "BookedEmpty$Room" else .int)) else (bif Nat.ble 10 c && Nat.ble c 11 then .int else .int))))
def am_ec (c : Nat) : Nat := bif Nat.ble 13 c then (bif Nat.ble 31 c then (bif Nat.beq c 31 then 3 else 999) else (bif Nat.beq c 13 then 1 else 999)) else (bif Nat.beq c 12 then 5 else 999)
def am_len (X : Nat × (Nat → Int32)) (c i : Nat) : Nat := bif Nat.ble 68 c then (bif Nat.ble 92 c then (bif Nat.ble 104 c then (bif Nat.ble 201 c then (bif Nat.ble 202 c then (bif Nat.ble 204 c then (bif Nat.beq c 204 then X.1 else 0) else (bif Nat.beq c 202 then ([5, 5, 5, 4, 0, 6, 3] : List Nat).getD i 0 else 0)) else (bif Nat.beq c 201 then 21 else 0)) else (bif Nat.ble 105 c then (bif Nat.ble 200 c then (bif Nat.beq c 200 then 7 else 0) else (bif Nat.beq c 105 then 60 else 0)) else (bif Nat.beq c 104 then 360 else 0))) else (bif Nat.ble 100 c then (bif Nat.ble 101 c then (bif Nat.ble 102 c then (bif Nat.ble 102 c && Nat.ble c 103 then 6 else 0) else (bif Nat.beq c 101 then 20 else 0)) else (bif Nat.beq c 100 then 6 else 0)) else (bif Nat.ble 93 c then (bif Nat.ble 96 c then (bif Nat.ble 96 c && Nat.ble c 99 then 8 else 0) else (bif Nat.ble 93 c && Nat.ble c 95 then 6 else 0)) else (bif Nat.beq c 92 then 24 else 0)))) else (bif Nat.ble 74 c then (bif Nat.ble 84 c then (bif Nat.ble 85 c then (bif Nat.ble 86 c then (bif Nat.ble 86 c && Nat.ble c 91 then 6 else 0) else (bif Nat.beq c 85 then 4 else 0)) else (bif Nat.beq c 84 then 6 else 0)) else (bif Nat.ble 76 c then (bif Nat.ble 80 c then (bif Nat.ble 80 c && Nat.ble c 83 then 8 else 0) else (bif Nat.ble 76 c && Nat.ble c 79 then 6 else 0)) else (bif Nat.ble 74 c && Nat.ble c 75 then 64 else 0))) else (bif Nat.ble 71 c then (bif Nat.ble 72 c then (bif Nat.ble 73 c then (bif Nat.beq c 73 then 30 else 0) else (bif Nat.beq c 72 then 36 else 0)) else (bif Nat.beq c 71 then 30 else 0)) else (bif Nat.ble 69 c then (bif Nat.ble 69 c && Nat.ble c 70 then 6 else 0) else (bif Nat.beq c 68 then 100 else 0))))) else (bif Nat.ble 27 c then (bif Nat.ble 59 c then (bif Nat.ble 65 c then (bif Nat.ble 66 c then (bif Nat.ble 67 c then (bif Nat.beq c 67 then 15 else 0) else (bif Nat.beq c 66 then 101 else 0)) else (bif Nat.beq c 65 then 600 else 0)) else (bif Nat.ble 60 c then (bif Nat.ble 61 c then (bif Nat.ble 61 c && Nat.ble c 64 then 60 else 0) else (bif Nat.beq c 60 then 6 else 0)) else (bif Nat.beq c 59 then 100 else 0))) else (bif Nat.ble 51 c then (bif Nat.ble 52 c then (bif Nat.ble 58 c then (bif Nat.beq c 58 then 24 else 0) else (bif Nat.ble 52 c && Nat.ble c 57 then 6 else 0)) else (bif Nat.beq c 51 then 4 else 0)) else (bif Nat.ble 29 c then (bif Nat.ble 29 c && Nat.ble c 31 then 6 else 0) else (bif Nat.ble 27 c && Nat.ble c 28 then 5 else 0)))) else (bif Nat.ble 16 c then (bif Nat.ble 20 c then (bif Nat.ble 21 c then (bif Nat.ble 22 c then (bif Nat.ble 22 c && Nat.ble c 26 then 6 else 0) else (bif Nat.beq c 21 then 60 else 0)) else (bif Nat.beq c 20 then 6 else 0)) else (bif Nat.ble 18 c then (bif Nat.ble 19 c then (bif Nat.beq c 19 then 4 else 0) else (bif Nat.beq c 18 then ([6, 8, 8, 6, 8, 8, 6, 8, 8] : List Nat).getD i 0 else 0)) else (bif Nat.ble 16 c && Nat.ble c 17 then 100 else 0))) else (bif Nat.ble 12 c then (bif Nat.ble 13 c then (bif Nat.ble 14 c then (bif Nat.ble 14 c && Nat.ble c 15 then 10 else 0) else (bif Nat.beq c 13 then 6 else 0)) else (bif Nat.beq c 12 then 5 else 0)) else (bif Nat.ble 11 c then (bif Nat.beq c 11 then 4 else 0) else (bif Nat.beq c 10 then 20 else 0)))))
def am_ro (X : Nat × (Nat → Int32)) (c i j : Nat) : Int32 := bif Nat.ble 202 c then (bif Nat.ble 204 c then (bif Nat.beq c 204 then X.2 j else 0) else (bif Nat.beq c 202 then (([[108, 105, 107, 101, 32], [109, 105, 110, 100, 32], [104, 111, 108, 100, 32], [100, 97, 121, 32], [], [104, 114, 107, 118, 112, 115], [60, 61, 62]] : List (List Int32)).getD i []).getD j 0 else 0)) else (bif Nat.ble 201 c then (bif Nat.beq c 201 then ([10, 11, 12, 0, 20, 0, 30, 0, 0, 0, 0, 40, 50, 51, 0, 0, 0, 60, 71, 70, 0] : List Int32).getD j 0 else 0) else (bif Nat.beq c 200 then ([-1, 0, 0, 0, 1, 2, 3] : List Int32).getD j 0 else 0))
def am_roo (c i j : Nat) : Option (Nat × Nat) := bif Nat.beq c 203 && Nat.beq j 0 then some (202, i) else none
def am_mc (y : Nat) : Nat := bif Nat.ble 158 y then (bif Nat.ble 188 y then (bif Nat.ble 203 y then (bif Nat.ble 255 y then (bif Nat.beq y 255 then 999 else 999) else (bif Nat.ble 203 y && Nat.ble y 254 then 9 else 999)) else (bif Nat.ble 198 y then (bif Nat.ble 198 y && Nat.ble y 202 then 8 else 999) else (bif Nat.ble 188 y && Nat.ble y 197 then 7 else 999))) else (bif Nat.ble 181 y then (bif Nat.ble 184 y then (bif Nat.ble 184 y && Nat.ble y 187 then 6 else 999) else (bif Nat.ble 181 y && Nat.ble y 183 then 5 else 999)) else (bif Nat.ble 167 y then (bif Nat.ble 167 y && Nat.ble y 180 then 4 else 999) else (bif Nat.ble 158 y && Nat.ble y 166 then 3 else 999)))) else (bif Nat.ble 121 y then (bif Nat.ble 130 y then (bif Nat.ble 136 y then (bif Nat.ble 136 y && Nat.ble y 157 then 2 else 999) else (bif Nat.ble 130 y && Nat.ble y 135 then 1 else 999)) else (bif Nat.ble 126 y then (bif Nat.ble 126 y && Nat.ble y 129 then 0 else 999) else (bif Nat.ble 121 y && Nat.ble y 125 then 999 else 999))) else (bif Nat.ble 111 y then (bif Nat.ble 113 y then (bif Nat.ble 113 y && Nat.ble y 120 then 203 else 999) else (bif Nat.ble 111 y && Nat.ble y 112 then 999 else 999)) else (bif Nat.ble 0 y && Nat.ble y 110 then 50 else 999)))
def am_strs : List (String × Nat × String × Nat) := [("BookedEmpty$Reader", 93, "like ", 0), ("BookedEmpty$Reader", 95, "mind ", 1), ("BookedEmpty$Reader", 97, "hold ", 2), ("BookedEmpty$Reader", 99, "day ", 3), ("BookedEmpty$Reader", 101, "", 4), ("BookedEmpty$Reader", 112, "hrkvps", 5), ("BookedEmpty$Reader", 118, "<=>", 6)]
def am_slen : List Nat := [5, 5, 5, 4, 0, 6, 3]
def am_sbyt : List (List Int32) := [[108, 105, 107, 101, 32], [109, 105, 110, 100, 32], [104, 111, 108, 100, 32], [100, 97, 121, 32], [], [104, 114, 107, 118, 112, 115], [60, 61, 62]]
def am_nestM : List (String × Nat × MethodName × String) := [("BookedEmpty", 19, ⟨"BookedEmpty$Ways", "<init>", "()V"⟩, "BookedEmpty"), ("BookedEmpty", 26, ⟨"BookedEmpty$Acts", "<init>", "()V"⟩, "BookedEmpty"), ("BookedEmpty", 38, ⟨"BookedEmpty$Office", "<init>", "()V"⟩, "BookedEmpty"), ("BookedEmpty", 323, ⟨"BookedEmpty$Acts", "run", "(LBookedEmpty$Hour;IIII)I"⟩, "BookedEmpty"), ("BookedEmpty$House", 149, ⟨"BookedEmpty", "bit", "(Z)I"⟩, "BookedEmpty"), ("BookedEmpty$House", 164, ⟨"BookedEmpty", "hasBit", "(JI)Z"⟩, "BookedEmpty"), ("BookedEmpty$Office", 56, ⟨"BookedEmpty", "bit", "(Z)I"⟩, "BookedEmpty"), ("BookedEmpty$Tapes", 25, ⟨"BookedEmpty", "bit", "(Z)I"⟩, "BookedEmpty")]
def am_nestF : List (String × Nat × String × String × String × String) := [("BookedEmpty$Acts", 26, "BookedEmpty", "ABOVE", "[I", "BookedEmpty")]
def am_over : List String := ["BookedEmpty$Office", "BookedEmpty$Room", "BookedEmpty$Hour"]
def am_overA : List FieldType := [.int, .long]
/-- BookedEmptyModel.<init>()V -/
def am_P0 : List am_E := [(0, .aload_n 0, 1, (0, 0, 0), []),
  (1, .invokespecial 1, 3, (0, 0, 30), []),
  (4, .aload_n 0, 1, (0, 0, 0), []),
  (5, .iconst 0, 1, (0, 0, 0), []),
  (6, .putfield 7, 3, (50, 0, 0), []),
  (9, .aload_n 0, 1, (0, 0, 0), []),
  (10, .iconst 0, 1, (0, 0, 0), []),
  (11, .putfield 13, 3, (50, 1, 0), []),
  (14, .aload_n 0, 1, (0, 0, 0), []),
  (15, .iconst 0, 1, (0, 0, 0), []),
  (16, .putfield 16, 3, (50, 2, 0), []),
  (19, .aload_n 0, 1, (0, 0, 0), []),
  (20, .iconst 0, 1, (0, 0, 0), []),
  (21, .putfield 19, 3, (50, 3, 0), []),
  (24, .aload_n 0, 1, (0, 0, 0), []),
  (25, .iconst 4, 1, (0, 0, 0), []),
  (26, .newarray .int, 2, (51, 0, 0), []),
  (28, .putfield 22, 3, (50, 4, 2), []),
  (31, .aload_n 0, 1, (0, 0, 0), []),
  (32, .bipush 6, 2, (0, 0, 0), []),
  (34, .newarray .int, 2, (52, 0, 0), []),
  (36, .putfield 26, 3, (50, 5, 2), []),
  (39, .aload_n 0, 1, (0, 0, 0), []),
  (40, .bipush 6, 2, (0, 0, 0), []),
  (42, .newarray .int, 2, (53, 0, 0), []),
  (44, .putfield 29, 3, (50, 6, 2), []),
  (47, .aload_n 0, 1, (0, 0, 0), []),
  (48, .bipush 6, 2, (0, 0, 0), []),
  (50, .newarray .int, 2, (54, 0, 0), []),
  (52, .putfield 32, 3, (50, 7, 2), []),
  (55, .aload_n 0, 1, (0, 0, 0), []),
  (56, .bipush 6, 2, (0, 0, 0), []),
  (58, .newarray .int, 2, (55, 0, 0), []),
  (60, .putfield 35, 3, (50, 8, 2), []),
  (63, .aload_n 0, 1, (0, 0, 0), []),
  (64, .bipush 6, 2, (0, 0, 0), []),
  (66, .newarray .int, 2, (56, 0, 0), []),
  (68, .putfield 38, 3, (50, 9, 2), []),
  (71, .aload_n 0, 1, (0, 0, 0), []),
  (72, .bipush 6, 2, (0, 0, 0), []),
  (74, .newarray .int, 2, (57, 0, 0), []),
  (76, .putfield 41, 3, (50, 10, 2), []),
  (79, .aload_n 0, 1, (0, 0, 0), []),
  (80, .bipush 24, 2, (0, 0, 0), []),
  (82, .newarray .int, 2, (58, 0, 0), []),
  (84, .putfield 44, 3, (50, 11, 2), []),
  (87, .aload_n 0, 1, (0, 0, 0), []),
  (88, .iconst 0, 1, (0, 0, 0), []),
  (89, .putfield 47, 3, (50, 12, 0), []),
  (92, .aload_n 0, 1, (0, 0, 0), []),
  (93, .iconst (-1), 1, (0, 0, 0), []),
  (94, .putfield 50, 3, (50, 13, 0), []),
  (97, .aload_n 0, 1, (0, 0, 0), []),
  (98, .iconst 0, 1, (0, 0, 0), []),
  (99, .putfield 53, 3, (50, 14, 0), []),
  (102, .aload_n 0, 1, (0, 0, 0), []),
  (103, .iconst 0, 1, (0, 0, 0), []),
  (104, .putfield 56, 3, (50, 15, 0), []),
  (107, .aload_n 0, 1, (0, 0, 0), []),
  (108, .iconst 0, 1, (0, 0, 0), []),
  (109, .putfield 59, 3, (50, 16, 0), []),
  (112, .aload_n 0, 1, (0, 0, 0), []),
  (113, .bipush 100, 2, (0, 0, 0), []),
  (115, .newarray .int, 2, (59, 0, 0), []),
  (117, .putfield 62, 3, (50, 17, 2), []),
  (120, .aload_n 0, 1, (0, 0, 0), []),
  (121, .bipush 6, 2, (0, 0, 0), []),
  (123, .newarray .int, 2, (60, 0, 0), []),
  (125, .putfield 65, 3, (50, 18, 2), []),
  (128, .aload_n 0, 1, (0, 0, 0), []),
  (129, .bipush 60, 2, (0, 0, 0), []),
  (131, .newarray .int, 2, (61, 0, 0), []),
  (133, .putfield 68, 3, (50, 19, 2), []),
  (136, .aload_n 0, 1, (0, 0, 0), []),
  (137, .bipush 60, 2, (0, 0, 0), []),
  (139, .newarray .int, 2, (62, 0, 0), []),
  (141, .putfield 71, 3, (50, 20, 2), []),
  (144, .aload_n 0, 1, (0, 0, 0), []),
  (145, .bipush 60, 2, (0, 0, 0), []),
  (147, .newarray .int, 2, (63, 0, 0), []),
  (149, .putfield 74, 3, (50, 21, 2), []),
  (152, .aload_n 0, 1, (0, 0, 0), []),
  (153, .bipush 60, 2, (0, 0, 0), []),
  (155, .newarray .int, 2, (64, 0, 0), []),
  (157, .putfield 77, 3, (50, 22, 2), []),
  (160, .aload_n 0, 1, (0, 0, 0), []),
  (161, .sipush 600, 3, (0, 0, 0), []),
  (164, .newarray .int, 2, (65, 0, 0), []),
  (166, .putfield 80, 3, (50, 23, 2), []),
  (169, .aload_n 0, 1, (0, 0, 0), []),
  (170, .bipush 101, 2, (0, 0, 0), []),
  (172, .newarray .int, 2, (66, 0, 0), []),
  (174, .putfield 83, 3, (50, 24, 2), []),
  (177, .aload_n 0, 1, (0, 0, 0), []),
  (178, .iconst 0, 1, (0, 0, 0), []),
  (179, .putfield 86, 3, (50, 25, 0), []),
  (182, .aload_n 0, 1, (0, 0, 0), []),
  (183, .iconst 0, 1, (0, 0, 0), []),
  (184, .putfield 89, 3, (50, 26, 0), []),
  (187, .aload_n 0, 1, (0, 0, 0), []),
  (188, .iconst 0, 1, (0, 0, 0), []),
  (189, .putfield 92, 3, (50, 27, 0), []),
  (192, .aload_n 0, 1, (0, 0, 0), []),
  (193, .bipush 15, 2, (0, 0, 0), []),
  (195, .newarray .int, 2, (67, 0, 0), []),
  (197, .dup, 1, (0, 0, 0), []),
  (198, .iconst 0, 1, (0, 0, 0), []),
  (199, .bipush 108, 2, (0, 0, 0), []),
  (201, .iastore, 1, (0, 0, 0), []),
  (202, .dup, 1, (0, 0, 0), []),
  (203, .iconst 1, 1, (0, 0, 0), []),
  (204, .bipush 105, 2, (0, 0, 0), []),
  (206, .iastore, 1, (0, 0, 0), []),
  (207, .dup, 1, (0, 0, 0), []),
  (208, .iconst 2, 1, (0, 0, 0), []),
  (209, .bipush 107, 2, (0, 0, 0), []),
  (211, .iastore, 1, (0, 0, 0), []),
  (212, .dup, 1, (0, 0, 0), []),
  (213, .iconst 3, 1, (0, 0, 0), []),
  (214, .bipush 101, 2, (0, 0, 0), []),
  (216, .iastore, 1, (0, 0, 0), []),
  (217, .dup, 1, (0, 0, 0), []),
  (218, .iconst 4, 1, (0, 0, 0), []),
  (219, .bipush 109, 2, (0, 0, 0), []),
  (221, .iastore, 1, (0, 0, 0), []),
  (222, .dup, 1, (0, 0, 0), []),
  (223, .iconst 5, 1, (0, 0, 0), []),
  (224, .bipush 105, 2, (0, 0, 0), []),
  (226, .iastore, 1, (0, 0, 0), []),
  (227, .dup, 1, (0, 0, 0), []),
  (228, .bipush 6, 2, (0, 0, 0), []),
  (230, .bipush 110, 2, (0, 0, 0), []),
  (232, .iastore, 1, (0, 0, 0), []),
  (233, .dup, 1, (0, 0, 0), []),
  (234, .bipush 7, 2, (0, 0, 0), []),
  (236, .bipush 100, 2, (0, 0, 0), []),
  (238, .iastore, 1, (0, 0, 0), []),
  (239, .dup, 1, (0, 0, 0), []),
  (240, .bipush 8, 2, (0, 0, 0), []),
  (242, .bipush 104, 2, (0, 0, 0), []),
  (244, .iastore, 1, (0, 0, 0), []),
  (245, .dup, 1, (0, 0, 0), []),
  (246, .bipush 9, 2, (0, 0, 0), []),
  (248, .bipush 111, 2, (0, 0, 0), []),
  (250, .iastore, 1, (0, 0, 0), []),
  (251, .dup, 1, (0, 0, 0), []),
  (252, .bipush 10, 2, (0, 0, 0), []),
  (254, .bipush 108, 2, (0, 0, 0), []),
  (256, .iastore, 1, (0, 0, 0), []),
  (257, .dup, 1, (0, 0, 0), []),
  (258, .bipush 11, 2, (0, 0, 0), []),
  (260, .bipush 100, 2, (0, 0, 0), []),
  (262, .iastore, 1, (0, 0, 0), []),
  (263, .dup, 1, (0, 0, 0), []),
  (264, .bipush 12, 2, (0, 0, 0), []),
  (266, .bipush 100, 2, (0, 0, 0), []),
  (268, .iastore, 1, (0, 0, 0), []),
  (269, .dup, 1, (0, 0, 0), []),
  (270, .bipush 13, 2, (0, 0, 0), []),
  (272, .bipush 97, 2, (0, 0, 0), []),
  (274, .iastore, 1, (0, 0, 0), []),
  (275, .dup, 1, (0, 0, 0), []),
  (276, .bipush 14, 2, (0, 0, 0), []),
  (278, .bipush 121, 2, (0, 0, 0), []),
  (280, .iastore, 1, (0, 0, 0), []),
  (281, .putfield 95, 3, (50, 28, 2), []),
  (284, .aload_n 0, 1, (0, 0, 0), []),
  (285, .iconst (-1), 1, (0, 0, 0), []),
  (286, .putfield 98, 3, (50, 29, 0), []),
  (289, .aload_n 0, 1, (0, 0, 0), []),
  (290, .bipush 100, 2, (0, 0, 0), []),
  (292, .newarray .boolean, 2, (68, 0, 0), []),
  (294, .putfield 101, 3, (50, 30, 2), []),
  (297, .aload_n 0, 1, (0, 0, 0), []),
  (298, .bipush 6, 2, (0, 0, 0), []),
  (300, .newarray .int, 2, (69, 0, 0), []),
  (302, .putfield 105, 3, (50, 31, 2), []),
  (305, .aload_n 0, 1, (0, 0, 0), []),
  (306, .bipush 6, 2, (0, 0, 0), []),
  (308, .newarray .int, 2, (70, 0, 0), []),
  (310, .putfield 108, 3, (50, 32, 2), []),
  (313, .aload_n 0, 1, (0, 0, 0), []),
  (314, .iconst 0, 1, (0, 0, 0), []),
  (315, .putfield 111, 3, (50, 33, 0), []),
  (318, .aload_n 0, 1, (0, 0, 0), []),
  (319, .iconst 0, 1, (0, 0, 0), []),
  (320, .putfield 114, 3, (50, 34, 0), []),
  (323, .aload_n 0, 1, (0, 0, 0), []),
  (324, .bipush 30, 2, (0, 0, 0), []),
  (326, .newarray .boolean, 2, (71, 0, 0), []),
  (328, .putfield 117, 3, (50, 35, 2), []),
  (331, .aload_n 0, 1, (0, 0, 0), []),
  (332, .bipush 36, 2, (0, 0, 0), []),
  (334, .newarray .boolean, 2, (72, 0, 0), []),
  (336, .putfield 120, 3, (50, 36, 2), []),
  (339, .aload_n 0, 1, (0, 0, 0), []),
  (340, .bipush 30, 2, (0, 0, 0), []),
  (342, .newarray .int, 2, (73, 0, 0), []),
  (344, .putfield 123, 3, (50, 37, 2), []),
  (347, .aload_n 0, 1, (0, 0, 0), []),
  (348, .bipush 64, 2, (0, 0, 0), []),
  (350, .newarray .boolean, 2, (74, 0, 0), []),
  (352, .putfield 126, 3, (50, 38, 2), []),
  (355, .aload_n 0, 1, (0, 0, 0), []),
  (356, .bipush 64, 2, (0, 0, 0), []),
  (358, .newarray .boolean, 2, (75, 0, 0), []),
  (360, .putfield 129, 3, (50, 39, 2), []),
  (363, .aload_n 0, 1, (0, 0, 0), []),
  (364, .iconst 0, 1, (0, 0, 0), []),
  (365, .putfield 132, 3, (50, 40, 0), []),
  (368, .aload_n 0, 1, (0, 0, 0), []),
  (369, .bipush 6, 2, (0, 0, 0), []),
  (371, .newarray .int, 2, (76, 0, 0), []),
  (373, .putfield 135, 3, (50, 41, 2), []),
  (376, .aload_n 0, 1, (0, 0, 0), []),
  (377, .bipush 6, 2, (0, 0, 0), []),
  (379, .newarray .int, 2, (77, 0, 0), []),
  (381, .putfield 138, 3, (50, 42, 2), []),
  (384, .aload_n 0, 1, (0, 0, 0), []),
  (385, .bipush 6, 2, (0, 0, 0), []),
  (387, .newarray .int, 2, (78, 0, 0), []),
  (389, .putfield 141, 3, (50, 43, 2), []),
  (392, .aload_n 0, 1, (0, 0, 0), []),
  (393, .bipush 6, 2, (0, 0, 0), []),
  (395, .newarray .boolean, 2, (79, 0, 0), []),
  (397, .putfield 144, 3, (50, 44, 2), []),
  (400, .aload_n 0, 1, (0, 0, 0), []),
  (401, .iconst 0, 1, (0, 0, 0), []),
  (402, .putfield 147, 3, (50, 45, 0), []),
  (405, .aload_n 0, 1, (0, 0, 0), []),
  (406, .iconst 0, 1, (0, 0, 0), []),
  (407, .putfield 150, 3, (50, 46, 0), []),
  (410, .aload_n 0, 1, (0, 0, 0), []),
  (411, .bipush 8, 2, (0, 0, 0), []),
  (413, .newarray .int, 2, (80, 0, 0), []),
  (415, .putfield 153, 3, (50, 47, 2), []),
  (418, .aload_n 0, 1, (0, 0, 0), []),
  (419, .bipush 8, 2, (0, 0, 0), []),
  (421, .newarray .int, 2, (81, 0, 0), []),
  (423, .putfield 156, 3, (50, 48, 2), []),
  (426, .aload_n 0, 1, (0, 0, 0), []),
  (427, .bipush 8, 2, (0, 0, 0), []),
  (429, .newarray .int, 2, (82, 0, 0), []),
  (431, .putfield 159, 3, (50, 49, 2), []),
  (434, .aload_n 0, 1, (0, 0, 0), []),
  (435, .bipush 8, 2, (0, 0, 0), []),
  (437, .newarray .int, 2, (83, 0, 0), []),
  (439, .putfield 162, 3, (50, 50, 2), []),
  (442, .aload_n 0, 1, (0, 0, 0), []),
  (443, .bipush 6, 2, (0, 0, 0), []),
  (445, .newarray .int, 2, (84, 0, 0), []),
  (447, .putfield 165, 3, (50, 51, 2), []),
  (450, .aload_n 0, 1, (0, 0, 0), []),
  (451, .iconst 0, 1, (0, 0, 0), []),
  (452, .putfield 168, 3, (50, 52, 3), []),
  (455, .aload_n 0, 1, (0, 0, 0), []),
  (456, .iconst (-1), 1, (0, 0, 0), []),
  (457, .putfield 172, 3, (50, 53, 0), []),
  (460, .aload_n 0, 1, (0, 0, 0), []),
  (461, .iconst 0, 1, (0, 0, 0), []),
  (462, .putfield 175, 3, (50, 54, 0), []),
  (465, .aload_n 0, 1, (0, 0, 0), []),
  (466, .iconst 0, 1, (0, 0, 0), []),
  (467, .putfield 178, 3, (50, 55, 0), []),
  (470, .aload_n 0, 1, (0, 0, 0), []),
  (471, .iconst 0, 1, (0, 0, 0), []),
  (472, .putfield 181, 3, (50, 56, 0), []),
  (475, .aload_n 0, 1, (0, 0, 0), []),
  (476, .iconst 0, 1, (0, 0, 0), []),
  (477, .putfield 184, 3, (50, 57, 0), []),
  (480, .aload_n 0, 1, (0, 0, 0), []),
  (481, .iconst 0, 1, (0, 0, 0), []),
  (482, .putfield 187, 3, (50, 58, 0), []),
  (485, .aload_n 0, 1, (0, 0, 0), []),
  (486, .iconst 0, 1, (0, 0, 0), []),
  (487, .putfield 190, 3, (50, 59, 0), []),
  (490, .aload_n 0, 1, (0, 0, 0), []),
  (491, .iconst 0, 1, (0, 0, 0), []),
  (492, .putfield 193, 3, (50, 60, 0), []),
  (495, .aload_n 0, 1, (0, 0, 0), []),
  (496, .iconst 4, 1, (0, 0, 0), []),
  (497, .newarray .int, 2, (85, 0, 0), []),
  (499, .putfield 196, 3, (50, 61, 2), []),
  (502, .aload_n 0, 1, (0, 0, 0), []),
  (503, .bipush 6, 2, (0, 0, 0), []),
  (505, .newarray .int, 2, (86, 0, 0), []),
  (507, .putfield 199, 3, (50, 62, 2), []),
  (510, .aload_n 0, 1, (0, 0, 0), []),
  (511, .bipush 6, 2, (0, 0, 0), []),
  (513, .newarray .int, 2, (87, 0, 0), []),
  (515, .putfield 202, 3, (50, 63, 2), []),
  (518, .aload_n 0, 1, (0, 0, 0), []),
  (519, .bipush 6, 2, (0, 0, 0), []),
  (521, .newarray .int, 2, (88, 0, 0), []),
  (523, .putfield 205, 3, (50, 64, 2), []),
  (526, .aload_n 0, 1, (0, 0, 0), []),
  (527, .bipush 6, 2, (0, 0, 0), []),
  (529, .newarray .int, 2, (89, 0, 0), []),
  (531, .putfield 208, 3, (50, 65, 2), []),
  (534, .aload_n 0, 1, (0, 0, 0), []),
  (535, .bipush 6, 2, (0, 0, 0), []),
  (537, .newarray .int, 2, (90, 0, 0), []),
  (539, .putfield 211, 3, (50, 66, 2), []),
  (542, .aload_n 0, 1, (0, 0, 0), []),
  (543, .bipush 6, 2, (0, 0, 0), []),
  (545, .newarray .int, 2, (91, 0, 0), []),
  (547, .putfield 214, 3, (50, 67, 2), []),
  (550, .aload_n 0, 1, (0, 0, 0), []),
  (551, .bipush 24, 2, (0, 0, 0), []),
  (553, .newarray .int, 2, (92, 0, 0), []),
  (555, .putfield 217, 3, (50, 68, 2), []),
  (558, .aload_n 0, 1, (0, 0, 0), []),
  (559, .bipush 6, 2, (0, 0, 0), []),
  (561, .newarray .int, 2, (93, 0, 0), []),
  (563, .putfield 220, 3, (50, 69, 2), []),
  (566, .aload_n 0, 1, (0, 0, 0), []),
  (567, .bipush 6, 2, (0, 0, 0), []),
  (569, .newarray .int, 2, (94, 0, 0), []),
  (571, .putfield 223, 3, (50, 70, 2), []),
  (574, .aload_n 0, 1, (0, 0, 0), []),
  (575, .bipush 6, 2, (0, 0, 0), []),
  (577, .newarray .int, 2, (95, 0, 0), []),
  (579, .putfield 226, 3, (50, 71, 2), []),
  (582, .aload_n 0, 1, (0, 0, 0), []),
  (583, .bipush 8, 2, (0, 0, 0), []),
  (585, .newarray .int, 2, (96, 0, 0), []),
  (587, .putfield 229, 3, (50, 72, 2), []),
  (590, .aload_n 0, 1, (0, 0, 0), []),
  (591, .bipush 8, 2, (0, 0, 0), []),
  (593, .newarray .int, 2, (97, 0, 0), []),
  (595, .putfield 232, 3, (50, 73, 2), []),
  (598, .aload_n 0, 1, (0, 0, 0), []),
  (599, .bipush 8, 2, (0, 0, 0), []),
  (601, .newarray .int, 2, (98, 0, 0), []),
  (603, .putfield 235, 3, (50, 74, 2), []),
  (606, .aload_n 0, 1, (0, 0, 0), []),
  (607, .bipush 8, 2, (0, 0, 0), []),
  (609, .newarray .int, 2, (99, 0, 0), []),
  (611, .putfield 238, 3, (50, 75, 2), []),
  (614, .aload_n 0, 1, (0, 0, 0), []),
  (615, .bipush 6, 2, (0, 0, 0), []),
  (617, .newarray .boolean, 2, (100, 0, 0), []),
  (619, .putfield 241, 3, (50, 76, 2), []),
  (622, .aload_n 0, 1, (0, 0, 0), []),
  (623, .iconst 0, 1, (0, 0, 0), []),
  (624, .putfield 244, 3, (50, 77, 0), []),
  (627, .aload_n 0, 1, (0, 0, 0), []),
  (628, .bipush 20, 2, (0, 0, 0), []),
  (630, .newarray .int, 2, (101, 0, 0), []),
  (632, .putfield 247, 3, (50, 78, 2), []),
  (635, .aload_n 0, 1, (0, 0, 0), []),
  (636, .bipush 6, 2, (0, 0, 0), []),
  (638, .newarray .int, 2, (102, 0, 0), []),
  (640, .dup, 1, (0, 0, 0), []),
  (641, .iconst 0, 1, (0, 0, 0), []),
  (642, .iconst (-1), 1, (0, 0, 0), []),
  (643, .iastore, 1, (0, 0, 0), []),
  (644, .dup, 1, (0, 0, 0), []),
  (645, .iconst 1, 1, (0, 0, 0), []),
  (646, .iconst (-1), 1, (0, 0, 0), []),
  (647, .iastore, 1, (0, 0, 0), []),
  (648, .dup, 1, (0, 0, 0), []),
  (649, .iconst 2, 1, (0, 0, 0), []),
  (650, .iconst (-1), 1, (0, 0, 0), []),
  (651, .iastore, 1, (0, 0, 0), []),
  (652, .dup, 1, (0, 0, 0), []),
  (653, .iconst 3, 1, (0, 0, 0), []),
  (654, .iconst (-1), 1, (0, 0, 0), []),
  (655, .iastore, 1, (0, 0, 0), []),
  (656, .dup, 1, (0, 0, 0), []),
  (657, .iconst 4, 1, (0, 0, 0), []),
  (658, .iconst (-1), 1, (0, 0, 0), []),
  (659, .iastore, 1, (0, 0, 0), []),
  (660, .dup, 1, (0, 0, 0), []),
  (661, .iconst 5, 1, (0, 0, 0), []),
  (662, .iconst (-1), 1, (0, 0, 0), []),
  (663, .iastore, 1, (0, 0, 0), []),
  (664, .putfield 250, 3, (50, 79, 2), []),
  (667, .aload_n 0, 1, (0, 0, 0), []),
  (668, .bipush 6, 2, (0, 0, 0), []),
  (670, .newarray .int, 2, (103, 0, 0), []),
  (672, .putfield 253, 3, (50, 80, 2), []),
  (675, .aload_n 0, 1, (0, 0, 0), []),
  (676, .sipush 360, 3, (0, 0, 0), []),
  (679, .newarray .long, 2, (104, 0, 0), []),
  (681, .putfield 256, 3, (50, 81, 2), []),
  (684, .aload_n 0, 1, (0, 0, 0), []),
  (685, .bipush 60, 2, (0, 0, 0), []),
  (687, .newarray .long, 2, (105, 0, 0), []),
  (689, .putfield 260, 3, (50, 82, 2), []),
  (692, .return_, 1, (0, 0, 0), [])]
abbrev am_m0 : am_Mt := (⟨"BookedEmptyModel", "<init>", "()V"⟩, prog_12_method_1_code, 1, none, am_P0, 50, 10)
/-- BookedEmptyModel.in(III)Z -/
def am_P1 : List am_E := [(0, .iload_n 1, 1, (0, 0, 0), []),
  (1, .iload_n 2, 1, (0, 0, 0), []),
  (2, .if_icmp .lt 12, 3, (14, 0, 0), []),
  (5, .iload_n 1, 1, (0, 0, 0), []),
  (6, .iload_n 3, 1, (0, 0, 0), []),
  (7, .if_icmp .gt 7, 3, (14, 0, 0), []),
  (10, .iconst 1, 1, (0, 0, 0), []),
  (11, .goto 4, 3, (15, 0, 0), []),
  (14, .iconst 0, 1, (0, 0, 0), []),
  (15, .ireturn, 1, (1, 0, 0), [])]
abbrev am_m1 : am_Mt := (⟨"BookedEmptyModel", "in", "(III)Z"⟩, prog_12_method_2_code, 4, (some .boolean), am_P1, 50, 10)
/-- BookedEmptyModel.has(II)Z -/
def am_P2 : List am_E := [(0, .iload_n 1, 1, (0, 0, 0), []),
  (1, .iload_n 2, 1, (0, 0, 0), []),
  (2, .ishr, 1, (0, 0, 0), []),
  (3, .iconst 1, 1, (0, 0, 0), []),
  (4, .iand, 1, (0, 0, 0), []),
  (5, .iconst 1, 1, (0, 0, 0), []),
  (6, .if_icmp .ne 7, 3, (13, 0, 0), []),
  (9, .iconst 1, 1, (0, 0, 0), []),
  (10, .goto 4, 3, (14, 0, 0), []),
  (13, .iconst 0, 1, (0, 0, 0), []),
  (14, .ireturn, 1, (1, 0, 0), [])]
abbrev am_m2 : am_Mt := (⟨"BookedEmptyModel", "has", "(II)Z"⟩, prog_12_method_3_code, 3, (some .boolean), am_P2, 50, 10)
/-- BookedEmptyModel.least(II)I -/
def am_P3 : List am_E := [(0, .iload_n 1, 1, (0, 0, 0), []),
  (1, .iload_n 2, 1, (0, 0, 0), []),
  (2, .if_icmp .ge 7, 3, (9, 0, 0), []),
  (5, .iload_n 1, 1, (0, 0, 0), []),
  (6, .goto 4, 3, (10, 0, 0), []),
  (9, .iload_n 2, 1, (0, 0, 0), []),
  (10, .ireturn, 1, (0, 0, 0), [])]
abbrev am_m3 : am_Mt := (⟨"BookedEmptyModel", "least", "(II)I"⟩, prog_12_method_4_code, 3, (some .int), am_P3, 50, 10)
/-- BookedEmptyModel.bits(I)I -/
def am_P4 : List am_E := [(0, .iconst 0, 1, (0, 0, 0), []),
  (1, .istore_n 2, 1, (0, 0, 0), []),
  (2, .iconst 0, 1, (0, 0, 0), []),
  (3, .istore_n 3, 1, (0, 0, 0), []),
  (4, .iload_n 3, 1, (0, 0, 0), []),
  (5, .bipush 6, 2, (0, 0, 0), []),
  (7, .if_icmp .ge 26, 3, (33, 0, 0), []),
  (10, .iload_n 2, 1, (0, 0, 0), []),
  (11, .aload_n 0, 1, (0, 0, 0), []),
  (12, .iload_n 1, 1, (0, 0, 0), []),
  (13, .iload_n 3, 1, (0, 0, 0), []),
  (14, .invokevirtual 263, 3, (2, 2, 1), []),
  (17, .ifCond .eq 7, 3, (24, 0, 0), []),
  (20, .iconst 1, 1, (0, 0, 0), []),
  (21, .goto 4, 3, (25, 0, 0), []),
  (24, .iconst 0, 1, (0, 0, 0), []),
  (25, .iadd, 1, (0, 0, 0), []),
  (26, .istore_n 2, 1, (0, 0, 0), []),
  (27, .iinc 3 1, 3, (0, 0, 0), []),
  (30, .goto (-26), 3, (4, 0, 0), []),
  (33, .iload_n 2, 1, (0, 0, 0), []),
  (34, .ireturn, 1, (0, 0, 0), [])]
abbrev am_m4 : am_Mt := (⟨"BookedEmptyModel", "bits", "(I)I"⟩, prog_12_method_5_code, 4, (some .int), am_P4, 50, 10)
/-- BookedEmptyModel.isRoom(I)Z -/
def am_P5 : List am_E := [(0, .aload_n 0, 1, (0, 0, 0), []),
  (1, .iload_n 1, 1, (0, 0, 0), []),
  (2, .iconst 0, 1, (0, 0, 0), []),
  (3, .aload_n 0, 1, (0, 0, 0), []),
  (4, .getfield 7, 3, (50, 0, 0), []),
  (7, .iconst 1, 1, (0, 0, 0), []),
  (8, .isub, 1, (0, 0, 0), []),
  (9, .invokevirtual 267, 3, (1, 3, 1), []),
  (12, .ireturn, 1, (1, 0, 0), [])]
abbrev am_m5 : am_Mt := (⟨"BookedEmptyModel", "isRoom", "(I)Z"⟩, prog_12_method_6_code, 2, (some .boolean), am_P5, 50, 10)
/-- BookedEmptyModel.isHour(I)Z -/
def am_P6 : List am_E := [(0, .aload_n 0, 1, (0, 0, 0), []),
  (1, .iload_n 1, 1, (0, 0, 0), []),
  (2, .iconst 0, 1, (0, 0, 0), []),
  (3, .aload_n 0, 1, (0, 0, 0), []),
  (4, .getfield 16, 3, (50, 2, 0), []),
  (7, .iconst 1, 1, (0, 0, 0), []),
  (8, .isub, 1, (0, 0, 0), []),
  (9, .invokevirtual 267, 3, (1, 3, 1), []),
  (12, .ireturn, 1, (1, 0, 0), [])]
abbrev am_m6 : am_Mt := (⟨"BookedEmptyModel", "isHour", "(I)Z"⟩, prog_12_method_7_code, 2, (some .boolean), am_P6, 50, 10)
/-- BookedEmptyModel.isQuarter(I)Z -/
def am_P7 : List am_E := [(0, .aload_n 0, 1, (0, 0, 0), []),
  (1, .iload_n 1, 1, (0, 0, 0), []),
  (2, .iconst 0, 1, (0, 0, 0), []),
  (3, .bipush 39, 2, (0, 0, 0), []),
  (5, .invokevirtual 267, 3, (1, 3, 1), []),
  (8, .ireturn, 1, (1, 0, 0), [])]
abbrev am_m7 : am_Mt := (⟨"BookedEmptyModel", "isQuarter", "(I)Z"⟩, prog_12_method_8_code, 2, (some .boolean), am_P7, 50, 10)
/-- BookedEmptyModel.isSeats(I)Z -/
def am_P8 : List am_E := [(0, .aload_n 0, 1, (0, 0, 0), []),
  (1, .iload_n 1, 1, (0, 0, 0), []),
  (2, .iconst 1, 1, (0, 0, 0), []),
  (3, .bipush 20, 2, (0, 0, 0), []),
  (5, .invokevirtual 267, 3, (1, 3, 1), []),
  (8, .ireturn, 1, (1, 0, 0), [])]
abbrev am_m8 : am_Mt := (⟨"BookedEmptyModel", "isSeats", "(I)Z"⟩, prog_12_method_9_code, 2, (some .boolean), am_P8, 50, 10)
/-- BookedEmptyModel.room(I)I -/
def am_P9 : List am_E := [(0, .aload_n 0, 1, (0, 0, 0), []),
  (1, .iload_n 1, 1, (0, 0, 0), []),
  (2, .invokevirtual 271, 3, (8, 1, 1), []),
  (5, .ifCond .ne 6, 3, (11, 0, 0), []),
  (8, .bipush (-2), 2, (0, 0, 0), []),
  (10, .ireturn, 1, (0, 0, 0), []),
  (11, .aload_n 0, 1, (0, 0, 0), []),
  (12, .getfield 7, 3, (50, 0, 0), []),
  (15, .iconst 4, 1, (0, 0, 0), []),
  (16, .if_icmp .ne 6, 3, (22, 0, 0), []),
  (19, .bipush (-4), 2, (0, 0, 0), []),
  (21, .ireturn, 1, (0, 0, 0), []),
  (22, .aload_n 0, 1, (0, 0, 0), []),
  (23, .getfield 22, 3, (50, 4, 2), []),
  (26, .aload_n 0, 1, (0, 0, 0), []),
  (27, .getfield 7, 3, (50, 0, 0), []),
  (30, .iload_n 1, 1, (0, 0, 0), []),
  (31, .iastore, 1, (0, 0, 0), []),
  (32, .aload_n 0, 1, (0, 0, 0), []),
  (33, .dup, 1, (0, 0, 0), []),
  (34, .getfield 13, 3, (50, 1, 0), []),
  (37, .iconst 1, 1, (0, 0, 0), []),
  (38, .aload_n 0, 1, (0, 0, 0), []),
  (39, .getfield 7, 3, (50, 0, 0), []),
  (42, .ishl, 1, (0, 0, 0), []),
  (43, .iconst (-1), 1, (0, 0, 0), []),
  (44, .ixor, 1, (0, 0, 0), []),
  (45, .iand, 1, (0, 0, 0), []),
  (46, .putfield 13, 3, (50, 1, 0), []),
  (49, .aload_n 0, 1, (0, 0, 0), []),
  (50, .dup, 1, (0, 0, 0), []),
  (51, .getfield 7, 3, (50, 0, 0), []),
  (54, .iconst 1, 1, (0, 0, 0), []),
  (55, .iadd, 1, (0, 0, 0), []),
  (56, .putfield 7, 3, (50, 0, 0), []),
  (59, .aload_n 0, 1, (0, 0, 0), []),
  (60, .getfield 7, 3, (50, 0, 0), []),
  (63, .iconst 1, 1, (0, 0, 0), []),
  (64, .isub, 1, (0, 0, 0), []),
  (65, .ireturn, 1, (0, 0, 0), [])]
abbrev am_m9 : am_Mt := (⟨"BookedEmptyModel", "room", "(I)I"⟩, prog_12_method_10_code, 2, (some .int), am_P9, 50, 10)
/-- BookedEmptyModel.hour(IIIII)I -/
def am_P10 : List am_E := [(0, .aload_n 0, 1, (0, 0, 0), []),
  (1, .iload_n 1, 1, (0, 0, 0), []),
  (2, .iconst 0, 1, (0, 0, 0), []),
  (3, .bipush 6, 2, (0, 0, 0), []),
  (5, .invokevirtual 267, 3, (1, 3, 1), []),
  (8, .ifCond .ne 5, 3, (13, 0, 0), []),
  (11, .iconst (-1), 1, (0, 0, 0), []),
  (12, .ireturn, 1, (0, 0, 0), []),
  (13, .aload_n 0, 1, (0, 0, 0), []),
  (14, .iload_n 2, 1, (0, 0, 0), []),
  (15, .iconst 0, 1, (0, 0, 0), []),
  (16, .bipush 9, 2, (0, 0, 0), []),
  (18, .invokevirtual 267, 3, (1, 3, 1), []),
  (21, .ifCond .eq 32, 3, (53, 0, 0), []),
  (24, .aload_n 0, 1, (0, 0, 0), []),
  (25, .iload_n 3, 1, (0, 0, 0), []),
  (26, .invokevirtual 275, 3, (7, 1, 1), []),
  (29, .ifCond .eq 24, 3, (53, 0, 0), []),
  (32, .aload_n 0, 1, (0, 0, 0), []),
  (33, .iload 4, 2, (0, 0, 0), []),
  (35, .iconst 1, 1, (0, 0, 0), []),
  (36, .bipush 12, 2, (0, 0, 0), []),
  (38, .invokevirtual 267, 3, (1, 3, 1), []),
  (41, .ifCond .eq 12, 3, (53, 0, 0), []),
  (44, .aload_n 0, 1, (0, 0, 0), []),
  (45, .iload 5, 2, (0, 0, 0), []),
  (47, .invokevirtual 271, 3, (8, 1, 1), []),
  (50, .ifCond .ne 6, 3, (56, 0, 0), []),
  (53, .bipush (-2), 2, (0, 0, 0), []),
  (55, .ireturn, 1, (0, 0, 0), []),
  (56, .aload_n 0, 1, (0, 0, 0), []),
  (57, .getfield 16, 3, (50, 2, 0), []),
  (60, .bipush 6, 2, (0, 0, 0), []),
  (62, .if_icmp .ne 6, 3, (68, 0, 0), []),
  (65, .bipush (-4), 2, (0, 0, 0), []),
  (67, .ireturn, 1, (0, 0, 0), []),
  (68, .aload_n 0, 1, (0, 0, 0), []),
  (69, .getfield 26, 3, (50, 5, 2), []),
  (72, .aload_n 0, 1, (0, 0, 0), []),
  (73, .getfield 16, 3, (50, 2, 0), []),
  (76, .iload_n 1, 1, (0, 0, 0), []),
  (77, .iastore, 1, (0, 0, 0), []),
  (78, .aload_n 0, 1, (0, 0, 0), []),
  (79, .getfield 29, 3, (50, 6, 2), []),
  (82, .aload_n 0, 1, (0, 0, 0), []),
  (83, .getfield 16, 3, (50, 2, 0), []),
  (86, .iload_n 2, 1, (0, 0, 0), []),
  (87, .iastore, 1, (0, 0, 0), []),
  (88, .aload_n 0, 1, (0, 0, 0), []),
  (89, .getfield 32, 3, (50, 7, 2), []),
  (92, .aload_n 0, 1, (0, 0, 0), []),
  (93, .getfield 16, 3, (50, 2, 0), []),
  (96, .iload_n 3, 1, (0, 0, 0), []),
  (97, .iastore, 1, (0, 0, 0), []),
  (98, .aload_n 0, 1, (0, 0, 0), []),
  (99, .getfield 35, 3, (50, 8, 2), []),
  (102, .aload_n 0, 1, (0, 0, 0), []),
  (103, .getfield 16, 3, (50, 2, 0), []),
  (106, .iload 4, 2, (0, 0, 0), []),
  (108, .iastore, 1, (0, 0, 0), []),
  (109, .aload_n 0, 1, (0, 0, 0), []),
  (110, .getfield 38, 3, (50, 9, 2), []),
  (113, .aload_n 0, 1, (0, 0, 0), []),
  (114, .getfield 16, 3, (50, 2, 0), []),
  (117, .iload 5, 2, (0, 0, 0), []),
  (119, .iastore, 1, (0, 0, 0), []),
  (120, .aload_n 0, 1, (0, 0, 0), []),
  (121, .getfield 41, 3, (50, 10, 2), []),
  (124, .aload_n 0, 1, (0, 0, 0), []),
  (125, .getfield 16, 3, (50, 2, 0), []),
  (128, .iconst 4, 1, (0, 0, 0), []),
  (129, .iastore, 1, (0, 0, 0), []),
  (130, .iconst 0, 1, (0, 0, 0), []),
  (131, .istore 6, 2, (0, 0, 0), []),
  (133, .iload 6, 2, (0, 0, 0), []),
  (135, .iconst 4, 1, (0, 0, 0), []),
  (136, .if_icmp .ge 24, 3, (160, 0, 0), []),
  (139, .aload_n 0, 1, (0, 0, 0), []),
  (140, .getfield 44, 3, (50, 11, 2), []),
  (143, .iconst 4, 1, (0, 0, 0), []),
  (144, .aload_n 0, 1, (0, 0, 0), []),
  (145, .getfield 16, 3, (50, 2, 0), []),
  (148, .imul, 1, (0, 0, 0), []),
  (149, .iload 6, 2, (0, 0, 0), []),
  (151, .iadd, 1, (0, 0, 0), []),
  (152, .iconst 0, 1, (0, 0, 0), []),
  (153, .iastore, 1, (0, 0, 0), []),
  (154, .iinc 6 1, 3, (0, 0, 0), []),
  (157, .goto (-24), 3, (133, 0, 0), []),
  (160, .aload_n 0, 1, (0, 0, 0), []),
  (161, .dup, 1, (0, 0, 0), []),
  (162, .getfield 16, 3, (50, 2, 0), []),
  (165, .iconst 1, 1, (0, 0, 0), []),
  (166, .iadd, 1, (0, 0, 0), []),
  (167, .putfield 16, 3, (50, 2, 0), []),
  (170, .aload_n 0, 1, (0, 0, 0), []),
  (171, .getfield 16, 3, (50, 2, 0), []),
  (174, .iconst 1, 1, (0, 0, 0), []),
  (175, .isub, 1, (0, 0, 0), []),
  (176, .ireturn, 1, (0, 0, 0), [])]
abbrev am_m10 : am_Mt := (⟨"BookedEmptyModel", "hour", "(IIIII)I"⟩, prog_12_method_11_code, 7, (some .int), am_P10, 50, 10)
/-- BookedEmptyModel.fault(IZ)I -/
def am_P11 : List am_E := [(0, .aload_n 0, 1, (0, 0, 0), []),
  (1, .iload_n 1, 1, (0, 0, 0), []),
  (2, .invokevirtual 278, 3, (5, 1, 1), []),
  (5, .ifCond .ne 5, 3, (10, 0, 0), []),
  (8, .iconst (-1), 1, (0, 0, 0), []),
  (9, .ireturn, 1, (0, 0, 0), []),
  (10, .aload_n 0, 1, (0, 0, 0), []),
  (11, .aload_n 0, 1, (0, 0, 0), []),
  (12, .getfield 13, 3, (50, 1, 0), []),
  (15, .iload_n 1, 1, (0, 0, 0), []),
  (16, .invokevirtual 263, 3, (2, 2, 1), []),
  (19, .ifCond .eq 7, 3, (26, 0, 0), []),
  (22, .iconst 1, 1, (0, 0, 0), []),
  (23, .goto 4, 3, (27, 0, 0), []),
  (26, .iconst 0, 1, (0, 0, 0), []),
  (27, .istore_n 3, 1, (0, 0, 0), []),
  (28, .aload_n 0, 1, (0, 0, 0), []),
  (29, .iload_n 2, 1, (0, 0, 0), []),
  (30, .ifCond .eq 14, 3, (44, 0, 0), []),
  (33, .aload_n 0, 1, (0, 0, 0), []),
  (34, .getfield 13, 3, (50, 1, 0), []),
  (37, .iconst 1, 1, (0, 0, 0), []),
  (38, .iload_n 1, 1, (0, 0, 0), []),
  (39, .ishl, 1, (0, 0, 0), []),
  (40, .ior, 1, (0, 0, 0), []),
  (41, .goto 13, 3, (54, 0, 0), []),
  (44, .aload_n 0, 1, (0, 0, 0), []),
  (45, .getfield 13, 3, (50, 1, 0), []),
  (48, .iconst 1, 1, (0, 0, 0), []),
  (49, .iload_n 1, 1, (0, 0, 0), []),
  (50, .ishl, 1, (0, 0, 0), []),
  (51, .iconst (-1), 1, (0, 0, 0), []),
  (52, .ixor, 1, (0, 0, 0), []),
  (53, .iand, 1, (0, 0, 0), []),
  (54, .putfield 13, 3, (50, 1, 0), []),
  (57, .iload_n 3, 1, (0, 0, 0), []),
  (58, .ireturn, 1, (0, 0, 0), [])]
abbrev am_m11 : am_Mt := (⟨"BookedEmptyModel", "fault", "(IZ)I"⟩, prog_12_method_12_code, 4, (some .int), am_P11, 50, 10)
/-- BookedEmptyModel.row(III)I -/
def am_P12 : List am_E := [(0, .aload_n 0, 1, (0, 0, 0), []),
  (1, .iload_n 1, 1, (0, 0, 0), []),
  (2, .invokevirtual 281, 3, (6, 1, 1), []),
  (5, .ifCond .eq 13, 3, (18, 0, 0), []),
  (8, .aload_n 0, 1, (0, 0, 0), []),
  (9, .iload_n 2, 1, (0, 0, 0), []),
  (10, .iconst 0, 1, (0, 0, 0), []),
  (11, .iconst 3, 1, (0, 0, 0), []),
  (12, .invokevirtual 267, 3, (1, 3, 1), []),
  (15, .ifCond .ne 5, 3, (20, 0, 0), []),
  (18, .iconst (-1), 1, (0, 0, 0), []),
  (19, .ireturn, 1, (0, 0, 0), []),
  (20, .aload_n 0, 1, (0, 0, 0), []),
  (21, .iload_n 3, 1, (0, 0, 0), []),
  (22, .iconst 0, 1, (0, 0, 0), []),
  (23, .bipush 9, 2, (0, 0, 0), []),
  (25, .invokevirtual 267, 3, (1, 3, 1), []),
  (28, .ifCond .ne 6, 3, (34, 0, 0), []),
  (31, .bipush (-2), 2, (0, 0, 0), []),
  (33, .ireturn, 1, (0, 0, 0), []),
  (34, .aload_n 0, 1, (0, 0, 0), []),
  (35, .getfield 26, 3, (50, 5, 2), []),
  (38, .iload_n 1, 1, (0, 0, 0), []),
  (39, .iaload, 1, (0, 0, 0), []),
  (40, .bipush 6, 2, (0, 0, 0), []),
  (42, .if_icmp .eq 6, 3, (48, 0, 0), []),
  (45, .bipush (-3), 2, (0, 0, 0), []),
  (47, .ireturn, 1, (0, 0, 0), []),
  (48, .aload_n 0, 1, (0, 0, 0), []),
  (49, .getfield 44, 3, (50, 11, 2), []),
  (52, .iconst 4, 1, (0, 0, 0), []),
  (53, .iload_n 1, 1, (0, 0, 0), []),
  (54, .imul, 1, (0, 0, 0), []),
  (55, .iload_n 2, 1, (0, 0, 0), []),
  (56, .iadd, 1, (0, 0, 0), []),
  (57, .iaload, 1, (0, 0, 0), []),
  (58, .istore 4, 2, (0, 0, 0), []),
  (60, .aload_n 0, 1, (0, 0, 0), []),
  (61, .getfield 44, 3, (50, 11, 2), []),
  (64, .iconst 4, 1, (0, 0, 0), []),
  (65, .iload_n 1, 1, (0, 0, 0), []),
  (66, .imul, 1, (0, 0, 0), []),
  (67, .iload_n 2, 1, (0, 0, 0), []),
  (68, .iadd, 1, (0, 0, 0), []),
  (69, .iload_n 3, 1, (0, 0, 0), []),
  (70, .iastore, 1, (0, 0, 0), []),
  (71, .iload 4, 2, (0, 0, 0), []),
  (73, .ireturn, 1, (0, 0, 0), [])]
abbrev am_m12 : am_Mt := (⟨"BookedEmptyModel", "row", "(III)I"⟩, prog_12_method_13_code, 5, (some .int), am_P12, 50, 10)
/-- BookedEmptyModel.feed(I)I -/
def am_P13 : List am_E := [(0, .aload_n 0, 1, (0, 0, 0), []),
  (1, .iload_n 1, 1, (0, 0, 0), []),
  (2, .iconst 0, 1, (0, 0, 0), []),
  (3, .bipush 127, 2, (0, 0, 0), []),
  (5, .invokevirtual 267, 3, (1, 3, 1), []),
  (8, .ifCond .ne 6, 3, (14, 0, 0), []),
  (11, .bipush (-2), 2, (0, 0, 0), []),
  (13, .ireturn, 1, (0, 0, 0), []),
  (14, .aload_n 0, 1, (0, 0, 0), []),
  (15, .getfield 53, 3, (50, 14, 0), []),
  (18, .bipush 100, 2, (0, 0, 0), []),
  (20, .if_icmp .ne 6, 3, (26, 0, 0), []),
  (23, .bipush (-4), 2, (0, 0, 0), []),
  (25, .ireturn, 1, (0, 0, 0), []),
  (26, .aload_n 0, 1, (0, 0, 0), []),
  (27, .getfield 62, 3, (50, 17, 2), []),
  (30, .aload_n 0, 1, (0, 0, 0), []),
  (31, .getfield 53, 3, (50, 14, 0), []),
  (34, .iload_n 1, 1, (0, 0, 0), []),
  (35, .iastore, 1, (0, 0, 0), []),
  (36, .aload_n 0, 1, (0, 0, 0), []),
  (37, .dup, 1, (0, 0, 0), []),
  (38, .getfield 53, 3, (50, 14, 0), []),
  (41, .iconst 1, 1, (0, 0, 0), []),
  (42, .iadd, 1, (0, 0, 0), []),
  (43, .putfield 53, 3, (50, 14, 0), []),
  (46, .aload_n 0, 1, (0, 0, 0), []),
  (47, .getfield 53, 3, (50, 14, 0), []),
  (50, .ireturn, 1, (0, 0, 0), [])]
abbrev am_m13 : am_Mt := (⟨"BookedEmptyModel", "feed", "(I)I"⟩, prog_12_method_14_code, 2, (some .int), am_P13, 50, 10)
/-- BookedEmptyModel.next()I -/
def am_P14 : List am_E := [(0, .aload_n 0, 1, (0, 0, 0), []),
  (1, .getfield 56, 3, (50, 15, 0), []),
  (4, .aload_n 0, 1, (0, 0, 0), []),
  (5, .getfield 53, 3, (50, 14, 0), []),
  (8, .if_icmp .ge 15, 3, (23, 0, 0), []),
  (11, .aload_n 0, 1, (0, 0, 0), []),
  (12, .getfield 62, 3, (50, 17, 2), []),
  (15, .aload_n 0, 1, (0, 0, 0), []),
  (16, .getfield 56, 3, (50, 15, 0), []),
  (19, .iaload, 1, (0, 0, 0), []),
  (20, .goto 4, 3, (24, 0, 0), []),
  (23, .iconst (-1), 1, (0, 0, 0), []),
  (24, .ireturn, 1, (0, 0, 0), [])]
abbrev am_m14 : am_Mt := (⟨"BookedEmptyModel", "next", "()I"⟩, prog_12_method_15_code, 1, (some .int), am_P14, 50, 10)
/-- BookedEmptyModel.takes(I)Z -/
def am_P15 : List am_E := [(0, .aload_n 0, 1, (0, 0, 0), []),
  (1, .invokevirtual 284, 3, (14, 0, 1), []),
  (4, .iload_n 1, 1, (0, 0, 0), []),
  (5, .if_icmp .eq 5, 3, (10, 0, 0), []),
  (8, .iconst 0, 1, (0, 0, 0), []),
  (9, .ireturn, 1, (1, 0, 0), []),
  (10, .aload_n 0, 1, (0, 0, 0), []),
  (11, .dup, 1, (0, 0, 0), []),
  (12, .getfield 56, 3, (50, 15, 0), []),
  (15, .iconst 1, 1, (0, 0, 0), []),
  (16, .iadd, 1, (0, 0, 0), []),
  (17, .putfield 56, 3, (50, 15, 0), []),
  (20, .iconst 1, 1, (0, 0, 0), []),
  (21, .ireturn, 1, (1, 0, 0), [])]
abbrev am_m15 : am_Mt := (⟨"BookedEmptyModel", "takes", "(I)Z"⟩, prog_12_method_16_code, 2, (some .boolean), am_P15, 50, 10)
/-- BookedEmptyModel.takesWord(II)Z -/
def am_P16 : List am_E := [(0, .iconst 0, 1, (0, 0, 0), []),
  (1, .istore_n 3, 1, (0, 0, 0), []),
  (2, .iload_n 3, 1, (0, 0, 0), []),
  (3, .iload_n 2, 1, (0, 0, 0), []),
  (4, .if_icmp .ge 26, 3, (30, 0, 0), []),
  (7, .aload_n 0, 1, (0, 0, 0), []),
  (8, .aload_n 0, 1, (0, 0, 0), []),
  (9, .getfield 95, 3, (50, 28, 2), []),
  (12, .iload_n 1, 1, (0, 0, 0), []),
  (13, .iload_n 3, 1, (0, 0, 0), []),
  (14, .iadd, 1, (0, 0, 0), []),
  (15, .iaload, 1, (0, 0, 0), []),
  (16, .invokevirtual 288, 3, (15, 1, 1), []),
  (19, .ifCond .ne 5, 3, (24, 0, 0), []),
  (22, .iconst 0, 1, (0, 0, 0), []),
  (23, .ireturn, 1, (1, 0, 0), []),
  (24, .iinc 3 1, 3, (0, 0, 0), []),
  (27, .goto (-25), 3, (2, 0, 0), []),
  (30, .aload_n 0, 1, (0, 0, 0), []),
  (31, .bipush 32, 2, (0, 0, 0), []),
  (33, .invokevirtual 288, 3, (15, 1, 1), []),
  (36, .ireturn, 1, (1, 0, 0), [])]
abbrev am_m16 : am_Mt := (⟨"BookedEmptyModel", "takesWord", "(II)Z"⟩, prog_12_method_17_code, 4, (some .boolean), am_P16, 50, 10)
/-- BookedEmptyModel.isDigit()Z -/
def am_P17 : List am_E := [(0, .aload_n 0, 1, (0, 0, 0), []),
  (1, .aload_n 0, 1, (0, 0, 0), []),
  (2, .invokevirtual 284, 3, (14, 0, 1), []),
  (5, .bipush 48, 2, (0, 0, 0), []),
  (7, .bipush 57, 2, (0, 0, 0), []),
  (9, .invokevirtual 267, 3, (1, 3, 1), []),
  (12, .ireturn, 1, (1, 0, 0), [])]
abbrev am_m17 : am_Mt := (⟨"BookedEmptyModel", "isDigit", "()Z"⟩, prog_12_method_18_code, 1, (some .boolean), am_P17, 50, 10)
/-- BookedEmptyModel.takesNumber()Z -/
def am_P18 : List am_E := [(0, .aload_n 0, 1, (0, 0, 0), []),
  (1, .invokevirtual 291, 3, (17, 0, 1), []),
  (4, .ifCond .ne 5, 3, (9, 0, 0), []),
  (7, .iconst 0, 1, (0, 0, 0), []),
  (8, .ireturn, 1, (1, 0, 0), []),
  (9, .aload_n 0, 1, (0, 0, 0), []),
  (10, .iconst 0, 1, (0, 0, 0), []),
  (11, .putfield 59, 3, (50, 16, 0), []),
  (14, .iconst 0, 1, (0, 0, 0), []),
  (15, .istore_n 1, 1, (0, 0, 0), []),
  (16, .iload_n 1, 1, (0, 0, 0), []),
  (17, .iconst 2, 1, (0, 0, 0), []),
  (18, .if_icmp .ge 45, 3, (63, 0, 0), []),
  (21, .aload_n 0, 1, (0, 0, 0), []),
  (22, .invokevirtual 291, 3, (17, 0, 1), []),
  (25, .ifCond .eq 38, 3, (63, 0, 0), []),
  (28, .aload_n 0, 1, (0, 0, 0), []),
  (29, .bipush 10, 2, (0, 0, 0), []),
  (31, .aload_n 0, 1, (0, 0, 0), []),
  (32, .getfield 59, 3, (50, 16, 0), []),
  (35, .imul, 1, (0, 0, 0), []),
  (36, .aload_n 0, 1, (0, 0, 0), []),
  (37, .invokevirtual 284, 3, (14, 0, 1), []),
  (40, .iadd, 1, (0, 0, 0), []),
  (41, .bipush 48, 2, (0, 0, 0), []),
  (43, .isub, 1, (0, 0, 0), []),
  (44, .putfield 59, 3, (50, 16, 0), []),
  (47, .aload_n 0, 1, (0, 0, 0), []),
  (48, .dup, 1, (0, 0, 0), []),
  (49, .getfield 56, 3, (50, 15, 0), []),
  (52, .iconst 1, 1, (0, 0, 0), []),
  (53, .iadd, 1, (0, 0, 0), []),
  (54, .putfield 56, 3, (50, 15, 0), []),
  (57, .iinc 1 1, 3, (0, 0, 0), []),
  (60, .goto (-44), 3, (16, 0, 0), []),
  (63, .iconst 1, 1, (0, 0, 0), []),
  (64, .ireturn, 1, (1, 0, 0), [])]
abbrev am_m18 : am_Mt := (⟨"BookedEmptyModel", "takesNumber", "()Z"⟩, prog_12_method_19_code, 2, (some .boolean), am_P18, 50, 10)
/-- BookedEmptyModel.emits(I)V -/
def am_P19 : List am_E := [(0, .aload_n 0, 1, (0, 0, 0), []),
  (1, .getfield 80, 3, (50, 23, 2), []),
  (4, .aload_n 0, 1, (0, 0, 0), []),
  (5, .getfield 86, 3, (50, 25, 0), []),
  (8, .iload_n 1, 1, (0, 0, 0), []),
  (9, .iastore, 1, (0, 0, 0), []),
  (10, .aload_n 0, 1, (0, 0, 0), []),
  (11, .dup, 1, (0, 0, 0), []),
  (12, .getfield 86, 3, (50, 25, 0), []),
  (15, .iconst 1, 1, (0, 0, 0), []),
  (16, .iadd, 1, (0, 0, 0), []),
  (17, .putfield 86, 3, (50, 25, 0), []),
  (20, .return_, 1, (0, 0, 0), [])]
abbrev am_m19 : am_Mt := (⟨"BookedEmptyModel", "emits", "(I)V"⟩, prog_12_method_20_code, 2, none, am_P19, 50, 10)
/-- BookedEmptyModel.whole()V -/
def am_P20 : List am_E := [(0, .aload_n 0, 1, (0, 0, 0), []),
  (1, .getfield 89, 3, (50, 26, 0), []),
  (4, .ifCond .le 48, 3, (52, 0, 0), []),
  (7, .aload_n 0, 1, (0, 0, 0), []),
  (8, .getfield 83, 3, (50, 24, 2), []),
  (11, .aload_n 0, 1, (0, 0, 0), []),
  (12, .getfield 89, 3, (50, 26, 0), []),
  (15, .iconst 1, 1, (0, 0, 0), []),
  (16, .isub, 1, (0, 0, 0), []),
  (17, .iaload, 1, (0, 0, 0), []),
  (18, .bipush 33, 2, (0, 0, 0), []),
  (20, .if_icmp .ne 32, 3, (52, 0, 0), []),
  (23, .aload_n 0, 1, (0, 0, 0), []),
  (24, .bipush (-33), 2, (0, 0, 0), []),
  (26, .invokevirtual 295, 3, (19, 1, 0), []),
  (29, .aload_n 0, 1, (0, 0, 0), []),
  (30, .dup, 1, (0, 0, 0), []),
  (31, .getfield 89, 3, (50, 26, 0), []),
  (34, .iconst 1, 1, (0, 0, 0), []),
  (35, .isub, 1, (0, 0, 0), []),
  (36, .putfield 89, 3, (50, 26, 0), []),
  (39, .aload_n 0, 1, (0, 0, 0), []),
  (40, .dup, 1, (0, 0, 0), []),
  (41, .getfield 92, 3, (50, 27, 0), []),
  (44, .iconst 1, 1, (0, 0, 0), []),
  (45, .isub, 1, (0, 0, 0), []),
  (46, .putfield 92, 3, (50, 27, 0), []),
  (49, .goto (-49), 3, (0, 0, 0), []),
  (52, .return_, 1, (0, 0, 0), [])]
abbrev am_m20 : am_Mt := (⟨"BookedEmptyModel", "whole", "()V"⟩, prog_12_method_21_code, 1, none, am_P20, 50, 10)
/-- BookedEmptyModel.settle(I)V -/
def am_P21 : List am_E := [(0, .aload_n 0, 1, (0, 0, 0), []),
  (1, .getfield 89, 3, (50, 26, 0), []),
  (4, .ifCond .le 68, 3, (72, 0, 0), []),
  (7, .aload_n 0, 1, (0, 0, 0), []),
  (8, .getfield 83, 3, (50, 24, 2), []),
  (11, .aload_n 0, 1, (0, 0, 0), []),
  (12, .getfield 89, 3, (50, 26, 0), []),
  (15, .iconst 1, 1, (0, 0, 0), []),
  (16, .isub, 1, (0, 0, 0), []),
  (17, .iaload, 1, (0, 0, 0), []),
  (18, .bipush 38, 2, (0, 0, 0), []),
  (20, .if_icmp .eq 25, 3, (45, 0, 0), []),
  (23, .aload_n 0, 1, (0, 0, 0), []),
  (24, .getfield 83, 3, (50, 24, 2), []),
  (27, .aload_n 0, 1, (0, 0, 0), []),
  (28, .getfield 89, 3, (50, 26, 0), []),
  (31, .iconst 1, 1, (0, 0, 0), []),
  (32, .isub, 1, (0, 0, 0), []),
  (33, .iaload, 1, (0, 0, 0), []),
  (34, .bipush 124, 2, (0, 0, 0), []),
  (36, .if_icmp .ne 36, 3, (72, 0, 0), []),
  (39, .iload_n 1, 1, (0, 0, 0), []),
  (40, .bipush 38, 2, (0, 0, 0), []),
  (42, .if_icmp .eq 30, 3, (72, 0, 0), []),
  (45, .aload_n 0, 1, (0, 0, 0), []),
  (46, .dup, 1, (0, 0, 0), []),
  (47, .getfield 89, 3, (50, 26, 0), []),
  (50, .iconst 1, 1, (0, 0, 0), []),
  (51, .isub, 1, (0, 0, 0), []),
  (52, .putfield 89, 3, (50, 26, 0), []),
  (55, .aload_n 0, 1, (0, 0, 0), []),
  (56, .aload_n 0, 1, (0, 0, 0), []),
  (57, .getfield 83, 3, (50, 24, 2), []),
  (60, .aload_n 0, 1, (0, 0, 0), []),
  (61, .getfield 89, 3, (50, 26, 0), []),
  (64, .iaload, 1, (0, 0, 0), []),
  (65, .ineg, 1, (0, 0, 0), []),
  (66, .invokevirtual 295, 3, (19, 1, 0), []),
  (69, .goto (-69), 3, (0, 0, 0), []),
  (72, .return_, 1, (0, 0, 0), [])]
abbrev am_m21 : am_Mt := (⟨"BookedEmptyModel", "settle", "(I)V"⟩, prog_12_method_22_code, 2, none, am_P21, 50, 10)
/-- BookedEmptyModel.place(I)I -/
def am_P22 : List am_E := [(0, .iload_n 1, 1, (0, 0, 0), []),
  (1, .tableswitch 87 104 118 #[75, 87, 87, 79, 87, 87, 87, 87, 83, 87, 77, 85, 87, 87, 81], 75, (88, 0, 0), [(104, 76), (105, 88), (106, 88), (107, 80), (108, 88), (109, 88), (110, 88), (111, 88), (112, 84), (113, 88), (114, 78), (115, 86), (116, 88), (117, 88), (118, 82)]),
  (76, .iconst 0, 1, (0, 0, 0), []),
  (77, .ireturn, 1, (0, 0, 0), []),
  (78, .iconst 1, 1, (0, 0, 0), []),
  (79, .ireturn, 1, (0, 0, 0), []),
  (80, .iconst 2, 1, (0, 0, 0), []),
  (81, .ireturn, 1, (0, 0, 0), []),
  (82, .iconst 3, 1, (0, 0, 0), []),
  (83, .ireturn, 1, (0, 0, 0), []),
  (84, .iconst 4, 1, (0, 0, 0), []),
  (85, .ireturn, 1, (0, 0, 0), []),
  (86, .iconst 5, 1, (0, 0, 0), []),
  (87, .ireturn, 1, (0, 0, 0), []),
  (88, .iconst (-1), 1, (0, 0, 0), []),
  (89, .ireturn, 1, (0, 0, 0), [])]
abbrev am_m22 : am_Mt := (⟨"BookedEmptyModel", "place", "(I)I"⟩, prog_12_method_23_code, 2, (some .int), am_P22, 50, 10)
/-- BookedEmptyModel.takesTest()Z -/
def am_P23 : List am_E := [(0, .aload_n 0, 1, (0, 0, 0), []),
  (1, .aload_n 0, 1, (0, 0, 0), []),
  (2, .invokevirtual 284, 3, (14, 0, 1), []),
  (5, .invokevirtual 299, 3, (22, 1, 1), []),
  (8, .istore_n 1, 1, (0, 0, 0), []),
  (9, .iload_n 1, 1, (0, 0, 0), []),
  (10, .ifCond .ge 5, 3, (15, 0, 0), []),
  (13, .iconst 0, 1, (0, 0, 0), []),
  (14, .ireturn, 1, (1, 0, 0), []),
  (15, .aload_n 0, 1, (0, 0, 0), []),
  (16, .dup, 1, (0, 0, 0), []),
  (17, .getfield 56, 3, (50, 15, 0), []),
  (20, .iconst 1, 1, (0, 0, 0), []),
  (21, .iadd, 1, (0, 0, 0), []),
  (22, .putfield 56, 3, (50, 15, 0), []),
  (25, .aload_n 0, 1, (0, 0, 0), []),
  (26, .invokevirtual 284, 3, (14, 0, 1), []),
  (29, .istore_n 2, 1, (0, 0, 0), []),
  (30, .aload_n 0, 1, (0, 0, 0), []),
  (31, .iload_n 2, 1, (0, 0, 0), []),
  (32, .bipush 60, 2, (0, 0, 0), []),
  (34, .bipush 62, 2, (0, 0, 0), []),
  (36, .invokevirtual 267, 3, (1, 3, 1), []),
  (39, .ifCond .ne 5, 3, (44, 0, 0), []),
  (42, .iconst 0, 1, (0, 0, 0), []),
  (43, .ireturn, 1, (1, 0, 0), []),
  (44, .aload_n 0, 1, (0, 0, 0), []),
  (45, .dup, 1, (0, 0, 0), []),
  (46, .getfield 56, 3, (50, 15, 0), []),
  (49, .iconst 1, 1, (0, 0, 0), []),
  (50, .iadd, 1, (0, 0, 0), []),
  (51, .putfield 56, 3, (50, 15, 0), []),
  (54, .aload_n 0, 1, (0, 0, 0), []),
  (55, .invokevirtual 303, 3, (18, 0, 1), []),
  (58, .ifCond .ne 5, 3, (63, 0, 0), []),
  (61, .iconst 0, 1, (0, 0, 0), []),
  (62, .ireturn, 1, (1, 0, 0), []),
  (63, .aload_n 0, 1, (0, 0, 0), []),
  (64, .sipush 1000, 3, (0, 0, 0), []),
  (67, .iload_n 1, 1, (0, 0, 0), []),
  (68, .imul, 1, (0, 0, 0), []),
  (69, .bipush 100, 2, (0, 0, 0), []),
  (71, .iload_n 2, 1, (0, 0, 0), []),
  (72, .bipush 60, 2, (0, 0, 0), []),
  (74, .isub, 1, (0, 0, 0), []),
  (75, .imul, 1, (0, 0, 0), []),
  (76, .iadd, 1, (0, 0, 0), []),
  (77, .aload_n 0, 1, (0, 0, 0), []),
  (78, .getfield 59, 3, (50, 16, 0), []),
  (81, .iadd, 1, (0, 0, 0), []),
  (82, .invokevirtual 295, 3, (19, 1, 0), []),
  (85, .aload_n 0, 1, (0, 0, 0), []),
  (86, .invokevirtual 306, 3, (20, 0, 0), []),
  (89, .iconst 1, 1, (0, 0, 0), []),
  (90, .ireturn, 1, (1, 0, 0), [])]
abbrev am_m23 : am_Mt := (⟨"BookedEmptyModel", "takesTest", "()Z"⟩, prog_12_method_24_code, 3, (some .boolean), am_P23, 50, 10)
/-- BookedEmptyModel.takesE(I)Z -/
def am_P24 : List am_E := [(0, .aload_n 0, 1, (0, 0, 0), []),
  (1, .iconst 0, 1, (0, 0, 0), []),
  (2, .putfield 89, 3, (50, 26, 0), []),
  (5, .aload_n 0, 1, (0, 0, 0), []),
  (6, .iconst 0, 1, (0, 0, 0), []),
  (7, .putfield 92, 3, (50, 27, 0), []),
  (10, .aload_n 0, 1, (0, 0, 0), []),
  (11, .getfield 74, 3, (50, 21, 2), []),
  (14, .iload_n 1, 1, (0, 0, 0), []),
  (15, .aload_n 0, 1, (0, 0, 0), []),
  (16, .getfield 86, 3, (50, 25, 0), []),
  (19, .iastore, 1, (0, 0, 0), []),
  (20, .iconst 1, 1, (0, 0, 0), []),
  (21, .istore_n 2, 1, (0, 0, 0), []),
  (22, .aload_n 0, 1, (0, 0, 0), []),
  (23, .invokevirtual 284, 3, (14, 0, 1), []),
  (26, .istore_n 3, 1, (0, 0, 0), []),
  (27, .iload_n 2, 1, (0, 0, 0), []),
  (28, .ifCond .eq 82, 3, (110, 0, 0), []),
  (31, .iload_n 3, 1, (0, 0, 0), []),
  (32, .bipush 33, 2, (0, 0, 0), []),
  (34, .if_icmp .eq 9, 3, (43, 0, 0), []),
  (37, .iload_n 3, 1, (0, 0, 0), []),
  (38, .bipush 40, 2, (0, 0, 0), []),
  (40, .if_icmp .ne 56, 3, (96, 0, 0), []),
  (43, .aload_n 0, 1, (0, 0, 0), []),
  (44, .getfield 92, 3, (50, 27, 0), []),
  (47, .iconst 4, 1, (0, 0, 0), []),
  (48, .if_icmp .ne 5, 3, (53, 0, 0), []),
  (51, .iconst 0, 1, (0, 0, 0), []),
  (52, .ireturn, 1, (1, 0, 0), []),
  (53, .aload_n 0, 1, (0, 0, 0), []),
  (54, .dup, 1, (0, 0, 0), []),
  (55, .getfield 92, 3, (50, 27, 0), []),
  (58, .iconst 1, 1, (0, 0, 0), []),
  (59, .iadd, 1, (0, 0, 0), []),
  (60, .putfield 92, 3, (50, 27, 0), []),
  (63, .aload_n 0, 1, (0, 0, 0), []),
  (64, .getfield 83, 3, (50, 24, 2), []),
  (67, .aload_n 0, 1, (0, 0, 0), []),
  (68, .getfield 89, 3, (50, 26, 0), []),
  (71, .iload_n 3, 1, (0, 0, 0), []),
  (72, .iastore, 1, (0, 0, 0), []),
  (73, .aload_n 0, 1, (0, 0, 0), []),
  (74, .dup, 1, (0, 0, 0), []),
  (75, .getfield 89, 3, (50, 26, 0), []),
  (78, .iconst 1, 1, (0, 0, 0), []),
  (79, .iadd, 1, (0, 0, 0), []),
  (80, .putfield 89, 3, (50, 26, 0), []),
  (83, .aload_n 0, 1, (0, 0, 0), []),
  (84, .dup, 1, (0, 0, 0), []),
  (85, .getfield 56, 3, (50, 15, 0), []),
  (88, .iconst 1, 1, (0, 0, 0), []),
  (89, .iadd, 1, (0, 0, 0), []),
  (90, .putfield 56, 3, (50, 15, 0), []),
  (93, .goto (-71), 3, (22, 0, 0), []),
  (96, .aload_n 0, 1, (0, 0, 0), []),
  (97, .invokevirtual 309, 3, (23, 0, 1), []),
  (100, .ifCond .eq 8, 3, (108, 0, 0), []),
  (103, .iconst 0, 1, (0, 0, 0), []),
  (104, .istore_n 2, 1, (0, 0, 0), []),
  (105, .goto (-83), 3, (22, 0, 0), []),
  (108, .iconst 0, 1, (0, 0, 0), []),
  (109, .ireturn, 1, (1, 0, 0), []),
  (110, .iload_n 3, 1, (0, 0, 0), []),
  (111, .bipush 38, 2, (0, 0, 0), []),
  (113, .if_icmp .eq 9, 3, (122, 0, 0), []),
  (116, .iload_n 3, 1, (0, 0, 0), []),
  (117, .bipush 124, 2, (0, 0, 0), []),
  (119, .if_icmp .ne 43, 3, (162, 0, 0), []),
  (122, .aload_n 0, 1, (0, 0, 0), []),
  (123, .iload_n 3, 1, (0, 0, 0), []),
  (124, .invokevirtual 312, 3, (21, 1, 0), []),
  (127, .aload_n 0, 1, (0, 0, 0), []),
  (128, .getfield 83, 3, (50, 24, 2), []),
  (131, .aload_n 0, 1, (0, 0, 0), []),
  (132, .getfield 89, 3, (50, 26, 0), []),
  (135, .iload_n 3, 1, (0, 0, 0), []),
  (136, .iastore, 1, (0, 0, 0), []),
  (137, .aload_n 0, 1, (0, 0, 0), []),
  (138, .dup, 1, (0, 0, 0), []),
  (139, .getfield 89, 3, (50, 26, 0), []),
  (142, .iconst 1, 1, (0, 0, 0), []),
  (143, .iadd, 1, (0, 0, 0), []),
  (144, .putfield 89, 3, (50, 26, 0), []),
  (147, .iconst 1, 1, (0, 0, 0), []),
  (148, .istore_n 2, 1, (0, 0, 0), []),
  (149, .aload_n 0, 1, (0, 0, 0), []),
  (150, .dup, 1, (0, 0, 0), []),
  (151, .getfield 56, 3, (50, 15, 0), []),
  (154, .iconst 1, 1, (0, 0, 0), []),
  (155, .iadd, 1, (0, 0, 0), []),
  (156, .putfield 56, 3, (50, 15, 0), []),
  (159, .goto (-137), 3, (22, 0, 0), []),
  (162, .aload_n 0, 1, (0, 0, 0), []),
  (163, .bipush 124, 2, (0, 0, 0), []),
  (165, .invokevirtual 312, 3, (21, 1, 0), []),
  (168, .aload_n 0, 1, (0, 0, 0), []),
  (169, .getfield 77, 3, (50, 22, 2), []),
  (172, .iload_n 1, 1, (0, 0, 0), []),
  (173, .aload_n 0, 1, (0, 0, 0), []),
  (174, .getfield 86, 3, (50, 25, 0), []),
  (177, .iastore, 1, (0, 0, 0), []),
  (178, .aload_n 0, 1, (0, 0, 0), []),
  (179, .getfield 89, 3, (50, 26, 0), []),
  (182, .ifCond .ne 5, 3, (187, 0, 0), []),
  (185, .iconst 1, 1, (0, 0, 0), []),
  (186, .ireturn, 1, (1, 0, 0), []),
  (187, .iload_n 3, 1, (0, 0, 0), []),
  (188, .bipush 41, 2, (0, 0, 0), []),
  (190, .if_icmp .eq 5, 3, (195, 0, 0), []),
  (193, .iconst 0, 1, (0, 0, 0), []),
  (194, .ireturn, 1, (1, 0, 0), []),
  (195, .aload_n 0, 1, (0, 0, 0), []),
  (196, .dup, 1, (0, 0, 0), []),
  (197, .getfield 89, 3, (50, 26, 0), []),
  (200, .iconst 1, 1, (0, 0, 0), []),
  (201, .isub, 1, (0, 0, 0), []),
  (202, .putfield 89, 3, (50, 26, 0), []),
  (205, .aload_n 0, 1, (0, 0, 0), []),
  (206, .dup, 1, (0, 0, 0), []),
  (207, .getfield 92, 3, (50, 27, 0), []),
  (210, .iconst 1, 1, (0, 0, 0), []),
  (211, .isub, 1, (0, 0, 0), []),
  (212, .putfield 92, 3, (50, 27, 0), []),
  (215, .aload_n 0, 1, (0, 0, 0), []),
  (216, .dup, 1, (0, 0, 0), []),
  (217, .getfield 56, 3, (50, 15, 0), []),
  (220, .iconst 1, 1, (0, 0, 0), []),
  (221, .iadd, 1, (0, 0, 0), []),
  (222, .putfield 56, 3, (50, 15, 0), []),
  (225, .aload_n 0, 1, (0, 0, 0), []),
  (226, .invokevirtual 306, 3, (20, 0, 0), []),
  (229, .goto (-207), 3, (22, 0, 0), [])]
abbrev am_m24 : am_Mt := (⟨"BookedEmptyModel", "takesE", "(I)Z"⟩, prog_12_method_25_code, 4, (some .boolean), am_P24, 50, 10)
/-- BookedEmptyModel.takesHead(I)Z -/
def am_P25 : List am_E := [(0, .aload_n 0, 1, (0, 0, 0), []),
  (1, .invokevirtual 284, 3, (14, 0, 1), []),
  (4, .lookupswitch 79 #[(104, 64), (108, 36), (109, 50)], 36, (83, 0, 0), [(104, 68), (108, 40), (109, 54)]),
  (40, .aload_n 0, 1, (0, 0, 0), []),
  (41, .getfield 68, 3, (50, 19, 2), []),
  (44, .iload_n 1, 1, (0, 0, 0), []),
  (45, .iconst 0, 1, (0, 0, 0), []),
  (46, .iastore, 1, (0, 0, 0), []),
  (47, .aload_n 0, 1, (0, 0, 0), []),
  (48, .iconst 0, 1, (0, 0, 0), []),
  (49, .iconst 4, 1, (0, 0, 0), []),
  (50, .invokevirtual 315, 3, (16, 2, 1), []),
  (53, .ireturn, 1, (1, 0, 0), []),
  (54, .aload_n 0, 1, (0, 0, 0), []),
  (55, .getfield 68, 3, (50, 19, 2), []),
  (58, .iload_n 1, 1, (0, 0, 0), []),
  (59, .iconst 1, 1, (0, 0, 0), []),
  (60, .iastore, 1, (0, 0, 0), []),
  (61, .aload_n 0, 1, (0, 0, 0), []),
  (62, .iconst 4, 1, (0, 0, 0), []),
  (63, .iconst 4, 1, (0, 0, 0), []),
  (64, .invokevirtual 315, 3, (16, 2, 1), []),
  (67, .ireturn, 1, (1, 0, 0), []),
  (68, .aload_n 0, 1, (0, 0, 0), []),
  (69, .getfield 68, 3, (50, 19, 2), []),
  (72, .iload_n 1, 1, (0, 0, 0), []),
  (73, .iconst 2, 1, (0, 0, 0), []),
  (74, .iastore, 1, (0, 0, 0), []),
  (75, .aload_n 0, 1, (0, 0, 0), []),
  (76, .bipush 8, 2, (0, 0, 0), []),
  (78, .iconst 4, 1, (0, 0, 0), []),
  (79, .invokevirtual 315, 3, (16, 2, 1), []),
  (82, .ireturn, 1, (1, 0, 0), []),
  (83, .aload_n 0, 1, (0, 0, 0), []),
  (84, .getfield 68, 3, (50, 19, 2), []),
  (87, .iload_n 1, 1, (0, 0, 0), []),
  (88, .iconst 3, 1, (0, 0, 0), []),
  (89, .iastore, 1, (0, 0, 0), []),
  (90, .aload_n 0, 1, (0, 0, 0), []),
  (91, .bipush 12, 2, (0, 0, 0), []),
  (93, .iconst 3, 1, (0, 0, 0), []),
  (94, .invokevirtual 315, 3, (16, 2, 1), []),
  (97, .ireturn, 1, (1, 0, 0), [])]
abbrev am_m25 : am_Mt := (⟨"BookedEmptyModel", "takesHead", "(I)Z"⟩, prog_12_method_26_code, 2, (some .boolean), am_P25, 50, 10)
/-- BookedEmptyModel.takesClause(I)Z -/
def am_P26 : List am_E := [(0, .aload_n 0, 1, (0, 0, 0), []),
  (1, .iload_n 1, 1, (0, 0, 0), []),
  (2, .invokevirtual 318, 3, (25, 1, 1), []),
  (5, .ifCond .eq 10, 3, (15, 0, 0), []),
  (8, .aload_n 0, 1, (0, 0, 0), []),
  (9, .invokevirtual 303, 3, (18, 0, 1), []),
  (12, .ifCond .ne 5, 3, (17, 0, 0), []),
  (15, .iconst 0, 1, (0, 0, 0), []),
  (16, .ireturn, 1, (1, 0, 0), []),
  (17, .aload_n 0, 1, (0, 0, 0), []),
  (18, .getfield 71, 3, (50, 20, 2), []),
  (21, .iload_n 1, 1, (0, 0, 0), []),
  (22, .aload_n 0, 1, (0, 0, 0), []),
  (23, .getfield 59, 3, (50, 16, 0), []),
  (26, .iastore, 1, (0, 0, 0), []),
  (27, .aload_n 0, 1, (0, 0, 0), []),
  (28, .getfield 68, 3, (50, 19, 2), []),
  (31, .iload_n 1, 1, (0, 0, 0), []),
  (32, .iaload, 1, (0, 0, 0), []),
  (33, .iconst 2, 1, (0, 0, 0), []),
  (34, .if_icmp .ge 20, 3, (54, 0, 0), []),
  (37, .aload_n 0, 1, (0, 0, 0), []),
  (38, .bipush 32, 2, (0, 0, 0), []),
  (40, .invokevirtual 288, 3, (15, 1, 1), []),
  (43, .ifCond .eq 15, 3, (58, 0, 0), []),
  (46, .aload_n 0, 1, (0, 0, 0), []),
  (47, .iload_n 1, 1, (0, 0, 0), []),
  (48, .invokevirtual 321, 3, (24, 1, 1), []),
  (51, .ifCond .eq 7, 3, (58, 0, 0), []),
  (54, .iconst 1, 1, (0, 0, 0), []),
  (55, .goto 4, 3, (59, 0, 0), []),
  (58, .iconst 0, 1, (0, 0, 0), []),
  (59, .ireturn, 1, (1, 0, 0), [])]
abbrev am_m26 : am_Mt := (⟨"BookedEmptyModel", "takesClause", "(I)Z"⟩, prog_12_method_27_code, 2, (some .boolean), am_P26, 50, 10)
/-- BookedEmptyModel.goesText(I)Z -/
def am_P27 : List am_E := [(0, .aload_n 0, 1, (0, 0, 0), []),
  (1, .iconst 0, 1, (0, 0, 0), []),
  (2, .putfield 56, 3, (50, 15, 0), []),
  (5, .aload_n 0, 1, (0, 0, 0), []),
  (6, .bipush 100, 2, (0, 0, 0), []),
  (8, .iload_n 1, 1, (0, 0, 0), []),
  (9, .imul, 1, (0, 0, 0), []),
  (10, .putfield 86, 3, (50, 25, 0), []),
  (13, .iconst 0, 1, (0, 0, 0), []),
  (14, .istore_n 2, 1, (0, 0, 0), []),
  (15, .aload_n 0, 1, (0, 0, 0), []),
  (16, .bipush 10, 2, (0, 0, 0), []),
  (18, .iload_n 1, 1, (0, 0, 0), []),
  (19, .imul, 1, (0, 0, 0), []),
  (20, .iload_n 2, 1, (0, 0, 0), []),
  (21, .iadd, 1, (0, 0, 0), []),
  (22, .invokevirtual 324, 3, (26, 1, 1), []),
  (25, .ifCond .ne 5, 3, (30, 0, 0), []),
  (28, .iconst 0, 1, (0, 0, 0), []),
  (29, .ireturn, 1, (1, 0, 0), []),
  (30, .iinc 2 1, 3, (0, 0, 0), []),
  (33, .aload_n 0, 1, (0, 0, 0), []),
  (34, .getfield 65, 3, (50, 18, 2), []),
  (37, .iload_n 1, 1, (0, 0, 0), []),
  (38, .iload_n 2, 1, (0, 0, 0), []),
  (39, .iastore, 1, (0, 0, 0), []),
  (40, .aload_n 0, 1, (0, 0, 0), []),
  (41, .getfield 56, 3, (50, 15, 0), []),
  (44, .aload_n 0, 1, (0, 0, 0), []),
  (45, .getfield 53, 3, (50, 14, 0), []),
  (48, .if_icmp .ne 5, 3, (53, 0, 0), []),
  (51, .iconst 1, 1, (0, 0, 0), []),
  (52, .ireturn, 1, (1, 0, 0), []),
  (53, .iload_n 2, 1, (0, 0, 0), []),
  (54, .bipush 10, 2, (0, 0, 0), []),
  (56, .if_icmp .eq 12, 3, (68, 0, 0), []),
  (59, .aload_n 0, 1, (0, 0, 0), []),
  (60, .bipush 59, 2, (0, 0, 0), []),
  (62, .invokevirtual 288, 3, (15, 1, 1), []),
  (65, .ifCond .ne (-50), 3, (15, 0, 0), []),
  (68, .iconst 0, 1, (0, 0, 0), []),
  (69, .ireturn, 1, (1, 0, 0), [])]
abbrev am_m27 : am_Mt := (⟨"BookedEmptyModel", "goesText", "(I)Z"⟩, prog_12_method_28_code, 3, (some .boolean), am_P27, 50, 10)
/-- BookedEmptyModel.office()I -/
def am_P28 : List am_E := [(0, .aload_n 0, 1, (0, 0, 0), []),
  (1, .getfield 47, 3, (50, 12, 0), []),
  (4, .bipush 6, 2, (0, 0, 0), []),
  (6, .if_icmp .ne 6, 3, (12, 0, 0), []),
  (9, .bipush (-4), 2, (0, 0, 0), []),
  (11, .ireturn, 1, (0, 0, 0), []),
  (12, .aload_n 0, 1, (0, 0, 0), []),
  (13, .aload_n 0, 1, (0, 0, 0), []),
  (14, .getfield 47, 3, (50, 12, 0), []),
  (17, .invokevirtual 327, 3, (27, 1, 1), []),
  (20, .istore_n 1, 1, (0, 0, 0), []),
  (21, .aload_n 0, 1, (0, 0, 0), []),
  (22, .iconst 0, 1, (0, 0, 0), []),
  (23, .putfield 53, 3, (50, 14, 0), []),
  (26, .iload_n 1, 1, (0, 0, 0), []),
  (27, .ifCond .ne 11, 3, (38, 0, 0), []),
  (30, .bipush (-10), 2, (0, 0, 0), []),
  (32, .aload_n 0, 1, (0, 0, 0), []),
  (33, .getfield 56, 3, (50, 15, 0), []),
  (36, .isub, 1, (0, 0, 0), []),
  (37, .ireturn, 1, (0, 0, 0), []),
  (38, .aload_n 0, 1, (0, 0, 0), []),
  (39, .aload_n 0, 1, (0, 0, 0), []),
  (40, .getfield 47, 3, (50, 12, 0), []),
  (43, .putfield 50, 3, (50, 13, 0), []),
  (46, .aload_n 0, 1, (0, 0, 0), []),
  (47, .dup, 1, (0, 0, 0), []),
  (48, .getfield 47, 3, (50, 12, 0), []),
  (51, .iconst 1, 1, (0, 0, 0), []),
  (52, .iadd, 1, (0, 0, 0), []),
  (53, .putfield 47, 3, (50, 12, 0), []),
  (56, .aload_n 0, 1, (0, 0, 0), []),
  (57, .getfield 50, 3, (50, 13, 0), []),
  (60, .ireturn, 1, (0, 0, 0), [])]
abbrev am_m28 : am_Mt := (⟨"BookedEmptyModel", "office", "()I"⟩, prog_12_method_29_code, 2, (some .int), am_P28, 50, 10)
/-- BookedEmptyModel.begin()I -/
def am_P29 : List am_E := [(0, .aload_n 0, 1, (0, 0, 0), []),
  (1, .getfield 50, 3, (50, 13, 0), []),
  (4, .ifCond .ge 7, 3, (11, 0, 0), []),
  (7, .iconst 0, 1, (0, 0, 0), []),
  (8, .goto 10, 3, (18, 0, 0), []),
  (11, .bipush 10, 2, (0, 0, 0), []),
  (13, .aload_n 0, 1, (0, 0, 0), []),
  (14, .getfield 50, 3, (50, 13, 0), []),
  (17, .imul, 1, (0, 0, 0), []),
  (18, .ireturn, 1, (0, 0, 0), [])]
abbrev am_m29 : am_Mt := (⟨"BookedEmptyModel", "begin", "()I"⟩, prog_12_method_30_code, 1, (some .int), am_P29, 50, 10)
/-- BookedEmptyModel.behind()I -/
def am_P30 : List am_E := [(0, .aload_n 0, 1, (0, 0, 0), []),
  (1, .getfield 50, 3, (50, 13, 0), []),
  (4, .ifCond .ge 7, 3, (11, 0, 0), []),
  (7, .iconst 0, 1, (0, 0, 0), []),
  (8, .goto 20, 3, (28, 0, 0), []),
  (11, .bipush 10, 2, (0, 0, 0), []),
  (13, .aload_n 0, 1, (0, 0, 0), []),
  (14, .getfield 50, 3, (50, 13, 0), []),
  (17, .imul, 1, (0, 0, 0), []),
  (18, .aload_n 0, 1, (0, 0, 0), []),
  (19, .getfield 65, 3, (50, 18, 2), []),
  (22, .aload_n 0, 1, (0, 0, 0), []),
  (23, .getfield 50, 3, (50, 13, 0), []),
  (26, .iaload, 1, (0, 0, 0), []),
  (27, .iadd, 1, (0, 0, 0), []),
  (28, .ireturn, 1, (0, 0, 0), [])]
abbrev am_m30 : am_Mt := (⟨"BookedEmptyModel", "behind", "()I"⟩, prog_12_method_31_code, 1, (some .int), am_P30, 50, 10)
/-- BookedEmptyModel.lastOf(II)I -/
def am_P31 : List am_E := [(0, .iload_n 2, 1, (0, 0, 0), []),
  (1, .istore_n 3, 1, (0, 0, 0), []),
  (2, .aload_n 0, 1, (0, 0, 0), []),
  (3, .invokevirtual 330, 3, (29, 0, 1), []),
  (6, .istore 4, 2, (0, 0, 0), []),
  (8, .iload 4, 2, (0, 0, 0), []),
  (10, .aload_n 0, 1, (0, 0, 0), []),
  (11, .invokevirtual 333, 3, (30, 0, 1), []),
  (14, .if_icmp .ge 32, 3, (46, 0, 0), []),
  (17, .aload_n 0, 1, (0, 0, 0), []),
  (18, .getfield 68, 3, (50, 19, 2), []),
  (21, .iload 4, 2, (0, 0, 0), []),
  (23, .iaload, 1, (0, 0, 0), []),
  (24, .iload_n 1, 1, (0, 0, 0), []),
  (25, .if_icmp .ne 13, 3, (38, 0, 0), []),
  (28, .aload_n 0, 1, (0, 0, 0), []),
  (29, .getfield 71, 3, (50, 20, 2), []),
  (32, .iload 4, 2, (0, 0, 0), []),
  (34, .iaload, 1, (0, 0, 0), []),
  (35, .goto 4, 3, (39, 0, 0), []),
  (38, .iload_n 3, 1, (0, 0, 0), []),
  (39, .istore_n 3, 1, (0, 0, 0), []),
  (40, .iinc 4 1, 3, (0, 0, 0), []),
  (43, .goto (-35), 3, (8, 0, 0), []),
  (46, .iload_n 3, 1, (0, 0, 0), []),
  (47, .ireturn, 1, (0, 0, 0), [])]
abbrev am_m31 : am_Mt := (⟨"BookedEmptyModel", "lastOf", "(II)I"⟩, prog_12_method_32_code, 5, (some .int), am_P31, 50, 10)
/-- BookedEmptyModel.hold()I -/
def am_P32 : List am_E := [(0, .aload_n 0, 1, (0, 0, 0), []),
  (1, .getfield 98, 3, (50, 29, 0), []),
  (4, .ifCond .lt 10, 3, (14, 0, 0), []),
  (7, .aload_n 0, 1, (0, 0, 0), []),
  (8, .getfield 98, 3, (50, 29, 0), []),
  (11, .goto 9, 3, (20, 0, 0), []),
  (14, .aload_n 0, 1, (0, 0, 0), []),
  (15, .iconst 2, 1, (0, 0, 0), []),
  (16, .iconst 2, 1, (0, 0, 0), []),
  (17, .invokevirtual 336, 3, (31, 2, 1), []),
  (20, .ireturn, 1, (0, 0, 0), [])]
abbrev am_m32 : am_Mt := (⟨"BookedEmptyModel", "hold", "()I"⟩, prog_12_method_33_code, 1, (some .int), am_P32, 50, 10)
/-- BookedEmptyModel.quarters()I -/
def am_P33 : List am_E := [(0, .aload_n 0, 1, (0, 0, 0), []),
  (1, .iconst 3, 1, (0, 0, 0), []),
  (2, .bipush 40, 2, (0, 0, 0), []),
  (4, .invokevirtual 336, 3, (31, 2, 1), []),
  (7, .istore_n 1, 1, (0, 0, 0), []),
  (8, .iload_n 1, 1, (0, 0, 0), []),
  (9, .iconst 1, 1, (0, 0, 0), []),
  (10, .if_icmp .ge 7, 3, (17, 0, 0), []),
  (13, .iconst 1, 1, (0, 0, 0), []),
  (14, .goto 15, 3, (29, 0, 0), []),
  (17, .iload_n 1, 1, (0, 0, 0), []),
  (18, .bipush 40, 2, (0, 0, 0), []),
  (20, .if_icmp .le 8, 3, (28, 0, 0), []),
  (23, .bipush 40, 2, (0, 0, 0), []),
  (25, .goto 4, 3, (29, 0, 0), []),
  (28, .iload_n 1, 1, (0, 0, 0), []),
  (29, .ireturn, 1, (0, 0, 0), [])]
abbrev am_m33 : am_Mt := (⟨"BookedEmptyModel", "quarters", "()I"⟩, prog_12_method_34_code, 2, (some .int), am_P33, 50, 10)
/-- BookedEmptyModel.factOf(III)I -/
def am_P34 : List am_E := [(0, .iload_n 1, 1, (0, 0, 0), []),
  (1, .tableswitch 60 0 4 #[35, 37, 39, 46, 53], 35, (61, 0, 0), [(0, 36), (1, 38), (2, 40), (3, 47), (4, 54)]),
  (36, .iload_n 2, 1, (0, 0, 0), []),
  (37, .ireturn, 1, (0, 0, 0), []),
  (38, .iload_n 3, 1, (0, 0, 0), []),
  (39, .ireturn, 1, (0, 0, 0), []),
  (40, .aload_n 0, 1, (0, 0, 0), []),
  (41, .getfield 26, 3, (50, 5, 2), []),
  (44, .iload_n 2, 1, (0, 0, 0), []),
  (45, .iaload, 1, (0, 0, 0), []),
  (46, .ireturn, 1, (0, 0, 0), []),
  (47, .aload_n 0, 1, (0, 0, 0), []),
  (48, .getfield 29, 3, (50, 6, 2), []),
  (51, .iload_n 2, 1, (0, 0, 0), []),
  (52, .iaload, 1, (0, 0, 0), []),
  (53, .ireturn, 1, (0, 0, 0), []),
  (54, .aload_n 0, 1, (0, 0, 0), []),
  (55, .getfield 38, 3, (50, 9, 2), []),
  (58, .iload_n 2, 1, (0, 0, 0), []),
  (59, .iaload, 1, (0, 0, 0), []),
  (60, .ireturn, 1, (0, 0, 0), []),
  (61, .aload_n 0, 1, (0, 0, 0), []),
  (62, .getfield 22, 3, (50, 4, 2), []),
  (65, .iload_n 3, 1, (0, 0, 0), []),
  (66, .iaload, 1, (0, 0, 0), []),
  (67, .ireturn, 1, (0, 0, 0), [])]
abbrev am_m34 : am_Mt := (⟨"BookedEmptyModel", "factOf", "(III)I"⟩, prog_12_method_35_code, 4, (some .int), am_P34, 50, 10)
/-- BookedEmptyModel.holds(III)Z -/
def am_P35 : List am_E := [(0, .iconst 0, 1, (0, 0, 0), []),
  (1, .istore 4, 2, (0, 0, 0), []),
  (3, .aload_n 0, 1, (0, 0, 0), []),
  (4, .getfield 74, 3, (50, 21, 2), []),
  (7, .iload_n 1, 1, (0, 0, 0), []),
  (8, .iaload, 1, (0, 0, 0), []),
  (9, .istore 5, 2, (0, 0, 0), []),
  (11, .iload 5, 2, (0, 0, 0), []),
  (13, .aload_n 0, 1, (0, 0, 0), []),
  (14, .getfield 77, 3, (50, 22, 2), []),
  (17, .iload_n 1, 1, (0, 0, 0), []),
  (18, .iaload, 1, (0, 0, 0), []),
  (19, .if_icmp .ge 234, 3, (253, 0, 0), []),
  (22, .aload_n 0, 1, (0, 0, 0), []),
  (23, .getfield 80, 3, (50, 23, 2), []),
  (26, .iload 5, 2, (0, 0, 0), []),
  (28, .iaload, 1, (0, 0, 0), []),
  (29, .istore 6, 2, (0, 0, 0), []),
  (31, .iload 6, 2, (0, 0, 0), []),
  (33, .bipush (-33), 2, (0, 0, 0), []),
  (35, .if_icmp .ne 32, 3, (67, 0, 0), []),
  (38, .aload_n 0, 1, (0, 0, 0), []),
  (39, .getfield 101, 3, (50, 30, 2), []),
  (42, .iload 4, 2, (0, 0, 0), []),
  (44, .iconst 1, 1, (0, 0, 0), []),
  (45, .isub, 1, (0, 0, 0), []),
  (46, .aload_n 0, 1, (0, 0, 0), []),
  (47, .getfield 101, 3, (50, 30, 2), []),
  (50, .iload 4, 2, (0, 0, 0), []),
  (52, .iconst 1, 1, (0, 0, 0), []),
  (53, .isub, 1, (0, 0, 0), []),
  (54, .baload, 1, (0, 0, 0), []),
  (55, .ifCond .ne 7, 3, (62, 0, 0), []),
  (58, .iconst 1, 1, (0, 0, 0), []),
  (59, .goto 4, 3, (63, 0, 0), []),
  (62, .iconst 0, 1, (0, 0, 0), []),
  (63, .bastore, 1, (0, 0, 0), []),
  (64, .goto 183, 3, (247, 0, 0), []),
  (67, .iload 6, 2, (0, 0, 0), []),
  (69, .ifCond .ge 82, 3, (151, 0, 0), []),
  (72, .iinc 4 (-1), 3, (0, 0, 0), []),
  (75, .aload_n 0, 1, (0, 0, 0), []),
  (76, .getfield 101, 3, (50, 30, 2), []),
  (79, .iload 4, 2, (0, 0, 0), []),
  (81, .iconst 1, 1, (0, 0, 0), []),
  (82, .isub, 1, (0, 0, 0), []),
  (83, .iload 6, 2, (0, 0, 0), []),
  (85, .bipush (-38), 2, (0, 0, 0), []),
  (87, .if_icmp .ne 33, 3, (120, 0, 0), []),
  (90, .aload_n 0, 1, (0, 0, 0), []),
  (91, .getfield 101, 3, (50, 30, 2), []),
  (94, .iload 4, 2, (0, 0, 0), []),
  (96, .iconst 1, 1, (0, 0, 0), []),
  (97, .isub, 1, (0, 0, 0), []),
  (98, .baload, 1, (0, 0, 0), []),
  (99, .ifCond .eq 17, 3, (116, 0, 0), []),
  (102, .aload_n 0, 1, (0, 0, 0), []),
  (103, .getfield 101, 3, (50, 30, 2), []),
  (106, .iload 4, 2, (0, 0, 0), []),
  (108, .baload, 1, (0, 0, 0), []),
  (109, .ifCond .eq 7, 3, (116, 0, 0), []),
  (112, .iconst 1, 1, (0, 0, 0), []),
  (113, .goto 34, 3, (147, 0, 0), []),
  (116, .iconst 0, 1, (0, 0, 0), []),
  (117, .goto 30, 3, (147, 0, 0), []),
  (120, .aload_n 0, 1, (0, 0, 0), []),
  (121, .getfield 101, 3, (50, 30, 2), []),
  (124, .iload 4, 2, (0, 0, 0), []),
  (126, .iconst 1, 1, (0, 0, 0), []),
  (127, .isub, 1, (0, 0, 0), []),
  (128, .baload, 1, (0, 0, 0), []),
  (129, .ifCond .ne 13, 3, (142, 0, 0), []),
  (132, .aload_n 0, 1, (0, 0, 0), []),
  (133, .getfield 101, 3, (50, 30, 2), []),
  (136, .iload 4, 2, (0, 0, 0), []),
  (138, .baload, 1, (0, 0, 0), []),
  (139, .ifCond .eq 7, 3, (146, 0, 0), []),
  (142, .iconst 1, 1, (0, 0, 0), []),
  (143, .goto 4, 3, (147, 0, 0), []),
  (146, .iconst 0, 1, (0, 0, 0), []),
  (147, .bastore, 1, (0, 0, 0), []),
  (148, .goto 99, 3, (247, 0, 0), []),
  (151, .aload_n 0, 1, (0, 0, 0), []),
  (152, .iload 6, 2, (0, 0, 0), []),
  (154, .sipush 1000, 3, (0, 0, 0), []),
  (157, .idiv, 1, (0, 0, 0), []),
  (158, .iload_n 2, 1, (0, 0, 0), []),
  (159, .iload_n 3, 1, (0, 0, 0), []),
  (160, .invokevirtual 340, 3, (34, 3, 1), []),
  (163, .istore 7, 2, (0, 0, 0), []),
  (165, .iload 6, 2, (0, 0, 0), []),
  (167, .bipush 100, 2, (0, 0, 0), []),
  (169, .idiv, 1, (0, 0, 0), []),
  (170, .bipush 10, 2, (0, 0, 0), []),
  (172, .irem, 1, (0, 0, 0), []),
  (173, .istore 8, 2, (0, 0, 0), []),
  (175, .aload_n 0, 1, (0, 0, 0), []),
  (176, .getfield 101, 3, (50, 30, 2), []),
  (179, .iload 4, 2, (0, 0, 0), []),
  (181, .iload 8, 2, (0, 0, 0), []),
  (183, .ifCond .ne 21, 3, (204, 0, 0), []),
  (186, .iload 7, 2, (0, 0, 0), []),
  (188, .iload 6, 2, (0, 0, 0), []),
  (190, .bipush 100, 2, (0, 0, 0), []),
  (192, .irem, 1, (0, 0, 0), []),
  (193, .if_icmp .ge 7, 3, (200, 0, 0), []),
  (196, .iconst 1, 1, (0, 0, 0), []),
  (197, .goto 46, 3, (243, 0, 0), []),
  (200, .iconst 0, 1, (0, 0, 0), []),
  (201, .goto 42, 3, (243, 0, 0), []),
  (204, .iload 8, 2, (0, 0, 0), []),
  (206, .iconst 1, 1, (0, 0, 0), []),
  (207, .if_icmp .ne 21, 3, (228, 0, 0), []),
  (210, .iload 7, 2, (0, 0, 0), []),
  (212, .iload 6, 2, (0, 0, 0), []),
  (214, .bipush 100, 2, (0, 0, 0), []),
  (216, .irem, 1, (0, 0, 0), []),
  (217, .if_icmp .ne 7, 3, (224, 0, 0), []),
  (220, .iconst 1, 1, (0, 0, 0), []),
  (221, .goto 22, 3, (243, 0, 0), []),
  (224, .iconst 0, 1, (0, 0, 0), []),
  (225, .goto 18, 3, (243, 0, 0), []),
  (228, .iload 7, 2, (0, 0, 0), []),
  (230, .iload 6, 2, (0, 0, 0), []),
  (232, .bipush 100, 2, (0, 0, 0), []),
  (234, .irem, 1, (0, 0, 0), []),
  (235, .if_icmp .le 7, 3, (242, 0, 0), []),
  (238, .iconst 1, 1, (0, 0, 0), []),
  (239, .goto 4, 3, (243, 0, 0), []),
  (242, .iconst 0, 1, (0, 0, 0), []),
  (243, .bastore, 1, (0, 0, 0), []),
  (244, .iinc 4 1, 3, (0, 0, 0), []),
  (247, .iinc 5 1, 3, (0, 0, 0), []),
  (250, .goto (-239), 3, (11, 0, 0), []),
  (253, .aload_n 0, 1, (0, 0, 0), []),
  (254, .getfield 101, 3, (50, 30, 2), []),
  (257, .iconst 0, 1, (0, 0, 0), []),
  (258, .baload, 1, (0, 0, 0), []),
  (259, .ireturn, 1, (1, 0, 0), [])]
abbrev am_m35 : am_Mt := (⟨"BookedEmptyModel", "holds", "(III)Z"⟩, prog_12_method_36_code, 9, (some .boolean), am_P35, 50, 10)
/-- BookedEmptyModel.worth(II)I -/
def am_P36 : List am_E := [(0, .bipush 10, 2, (0, 0, 0), []),
  (2, .istore_n 3, 1, (0, 0, 0), []),
  (3, .aload_n 0, 1, (0, 0, 0), []),
  (4, .invokevirtual 330, 3, (29, 0, 1), []),
  (7, .istore 4, 2, (0, 0, 0), []),
  (9, .iload 4, 2, (0, 0, 0), []),
  (11, .aload_n 0, 1, (0, 0, 0), []),
  (12, .invokevirtual 333, 3, (30, 0, 1), []),
  (15, .if_icmp .ge 65, 3, (80, 0, 0), []),
  (18, .aload_n 0, 1, (0, 0, 0), []),
  (19, .getfield 68, 3, (50, 19, 2), []),
  (22, .iload 4, 2, (0, 0, 0), []),
  (24, .iaload, 1, (0, 0, 0), []),
  (25, .iconst 1, 1, (0, 0, 0), []),
  (26, .if_icmp .gt 48, 3, (74, 0, 0), []),
  (29, .aload_n 0, 1, (0, 0, 0), []),
  (30, .iload 4, 2, (0, 0, 0), []),
  (32, .iload_n 1, 1, (0, 0, 0), []),
  (33, .iload_n 2, 1, (0, 0, 0), []),
  (34, .invokevirtual 344, 3, (35, 3, 1), []),
  (37, .ifCond .ne 6, 3, (43, 0, 0), []),
  (40, .goto 34, 3, (74, 0, 0), []),
  (43, .iload_n 3, 1, (0, 0, 0), []),
  (44, .aload_n 0, 1, (0, 0, 0), []),
  (45, .getfield 68, 3, (50, 19, 2), []),
  (48, .iload 4, 2, (0, 0, 0), []),
  (50, .iaload, 1, (0, 0, 0), []),
  (51, .ifCond .ne 13, 3, (64, 0, 0), []),
  (54, .aload_n 0, 1, (0, 0, 0), []),
  (55, .getfield 71, 3, (50, 20, 2), []),
  (58, .iload 4, 2, (0, 0, 0), []),
  (60, .iaload, 1, (0, 0, 0), []),
  (61, .goto 11, 3, (72, 0, 0), []),
  (64, .aload_n 0, 1, (0, 0, 0), []),
  (65, .getfield 71, 3, (50, 20, 2), []),
  (68, .iload 4, 2, (0, 0, 0), []),
  (70, .iaload, 1, (0, 0, 0), []),
  (71, .ineg, 1, (0, 0, 0), []),
  (72, .iadd, 1, (0, 0, 0), []),
  (73, .istore_n 3, 1, (0, 0, 0), []),
  (74, .iinc 4 1, 3, (0, 0, 0), []),
  (77, .goto (-68), 3, (9, 0, 0), []),
  (80, .iload_n 3, 1, (0, 0, 0), []),
  (81, .ifCond .ge 7, 3, (88, 0, 0), []),
  (84, .iconst 0, 1, (0, 0, 0), []),
  (85, .goto 4, 3, (89, 0, 0), []),
  (88, .iload_n 3, 1, (0, 0, 0), []),
  (89, .ireturn, 1, (0, 0, 0), [])]
abbrev am_m36 : am_Mt := (⟨"BookedEmptyModel", "worth", "(II)I"⟩, prog_12_method_37_code, 5, (some .int), am_P36, 50, 10)
/-- BookedEmptyModel.comes(I)I -/
def am_P37 : List am_E := [(0, .aload_n 0, 1, (0, 0, 0), []),
  (1, .getfield 26, 3, (50, 5, 2), []),
  (4, .iload_n 1, 1, (0, 0, 0), []),
  (5, .iaload, 1, (0, 0, 0), []),
  (6, .tableswitch 113 2 6 #[34, 37, 113, 53, 81], 34, (119, 0, 0), [(2, 40), (3, 43), (4, 119), (5, 59), (6, 87)]),
  (40, .bipush (-5), 2, (0, 0, 0), []),
  (42, .ireturn, 1, (0, 0, 0), []),
  (43, .aload_n 0, 1, (0, 0, 0), []),
  (44, .getfield 32, 3, (50, 7, 2), []),
  (47, .iload_n 1, 1, (0, 0, 0), []),
  (48, .iaload, 1, (0, 0, 0), []),
  (49, .aload_n 0, 1, (0, 0, 0), []),
  (50, .getfield 29, 3, (50, 6, 2), []),
  (53, .iload_n 1, 1, (0, 0, 0), []),
  (54, .iaload, 1, (0, 0, 0), []),
  (55, .iconst 3, 1, (0, 0, 0), []),
  (56, .idiv, 1, (0, 0, 0), []),
  (57, .iadd, 1, (0, 0, 0), []),
  (58, .ireturn, 1, (0, 0, 0), []),
  (59, .aload_n 0, 1, (0, 0, 0), []),
  (60, .getfield 19, 3, (50, 3, 0), []),
  (63, .aload_n 0, 1, (0, 0, 0), []),
  (64, .getfield 29, 3, (50, 6, 2), []),
  (67, .iload_n 1, 1, (0, 0, 0), []),
  (68, .iaload, 1, (0, 0, 0), []),
  (69, .iconst 2, 1, (0, 0, 0), []),
  (70, .iadd, 1, (0, 0, 0), []),
  (71, .irem, 1, (0, 0, 0), []),
  (72, .ifCond .ne 12, 3, (84, 0, 0), []),
  (75, .aload_n 0, 1, (0, 0, 0), []),
  (76, .getfield 32, 3, (50, 7, 2), []),
  (79, .iload_n 1, 1, (0, 0, 0), []),
  (80, .iaload, 1, (0, 0, 0), []),
  (81, .goto 5, 3, (86, 0, 0), []),
  (84, .bipush (-5), 2, (0, 0, 0), []),
  (86, .ireturn, 1, (0, 0, 0), []),
  (87, .aload_n 0, 1, (0, 0, 0), []),
  (88, .getfield 32, 3, (50, 7, 2), []),
  (91, .iload_n 1, 1, (0, 0, 0), []),
  (92, .iaload, 1, (0, 0, 0), []),
  (93, .aload_n 0, 1, (0, 0, 0), []),
  (94, .getfield 29, 3, (50, 6, 2), []),
  (97, .iload_n 1, 1, (0, 0, 0), []),
  (98, .iaload, 1, (0, 0, 0), []),
  (99, .iconst 3, 1, (0, 0, 0), []),
  (100, .idiv, 1, (0, 0, 0), []),
  (101, .iadd, 1, (0, 0, 0), []),
  (102, .aload_n 0, 1, (0, 0, 0), []),
  (103, .getfield 44, 3, (50, 11, 2), []),
  (106, .iconst 4, 1, (0, 0, 0), []),
  (107, .iload_n 1, 1, (0, 0, 0), []),
  (108, .imul, 1, (0, 0, 0), []),
  (109, .aload_n 0, 1, (0, 0, 0), []),
  (110, .getfield 19, 3, (50, 3, 0), []),
  (113, .iconst 4, 1, (0, 0, 0), []),
  (114, .irem, 1, (0, 0, 0), []),
  (115, .iadd, 1, (0, 0, 0), []),
  (116, .iaload, 1, (0, 0, 0), []),
  (117, .iadd, 1, (0, 0, 0), []),
  (118, .ireturn, 1, (0, 0, 0), []),
  (119, .aload_n 0, 1, (0, 0, 0), []),
  (120, .getfield 32, 3, (50, 7, 2), []),
  (123, .iload_n 1, 1, (0, 0, 0), []),
  (124, .iaload, 1, (0, 0, 0), []),
  (125, .ireturn, 1, (0, 0, 0), [])]
abbrev am_m37 : am_Mt := (⟨"BookedEmptyModel", "comes", "(I)I"⟩, prog_12_method_38_code, 2, (some .int), am_P37, 50, 10)
/-- BookedEmptyModel.goes(I)I -/
def am_P38 : List am_E := [(0, .aload_n 0, 1, (0, 0, 0), []),
  (1, .getfield 32, 3, (50, 7, 2), []),
  (4, .iload_n 1, 1, (0, 0, 0), []),
  (5, .iaload, 1, (0, 0, 0), []),
  (6, .aload_n 0, 1, (0, 0, 0), []),
  (7, .getfield 35, 3, (50, 8, 2), []),
  (10, .iload_n 1, 1, (0, 0, 0), []),
  (11, .iaload, 1, (0, 0, 0), []),
  (12, .iadd, 1, (0, 0, 0), []),
  (13, .aload_n 0, 1, (0, 0, 0), []),
  (14, .getfield 26, 3, (50, 5, 2), []),
  (17, .iload_n 1, 1, (0, 0, 0), []),
  (18, .iaload, 1, (0, 0, 0), []),
  (19, .iconst 4, 1, (0, 0, 0), []),
  (20, .if_icmp .ne 14, 3, (34, 0, 0), []),
  (23, .aload_n 0, 1, (0, 0, 0), []),
  (24, .getfield 29, 3, (50, 6, 2), []),
  (27, .iload_n 1, 1, (0, 0, 0), []),
  (28, .iaload, 1, (0, 0, 0), []),
  (29, .iconst 2, 1, (0, 0, 0), []),
  (30, .idiv, 1, (0, 0, 0), []),
  (31, .goto 4, 3, (35, 0, 0), []),
  (34, .iconst 0, 1, (0, 0, 0), []),
  (35, .iadd, 1, (0, 0, 0), []),
  (36, .ireturn, 1, (0, 0, 0), [])]
abbrev am_m38 : am_Mt := (⟨"BookedEmptyModel", "goes", "(I)I"⟩, prog_12_method_39_code, 2, (some .int), am_P38, 50, 10)
/-- BookedEmptyModel.bookedTill(I)I -/
def am_P39 : List am_E := [(0, .aload_n 0, 1, (0, 0, 0), []),
  (1, .aload_n 0, 1, (0, 0, 0), []),
  (2, .getfield 32, 3, (50, 7, 2), []),
  (5, .iload_n 1, 1, (0, 0, 0), []),
  (6, .iaload, 1, (0, 0, 0), []),
  (7, .aload_n 0, 1, (0, 0, 0), []),
  (8, .getfield 35, 3, (50, 8, 2), []),
  (11, .iload_n 1, 1, (0, 0, 0), []),
  (12, .iaload, 1, (0, 0, 0), []),
  (13, .iadd, 1, (0, 0, 0), []),
  (14, .aload_n 0, 1, (0, 0, 0), []),
  (15, .invokevirtual 347, 3, (33, 0, 1), []),
  (18, .invokevirtual 350, 3, (3, 2, 1), []),
  (21, .ireturn, 1, (0, 0, 0), [])]
abbrev am_m39 : am_Mt := (⟨"BookedEmptyModel", "bookedTill", "(I)I"⟩, prog_12_method_40_code, 2, (some .int), am_P39, 50, 10)
/-- BookedEmptyModel.heldTill(I)I -/
def am_P40 : List am_E := [(0, .aload_n 0, 1, (0, 0, 0), []),
  (1, .getfield 32, 3, (50, 7, 2), []),
  (4, .iload_n 1, 1, (0, 0, 0), []),
  (5, .iaload, 1, (0, 0, 0), []),
  (6, .aload_n 0, 1, (0, 0, 0), []),
  (7, .invokevirtual 353, 3, (32, 0, 1), []),
  (10, .iadd, 1, (0, 0, 0), []),
  (11, .istore_n 2, 1, (0, 0, 0), []),
  (12, .aload_n 0, 1, (0, 0, 0), []),
  (13, .iload_n 1, 1, (0, 0, 0), []),
  (14, .invokevirtual 356, 3, (37, 1, 1), []),
  (17, .ifCond .lt 12, 3, (29, 0, 0), []),
  (20, .aload_n 0, 1, (0, 0, 0), []),
  (21, .iload_n 1, 1, (0, 0, 0), []),
  (22, .invokevirtual 356, 3, (37, 1, 1), []),
  (25, .iload_n 2, 1, (0, 0, 0), []),
  (26, .if_icmp .le 16, 3, (42, 0, 0), []),
  (29, .aload_n 0, 1, (0, 0, 0), []),
  (30, .iload_n 2, 1, (0, 0, 0), []),
  (31, .aload_n 0, 1, (0, 0, 0), []),
  (32, .iload_n 1, 1, (0, 0, 0), []),
  (33, .invokevirtual 359, 3, (39, 1, 1), []),
  (36, .invokevirtual 350, 3, (3, 2, 1), []),
  (39, .goto 8, 3, (47, 0, 0), []),
  (42, .aload_n 0, 1, (0, 0, 0), []),
  (43, .iload_n 1, 1, (0, 0, 0), []),
  (44, .invokevirtual 359, 3, (39, 1, 1), []),
  (47, .ireturn, 1, (0, 0, 0), [])]
abbrev am_m40 : am_Mt := (⟨"BookedEmptyModel", "heldTill", "(I)I"⟩, prog_12_method_41_code, 3, (some .int), am_P40, 50, 10)
/-- BookedEmptyModel.isHeldFor(II)Z -/
def am_P41 : List am_E := [(0, .iload_n 2, 1, (0, 0, 0), []),
  (1, .aload_n 0, 1, (0, 0, 0), []),
  (2, .getfield 32, 3, (50, 7, 2), []),
  (5, .iload_n 1, 1, (0, 0, 0), []),
  (6, .iaload, 1, (0, 0, 0), []),
  (7, .if_icmp .lt 16, 3, (23, 0, 0), []),
  (10, .iload_n 2, 1, (0, 0, 0), []),
  (11, .aload_n 0, 1, (0, 0, 0), []),
  (12, .iload_n 1, 1, (0, 0, 0), []),
  (13, .invokevirtual 362, 3, (40, 1, 1), []),
  (16, .if_icmp .ge 7, 3, (23, 0, 0), []),
  (19, .iconst 1, 1, (0, 0, 0), []),
  (20, .goto 4, 3, (24, 0, 0), []),
  (23, .iconst 0, 1, (0, 0, 0), []),
  (24, .ireturn, 1, (1, 0, 0), [])]
abbrev am_m41 : am_Mt := (⟨"BookedEmptyModel", "isHeldFor", "(II)Z"⟩, prog_12_method_42_code, 3, (some .boolean), am_P41, 50, 10)
/-- BookedEmptyModel.isInside(II)Z -/
def am_P42 : List am_E := [(0, .aload_n 0, 1, (0, 0, 0), []),
  (1, .iload_n 1, 1, (0, 0, 0), []),
  (2, .invokevirtual 356, 3, (37, 1, 1), []),
  (5, .ifCond .lt 33, 3, (38, 0, 0), []),
  (8, .iload_n 2, 1, (0, 0, 0), []),
  (9, .aload_n 0, 1, (0, 0, 0), []),
  (10, .iload_n 1, 1, (0, 0, 0), []),
  (11, .invokevirtual 356, 3, (37, 1, 1), []),
  (14, .if_icmp .lt 24, 3, (38, 0, 0), []),
  (17, .iload_n 2, 1, (0, 0, 0), []),
  (18, .aload_n 0, 1, (0, 0, 0), []),
  (19, .aload_n 0, 1, (0, 0, 0), []),
  (20, .iload_n 1, 1, (0, 0, 0), []),
  (21, .invokevirtual 365, 3, (38, 1, 1), []),
  (24, .aload_n 0, 1, (0, 0, 0), []),
  (25, .invokevirtual 347, 3, (33, 0, 1), []),
  (28, .invokevirtual 350, 3, (3, 2, 1), []),
  (31, .if_icmp .ge 7, 3, (38, 0, 0), []),
  (34, .iconst 1, 1, (0, 0, 0), []),
  (35, .goto 4, 3, (39, 0, 0), []),
  (38, .iconst 0, 1, (0, 0, 0), []),
  (39, .ireturn, 1, (1, 0, 0), [])]
abbrev am_m42 : am_Mt := (⟨"BookedEmptyModel", "isInside", "(II)Z"⟩, prog_12_method_43_code, 3, (some .boolean), am_P42, 50, 10)
/-- BookedEmptyModel.insideSet(II)I -/
def am_P43 : List am_E := [(0, .iconst 0, 1, (0, 0, 0), []),
  (1, .istore_n 3, 1, (0, 0, 0), []),
  (2, .iconst 0, 1, (0, 0, 0), []),
  (3, .istore 4, 2, (0, 0, 0), []),
  (5, .iload 4, 2, (0, 0, 0), []),
  (7, .aload_n 0, 1, (0, 0, 0), []),
  (8, .getfield 16, 3, (50, 2, 0), []),
  (11, .if_icmp .ge 41, 3, (52, 0, 0), []),
  (14, .iload_n 3, 1, (0, 0, 0), []),
  (15, .aload_n 0, 1, (0, 0, 0), []),
  (16, .getfield 41, 3, (50, 10, 2), []),
  (19, .iload 4, 2, (0, 0, 0), []),
  (21, .iaload, 1, (0, 0, 0), []),
  (22, .iload_n 1, 1, (0, 0, 0), []),
  (23, .if_icmp .ne 20, 3, (43, 0, 0), []),
  (26, .aload_n 0, 1, (0, 0, 0), []),
  (27, .iload 4, 2, (0, 0, 0), []),
  (29, .iload_n 2, 1, (0, 0, 0), []),
  (30, .invokevirtual 368, 3, (42, 2, 1), []),
  (33, .ifCond .eq 10, 3, (43, 0, 0), []),
  (36, .iconst 1, 1, (0, 0, 0), []),
  (37, .iload 4, 2, (0, 0, 0), []),
  (39, .ishl, 1, (0, 0, 0), []),
  (40, .goto 4, 3, (44, 0, 0), []),
  (43, .iconst 0, 1, (0, 0, 0), []),
  (44, .ior, 1, (0, 0, 0), []),
  (45, .istore_n 3, 1, (0, 0, 0), []),
  (46, .iinc 4 1, 3, (0, 0, 0), []),
  (49, .goto (-44), 3, (5, 0, 0), []),
  (52, .iload_n 3, 1, (0, 0, 0), []),
  (53, .ireturn, 1, (0, 0, 0), [])]
abbrev am_m43 : am_Mt := (⟨"BookedEmptyModel", "insideSet", "(II)I"⟩, prog_12_method_44_code, 5, (some .int), am_P43, 50, 10)
/-- BookedEmptyModel.heldSet(II)I -/
def am_P44 : List am_E := [(0, .iconst 0, 1, (0, 0, 0), []),
  (1, .istore_n 3, 1, (0, 0, 0), []),
  (2, .iconst 0, 1, (0, 0, 0), []),
  (3, .istore 4, 2, (0, 0, 0), []),
  (5, .iload 4, 2, (0, 0, 0), []),
  (7, .aload_n 0, 1, (0, 0, 0), []),
  (8, .getfield 16, 3, (50, 2, 0), []),
  (11, .if_icmp .ge 41, 3, (52, 0, 0), []),
  (14, .iload_n 3, 1, (0, 0, 0), []),
  (15, .aload_n 0, 1, (0, 0, 0), []),
  (16, .getfield 41, 3, (50, 10, 2), []),
  (19, .iload 4, 2, (0, 0, 0), []),
  (21, .iaload, 1, (0, 0, 0), []),
  (22, .iload_n 1, 1, (0, 0, 0), []),
  (23, .if_icmp .ne 20, 3, (43, 0, 0), []),
  (26, .aload_n 0, 1, (0, 0, 0), []),
  (27, .iload 4, 2, (0, 0, 0), []),
  (29, .iload_n 2, 1, (0, 0, 0), []),
  (30, .invokevirtual 371, 3, (41, 2, 1), []),
  (33, .ifCond .eq 10, 3, (43, 0, 0), []),
  (36, .iconst 1, 1, (0, 0, 0), []),
  (37, .iload 4, 2, (0, 0, 0), []),
  (39, .ishl, 1, (0, 0, 0), []),
  (40, .goto 4, 3, (44, 0, 0), []),
  (43, .iconst 0, 1, (0, 0, 0), []),
  (44, .ior, 1, (0, 0, 0), []),
  (45, .istore_n 3, 1, (0, 0, 0), []),
  (46, .iinc 4 1, 3, (0, 0, 0), []),
  (49, .goto (-44), 3, (5, 0, 0), []),
  (52, .iload_n 3, 1, (0, 0, 0), []),
  (53, .ireturn, 1, (0, 0, 0), [])]
abbrev am_m44 : am_Mt := (⟨"BookedEmptyModel", "heldSet", "(II)I"⟩, prog_12_method_45_code, 5, (some .int), am_P44, 50, 10)
/-- BookedEmptyModel.inside(II)I -/
def am_P45 : List am_E := [(0, .aload_n 0, 1, (0, 0, 0), []),
  (1, .iload_n 1, 1, (0, 0, 0), []),
  (2, .invokevirtual 278, 3, (5, 1, 1), []),
  (5, .ifCond .eq 20, 3, (25, 0, 0), []),
  (8, .aload_n 0, 1, (0, 0, 0), []),
  (9, .iload_n 2, 1, (0, 0, 0), []),
  (10, .invokevirtual 275, 3, (7, 1, 1), []),
  (13, .ifCond .eq 12, 3, (25, 0, 0), []),
  (16, .aload_n 0, 1, (0, 0, 0), []),
  (17, .iload_n 1, 1, (0, 0, 0), []),
  (18, .iload_n 2, 1, (0, 0, 0), []),
  (19, .invokevirtual 374, 3, (43, 2, 1), []),
  (22, .goto 4, 3, (26, 0, 0), []),
  (25, .iconst (-1), 1, (0, 0, 0), []),
  (26, .ireturn, 1, (0, 0, 0), [])]
abbrev am_m45 : am_Mt := (⟨"BookedEmptyModel", "inside", "(II)I"⟩, prog_12_method_46_code, 3, (some .int), am_P45, 50, 10)
/-- BookedEmptyModel.held(II)I -/
def am_P46 : List am_E := [(0, .aload_n 0, 1, (0, 0, 0), []),
  (1, .iload_n 1, 1, (0, 0, 0), []),
  (2, .invokevirtual 278, 3, (5, 1, 1), []),
  (5, .ifCond .eq 20, 3, (25, 0, 0), []),
  (8, .aload_n 0, 1, (0, 0, 0), []),
  (9, .iload_n 2, 1, (0, 0, 0), []),
  (10, .invokevirtual 275, 3, (7, 1, 1), []),
  (13, .ifCond .eq 12, 3, (25, 0, 0), []),
  (16, .aload_n 0, 1, (0, 0, 0), []),
  (17, .iload_n 1, 1, (0, 0, 0), []),
  (18, .iload_n 2, 1, (0, 0, 0), []),
  (19, .invokevirtual 377, 3, (44, 2, 1), []),
  (22, .goto 4, 3, (26, 0, 0), []),
  (25, .iconst (-1), 1, (0, 0, 0), []),
  (26, .ireturn, 1, (0, 0, 0), [])]
abbrev am_m46 : am_Mt := (⟨"BookedEmptyModel", "held", "(II)I"⟩, prog_12_method_47_code, 3, (some .int), am_P46, 50, 10)
/-- BookedEmptyModel.unused(IZ)I -/
def am_P47 : List am_E := [(0, .iconst 0, 1, (0, 0, 0), []),
  (1, .istore_n 3, 1, (0, 0, 0), []),
  (2, .iconst 0, 1, (0, 0, 0), []),
  (3, .istore 4, 2, (0, 0, 0), []),
  (5, .iload 4, 2, (0, 0, 0), []),
  (7, .aload_n 0, 1, (0, 0, 0), []),
  (8, .invokevirtual 347, 3, (33, 0, 1), []),
  (11, .if_icmp .ge 46, 3, (57, 0, 0), []),
  (14, .iload_n 3, 1, (0, 0, 0), []),
  (15, .aload_n 0, 1, (0, 0, 0), []),
  (16, .iload_n 1, 1, (0, 0, 0), []),
  (17, .iload 4, 2, (0, 0, 0), []),
  (19, .invokevirtual 374, 3, (43, 2, 1), []),
  (22, .ifCond .ne 26, 3, (48, 0, 0), []),
  (25, .aload_n 0, 1, (0, 0, 0), []),
  (26, .iload_n 1, 1, (0, 0, 0), []),
  (27, .iload 4, 2, (0, 0, 0), []),
  (29, .invokevirtual 377, 3, (44, 2, 1), []),
  (32, .ifCond .eq 7, 3, (39, 0, 0), []),
  (35, .iconst 1, 1, (0, 0, 0), []),
  (36, .goto 4, 3, (40, 0, 0), []),
  (39, .iconst 0, 1, (0, 0, 0), []),
  (40, .iload_n 2, 1, (0, 0, 0), []),
  (41, .if_icmp .ne 7, 3, (48, 0, 0), []),
  (44, .iconst 1, 1, (0, 0, 0), []),
  (45, .goto 4, 3, (49, 0, 0), []),
  (48, .iconst 0, 1, (0, 0, 0), []),
  (49, .iadd, 1, (0, 0, 0), []),
  (50, .istore_n 3, 1, (0, 0, 0), []),
  (51, .iinc 4 1, 3, (0, 0, 0), []),
  (54, .goto (-49), 3, (5, 0, 0), []),
  (57, .iload_n 3, 1, (0, 0, 0), []),
  (58, .ireturn, 1, (0, 0, 0), [])]
abbrev am_m47 : am_Mt := (⟨"BookedEmptyModel", "unused", "(IZ)I"⟩, prog_12_method_48_code, 5, (some .int), am_P47, 50, 10)
/-- BookedEmptyModel.allUnused(Z)I -/
def am_P48 : List am_E := [(0, .iconst 0, 1, (0, 0, 0), []),
  (1, .istore_n 2, 1, (0, 0, 0), []),
  (2, .iconst 0, 1, (0, 0, 0), []),
  (3, .istore_n 3, 1, (0, 0, 0), []),
  (4, .iload_n 3, 1, (0, 0, 0), []),
  (5, .aload_n 0, 1, (0, 0, 0), []),
  (6, .getfield 7, 3, (50, 0, 0), []),
  (9, .if_icmp .ge 18, 3, (27, 0, 0), []),
  (12, .iload_n 2, 1, (0, 0, 0), []),
  (13, .aload_n 0, 1, (0, 0, 0), []),
  (14, .iload_n 3, 1, (0, 0, 0), []),
  (15, .iload_n 1, 1, (0, 0, 0), []),
  (16, .invokevirtual 380, 3, (47, 2, 1), []),
  (19, .iadd, 1, (0, 0, 0), []),
  (20, .istore_n 2, 1, (0, 0, 0), []),
  (21, .iinc 3 1, 3, (0, 0, 0), []),
  (24, .goto (-20), 3, (4, 0, 0), []),
  (27, .iload_n 2, 1, (0, 0, 0), []),
  (28, .ireturn, 1, (0, 0, 0), [])]
abbrev am_m48 : am_Mt := (⟨"BookedEmptyModel", "allUnused", "(Z)I"⟩, prog_12_method_49_code, 4, (some .int), am_P48, 50, 10)
/-- BookedEmptyModel.at(II)I -/
def am_P49 : List am_E := [(0, .aload_n 0, 1, (0, 0, 0), []),
  (1, .iload_n 1, 1, (0, 0, 0), []),
  (2, .invokevirtual 278, 3, (5, 1, 1), []),
  (5, .ifCond .ne 5, 3, (10, 0, 0), []),
  (8, .iconst (-1), 1, (0, 0, 0), []),
  (9, .ireturn, 1, (0, 0, 0), []),
  (10, .iload_n 2, 1, (0, 0, 0), []),
  (11, .tableswitch 68 0 3 #[29, 36, 54, 61], 29, (79, 0, 0), [(0, 40), (1, 47), (2, 65), (3, 72)]),
  (40, .aload_n 0, 1, (0, 0, 0), []),
  (41, .getfield 22, 3, (50, 4, 2), []),
  (44, .iload_n 1, 1, (0, 0, 0), []),
  (45, .iaload, 1, (0, 0, 0), []),
  (46, .ireturn, 1, (0, 0, 0), []),
  (47, .aload_n 0, 1, (0, 0, 0), []),
  (48, .aload_n 0, 1, (0, 0, 0), []),
  (49, .getfield 13, 3, (50, 1, 0), []),
  (52, .iload_n 1, 1, (0, 0, 0), []),
  (53, .invokevirtual 263, 3, (2, 2, 1), []),
  (56, .ifCond .eq 7, 3, (63, 0, 0), []),
  (59, .iconst 1, 1, (0, 0, 0), []),
  (60, .goto 4, 3, (64, 0, 0), []),
  (63, .iconst 0, 1, (0, 0, 0), []),
  (64, .ireturn, 1, (0, 0, 0), []),
  (65, .aload_n 0, 1, (0, 0, 0), []),
  (66, .iload_n 1, 1, (0, 0, 0), []),
  (67, .iconst 1, 1, (0, 0, 0), []),
  (68, .invokevirtual 380, 3, (47, 2, 1), []),
  (71, .ireturn, 1, (0, 0, 0), []),
  (72, .aload_n 0, 1, (0, 0, 0), []),
  (73, .iload_n 1, 1, (0, 0, 0), []),
  (74, .iconst 0, 1, (0, 0, 0), []),
  (75, .invokevirtual 380, 3, (47, 2, 1), []),
  (78, .ireturn, 1, (0, 0, 0), []),
  (79, .iconst (-1), 1, (0, 0, 0), []),
  (80, .ireturn, 1, (0, 0, 0), [])]
abbrev am_m49 : am_Mt := (⟨"BookedEmptyModel", "at", "(II)I"⟩, prog_12_method_50_code, 3, (some .int), am_P49, 50, 10)
/-- BookedEmptyModel.isQuiet(I)Z -/
def am_P50 : List am_E := [(0, .aload_n 0, 1, (0, 0, 0), []),
  (1, .getfield 26, 3, (50, 5, 2), []),
  (4, .iload_n 1, 1, (0, 0, 0), []),
  (5, .iaload, 1, (0, 0, 0), []),
  (6, .iconst 1, 1, (0, 0, 0), []),
  (7, .if_icmp .eq 13, 3, (20, 0, 0), []),
  (10, .aload_n 0, 1, (0, 0, 0), []),
  (11, .getfield 26, 3, (50, 5, 2), []),
  (14, .iload_n 1, 1, (0, 0, 0), []),
  (15, .iaload, 1, (0, 0, 0), []),
  (16, .iconst 4, 1, (0, 0, 0), []),
  (17, .if_icmp .ne 7, 3, (24, 0, 0), []),
  (20, .iconst 1, 1, (0, 0, 0), []),
  (21, .goto 4, 3, (25, 0, 0), []),
  (24, .iconst 0, 1, (0, 0, 0), []),
  (25, .ireturn, 1, (1, 0, 0), [])]
abbrev am_m50 : am_Mt := (⟨"BookedEmptyModel", "isQuiet", "(I)Z"⟩, prog_12_method_51_code, 2, (some .boolean), am_P50, 50, 10)
/-- BookedEmptyModel.fits(II)Z -/
def am_P51 : List am_E := [(0, .aload_n 0, 1, (0, 0, 0), []),
  (1, .getfield 22, 3, (50, 4, 2), []),
  (4, .iload_n 2, 1, (0, 0, 0), []),
  (5, .iaload, 1, (0, 0, 0), []),
  (6, .aload_n 0, 1, (0, 0, 0), []),
  (7, .getfield 38, 3, (50, 9, 2), []),
  (10, .iload_n 1, 1, (0, 0, 0), []),
  (11, .iaload, 1, (0, 0, 0), []),
  (12, .if_icmp .lt 27, 3, (39, 0, 0), []),
  (15, .aload_n 0, 1, (0, 0, 0), []),
  (16, .iload_n 1, 1, (0, 0, 0), []),
  (17, .invokevirtual 384, 3, (50, 1, 1), []),
  (20, .ifCond .eq 15, 3, (35, 0, 0), []),
  (23, .aload_n 0, 1, (0, 0, 0), []),
  (24, .aload_n 0, 1, (0, 0, 0), []),
  (25, .getfield 13, 3, (50, 1, 0), []),
  (28, .iload_n 2, 1, (0, 0, 0), []),
  (29, .invokevirtual 263, 3, (2, 2, 1), []),
  (32, .ifCond .ne 7, 3, (39, 0, 0), []),
  (35, .iconst 1, 1, (0, 0, 0), []),
  (36, .goto 4, 3, (40, 0, 0), []),
  (39, .iconst 0, 1, (0, 0, 0), []),
  (40, .ireturn, 1, (1, 0, 0), [])]
abbrev am_m51 : am_Mt := (⟨"BookedEmptyModel", "fits", "(II)Z"⟩, prog_12_method_52_code, 3, (some .boolean), am_P51, 50, 10)
/-- BookedEmptyModel.clash(II)Z -/
def am_P52 : List am_E := [(0, .aload_n 0, 1, (0, 0, 0), []),
  (1, .getfield 32, 3, (50, 7, 2), []),
  (4, .iload_n 1, 1, (0, 0, 0), []),
  (5, .iaload, 1, (0, 0, 0), []),
  (6, .aload_n 0, 1, (0, 0, 0), []),
  (7, .getfield 32, 3, (50, 7, 2), []),
  (10, .iload_n 2, 1, (0, 0, 0), []),
  (11, .iaload, 1, (0, 0, 0), []),
  (12, .if_icmp .le 12, 3, (24, 0, 0), []),
  (15, .aload_n 0, 1, (0, 0, 0), []),
  (16, .getfield 32, 3, (50, 7, 2), []),
  (19, .iload_n 1, 1, (0, 0, 0), []),
  (20, .iaload, 1, (0, 0, 0), []),
  (21, .goto 9, 3, (30, 0, 0), []),
  (24, .aload_n 0, 1, (0, 0, 0), []),
  (25, .getfield 32, 3, (50, 7, 2), []),
  (28, .iload_n 2, 1, (0, 0, 0), []),
  (29, .iaload, 1, (0, 0, 0), []),
  (30, .istore_n 3, 1, (0, 0, 0), []),
  (31, .iload_n 3, 1, (0, 0, 0), []),
  (32, .aload_n 0, 1, (0, 0, 0), []),
  (33, .aload_n 0, 1, (0, 0, 0), []),
  (34, .iload_n 1, 1, (0, 0, 0), []),
  (35, .invokevirtual 359, 3, (39, 1, 1), []),
  (38, .aload_n 0, 1, (0, 0, 0), []),
  (39, .iload_n 2, 1, (0, 0, 0), []),
  (40, .invokevirtual 359, 3, (39, 1, 1), []),
  (43, .invokevirtual 350, 3, (3, 2, 1), []),
  (46, .if_icmp .ge 7, 3, (53, 0, 0), []),
  (49, .iconst 1, 1, (0, 0, 0), []),
  (50, .goto 4, 3, (54, 0, 0), []),
  (53, .iconst 0, 1, (0, 0, 0), []),
  (54, .ireturn, 1, (1, 0, 0), [])]
abbrev am_m52 : am_Mt := (⟨"BookedEmptyModel", "clash", "(II)Z"⟩, prog_12_method_53_code, 4, (some .boolean), am_P52, 50, 10)
/-- BookedEmptyModel.of(II)I -/
def am_P53 : List am_E := [(0, .aload_n 0, 1, (0, 0, 0), []),
  (1, .iload_n 1, 1, (0, 0, 0), []),
  (2, .invokevirtual 281, 3, (6, 1, 1), []),
  (5, .ifCond .ne 7, 3, (12, 0, 0), []),
  (8, .sipush (-1001), 3, (0, 0, 0), []),
  (11, .ireturn, 1, (0, 0, 0), []),
  (12, .aload_n 0, 1, (0, 0, 0), []),
  (13, .iload_n 2, 1, (0, 0, 0), []),
  (14, .bipush 10, 2, (0, 0, 0), []),
  (16, .bipush 9, 2, (0, 0, 0), []),
  (18, .aload_n 0, 1, (0, 0, 0), []),
  (19, .getfield 7, 3, (50, 0, 0), []),
  (22, .iadd, 1, (0, 0, 0), []),
  (23, .invokevirtual 267, 3, (1, 3, 1), []),
  (26, .ifCond .eq 21, 3, (47, 0, 0), []),
  (29, .aload_n 0, 1, (0, 0, 0), []),
  (30, .iload_n 1, 1, (0, 0, 0), []),
  (31, .iload_n 2, 1, (0, 0, 0), []),
  (32, .bipush 10, 2, (0, 0, 0), []),
  (34, .isub, 1, (0, 0, 0), []),
  (35, .invokevirtual 387, 3, (51, 2, 1), []),
  (38, .ifCond .eq 7, 3, (45, 0, 0), []),
  (41, .iconst 1, 1, (0, 0, 0), []),
  (42, .goto 4, 3, (46, 0, 0), []),
  (45, .iconst 0, 1, (0, 0, 0), []),
  (46, .ireturn, 1, (0, 0, 0), []),
  (47, .aload_n 0, 1, (0, 0, 0), []),
  (48, .iload_n 2, 1, (0, 0, 0), []),
  (49, .bipush 20, 2, (0, 0, 0), []),
  (51, .bipush 19, 2, (0, 0, 0), []),
  (53, .aload_n 0, 1, (0, 0, 0), []),
  (54, .getfield 7, 3, (50, 0, 0), []),
  (57, .iadd, 1, (0, 0, 0), []),
  (58, .invokevirtual 267, 3, (1, 3, 1), []),
  (61, .ifCond .eq 13, 3, (74, 0, 0), []),
  (64, .aload_n 0, 1, (0, 0, 0), []),
  (65, .iload_n 1, 1, (0, 0, 0), []),
  (66, .iload_n 2, 1, (0, 0, 0), []),
  (67, .bipush 20, 2, (0, 0, 0), []),
  (69, .isub, 1, (0, 0, 0), []),
  (70, .invokevirtual 390, 3, (36, 2, 1), []),
  (73, .ireturn, 1, (0, 0, 0), []),
  (74, .iload_n 2, 1, (0, 0, 0), []),
  (75, .tableswitch 149 0 8 #[49, 56, 63, 70, 77, 84, 106, 112, 118], 49, (224, 0, 0), [(0, 124), (1, 131), (2, 138), (3, 145), (4, 152), (5, 159), (6, 181), (7, 187), (8, 193)]),
  (124, .aload_n 0, 1, (0, 0, 0), []),
  (125, .getfield 26, 3, (50, 5, 2), []),
  (128, .iload_n 1, 1, (0, 0, 0), []),
  (129, .iaload, 1, (0, 0, 0), []),
  (130, .ireturn, 1, (0, 0, 0), []),
  (131, .aload_n 0, 1, (0, 0, 0), []),
  (132, .getfield 29, 3, (50, 6, 2), []),
  (135, .iload_n 1, 1, (0, 0, 0), []),
  (136, .iaload, 1, (0, 0, 0), []),
  (137, .ireturn, 1, (0, 0, 0), []),
  (138, .aload_n 0, 1, (0, 0, 0), []),
  (139, .getfield 32, 3, (50, 7, 2), []),
  (142, .iload_n 1, 1, (0, 0, 0), []),
  (143, .iaload, 1, (0, 0, 0), []),
  (144, .ireturn, 1, (0, 0, 0), []),
  (145, .aload_n 0, 1, (0, 0, 0), []),
  (146, .getfield 35, 3, (50, 8, 2), []),
  (149, .iload_n 1, 1, (0, 0, 0), []),
  (150, .iaload, 1, (0, 0, 0), []),
  (151, .ireturn, 1, (0, 0, 0), []),
  (152, .aload_n 0, 1, (0, 0, 0), []),
  (153, .getfield 38, 3, (50, 9, 2), []),
  (156, .iload_n 1, 1, (0, 0, 0), []),
  (157, .iaload, 1, (0, 0, 0), []),
  (158, .ireturn, 1, (0, 0, 0), []),
  (159, .aload_n 0, 1, (0, 0, 0), []),
  (160, .getfield 41, 3, (50, 10, 2), []),
  (163, .iload_n 1, 1, (0, 0, 0), []),
  (164, .iaload, 1, (0, 0, 0), []),
  (165, .iconst 4, 1, (0, 0, 0), []),
  (166, .if_icmp .ne 8, 3, (174, 0, 0), []),
  (169, .bipush (-5), 2, (0, 0, 0), []),
  (171, .goto 9, 3, (180, 0, 0), []),
  (174, .aload_n 0, 1, (0, 0, 0), []),
  (175, .getfield 41, 3, (50, 10, 2), []),
  (178, .iload_n 1, 1, (0, 0, 0), []),
  (179, .iaload, 1, (0, 0, 0), []),
  (180, .ireturn, 1, (0, 0, 0), []),
  (181, .aload_n 0, 1, (0, 0, 0), []),
  (182, .iload_n 1, 1, (0, 0, 0), []),
  (183, .invokevirtual 356, 3, (37, 1, 1), []),
  (186, .ireturn, 1, (0, 0, 0), []),
  (187, .aload_n 0, 1, (0, 0, 0), []),
  (188, .iload_n 1, 1, (0, 0, 0), []),
  (189, .invokevirtual 365, 3, (38, 1, 1), []),
  (192, .ireturn, 1, (0, 0, 0), []),
  (193, .aload_n 0, 1, (0, 0, 0), []),
  (194, .iload_n 1, 1, (0, 0, 0), []),
  (195, .invokevirtual 362, 3, (40, 1, 1), []),
  (198, .aload_n 0, 1, (0, 0, 0), []),
  (199, .getfield 32, 3, (50, 7, 2), []),
  (202, .iload_n 1, 1, (0, 0, 0), []),
  (203, .iaload, 1, (0, 0, 0), []),
  (204, .if_icmp .le 18, 3, (222, 0, 0), []),
  (207, .aload_n 0, 1, (0, 0, 0), []),
  (208, .iload_n 1, 1, (0, 0, 0), []),
  (209, .invokevirtual 362, 3, (40, 1, 1), []),
  (212, .aload_n 0, 1, (0, 0, 0), []),
  (213, .getfield 32, 3, (50, 7, 2), []),
  (216, .iload_n 1, 1, (0, 0, 0), []),
  (217, .iaload, 1, (0, 0, 0), []),
  (218, .isub, 1, (0, 0, 0), []),
  (219, .goto 4, 3, (223, 0, 0), []),
  (222, .iconst 0, 1, (0, 0, 0), []),
  (223, .ireturn, 1, (0, 0, 0), []),
  (224, .sipush (-1001), 3, (0, 0, 0), []),
  (227, .ireturn, 1, (0, 0, 0), [])]
abbrev am_m53 : am_Mt := (⟨"BookedEmptyModel", "of", "(II)I"⟩, prog_12_method_54_code, 3, (some .int), am_P53, 50, 10)
/-- BookedEmptyModel.give(II)I -/
def am_P54 : List am_E := [(0, .aload_n 0, 1, (0, 0, 0), []),
  (1, .iload_n 1, 1, (0, 0, 0), []),
  (2, .invokevirtual 281, 3, (6, 1, 1), []),
  (5, .ifCond .eq 16, 3, (21, 0, 0), []),
  (8, .iload_n 2, 1, (0, 0, 0), []),
  (9, .iconst (-1), 1, (0, 0, 0), []),
  (10, .if_icmp .eq 13, 3, (23, 0, 0), []),
  (13, .aload_n 0, 1, (0, 0, 0), []),
  (14, .iload_n 2, 1, (0, 0, 0), []),
  (15, .invokevirtual 278, 3, (5, 1, 1), []),
  (18, .ifCond .ne 5, 3, (23, 0, 0), []),
  (21, .iconst (-1), 1, (0, 0, 0), []),
  (22, .ireturn, 1, (0, 0, 0), []),
  (23, .iload_n 2, 1, (0, 0, 0), []),
  (24, .ifCond .lt 15, 3, (39, 0, 0), []),
  (27, .aload_n 0, 1, (0, 0, 0), []),
  (28, .iload_n 1, 1, (0, 0, 0), []),
  (29, .iload_n 2, 1, (0, 0, 0), []),
  (30, .invokevirtual 387, 3, (51, 2, 1), []),
  (33, .ifCond .ne 6, 3, (39, 0, 0), []),
  (36, .bipush (-3), 2, (0, 0, 0), []),
  (38, .ireturn, 1, (0, 0, 0), []),
  (39, .iconst 0, 1, (0, 0, 0), []),
  (40, .istore_n 3, 1, (0, 0, 0), []),
  (41, .iload_n 3, 1, (0, 0, 0), []),
  (42, .aload_n 0, 1, (0, 0, 0), []),
  (43, .getfield 16, 3, (50, 2, 0), []),
  (46, .if_icmp .ge 40, 3, (86, 0, 0), []),
  (49, .iload_n 2, 1, (0, 0, 0), []),
  (50, .ifCond .lt 36, 3, (86, 0, 0), []),
  (53, .iload_n 3, 1, (0, 0, 0), []),
  (54, .iload_n 1, 1, (0, 0, 0), []),
  (55, .if_icmp .eq 25, 3, (80, 0, 0), []),
  (58, .aload_n 0, 1, (0, 0, 0), []),
  (59, .getfield 41, 3, (50, 10, 2), []),
  (62, .iload_n 3, 1, (0, 0, 0), []),
  (63, .iaload, 1, (0, 0, 0), []),
  (64, .iload_n 2, 1, (0, 0, 0), []),
  (65, .if_icmp .ne 15, 3, (80, 0, 0), []),
  (68, .aload_n 0, 1, (0, 0, 0), []),
  (69, .iload_n 3, 1, (0, 0, 0), []),
  (70, .iload_n 1, 1, (0, 0, 0), []),
  (71, .invokevirtual 393, 3, (52, 2, 1), []),
  (74, .ifCond .eq 6, 3, (80, 0, 0), []),
  (77, .bipush (-3), 2, (0, 0, 0), []),
  (79, .ireturn, 1, (0, 0, 0), []),
  (80, .iinc 3 1, 3, (0, 0, 0), []),
  (83, .goto (-42), 3, (41, 0, 0), []),
  (86, .aload_n 0, 1, (0, 0, 0), []),
  (87, .getfield 41, 3, (50, 10, 2), []),
  (90, .iload_n 1, 1, (0, 0, 0), []),
  (91, .iaload, 1, (0, 0, 0), []),
  (92, .istore_n 3, 1, (0, 0, 0), []),
  (93, .aload_n 0, 1, (0, 0, 0), []),
  (94, .getfield 41, 3, (50, 10, 2), []),
  (97, .iload_n 1, 1, (0, 0, 0), []),
  (98, .iload_n 2, 1, (0, 0, 0), []),
  (99, .ifCond .ge 7, 3, (106, 0, 0), []),
  (102, .iconst 4, 1, (0, 0, 0), []),
  (103, .goto 4, 3, (107, 0, 0), []),
  (106, .iload_n 2, 1, (0, 0, 0), []),
  (107, .iastore, 1, (0, 0, 0), []),
  (108, .iload_n 3, 1, (0, 0, 0), []),
  (109, .iconst 4, 1, (0, 0, 0), []),
  (110, .if_icmp .ne 8, 3, (118, 0, 0), []),
  (113, .bipush (-5), 2, (0, 0, 0), []),
  (115, .goto 4, 3, (119, 0, 0), []),
  (118, .iload_n 3, 1, (0, 0, 0), []),
  (119, .ireturn, 1, (0, 0, 0), [])]
abbrev am_m54 : am_Mt := (⟨"BookedEmptyModel", "give", "(II)I"⟩, prog_12_method_55_code, 4, (some .int), am_P54, 50, 10)
/-- BookedEmptyModel.told(I)I -/
def am_P55 : List am_E := [(0, .iconst 0, 1, (0, 0, 0), []),
  (1, .istore_n 2, 1, (0, 0, 0), []),
  (2, .iconst 0, 1, (0, 0, 0), []),
  (3, .istore_n 3, 1, (0, 0, 0), []),
  (4, .iconst 0, 1, (0, 0, 0), []),
  (5, .istore 4, 2, (0, 0, 0), []),
  (7, .iload 4, 2, (0, 0, 0), []),
  (9, .aload_n 0, 1, (0, 0, 0), []),
  (10, .getfield 16, 3, (50, 2, 0), []),
  (13, .if_icmp .ge 42, 3, (55, 0, 0), []),
  (16, .aload_n 0, 1, (0, 0, 0), []),
  (17, .getfield 41, 3, (50, 10, 2), []),
  (20, .iload 4, 2, (0, 0, 0), []),
  (22, .iaload, 1, (0, 0, 0), []),
  (23, .iconst 4, 1, (0, 0, 0), []),
  (24, .if_icmp .ne 6, 3, (30, 0, 0), []),
  (27, .goto 22, 3, (49, 0, 0), []),
  (30, .iinc 2 1, 3, (0, 0, 0), []),
  (33, .iload_n 3, 1, (0, 0, 0), []),
  (34, .aload_n 0, 1, (0, 0, 0), []),
  (35, .iload 4, 2, (0, 0, 0), []),
  (37, .aload_n 0, 1, (0, 0, 0), []),
  (38, .getfield 41, 3, (50, 10, 2), []),
  (41, .iload 4, 2, (0, 0, 0), []),
  (43, .iaload, 1, (0, 0, 0), []),
  (44, .invokevirtual 390, 3, (36, 2, 1), []),
  (47, .iadd, 1, (0, 0, 0), []),
  (48, .istore_n 3, 1, (0, 0, 0), []),
  (49, .iinc 4 1, 3, (0, 0, 0), []),
  (52, .goto (-45), 3, (7, 0, 0), []),
  (55, .iload_n 1, 1, (0, 0, 0), []),
  (56, .tableswitch 55 0 4 #[36, 41, 46, 51, 53], 36, (111, 0, 0), [(0, 92), (1, 97), (2, 102), (3, 107), (4, 109)]),
  (92, .aload_n 0, 1, (0, 0, 0), []),
  (93, .getfield 19, 3, (50, 3, 0), []),
  (96, .ireturn, 1, (0, 0, 0), []),
  (97, .aload_n 0, 1, (0, 0, 0), []),
  (98, .invokevirtual 353, 3, (32, 0, 1), []),
  (101, .ireturn, 1, (0, 0, 0), []),
  (102, .aload_n 0, 1, (0, 0, 0), []),
  (103, .invokevirtual 347, 3, (33, 0, 1), []),
  (106, .ireturn, 1, (0, 0, 0), []),
  (107, .iload_n 2, 1, (0, 0, 0), []),
  (108, .ireturn, 1, (0, 0, 0), []),
  (109, .iload_n 3, 1, (0, 0, 0), []),
  (110, .ireturn, 1, (0, 0, 0), []),
  (111, .iconst (-1), 1, (0, 0, 0), []),
  (112, .ireturn, 1, (0, 0, 0), [])]
abbrev am_m55 : am_Mt := (⟨"BookedEmptyModel", "told", "(I)I"⟩, prog_12_method_56_code, 5, (some .int), am_P55, 50, 10)
/-- BookedEmptyModel.pass(I)I -/
def am_P56 : List am_E := [(0, .aload_n 0, 1, (0, 0, 0), []),
  (1, .iload_n 1, 1, (0, 0, 0), []),
  (2, .iconst 0, 1, (0, 0, 0), []),
  (3, .bipush 60, 2, (0, 0, 0), []),
  (5, .invokevirtual 267, 3, (1, 3, 1), []),
  (8, .ifCond .ne 6, 3, (14, 0, 0), []),
  (11, .bipush (-2), 2, (0, 0, 0), []),
  (13, .ireturn, 1, (0, 0, 0), []),
  (14, .aload_n 0, 1, (0, 0, 0), []),
  (15, .getfield 19, 3, (50, 3, 0), []),
  (18, .iload_n 1, 1, (0, 0, 0), []),
  (19, .iadd, 1, (0, 0, 0), []),
  (20, .sipush 9999, 3, (0, 0, 0), []),
  (23, .if_icmp .le 6, 3, (29, 0, 0), []),
  (26, .bipush (-3), 2, (0, 0, 0), []),
  (28, .ireturn, 1, (0, 0, 0), []),
  (29, .aload_n 0, 1, (0, 0, 0), []),
  (30, .dup, 1, (0, 0, 0), []),
  (31, .getfield 19, 3, (50, 3, 0), []),
  (34, .iload_n 1, 1, (0, 0, 0), []),
  (35, .iadd, 1, (0, 0, 0), []),
  (36, .putfield 19, 3, (50, 3, 0), []),
  (39, .aload_n 0, 1, (0, 0, 0), []),
  (40, .getfield 19, 3, (50, 3, 0), []),
  (43, .ireturn, 1, (0, 0, 0), [])]
abbrev am_m56 : am_Mt := (⟨"BookedEmptyModel", "pass", "(I)I"⟩, prog_12_method_57_code, 2, (some .int), am_P56, 50, 10)
/-- BookedEmptyModel.wasteOf(I)I -/
def am_P57 : List am_E := [(0, .aload_n 0, 1, (0, 0, 0), []),
  (1, .getfield 19, 3, (50, 3, 0), []),
  (4, .istore_n 2, 1, (0, 0, 0), []),
  (5, .iconst 0, 1, (0, 0, 0), []),
  (6, .istore_n 3, 1, (0, 0, 0), []),
  (7, .iconst 0, 1, (0, 0, 0), []),
  (8, .istore 4, 2, (0, 0, 0), []),
  (10, .iload 4, 2, (0, 0, 0), []),
  (12, .iload_n 1, 1, (0, 0, 0), []),
  (13, .if_icmp .ge 27, 3, (40, 0, 0), []),
  (16, .iload_n 3, 1, (0, 0, 0), []),
  (17, .aload_n 0, 1, (0, 0, 0), []),
  (18, .iconst 1, 1, (0, 0, 0), []),
  (19, .invokevirtual 396, 3, (48, 1, 1), []),
  (22, .iadd, 1, (0, 0, 0), []),
  (23, .istore_n 3, 1, (0, 0, 0), []),
  (24, .aload_n 0, 1, (0, 0, 0), []),
  (25, .dup, 1, (0, 0, 0), []),
  (26, .getfield 19, 3, (50, 3, 0), []),
  (29, .iconst 1, 1, (0, 0, 0), []),
  (30, .iadd, 1, (0, 0, 0), []),
  (31, .putfield 19, 3, (50, 3, 0), []),
  (34, .iinc 4 1, 3, (0, 0, 0), []),
  (37, .goto (-27), 3, (10, 0, 0), []),
  (40, .aload_n 0, 1, (0, 0, 0), []),
  (41, .iload_n 2, 1, (0, 0, 0), []),
  (42, .putfield 19, 3, (50, 3, 0), []),
  (45, .iload_n 3, 1, (0, 0, 0), []),
  (46, .ireturn, 1, (0, 0, 0), [])]
abbrev am_m57 : am_Mt := (⟨"BookedEmptyModel", "wasteOf", "(I)I"⟩, prog_12_method_58_code, 5, (some .int), am_P57, 50, 10)
/-- BookedEmptyModel.waste(I)I -/
def am_P58 : List am_E := [(0, .aload_n 0, 1, (0, 0, 0), []),
  (1, .iload_n 1, 1, (0, 0, 0), []),
  (2, .iconst 0, 1, (0, 0, 0), []),
  (3, .bipush 30, 2, (0, 0, 0), []),
  (5, .invokevirtual 267, 3, (1, 3, 1), []),
  (8, .ifCond .eq 11, 3, (19, 0, 0), []),
  (11, .aload_n 0, 1, (0, 0, 0), []),
  (12, .iload_n 1, 1, (0, 0, 0), []),
  (13, .invokevirtual 400, 3, (57, 1, 1), []),
  (16, .goto 5, 3, (21, 0, 0), []),
  (19, .bipush (-2), 2, (0, 0, 0), []),
  (21, .ireturn, 1, (0, 0, 0), [])]
abbrev am_m58 : am_Mt := (⟨"BookedEmptyModel", "waste", "(I)I"⟩, prog_12_method_59_code, 2, (some .int), am_P58, 50, 10)
/-- BookedEmptyModel.on(II)I -/
def am_P59 : List am_E := [(0, .aload_n 0, 1, (0, 0, 0), []),
  (1, .iload_n 2, 1, (0, 0, 0), []),
  (2, .bipush 10, 2, (0, 0, 0), []),
  (4, .bipush 9, 2, (0, 0, 0), []),
  (6, .aload_n 0, 1, (0, 0, 0), []),
  (7, .getfield 16, 3, (50, 2, 0), []),
  (10, .iadd, 1, (0, 0, 0), []),
  (11, .invokevirtual 267, 3, (1, 3, 1), []),
  (14, .ifCond .ne 39, 3, (53, 0, 0), []),
  (17, .aload_n 0, 1, (0, 0, 0), []),
  (18, .iload_n 2, 1, (0, 0, 0), []),
  (19, .bipush 20, 2, (0, 0, 0), []),
  (21, .bipush 19, 2, (0, 0, 0), []),
  (23, .aload_n 0, 1, (0, 0, 0), []),
  (24, .getfield 7, 3, (50, 0, 0), []),
  (27, .iadd, 1, (0, 0, 0), []),
  (28, .invokevirtual 267, 3, (1, 3, 1), []),
  (31, .ifCond .ne 22, 3, (53, 0, 0), []),
  (34, .aload_n 0, 1, (0, 0, 0), []),
  (35, .iload_n 2, 1, (0, 0, 0), []),
  (36, .bipush 30, 2, (0, 0, 0), []),
  (38, .bipush 29, 2, (0, 0, 0), []),
  (40, .aload_n 0, 1, (0, 0, 0), []),
  (41, .getfield 7, 3, (50, 0, 0), []),
  (44, .iadd, 1, (0, 0, 0), []),
  (45, .invokevirtual 267, 3, (1, 3, 1), []),
  (48, .ifCond .ne 5, 3, (53, 0, 0), []),
  (51, .iconst (-1), 1, (0, 0, 0), []),
  (52, .ireturn, 1, (0, 0, 0), []),
  (53, .aload_n 0, 1, (0, 0, 0), []),
  (54, .iload_n 1, 1, (0, 0, 0), []),
  (55, .iconst 0, 1, (0, 0, 0), []),
  (56, .bipush 60, 2, (0, 0, 0), []),
  (58, .invokevirtual 267, 3, (1, 3, 1), []),
  (61, .ifCond .ne 6, 3, (67, 0, 0), []),
  (64, .bipush (-2), 2, (0, 0, 0), []),
  (66, .ireturn, 1, (0, 0, 0), []),
  (67, .aload_n 0, 1, (0, 0, 0), []),
  (68, .dup, 1, (0, 0, 0), []),
  (69, .getfield 19, 3, (50, 3, 0), []),
  (72, .iload_n 1, 1, (0, 0, 0), []),
  (73, .iadd, 1, (0, 0, 0), []),
  (74, .putfield 19, 3, (50, 3, 0), []),
  (77, .iload_n 2, 1, (0, 0, 0), []),
  (78, .bipush 20, 2, (0, 0, 0), []),
  (80, .if_icmp .ge 14, 3, (94, 0, 0), []),
  (83, .aload_n 0, 1, (0, 0, 0), []),
  (84, .iload_n 2, 1, (0, 0, 0), []),
  (85, .bipush 10, 2, (0, 0, 0), []),
  (87, .isub, 1, (0, 0, 0), []),
  (88, .invokevirtual 356, 3, (37, 1, 1), []),
  (91, .goto 35, 3, (126, 0, 0), []),
  (94, .aload_n 0, 1, (0, 0, 0), []),
  (95, .iload_n 2, 1, (0, 0, 0), []),
  (96, .bipush 30, 2, (0, 0, 0), []),
  (98, .if_icmp .ge 10, 3, (108, 0, 0), []),
  (101, .iload_n 2, 1, (0, 0, 0), []),
  (102, .bipush 20, 2, (0, 0, 0), []),
  (104, .isub, 1, (0, 0, 0), []),
  (105, .goto 7, 3, (112, 0, 0), []),
  (108, .iload_n 2, 1, (0, 0, 0), []),
  (109, .bipush 30, 2, (0, 0, 0), []),
  (111, .isub, 1, (0, 0, 0), []),
  (112, .iload_n 2, 1, (0, 0, 0), []),
  (113, .bipush 30, 2, (0, 0, 0), []),
  (115, .if_icmp .ge 7, 3, (122, 0, 0), []),
  (118, .iconst 1, 1, (0, 0, 0), []),
  (119, .goto 4, 3, (123, 0, 0), []),
  (122, .iconst 0, 1, (0, 0, 0), []),
  (123, .invokevirtual 380, 3, (47, 2, 1), []),
  (126, .istore_n 3, 1, (0, 0, 0), []),
  (127, .aload_n 0, 1, (0, 0, 0), []),
  (128, .dup, 1, (0, 0, 0), []),
  (129, .getfield 19, 3, (50, 3, 0), []),
  (132, .iload_n 1, 1, (0, 0, 0), []),
  (133, .isub, 1, (0, 0, 0), []),
  (134, .putfield 19, 3, (50, 3, 0), []),
  (137, .iload_n 3, 1, (0, 0, 0), []),
  (138, .ireturn, 1, (0, 0, 0), [])]
abbrev am_m59 : am_Mt := (⟨"BookedEmptyModel", "on", "(II)I"⟩, prog_12_method_60_code, 4, (some .int), am_P59, 50, 10)
/-- BookedEmptyModel.layFits()V -/
def am_P60 : List am_E := [(0, .iconst 0, 1, (0, 0, 0), []),
  (1, .istore_n 1, 1, (0, 0, 0), []),
  (2, .iload_n 1, 1, (0, 0, 0), []),
  (3, .aload_n 0, 1, (0, 0, 0), []),
  (4, .getfield 16, 3, (50, 2, 0), []),
  (7, .if_icmp .ge 152, 3, (159, 0, 0), []),
  (10, .iconst 0, 1, (0, 0, 0), []),
  (11, .istore_n 2, 1, (0, 0, 0), []),
  (12, .iload_n 2, 1, (0, 0, 0), []),
  (13, .aload_n 0, 1, (0, 0, 0), []),
  (14, .getfield 7, 3, (50, 0, 0), []),
  (17, .if_icmp .ge 41, 3, (58, 0, 0), []),
  (20, .aload_n 0, 1, (0, 0, 0), []),
  (21, .getfield 117, 3, (50, 35, 2), []),
  (24, .iconst 5, 1, (0, 0, 0), []),
  (25, .iload_n 1, 1, (0, 0, 0), []),
  (26, .imul, 1, (0, 0, 0), []),
  (27, .iload_n 2, 1, (0, 0, 0), []),
  (28, .iadd, 1, (0, 0, 0), []),
  (29, .aload_n 0, 1, (0, 0, 0), []),
  (30, .iload_n 1, 1, (0, 0, 0), []),
  (31, .iload_n 2, 1, (0, 0, 0), []),
  (32, .invokevirtual 387, 3, (51, 2, 1), []),
  (35, .bastore, 1, (0, 0, 0), []),
  (36, .aload_n 0, 1, (0, 0, 0), []),
  (37, .getfield 123, 3, (50, 37, 2), []),
  (40, .iconst 5, 1, (0, 0, 0), []),
  (41, .iload_n 1, 1, (0, 0, 0), []),
  (42, .imul, 1, (0, 0, 0), []),
  (43, .iload_n 2, 1, (0, 0, 0), []),
  (44, .iadd, 1, (0, 0, 0), []),
  (45, .aload_n 0, 1, (0, 0, 0), []),
  (46, .iload_n 1, 1, (0, 0, 0), []),
  (47, .iload_n 2, 1, (0, 0, 0), []),
  (48, .invokevirtual 390, 3, (36, 2, 1), []),
  (51, .iastore, 1, (0, 0, 0), []),
  (52, .iinc 2 1, 3, (0, 0, 0), []),
  (55, .goto (-43), 3, (12, 0, 0), []),
  (58, .aload_n 0, 1, (0, 0, 0), []),
  (59, .getfield 7, 3, (50, 0, 0), []),
  (62, .istore_n 2, 1, (0, 0, 0), []),
  (63, .iload_n 2, 1, (0, 0, 0), []),
  (64, .iconst 4, 1, (0, 0, 0), []),
  (65, .if_icmp .ge 20, 3, (85, 0, 0), []),
  (68, .aload_n 0, 1, (0, 0, 0), []),
  (69, .getfield 117, 3, (50, 35, 2), []),
  (72, .iconst 5, 1, (0, 0, 0), []),
  (73, .iload_n 1, 1, (0, 0, 0), []),
  (74, .imul, 1, (0, 0, 0), []),
  (75, .iload_n 2, 1, (0, 0, 0), []),
  (76, .iadd, 1, (0, 0, 0), []),
  (77, .iconst 0, 1, (0, 0, 0), []),
  (78, .bastore, 1, (0, 0, 0), []),
  (79, .iinc 2 1, 3, (0, 0, 0), []),
  (82, .goto (-19), 3, (63, 0, 0), []),
  (85, .aload_n 0, 1, (0, 0, 0), []),
  (86, .getfield 117, 3, (50, 35, 2), []),
  (89, .iconst 5, 1, (0, 0, 0), []),
  (90, .iload_n 1, 1, (0, 0, 0), []),
  (91, .imul, 1, (0, 0, 0), []),
  (92, .iconst 4, 1, (0, 0, 0), []),
  (93, .iadd, 1, (0, 0, 0), []),
  (94, .iconst 1, 1, (0, 0, 0), []),
  (95, .bastore, 1, (0, 0, 0), []),
  (96, .aload_n 0, 1, (0, 0, 0), []),
  (97, .getfield 123, 3, (50, 37, 2), []),
  (100, .iconst 5, 1, (0, 0, 0), []),
  (101, .iload_n 1, 1, (0, 0, 0), []),
  (102, .imul, 1, (0, 0, 0), []),
  (103, .iconst 4, 1, (0, 0, 0), []),
  (104, .iadd, 1, (0, 0, 0), []),
  (105, .iconst 0, 1, (0, 0, 0), []),
  (106, .iastore, 1, (0, 0, 0), []),
  (107, .iconst 0, 1, (0, 0, 0), []),
  (108, .istore_n 2, 1, (0, 0, 0), []),
  (109, .iload_n 2, 1, (0, 0, 0), []),
  (110, .aload_n 0, 1, (0, 0, 0), []),
  (111, .getfield 16, 3, (50, 2, 0), []),
  (114, .if_icmp .ge 39, 3, (153, 0, 0), []),
  (117, .aload_n 0, 1, (0, 0, 0), []),
  (118, .getfield 120, 3, (50, 36, 2), []),
  (121, .bipush 6, 2, (0, 0, 0), []),
  (123, .iload_n 1, 1, (0, 0, 0), []),
  (124, .imul, 1, (0, 0, 0), []),
  (125, .iload_n 2, 1, (0, 0, 0), []),
  (126, .iadd, 1, (0, 0, 0), []),
  (127, .iload_n 2, 1, (0, 0, 0), []),
  (128, .iload_n 1, 1, (0, 0, 0), []),
  (129, .if_icmp .eq 16, 3, (145, 0, 0), []),
  (132, .aload_n 0, 1, (0, 0, 0), []),
  (133, .iload_n 1, 1, (0, 0, 0), []),
  (134, .iload_n 2, 1, (0, 0, 0), []),
  (135, .invokevirtual 393, 3, (52, 2, 1), []),
  (138, .ifCond .eq 7, 3, (145, 0, 0), []),
  (141, .iconst 1, 1, (0, 0, 0), []),
  (142, .goto 4, 3, (146, 0, 0), []),
  (145, .iconst 0, 1, (0, 0, 0), []),
  (146, .bastore, 1, (0, 0, 0), []),
  (147, .iinc 2 1, 3, (0, 0, 0), []),
  (150, .goto (-41), 3, (109, 0, 0), []),
  (153, .iinc 1 1, 3, (0, 0, 0), []),
  (156, .goto (-154), 3, (2, 0, 0), []),
  (159, .return_, 1, (0, 0, 0), [])]
abbrev am_m60 : am_Mt := (⟨"BookedEmptyModel", "layFits", "()V"⟩, prog_12_method_61_code, 3, none, am_P60, 50, 10)
/-- BookedEmptyModel.layWay(I)Z -/
def am_P61 : List am_E := [(0, .iload_n 1, 1, (0, 0, 0), []),
  (1, .istore_n 2, 1, (0, 0, 0), []),
  (2, .aload_n 0, 1, (0, 0, 0), []),
  (3, .getfield 16, 3, (50, 2, 0), []),
  (6, .iconst 1, 1, (0, 0, 0), []),
  (7, .isub, 1, (0, 0, 0), []),
  (8, .istore_n 3, 1, (0, 0, 0), []),
  (9, .iload_n 3, 1, (0, 0, 0), []),
  (10, .ifCond .lt 108, 3, (118, 0, 0), []),
  (13, .aload_n 0, 1, (0, 0, 0), []),
  (14, .getfield 105, 3, (50, 31, 2), []),
  (17, .iload_n 3, 1, (0, 0, 0), []),
  (18, .iload_n 2, 1, (0, 0, 0), []),
  (19, .iconst 5, 1, (0, 0, 0), []),
  (20, .irem, 1, (0, 0, 0), []),
  (21, .iastore, 1, (0, 0, 0), []),
  (22, .iload_n 2, 1, (0, 0, 0), []),
  (23, .iconst 5, 1, (0, 0, 0), []),
  (24, .idiv, 1, (0, 0, 0), []),
  (25, .istore_n 2, 1, (0, 0, 0), []),
  (26, .aload_n 0, 1, (0, 0, 0), []),
  (27, .getfield 117, 3, (50, 35, 2), []),
  (30, .iconst 5, 1, (0, 0, 0), []),
  (31, .iload_n 3, 1, (0, 0, 0), []),
  (32, .imul, 1, (0, 0, 0), []),
  (33, .aload_n 0, 1, (0, 0, 0), []),
  (34, .getfield 105, 3, (50, 31, 2), []),
  (37, .iload_n 3, 1, (0, 0, 0), []),
  (38, .iaload, 1, (0, 0, 0), []),
  (39, .iadd, 1, (0, 0, 0), []),
  (40, .baload, 1, (0, 0, 0), []),
  (41, .ifCond .ne 5, 3, (46, 0, 0), []),
  (44, .iconst 0, 1, (0, 0, 0), []),
  (45, .ireturn, 1, (1, 0, 0), []),
  (46, .aload_n 0, 1, (0, 0, 0), []),
  (47, .getfield 105, 3, (50, 31, 2), []),
  (50, .iload_n 3, 1, (0, 0, 0), []),
  (51, .iaload, 1, (0, 0, 0), []),
  (52, .iconst 4, 1, (0, 0, 0), []),
  (53, .if_icmp .ne 6, 3, (59, 0, 0), []),
  (56, .goto 56, 3, (112, 0, 0), []),
  (59, .iload_n 3, 1, (0, 0, 0), []),
  (60, .iconst 1, 1, (0, 0, 0), []),
  (61, .iadd, 1, (0, 0, 0), []),
  (62, .istore 4, 2, (0, 0, 0), []),
  (64, .iload 4, 2, (0, 0, 0), []),
  (66, .aload_n 0, 1, (0, 0, 0), []),
  (67, .getfield 16, 3, (50, 2, 0), []),
  (70, .if_icmp .ge 42, 3, (112, 0, 0), []),
  (73, .aload_n 0, 1, (0, 0, 0), []),
  (74, .getfield 105, 3, (50, 31, 2), []),
  (77, .iload 4, 2, (0, 0, 0), []),
  (79, .iaload, 1, (0, 0, 0), []),
  (80, .aload_n 0, 1, (0, 0, 0), []),
  (81, .getfield 105, 3, (50, 31, 2), []),
  (84, .iload_n 3, 1, (0, 0, 0), []),
  (85, .iaload, 1, (0, 0, 0), []),
  (86, .if_icmp .ne 20, 3, (106, 0, 0), []),
  (89, .aload_n 0, 1, (0, 0, 0), []),
  (90, .getfield 120, 3, (50, 36, 2), []),
  (93, .bipush 6, 2, (0, 0, 0), []),
  (95, .iload_n 3, 1, (0, 0, 0), []),
  (96, .imul, 1, (0, 0, 0), []),
  (97, .iload 4, 2, (0, 0, 0), []),
  (99, .iadd, 1, (0, 0, 0), []),
  (100, .baload, 1, (0, 0, 0), []),
  (101, .ifCond .eq 5, 3, (106, 0, 0), []),
  (104, .iconst 0, 1, (0, 0, 0), []),
  (105, .ireturn, 1, (1, 0, 0), []),
  (106, .iinc 4 1, 3, (0, 0, 0), []),
  (109, .goto (-45), 3, (64, 0, 0), []),
  (112, .iinc 3 (-1), 3, (0, 0, 0), []),
  (115, .goto (-106), 3, (9, 0, 0), []),
  (118, .iconst 1, 1, (0, 0, 0), []),
  (119, .ireturn, 1, (1, 0, 0), [])]
abbrev am_m61 : am_Mt := (⟨"BookedEmptyModel", "layWay", "(I)Z"⟩, prog_12_method_62_code, 5, (some .boolean), am_P61, 50, 10)
/-- BookedEmptyModel.layBest(Z)V -/
def am_P62 : List am_E := [(0, .aload_n 0, 1, (0, 0, 0), []),
  (1, .invokevirtual 403, 3, (60, 0, 0), []),
  (4, .iconst 1, 1, (0, 0, 0), []),
  (5, .istore_n 2, 1, (0, 0, 0), []),
  (6, .iconst 0, 1, (0, 0, 0), []),
  (7, .istore_n 3, 1, (0, 0, 0), []),
  (8, .iload_n 3, 1, (0, 0, 0), []),
  (9, .aload_n 0, 1, (0, 0, 0), []),
  (10, .getfield 16, 3, (50, 2, 0), []),
  (13, .if_icmp .ge 13, 3, (26, 0, 0), []),
  (16, .iload_n 2, 1, (0, 0, 0), []),
  (17, .iconst 5, 1, (0, 0, 0), []),
  (18, .imul, 1, (0, 0, 0), []),
  (19, .istore_n 2, 1, (0, 0, 0), []),
  (20, .iinc 3 1, 3, (0, 0, 0), []),
  (23, .goto (-15), 3, (8, 0, 0), []),
  (26, .aload_n 0, 1, (0, 0, 0), []),
  (27, .iconst (-1), 1, (0, 0, 0), []),
  (28, .putfield 111, 3, (50, 33, 0), []),
  (31, .aload_n 0, 1, (0, 0, 0), []),
  (32, .iconst (-1), 1, (0, 0, 0), []),
  (33, .putfield 114, 3, (50, 34, 0), []),
  (36, .iconst 0, 1, (0, 0, 0), []),
  (37, .istore_n 3, 1, (0, 0, 0), []),
  (38, .iload_n 3, 1, (0, 0, 0), []),
  (39, .iload_n 2, 1, (0, 0, 0), []),
  (40, .if_icmp .ge 167, 3, (207, 0, 0), []),
  (43, .aload_n 0, 1, (0, 0, 0), []),
  (44, .iload_n 3, 1, (0, 0, 0), []),
  (45, .invokevirtual 406, 3, (61, 1, 1), []),
  (48, .ifCond .ne 6, 3, (54, 0, 0), []),
  (51, .goto 150, 3, (201, 0, 0), []),
  (54, .iconst 0, 1, (0, 0, 0), []),
  (55, .istore 4, 2, (0, 0, 0), []),
  (57, .iconst 0, 1, (0, 0, 0), []),
  (58, .istore 5, 2, (0, 0, 0), []),
  (60, .iconst 0, 1, (0, 0, 0), []),
  (61, .istore 6, 2, (0, 0, 0), []),
  (63, .iload 6, 2, (0, 0, 0), []),
  (65, .aload_n 0, 1, (0, 0, 0), []),
  (66, .getfield 16, 3, (50, 2, 0), []),
  (69, .if_icmp .ge 52, 3, (121, 0, 0), []),
  (72, .iload 4, 2, (0, 0, 0), []),
  (74, .aload_n 0, 1, (0, 0, 0), []),
  (75, .getfield 105, 3, (50, 31, 2), []),
  (78, .iload 6, 2, (0, 0, 0), []),
  (80, .iaload, 1, (0, 0, 0), []),
  (81, .iconst 4, 1, (0, 0, 0), []),
  (82, .if_icmp .ge 7, 3, (89, 0, 0), []),
  (85, .iconst 1, 1, (0, 0, 0), []),
  (86, .goto 4, 3, (90, 0, 0), []),
  (89, .iconst 0, 1, (0, 0, 0), []),
  (90, .iadd, 1, (0, 0, 0), []),
  (91, .istore 4, 2, (0, 0, 0), []),
  (93, .iload 5, 2, (0, 0, 0), []),
  (95, .aload_n 0, 1, (0, 0, 0), []),
  (96, .getfield 123, 3, (50, 37, 2), []),
  (99, .iconst 5, 1, (0, 0, 0), []),
  (100, .iload 6, 2, (0, 0, 0), []),
  (102, .imul, 1, (0, 0, 0), []),
  (103, .aload_n 0, 1, (0, 0, 0), []),
  (104, .getfield 105, 3, (50, 31, 2), []),
  (107, .iload 6, 2, (0, 0, 0), []),
  (109, .iaload, 1, (0, 0, 0), []),
  (110, .iadd, 1, (0, 0, 0), []),
  (111, .iaload, 1, (0, 0, 0), []),
  (112, .iadd, 1, (0, 0, 0), []),
  (113, .istore 5, 2, (0, 0, 0), []),
  (115, .iinc 6 1, 3, (0, 0, 0), []),
  (118, .goto (-55), 3, (63, 0, 0), []),
  (121, .iload_n 1, 1, (0, 0, 0), []),
  (122, .ifCond .eq 12, 3, (134, 0, 0), []),
  (125, .iload 4, 2, (0, 0, 0), []),
  (127, .aload_n 0, 1, (0, 0, 0), []),
  (128, .getfield 111, 3, (50, 33, 0), []),
  (131, .if_icmp .lt 70, 3, (201, 0, 0), []),
  (134, .iload_n 1, 1, (0, 0, 0), []),
  (135, .ifCond .eq 12, 3, (147, 0, 0), []),
  (138, .iload 4, 2, (0, 0, 0), []),
  (140, .aload_n 0, 1, (0, 0, 0), []),
  (141, .getfield 111, 3, (50, 33, 0), []),
  (144, .if_icmp .ne 15, 3, (159, 0, 0), []),
  (147, .iload 5, 2, (0, 0, 0), []),
  (149, .aload_n 0, 1, (0, 0, 0), []),
  (150, .getfield 114, 3, (50, 34, 0), []),
  (153, .if_icmp .gt 6, 3, (159, 0, 0), []),
  (156, .goto 45, 3, (201, 0, 0), []),
  (159, .aload_n 0, 1, (0, 0, 0), []),
  (160, .iload 4, 2, (0, 0, 0), []),
  (162, .putfield 111, 3, (50, 33, 0), []),
  (165, .aload_n 0, 1, (0, 0, 0), []),
  (166, .iload 5, 2, (0, 0, 0), []),
  (168, .putfield 114, 3, (50, 34, 0), []),
  (171, .iconst 0, 1, (0, 0, 0), []),
  (172, .istore 6, 2, (0, 0, 0), []),
  (174, .iload 6, 2, (0, 0, 0), []),
  (176, .bipush 6, 2, (0, 0, 0), []),
  (178, .if_icmp .ge 23, 3, (201, 0, 0), []),
  (181, .aload_n 0, 1, (0, 0, 0), []),
  (182, .getfield 108, 3, (50, 32, 2), []),
  (185, .iload 6, 2, (0, 0, 0), []),
  (187, .aload_n 0, 1, (0, 0, 0), []),
  (188, .getfield 105, 3, (50, 31, 2), []),
  (191, .iload 6, 2, (0, 0, 0), []),
  (193, .iaload, 1, (0, 0, 0), []),
  (194, .iastore, 1, (0, 0, 0), []),
  (195, .iinc 6 1, 3, (0, 0, 0), []),
  (198, .goto (-24), 3, (174, 0, 0), []),
  (201, .iinc 3 1, 3, (0, 0, 0), []),
  (204, .goto (-166), 3, (38, 0, 0), []),
  (207, .return_, 1, (0, 0, 0), [])]
abbrev am_m62 : am_Mt := (⟨"BookedEmptyModel", "layBest", "(Z)V"⟩, prog_12_method_63_code, 7, none, am_P62, 50, 10)
/-- BookedEmptyModel.bestOf(I)I -/
def am_P63 : List am_E := [(0, .aload_n 0, 1, (0, 0, 0), []),
  (1, .getfield 108, 3, (50, 32, 2), []),
  (4, .iload_n 1, 1, (0, 0, 0), []),
  (5, .iaload, 1, (0, 0, 0), []),
  (6, .iconst 4, 1, (0, 0, 0), []),
  (7, .if_icmp .ne 8, 3, (15, 0, 0), []),
  (10, .bipush (-5), 2, (0, 0, 0), []),
  (12, .goto 9, 3, (21, 0, 0), []),
  (15, .aload_n 0, 1, (0, 0, 0), []),
  (16, .getfield 108, 3, (50, 32, 2), []),
  (19, .iload_n 1, 1, (0, 0, 0), []),
  (20, .iaload, 1, (0, 0, 0), []),
  (21, .ireturn, 1, (0, 0, 0), [])]
abbrev am_m63 : am_Mt := (⟨"BookedEmptyModel", "bestOf", "(I)I"⟩, prog_12_method_64_code, 2, (some .int), am_P63, 50, 10)
/-- BookedEmptyModel.most(I)I -/
def am_P64 : List am_E := [(0, .aload_n 0, 1, (0, 0, 0), []),
  (1, .iload_n 1, 1, (0, 0, 0), []),
  (2, .iconst 0, 1, (0, 0, 0), []),
  (3, .iconst 1, 1, (0, 0, 0), []),
  (4, .invokevirtual 267, 3, (1, 3, 1), []),
  (7, .ifCond .ne 22, 3, (29, 0, 0), []),
  (10, .aload_n 0, 1, (0, 0, 0), []),
  (11, .iload_n 1, 1, (0, 0, 0), []),
  (12, .bipush 10, 2, (0, 0, 0), []),
  (14, .bipush 9, 2, (0, 0, 0), []),
  (16, .aload_n 0, 1, (0, 0, 0), []),
  (17, .getfield 16, 3, (50, 2, 0), []),
  (20, .iadd, 1, (0, 0, 0), []),
  (21, .invokevirtual 267, 3, (1, 3, 1), []),
  (24, .ifCond .ne 5, 3, (29, 0, 0), []),
  (27, .iconst (-1), 1, (0, 0, 0), []),
  (28, .ireturn, 1, (0, 0, 0), []),
  (29, .aload_n 0, 1, (0, 0, 0), []),
  (30, .iconst 1, 1, (0, 0, 0), []),
  (31, .invokevirtual 409, 3, (62, 1, 0), []),
  (34, .iload_n 1, 1, (0, 0, 0), []),
  (35, .ifCond .ne 10, 3, (45, 0, 0), []),
  (38, .aload_n 0, 1, (0, 0, 0), []),
  (39, .getfield 111, 3, (50, 33, 0), []),
  (42, .goto 23, 3, (65, 0, 0), []),
  (45, .iload_n 1, 1, (0, 0, 0), []),
  (46, .iconst 1, 1, (0, 0, 0), []),
  (47, .if_icmp .ne 10, 3, (57, 0, 0), []),
  (50, .aload_n 0, 1, (0, 0, 0), []),
  (51, .getfield 114, 3, (50, 34, 0), []),
  (54, .goto 11, 3, (65, 0, 0), []),
  (57, .aload_n 0, 1, (0, 0, 0), []),
  (58, .iload_n 1, 1, (0, 0, 0), []),
  (59, .bipush 10, 2, (0, 0, 0), []),
  (61, .isub, 1, (0, 0, 0), []),
  (62, .invokevirtual 413, 3, (63, 1, 1), []),
  (65, .ireturn, 1, (0, 0, 0), [])]
abbrev am_m64 : am_Mt := (⟨"BookedEmptyModel", "most", "(I)I"⟩, prog_12_method_65_code, 2, (some .int), am_P64, 50, 10)
/-- BookedEmptyModel.dearest(I)I -/
def am_P65 : List am_E := [(0, .iload_n 1, 1, (0, 0, 0), []),
  (1, .ifCond .eq 22, 3, (23, 0, 0), []),
  (4, .aload_n 0, 1, (0, 0, 0), []),
  (5, .iload_n 1, 1, (0, 0, 0), []),
  (6, .bipush 10, 2, (0, 0, 0), []),
  (8, .bipush 9, 2, (0, 0, 0), []),
  (10, .aload_n 0, 1, (0, 0, 0), []),
  (11, .getfield 16, 3, (50, 2, 0), []),
  (14, .iadd, 1, (0, 0, 0), []),
  (15, .invokevirtual 267, 3, (1, 3, 1), []),
  (18, .ifCond .ne 5, 3, (23, 0, 0), []),
  (21, .iconst (-1), 1, (0, 0, 0), []),
  (22, .ireturn, 1, (0, 0, 0), []),
  (23, .aload_n 0, 1, (0, 0, 0), []),
  (24, .iconst 0, 1, (0, 0, 0), []),
  (25, .invokevirtual 409, 3, (62, 1, 0), []),
  (28, .iload_n 1, 1, (0, 0, 0), []),
  (29, .ifCond .ne 10, 3, (39, 0, 0), []),
  (32, .aload_n 0, 1, (0, 0, 0), []),
  (33, .getfield 114, 3, (50, 34, 0), []),
  (36, .goto 11, 3, (47, 0, 0), []),
  (39, .aload_n 0, 1, (0, 0, 0), []),
  (40, .iload_n 1, 1, (0, 0, 0), []),
  (41, .bipush 10, 2, (0, 0, 0), []),
  (43, .isub, 1, (0, 0, 0), []),
  (44, .invokevirtual 413, 3, (63, 1, 1), []),
  (47, .ireturn, 1, (0, 0, 0), [])]
abbrev am_m65 : am_Mt := (⟨"BookedEmptyModel", "dearest", "(I)I"⟩, prog_12_method_66_code, 2, (some .int), am_P65, 50, 10)
/-- BookedEmptyModel.canShare(II)Z -/
def am_P66 : List am_E := [(0, .iconst 0, 1, (0, 0, 0), []),
  (1, .istore_n 3, 1, (0, 0, 0), []),
  (2, .iload_n 3, 1, (0, 0, 0), []),
  (3, .aload_n 0, 1, (0, 0, 0), []),
  (4, .getfield 16, 3, (50, 2, 0), []),
  (7, .if_icmp .ge 88, 3, (95, 0, 0), []),
  (10, .aload_n 0, 1, (0, 0, 0), []),
  (11, .iload_n 1, 1, (0, 0, 0), []),
  (12, .iload_n 3, 1, (0, 0, 0), []),
  (13, .invokevirtual 263, 3, (2, 2, 1), []),
  (16, .ifCond .ne 6, 3, (22, 0, 0), []),
  (19, .goto 70, 3, (89, 0, 0), []),
  (22, .iload_n 2, 1, (0, 0, 0), []),
  (23, .iconst 4, 1, (0, 0, 0), []),
  (24, .if_icmp .ge 18, 3, (42, 0, 0), []),
  (27, .aload_n 0, 1, (0, 0, 0), []),
  (28, .getfield 117, 3, (50, 35, 2), []),
  (31, .iconst 5, 1, (0, 0, 0), []),
  (32, .iload_n 3, 1, (0, 0, 0), []),
  (33, .imul, 1, (0, 0, 0), []),
  (34, .iload_n 2, 1, (0, 0, 0), []),
  (35, .iadd, 1, (0, 0, 0), []),
  (36, .baload, 1, (0, 0, 0), []),
  (37, .ifCond .ne 5, 3, (42, 0, 0), []),
  (40, .iconst 0, 1, (0, 0, 0), []),
  (41, .ireturn, 1, (1, 0, 0), []),
  (42, .iload_n 3, 1, (0, 0, 0), []),
  (43, .iconst 1, 1, (0, 0, 0), []),
  (44, .iadd, 1, (0, 0, 0), []),
  (45, .istore 4, 2, (0, 0, 0), []),
  (47, .iload 4, 2, (0, 0, 0), []),
  (49, .aload_n 0, 1, (0, 0, 0), []),
  (50, .getfield 16, 3, (50, 2, 0), []),
  (53, .if_icmp .ge 36, 3, (89, 0, 0), []),
  (56, .aload_n 0, 1, (0, 0, 0), []),
  (57, .iload_n 1, 1, (0, 0, 0), []),
  (58, .iload 4, 2, (0, 0, 0), []),
  (60, .invokevirtual 263, 3, (2, 2, 1), []),
  (63, .ifCond .eq 20, 3, (83, 0, 0), []),
  (66, .aload_n 0, 1, (0, 0, 0), []),
  (67, .getfield 120, 3, (50, 36, 2), []),
  (70, .bipush 6, 2, (0, 0, 0), []),
  (72, .iload_n 3, 1, (0, 0, 0), []),
  (73, .imul, 1, (0, 0, 0), []),
  (74, .iload 4, 2, (0, 0, 0), []),
  (76, .iadd, 1, (0, 0, 0), []),
  (77, .baload, 1, (0, 0, 0), []),
  (78, .ifCond .eq 5, 3, (83, 0, 0), []),
  (81, .iconst 0, 1, (0, 0, 0), []),
  (82, .ireturn, 1, (1, 0, 0), []),
  (83, .iinc 4 1, 3, (0, 0, 0), []),
  (86, .goto (-39), 3, (47, 0, 0), []),
  (89, .iinc 3 1, 3, (0, 0, 0), []),
  (92, .goto (-90), 3, (2, 0, 0), []),
  (95, .iconst 1, 1, (0, 0, 0), []),
  (96, .ireturn, 1, (1, 0, 0), [])]
abbrev am_m66 : am_Mt := (⟨"BookedEmptyModel", "canShare", "(II)Z"⟩, prog_12_method_67_code, 5, (some .boolean), am_P66, 50, 10)
/-- BookedEmptyModel.addRoom(I)V -/
def am_P67 : List am_E := [(0, .iconst 1, 1, (0, 0, 0), []),
  (1, .aload_n 0, 1, (0, 0, 0), []),
  (2, .getfield 16, 3, (50, 2, 0), []),
  (5, .ishl, 1, (0, 0, 0), []),
  (6, .istore_n 2, 1, (0, 0, 0), []),
  (7, .iconst 0, 1, (0, 0, 0), []),
  (8, .istore_n 3, 1, (0, 0, 0), []),
  (9, .iload_n 3, 1, (0, 0, 0), []),
  (10, .iload_n 2, 1, (0, 0, 0), []),
  (11, .if_icmp .ge 21, 3, (32, 0, 0), []),
  (14, .aload_n 0, 1, (0, 0, 0), []),
  (15, .getfield 129, 3, (50, 39, 2), []),
  (18, .iload_n 3, 1, (0, 0, 0), []),
  (19, .aload_n 0, 1, (0, 0, 0), []),
  (20, .getfield 126, 3, (50, 38, 2), []),
  (23, .iload_n 3, 1, (0, 0, 0), []),
  (24, .baload, 1, (0, 0, 0), []),
  (25, .bastore, 1, (0, 0, 0), []),
  (26, .iinc 3 1, 3, (0, 0, 0), []),
  (29, .goto (-20), 3, (9, 0, 0), []),
  (32, .iconst 1, 1, (0, 0, 0), []),
  (33, .istore_n 3, 1, (0, 0, 0), []),
  (34, .iload_n 3, 1, (0, 0, 0), []),
  (35, .iload_n 2, 1, (0, 0, 0), []),
  (36, .if_icmp .ge 63, 3, (99, 0, 0), []),
  (39, .aload_n 0, 1, (0, 0, 0), []),
  (40, .iload_n 3, 1, (0, 0, 0), []),
  (41, .iload_n 1, 1, (0, 0, 0), []),
  (42, .invokevirtual 416, 3, (66, 2, 1), []),
  (45, .ifCond .ne 6, 3, (51, 0, 0), []),
  (48, .goto 45, 3, (93, 0, 0), []),
  (51, .iconst 0, 1, (0, 0, 0), []),
  (52, .istore 4, 2, (0, 0, 0), []),
  (54, .iload 4, 2, (0, 0, 0), []),
  (56, .iload_n 2, 1, (0, 0, 0), []),
  (57, .if_icmp .ge 36, 3, (93, 0, 0), []),
  (60, .iload 4, 2, (0, 0, 0), []),
  (62, .iload_n 3, 1, (0, 0, 0), []),
  (63, .iand, 1, (0, 0, 0), []),
  (64, .ifCond .ne 23, 3, (87, 0, 0), []),
  (67, .aload_n 0, 1, (0, 0, 0), []),
  (68, .getfield 126, 3, (50, 38, 2), []),
  (71, .iload 4, 2, (0, 0, 0), []),
  (73, .baload, 1, (0, 0, 0), []),
  (74, .ifCond .eq 13, 3, (87, 0, 0), []),
  (77, .aload_n 0, 1, (0, 0, 0), []),
  (78, .getfield 129, 3, (50, 39, 2), []),
  (81, .iload 4, 2, (0, 0, 0), []),
  (83, .iload_n 3, 1, (0, 0, 0), []),
  (84, .ior, 1, (0, 0, 0), []),
  (85, .iconst 1, 1, (0, 0, 0), []),
  (86, .bastore, 1, (0, 0, 0), []),
  (87, .iinc 4 1, 3, (0, 0, 0), []),
  (90, .goto (-36), 3, (54, 0, 0), []),
  (93, .iinc 3 1, 3, (0, 0, 0), []),
  (96, .goto (-62), 3, (34, 0, 0), []),
  (99, .iconst 0, 1, (0, 0, 0), []),
  (100, .istore_n 3, 1, (0, 0, 0), []),
  (101, .iload_n 3, 1, (0, 0, 0), []),
  (102, .iload_n 2, 1, (0, 0, 0), []),
  (103, .if_icmp .ge 21, 3, (124, 0, 0), []),
  (106, .aload_n 0, 1, (0, 0, 0), []),
  (107, .getfield 126, 3, (50, 38, 2), []),
  (110, .iload_n 3, 1, (0, 0, 0), []),
  (111, .aload_n 0, 1, (0, 0, 0), []),
  (112, .getfield 129, 3, (50, 39, 2), []),
  (115, .iload_n 3, 1, (0, 0, 0), []),
  (116, .baload, 1, (0, 0, 0), []),
  (117, .bastore, 1, (0, 0, 0), []),
  (118, .iinc 3 1, 3, (0, 0, 0), []),
  (121, .goto (-20), 3, (101, 0, 0), []),
  (124, .return_, 1, (0, 0, 0), [])]
abbrev am_m67 : am_Mt := (⟨"BookedEmptyModel", "addRoom", "(I)V"⟩, prog_12_method_68_code, 5, none, am_P67, 50, 10)
/-- BookedEmptyModel.clearSets()V -/
def am_P68 : List am_E := [(0, .iconst 0, 1, (0, 0, 0), []),
  (1, .istore_n 1, 1, (0, 0, 0), []),
  (2, .iload_n 1, 1, (0, 0, 0), []),
  (3, .bipush 64, 2, (0, 0, 0), []),
  (5, .if_icmp .ge 24, 3, (29, 0, 0), []),
  (8, .aload_n 0, 1, (0, 0, 0), []),
  (9, .getfield 126, 3, (50, 38, 2), []),
  (12, .iload_n 1, 1, (0, 0, 0), []),
  (13, .iload_n 1, 1, (0, 0, 0), []),
  (14, .ifCond .ne 7, 3, (21, 0, 0), []),
  (17, .iconst 1, 1, (0, 0, 0), []),
  (18, .goto 4, 3, (22, 0, 0), []),
  (21, .iconst 0, 1, (0, 0, 0), []),
  (22, .bastore, 1, (0, 0, 0), []),
  (23, .iinc 1 1, 3, (0, 0, 0), []),
  (26, .goto (-24), 3, (2, 0, 0), []),
  (29, .return_, 1, (0, 0, 0), [])]
abbrev am_m68 : am_Mt := (⟨"BookedEmptyModel", "clearSets", "()V"⟩, prog_12_method_69_code, 2, none, am_P68, 50, 10)
/-- BookedEmptyModel.mostSets()I -/
def am_P69 : List am_E := [(0, .iconst 0, 1, (0, 0, 0), []),
  (1, .istore_n 1, 1, (0, 0, 0), []),
  (2, .iconst 0, 1, (0, 0, 0), []),
  (3, .istore_n 2, 1, (0, 0, 0), []),
  (4, .iload_n 2, 1, (0, 0, 0), []),
  (5, .iconst 1, 1, (0, 0, 0), []),
  (6, .aload_n 0, 1, (0, 0, 0), []),
  (7, .getfield 16, 3, (50, 2, 0), []),
  (10, .ishl, 1, (0, 0, 0), []),
  (11, .if_icmp .ge 33, 3, (44, 0, 0), []),
  (14, .aload_n 0, 1, (0, 0, 0), []),
  (15, .getfield 126, 3, (50, 38, 2), []),
  (18, .iload_n 2, 1, (0, 0, 0), []),
  (19, .baload, 1, (0, 0, 0), []),
  (20, .ifCond .eq 18, 3, (38, 0, 0), []),
  (23, .aload_n 0, 1, (0, 0, 0), []),
  (24, .iload_n 2, 1, (0, 0, 0), []),
  (25, .invokevirtual 419, 3, (4, 1, 1), []),
  (28, .iload_n 1, 1, (0, 0, 0), []),
  (29, .if_icmp .le 9, 3, (38, 0, 0), []),
  (32, .aload_n 0, 1, (0, 0, 0), []),
  (33, .iload_n 2, 1, (0, 0, 0), []),
  (34, .invokevirtual 419, 3, (4, 1, 1), []),
  (37, .istore_n 1, 1, (0, 0, 0), []),
  (38, .iinc 2 1, 3, (0, 0, 0), []),
  (41, .goto (-37), 3, (4, 0, 0), []),
  (44, .iload_n 1, 1, (0, 0, 0), []),
  (45, .ireturn, 1, (0, 0, 0), [])]
abbrev am_m69 : am_Mt := (⟨"BookedEmptyModel", "mostSets", "()I"⟩, prog_12_method_70_code, 3, (some .int), am_P69, 50, 10)
/-- BookedEmptyModel.mostBy(I)I -/
def am_P70 : List am_E := [(0, .aload_n 0, 1, (0, 0, 0), []),
  (1, .invokevirtual 422, 3, (68, 0, 0), []),
  (4, .iconst 0, 1, (0, 0, 0), []),
  (5, .istore_n 2, 1, (0, 0, 0), []),
  (6, .iload_n 2, 1, (0, 0, 0), []),
  (7, .aload_n 0, 1, (0, 0, 0), []),
  (8, .getfield 7, 3, (50, 0, 0), []),
  (11, .if_icmp .ge 23, 3, (34, 0, 0), []),
  (14, .aload_n 0, 1, (0, 0, 0), []),
  (15, .iload_n 1, 1, (0, 0, 0), []),
  (16, .iload_n 2, 1, (0, 0, 0), []),
  (17, .invokevirtual 263, 3, (2, 2, 1), []),
  (20, .ifCond .eq 8, 3, (28, 0, 0), []),
  (23, .aload_n 0, 1, (0, 0, 0), []),
  (24, .iload_n 2, 1, (0, 0, 0), []),
  (25, .invokevirtual 425, 3, (67, 1, 0), []),
  (28, .iinc 2 1, 3, (0, 0, 0), []),
  (31, .goto (-25), 3, (6, 0, 0), []),
  (34, .aload_n 0, 1, (0, 0, 0), []),
  (35, .invokevirtual 428, 3, (69, 0, 1), []),
  (38, .ireturn, 1, (0, 0, 0), [])]
abbrev am_m70 : am_Mt := (⟨"BookedEmptyModel", "mostBy", "(I)I"⟩, prog_12_method_71_code, 3, (some .int), am_P70, 50, 10)
/-- BookedEmptyModel.allRooms()I -/
def am_P71 : List am_E := [(0, .iconst 1, 1, (0, 0, 0), []),
  (1, .aload_n 0, 1, (0, 0, 0), []),
  (2, .getfield 7, 3, (50, 0, 0), []),
  (5, .ishl, 1, (0, 0, 0), []),
  (6, .iconst 1, 1, (0, 0, 0), []),
  (7, .isub, 1, (0, 0, 0), []),
  (8, .ireturn, 1, (0, 0, 0), [])]
abbrev am_m71 : am_Mt := (⟨"BookedEmptyModel", "allRooms", "()I"⟩, prog_12_method_72_code, 1, (some .int), am_P71, 50, 10)
/-- BookedEmptyModel.roomy()I -/
def am_P72 : List am_E := [(0, .aload_n 0, 1, (0, 0, 0), []),
  (1, .invokevirtual 403, 3, (60, 0, 0), []),
  (4, .aload_n 0, 1, (0, 0, 0), []),
  (5, .aload_n 0, 1, (0, 0, 0), []),
  (6, .invokevirtual 431, 3, (71, 0, 1), []),
  (9, .invokevirtual 434, 3, (70, 1, 1), []),
  (12, .istore_n 1, 1, (0, 0, 0), []),
  (13, .aload_n 0, 1, (0, 0, 0), []),
  (14, .invokevirtual 431, 3, (71, 0, 1), []),
  (17, .istore_n 2, 1, (0, 0, 0), []),
  (18, .aload_n 0, 1, (0, 0, 0), []),
  (19, .invokevirtual 431, 3, (71, 0, 1), []),
  (22, .istore_n 3, 1, (0, 0, 0), []),
  (23, .iload_n 3, 1, (0, 0, 0), []),
  (24, .ifCond .lt 33, 3, (57, 0, 0), []),
  (27, .aload_n 0, 1, (0, 0, 0), []),
  (28, .iload_n 3, 1, (0, 0, 0), []),
  (29, .invokevirtual 419, 3, (4, 1, 1), []),
  (32, .aload_n 0, 1, (0, 0, 0), []),
  (33, .iload_n 2, 1, (0, 0, 0), []),
  (34, .invokevirtual 419, 3, (4, 1, 1), []),
  (37, .if_icmp .gt 14, 3, (51, 0, 0), []),
  (40, .aload_n 0, 1, (0, 0, 0), []),
  (41, .iload_n 3, 1, (0, 0, 0), []),
  (42, .invokevirtual 434, 3, (70, 1, 1), []),
  (45, .iload_n 1, 1, (0, 0, 0), []),
  (46, .if_icmp .lt 5, 3, (51, 0, 0), []),
  (49, .iload_n 3, 1, (0, 0, 0), []),
  (50, .istore_n 2, 1, (0, 0, 0), []),
  (51, .iinc 3 (-1), 3, (0, 0, 0), []),
  (54, .goto (-31), 3, (23, 0, 0), []),
  (57, .iload_n 2, 1, (0, 0, 0), []),
  (58, .ireturn, 1, (0, 0, 0), [])]
abbrev am_m72 : am_Mt := (⟨"BookedEmptyModel", "roomy", "()I"⟩, prog_12_method_73_code, 4, (some .int), am_P72, 50, 10)
/-- BookedEmptyModel.more()I -/
def am_P73 : List am_E := [(0, .aload_n 0, 1, (0, 0, 0), []),
  (1, .invokevirtual 403, 3, (60, 0, 0), []),
  (4, .aload_n 0, 1, (0, 0, 0), []),
  (5, .aload_n 0, 1, (0, 0, 0), []),
  (6, .invokevirtual 431, 3, (71, 0, 1), []),
  (9, .invokevirtual 434, 3, (70, 1, 1), []),
  (12, .istore_n 1, 1, (0, 0, 0), []),
  (13, .aload_n 0, 1, (0, 0, 0), []),
  (14, .iconst 4, 1, (0, 0, 0), []),
  (15, .invokevirtual 425, 3, (67, 1, 0), []),
  (18, .aload_n 0, 1, (0, 0, 0), []),
  (19, .invokevirtual 428, 3, (69, 0, 1), []),
  (22, .iload_n 1, 1, (0, 0, 0), []),
  (23, .isub, 1, (0, 0, 0), []),
  (24, .ireturn, 1, (0, 0, 0), [])]
abbrev am_m73 : am_Mt := (⟨"BookedEmptyModel", "more", "()I"⟩, prog_12_method_74_code, 2, (some .int), am_P73, 50, 10)
/-- BookedEmptyModel.mend()I -/
def am_P74 : List am_E := [(0, .aload_n 0, 1, (0, 0, 0), []),
  (1, .invokevirtual 403, 3, (60, 0, 0), []),
  (4, .aload_n 0, 1, (0, 0, 0), []),
  (5, .aload_n 0, 1, (0, 0, 0), []),
  (6, .invokevirtual 431, 3, (71, 0, 1), []),
  (9, .invokevirtual 434, 3, (70, 1, 1), []),
  (12, .istore_n 1, 1, (0, 0, 0), []),
  (13, .bipush (-5), 2, (0, 0, 0), []),
  (15, .istore_n 2, 1, (0, 0, 0), []),
  (16, .aload_n 0, 1, (0, 0, 0), []),
  (17, .getfield 13, 3, (50, 1, 0), []),
  (20, .istore_n 3, 1, (0, 0, 0), []),
  (21, .iconst 0, 1, (0, 0, 0), []),
  (22, .istore 4, 2, (0, 0, 0), []),
  (24, .iload 4, 2, (0, 0, 0), []),
  (26, .aload_n 0, 1, (0, 0, 0), []),
  (27, .getfield 7, 3, (50, 0, 0), []),
  (30, .if_icmp .ge 55, 3, (85, 0, 0), []),
  (33, .aload_n 0, 1, (0, 0, 0), []),
  (34, .iload_n 3, 1, (0, 0, 0), []),
  (35, .iconst 1, 1, (0, 0, 0), []),
  (36, .iload 4, 2, (0, 0, 0), []),
  (38, .ishl, 1, (0, 0, 0), []),
  (39, .iconst (-1), 1, (0, 0, 0), []),
  (40, .ixor, 1, (0, 0, 0), []),
  (41, .iand, 1, (0, 0, 0), []),
  (42, .putfield 13, 3, (50, 1, 0), []),
  (45, .aload_n 0, 1, (0, 0, 0), []),
  (46, .invokevirtual 403, 3, (60, 0, 0), []),
  (49, .aload_n 0, 1, (0, 0, 0), []),
  (50, .aload_n 0, 1, (0, 0, 0), []),
  (51, .invokevirtual 431, 3, (71, 0, 1), []),
  (54, .invokevirtual 434, 3, (70, 1, 1), []),
  (57, .istore 5, 2, (0, 0, 0), []),
  (59, .aload_n 0, 1, (0, 0, 0), []),
  (60, .iload_n 3, 1, (0, 0, 0), []),
  (61, .putfield 13, 3, (50, 1, 0), []),
  (64, .iload 5, 2, (0, 0, 0), []),
  (66, .iload_n 1, 1, (0, 0, 0), []),
  (67, .if_icmp .gt 6, 3, (73, 0, 0), []),
  (70, .goto 9, 3, (79, 0, 0), []),
  (73, .iload 4, 2, (0, 0, 0), []),
  (75, .istore_n 2, 1, (0, 0, 0), []),
  (76, .iload 5, 2, (0, 0, 0), []),
  (78, .istore_n 1, 1, (0, 0, 0), []),
  (79, .iinc 4 1, 3, (0, 0, 0), []),
  (82, .goto (-58), 3, (24, 0, 0), []),
  (85, .iload_n 2, 1, (0, 0, 0), []),
  (86, .ireturn, 1, (0, 0, 0), [])]
abbrev am_m74 : am_Mt := (⟨"BookedEmptyModel", "mend", "()I"⟩, prog_12_method_75_code, 6, (some .int), am_P74, 50, 10)
/-- BookedEmptyModel.best(I)I -/
def am_P75 : List am_E := [(0, .iload_n 1, 1, (0, 0, 0), []),
  (1, .tableswitch 42 0 2 #[27, 32, 37], 27, (43, 0, 0), [(0, 28), (1, 33), (2, 38)]),
  (28, .aload_n 0, 1, (0, 0, 0), []),
  (29, .invokevirtual 437, 3, (72, 0, 1), []),
  (32, .ireturn, 1, (0, 0, 0), []),
  (33, .aload_n 0, 1, (0, 0, 0), []),
  (34, .invokevirtual 440, 3, (73, 0, 1), []),
  (37, .ireturn, 1, (0, 0, 0), []),
  (38, .aload_n 0, 1, (0, 0, 0), []),
  (39, .invokevirtual 443, 3, (74, 0, 1), []),
  (42, .ireturn, 1, (0, 0, 0), []),
  (43, .iconst (-1), 1, (0, 0, 0), []),
  (44, .ireturn, 1, (0, 0, 0), [])]
abbrev am_m75 : am_Mt := (⟨"BookedEmptyModel", "best", "(I)I"⟩, prog_12_method_76_code, 2, (some .int), am_P75, 50, 10)
/-- BookedEmptyModel.holds(I)I -/
def am_P76 : List am_E := [(0, .aload_n 0, 1, (0, 0, 0), []),
  (1, .iload_n 1, 1, (0, 0, 0), []),
  (2, .iconst 1, 1, (0, 0, 0), []),
  (3, .bipush 20, 2, (0, 0, 0), []),
  (5, .invokevirtual 267, 3, (1, 3, 1), []),
  (8, .ifCond .ne 6, 3, (14, 0, 0), []),
  (11, .bipush (-2), 2, (0, 0, 0), []),
  (13, .ireturn, 1, (0, 0, 0), []),
  (14, .iconst 0, 1, (0, 0, 0), []),
  (15, .istore_n 2, 1, (0, 0, 0), []),
  (16, .iconst 0, 1, (0, 0, 0), []),
  (17, .istore_n 3, 1, (0, 0, 0), []),
  (18, .iconst 0, 1, (0, 0, 0), []),
  (19, .istore 4, 2, (0, 0, 0), []),
  (21, .iload 4, 2, (0, 0, 0), []),
  (23, .bipush 13, 2, (0, 0, 0), []),
  (25, .if_icmp .ge 42, 3, (67, 0, 0), []),
  (28, .aload_n 0, 1, (0, 0, 0), []),
  (29, .iload 4, 2, (0, 0, 0), []),
  (31, .putfield 98, 3, (50, 29, 0), []),
  (34, .aload_n 0, 1, (0, 0, 0), []),
  (35, .iload_n 1, 1, (0, 0, 0), []),
  (36, .invokevirtual 400, 3, (57, 1, 1), []),
  (39, .istore 5, 2, (0, 0, 0), []),
  (41, .iload 4, 2, (0, 0, 0), []),
  (43, .ifCond .le 12, 3, (55, 0, 0), []),
  (46, .iload 5, 2, (0, 0, 0), []),
  (48, .iload_n 3, 1, (0, 0, 0), []),
  (49, .if_icmp .le 6, 3, (55, 0, 0), []),
  (52, .goto 9, 3, (61, 0, 0), []),
  (55, .iload 4, 2, (0, 0, 0), []),
  (57, .istore_n 2, 1, (0, 0, 0), []),
  (58, .iload 5, 2, (0, 0, 0), []),
  (60, .istore_n 3, 1, (0, 0, 0), []),
  (61, .iinc 4 1, 3, (0, 0, 0), []),
  (64, .goto (-43), 3, (21, 0, 0), []),
  (67, .aload_n 0, 1, (0, 0, 0), []),
  (68, .iconst (-1), 1, (0, 0, 0), []),
  (69, .putfield 98, 3, (50, 29, 0), []),
  (72, .iload_n 2, 1, (0, 0, 0), []),
  (73, .ireturn, 1, (0, 0, 0), [])]
abbrev am_m76 : am_Mt := (⟨"BookedEmptyModel", "holds", "(I)I"⟩, prog_12_method_77_code, 6, (some .int), am_P76, 50, 10)
/-- BookedEmptyModel.sudden(III)I -/
def am_P77 : List am_E := [(0, .aload_n 0, 1, (0, 0, 0), []),
  (1, .iload_n 1, 1, (0, 0, 0), []),
  (2, .invokevirtual 271, 3, (8, 1, 1), []),
  (5, .ifCond .eq 22, 3, (27, 0, 0), []),
  (8, .aload_n 0, 1, (0, 0, 0), []),
  (9, .iload_n 2, 1, (0, 0, 0), []),
  (10, .invokevirtual 275, 3, (7, 1, 1), []),
  (13, .ifCond .eq 14, 3, (27, 0, 0), []),
  (16, .aload_n 0, 1, (0, 0, 0), []),
  (17, .iload_n 3, 1, (0, 0, 0), []),
  (18, .iconst 1, 1, (0, 0, 0), []),
  (19, .bipush 12, 2, (0, 0, 0), []),
  (21, .invokevirtual 267, 3, (1, 3, 1), []),
  (24, .ifCond .ne 6, 3, (30, 0, 0), []),
  (27, .bipush (-2), 2, (0, 0, 0), []),
  (29, .ireturn, 1, (0, 0, 0), []),
  (30, .bipush (-5), 2, (0, 0, 0), []),
  (32, .istore 4, 2, (0, 0, 0), []),
  (34, .iconst 0, 1, (0, 0, 0), []),
  (35, .istore 5, 2, (0, 0, 0), []),
  (37, .iconst 0, 1, (0, 0, 0), []),
  (38, .istore 6, 2, (0, 0, 0), []),
  (40, .iload 6, 2, (0, 0, 0), []),
  (42, .aload_n 0, 1, (0, 0, 0), []),
  (43, .getfield 7, 3, (50, 0, 0), []),
  (46, .if_icmp .ge 162, 3, (208, 0, 0), []),
  (49, .aload_n 0, 1, (0, 0, 0), []),
  (50, .getfield 22, 3, (50, 4, 2), []),
  (53, .iload 6, 2, (0, 0, 0), []),
  (55, .iaload, 1, (0, 0, 0), []),
  (56, .iload_n 1, 1, (0, 0, 0), []),
  (57, .if_icmp .lt 145, 3, (202, 0, 0), []),
  (60, .aload_n 0, 1, (0, 0, 0), []),
  (61, .aload_n 0, 1, (0, 0, 0), []),
  (62, .getfield 13, 3, (50, 1, 0), []),
  (65, .iload 6, 2, (0, 0, 0), []),
  (67, .invokevirtual 263, 3, (2, 2, 1), []),
  (70, .ifCond .eq 6, 3, (76, 0, 0), []),
  (73, .goto 129, 3, (202, 0, 0), []),
  (76, .iconst 0, 1, (0, 0, 0), []),
  (77, .istore 7, 2, (0, 0, 0), []),
  (79, .iconst 1, 1, (0, 0, 0), []),
  (80, .istore 8, 2, (0, 0, 0), []),
  (82, .iload_n 2, 1, (0, 0, 0), []),
  (83, .istore 9, 2, (0, 0, 0), []),
  (85, .iload 9, 2, (0, 0, 0), []),
  (87, .aload_n 0, 1, (0, 0, 0), []),
  (88, .iload_n 2, 1, (0, 0, 0), []),
  (89, .iload_n 3, 1, (0, 0, 0), []),
  (90, .iadd, 1, (0, 0, 0), []),
  (91, .aload_n 0, 1, (0, 0, 0), []),
  (92, .invokevirtual 347, 3, (33, 0, 1), []),
  (95, .invokevirtual 350, 3, (3, 2, 1), []),
  (98, .if_icmp .ge 55, 3, (153, 0, 0), []),
  (101, .iload 7, 2, (0, 0, 0), []),
  (103, .ifCond .ne 14, 3, (117, 0, 0), []),
  (106, .aload_n 0, 1, (0, 0, 0), []),
  (107, .iload 6, 2, (0, 0, 0), []),
  (109, .iload 9, 2, (0, 0, 0), []),
  (111, .invokevirtual 374, 3, (43, 2, 1), []),
  (114, .ifCond .eq 7, 3, (121, 0, 0), []),
  (117, .iconst 1, 1, (0, 0, 0), []),
  (118, .goto 4, 3, (122, 0, 0), []),
  (121, .iconst 0, 1, (0, 0, 0), []),
  (122, .istore 7, 2, (0, 0, 0), []),
  (124, .iload 8, 2, (0, 0, 0), []),
  (126, .ifCond .eq 18, 3, (144, 0, 0), []),
  (129, .aload_n 0, 1, (0, 0, 0), []),
  (130, .iload 6, 2, (0, 0, 0), []),
  (132, .iload 9, 2, (0, 0, 0), []),
  (134, .invokevirtual 377, 3, (44, 2, 1), []),
  (137, .ifCond .ne 7, 3, (144, 0, 0), []),
  (140, .iconst 1, 1, (0, 0, 0), []),
  (141, .goto 4, 3, (145, 0, 0), []),
  (144, .iconst 0, 1, (0, 0, 0), []),
  (145, .istore 8, 2, (0, 0, 0), []),
  (147, .iinc 9 1, 3, (0, 0, 0), []),
  (150, .goto (-65), 3, (85, 0, 0), []),
  (153, .aload_n 0, 1, (0, 0, 0), []),
  (154, .getfield 22, 3, (50, 4, 2), []),
  (157, .iload 6, 2, (0, 0, 0), []),
  (159, .iaload, 1, (0, 0, 0), []),
  (160, .iload 8, 2, (0, 0, 0), []),
  (162, .ifCond .eq 7, 3, (169, 0, 0), []),
  (165, .iconst 0, 1, (0, 0, 0), []),
  (166, .goto 5, 3, (171, 0, 0), []),
  (169, .bipush 100, 2, (0, 0, 0), []),
  (171, .iadd, 1, (0, 0, 0), []),
  (172, .istore 9, 2, (0, 0, 0), []),
  (174, .iload 7, 2, (0, 0, 0), []),
  (176, .ifCond .ne 26, 3, (202, 0, 0), []),
  (179, .iload 4, 2, (0, 0, 0), []),
  (181, .ifCond .lt 13, 3, (194, 0, 0), []),
  (184, .iload 9, 2, (0, 0, 0), []),
  (186, .iload 5, 2, (0, 0, 0), []),
  (188, .if_icmp .lt 6, 3, (194, 0, 0), []),
  (191, .goto 11, 3, (202, 0, 0), []),
  (194, .iload 6, 2, (0, 0, 0), []),
  (196, .istore 4, 2, (0, 0, 0), []),
  (198, .iload 9, 2, (0, 0, 0), []),
  (200, .istore 5, 2, (0, 0, 0), []),
  (202, .iinc 6 1, 3, (0, 0, 0), []),
  (205, .goto (-165), 3, (40, 0, 0), []),
  (208, .iload 4, 2, (0, 0, 0), []),
  (210, .ireturn, 1, (0, 0, 0), [])]
abbrev am_m77 : am_Mt := (⟨"BookedEmptyModel", "sudden", "(III)I"⟩, prog_12_method_78_code, 10, (some .int), am_P77, 50, 10)
/-- BookedEmptyModel.see(IIZI)I -/
def am_P78 : List am_E := [(0, .iload_n 1, 1, (0, 0, 0), []),
  (1, .iconst (-1), 1, (0, 0, 0), []),
  (2, .if_icmp .ne 10, 3, (12, 0, 0), []),
  (5, .aload_n 0, 1, (0, 0, 0), []),
  (6, .iconst 0, 1, (0, 0, 0), []),
  (7, .putfield 132, 3, (50, 40, 0), []),
  (10, .iconst 0, 1, (0, 0, 0), []),
  (11, .ireturn, 1, (0, 0, 0), []),
  (12, .aload_n 0, 1, (0, 0, 0), []),
  (13, .iload_n 1, 1, (0, 0, 0), []),
  (14, .invokevirtual 278, 3, (5, 1, 1), []),
  (17, .ifCond .eq 11, 3, (28, 0, 0), []),
  (20, .aload_n 0, 1, (0, 0, 0), []),
  (21, .iload_n 2, 1, (0, 0, 0), []),
  (22, .invokevirtual 275, 3, (7, 1, 1), []),
  (25, .ifCond .ne 5, 3, (30, 0, 0), []),
  (28, .iconst (-1), 1, (0, 0, 0), []),
  (29, .ireturn, 1, (0, 0, 0), []),
  (30, .aload_n 0, 1, (0, 0, 0), []),
  (31, .iload 4, 2, (0, 0, 0), []),
  (33, .iconst 0, 1, (0, 0, 0), []),
  (34, .bipush 20, 2, (0, 0, 0), []),
  (36, .invokevirtual 267, 3, (1, 3, 1), []),
  (39, .ifCond .ne 6, 3, (45, 0, 0), []),
  (42, .bipush (-2), 2, (0, 0, 0), []),
  (44, .ireturn, 1, (0, 0, 0), []),
  (45, .aload_n 0, 1, (0, 0, 0), []),
  (46, .getfield 132, 3, (50, 40, 0), []),
  (49, .bipush 6, 2, (0, 0, 0), []),
  (51, .if_icmp .ne 6, 3, (57, 0, 0), []),
  (54, .bipush (-4), 2, (0, 0, 0), []),
  (56, .ireturn, 1, (0, 0, 0), []),
  (57, .aload_n 0, 1, (0, 0, 0), []),
  (58, .getfield 135, 3, (50, 41, 2), []),
  (61, .aload_n 0, 1, (0, 0, 0), []),
  (62, .getfield 132, 3, (50, 40, 0), []),
  (65, .iload_n 1, 1, (0, 0, 0), []),
  (66, .iastore, 1, (0, 0, 0), []),
  (67, .aload_n 0, 1, (0, 0, 0), []),
  (68, .getfield 138, 3, (50, 42, 2), []),
  (71, .aload_n 0, 1, (0, 0, 0), []),
  (72, .getfield 132, 3, (50, 40, 0), []),
  (75, .iload_n 2, 1, (0, 0, 0), []),
  (76, .iastore, 1, (0, 0, 0), []),
  (77, .aload_n 0, 1, (0, 0, 0), []),
  (78, .getfield 144, 3, (50, 44, 2), []),
  (81, .aload_n 0, 1, (0, 0, 0), []),
  (82, .getfield 132, 3, (50, 40, 0), []),
  (85, .iload_n 3, 1, (0, 0, 0), []),
  (86, .bastore, 1, (0, 0, 0), []),
  (87, .aload_n 0, 1, (0, 0, 0), []),
  (88, .getfield 141, 3, (50, 43, 2), []),
  (91, .aload_n 0, 1, (0, 0, 0), []),
  (92, .getfield 132, 3, (50, 40, 0), []),
  (95, .iload 4, 2, (0, 0, 0), []),
  (97, .iastore, 1, (0, 0, 0), []),
  (98, .aload_n 0, 1, (0, 0, 0), []),
  (99, .dup, 1, (0, 0, 0), []),
  (100, .getfield 132, 3, (50, 40, 0), []),
  (103, .iconst 1, 1, (0, 0, 0), []),
  (104, .iadd, 1, (0, 0, 0), []),
  (105, .putfield 132, 3, (50, 40, 0), []),
  (108, .aload_n 0, 1, (0, 0, 0), []),
  (109, .getfield 132, 3, (50, 40, 0), []),
  (112, .ireturn, 1, (0, 0, 0), [])]
abbrev am_m78 : am_Mt := (⟨"BookedEmptyModel", "see", "(IIZI)I"⟩, prog_12_method_79_code, 5, (some .int), am_P78, 50, 10)
/-- BookedEmptyModel.isSeen()Z -/
def am_P79 : List am_E := [(0, .iconst 1, 1, (0, 0, 0), []),
  (1, .istore_n 1, 1, (0, 0, 0), []),
  (2, .iconst 0, 1, (0, 0, 0), []),
  (3, .istore_n 2, 1, (0, 0, 0), []),
  (4, .iload_n 2, 1, (0, 0, 0), []),
  (5, .aload_n 0, 1, (0, 0, 0), []),
  (6, .getfield 132, 3, (50, 40, 0), []),
  (9, .if_icmp .ge 82, 3, (91, 0, 0), []),
  (12, .iload_n 1, 1, (0, 0, 0), []),
  (13, .ifCond .eq 78, 3, (91, 0, 0), []),
  (16, .aload_n 0, 1, (0, 0, 0), []),
  (17, .dup, 1, (0, 0, 0), []),
  (18, .getfield 19, 3, (50, 3, 0), []),
  (21, .aload_n 0, 1, (0, 0, 0), []),
  (22, .getfield 141, 3, (50, 43, 2), []),
  (25, .iload_n 2, 1, (0, 0, 0), []),
  (26, .iaload, 1, (0, 0, 0), []),
  (27, .iadd, 1, (0, 0, 0), []),
  (28, .putfield 19, 3, (50, 3, 0), []),
  (31, .aload_n 0, 1, (0, 0, 0), []),
  (32, .aload_n 0, 1, (0, 0, 0), []),
  (33, .getfield 135, 3, (50, 41, 2), []),
  (36, .iload_n 2, 1, (0, 0, 0), []),
  (37, .iaload, 1, (0, 0, 0), []),
  (38, .aload_n 0, 1, (0, 0, 0), []),
  (39, .getfield 138, 3, (50, 42, 2), []),
  (42, .iload_n 2, 1, (0, 0, 0), []),
  (43, .iaload, 1, (0, 0, 0), []),
  (44, .invokevirtual 374, 3, (43, 2, 1), []),
  (47, .ifCond .eq 7, 3, (54, 0, 0), []),
  (50, .iconst 1, 1, (0, 0, 0), []),
  (51, .goto 4, 3, (55, 0, 0), []),
  (54, .iconst 0, 1, (0, 0, 0), []),
  (55, .aload_n 0, 1, (0, 0, 0), []),
  (56, .getfield 144, 3, (50, 44, 2), []),
  (59, .iload_n 2, 1, (0, 0, 0), []),
  (60, .baload, 1, (0, 0, 0), []),
  (61, .if_icmp .ne 7, 3, (68, 0, 0), []),
  (64, .iconst 1, 1, (0, 0, 0), []),
  (65, .goto 4, 3, (69, 0, 0), []),
  (68, .iconst 0, 1, (0, 0, 0), []),
  (69, .istore_n 1, 1, (0, 0, 0), []),
  (70, .aload_n 0, 1, (0, 0, 0), []),
  (71, .dup, 1, (0, 0, 0), []),
  (72, .getfield 19, 3, (50, 3, 0), []),
  (75, .aload_n 0, 1, (0, 0, 0), []),
  (76, .getfield 141, 3, (50, 43, 2), []),
  (79, .iload_n 2, 1, (0, 0, 0), []),
  (80, .iaload, 1, (0, 0, 0), []),
  (81, .isub, 1, (0, 0, 0), []),
  (82, .putfield 19, 3, (50, 3, 0), []),
  (85, .iinc 2 1, 3, (0, 0, 0), []),
  (88, .goto (-84), 3, (4, 0, 0), []),
  (91, .iload_n 1, 1, (0, 0, 0), []),
  (92, .ireturn, 1, (1, 0, 0), [])]
abbrev am_m79 : am_Mt := (⟨"BookedEmptyModel", "isSeen", "()Z"⟩, prog_12_method_80_code, 3, (some .boolean), am_P79, 50, 10)
/-- BookedEmptyModel.can(II)I -/
def am_P80 : List am_E := [(0, .aload_n 0, 1, (0, 0, 0), []),
  (1, .iload_n 1, 1, (0, 0, 0), []),
  (2, .invokevirtual 281, 3, (6, 1, 1), []),
  (5, .ifCond .eq 13, 3, (18, 0, 0), []),
  (8, .aload_n 0, 1, (0, 0, 0), []),
  (9, .iload_n 2, 1, (0, 0, 0), []),
  (10, .iconst 0, 1, (0, 0, 0), []),
  (11, .iconst 1, 1, (0, 0, 0), []),
  (12, .invokevirtual 267, 3, (1, 3, 1), []),
  (15, .ifCond .ne 5, 3, (20, 0, 0), []),
  (18, .iconst (-1), 1, (0, 0, 0), []),
  (19, .ireturn, 1, (0, 0, 0), []),
  (20, .aload_n 0, 1, (0, 0, 0), []),
  (21, .getfield 29, 3, (50, 6, 2), []),
  (24, .iload_n 1, 1, (0, 0, 0), []),
  (25, .iaload, 1, (0, 0, 0), []),
  (26, .istore_n 3, 1, (0, 0, 0), []),
  (27, .iconst 0, 1, (0, 0, 0), []),
  (28, .istore 4, 2, (0, 0, 0), []),
  (30, .bipush (-5), 2, (0, 0, 0), []),
  (32, .istore 5, 2, (0, 0, 0), []),
  (34, .bipush 9, 2, (0, 0, 0), []),
  (36, .istore 6, 2, (0, 0, 0), []),
  (38, .iload 6, 2, (0, 0, 0), []),
  (40, .ifCond .lt 34, 3, (74, 0, 0), []),
  (43, .aload_n 0, 1, (0, 0, 0), []),
  (44, .getfield 29, 3, (50, 6, 2), []),
  (47, .iload_n 1, 1, (0, 0, 0), []),
  (48, .iload 6, 2, (0, 0, 0), []),
  (50, .iastore, 1, (0, 0, 0), []),
  (51, .aload_n 0, 1, (0, 0, 0), []),
  (52, .invokevirtual 446, 3, (79, 0, 1), []),
  (55, .ifCond .ne 6, 3, (61, 0, 0), []),
  (58, .goto 10, 3, (68, 0, 0), []),
  (61, .iinc 4 1, 3, (0, 0, 0), []),
  (64, .iload 6, 2, (0, 0, 0), []),
  (66, .istore 5, 2, (0, 0, 0), []),
  (68, .iinc 6 (-1), 3, (0, 0, 0), []),
  (71, .goto (-33), 3, (38, 0, 0), []),
  (74, .aload_n 0, 1, (0, 0, 0), []),
  (75, .getfield 29, 3, (50, 6, 2), []),
  (78, .iload_n 1, 1, (0, 0, 0), []),
  (79, .iload_n 3, 1, (0, 0, 0), []),
  (80, .iastore, 1, (0, 0, 0), []),
  (81, .iload_n 2, 1, (0, 0, 0), []),
  (82, .ifCond .ne 8, 3, (90, 0, 0), []),
  (85, .iload 4, 2, (0, 0, 0), []),
  (87, .goto 5, 3, (92, 0, 0), []),
  (90, .iload 5, 2, (0, 0, 0), []),
  (92, .ireturn, 1, (0, 0, 0), [])]
abbrev am_m80 : am_Mt := (⟨"BookedEmptyModel", "can", "(II)I"⟩, prog_12_method_81_code, 7, (some .int), am_P80, 50, 10)
/-- BookedEmptyModel.where(I)I -/
def am_P81 : List am_E := [(0, .aload_n 0, 1, (0, 0, 0), []),
  (1, .iload_n 1, 1, (0, 0, 0), []),
  (2, .invokevirtual 281, 3, (6, 1, 1), []),
  (5, .ifCond .ne 5, 3, (10, 0, 0), []),
  (8, .iconst (-1), 1, (0, 0, 0), []),
  (9, .ireturn, 1, (0, 0, 0), []),
  (10, .aload_n 0, 1, (0, 0, 0), []),
  (11, .getfield 41, 3, (50, 10, 2), []),
  (14, .iload_n 1, 1, (0, 0, 0), []),
  (15, .iaload, 1, (0, 0, 0), []),
  (16, .istore_n 2, 1, (0, 0, 0), []),
  (17, .iconst 0, 1, (0, 0, 0), []),
  (18, .istore_n 3, 1, (0, 0, 0), []),
  (19, .iconst 0, 1, (0, 0, 0), []),
  (20, .istore 4, 2, (0, 0, 0), []),
  (22, .iload 4, 2, (0, 0, 0), []),
  (24, .iconst 5, 1, (0, 0, 0), []),
  (25, .if_icmp .ge 50, 3, (75, 0, 0), []),
  (28, .aload_n 0, 1, (0, 0, 0), []),
  (29, .getfield 41, 3, (50, 10, 2), []),
  (32, .iload_n 1, 1, (0, 0, 0), []),
  (33, .iload 4, 2, (0, 0, 0), []),
  (35, .iastore, 1, (0, 0, 0), []),
  (36, .iload_n 3, 1, (0, 0, 0), []),
  (37, .iload 4, 2, (0, 0, 0), []),
  (39, .iconst 4, 1, (0, 0, 0), []),
  (40, .if_icmp .eq 12, 3, (52, 0, 0), []),
  (43, .aload_n 0, 1, (0, 0, 0), []),
  (44, .iload 4, 2, (0, 0, 0), []),
  (46, .invokevirtual 278, 3, (5, 1, 1), []),
  (49, .ifCond .eq 17, 3, (66, 0, 0), []),
  (52, .aload_n 0, 1, (0, 0, 0), []),
  (53, .invokevirtual 446, 3, (79, 0, 1), []),
  (56, .ifCond .eq 10, 3, (66, 0, 0), []),
  (59, .iconst 1, 1, (0, 0, 0), []),
  (60, .iload 4, 2, (0, 0, 0), []),
  (62, .ishl, 1, (0, 0, 0), []),
  (63, .goto 4, 3, (67, 0, 0), []),
  (66, .iconst 0, 1, (0, 0, 0), []),
  (67, .ior, 1, (0, 0, 0), []),
  (68, .istore_n 3, 1, (0, 0, 0), []),
  (69, .iinc 4 1, 3, (0, 0, 0), []),
  (72, .goto (-50), 3, (22, 0, 0), []),
  (75, .aload_n 0, 1, (0, 0, 0), []),
  (76, .getfield 41, 3, (50, 10, 2), []),
  (79, .iload_n 1, 1, (0, 0, 0), []),
  (80, .iload_n 2, 1, (0, 0, 0), []),
  (81, .iastore, 1, (0, 0, 0), []),
  (82, .iload_n 3, 1, (0, 0, 0), []),
  (83, .ireturn, 1, (0, 0, 0), [])]
abbrev am_m81 : am_Mt := (⟨"BookedEmptyModel", "where", "(I)I"⟩, prog_12_method_82_code, 5, (some .int), am_P81, 50, 10)
/-- BookedEmptyModel.divisor(II)I -/
def am_P82 : List am_E := [(0, .iload_n 1, 1, (0, 0, 0), []),
  (1, .istore_n 3, 1, (0, 0, 0), []),
  (2, .iload_n 2, 1, (0, 0, 0), []),
  (3, .istore 4, 2, (0, 0, 0), []),
  (5, .iload 4, 2, (0, 0, 0), []),
  (7, .ifCond .eq 19, 3, (26, 0, 0), []),
  (10, .iload_n 3, 1, (0, 0, 0), []),
  (11, .iload 4, 2, (0, 0, 0), []),
  (13, .irem, 1, (0, 0, 0), []),
  (14, .istore 5, 2, (0, 0, 0), []),
  (16, .iload 4, 2, (0, 0, 0), []),
  (18, .istore_n 3, 1, (0, 0, 0), []),
  (19, .iload 5, 2, (0, 0, 0), []),
  (21, .istore 4, 2, (0, 0, 0), []),
  (23, .goto (-18), 3, (5, 0, 0), []),
  (26, .iload_n 3, 1, (0, 0, 0), []),
  (27, .ireturn, 1, (0, 0, 0), [])]
abbrev am_m82 : am_Mt := (⟨"BookedEmptyModel", "divisor", "(II)I"⟩, prog_12_method_83_code, 6, (some .int), am_P82, 50, 10)
/-- BookedEmptyModel.lowest(III)J -/
def am_P83 : List am_E := [(0, .aload_n 0, 1, (0, 0, 0), []),
  (1, .iload_n 1, 1, (0, 0, 0), []),
  (2, .iload_n 2, 1, (0, 0, 0), []),
  (3, .invokevirtual 449, 3, (82, 2, 1), []),
  (6, .istore 4, 2, (0, 0, 0), []),
  (8, .iload_n 3, 1, (0, 0, 0), []),
  (9, .ifCond .ne 11, 3, (20, 0, 0), []),
  (12, .iload_n 1, 1, (0, 0, 0), []),
  (13, .iload 4, 2, (0, 0, 0), []),
  (15, .idiv, 1, (0, 0, 0), []),
  (16, .i2l, 1, (0, 0, 0), []),
  (17, .goto 8, 3, (25, 0, 0), []),
  (20, .iload_n 2, 1, (0, 0, 0), []),
  (21, .iload 4, 2, (0, 0, 0), []),
  (23, .idiv, 1, (0, 0, 0), []),
  (24, .i2l, 1, (0, 0, 0), []),
  (25, .lreturn, 1, (0, 0, 0), [])]
abbrev am_m83 : am_Mt := (⟨"BookedEmptyModel", "lowest", "(III)J"⟩, prog_12_method_84_code, 5, (some .long), am_P83, 50, 10)
/-- BookedEmptyModel.odds(II)J -/
def am_P84 : List am_E := [(0, .aload_n 0, 1, (0, 0, 0), []),
  (1, .iload_n 1, 1, (0, 0, 0), []),
  (2, .invokevirtual 278, 3, (5, 1, 1), []),
  (5, .ifCond .eq 31, 3, (36, 0, 0), []),
  (8, .aload_n 0, 1, (0, 0, 0), []),
  (9, .iload_n 2, 1, (0, 0, 0), []),
  (10, .iconst 0, 1, (0, 0, 0), []),
  (11, .iconst 1, 1, (0, 0, 0), []),
  (12, .invokevirtual 267, 3, (1, 3, 1), []),
  (15, .ifCond .eq 21, 3, (36, 0, 0), []),
  (18, .aload_n 0, 1, (0, 0, 0), []),
  (19, .aload_n 0, 1, (0, 0, 0), []),
  (20, .iload_n 1, 1, (0, 0, 0), []),
  (21, .iconst 1, 1, (0, 0, 0), []),
  (22, .invokevirtual 380, 3, (47, 2, 1), []),
  (25, .aload_n 0, 1, (0, 0, 0), []),
  (26, .invokevirtual 347, 3, (33, 0, 1), []),
  (29, .iload_n 2, 1, (0, 0, 0), []),
  (30, .invokevirtual 452, 3, (83, 3, 2), []),
  (33, .goto 6, 3, (39, 0, 0), []),
  (36, .ldc2_w 456, 3, (9223372036854775808, 0, 0), []),
  (39, .lreturn, 1, (0, 0, 0), [])]
abbrev am_m84 : am_Mt := (⟨"BookedEmptyModel", "odds", "(II)J"⟩, prog_12_method_85_code, 3, (some .long), am_P84, 50, 10)
/-- BookedEmptyModel.mean(II)J -/
def am_P85 : List am_E := [(0, .aload_n 0, 1, (0, 0, 0), []),
  (1, .iload_n 1, 1, (0, 0, 0), []),
  (2, .iconst 1, 1, (0, 0, 0), []),
  (3, .bipush 20, 2, (0, 0, 0), []),
  (5, .invokevirtual 267, 3, (1, 3, 1), []),
  (8, .ifCond .eq 27, 3, (35, 0, 0), []),
  (11, .aload_n 0, 1, (0, 0, 0), []),
  (12, .iload_n 2, 1, (0, 0, 0), []),
  (13, .iconst 0, 1, (0, 0, 0), []),
  (14, .iconst 1, 1, (0, 0, 0), []),
  (15, .invokevirtual 267, 3, (1, 3, 1), []),
  (18, .ifCond .eq 17, 3, (35, 0, 0), []),
  (21, .aload_n 0, 1, (0, 0, 0), []),
  (22, .aload_n 0, 1, (0, 0, 0), []),
  (23, .iload_n 1, 1, (0, 0, 0), []),
  (24, .invokevirtual 400, 3, (57, 1, 1), []),
  (27, .iload_n 1, 1, (0, 0, 0), []),
  (28, .iload_n 2, 1, (0, 0, 0), []),
  (29, .invokevirtual 452, 3, (83, 3, 2), []),
  (32, .goto 6, 3, (38, 0, 0), []),
  (35, .ldc2_w 456, 3, (9223372036854775808, 0, 0), []),
  (38, .lreturn, 1, (0, 0, 0), [])]
abbrev am_m85 : am_Mt := (⟨"BookedEmptyModel", "mean", "(II)J"⟩, prog_12_method_86_code, 3, (some .long), am_P85, 50, 10)
/-- BookedEmptyModel.plan(II)I -/
def am_P86 : List am_E := [(0, .iload_n 1, 1, (0, 0, 0), []),
  (1, .iconst (-1), 1, (0, 0, 0), []),
  (2, .if_icmp .ne 10, 3, (12, 0, 0), []),
  (5, .aload_n 0, 1, (0, 0, 0), []),
  (6, .iconst 0, 1, (0, 0, 0), []),
  (7, .putfield 147, 3, (50, 45, 0), []),
  (10, .iconst 0, 1, (0, 0, 0), []),
  (11, .ireturn, 1, (0, 0, 0), []),
  (12, .aload_n 0, 1, (0, 0, 0), []),
  (13, .iload_n 1, 1, (0, 0, 0), []),
  (14, .iconst 0, 1, (0, 0, 0), []),
  (15, .iconst 2, 1, (0, 0, 0), []),
  (16, .invokevirtual 267, 3, (1, 3, 1), []),
  (19, .ifCond .eq 29, 3, (48, 0, 0), []),
  (22, .iload_n 1, 1, (0, 0, 0), []),
  (23, .iconst 1, 1, (0, 0, 0), []),
  (24, .if_icmp .ne 11, 3, (35, 0, 0), []),
  (27, .aload_n 0, 1, (0, 0, 0), []),
  (28, .iload_n 2, 1, (0, 0, 0), []),
  (29, .invokevirtual 281, 3, (6, 1, 1), []),
  (32, .ifCond .eq 16, 3, (48, 0, 0), []),
  (35, .iload_n 1, 1, (0, 0, 0), []),
  (36, .iconst 2, 1, (0, 0, 0), []),
  (37, .if_icmp .ne 13, 3, (50, 0, 0), []),
  (40, .aload_n 0, 1, (0, 0, 0), []),
  (41, .iload_n 2, 1, (0, 0, 0), []),
  (42, .invokevirtual 278, 3, (5, 1, 1), []),
  (45, .ifCond .ne 5, 3, (50, 0, 0), []),
  (48, .iconst (-1), 1, (0, 0, 0), []),
  (49, .ireturn, 1, (0, 0, 0), []),
  (50, .aload_n 0, 1, (0, 0, 0), []),
  (51, .getfield 147, 3, (50, 45, 0), []),
  (54, .bipush 8, 2, (0, 0, 0), []),
  (56, .if_icmp .ne 6, 3, (62, 0, 0), []),
  (59, .bipush (-4), 2, (0, 0, 0), []),
  (61, .ireturn, 1, (0, 0, 0), []),
  (62, .aload_n 0, 1, (0, 0, 0), []),
  (63, .getfield 153, 3, (50, 47, 2), []),
  (66, .aload_n 0, 1, (0, 0, 0), []),
  (67, .getfield 147, 3, (50, 45, 0), []),
  (70, .iload_n 1, 1, (0, 0, 0), []),
  (71, .iastore, 1, (0, 0, 0), []),
  (72, .aload_n 0, 1, (0, 0, 0), []),
  (73, .getfield 156, 3, (50, 48, 2), []),
  (76, .aload_n 0, 1, (0, 0, 0), []),
  (77, .getfield 147, 3, (50, 45, 0), []),
  (80, .iload_n 1, 1, (0, 0, 0), []),
  (81, .ifCond .le 7, 3, (88, 0, 0), []),
  (84, .iload_n 2, 1, (0, 0, 0), []),
  (85, .goto 4, 3, (89, 0, 0), []),
  (88, .iconst 0, 1, (0, 0, 0), []),
  (89, .iastore, 1, (0, 0, 0), []),
  (90, .aload_n 0, 1, (0, 0, 0), []),
  (91, .dup, 1, (0, 0, 0), []),
  (92, .getfield 147, 3, (50, 45, 0), []),
  (95, .iconst 1, 1, (0, 0, 0), []),
  (96, .iadd, 1, (0, 0, 0), []),
  (97, .putfield 147, 3, (50, 45, 0), []),
  (100, .aload_n 0, 1, (0, 0, 0), []),
  (101, .getfield 147, 3, (50, 45, 0), []),
  (104, .ireturn, 1, (0, 0, 0), [])]
abbrev am_m86 : am_Mt := (⟨"BookedEmptyModel", "plan", "(II)I"⟩, prog_12_method_87_code, 3, (some .int), am_P86, 50, 10)
/-- BookedEmptyModel.ends(I)I -/
def am_P87 : List am_E := [(0, .aload_n 0, 1, (0, 0, 0), []),
  (1, .iload_n 1, 1, (0, 0, 0), []),
  (2, .iconst 0, 1, (0, 0, 0), []),
  (3, .iconst 1, 1, (0, 0, 0), []),
  (4, .invokevirtual 267, 3, (1, 3, 1), []),
  (7, .ifCond .ne 5, 3, (12, 0, 0), []),
  (10, .iconst (-1), 1, (0, 0, 0), []),
  (11, .ireturn, 1, (0, 0, 0), []),
  (12, .aload_n 0, 1, (0, 0, 0), []),
  (13, .getfield 19, 3, (50, 3, 0), []),
  (16, .istore_n 2, 1, (0, 0, 0), []),
  (17, .iconst 0, 1, (0, 0, 0), []),
  (18, .istore_n 3, 1, (0, 0, 0), []),
  (19, .iload_n 3, 1, (0, 0, 0), []),
  (20, .bipush 6, 2, (0, 0, 0), []),
  (22, .if_icmp .ge 21, 3, (43, 0, 0), []),
  (25, .aload_n 0, 1, (0, 0, 0), []),
  (26, .getfield 165, 3, (50, 51, 2), []),
  (29, .iload_n 3, 1, (0, 0, 0), []),
  (30, .aload_n 0, 1, (0, 0, 0), []),
  (31, .getfield 41, 3, (50, 10, 2), []),
  (34, .iload_n 3, 1, (0, 0, 0), []),
  (35, .iaload, 1, (0, 0, 0), []),
  (36, .iastore, 1, (0, 0, 0), []),
  (37, .iinc 3 1, 3, (0, 0, 0), []),
  (40, .goto (-21), 3, (19, 0, 0), []),
  (43, .iconst 0, 1, (0, 0, 0), []),
  (44, .istore_n 3, 1, (0, 0, 0), []),
  (45, .iload_n 3, 1, (0, 0, 0), []),
  (46, .aload_n 0, 1, (0, 0, 0), []),
  (47, .getfield 147, 3, (50, 45, 0), []),
  (50, .if_icmp .ge 50, 3, (100, 0, 0), []),
  (53, .aload_n 0, 1, (0, 0, 0), []),
  (54, .getfield 153, 3, (50, 47, 2), []),
  (57, .iload_n 3, 1, (0, 0, 0), []),
  (58, .iaload, 1, (0, 0, 0), []),
  (59, .ifCond .ne 13, 3, (72, 0, 0), []),
  (62, .aload_n 0, 1, (0, 0, 0), []),
  (63, .dup, 1, (0, 0, 0), []),
  (64, .getfield 19, 3, (50, 3, 0), []),
  (67, .iconst 1, 1, (0, 0, 0), []),
  (68, .iadd, 1, (0, 0, 0), []),
  (69, .putfield 19, 3, (50, 3, 0), []),
  (72, .aload_n 0, 1, (0, 0, 0), []),
  (73, .getfield 153, 3, (50, 47, 2), []),
  (76, .iload_n 3, 1, (0, 0, 0), []),
  (77, .iaload, 1, (0, 0, 0), []),
  (78, .iconst 1, 1, (0, 0, 0), []),
  (79, .if_icmp .ne 15, 3, (94, 0, 0), []),
  (82, .aload_n 0, 1, (0, 0, 0), []),
  (83, .getfield 41, 3, (50, 10, 2), []),
  (86, .aload_n 0, 1, (0, 0, 0), []),
  (87, .getfield 156, 3, (50, 48, 2), []),
  (90, .iload_n 3, 1, (0, 0, 0), []),
  (91, .iaload, 1, (0, 0, 0), []),
  (92, .iconst 4, 1, (0, 0, 0), []),
  (93, .iastore, 1, (0, 0, 0), []),
  (94, .iinc 3 1, 3, (0, 0, 0), []),
  (97, .goto (-52), 3, (45, 0, 0), []),
  (100, .aload_n 0, 1, (0, 0, 0), []),
  (101, .iload_n 1, 1, (0, 0, 0), []),
  (102, .ifCond .ne 7, 3, (109, 0, 0), []),
  (105, .iconst 1, 1, (0, 0, 0), []),
  (106, .goto 4, 3, (110, 0, 0), []),
  (109, .iconst 0, 1, (0, 0, 0), []),
  (110, .invokevirtual 396, 3, (48, 1, 1), []),
  (113, .istore_n 3, 1, (0, 0, 0), []),
  (114, .aload_n 0, 1, (0, 0, 0), []),
  (115, .iload_n 2, 1, (0, 0, 0), []),
  (116, .putfield 19, 3, (50, 3, 0), []),
  (119, .iconst 0, 1, (0, 0, 0), []),
  (120, .istore 4, 2, (0, 0, 0), []),
  (122, .iload 4, 2, (0, 0, 0), []),
  (124, .bipush 6, 2, (0, 0, 0), []),
  (126, .if_icmp .ge 23, 3, (149, 0, 0), []),
  (129, .aload_n 0, 1, (0, 0, 0), []),
  (130, .getfield 41, 3, (50, 10, 2), []),
  (133, .iload 4, 2, (0, 0, 0), []),
  (135, .aload_n 0, 1, (0, 0, 0), []),
  (136, .getfield 165, 3, (50, 51, 2), []),
  (139, .iload 4, 2, (0, 0, 0), []),
  (141, .iaload, 1, (0, 0, 0), []),
  (142, .iastore, 1, (0, 0, 0), []),
  (143, .iinc 4 1, 3, (0, 0, 0), []),
  (146, .goto (-24), 3, (122, 0, 0), []),
  (149, .iload_n 3, 1, (0, 0, 0), []),
  (150, .ireturn, 1, (0, 0, 0), [])]
abbrev am_m87 : am_Mt := (⟨"BookedEmptyModel", "ends", "(I)I"⟩, prog_12_method_88_code, 5, (some .int), am_P87, 50, 10)
/-- BookedEmptyModel.book(II)I -/
def am_P88 : List am_E := [(0, .iload_n 1, 1, (0, 0, 0), []),
  (1, .iconst (-1), 1, (0, 0, 0), []),
  (2, .if_icmp .ne 10, 3, (12, 0, 0), []),
  (5, .aload_n 0, 1, (0, 0, 0), []),
  (6, .iconst 0, 1, (0, 0, 0), []),
  (7, .putfield 150, 3, (50, 46, 0), []),
  (10, .iconst 0, 1, (0, 0, 0), []),
  (11, .ireturn, 1, (0, 0, 0), []),
  (12, .aload_n 0, 1, (0, 0, 0), []),
  (13, .iload_n 1, 1, (0, 0, 0), []),
  (14, .invokevirtual 281, 3, (6, 1, 1), []),
  (17, .ifCond .eq 16, 3, (33, 0, 0), []),
  (20, .iload_n 2, 1, (0, 0, 0), []),
  (21, .iconst 4, 1, (0, 0, 0), []),
  (22, .if_icmp .eq 13, 3, (35, 0, 0), []),
  (25, .aload_n 0, 1, (0, 0, 0), []),
  (26, .iload_n 2, 1, (0, 0, 0), []),
  (27, .invokevirtual 278, 3, (5, 1, 1), []),
  (30, .ifCond .ne 5, 3, (35, 0, 0), []),
  (33, .iconst (-1), 1, (0, 0, 0), []),
  (34, .ireturn, 1, (0, 0, 0), []),
  (35, .aload_n 0, 1, (0, 0, 0), []),
  (36, .getfield 150, 3, (50, 46, 0), []),
  (39, .bipush 8, 2, (0, 0, 0), []),
  (41, .if_icmp .ne 6, 3, (47, 0, 0), []),
  (44, .bipush (-4), 2, (0, 0, 0), []),
  (46, .ireturn, 1, (0, 0, 0), []),
  (47, .aload_n 0, 1, (0, 0, 0), []),
  (48, .getfield 159, 3, (50, 49, 2), []),
  (51, .aload_n 0, 1, (0, 0, 0), []),
  (52, .getfield 150, 3, (50, 46, 0), []),
  (55, .iload_n 1, 1, (0, 0, 0), []),
  (56, .iastore, 1, (0, 0, 0), []),
  (57, .aload_n 0, 1, (0, 0, 0), []),
  (58, .getfield 162, 3, (50, 50, 2), []),
  (61, .aload_n 0, 1, (0, 0, 0), []),
  (62, .getfield 150, 3, (50, 46, 0), []),
  (65, .iload_n 2, 1, (0, 0, 0), []),
  (66, .iastore, 1, (0, 0, 0), []),
  (67, .aload_n 0, 1, (0, 0, 0), []),
  (68, .dup, 1, (0, 0, 0), []),
  (69, .getfield 150, 3, (50, 46, 0), []),
  (72, .iconst 1, 1, (0, 0, 0), []),
  (73, .iadd, 1, (0, 0, 0), []),
  (74, .putfield 150, 3, (50, 46, 0), []),
  (77, .aload_n 0, 1, (0, 0, 0), []),
  (78, .getfield 150, 3, (50, 46, 0), []),
  (81, .ireturn, 1, (0, 0, 0), [])]
abbrev am_m88 : am_Mt := (⟨"BookedEmptyModel", "book", "(II)I"⟩, prog_12_method_89_code, 3, (some .int), am_P88, 50, 10)
/-- BookedEmptyModel.looked()I -/
def am_P89 : List am_E := [(0, .iconst 0, 1, (0, 0, 0), []),
  (1, .istore_n 1, 1, (0, 0, 0), []),
  (2, .iload_n 1, 1, (0, 0, 0), []),
  (3, .aload_n 0, 1, (0, 0, 0), []),
  (4, .getfield 150, 3, (50, 46, 0), []),
  (7, .if_icmp .ge 31, 3, (38, 0, 0), []),
  (10, .aload_n 0, 1, (0, 0, 0), []),
  (11, .getfield 41, 3, (50, 10, 2), []),
  (14, .aload_n 0, 1, (0, 0, 0), []),
  (15, .getfield 159, 3, (50, 49, 2), []),
  (18, .iload_n 1, 1, (0, 0, 0), []),
  (19, .iaload, 1, (0, 0, 0), []),
  (20, .iaload, 1, (0, 0, 0), []),
  (21, .aload_n 0, 1, (0, 0, 0), []),
  (22, .getfield 162, 3, (50, 50, 2), []),
  (25, .iload_n 1, 1, (0, 0, 0), []),
  (26, .iaload, 1, (0, 0, 0), []),
  (27, .if_icmp .eq 5, 3, (32, 0, 0), []),
  (30, .iload_n 1, 1, (0, 0, 0), []),
  (31, .ireturn, 1, (0, 0, 0), []),
  (32, .iinc 1 1, 3, (0, 0, 0), []),
  (35, .goto (-33), 3, (2, 0, 0), []),
  (38, .bipush (-5), 2, (0, 0, 0), []),
  (40, .ireturn, 1, (0, 0, 0), [])]
abbrev am_m89 : am_Mt := (⟨"BookedEmptyModel", "looked", "()I"⟩, prog_12_method_90_code, 2, (some .int), am_P89, 50, 10)
/-- BookedEmptyModel.judge(II)I -/
def am_P90 : List am_E := [(0, .aload_n 0, 1, (0, 0, 0), []),
  (1, .iload_n 1, 1, (0, 0, 0), []),
  (2, .invokevirtual 458, 3, (105, 1, 1), []),
  (5, .ifCond .ne 5, 3, (10, 0, 0), []),
  (8, .iconst (-1), 1, (0, 0, 0), []),
  (9, .ireturn, 1, (0, 0, 0), []),
  (10, .aload_n 0, 1, (0, 0, 0), []),
  (11, .getfield 250, 3, (50, 79, 2), []),
  (14, .iload_n 1, 1, (0, 0, 0), []),
  (15, .iaload, 1, (0, 0, 0), []),
  (16, .ifCond .le 6, 3, (22, 0, 0), []),
  (19, .bipush (-12), 2, (0, 0, 0), []),
  (21, .ireturn, 1, (0, 0, 0), []),
  (22, .iconst 0, 1, (0, 0, 0), []),
  (23, .istore_n 3, 1, (0, 0, 0), []),
  (24, .iload_n 3, 1, (0, 0, 0), []),
  (25, .aload_n 0, 1, (0, 0, 0), []),
  (26, .getfield 16, 3, (50, 2, 0), []),
  (29, .if_icmp .ge 67, 3, (96, 0, 0), []),
  (32, .aload_n 0, 1, (0, 0, 0), []),
  (33, .getfield 250, 3, (50, 79, 2), []),
  (36, .iload_n 1, 1, (0, 0, 0), []),
  (37, .iaload, 1, (0, 0, 0), []),
  (38, .ifCond .lt 21, 3, (59, 0, 0), []),
  (41, .iload_n 2, 1, (0, 0, 0), []),
  (42, .ifCond .lt 17, 3, (59, 0, 0), []),
  (45, .iload_n 2, 1, (0, 0, 0), []),
  (46, .aload_n 0, 1, (0, 0, 0), []),
  (47, .getfield 253, 3, (50, 80, 2), []),
  (50, .iload_n 1, 1, (0, 0, 0), []),
  (51, .iaload, 1, (0, 0, 0), []),
  (52, .iload_n 3, 1, (0, 0, 0), []),
  (53, .isub, 1, (0, 0, 0), []),
  (54, .iconst 1, 1, (0, 0, 0), []),
  (55, .isub, 1, (0, 0, 0), []),
  (56, .if_icmp .le 8, 3, (64, 0, 0), []),
  (59, .bipush 100, 2, (0, 0, 0), []),
  (61, .iload_n 3, 1, (0, 0, 0), []),
  (62, .iadd, 1, (0, 0, 0), []),
  (63, .ireturn, 1, (0, 0, 0), []),
  (64, .aload_n 0, 1, (0, 0, 0), []),
  (65, .getfield 256, 3, (50, 81, 2), []),
  (68, .bipush 60, 2, (0, 0, 0), []),
  (70, .iload_n 1, 1, (0, 0, 0), []),
  (71, .imul, 1, (0, 0, 0), []),
  (72, .iload_n 2, 1, (0, 0, 0), []),
  (73, .iadd, 1, (0, 0, 0), []),
  (74, .iload_n 3, 1, (0, 0, 0), []),
  (75, .iadd, 1, (0, 0, 0), []),
  (76, .laload, 1, (0, 0, 0), []),
  (77, .aload_n 0, 1, (0, 0, 0), []),
  (78, .getfield 41, 3, (50, 10, 2), []),
  (81, .iload_n 3, 1, (0, 0, 0), []),
  (82, .iaload, 1, (0, 0, 0), []),
  (83, .i2l, 1, (0, 0, 0), []),
  (84, .lcmp, 1, (0, 0, 0), []),
  (85, .ifCond .eq 5, 3, (90, 0, 0), []),
  (88, .iload_n 3, 1, (0, 0, 0), []),
  (89, .ireturn, 1, (0, 0, 0), []),
  (90, .iinc 3 1, 3, (0, 0, 0), []),
  (93, .goto (-69), 3, (24, 0, 0), []),
  (96, .bipush (-5), 2, (0, 0, 0), []),
  (98, .ireturn, 1, (0, 0, 0), [])]
abbrev am_m90 : am_Mt := (⟨"BookedEmptyModel", "judge", "(II)I"⟩, prog_12_method_91_code, 4, (some .int), am_P90, 50, 10)
/-- BookedEmptyModel.image()I -/
def am_P91 : List am_E := [(0, .aload_n 0, 1, (0, 0, 0), []),
  (1, .iconst 1, 1, (0, 0, 0), []),
  (2, .putfield 168, 3, (50, 52, 3), []),
  (5, .aload_n 0, 1, (0, 0, 0), []),
  (6, .aload_n 0, 1, (0, 0, 0), []),
  (7, .getfield 50, 3, (50, 13, 0), []),
  (10, .putfield 172, 3, (50, 53, 0), []),
  (13, .aload_n 0, 1, (0, 0, 0), []),
  (14, .aload_n 0, 1, (0, 0, 0), []),
  (15, .getfield 7, 3, (50, 0, 0), []),
  (18, .putfield 175, 3, (50, 54, 0), []),
  (21, .aload_n 0, 1, (0, 0, 0), []),
  (22, .aload_n 0, 1, (0, 0, 0), []),
  (23, .getfield 13, 3, (50, 1, 0), []),
  (26, .putfield 178, 3, (50, 55, 0), []),
  (29, .aload_n 0, 1, (0, 0, 0), []),
  (30, .aload_n 0, 1, (0, 0, 0), []),
  (31, .getfield 16, 3, (50, 2, 0), []),
  (34, .putfield 181, 3, (50, 56, 0), []),
  (37, .aload_n 0, 1, (0, 0, 0), []),
  (38, .aload_n 0, 1, (0, 0, 0), []),
  (39, .getfield 19, 3, (50, 3, 0), []),
  (42, .putfield 184, 3, (50, 57, 0), []),
  (45, .aload_n 0, 1, (0, 0, 0), []),
  (46, .aload_n 0, 1, (0, 0, 0), []),
  (47, .getfield 132, 3, (50, 40, 0), []),
  (50, .putfield 187, 3, (50, 58, 0), []),
  (53, .aload_n 0, 1, (0, 0, 0), []),
  (54, .aload_n 0, 1, (0, 0, 0), []),
  (55, .getfield 147, 3, (50, 45, 0), []),
  (58, .putfield 190, 3, (50, 59, 0), []),
  (61, .aload_n 0, 1, (0, 0, 0), []),
  (62, .aload_n 0, 1, (0, 0, 0), []),
  (63, .getfield 150, 3, (50, 46, 0), []),
  (66, .putfield 193, 3, (50, 60, 0), []),
  (69, .iconst 0, 1, (0, 0, 0), []),
  (70, .istore_n 1, 1, (0, 0, 0), []),
  (71, .iload_n 1, 1, (0, 0, 0), []),
  (72, .iconst 4, 1, (0, 0, 0), []),
  (73, .if_icmp .ge 21, 3, (94, 0, 0), []),
  (76, .aload_n 0, 1, (0, 0, 0), []),
  (77, .getfield 196, 3, (50, 61, 2), []),
  (80, .iload_n 1, 1, (0, 0, 0), []),
  (81, .aload_n 0, 1, (0, 0, 0), []),
  (82, .getfield 22, 3, (50, 4, 2), []),
  (85, .iload_n 1, 1, (0, 0, 0), []),
  (86, .iaload, 1, (0, 0, 0), []),
  (87, .iastore, 1, (0, 0, 0), []),
  (88, .iinc 1 1, 3, (0, 0, 0), []),
  (91, .goto (-20), 3, (71, 0, 0), []),
  (94, .iconst 0, 1, (0, 0, 0), []),
  (95, .istore_n 1, 1, (0, 0, 0), []),
  (96, .iload_n 1, 1, (0, 0, 0), []),
  (97, .bipush 6, 2, (0, 0, 0), []),
  (99, .if_icmp .ge 129, 3, (228, 0, 0), []),
  (102, .aload_n 0, 1, (0, 0, 0), []),
  (103, .getfield 199, 3, (50, 62, 2), []),
  (106, .iload_n 1, 1, (0, 0, 0), []),
  (107, .aload_n 0, 1, (0, 0, 0), []),
  (108, .getfield 26, 3, (50, 5, 2), []),
  (111, .iload_n 1, 1, (0, 0, 0), []),
  (112, .iaload, 1, (0, 0, 0), []),
  (113, .iastore, 1, (0, 0, 0), []),
  (114, .aload_n 0, 1, (0, 0, 0), []),
  (115, .getfield 202, 3, (50, 63, 2), []),
  (118, .iload_n 1, 1, (0, 0, 0), []),
  (119, .aload_n 0, 1, (0, 0, 0), []),
  (120, .getfield 29, 3, (50, 6, 2), []),
  (123, .iload_n 1, 1, (0, 0, 0), []),
  (124, .iaload, 1, (0, 0, 0), []),
  (125, .iastore, 1, (0, 0, 0), []),
  (126, .aload_n 0, 1, (0, 0, 0), []),
  (127, .getfield 205, 3, (50, 64, 2), []),
  (130, .iload_n 1, 1, (0, 0, 0), []),
  (131, .aload_n 0, 1, (0, 0, 0), []),
  (132, .getfield 32, 3, (50, 7, 2), []),
  (135, .iload_n 1, 1, (0, 0, 0), []),
  (136, .iaload, 1, (0, 0, 0), []),
  (137, .iastore, 1, (0, 0, 0), []),
  (138, .aload_n 0, 1, (0, 0, 0), []),
  (139, .getfield 208, 3, (50, 65, 2), []),
  (142, .iload_n 1, 1, (0, 0, 0), []),
  (143, .aload_n 0, 1, (0, 0, 0), []),
  (144, .getfield 35, 3, (50, 8, 2), []),
  (147, .iload_n 1, 1, (0, 0, 0), []),
  (148, .iaload, 1, (0, 0, 0), []),
  (149, .iastore, 1, (0, 0, 0), []),
  (150, .aload_n 0, 1, (0, 0, 0), []),
  (151, .getfield 211, 3, (50, 66, 2), []),
  (154, .iload_n 1, 1, (0, 0, 0), []),
  (155, .aload_n 0, 1, (0, 0, 0), []),
  (156, .getfield 38, 3, (50, 9, 2), []),
  (159, .iload_n 1, 1, (0, 0, 0), []),
  (160, .iaload, 1, (0, 0, 0), []),
  (161, .iastore, 1, (0, 0, 0), []),
  (162, .aload_n 0, 1, (0, 0, 0), []),
  (163, .getfield 214, 3, (50, 67, 2), []),
  (166, .iload_n 1, 1, (0, 0, 0), []),
  (167, .aload_n 0, 1, (0, 0, 0), []),
  (168, .getfield 41, 3, (50, 10, 2), []),
  (171, .iload_n 1, 1, (0, 0, 0), []),
  (172, .iaload, 1, (0, 0, 0), []),
  (173, .iastore, 1, (0, 0, 0), []),
  (174, .aload_n 0, 1, (0, 0, 0), []),
  (175, .getfield 220, 3, (50, 69, 2), []),
  (178, .iload_n 1, 1, (0, 0, 0), []),
  (179, .aload_n 0, 1, (0, 0, 0), []),
  (180, .getfield 135, 3, (50, 41, 2), []),
  (183, .iload_n 1, 1, (0, 0, 0), []),
  (184, .iaload, 1, (0, 0, 0), []),
  (185, .iastore, 1, (0, 0, 0), []),
  (186, .aload_n 0, 1, (0, 0, 0), []),
  (187, .getfield 223, 3, (50, 70, 2), []),
  (190, .iload_n 1, 1, (0, 0, 0), []),
  (191, .aload_n 0, 1, (0, 0, 0), []),
  (192, .getfield 138, 3, (50, 42, 2), []),
  (195, .iload_n 1, 1, (0, 0, 0), []),
  (196, .iaload, 1, (0, 0, 0), []),
  (197, .iastore, 1, (0, 0, 0), []),
  (198, .aload_n 0, 1, (0, 0, 0), []),
  (199, .getfield 226, 3, (50, 71, 2), []),
  (202, .iload_n 1, 1, (0, 0, 0), []),
  (203, .aload_n 0, 1, (0, 0, 0), []),
  (204, .getfield 141, 3, (50, 43, 2), []),
  (207, .iload_n 1, 1, (0, 0, 0), []),
  (208, .iaload, 1, (0, 0, 0), []),
  (209, .iastore, 1, (0, 0, 0), []),
  (210, .aload_n 0, 1, (0, 0, 0), []),
  (211, .getfield 241, 3, (50, 76, 2), []),
  (214, .iload_n 1, 1, (0, 0, 0), []),
  (215, .aload_n 0, 1, (0, 0, 0), []),
  (216, .getfield 144, 3, (50, 44, 2), []),
  (219, .iload_n 1, 1, (0, 0, 0), []),
  (220, .baload, 1, (0, 0, 0), []),
  (221, .bastore, 1, (0, 0, 0), []),
  (222, .iinc 1 1, 3, (0, 0, 0), []),
  (225, .goto (-129), 3, (96, 0, 0), []),
  (228, .iconst 0, 1, (0, 0, 0), []),
  (229, .istore_n 1, 1, (0, 0, 0), []),
  (230, .iload_n 1, 1, (0, 0, 0), []),
  (231, .bipush 24, 2, (0, 0, 0), []),
  (233, .if_icmp .ge 21, 3, (254, 0, 0), []),
  (236, .aload_n 0, 1, (0, 0, 0), []),
  (237, .getfield 217, 3, (50, 68, 2), []),
  (240, .iload_n 1, 1, (0, 0, 0), []),
  (241, .aload_n 0, 1, (0, 0, 0), []),
  (242, .getfield 44, 3, (50, 11, 2), []),
  (245, .iload_n 1, 1, (0, 0, 0), []),
  (246, .iaload, 1, (0, 0, 0), []),
  (247, .iastore, 1, (0, 0, 0), []),
  (248, .iinc 1 1, 3, (0, 0, 0), []),
  (251, .goto (-21), 3, (230, 0, 0), []),
  (254, .iconst 0, 1, (0, 0, 0), []),
  (255, .istore_n 1, 1, (0, 0, 0), []),
  (256, .iload_n 1, 1, (0, 0, 0), []),
  (257, .bipush 8, 2, (0, 0, 0), []),
  (259, .if_icmp .ge 57, 3, (316, 0, 0), []),
  (262, .aload_n 0, 1, (0, 0, 0), []),
  (263, .getfield 229, 3, (50, 72, 2), []),
  (266, .iload_n 1, 1, (0, 0, 0), []),
  (267, .aload_n 0, 1, (0, 0, 0), []),
  (268, .getfield 153, 3, (50, 47, 2), []),
  (271, .iload_n 1, 1, (0, 0, 0), []),
  (272, .iaload, 1, (0, 0, 0), []),
  (273, .iastore, 1, (0, 0, 0), []),
  (274, .aload_n 0, 1, (0, 0, 0), []),
  (275, .getfield 232, 3, (50, 73, 2), []),
  (278, .iload_n 1, 1, (0, 0, 0), []),
  (279, .aload_n 0, 1, (0, 0, 0), []),
  (280, .getfield 156, 3, (50, 48, 2), []),
  (283, .iload_n 1, 1, (0, 0, 0), []),
  (284, .iaload, 1, (0, 0, 0), []),
  (285, .iastore, 1, (0, 0, 0), []),
  (286, .aload_n 0, 1, (0, 0, 0), []),
  (287, .getfield 235, 3, (50, 74, 2), []),
  (290, .iload_n 1, 1, (0, 0, 0), []),
  (291, .aload_n 0, 1, (0, 0, 0), []),
  (292, .getfield 159, 3, (50, 49, 2), []),
  (295, .iload_n 1, 1, (0, 0, 0), []),
  (296, .iaload, 1, (0, 0, 0), []),
  (297, .iastore, 1, (0, 0, 0), []),
  (298, .aload_n 0, 1, (0, 0, 0), []),
  (299, .getfield 238, 3, (50, 75, 2), []),
  (302, .iload_n 1, 1, (0, 0, 0), []),
  (303, .aload_n 0, 1, (0, 0, 0), []),
  (304, .getfield 162, 3, (50, 50, 2), []),
  (307, .iload_n 1, 1, (0, 0, 0), []),
  (308, .iaload, 1, (0, 0, 0), []),
  (309, .iastore, 1, (0, 0, 0), []),
  (310, .iinc 1 1, 3, (0, 0, 0), []),
  (313, .goto (-57), 3, (256, 0, 0), []),
  (316, .aload_n 0, 1, (0, 0, 0), []),
  (317, .getfield 16, 3, (50, 2, 0), []),
  (320, .ireturn, 1, (0, 0, 0), [])]
abbrev am_m91 : am_Mt := (⟨"BookedEmptyModel", "image", "()I"⟩, prog_12_method_92_code, 2, (some .int), am_P91, 50, 10)
/-- BookedEmptyModel.undo()I -/
def am_P92 : List am_E := [(0, .aload_n 0, 1, (0, 0, 0), []),
  (1, .getfield 168, 3, (50, 52, 3), []),
  (4, .ifCond .ne 6, 3, (10, 0, 0), []),
  (7, .bipush (-3), 2, (0, 0, 0), []),
  (9, .ireturn, 1, (0, 0, 0), []),
  (10, .aload_n 0, 1, (0, 0, 0), []),
  (11, .aload_n 0, 1, (0, 0, 0), []),
  (12, .getfield 172, 3, (50, 53, 0), []),
  (15, .putfield 50, 3, (50, 13, 0), []),
  (18, .aload_n 0, 1, (0, 0, 0), []),
  (19, .aload_n 0, 1, (0, 0, 0), []),
  (20, .getfield 175, 3, (50, 54, 0), []),
  (23, .putfield 7, 3, (50, 0, 0), []),
  (26, .aload_n 0, 1, (0, 0, 0), []),
  (27, .aload_n 0, 1, (0, 0, 0), []),
  (28, .getfield 178, 3, (50, 55, 0), []),
  (31, .putfield 13, 3, (50, 1, 0), []),
  (34, .aload_n 0, 1, (0, 0, 0), []),
  (35, .aload_n 0, 1, (0, 0, 0), []),
  (36, .getfield 181, 3, (50, 56, 0), []),
  (39, .putfield 16, 3, (50, 2, 0), []),
  (42, .aload_n 0, 1, (0, 0, 0), []),
  (43, .aload_n 0, 1, (0, 0, 0), []),
  (44, .getfield 184, 3, (50, 57, 0), []),
  (47, .putfield 19, 3, (50, 3, 0), []),
  (50, .aload_n 0, 1, (0, 0, 0), []),
  (51, .aload_n 0, 1, (0, 0, 0), []),
  (52, .getfield 187, 3, (50, 58, 0), []),
  (55, .putfield 132, 3, (50, 40, 0), []),
  (58, .aload_n 0, 1, (0, 0, 0), []),
  (59, .aload_n 0, 1, (0, 0, 0), []),
  (60, .getfield 190, 3, (50, 59, 0), []),
  (63, .putfield 147, 3, (50, 45, 0), []),
  (66, .aload_n 0, 1, (0, 0, 0), []),
  (67, .aload_n 0, 1, (0, 0, 0), []),
  (68, .getfield 193, 3, (50, 60, 0), []),
  (71, .putfield 150, 3, (50, 46, 0), []),
  (74, .iconst 0, 1, (0, 0, 0), []),
  (75, .istore_n 1, 1, (0, 0, 0), []),
  (76, .iload_n 1, 1, (0, 0, 0), []),
  (77, .iconst 4, 1, (0, 0, 0), []),
  (78, .if_icmp .ge 21, 3, (99, 0, 0), []),
  (81, .aload_n 0, 1, (0, 0, 0), []),
  (82, .getfield 22, 3, (50, 4, 2), []),
  (85, .iload_n 1, 1, (0, 0, 0), []),
  (86, .aload_n 0, 1, (0, 0, 0), []),
  (87, .getfield 196, 3, (50, 61, 2), []),
  (90, .iload_n 1, 1, (0, 0, 0), []),
  (91, .iaload, 1, (0, 0, 0), []),
  (92, .iastore, 1, (0, 0, 0), []),
  (93, .iinc 1 1, 3, (0, 0, 0), []),
  (96, .goto (-20), 3, (76, 0, 0), []),
  (99, .iconst 0, 1, (0, 0, 0), []),
  (100, .istore_n 1, 1, (0, 0, 0), []),
  (101, .iload_n 1, 1, (0, 0, 0), []),
  (102, .bipush 6, 2, (0, 0, 0), []),
  (104, .if_icmp .ge 129, 3, (233, 0, 0), []),
  (107, .aload_n 0, 1, (0, 0, 0), []),
  (108, .getfield 26, 3, (50, 5, 2), []),
  (111, .iload_n 1, 1, (0, 0, 0), []),
  (112, .aload_n 0, 1, (0, 0, 0), []),
  (113, .getfield 199, 3, (50, 62, 2), []),
  (116, .iload_n 1, 1, (0, 0, 0), []),
  (117, .iaload, 1, (0, 0, 0), []),
  (118, .iastore, 1, (0, 0, 0), []),
  (119, .aload_n 0, 1, (0, 0, 0), []),
  (120, .getfield 29, 3, (50, 6, 2), []),
  (123, .iload_n 1, 1, (0, 0, 0), []),
  (124, .aload_n 0, 1, (0, 0, 0), []),
  (125, .getfield 202, 3, (50, 63, 2), []),
  (128, .iload_n 1, 1, (0, 0, 0), []),
  (129, .iaload, 1, (0, 0, 0), []),
  (130, .iastore, 1, (0, 0, 0), []),
  (131, .aload_n 0, 1, (0, 0, 0), []),
  (132, .getfield 32, 3, (50, 7, 2), []),
  (135, .iload_n 1, 1, (0, 0, 0), []),
  (136, .aload_n 0, 1, (0, 0, 0), []),
  (137, .getfield 205, 3, (50, 64, 2), []),
  (140, .iload_n 1, 1, (0, 0, 0), []),
  (141, .iaload, 1, (0, 0, 0), []),
  (142, .iastore, 1, (0, 0, 0), []),
  (143, .aload_n 0, 1, (0, 0, 0), []),
  (144, .getfield 35, 3, (50, 8, 2), []),
  (147, .iload_n 1, 1, (0, 0, 0), []),
  (148, .aload_n 0, 1, (0, 0, 0), []),
  (149, .getfield 208, 3, (50, 65, 2), []),
  (152, .iload_n 1, 1, (0, 0, 0), []),
  (153, .iaload, 1, (0, 0, 0), []),
  (154, .iastore, 1, (0, 0, 0), []),
  (155, .aload_n 0, 1, (0, 0, 0), []),
  (156, .getfield 38, 3, (50, 9, 2), []),
  (159, .iload_n 1, 1, (0, 0, 0), []),
  (160, .aload_n 0, 1, (0, 0, 0), []),
  (161, .getfield 211, 3, (50, 66, 2), []),
  (164, .iload_n 1, 1, (0, 0, 0), []),
  (165, .iaload, 1, (0, 0, 0), []),
  (166, .iastore, 1, (0, 0, 0), []),
  (167, .aload_n 0, 1, (0, 0, 0), []),
  (168, .getfield 41, 3, (50, 10, 2), []),
  (171, .iload_n 1, 1, (0, 0, 0), []),
  (172, .aload_n 0, 1, (0, 0, 0), []),
  (173, .getfield 214, 3, (50, 67, 2), []),
  (176, .iload_n 1, 1, (0, 0, 0), []),
  (177, .iaload, 1, (0, 0, 0), []),
  (178, .iastore, 1, (0, 0, 0), []),
  (179, .aload_n 0, 1, (0, 0, 0), []),
  (180, .getfield 135, 3, (50, 41, 2), []),
  (183, .iload_n 1, 1, (0, 0, 0), []),
  (184, .aload_n 0, 1, (0, 0, 0), []),
  (185, .getfield 220, 3, (50, 69, 2), []),
  (188, .iload_n 1, 1, (0, 0, 0), []),
  (189, .iaload, 1, (0, 0, 0), []),
  (190, .iastore, 1, (0, 0, 0), []),
  (191, .aload_n 0, 1, (0, 0, 0), []),
  (192, .getfield 138, 3, (50, 42, 2), []),
  (195, .iload_n 1, 1, (0, 0, 0), []),
  (196, .aload_n 0, 1, (0, 0, 0), []),
  (197, .getfield 223, 3, (50, 70, 2), []),
  (200, .iload_n 1, 1, (0, 0, 0), []),
  (201, .iaload, 1, (0, 0, 0), []),
  (202, .iastore, 1, (0, 0, 0), []),
  (203, .aload_n 0, 1, (0, 0, 0), []),
  (204, .getfield 141, 3, (50, 43, 2), []),
  (207, .iload_n 1, 1, (0, 0, 0), []),
  (208, .aload_n 0, 1, (0, 0, 0), []),
  (209, .getfield 226, 3, (50, 71, 2), []),
  (212, .iload_n 1, 1, (0, 0, 0), []),
  (213, .iaload, 1, (0, 0, 0), []),
  (214, .iastore, 1, (0, 0, 0), []),
  (215, .aload_n 0, 1, (0, 0, 0), []),
  (216, .getfield 144, 3, (50, 44, 2), []),
  (219, .iload_n 1, 1, (0, 0, 0), []),
  (220, .aload_n 0, 1, (0, 0, 0), []),
  (221, .getfield 241, 3, (50, 76, 2), []),
  (224, .iload_n 1, 1, (0, 0, 0), []),
  (225, .baload, 1, (0, 0, 0), []),
  (226, .bastore, 1, (0, 0, 0), []),
  (227, .iinc 1 1, 3, (0, 0, 0), []),
  (230, .goto (-129), 3, (101, 0, 0), []),
  (233, .iconst 0, 1, (0, 0, 0), []),
  (234, .istore_n 1, 1, (0, 0, 0), []),
  (235, .iload_n 1, 1, (0, 0, 0), []),
  (236, .bipush 24, 2, (0, 0, 0), []),
  (238, .if_icmp .ge 21, 3, (259, 0, 0), []),
  (241, .aload_n 0, 1, (0, 0, 0), []),
  (242, .getfield 44, 3, (50, 11, 2), []),
  (245, .iload_n 1, 1, (0, 0, 0), []),
  (246, .aload_n 0, 1, (0, 0, 0), []),
  (247, .getfield 217, 3, (50, 68, 2), []),
  (250, .iload_n 1, 1, (0, 0, 0), []),
  (251, .iaload, 1, (0, 0, 0), []),
  (252, .iastore, 1, (0, 0, 0), []),
  (253, .iinc 1 1, 3, (0, 0, 0), []),
  (256, .goto (-21), 3, (235, 0, 0), []),
  (259, .iconst 0, 1, (0, 0, 0), []),
  (260, .istore_n 1, 1, (0, 0, 0), []),
  (261, .iload_n 1, 1, (0, 0, 0), []),
  (262, .bipush 8, 2, (0, 0, 0), []),
  (264, .if_icmp .ge 57, 3, (321, 0, 0), []),
  (267, .aload_n 0, 1, (0, 0, 0), []),
  (268, .getfield 153, 3, (50, 47, 2), []),
  (271, .iload_n 1, 1, (0, 0, 0), []),
  (272, .aload_n 0, 1, (0, 0, 0), []),
  (273, .getfield 229, 3, (50, 72, 2), []),
  (276, .iload_n 1, 1, (0, 0, 0), []),
  (277, .iaload, 1, (0, 0, 0), []),
  (278, .iastore, 1, (0, 0, 0), []),
  (279, .aload_n 0, 1, (0, 0, 0), []),
  (280, .getfield 156, 3, (50, 48, 2), []),
  (283, .iload_n 1, 1, (0, 0, 0), []),
  (284, .aload_n 0, 1, (0, 0, 0), []),
  (285, .getfield 232, 3, (50, 73, 2), []),
  (288, .iload_n 1, 1, (0, 0, 0), []),
  (289, .iaload, 1, (0, 0, 0), []),
  (290, .iastore, 1, (0, 0, 0), []),
  (291, .aload_n 0, 1, (0, 0, 0), []),
  (292, .getfield 159, 3, (50, 49, 2), []),
  (295, .iload_n 1, 1, (0, 0, 0), []),
  (296, .aload_n 0, 1, (0, 0, 0), []),
  (297, .getfield 235, 3, (50, 74, 2), []),
  (300, .iload_n 1, 1, (0, 0, 0), []),
  (301, .iaload, 1, (0, 0, 0), []),
  (302, .iastore, 1, (0, 0, 0), []),
  (303, .aload_n 0, 1, (0, 0, 0), []),
  (304, .getfield 162, 3, (50, 50, 2), []),
  (307, .iload_n 1, 1, (0, 0, 0), []),
  (308, .aload_n 0, 1, (0, 0, 0), []),
  (309, .getfield 238, 3, (50, 75, 2), []),
  (312, .iload_n 1, 1, (0, 0, 0), []),
  (313, .iaload, 1, (0, 0, 0), []),
  (314, .iastore, 1, (0, 0, 0), []),
  (315, .iinc 1 1, 3, (0, 0, 0), []),
  (318, .goto (-57), 3, (261, 0, 0), []),
  (321, .aload_n 0, 1, (0, 0, 0), []),
  (322, .getfield 16, 3, (50, 2, 0), []),
  (325, .ireturn, 1, (0, 0, 0), [])]
abbrev am_m92 : am_Mt := (⟨"BookedEmptyModel", "undo", "()I"⟩, prog_12_method_93_code, 2, (some .int), am_P92, 50, 10)
/-- BookedEmptyModel.body(I)V -/
def am_P93 : List am_E := [(0, .aload_n 0, 1, (0, 0, 0), []),
  (1, .getfield 244, 3, (50, 77, 0), []),
  (4, .bipush 20, 2, (0, 0, 0), []),
  (6, .if_icmp .ge 13, 3, (19, 0, 0), []),
  (9, .aload_n 0, 1, (0, 0, 0), []),
  (10, .getfield 247, 3, (50, 78, 2), []),
  (13, .aload_n 0, 1, (0, 0, 0), []),
  (14, .getfield 244, 3, (50, 77, 0), []),
  (17, .iload_n 1, 1, (0, 0, 0), []),
  (18, .iastore, 1, (0, 0, 0), []),
  (19, .aload_n 0, 1, (0, 0, 0), []),
  (20, .dup, 1, (0, 0, 0), []),
  (21, .getfield 244, 3, (50, 77, 0), []),
  (24, .iconst 1, 1, (0, 0, 0), []),
  (25, .iadd, 1, (0, 0, 0), []),
  (26, .putfield 244, 3, (50, 77, 0), []),
  (29, .return_, 1, (0, 0, 0), [])]
abbrev am_m93 : am_Mt := (⟨"BookedEmptyModel", "body", "(I)V"⟩, prog_12_method_94_code, 2, none, am_P93, 50, 10)
/-- BookedEmptyModel.hourKnocks(II)I -/
def am_P94 : List am_E := [(0, .aload_n 0, 1, (0, 0, 0), []),
  (1, .bipush 10, 2, (0, 0, 0), []),
  (3, .invokevirtual 461, 3, (93, 1, 0), []),
  (6, .iload_n 2, 1, (0, 0, 0), []),
  (7, .iload_n 1, 1, (0, 0, 0), []),
  (8, .iadd, 1, (0, 0, 0), []),
  (9, .ireturn, 1, (0, 0, 0), [])]
abbrev am_m94 : am_Mt := (⟨"BookedEmptyModel", "hourKnocks", "(II)I"⟩, prog_12_method_95_code, 3, (some .int), am_P94, 50, 10)
/-- BookedEmptyModel.knocksAct(II)I -/
def am_P95 : List am_E := [(0, .aload_n 0, 1, (0, 0, 0), []),
  (1, .getfield 26, 3, (50, 5, 2), []),
  (4, .iload_n 1, 1, (0, 0, 0), []),
  (5, .iaload, 1, (0, 0, 0), []),
  (6, .tableswitch 83 2 6 #[34, 83, 49, 34, 63], 34, (89, 0, 0), [(2, 40), (3, 89), (4, 55), (5, 40), (6, 69)]),
  (40, .aload_n 0, 1, (0, 0, 0), []),
  (41, .bipush 30, 2, (0, 0, 0), []),
  (43, .invokevirtual 461, 3, (93, 1, 0), []),
  (46, .aload_n 0, 1, (0, 0, 0), []),
  (47, .iload_n 1, 1, (0, 0, 0), []),
  (48, .iload_n 2, 1, (0, 0, 0), []),
  (49, .iconst 3, 1, (0, 0, 0), []),
  (50, .imul, 1, (0, 0, 0), []),
  (51, .invokevirtual 464, 3, (94, 2, 1), []),
  (54, .ireturn, 1, (0, 0, 0), []),
  (55, .aload_n 0, 1, (0, 0, 0), []),
  (56, .bipush 50, 2, (0, 0, 0), []),
  (58, .invokevirtual 461, 3, (93, 1, 0), []),
  (61, .aload_n 0, 1, (0, 0, 0), []),
  (62, .iload_n 1, 1, (0, 0, 0), []),
  (63, .iload_n 2, 1, (0, 0, 0), []),
  (64, .invokevirtual 464, 3, (94, 2, 1), []),
  (67, .ineg, 1, (0, 0, 0), []),
  (68, .ireturn, 1, (0, 0, 0), []),
  (69, .aload_n 0, 1, (0, 0, 0), []),
  (70, .bipush 71, 2, (0, 0, 0), []),
  (72, .invokevirtual 461, 3, (93, 1, 0), []),
  (75, .aload_n 0, 1, (0, 0, 0), []),
  (76, .iload_n 1, 1, (0, 0, 0), []),
  (77, .iload_n 2, 1, (0, 0, 0), []),
  (78, .invokevirtual 464, 3, (94, 2, 1), []),
  (81, .aload_n 0, 1, (0, 0, 0), []),
  (82, .getfield 29, 3, (50, 6, 2), []),
  (85, .iload_n 1, 1, (0, 0, 0), []),
  (86, .iaload, 1, (0, 0, 0), []),
  (87, .ixor, 1, (0, 0, 0), []),
  (88, .ireturn, 1, (0, 0, 0), []),
  (89, .aload_n 0, 1, (0, 0, 0), []),
  (90, .iload_n 1, 1, (0, 0, 0), []),
  (91, .iload_n 2, 1, (0, 0, 0), []),
  (92, .invokevirtual 464, 3, (94, 2, 1), []),
  (95, .ireturn, 1, (0, 0, 0), [])]
abbrev am_m95 : am_Mt := (⟨"BookedEmptyModel", "knocksAct", "(II)I"⟩, prog_12_method_96_code, 3, (some .int), am_P95, 50, 10)
/-- BookedEmptyModel.hourSits(II)I -/
def am_P96 : List am_E := [(0, .aload_n 0, 1, (0, 0, 0), []),
  (1, .bipush 11, 2, (0, 0, 0), []),
  (3, .invokevirtual 461, 3, (93, 1, 0), []),
  (6, .aload_n 0, 1, (0, 0, 0), []),
  (7, .iload_n 1, 1, (0, 0, 0), []),
  (8, .iload_n 2, 1, (0, 0, 0), []),
  (9, .invokevirtual 467, 3, (95, 2, 1), []),
  (12, .aload_n 0, 1, (0, 0, 0), []),
  (13, .getfield 29, 3, (50, 6, 2), []),
  (16, .iload_n 1, 1, (0, 0, 0), []),
  (17, .iaload, 1, (0, 0, 0), []),
  (18, .isub, 1, (0, 0, 0), []),
  (19, .ireturn, 1, (0, 0, 0), [])]
abbrev am_m96 : am_Mt := (⟨"BookedEmptyModel", "hourSits", "(II)I"⟩, prog_12_method_97_code, 3, (some .int), am_P96, 50, 10)
/-- BookedEmptyModel.busySits(II)I -/
def am_P97 : List am_E := [(0, .aload_n 0, 1, (0, 0, 0), []),
  (1, .bipush 20, 2, (0, 0, 0), []),
  (3, .invokevirtual 461, 3, (93, 1, 0), []),
  (6, .aload_n 0, 1, (0, 0, 0), []),
  (7, .iload_n 1, 1, (0, 0, 0), []),
  (8, .iload_n 2, 1, (0, 0, 0), []),
  (9, .invokevirtual 470, 3, (96, 2, 1), []),
  (12, .bipush 6, 2, (0, 0, 0), []),
  (14, .ixor, 1, (0, 0, 0), []),
  (15, .ireturn, 1, (0, 0, 0), [])]
abbrev am_m97 : am_Mt := (⟨"BookedEmptyModel", "busySits", "(II)I"⟩, prog_12_method_98_code, 3, (some .int), am_P97, 50, 10)
/-- BookedEmptyModel.sitsAct(II)I -/
def am_P98 : List am_E := [(0, .aload_n 0, 1, (0, 0, 0), []),
  (1, .getfield 26, 3, (50, 5, 2), []),
  (4, .iload_n 1, 1, (0, 0, 0), []),
  (5, .iaload, 1, (0, 0, 0), []),
  (6, .lookupswitch 78 #[(1, 34), (4, 41), (6, 56)], 34, (84, 0, 0), [(1, 40), (4, 47), (6, 62)]),
  (40, .aload_n 0, 1, (0, 0, 0), []),
  (41, .iload_n 1, 1, (0, 0, 0), []),
  (42, .iload_n 2, 1, (0, 0, 0), []),
  (43, .invokevirtual 473, 3, (97, 2, 1), []),
  (46, .ireturn, 1, (0, 0, 0), []),
  (47, .aload_n 0, 1, (0, 0, 0), []),
  (48, .bipush 51, 2, (0, 0, 0), []),
  (50, .invokevirtual 461, 3, (93, 1, 0), []),
  (53, .aload_n 0, 1, (0, 0, 0), []),
  (54, .iload_n 1, 1, (0, 0, 0), []),
  (55, .iload_n 2, 1, (0, 0, 0), []),
  (56, .iconst 1, 1, (0, 0, 0), []),
  (57, .iadd, 1, (0, 0, 0), []),
  (58, .invokevirtual 473, 3, (97, 2, 1), []),
  (61, .ireturn, 1, (0, 0, 0), []),
  (62, .aload_n 0, 1, (0, 0, 0), []),
  (63, .bipush 70, 2, (0, 0, 0), []),
  (65, .invokevirtual 461, 3, (93, 1, 0), []),
  (68, .aload_n 0, 1, (0, 0, 0), []),
  (69, .iload_n 1, 1, (0, 0, 0), []),
  (70, .iload_n 2, 1, (0, 0, 0), []),
  (71, .invokevirtual 470, 3, (96, 2, 1), []),
  (74, .istore_n 3, 1, (0, 0, 0), []),
  (75, .iload_n 3, 1, (0, 0, 0), []),
  (76, .aload_n 0, 1, (0, 0, 0), []),
  (77, .iload_n 1, 1, (0, 0, 0), []),
  (78, .iconst 2, 1, (0, 0, 0), []),
  (79, .invokevirtual 464, 3, (94, 2, 1), []),
  (82, .iadd, 1, (0, 0, 0), []),
  (83, .ireturn, 1, (0, 0, 0), []),
  (84, .aload_n 0, 1, (0, 0, 0), []),
  (85, .iload_n 1, 1, (0, 0, 0), []),
  (86, .iload_n 2, 1, (0, 0, 0), []),
  (87, .invokevirtual 470, 3, (96, 2, 1), []),
  (90, .ireturn, 1, (0, 0, 0), [])]
abbrev am_m98 : am_Mt := (⟨"BookedEmptyModel", "sitsAct", "(II)I"⟩, prog_12_method_99_code, 4, (some .int), am_P98, 50, 10)
/-- BookedEmptyModel.hourTells(II)I -/
def am_P99 : List am_E := [(0, .aload_n 0, 1, (0, 0, 0), []),
  (1, .bipush 12, 2, (0, 0, 0), []),
  (3, .invokevirtual 461, 3, (93, 1, 0), []),
  (6, .aload_n 0, 1, (0, 0, 0), []),
  (7, .iload_n 1, 1, (0, 0, 0), []),
  (8, .iload_n 2, 1, (0, 0, 0), []),
  (9, .invokevirtual 476, 3, (98, 2, 1), []),
  (12, .iconst 2, 1, (0, 0, 0), []),
  (13, .imul, 1, (0, 0, 0), []),
  (14, .ireturn, 1, (0, 0, 0), [])]
abbrev am_m99 : am_Mt := (⟨"BookedEmptyModel", "hourTells", "(II)I"⟩, prog_12_method_100_code, 3, (some .int), am_P99, 50, 10)
/-- BookedEmptyModel.tellsAct(II)I -/
def am_P100 : List am_E := [(0, .aload_n 0, 1, (0, 0, 0), []),
  (1, .getfield 26, 3, (50, 5, 2), []),
  (4, .iload_n 1, 1, (0, 0, 0), []),
  (5, .iaload, 1, (0, 0, 0), []),
  (6, .tableswitch 67 3 6 #[30, 67, 52, 30], 30, (73, 0, 0), [(3, 36), (4, 73), (5, 58), (6, 36)]),
  (36, .aload_n 0, 1, (0, 0, 0), []),
  (37, .bipush 40, 2, (0, 0, 0), []),
  (39, .invokevirtual 461, 3, (93, 1, 0), []),
  (42, .aload_n 0, 1, (0, 0, 0), []),
  (43, .iload_n 1, 1, (0, 0, 0), []),
  (44, .iload_n 2, 1, (0, 0, 0), []),
  (45, .invokevirtual 479, 3, (99, 2, 1), []),
  (48, .istore_n 3, 1, (0, 0, 0), []),
  (49, .iload_n 3, 1, (0, 0, 0), []),
  (50, .aload_n 0, 1, (0, 0, 0), []),
  (51, .iload_n 1, 1, (0, 0, 0), []),
  (52, .iconst 1, 1, (0, 0, 0), []),
  (53, .invokevirtual 476, 3, (98, 2, 1), []),
  (56, .iadd, 1, (0, 0, 0), []),
  (57, .ireturn, 1, (0, 0, 0), []),
  (58, .aload_n 0, 1, (0, 0, 0), []),
  (59, .bipush 60, 2, (0, 0, 0), []),
  (61, .invokevirtual 461, 3, (93, 1, 0), []),
  (64, .aload_n 0, 1, (0, 0, 0), []),
  (65, .iload_n 1, 1, (0, 0, 0), []),
  (66, .iload_n 2, 1, (0, 0, 0), []),
  (67, .iload_n 1, 1, (0, 0, 0), []),
  (68, .isub, 1, (0, 0, 0), []),
  (69, .invokevirtual 479, 3, (99, 2, 1), []),
  (72, .ireturn, 1, (0, 0, 0), []),
  (73, .aload_n 0, 1, (0, 0, 0), []),
  (74, .iload_n 1, 1, (0, 0, 0), []),
  (75, .iload_n 2, 1, (0, 0, 0), []),
  (76, .invokevirtual 479, 3, (99, 2, 1), []),
  (79, .ireturn, 1, (0, 0, 0), [])]
abbrev am_m100 : am_Mt := (⟨"BookedEmptyModel", "tellsAct", "(II)I"⟩, prog_12_method_101_code, 4, (some .int), am_P100, 50, 10)
/-- BookedEmptyModel.act(III)I -/
def am_P101 : List am_E := [(0, .aload_n 0, 1, (0, 0, 0), []),
  (1, .iconst 0, 1, (0, 0, 0), []),
  (2, .putfield 244, 3, (50, 77, 0), []),
  (5, .aload_n 0, 1, (0, 0, 0), []),
  (6, .iload_n 1, 1, (0, 0, 0), []),
  (7, .invokevirtual 281, 3, (6, 1, 1), []),
  (10, .ifCond .eq 13, 3, (23, 0, 0), []),
  (13, .aload_n 0, 1, (0, 0, 0), []),
  (14, .iload_n 2, 1, (0, 0, 0), []),
  (15, .iconst 0, 1, (0, 0, 0), []),
  (16, .iconst 2, 1, (0, 0, 0), []),
  (17, .invokevirtual 267, 3, (1, 3, 1), []),
  (20, .ifCond .ne 5, 3, (25, 0, 0), []),
  (23, .iconst 0, 1, (0, 0, 0), []),
  (24, .ireturn, 1, (0, 0, 0), []),
  (25, .iload_n 2, 1, (0, 0, 0), []),
  (26, .ifCond .ne 12, 3, (38, 0, 0), []),
  (29, .aload_n 0, 1, (0, 0, 0), []),
  (30, .iload_n 1, 1, (0, 0, 0), []),
  (31, .iload_n 3, 1, (0, 0, 0), []),
  (32, .invokevirtual 467, 3, (95, 2, 1), []),
  (35, .goto 23, 3, (58, 0, 0), []),
  (38, .iload_n 2, 1, (0, 0, 0), []),
  (39, .iconst 1, 1, (0, 0, 0), []),
  (40, .if_icmp .ne 12, 3, (52, 0, 0), []),
  (43, .aload_n 0, 1, (0, 0, 0), []),
  (44, .iload_n 1, 1, (0, 0, 0), []),
  (45, .iload_n 3, 1, (0, 0, 0), []),
  (46, .invokevirtual 476, 3, (98, 2, 1), []),
  (49, .goto 9, 3, (58, 0, 0), []),
  (52, .aload_n 0, 1, (0, 0, 0), []),
  (53, .iload_n 1, 1, (0, 0, 0), []),
  (54, .iload_n 3, 1, (0, 0, 0), []),
  (55, .invokevirtual 482, 3, (100, 2, 1), []),
  (58, .ireturn, 1, (0, 0, 0), [])]
abbrev am_m101 : am_Mt := (⟨"BookedEmptyModel", "act", "(III)I"⟩, prog_12_method_102_code, 4, (some .int), am_P101, 50, 10)
/-- BookedEmptyModel.trace(I)I -/
def am_P102 : List am_E := [(0, .aload_n 0, 1, (0, 0, 0), []),
  (1, .iload_n 1, 1, (0, 0, 0), []),
  (2, .iconst 0, 1, (0, 0, 0), []),
  (3, .bipush 19, 2, (0, 0, 0), []),
  (5, .invokevirtual 267, 3, (1, 3, 1), []),
  (8, .ifCond .eq 20, 3, (28, 0, 0), []),
  (11, .iload_n 1, 1, (0, 0, 0), []),
  (12, .aload_n 0, 1, (0, 0, 0), []),
  (13, .getfield 244, 3, (50, 77, 0), []),
  (16, .if_icmp .ge 12, 3, (28, 0, 0), []),
  (19, .aload_n 0, 1, (0, 0, 0), []),
  (20, .getfield 247, 3, (50, 78, 2), []),
  (23, .iload_n 1, 1, (0, 0, 0), []),
  (24, .iaload, 1, (0, 0, 0), []),
  (25, .goto 4, 3, (29, 0, 0), []),
  (28, .iconst (-1), 1, (0, 0, 0), []),
  (29, .ireturn, 1, (0, 0, 0), [])]
abbrev am_m102 : am_Mt := (⟨"BookedEmptyModel", "trace", "(I)I"⟩, prog_12_method_103_code, 2, (some .int), am_P102, 50, 10)
/-- BookedEmptyModel.taken(II)I -/
def am_P103 : List am_E := [(0, .aload_n 0, 1, (0, 0, 0), []),
  (1, .iload_n 2, 1, (0, 0, 0), []),
  (2, .iconst 0, 1, (0, 0, 0), []),
  (3, .bipush 6, 2, (0, 0, 0), []),
  (5, .invokevirtual 267, 3, (1, 3, 1), []),
  (8, .ifCond .ne 6, 3, (14, 0, 0), []),
  (11, .bipush (-2), 2, (0, 0, 0), []),
  (13, .ireturn, 1, (0, 0, 0), []),
  (14, .aload_n 0, 1, (0, 0, 0), []),
  (15, .iload_n 1, 1, (0, 0, 0), []),
  (16, .invokevirtual 281, 3, (6, 1, 1), []),
  (19, .ifCond .ne 6, 3, (25, 0, 0), []),
  (22, .bipush (-11), 2, (0, 0, 0), []),
  (24, .ireturn, 1, (0, 0, 0), []),
  (25, .aload_n 0, 1, (0, 0, 0), []),
  (26, .getfield 26, 3, (50, 5, 2), []),
  (29, .iload_n 1, 1, (0, 0, 0), []),
  (30, .iaload, 1, (0, 0, 0), []),
  (31, .istore_n 3, 1, (0, 0, 0), []),
  (32, .iload_n 2, 1, (0, 0, 0), []),
  (33, .ifCond .eq 39, 3, (72, 0, 0), []),
  (36, .iload_n 3, 1, (0, 0, 0), []),
  (37, .iload_n 2, 1, (0, 0, 0), []),
  (38, .if_icmp .eq 34, 3, (72, 0, 0), []),
  (41, .iload_n 2, 1, (0, 0, 0), []),
  (42, .iconst 1, 1, (0, 0, 0), []),
  (43, .if_icmp .ne 8, 3, (51, 0, 0), []),
  (46, .iload_n 3, 1, (0, 0, 0), []),
  (47, .iconst 4, 1, (0, 0, 0), []),
  (48, .if_icmp .eq 24, 3, (72, 0, 0), []),
  (51, .iload_n 2, 1, (0, 0, 0), []),
  (52, .iconst 2, 1, (0, 0, 0), []),
  (53, .if_icmp .ne 8, 3, (61, 0, 0), []),
  (56, .iload_n 3, 1, (0, 0, 0), []),
  (57, .iconst 5, 1, (0, 0, 0), []),
  (58, .if_icmp .eq 14, 3, (72, 0, 0), []),
  (61, .iload_n 2, 1, (0, 0, 0), []),
  (62, .iconst 3, 1, (0, 0, 0), []),
  (63, .if_icmp .ne 13, 3, (76, 0, 0), []),
  (66, .iload_n 3, 1, (0, 0, 0), []),
  (67, .bipush 6, 2, (0, 0, 0), []),
  (69, .if_icmp .ne 7, 3, (76, 0, 0), []),
  (72, .iload_n 3, 1, (0, 0, 0), []),
  (73, .goto 5, 3, (78, 0, 0), []),
  (76, .bipush (-12), 2, (0, 0, 0), []),
  (78, .ireturn, 1, (0, 0, 0), [])]
abbrev am_m103 : am_Mt := (⟨"BookedEmptyModel", "taken", "(II)I"⟩, prog_12_method_104_code, 4, (some .int), am_P103, 50, 10)
/-- BookedEmptyModel.count(I)I -/
def am_P104 : List am_E := [(0, .iload_n 1, 1, (0, 0, 0), []),
  (1, .tableswitch 87 0 7 #[47, 52, 57, 62, 67, 72, 77, 82], 47, (88, 0, 0), [(0, 48), (1, 53), (2, 58), (3, 63), (4, 68), (5, 73), (6, 78), (7, 83)]),
  (48, .aload_n 0, 1, (0, 0, 0), []),
  (49, .getfield 16, 3, (50, 2, 0), []),
  (52, .ireturn, 1, (0, 0, 0), []),
  (53, .aload_n 0, 1, (0, 0, 0), []),
  (54, .getfield 7, 3, (50, 0, 0), []),
  (57, .ireturn, 1, (0, 0, 0), []),
  (58, .aload_n 0, 1, (0, 0, 0), []),
  (59, .getfield 47, 3, (50, 12, 0), []),
  (62, .ireturn, 1, (0, 0, 0), []),
  (63, .aload_n 0, 1, (0, 0, 0), []),
  (64, .getfield 132, 3, (50, 40, 0), []),
  (67, .ireturn, 1, (0, 0, 0), []),
  (68, .aload_n 0, 1, (0, 0, 0), []),
  (69, .getfield 147, 3, (50, 45, 0), []),
  (72, .ireturn, 1, (0, 0, 0), []),
  (73, .aload_n 0, 1, (0, 0, 0), []),
  (74, .getfield 150, 3, (50, 46, 0), []),
  (77, .ireturn, 1, (0, 0, 0), []),
  (78, .aload_n 0, 1, (0, 0, 0), []),
  (79, .getfield 53, 3, (50, 14, 0), []),
  (82, .ireturn, 1, (0, 0, 0), []),
  (83, .aload_n 0, 1, (0, 0, 0), []),
  (84, .getfield 244, 3, (50, 77, 0), []),
  (87, .ireturn, 1, (0, 0, 0), []),
  (88, .bipush (-2), 2, (0, 0, 0), []),
  (90, .ireturn, 1, (0, 0, 0), [])]
abbrev am_m104 : am_Mt := (⟨"BookedEmptyModel", "count", "(I)I"⟩, prog_12_method_105_code, 2, (some .int), am_P104, 50, 10)
/-- BookedEmptyModel.isTape(I)Z -/
def am_P105 : List am_E := [(0, .aload_n 0, 1, (0, 0, 0), []),
  (1, .iload_n 1, 1, (0, 0, 0), []),
  (2, .iconst 0, 1, (0, 0, 0), []),
  (3, .iconst 5, 1, (0, 0, 0), []),
  (4, .invokevirtual 267, 3, (1, 3, 1), []),
  (7, .ireturn, 1, (1, 0, 0), [])]
abbrev am_m105 : am_Mt := (⟨"BookedEmptyModel", "isTape", "(I)Z"⟩, prog_12_method_106_code, 2, (some .boolean), am_P105, 50, 10)
/-- BookedEmptyModel.tape(III)I -/
def am_P106 : List am_E := [(0, .aload_n 0, 1, (0, 0, 0), []),
  (1, .iload_n 1, 1, (0, 0, 0), []),
  (2, .invokevirtual 458, 3, (105, 1, 1), []),
  (5, .ifCond .ne 5, 3, (10, 0, 0), []),
  (8, .iconst (-1), 1, (0, 0, 0), []),
  (9, .ireturn, 1, (0, 0, 0), []),
  (10, .aload_n 0, 1, (0, 0, 0), []),
  (11, .iload_n 2, 1, (0, 0, 0), []),
  (12, .iconst (-1), 1, (0, 0, 0), []),
  (13, .iconst 4, 1, (0, 0, 0), []),
  (14, .invokevirtual 267, 3, (1, 3, 1), []),
  (17, .ifCond .eq 13, 3, (30, 0, 0), []),
  (20, .iload_n 2, 1, (0, 0, 0), []),
  (21, .ifCond .lt 12, 3, (33, 0, 0), []),
  (24, .iload_n 3, 1, (0, 0, 0), []),
  (25, .bipush 60, 2, (0, 0, 0), []),
  (27, .if_icmp .le 6, 3, (33, 0, 0), []),
  (30, .bipush (-2), 2, (0, 0, 0), []),
  (32, .ireturn, 1, (0, 0, 0), []),
  (33, .iload_n 2, 1, (0, 0, 0), []),
  (34, .ifCond .lt 10, 3, (44, 0, 0), []),
  (37, .iload_n 3, 1, (0, 0, 0), []),
  (38, .ifCond .ge 6, 3, (44, 0, 0), []),
  (41, .bipush (-14), 2, (0, 0, 0), []),
  (43, .ireturn, 1, (0, 0, 0), []),
  (44, .aload_n 0, 1, (0, 0, 0), []),
  (45, .getfield 250, 3, (50, 79, 2), []),
  (48, .iload_n 1, 1, (0, 0, 0), []),
  (49, .iload_n 2, 1, (0, 0, 0), []),
  (50, .iastore, 1, (0, 0, 0), []),
  (51, .aload_n 0, 1, (0, 0, 0), []),
  (52, .getfield 253, 3, (50, 80, 2), []),
  (55, .iload_n 1, 1, (0, 0, 0), []),
  (56, .iload_n 2, 1, (0, 0, 0), []),
  (57, .ifCond .ge 7, 3, (64, 0, 0), []),
  (60, .iconst 0, 1, (0, 0, 0), []),
  (61, .goto 4, 3, (65, 0, 0), []),
  (64, .iload_n 3, 1, (0, 0, 0), []),
  (65, .iastore, 1, (0, 0, 0), []),
  (66, .iconst 0, 1, (0, 0, 0), []),
  (67, .istore 4, 2, (0, 0, 0), []),
  (69, .iload 4, 2, (0, 0, 0), []),
  (71, .bipush 60, 2, (0, 0, 0), []),
  (73, .if_icmp .ge 22, 3, (95, 0, 0), []),
  (76, .aload_n 0, 1, (0, 0, 0), []),
  (77, .getfield 256, 3, (50, 81, 2), []),
  (80, .bipush 60, 2, (0, 0, 0), []),
  (82, .iload_n 1, 1, (0, 0, 0), []),
  (83, .imul, 1, (0, 0, 0), []),
  (84, .iload 4, 2, (0, 0, 0), []),
  (86, .iadd, 1, (0, 0, 0), []),
  (87, .lconst 0, 1, (0, 0, 0), []),
  (88, .lastore, 1, (0, 0, 0), []),
  (89, .iinc 4 1, 3, (0, 0, 0), []),
  (92, .goto (-23), 3, (69, 0, 0), []),
  (95, .iconst 1, 1, (0, 0, 0), []),
  (96, .ireturn, 1, (0, 0, 0), [])]
abbrev am_m106 : am_Mt := (⟨"BookedEmptyModel", "tape", "(III)I"⟩, prog_12_method_107_code, 5, (some .int), am_P106, 50, 10)
/-- BookedEmptyModel.narrow(IJ)J -/
def am_P107 : List am_E := [(0, .iload_n 1, 1, (0, 0, 0), []),
  (1, .ifCond .ne 10, 3, (11, 0, 0), []),
  (4, .lload_n 2, 1, (0, 0, 0), []),
  (5, .l2i, 1, (0, 0, 0), []),
  (6, .i2b, 1, (0, 0, 0), []),
  (7, .i2l, 1, (0, 0, 0), []),
  (8, .goto 46, 3, (54, 0, 0), []),
  (11, .iload_n 1, 1, (0, 0, 0), []),
  (12, .iconst 1, 1, (0, 0, 0), []),
  (13, .if_icmp .ne 10, 3, (23, 0, 0), []),
  (16, .lload_n 2, 1, (0, 0, 0), []),
  (17, .l2i, 1, (0, 0, 0), []),
  (18, .i2s, 1, (0, 0, 0), []),
  (19, .i2l, 1, (0, 0, 0), []),
  (20, .goto 34, 3, (54, 0, 0), []),
  (23, .iload_n 1, 1, (0, 0, 0), []),
  (24, .iconst 2, 1, (0, 0, 0), []),
  (25, .if_icmp .ne 9, 3, (34, 0, 0), []),
  (28, .lload_n 2, 1, (0, 0, 0), []),
  (29, .l2i, 1, (0, 0, 0), []),
  (30, .i2l, 1, (0, 0, 0), []),
  (31, .goto 23, 3, (54, 0, 0), []),
  (34, .iload_n 1, 1, (0, 0, 0), []),
  (35, .iconst 4, 1, (0, 0, 0), []),
  (36, .if_icmp .ne 17, 3, (53, 0, 0), []),
  (39, .lload_n 2, 1, (0, 0, 0), []),
  (40, .lconst 0, 1, (0, 0, 0), []),
  (41, .lcmp, 1, (0, 0, 0), []),
  (42, .ifCond .eq 7, 3, (49, 0, 0), []),
  (45, .lconst 1, 1, (0, 0, 0), []),
  (46, .goto 8, 3, (54, 0, 0), []),
  (49, .lconst 0, 1, (0, 0, 0), []),
  (50, .goto 4, 3, (54, 0, 0), []),
  (53, .lload_n 2, 1, (0, 0, 0), []),
  (54, .lreturn, 1, (0, 0, 0), [])]
abbrev am_m107 : am_Mt := (⟨"BookedEmptyModel", "narrow", "(IJ)J"⟩, prog_12_method_108_code, 4, (some .long), am_P107, 50, 10)
/-- BookedEmptyModel.item(IIJ)I -/
def am_P108 : List am_E := [(0, .aload_n 0, 1, (0, 0, 0), []),
  (1, .iload_n 1, 1, (0, 0, 0), []),
  (2, .invokevirtual 458, 3, (105, 1, 1), []),
  (5, .ifCond .ne 5, 3, (10, 0, 0), []),
  (8, .iconst (-1), 1, (0, 0, 0), []),
  (9, .ireturn, 1, (0, 0, 0), []),
  (10, .aload_n 0, 1, (0, 0, 0), []),
  (11, .getfield 250, 3, (50, 79, 2), []),
  (14, .iload_n 1, 1, (0, 0, 0), []),
  (15, .iaload, 1, (0, 0, 0), []),
  (16, .ifCond .ge 6, 3, (22, 0, 0), []),
  (19, .bipush (-11), 2, (0, 0, 0), []),
  (21, .ireturn, 1, (0, 0, 0), []),
  (22, .aload_n 0, 1, (0, 0, 0), []),
  (23, .iload_n 2, 1, (0, 0, 0), []),
  (24, .iconst 0, 1, (0, 0, 0), []),
  (25, .aload_n 0, 1, (0, 0, 0), []),
  (26, .getfield 253, 3, (50, 80, 2), []),
  (29, .iload_n 1, 1, (0, 0, 0), []),
  (30, .iaload, 1, (0, 0, 0), []),
  (31, .iconst 1, 1, (0, 0, 0), []),
  (32, .isub, 1, (0, 0, 0), []),
  (33, .invokevirtual 267, 3, (1, 3, 1), []),
  (36, .ifCond .ne 6, 3, (42, 0, 0), []),
  (39, .bipush (-13), 2, (0, 0, 0), []),
  (41, .ireturn, 1, (0, 0, 0), []),
  (42, .aload_n 0, 1, (0, 0, 0), []),
  (43, .getfield 256, 3, (50, 81, 2), []),
  (46, .bipush 60, 2, (0, 0, 0), []),
  (48, .iload_n 1, 1, (0, 0, 0), []),
  (49, .imul, 1, (0, 0, 0), []),
  (50, .iload_n 2, 1, (0, 0, 0), []),
  (51, .iadd, 1, (0, 0, 0), []),
  (52, .aload_n 0, 1, (0, 0, 0), []),
  (53, .aload_n 0, 1, (0, 0, 0), []),
  (54, .getfield 250, 3, (50, 79, 2), []),
  (57, .iload_n 1, 1, (0, 0, 0), []),
  (58, .iaload, 1, (0, 0, 0), []),
  (59, .lload_n 3, 1, (0, 0, 0), []),
  (60, .invokevirtual 485, 3, (107, 2, 2), []),
  (63, .lastore, 1, (0, 0, 0), []),
  (64, .iconst 1, 1, (0, 0, 0), []),
  (65, .ireturn, 1, (0, 0, 0), [])]
abbrev am_m108 : am_Mt := (⟨"BookedEmptyModel", "item", "(IIJ)I"⟩, prog_12_method_109_code, 5, (some .int), am_P108, 50, 10)
/-- BookedEmptyModel.read(II)J -/
def am_P109 : List am_E := [(0, .aload_n 0, 1, (0, 0, 0), []),
  (1, .iload_n 1, 1, (0, 0, 0), []),
  (2, .invokevirtual 458, 3, (105, 1, 1), []),
  (5, .ifCond .eq 29, 3, (34, 0, 0), []),
  (8, .aload_n 0, 1, (0, 0, 0), []),
  (9, .getfield 250, 3, (50, 79, 2), []),
  (12, .iload_n 1, 1, (0, 0, 0), []),
  (13, .iaload, 1, (0, 0, 0), []),
  (14, .ifCond .lt 20, 3, (34, 0, 0), []),
  (17, .aload_n 0, 1, (0, 0, 0), []),
  (18, .iload_n 2, 1, (0, 0, 0), []),
  (19, .iconst 0, 1, (0, 0, 0), []),
  (20, .aload_n 0, 1, (0, 0, 0), []),
  (21, .getfield 253, 3, (50, 80, 2), []),
  (24, .iload_n 1, 1, (0, 0, 0), []),
  (25, .iaload, 1, (0, 0, 0), []),
  (26, .iconst 1, 1, (0, 0, 0), []),
  (27, .isub, 1, (0, 0, 0), []),
  (28, .invokevirtual 267, 3, (1, 3, 1), []),
  (31, .ifCond .ne 9, 3, (40, 0, 0), []),
  (34, .ldc2_w 456, 3, (9223372036854775808, 0, 0), []),
  (37, .goto 14, 3, (51, 0, 0), []),
  (40, .aload_n 0, 1, (0, 0, 0), []),
  (41, .getfield 256, 3, (50, 81, 2), []),
  (44, .bipush 60, 2, (0, 0, 0), []),
  (46, .iload_n 1, 1, (0, 0, 0), []),
  (47, .imul, 1, (0, 0, 0), []),
  (48, .iload_n 2, 1, (0, 0, 0), []),
  (49, .iadd, 1, (0, 0, 0), []),
  (50, .laload, 1, (0, 0, 0), []),
  (51, .lreturn, 1, (0, 0, 0), [])]
abbrev am_m109 : am_Mt := (⟨"BookedEmptyModel", "read", "(II)J"⟩, prog_12_method_110_code, 3, (some .long), am_P109, 50, 10)
/-- BookedEmptyModel.shift(IIIII)I -/
def am_P110 : List am_E := [(0, .aload_n 0, 1, (0, 0, 0), []),
  (1, .iload_n 1, 1, (0, 0, 0), []),
  (2, .invokevirtual 458, 3, (105, 1, 1), []),
  (5, .ifCond .eq 11, 3, (16, 0, 0), []),
  (8, .aload_n 0, 1, (0, 0, 0), []),
  (9, .iload_n 3, 1, (0, 0, 0), []),
  (10, .invokevirtual 458, 3, (105, 1, 1), []),
  (13, .ifCond .ne 5, 3, (18, 0, 0), []),
  (16, .iconst (-1), 1, (0, 0, 0), []),
  (17, .ireturn, 1, (0, 0, 0), []),
  (18, .aload_n 0, 1, (0, 0, 0), []),
  (19, .getfield 250, 3, (50, 79, 2), []),
  (22, .iload_n 1, 1, (0, 0, 0), []),
  (23, .iaload, 1, (0, 0, 0), []),
  (24, .ifCond .lt 12, 3, (36, 0, 0), []),
  (27, .aload_n 0, 1, (0, 0, 0), []),
  (28, .getfield 250, 3, (50, 79, 2), []),
  (31, .iload_n 3, 1, (0, 0, 0), []),
  (32, .iaload, 1, (0, 0, 0), []),
  (33, .ifCond .ge 6, 3, (39, 0, 0), []),
  (36, .bipush (-11), 2, (0, 0, 0), []),
  (38, .ireturn, 1, (0, 0, 0), []),
  (39, .aload_n 0, 1, (0, 0, 0), []),
  (40, .getfield 250, 3, (50, 79, 2), []),
  (43, .iload_n 1, 1, (0, 0, 0), []),
  (44, .iaload, 1, (0, 0, 0), []),
  (45, .aload_n 0, 1, (0, 0, 0), []),
  (46, .getfield 250, 3, (50, 79, 2), []),
  (49, .iload_n 3, 1, (0, 0, 0), []),
  (50, .iaload, 1, (0, 0, 0), []),
  (51, .if_icmp .eq 6, 3, (57, 0, 0), []),
  (54, .bipush (-12), 2, (0, 0, 0), []),
  (56, .ireturn, 1, (0, 0, 0), []),
  (57, .iload 5, 2, (0, 0, 0), []),
  (59, .ifCond .lt 39, 3, (98, 0, 0), []),
  (62, .iload_n 2, 1, (0, 0, 0), []),
  (63, .ifCond .lt 35, 3, (98, 0, 0), []),
  (66, .iload 4, 2, (0, 0, 0), []),
  (68, .ifCond .lt 30, 3, (98, 0, 0), []),
  (71, .iload_n 2, 1, (0, 0, 0), []),
  (72, .aload_n 0, 1, (0, 0, 0), []),
  (73, .getfield 253, 3, (50, 80, 2), []),
  (76, .iload_n 1, 1, (0, 0, 0), []),
  (77, .iaload, 1, (0, 0, 0), []),
  (78, .iload 5, 2, (0, 0, 0), []),
  (80, .isub, 1, (0, 0, 0), []),
  (81, .if_icmp .gt 17, 3, (98, 0, 0), []),
  (84, .iload 4, 2, (0, 0, 0), []),
  (86, .aload_n 0, 1, (0, 0, 0), []),
  (87, .getfield 253, 3, (50, 80, 2), []),
  (90, .iload_n 3, 1, (0, 0, 0), []),
  (91, .iaload, 1, (0, 0, 0), []),
  (92, .iload 5, 2, (0, 0, 0), []),
  (94, .isub, 1, (0, 0, 0), []),
  (95, .if_icmp .le 6, 3, (101, 0, 0), []),
  (98, .bipush (-13), 2, (0, 0, 0), []),
  (100, .ireturn, 1, (0, 0, 0), []),
  (101, .iconst 0, 1, (0, 0, 0), []),
  (102, .istore 6, 2, (0, 0, 0), []),
  (104, .iload 6, 2, (0, 0, 0), []),
  (106, .iload 5, 2, (0, 0, 0), []),
  (108, .if_icmp .ge 30, 3, (138, 0, 0), []),
  (111, .aload_n 0, 1, (0, 0, 0), []),
  (112, .getfield 260, 3, (50, 82, 2), []),
  (115, .iload 6, 2, (0, 0, 0), []),
  (117, .aload_n 0, 1, (0, 0, 0), []),
  (118, .getfield 256, 3, (50, 81, 2), []),
  (121, .bipush 60, 2, (0, 0, 0), []),
  (123, .iload_n 1, 1, (0, 0, 0), []),
  (124, .imul, 1, (0, 0, 0), []),
  (125, .iload_n 2, 1, (0, 0, 0), []),
  (126, .iadd, 1, (0, 0, 0), []),
  (127, .iload 6, 2, (0, 0, 0), []),
  (129, .iadd, 1, (0, 0, 0), []),
  (130, .laload, 1, (0, 0, 0), []),
  (131, .lastore, 1, (0, 0, 0), []),
  (132, .iinc 6 1, 3, (0, 0, 0), []),
  (135, .goto (-31), 3, (104, 0, 0), []),
  (138, .iconst 0, 1, (0, 0, 0), []),
  (139, .istore 6, 2, (0, 0, 0), []),
  (141, .iload 6, 2, (0, 0, 0), []),
  (143, .iload 5, 2, (0, 0, 0), []),
  (145, .if_icmp .ge 31, 3, (176, 0, 0), []),
  (148, .aload_n 0, 1, (0, 0, 0), []),
  (149, .getfield 256, 3, (50, 81, 2), []),
  (152, .bipush 60, 2, (0, 0, 0), []),
  (154, .iload_n 3, 1, (0, 0, 0), []),
  (155, .imul, 1, (0, 0, 0), []),
  (156, .iload 4, 2, (0, 0, 0), []),
  (158, .iadd, 1, (0, 0, 0), []),
  (159, .iload 6, 2, (0, 0, 0), []),
  (161, .iadd, 1, (0, 0, 0), []),
  (162, .aload_n 0, 1, (0, 0, 0), []),
  (163, .getfield 260, 3, (50, 82, 2), []),
  (166, .iload 6, 2, (0, 0, 0), []),
  (168, .laload, 1, (0, 0, 0), []),
  (169, .lastore, 1, (0, 0, 0), []),
  (170, .iinc 6 1, 3, (0, 0, 0), []),
  (173, .goto (-32), 3, (141, 0, 0), []),
  (176, .iload 5, 2, (0, 0, 0), []),
  (178, .ireturn, 1, (0, 0, 0), [])]
abbrev am_m110 : am_Mt := (⟨"BookedEmptyModel", "shift", "(IIIII)I"⟩, prog_12_method_111_code, 7, (some .int), am_P110, 50, 10)
/-- Integer.bitCount(I)I -/
def am_P111 : List am_E := [(0, .iload_n 0, 1, (0, 0, 0), []),
  (1, .iload_n 0, 1, (0, 0, 0), []),
  (2, .iconst 1, 1, (0, 0, 0), []),
  (3, .iushr, 1, (0, 0, 0), []),
  (4, .ldc_w 265, 3, (1431655765, 0, 1), []),
  (7, .iand, 1, (0, 0, 0), []),
  (8, .isub, 1, (0, 0, 0), []),
  (9, .istore_n 0, 1, (0, 0, 0), []),
  (10, .iload_n 0, 1, (0, 0, 0), []),
  (11, .ldc_w 266, 3, (858993459, 0, 1), []),
  (14, .iand, 1, (0, 0, 0), []),
  (15, .iload_n 0, 1, (0, 0, 0), []),
  (16, .iconst 2, 1, (0, 0, 0), []),
  (17, .iushr, 1, (0, 0, 0), []),
  (18, .ldc_w 266, 3, (858993459, 0, 1), []),
  (21, .iand, 1, (0, 0, 0), []),
  (22, .iadd, 1, (0, 0, 0), []),
  (23, .istore_n 0, 1, (0, 0, 0), []),
  (24, .iload_n 0, 1, (0, 0, 0), []),
  (25, .iload_n 0, 1, (0, 0, 0), []),
  (26, .iconst 4, 1, (0, 0, 0), []),
  (27, .iushr, 1, (0, 0, 0), []),
  (28, .iadd, 1, (0, 0, 0), []),
  (29, .ldc_w 267, 3, (252645135, 0, 1), []),
  (32, .iand, 1, (0, 0, 0), []),
  (33, .istore_n 0, 1, (0, 0, 0), []),
  (34, .iload_n 0, 1, (0, 0, 0), []),
  (35, .iload_n 0, 1, (0, 0, 0), []),
  (36, .bipush 8, 2, (0, 0, 0), []),
  (38, .iushr, 1, (0, 0, 0), []),
  (39, .iadd, 1, (0, 0, 0), []),
  (40, .istore_n 0, 1, (0, 0, 0), []),
  (41, .iload_n 0, 1, (0, 0, 0), []),
  (42, .iload_n 0, 1, (0, 0, 0), []),
  (43, .bipush 16, 2, (0, 0, 0), []),
  (45, .iushr, 1, (0, 0, 0), []),
  (46, .iadd, 1, (0, 0, 0), []),
  (47, .istore_n 0, 1, (0, 0, 0), []),
  (48, .iload_n 0, 1, (0, 0, 0), []),
  (49, .bipush 63, 2, (0, 0, 0), []),
  (51, .iand, 1, (0, 0, 0), []),
  (52, .ireturn, 1, (0, 0, 0), [])]
abbrev am_m111 : am_Mt := (⟨"java/lang/Integer", "bitCount", "(I)I"⟩, prog_14_method_49_code, 1, (some .int), am_P111, 999, 11)
/-- Long.bitCount(J)I -/
def am_P112 : List am_E := [(0, .lload_n 0, 1, (0, 0, 0), []),
  (1, .lload_n 0, 1, (0, 0, 0), []),
  (2, .iconst 1, 1, (0, 0, 0), []),
  (3, .lushr, 1, (0, 0, 0), []),
  (4, .ldc2_w 314, 3, (6148914691236517205, 0, 0), []),
  (7, .land, 1, (0, 0, 0), []),
  (8, .lsub, 1, (0, 0, 0), []),
  (9, .lstore_n 0, 1, (0, 0, 0), []),
  (10, .lload_n 0, 1, (0, 0, 0), []),
  (11, .ldc2_w 316, 3, (3689348814741910323, 0, 0), []),
  (14, .land, 1, (0, 0, 0), []),
  (15, .lload_n 0, 1, (0, 0, 0), []),
  (16, .iconst 2, 1, (0, 0, 0), []),
  (17, .lushr, 1, (0, 0, 0), []),
  (18, .ldc2_w 316, 3, (3689348814741910323, 0, 0), []),
  (21, .land, 1, (0, 0, 0), []),
  (22, .ladd, 1, (0, 0, 0), []),
  (23, .lstore_n 0, 1, (0, 0, 0), []),
  (24, .lload_n 0, 1, (0, 0, 0), []),
  (25, .lload_n 0, 1, (0, 0, 0), []),
  (26, .iconst 4, 1, (0, 0, 0), []),
  (27, .lushr, 1, (0, 0, 0), []),
  (28, .ladd, 1, (0, 0, 0), []),
  (29, .ldc2_w 318, 3, (1085102592571150095, 0, 0), []),
  (32, .land, 1, (0, 0, 0), []),
  (33, .lstore_n 0, 1, (0, 0, 0), []),
  (34, .lload_n 0, 1, (0, 0, 0), []),
  (35, .lload_n 0, 1, (0, 0, 0), []),
  (36, .bipush 8, 2, (0, 0, 0), []),
  (38, .lushr, 1, (0, 0, 0), []),
  (39, .ladd, 1, (0, 0, 0), []),
  (40, .lstore_n 0, 1, (0, 0, 0), []),
  (41, .lload_n 0, 1, (0, 0, 0), []),
  (42, .lload_n 0, 1, (0, 0, 0), []),
  (43, .bipush 16, 2, (0, 0, 0), []),
  (45, .lushr, 1, (0, 0, 0), []),
  (46, .ladd, 1, (0, 0, 0), []),
  (47, .lstore_n 0, 1, (0, 0, 0), []),
  (48, .lload_n 0, 1, (0, 0, 0), []),
  (49, .lload_n 0, 1, (0, 0, 0), []),
  (50, .bipush 32, 2, (0, 0, 0), []),
  (52, .lushr, 1, (0, 0, 0), []),
  (53, .ladd, 1, (0, 0, 0), []),
  (54, .lstore_n 0, 1, (0, 0, 0), []),
  (55, .lload_n 0, 1, (0, 0, 0), []),
  (56, .l2i, 1, (0, 0, 0), []),
  (57, .bipush 127, 2, (0, 0, 0), []),
  (59, .iand, 1, (0, 0, 0), []),
  (60, .ireturn, 1, (0, 0, 0), [])]
abbrev am_m112 : am_Mt := (⟨"java/lang/Long", "bitCount", "(J)I"⟩, prog_15_method_50_code, 2, (some .int), am_P112, 999, 12)
/-- String.length()I -/
def am_P113 : List am_E := [(0, .aload_n 0, 1, (0, 0, 0), []),
  (1, .getfield 9, 3, (203, 0, 2), []),
  (4, .arraylength, 1, (0, 0, 0), []),
  (5, .aload_n 0, 1, (0, 0, 0), []),
  (6, .invokevirtual 335, 3, (118, 0, 1), []),
  (9, .ishr, 1, (0, 0, 0), []),
  (10, .ireturn, 1, (0, 0, 0), [])]
abbrev am_m113 : am_Mt := (⟨"java/lang/String", "length", "()I"⟩, prog_17_method_54_code, 1, (some .int), am_P113, 203, 13)
/-- String.isEmpty()Z -/
def am_P114 : List am_E := [(0, .aload_n 0, 1, (0, 0, 0), []),
  (1, .getfield 9, 3, (203, 0, 2), []),
  (4, .arraylength, 1, (0, 0, 0), []),
  (5, .ifCond .ne 7, 3, (12, 0, 0), []),
  (8, .iconst 1, 1, (0, 0, 0), []),
  (9, .goto 4, 3, (13, 0, 0), []),
  (12, .iconst 0, 1, (0, 0, 0), []),
  (13, .ireturn, 1, (1, 0, 0), [])]
abbrev am_m114 : am_Mt := (⟨"java/lang/String", "isEmpty", "()Z"⟩, prog_17_method_55_code, 1, (some .boolean), am_P114, 203, 13)
/-- String.charAt(I)C -/
def am_P115 : List am_E := [(0, .aload_n 0, 1, (0, 0, 0), []),
  (1, .invokevirtual 492, 3, (119, 0, 1), []),
  (4, .ifCond .eq 12, 3, (16, 0, 0), []),
  (7, .aload_n 0, 1, (0, 0, 0), []),
  (8, .getfield 9, 3, (203, 0, 2), []),
  (11, .iload_n 1, 1, (0, 0, 0), []),
  (12, .invokestatic 495, 3, (121, 2, 11), []),
  (15, .ireturn, 1, (2, 0, 0), []),
  (16, .aload_n 0, 1, (0, 0, 0), []),
  (17, .getfield 9, 3, (203, 0, 2), []),
  (20, .iload_n 1, 1, (0, 0, 0), []),
  (21, .invokestatic 498, 3, (0, 0, 90), []),
  (24, .ireturn, 1, (2, 0, 0), [])]
abbrev am_m115 : am_Mt := (⟨"java/lang/String", "charAt", "(I)C"⟩, prog_17_method_56_code, 2, (some .char), am_P115, 203, 13)
/-- String.indexOf(I)I -/
def am_P116 : List am_E := [(0, .aload_n 0, 1, (0, 0, 0), []),
  (1, .iload_n 1, 1, (0, 0, 0), []),
  (2, .iconst 0, 1, (0, 0, 0), []),
  (3, .invokevirtual 633, 3, (117, 2, 1), []),
  (6, .ireturn, 1, (0, 0, 0), [])]
abbrev am_m116 : am_Mt := (⟨"java/lang/String", "indexOf", "(I)I"⟩, prog_17_method_79_code, 2, (some .int), am_P116, 203, 13)
/-- String.indexOf(II)I -/
def am_P117 : List am_E := [(0, .aload_n 0, 1, (0, 0, 0), []),
  (1, .invokevirtual 492, 3, (119, 0, 1), []),
  (4, .ifCond .eq 19, 3, (23, 0, 0), []),
  (7, .aload_n 0, 1, (0, 0, 0), []),
  (8, .getfield 9, 3, (203, 0, 2), []),
  (11, .iload_n 1, 1, (0, 0, 0), []),
  (12, .iload_n 2, 1, (0, 0, 0), []),
  (13, .aload_n 0, 1, (0, 0, 0), []),
  (14, .invokevirtual 505, 3, (113, 0, 1), []),
  (17, .invokestatic 637, 3, (123, 4, 11), []),
  (20, .goto 16, 3, (36, 0, 0), []),
  (23, .aload_n 0, 1, (0, 0, 0), []),
  (24, .getfield 9, 3, (203, 0, 2), []),
  (27, .iload_n 1, 1, (0, 0, 0), []),
  (28, .iload_n 2, 1, (0, 0, 0), []),
  (29, .aload_n 0, 1, (0, 0, 0), []),
  (30, .invokevirtual 505, 3, (113, 0, 1), []),
  (33, .invokestatic 640, 3, (0, 0, 90), []),
  (36, .ireturn, 1, (0, 0, 0), [])]
abbrev am_m117 : am_Mt := (⟨"java/lang/String", "indexOf", "(II)I"⟩, prog_17_method_80_code, 3, (some .int), am_P117, 203, 13)
/-- String.coder()B -/
def am_P118 : List am_E := [(0, .getstatic 38, 3, (1, 0, 0), []),
  (3, .ifCond .eq 10, 3, (13, 0, 0), []),
  (6, .aload_n 0, 1, (0, 0, 0), []),
  (7, .getfield 15, 3, (203, 1, 0), []),
  (10, .goto 4, 3, (14, 0, 0), []),
  (13, .iconst 1, 1, (0, 0, 0), []),
  (14, .ireturn, 1, (3, 0, 0), [])]
abbrev am_m118 : am_Mt := (⟨"java/lang/String", "coder", "()B"⟩, prog_17_method_152_code, 1, (some .byte), am_P118, 203, 13)
/-- String.isLatin1()Z -/
def am_P119 : List am_E := [(0, .getstatic 38, 3, (1, 0, 0), []),
  (3, .ifCond .eq 14, 3, (17, 0, 0), []),
  (6, .aload_n 0, 1, (0, 0, 0), []),
  (7, .getfield 15, 3, (203, 1, 0), []),
  (10, .ifCond .ne 7, 3, (17, 0, 0), []),
  (13, .iconst 1, 1, (0, 0, 0), []),
  (14, .goto 4, 3, (18, 0, 0), []),
  (17, .iconst 0, 1, (0, 0, 0), []),
  (18, .ireturn, 1, (1, 0, 0), [])]
abbrev am_m119 : am_Mt := (⟨"java/lang/String", "isLatin1", "()Z"⟩, prog_17_method_154_code, 1, (some .boolean), am_P119, 203, 13)
/-- String.checkIndex(II)V -/
def am_P120 : List am_E := [(0, .iload_n 0, 1, (0, 0, 0), []),
  (1, .iload_n 1, 1, (0, 0, 0), []),
  (2, .getstatic 1053, 3, (205, 0, 1), []),
  (5, .invokestatic 1059, 3, (125, 3, 11), []),
  (8, .pop, 1, (0, 0, 0), []),
  (9, .return_, 1, (0, 0, 0), [])]
abbrev am_m120 : am_Mt := (⟨"java/lang/String", "checkIndex", "(II)V"⟩, prog_17_method_155_code, 2, none, am_P120, 203, 13)
/-- StringLatin1.charAt([BI)C -/
def am_P121 : List am_E := [(0, .iload_n 1, 1, (0, 0, 0), []),
  (1, .aload_n 0, 1, (0, 0, 0), []),
  (2, .arraylength, 1, (0, 0, 0), []),
  (3, .invokestatic 9, 3, (120, 2, 10), []),
  (6, .aload_n 0, 1, (0, 0, 0), []),
  (7, .iload_n 1, 1, (0, 0, 0), []),
  (8, .baload, 1, (0, 0, 0), []),
  (9, .sipush 255, 3, (0, 0, 0), []),
  (12, .iand, 1, (0, 0, 0), []),
  (13, .i2c, 1, (0, 0, 0), []),
  (14, .ireturn, 1, (2, 0, 0), [])]
abbrev am_m121 : am_Mt := (⟨"java/lang/StringLatin1", "charAt", "([BI)C"⟩, prog_18_method_2_code, 2, (some .char), am_P121, 999, 14)
/-- StringLatin1.canEncode(I)Z -/
def am_P122 : List am_E := [(0, .iload_n 0, 1, (0, 0, 0), []),
  (1, .ifCond .lt 14, 3, (15, 0, 0), []),
  (4, .iload_n 0, 1, (0, 0, 0), []),
  (5, .sipush 255, 3, (0, 0, 0), []),
  (8, .if_icmp .gt 7, 3, (15, 0, 0), []),
  (11, .iconst 1, 1, (0, 0, 0), []),
  (12, .goto 4, 3, (16, 0, 0), []),
  (15, .iconst 0, 1, (0, 0, 0), []),
  (16, .ireturn, 1, (1, 0, 0), [])]
abbrev am_m122 : am_Mt := (⟨"java/lang/StringLatin1", "canEncode", "(I)Z"⟩, prog_18_method_4_code, 1, (some .boolean), am_P122, 999, 14)
/-- StringLatin1.indexOf([BIII)I -/
def am_P123 : List am_E := [(0, .iload_n 1, 1, (0, 0, 0), []),
  (1, .invokestatic 88, 3, (122, 1, 11), []),
  (4, .ifCond .ne 5, 3, (9, 0, 0), []),
  (7, .iconst (-1), 1, (0, 0, 0), []),
  (8, .ireturn, 1, (0, 0, 0), []),
  (9, .iload_n 2, 1, (0, 0, 0), []),
  (10, .iconst 0, 1, (0, 0, 0), []),
  (11, .invokestatic 92, 3, (0, 2, 81), []),
  (14, .istore_n 2, 1, (0, 0, 0), []),
  (15, .iload_n 3, 1, (0, 0, 0), []),
  (16, .aload_n 0, 1, (0, 0, 0), []),
  (17, .arraylength, 1, (0, 0, 0), []),
  (18, .invokestatic 38, 3, (1, 2, 81), []),
  (21, .istore_n 3, 1, (0, 0, 0), []),
  (22, .iload_n 2, 1, (0, 0, 0), []),
  (23, .iload_n 3, 1, (0, 0, 0), []),
  (24, .if_icmp .lt 5, 3, (29, 0, 0), []),
  (27, .iconst (-1), 1, (0, 0, 0), []),
  (28, .ireturn, 1, (0, 0, 0), []),
  (29, .aload_n 0, 1, (0, 0, 0), []),
  (30, .iload_n 1, 1, (0, 0, 0), []),
  (31, .iload_n 2, 1, (0, 0, 0), []),
  (32, .iload_n 3, 1, (0, 0, 0), []),
  (33, .invokestatic 95, 3, (124, 4, 11), []),
  (36, .ireturn, 1, (0, 0, 0), [])]
abbrev am_m123 : am_Mt := (⟨"java/lang/StringLatin1", "indexOf", "([BIII)I"⟩, prog_18_method_22_code, 4, (some .int), am_P123, 999, 14)
/-- StringLatin1.indexOfChar([BIII)I -/
def am_P124 : List am_E := [(0, .iload_n 1, 1, (0, 0, 0), []),
  (1, .i2b, 1, (0, 0, 0), []),
  (2, .istore 4, 2, (0, 0, 0), []),
  (4, .iload_n 2, 1, (0, 0, 0), []),
  (5, .istore 5, 2, (0, 0, 0), []),
  (7, .iload 5, 2, (0, 0, 0), []),
  (9, .iload_n 3, 1, (0, 0, 0), []),
  (10, .if_icmp .ge 21, 3, (31, 0, 0), []),
  (13, .aload_n 0, 1, (0, 0, 0), []),
  (14, .iload 5, 2, (0, 0, 0), []),
  (16, .baload, 1, (0, 0, 0), []),
  (17, .iload 4, 2, (0, 0, 0), []),
  (19, .if_icmp .ne 6, 3, (25, 0, 0), []),
  (22, .iload 5, 2, (0, 0, 0), []),
  (24, .ireturn, 1, (0, 0, 0), []),
  (25, .iinc 5 1, 3, (0, 0, 0), []),
  (28, .goto (-21), 3, (7, 0, 0), []),
  (31, .iconst (-1), 1, (0, 0, 0), []),
  (32, .ireturn, 1, (0, 0, 0), [])]
abbrev am_m124 : am_Mt := (⟨"java/lang/StringLatin1", "indexOfChar", "([BIII)I"⟩, prog_18_method_23_code, 6, (some .int), am_P124, 999, 14)
/-- Preconditions.checkIndex(IILjava/util/function/BiFunction;)I -/
def am_P125 : List am_E := [(0, .iload_n 0, 1, (0, 0, 0), []),
  (1, .ifCond .lt 8, 3, (9, 0, 0), []),
  (4, .iload_n 0, 1, (0, 0, 0), []),
  (5, .iload_n 1, 1, (0, 0, 0), []),
  (6, .if_icmp .lt 10, 3, (16, 0, 0), []),
  (9, .aload_n 2, 1, (0, 0, 0), []),
  (10, .iload_n 0, 1, (0, 0, 0), []),
  (11, .iload_n 1, 1, (0, 0, 0), []),
  (12, .invokestatic 95, 3, (0, 0, 90), []),
  (15, .athrow, 1, (0, 0, 0), []),
  (16, .iload_n 0, 1, (0, 0, 0), []),
  (17, .ireturn, 1, (0, 0, 0), [])]
abbrev am_m125 : am_Mt := (⟨"jdk/internal/util/Preconditions", "checkIndex", "(IILjava/util/function/BiFunction;)I"⟩, prog_21_method_11_code, 3, (some .int), am_P125, 999, 15)
/-- BookedEmpty$Acts.<init>()V -/
def am_P126 : List am_E := [(0, .aload_n 0, 1, (0, 0, 0), []),
  (1, .invokespecial 3, 3, (0, 0, 30), []),
  (4, .aload_n 0, 1, (0, 0, 0), []),
  (5, .bipush 20, 2, (0, 0, 0), []),
  (7, .newarray .int, 2, (10, 0, 0), []),
  (9, .putfield 9, 3, (0, 0, 2), []),
  (12, .return_, 1, (0, 0, 0), [])]
abbrev am_m126 : am_Mt := (⟨"BookedEmpty$Acts", "<init>", "()V"⟩, prog_2_method_1_code, 1, none, am_P126, 0, 0)
/-- BookedEmpty$Acts.run(LBookedEmpty$Hour;IIII)I -/
def am_P127 : List am_E := [(0, .iload_n 2, 1, (0, 0, 0), []),
  (1, .iload_n 3, 1, (0, 0, 0), []),
  (2, .invokestatic 15, 3, (128, 2, 11), []),
  (5, .istore 6, 2, (0, 0, 0), []),
  (7, .iload 6, 2, (0, 0, 0), []),
  (9, .ifCond .lt 10, 3, (19, 0, 0), []),
  (12, .iload 5, 2, (0, 0, 0), []),
  (14, .bipush 40, 2, (0, 0, 0), []),
  (16, .if_icmp .le 5, 3, (21, 0, 0), []),
  (19, .iconst 0, 1, (0, 0, 0), []),
  (20, .ireturn, 1, (0, 0, 0), []),
  (21, .getstatic 19, 3, (201, 0, 1), []),
  (24, .iload 6, 2, (0, 0, 0), []),
  (26, .iconst 3, 1, (0, 0, 0), []),
  (27, .imul, 1, (0, 0, 0), []),
  (28, .iload_n 3, 1, (0, 0, 0), []),
  (29, .iadd, 1, (0, 0, 0), []),
  (30, .iaload, 1, (0, 0, 0), []),
  (31, .istore 7, 2, (0, 0, 0), []),
  (33, .aload_n 0, 1, (0, 0, 0), []),
  (34, .iload 7, 2, (0, 0, 0), []),
  (36, .invokevirtual 22, 3, (129, 1, 0), []),
  (39, .getstatic 26, 3, (200, 0, 1), []),
  (42, .iload 6, 2, (0, 0, 0), []),
  (44, .iaload, 1, (0, 0, 0), []),
  (45, .istore 8, 2, (0, 0, 0), []),
  (47, .iload 5, 2, (0, 0, 0), []),
  (49, .iconst 1, 1, (0, 0, 0), []),
  (50, .iadd, 1, (0, 0, 0), []),
  (51, .istore 9, 2, (0, 0, 0), []),
  (53, .iload 7, 2, (0, 0, 0), []),
  (55, .lookupswitch 290 #[(10, 97), (11, 105), (12, 125), (20, 142), (30, 158), (40, 173), (50, 200), (51, 214), (60, 229), (70, 247), (71, 272)], 97, (345, 0, 0), [(10, 152), (11, 160), (12, 180), (20, 197), (30, 213), (40, 228), (50, 255), (51, 269), (60, 284), (70, 302), (71, 327)]),
  (152, .iload 4, 2, (0, 0, 0), []),
  (154, .aload_n 1, 1, (0, 0, 0), []),
  (155, .getfield 29, 3, (1, 0, 0), []),
  (158, .iadd, 1, (0, 0, 0), []),
  (159, .ireturn, 1, (0, 0, 0), []),
  (160, .aload_n 0, 1, (0, 0, 0), []),
  (161, .aload_n 1, 1, (0, 0, 0), []),
  (162, .aload_n 1, 1, (0, 0, 0), []),
  (163, .getfield 35, 3, (1, 1, 0), []),
  (166, .iconst 0, 1, (0, 0, 0), []),
  (167, .iload 4, 2, (0, 0, 0), []),
  (169, .iload 9, 2, (0, 0, 0), []),
  (171, .invokevirtual 38, 3, (127, 5, 1), []),
  (174, .aload_n 1, 1, (0, 0, 0), []),
  (175, .getfield 42, 3, (1, 2, 0), []),
  (178, .isub, 1, (0, 0, 0), []),
  (179, .ireturn, 1, (0, 0, 0), []),
  (180, .aload_n 0, 1, (0, 0, 0), []),
  (181, .aload_n 1, 1, (0, 0, 0), []),
  (182, .aload_n 1, 1, (0, 0, 0), []),
  (183, .getfield 35, 3, (1, 1, 0), []),
  (186, .iconst 1, 1, (0, 0, 0), []),
  (187, .iload 4, 2, (0, 0, 0), []),
  (189, .iload 9, 2, (0, 0, 0), []),
  (191, .invokevirtual 38, 3, (127, 5, 1), []),
  (194, .iconst 2, 1, (0, 0, 0), []),
  (195, .imul, 1, (0, 0, 0), []),
  (196, .ireturn, 1, (0, 0, 0), []),
  (197, .aload_n 0, 1, (0, 0, 0), []),
  (198, .aload_n 1, 1, (0, 0, 0), []),
  (199, .iload 8, 2, (0, 0, 0), []),
  (201, .iconst 1, 1, (0, 0, 0), []),
  (202, .iload 4, 2, (0, 0, 0), []),
  (204, .iload 9, 2, (0, 0, 0), []),
  (206, .invokevirtual 38, 3, (127, 5, 1), []),
  (209, .bipush 6, 2, (0, 0, 0), []),
  (211, .ixor, 1, (0, 0, 0), []),
  (212, .ireturn, 1, (0, 0, 0), []),
  (213, .aload_n 0, 1, (0, 0, 0), []),
  (214, .aload_n 1, 1, (0, 0, 0), []),
  (215, .iload 8, 2, (0, 0, 0), []),
  (217, .iconst 0, 1, (0, 0, 0), []),
  (218, .iload 4, 2, (0, 0, 0), []),
  (220, .iconst 3, 1, (0, 0, 0), []),
  (221, .imul, 1, (0, 0, 0), []),
  (222, .iload 9, 2, (0, 0, 0), []),
  (224, .invokevirtual 38, 3, (127, 5, 1), []),
  (227, .ireturn, 1, (0, 0, 0), []),
  (228, .aload_n 0, 1, (0, 0, 0), []),
  (229, .aload_n 1, 1, (0, 0, 0), []),
  (230, .iload 8, 2, (0, 0, 0), []),
  (232, .iconst 2, 1, (0, 0, 0), []),
  (233, .iload 4, 2, (0, 0, 0), []),
  (235, .iload 9, 2, (0, 0, 0), []),
  (237, .invokevirtual 38, 3, (127, 5, 1), []),
  (240, .aload_n 0, 1, (0, 0, 0), []),
  (241, .aload_n 1, 1, (0, 0, 0), []),
  (242, .aload_n 1, 1, (0, 0, 0), []),
  (243, .getfield 35, 3, (1, 1, 0), []),
  (246, .iconst 1, 1, (0, 0, 0), []),
  (247, .iconst 1, 1, (0, 0, 0), []),
  (248, .iload 9, 2, (0, 0, 0), []),
  (250, .invokevirtual 38, 3, (127, 5, 1), []),
  (253, .iadd, 1, (0, 0, 0), []),
  (254, .ireturn, 1, (0, 0, 0), []),
  (255, .aload_n 0, 1, (0, 0, 0), []),
  (256, .aload_n 1, 1, (0, 0, 0), []),
  (257, .iload 8, 2, (0, 0, 0), []),
  (259, .iconst 0, 1, (0, 0, 0), []),
  (260, .iload 4, 2, (0, 0, 0), []),
  (262, .iload 9, 2, (0, 0, 0), []),
  (264, .invokevirtual 38, 3, (127, 5, 1), []),
  (267, .ineg, 1, (0, 0, 0), []),
  (268, .ireturn, 1, (0, 0, 0), []),
  (269, .aload_n 0, 1, (0, 0, 0), []),
  (270, .aload_n 1, 1, (0, 0, 0), []),
  (271, .iload 8, 2, (0, 0, 0), []),
  (273, .iconst 1, 1, (0, 0, 0), []),
  (274, .iload 4, 2, (0, 0, 0), []),
  (276, .iconst 1, 1, (0, 0, 0), []),
  (277, .iadd, 1, (0, 0, 0), []),
  (278, .iload 9, 2, (0, 0, 0), []),
  (280, .invokevirtual 38, 3, (127, 5, 1), []),
  (283, .ireturn, 1, (0, 0, 0), []),
  (284, .aload_n 0, 1, (0, 0, 0), []),
  (285, .aload_n 1, 1, (0, 0, 0), []),
  (286, .iload 8, 2, (0, 0, 0), []),
  (288, .iconst 2, 1, (0, 0, 0), []),
  (289, .iload 4, 2, (0, 0, 0), []),
  (291, .aload_n 1, 1, (0, 0, 0), []),
  (292, .getfield 29, 3, (1, 0, 0), []),
  (295, .isub, 1, (0, 0, 0), []),
  (296, .iload 9, 2, (0, 0, 0), []),
  (298, .invokevirtual 38, 3, (127, 5, 1), []),
  (301, .ireturn, 1, (0, 0, 0), []),
  (302, .aload_n 0, 1, (0, 0, 0), []),
  (303, .aload_n 1, 1, (0, 0, 0), []),
  (304, .iload 8, 2, (0, 0, 0), []),
  (306, .iconst 1, 1, (0, 0, 0), []),
  (307, .iload 4, 2, (0, 0, 0), []),
  (309, .iload 9, 2, (0, 0, 0), []),
  (311, .invokevirtual 38, 3, (127, 5, 1), []),
  (314, .aload_n 0, 1, (0, 0, 0), []),
  (315, .aload_n 1, 1, (0, 0, 0), []),
  (316, .iload 8, 2, (0, 0, 0), []),
  (318, .iconst 0, 1, (0, 0, 0), []),
  (319, .iconst 2, 1, (0, 0, 0), []),
  (320, .iload 9, 2, (0, 0, 0), []),
  (322, .invokevirtual 38, 3, (127, 5, 1), []),
  (325, .iadd, 1, (0, 0, 0), []),
  (326, .ireturn, 1, (0, 0, 0), []),
  (327, .aload_n 0, 1, (0, 0, 0), []),
  (328, .aload_n 1, 1, (0, 0, 0), []),
  (329, .iload 8, 2, (0, 0, 0), []),
  (331, .iconst 0, 1, (0, 0, 0), []),
  (332, .iload 4, 2, (0, 0, 0), []),
  (334, .iload 9, 2, (0, 0, 0), []),
  (336, .invokevirtual 38, 3, (127, 5, 1), []),
  (339, .aload_n 1, 1, (0, 0, 0), []),
  (340, .getfield 42, 3, (1, 2, 0), []),
  (343, .ixor, 1, (0, 0, 0), []),
  (344, .ireturn, 1, (0, 0, 0), []),
  (345, .iconst 0, 1, (0, 0, 0), []),
  (346, .ireturn, 1, (0, 0, 0), [])]
abbrev am_m127 : am_Mt := (⟨"BookedEmpty$Acts", "run", "(LBookedEmpty$Hour;IIII)I"⟩, prog_2_method_2_code, 10, (some .int), am_P127, 0, 0)
/-- BookedEmpty$Acts.owner(II)I -/
def am_P128 : List am_E := [(0, .iload_n 0, 1, (0, 0, 0), []),
  (1, .istore_n 2, 1, (0, 0, 0), []),
  (2, .iconst 0, 1, (0, 0, 0), []),
  (3, .istore_n 3, 1, (0, 0, 0), []),
  (4, .iload_n 3, 1, (0, 0, 0), []),
  (5, .bipush 7, 2, (0, 0, 0), []),
  (7, .if_icmp .ge 33, 3, (40, 0, 0), []),
  (10, .iload_n 2, 1, (0, 0, 0), []),
  (11, .ifCond .lt 29, 3, (40, 0, 0), []),
  (14, .getstatic 19, 3, (201, 0, 1), []),
  (17, .iload_n 2, 1, (0, 0, 0), []),
  (18, .iconst 3, 1, (0, 0, 0), []),
  (19, .imul, 1, (0, 0, 0), []),
  (20, .iload_n 1, 1, (0, 0, 0), []),
  (21, .iadd, 1, (0, 0, 0), []),
  (22, .iaload, 1, (0, 0, 0), []),
  (23, .ifCond .eq 5, 3, (28, 0, 0), []),
  (26, .iload_n 2, 1, (0, 0, 0), []),
  (27, .ireturn, 1, (0, 0, 0), []),
  (28, .getstatic 26, 3, (200, 0, 1), []),
  (31, .iload_n 2, 1, (0, 0, 0), []),
  (32, .iaload, 1, (0, 0, 0), []),
  (33, .istore_n 2, 1, (0, 0, 0), []),
  (34, .iinc 3 1, 3, (0, 0, 0), []),
  (37, .goto (-33), 3, (4, 0, 0), []),
  (40, .iconst (-1), 1, (0, 0, 0), []),
  (41, .ireturn, 1, (0, 0, 0), [])]
abbrev am_m128 : am_Mt := (⟨"BookedEmpty$Acts", "owner", "(II)I"⟩, prog_2_method_3_code, 4, (some .int), am_P128, 0, 0)
/-- BookedEmpty$Acts.begin(I)V -/
def am_P129 : List am_E := [(0, .aload_n 0, 1, (0, 0, 0), []),
  (1, .getfield 45, 3, (0, 1, 0), []),
  (4, .aload_n 0, 1, (0, 0, 0), []),
  (5, .getfield 9, 3, (0, 0, 2), []),
  (8, .arraylength, 1, (0, 0, 0), []),
  (9, .if_icmp .ge 13, 3, (22, 0, 0), []),
  (12, .aload_n 0, 1, (0, 0, 0), []),
  (13, .getfield 9, 3, (0, 0, 2), []),
  (16, .aload_n 0, 1, (0, 0, 0), []),
  (17, .getfield 45, 3, (0, 1, 0), []),
  (20, .iload_n 1, 1, (0, 0, 0), []),
  (21, .iastore, 1, (0, 0, 0), []),
  (22, .aload_n 0, 1, (0, 0, 0), []),
  (23, .dup, 1, (0, 0, 0), []),
  (24, .getfield 45, 3, (0, 1, 0), []),
  (27, .iconst 1, 1, (0, 0, 0), []),
  (28, .iadd, 1, (0, 0, 0), []),
  (29, .putfield 45, 3, (0, 1, 0), []),
  (32, .return_, 1, (0, 0, 0), [])]
abbrev am_m129 : am_Mt := (⟨"BookedEmpty$Acts", "begin", "(I)V"⟩, prog_2_method_4_code, 2, none, am_P129, 0, 0)
/-- BookedEmpty$Hour.<init>(I)V -/
def am_P130 : List am_E := [(0, .aload_n 0, 1, (0, 0, 0), []),
  (1, .invokespecial 3, 3, (0, 0, 30), []),
  (4, .aload_n 0, 1, (0, 0, 0), []),
  (5, .bipush (-5), 2, (0, 0, 0), []),
  (7, .putfield 9, 3, (1, 6, 0), []),
  (10, .aload_n 0, 1, (0, 0, 0), []),
  (11, .iconst 4, 1, (0, 0, 0), []),
  (12, .newarray .int, 2, (11, 0, 0), []),
  (14, .putfield 15, 3, (1, 7, 2), []),
  (17, .aload_n 0, 1, (0, 0, 0), []),
  (18, .iload_n 1, 1, (0, 0, 0), []),
  (19, .putfield 19, 3, (1, 0, 0), []),
  (22, .return_, 1, (0, 0, 0), [])]
abbrev am_m130 : am_Mt := (⟨"BookedEmpty$Hour", "<init>", "(I)V"⟩, prog_3_method_1_code, 2, none, am_P130, 1, 1)
/-- BookedEmpty$Hour.begin(IIIII)V -/
def am_P131 : List am_E := [(0, .aload_n 0, 1, (0, 0, 0), []),
  (1, .iload_n 1, 1, (0, 0, 0), []),
  (2, .putfield 22, 3, (1, 1, 0), []),
  (5, .aload_n 0, 1, (0, 0, 0), []),
  (6, .iload_n 2, 1, (0, 0, 0), []),
  (7, .putfield 25, 3, (1, 2, 0), []),
  (10, .aload_n 0, 1, (0, 0, 0), []),
  (11, .iload_n 3, 1, (0, 0, 0), []),
  (12, .putfield 28, 3, (1, 3, 0), []),
  (15, .aload_n 0, 1, (0, 0, 0), []),
  (16, .iload 4, 2, (0, 0, 0), []),
  (18, .putfield 31, 3, (1, 4, 0), []),
  (21, .aload_n 0, 1, (0, 0, 0), []),
  (22, .iload 5, 2, (0, 0, 0), []),
  (24, .putfield 34, 3, (1, 5, 0), []),
  (27, .aload_n 0, 1, (0, 0, 0), []),
  (28, .bipush (-5), 2, (0, 0, 0), []),
  (30, .putfield 9, 3, (1, 6, 0), []),
  (33, .iconst 0, 1, (0, 0, 0), []),
  (34, .istore 6, 2, (0, 0, 0), []),
  (36, .iload 6, 2, (0, 0, 0), []),
  (38, .aload_n 0, 1, (0, 0, 0), []),
  (39, .getfield 15, 3, (1, 7, 2), []),
  (42, .arraylength, 1, (0, 0, 0), []),
  (43, .if_icmp .ge 17, 3, (60, 0, 0), []),
  (46, .aload_n 0, 1, (0, 0, 0), []),
  (47, .getfield 15, 3, (1, 7, 2), []),
  (50, .iload 6, 2, (0, 0, 0), []),
  (52, .iconst 0, 1, (0, 0, 0), []),
  (53, .iastore, 1, (0, 0, 0), []),
  (54, .iinc 6 1, 3, (0, 0, 0), []),
  (57, .goto (-21), 3, (36, 0, 0), []),
  (60, .return_, 1, (0, 0, 0), [])]
abbrev am_m131 : am_Mt := (⟨"BookedEmpty$Hour", "begin", "(IIIII)V"⟩, prog_3_method_2_code, 7, none, am_P131, 1, 1)
/-- BookedEmpty$Hour.copyFrom(LBookedEmpty$Hour;)V -/
def am_P132 : List am_E := [(0, .aload_n 0, 1, (0, 0, 0), []),
  (1, .aload_n 1, 1, (0, 0, 0), []),
  (2, .getfield 22, 3, (1, 1, 0), []),
  (5, .aload_n 1, 1, (0, 0, 0), []),
  (6, .getfield 25, 3, (1, 2, 0), []),
  (9, .aload_n 1, 1, (0, 0, 0), []),
  (10, .getfield 28, 3, (1, 3, 0), []),
  (13, .aload_n 1, 1, (0, 0, 0), []),
  (14, .getfield 31, 3, (1, 4, 0), []),
  (17, .aload_n 1, 1, (0, 0, 0), []),
  (18, .getfield 34, 3, (1, 5, 0), []),
  (21, .invokevirtual 37, 3, (131, 5, 0), []),
  (24, .aload_n 0, 1, (0, 0, 0), []),
  (25, .aload_n 1, 1, (0, 0, 0), []),
  (26, .getfield 9, 3, (1, 6, 0), []),
  (29, .putfield 9, 3, (1, 6, 0), []),
  (32, .iconst 0, 1, (0, 0, 0), []),
  (33, .istore_n 2, 1, (0, 0, 0), []),
  (34, .iload_n 2, 1, (0, 0, 0), []),
  (35, .aload_n 0, 1, (0, 0, 0), []),
  (36, .getfield 15, 3, (1, 7, 2), []),
  (39, .arraylength, 1, (0, 0, 0), []),
  (40, .if_icmp .ge 21, 3, (61, 0, 0), []),
  (43, .aload_n 0, 1, (0, 0, 0), []),
  (44, .getfield 15, 3, (1, 7, 2), []),
  (47, .iload_n 2, 1, (0, 0, 0), []),
  (48, .aload_n 1, 1, (0, 0, 0), []),
  (49, .getfield 15, 3, (1, 7, 2), []),
  (52, .iload_n 2, 1, (0, 0, 0), []),
  (53, .iaload, 1, (0, 0, 0), []),
  (54, .iastore, 1, (0, 0, 0), []),
  (55, .iinc 2 1, 3, (0, 0, 0), []),
  (58, .goto (-24), 3, (34, 0, 0), []),
  (61, .return_, 1, (0, 0, 0), [])]
abbrev am_m132 : am_Mt := (⟨"BookedEmpty$Hour", "copyFrom", "(LBookedEmpty$Hour;)V"⟩, prog_3_method_3_code, 3, none, am_P132, 1, 1)
/-- BookedEmpty$Hour.comes(I)I -/
def am_P133 : List am_E := [(0, .aload_n 0, 1, (0, 0, 0), []),
  (1, .getfield 22, 3, (1, 1, 0), []),
  (4, .tableswitch 93 2 6 #[36, 39, 93, 51, 72], 36, (97, 0, 0), [(2, 40), (3, 43), (4, 97), (5, 55), (6, 76)]),
  (40, .bipush (-5), 2, (0, 0, 0), []),
  (42, .ireturn, 1, (0, 0, 0), []),
  (43, .aload_n 0, 1, (0, 0, 0), []),
  (44, .getfield 28, 3, (1, 3, 0), []),
  (47, .aload_n 0, 1, (0, 0, 0), []),
  (48, .getfield 25, 3, (1, 2, 0), []),
  (51, .iconst 3, 1, (0, 0, 0), []),
  (52, .idiv, 1, (0, 0, 0), []),
  (53, .iadd, 1, (0, 0, 0), []),
  (54, .ireturn, 1, (0, 0, 0), []),
  (55, .iload_n 1, 1, (0, 0, 0), []),
  (56, .aload_n 0, 1, (0, 0, 0), []),
  (57, .getfield 25, 3, (1, 2, 0), []),
  (60, .iconst 2, 1, (0, 0, 0), []),
  (61, .iadd, 1, (0, 0, 0), []),
  (62, .irem, 1, (0, 0, 0), []),
  (63, .ifCond .ne 10, 3, (73, 0, 0), []),
  (66, .aload_n 0, 1, (0, 0, 0), []),
  (67, .getfield 28, 3, (1, 3, 0), []),
  (70, .goto 5, 3, (75, 0, 0), []),
  (73, .bipush (-5), 2, (0, 0, 0), []),
  (75, .ireturn, 1, (0, 0, 0), []),
  (76, .aload_n 0, 1, (0, 0, 0), []),
  (77, .getfield 28, 3, (1, 3, 0), []),
  (80, .aload_n 0, 1, (0, 0, 0), []),
  (81, .getfield 25, 3, (1, 2, 0), []),
  (84, .iconst 3, 1, (0, 0, 0), []),
  (85, .idiv, 1, (0, 0, 0), []),
  (86, .iadd, 1, (0, 0, 0), []),
  (87, .aload_n 0, 1, (0, 0, 0), []),
  (88, .getfield 15, 3, (1, 7, 2), []),
  (91, .iload_n 1, 1, (0, 0, 0), []),
  (92, .iconst 3, 1, (0, 0, 0), []),
  (93, .iand, 1, (0, 0, 0), []),
  (94, .iaload, 1, (0, 0, 0), []),
  (95, .iadd, 1, (0, 0, 0), []),
  (96, .ireturn, 1, (0, 0, 0), []),
  (97, .aload_n 0, 1, (0, 0, 0), []),
  (98, .getfield 28, 3, (1, 3, 0), []),
  (101, .ireturn, 1, (0, 0, 0), [])]
abbrev am_m133 : am_Mt := (⟨"BookedEmpty$Hour", "comes", "(I)I"⟩, prog_3_method_4_code, 2, (some .int), am_P133, 1, 1)
/-- BookedEmpty$Hour.goes()I -/
def am_P134 : List am_E := [(0, .aload_n 0, 1, (0, 0, 0), []),
  (1, .getfield 28, 3, (1, 3, 0), []),
  (4, .aload_n 0, 1, (0, 0, 0), []),
  (5, .getfield 31, 3, (1, 4, 0), []),
  (8, .iadd, 1, (0, 0, 0), []),
  (9, .aload_n 0, 1, (0, 0, 0), []),
  (10, .getfield 22, 3, (1, 1, 0), []),
  (13, .iconst 4, 1, (0, 0, 0), []),
  (14, .if_icmp .ne 12, 3, (26, 0, 0), []),
  (17, .aload_n 0, 1, (0, 0, 0), []),
  (18, .getfield 25, 3, (1, 2, 0), []),
  (21, .iconst 2, 1, (0, 0, 0), []),
  (22, .idiv, 1, (0, 0, 0), []),
  (23, .goto 4, 3, (27, 0, 0), []),
  (26, .iconst 0, 1, (0, 0, 0), []),
  (27, .iadd, 1, (0, 0, 0), []),
  (28, .ireturn, 1, (0, 0, 0), [])]
abbrev am_m134 : am_Mt := (⟨"BookedEmpty$Hour", "goes", "()I"⟩, prog_3_method_5_code, 1, (some .int), am_P134, 1, 1)
/-- BookedEmpty$Hour.toldRoom()I -/
def am_P135 : List am_E := [(0, .aload_n 0, 1, (0, 0, 0), []),
  (1, .getfield 9, 3, (1, 6, 0), []),
  (4, .bipush (-5), 2, (0, 0, 0), []),
  (6, .if_icmp .ne 7, 3, (13, 0, 0), []),
  (9, .iconst 4, 1, (0, 0, 0), []),
  (10, .goto 7, 3, (17, 0, 0), []),
  (13, .aload_n 0, 1, (0, 0, 0), []),
  (14, .getfield 9, 3, (1, 6, 0), []),
  (17, .ireturn, 1, (0, 0, 0), [])]
abbrev am_m135 : am_Mt := (⟨"BookedEmpty$Hour", "toldRoom", "()I"⟩, prog_3_method_6_code, 1, (some .int), am_P135, 1, 1)
/-- BookedEmpty$House.<init>(LBookedEmpty$Office;)V -/
def am_P136 : List am_E := [(0, .aload_n 0, 1, (0, 0, 0), []),
  (1, .invokespecial 3, 3, (0, 0, 30), []),
  (4, .aload_n 0, 1, (0, 0, 0), []),
  (5, .iconst 5, 1, (0, 0, 0), []),
  (6, .anewarray 9, 3, (12, 0, 0), []),
  (9, .putfield 11, 3, (2, 0, 2), []),
  (12, .aload_n 0, 1, (0, 0, 0), []),
  (13, .bipush 6, 2, (0, 0, 0), []),
  (15, .anewarray 17, 3, (13, 0, 0), []),
  (18, .putfield 19, 3, (2, 1, 2), []),
  (21, .aload_n 0, 1, (0, 0, 0), []),
  (22, .new 23, 3, (6, 0, 0), []),
  (25, .dup, 1, (0, 0, 0), []),
  (26, .bipush 6, 2, (0, 0, 0), []),
  (28, .invokespecial 25, 3, (184, 1, 20), []),
  (31, .putfield 28, 3, (2, 7, 2), []),
  (34, .aload_n 0, 1, (0, 0, 0), []),
  (35, .new 23, 3, (6, 0, 0), []),
  (38, .dup, 1, (0, 0, 0), []),
  (39, .bipush 8, 2, (0, 0, 0), []),
  (41, .invokespecial 25, 3, (184, 1, 20), []),
  (44, .putfield 32, 3, (2, 8, 2), []),
  (47, .aload_n 0, 1, (0, 0, 0), []),
  (48, .new 23, 3, (6, 0, 0), []),
  (51, .dup, 1, (0, 0, 0), []),
  (52, .bipush 8, 2, (0, 0, 0), []),
  (54, .invokespecial 25, 3, (184, 1, 20), []),
  (57, .putfield 35, 3, (2, 9, 2), []),
  (60, .aload_n 0, 1, (0, 0, 0), []),
  (61, .aload_n 1, 1, (0, 0, 0), []),
  (62, .putfield 38, 3, (2, 5, 2), []),
  (65, .aload_n 0, 1, (0, 0, 0), []),
  (66, .aload_n 1, 1, (0, 0, 0), []),
  (67, .getfield 42, 3, (3, 0, 0), []),
  (70, .putfield 48, 3, (2, 6, 0), []),
  (73, .iconst 0, 1, (0, 0, 0), []),
  (74, .istore_n 2, 1, (0, 0, 0), []),
  (75, .iload_n 2, 1, (0, 0, 0), []),
  (76, .aload_n 0, 1, (0, 0, 0), []),
  (77, .getfield 11, 3, (2, 0, 2), []),
  (80, .arraylength, 1, (0, 0, 0), []),
  (81, .if_icmp .ge 23, 3, (104, 0, 0), []),
  (84, .aload_n 0, 1, (0, 0, 0), []),
  (85, .getfield 11, 3, (2, 0, 2), []),
  (88, .iload_n 2, 1, (0, 0, 0), []),
  (89, .new 9, 3, (5, 0, 0), []),
  (92, .dup, 1, (0, 0, 0), []),
  (93, .iload_n 2, 1, (0, 0, 0), []),
  (94, .invokespecial 49, 3, (181, 1, 20), []),
  (97, .aastore, 1, (0, 0, 0), []),
  (98, .iinc 2 1, 3, (0, 0, 0), []),
  (101, .goto (-26), 3, (75, 0, 0), []),
  (104, .iconst 0, 1, (0, 0, 0), []),
  (105, .istore_n 2, 1, (0, 0, 0), []),
  (106, .iload_n 2, 1, (0, 0, 0), []),
  (107, .aload_n 0, 1, (0, 0, 0), []),
  (108, .getfield 19, 3, (2, 1, 2), []),
  (111, .arraylength, 1, (0, 0, 0), []),
  (112, .if_icmp .ge 23, 3, (135, 0, 0), []),
  (115, .aload_n 0, 1, (0, 0, 0), []),
  (116, .getfield 19, 3, (2, 1, 2), []),
  (119, .iload_n 2, 1, (0, 0, 0), []),
  (120, .new 17, 3, (1, 0, 0), []),
  (123, .dup, 1, (0, 0, 0), []),
  (124, .iload_n 2, 1, (0, 0, 0), []),
  (125, .invokespecial 50, 3, (130, 1, 20), []),
  (128, .aastore, 1, (0, 0, 0), []),
  (129, .iinc 2 1, 3, (0, 0, 0), []),
  (132, .goto (-26), 3, (106, 0, 0), []),
  (135, .return_, 1, (0, 0, 0), [])]
abbrev am_m136 : am_Mt := (⟨"BookedEmpty$House", "<init>", "(LBookedEmpty$Office;)V"⟩, prog_4_method_1_code, 3, none, am_P136, 2, 2)
/-- BookedEmpty$House.copyFrom(LBookedEmpty$House;)V -/
def am_P137 : List am_E := [(0, .aload_n 0, 1, (0, 0, 0), []),
  (1, .aload_n 1, 1, (0, 0, 0), []),
  (2, .getfield 51, 3, (2, 2, 0), []),
  (5, .putfield 51, 3, (2, 2, 0), []),
  (8, .aload_n 0, 1, (0, 0, 0), []),
  (9, .aload_n 1, 1, (0, 0, 0), []),
  (10, .getfield 54, 3, (2, 3, 0), []),
  (13, .putfield 54, 3, (2, 3, 0), []),
  (16, .aload_n 0, 1, (0, 0, 0), []),
  (17, .aload_n 1, 1, (0, 0, 0), []),
  (18, .getfield 57, 3, (2, 4, 0), []),
  (21, .putfield 57, 3, (2, 4, 0), []),
  (24, .aload_n 0, 1, (0, 0, 0), []),
  (25, .aload_n 1, 1, (0, 0, 0), []),
  (26, .getfield 38, 3, (2, 5, 2), []),
  (29, .putfield 38, 3, (2, 5, 2), []),
  (32, .aload_n 0, 1, (0, 0, 0), []),
  (33, .aload_n 1, 1, (0, 0, 0), []),
  (34, .getfield 48, 3, (2, 6, 0), []),
  (37, .putfield 48, 3, (2, 6, 0), []),
  (40, .iconst 0, 1, (0, 0, 0), []),
  (41, .istore_n 2, 1, (0, 0, 0), []),
  (42, .iload_n 2, 1, (0, 0, 0), []),
  (43, .aload_n 0, 1, (0, 0, 0), []),
  (44, .getfield 51, 3, (2, 2, 0), []),
  (47, .if_icmp .ge 24, 3, (71, 0, 0), []),
  (50, .aload_n 0, 1, (0, 0, 0), []),
  (51, .getfield 11, 3, (2, 0, 2), []),
  (54, .iload_n 2, 1, (0, 0, 0), []),
  (55, .aaload, 1, (0, 0, 0), []),
  (56, .aload_n 1, 1, (0, 0, 0), []),
  (57, .getfield 11, 3, (2, 0, 2), []),
  (60, .iload_n 2, 1, (0, 0, 0), []),
  (61, .aaload, 1, (0, 0, 0), []),
  (62, .invokevirtual 60, 3, (183, 1, 0), []),
  (65, .iinc 2 1, 3, (0, 0, 0), []),
  (68, .goto (-26), 3, (42, 0, 0), []),
  (71, .iconst 0, 1, (0, 0, 0), []),
  (72, .istore_n 2, 1, (0, 0, 0), []),
  (73, .iload_n 2, 1, (0, 0, 0), []),
  (74, .aload_n 0, 1, (0, 0, 0), []),
  (75, .getfield 54, 3, (2, 3, 0), []),
  (78, .if_icmp .ge 24, 3, (102, 0, 0), []),
  (81, .aload_n 0, 1, (0, 0, 0), []),
  (82, .getfield 19, 3, (2, 1, 2), []),
  (85, .iload_n 2, 1, (0, 0, 0), []),
  (86, .aaload, 1, (0, 0, 0), []),
  (87, .aload_n 1, 1, (0, 0, 0), []),
  (88, .getfield 19, 3, (2, 1, 2), []),
  (91, .iload_n 2, 1, (0, 0, 0), []),
  (92, .aaload, 1, (0, 0, 0), []),
  (93, .invokevirtual 64, 3, (132, 1, 0), []),
  (96, .iinc 2 1, 3, (0, 0, 0), []),
  (99, .goto (-26), 3, (73, 0, 0), []),
  (102, .aload_n 0, 1, (0, 0, 0), []),
  (103, .getfield 28, 3, (2, 7, 2), []),
  (106, .aload_n 1, 1, (0, 0, 0), []),
  (107, .getfield 28, 3, (2, 7, 2), []),
  (110, .invokevirtual 67, 3, (187, 1, 0), []),
  (113, .aload_n 0, 1, (0, 0, 0), []),
  (114, .getfield 32, 3, (2, 8, 2), []),
  (117, .aload_n 1, 1, (0, 0, 0), []),
  (118, .getfield 32, 3, (2, 8, 2), []),
  (121, .invokevirtual 67, 3, (187, 1, 0), []),
  (124, .aload_n 0, 1, (0, 0, 0), []),
  (125, .getfield 35, 3, (2, 9, 2), []),
  (128, .aload_n 1, 1, (0, 0, 0), []),
  (129, .getfield 35, 3, (2, 9, 2), []),
  (132, .invokevirtual 67, 3, (187, 1, 0), []),
  (135, .return_, 1, (0, 0, 0), [])]
abbrev am_m137 : am_Mt := (⟨"BookedEmpty$House", "copyFrom", "(LBookedEmpty$House;)V"⟩, prog_4_method_2_code, 3, none, am_P137, 2, 2)
/-- BookedEmpty$House.hasRoom(I)Z -/
def am_P138 : List am_E := [(0, .iload_n 1, 1, (0, 0, 0), []),
  (1, .ifCond .lt 15, 3, (16, 0, 0), []),
  (4, .iload_n 1, 1, (0, 0, 0), []),
  (5, .aload_n 0, 1, (0, 0, 0), []),
  (6, .getfield 51, 3, (2, 2, 0), []),
  (9, .if_icmp .ge 7, 3, (16, 0, 0), []),
  (12, .iconst 1, 1, (0, 0, 0), []),
  (13, .goto 4, 3, (17, 0, 0), []),
  (16, .iconst 0, 1, (0, 0, 0), []),
  (17, .ireturn, 1, (1, 0, 0), [])]
abbrev am_m138 : am_Mt := (⟨"BookedEmpty$House", "hasRoom", "(I)Z"⟩, prog_4_method_3_code, 2, (some .boolean), am_P138, 2, 2)
/-- BookedEmpty$House.hasHour(I)Z -/
def am_P139 : List am_E := [(0, .iload_n 1, 1, (0, 0, 0), []),
  (1, .ifCond .lt 15, 3, (16, 0, 0), []),
  (4, .iload_n 1, 1, (0, 0, 0), []),
  (5, .aload_n 0, 1, (0, 0, 0), []),
  (6, .getfield 54, 3, (2, 3, 0), []),
  (9, .if_icmp .ge 7, 3, (16, 0, 0), []),
  (12, .iconst 1, 1, (0, 0, 0), []),
  (13, .goto 4, 3, (17, 0, 0), []),
  (16, .iconst 0, 1, (0, 0, 0), []),
  (17, .ireturn, 1, (1, 0, 0), [])]
abbrev am_m139 : am_Mt := (⟨"BookedEmpty$House", "hasHour", "(I)Z"⟩, prog_4_method_4_code, 2, (some .boolean), am_P139, 2, 2)
/-- BookedEmpty$House.addRoom(I)I -/
def am_P140 : List am_E := [(0, .aload_n 0, 1, (0, 0, 0), []),
  (1, .getfield 51, 3, (2, 2, 0), []),
  (4, .aload_n 0, 1, (0, 0, 0), []),
  (5, .getfield 11, 3, (2, 0, 2), []),
  (8, .arraylength, 1, (0, 0, 0), []),
  (9, .if_icmp .lt 6, 3, (15, 0, 0), []),
  (12, .bipush (-4), 2, (0, 0, 0), []),
  (14, .ireturn, 1, (0, 0, 0), []),
  (15, .aload_n 0, 1, (0, 0, 0), []),
  (16, .getfield 11, 3, (2, 0, 2), []),
  (19, .aload_n 0, 1, (0, 0, 0), []),
  (20, .getfield 51, 3, (2, 2, 0), []),
  (23, .aaload, 1, (0, 0, 0), []),
  (24, .iload_n 1, 1, (0, 0, 0), []),
  (25, .putfield 70, 3, (5, 1, 0), []),
  (28, .aload_n 0, 1, (0, 0, 0), []),
  (29, .getfield 11, 3, (2, 0, 2), []),
  (32, .aload_n 0, 1, (0, 0, 0), []),
  (33, .getfield 51, 3, (2, 2, 0), []),
  (36, .aaload, 1, (0, 0, 0), []),
  (37, .iconst 0, 1, (0, 0, 0), []),
  (38, .putfield 73, 3, (5, 2, 3), []),
  (41, .aload_n 0, 1, (0, 0, 0), []),
  (42, .dup, 1, (0, 0, 0), []),
  (43, .getfield 51, 3, (2, 2, 0), []),
  (46, .dup_x1, 1, (0, 0, 0), []),
  (47, .iconst 1, 1, (0, 0, 0), []),
  (48, .iadd, 1, (0, 0, 0), []),
  (49, .putfield 51, 3, (2, 2, 0), []),
  (52, .ireturn, 1, (0, 0, 0), [])]
abbrev am_m140 : am_Mt := (⟨"BookedEmpty$House", "addRoom", "(I)I"⟩, prog_4_method_5_code, 2, (some .int), am_P140, 2, 2)
/-- BookedEmpty$House.follow(LBookedEmpty$Office;)V -/
def am_P141 : List am_E := [(0, .aload_n 0, 1, (0, 0, 0), []),
  (1, .aload_n 1, 1, (0, 0, 0), []),
  (2, .putfield 38, 3, (2, 5, 2), []),
  (5, .aload_n 0, 1, (0, 0, 0), []),
  (6, .aload_n 1, 1, (0, 0, 0), []),
  (7, .getfield 42, 3, (3, 0, 0), []),
  (10, .putfield 48, 3, (2, 6, 0), []),
  (13, .return_, 1, (0, 0, 0), [])]
abbrev am_m141 : am_Mt := (⟨"BookedEmpty$House", "follow", "(LBookedEmpty$Office;)V"⟩, prog_4_method_6_code, 2, none, am_P141, 2, 2)
/-- BookedEmpty$House.span(II)J -/
def am_P142 : List am_E := [(0, .iload_n 1, 1, (0, 0, 0), []),
  (1, .iconst 0, 1, (0, 0, 0), []),
  (2, .invokestatic 77, 3, (0, 2, 81), []),
  (5, .istore_n 3, 1, (0, 0, 0), []),
  (6, .iload_n 2, 1, (0, 0, 0), []),
  (7, .aload_n 0, 1, (0, 0, 0), []),
  (8, .getfield 38, 3, (2, 5, 2), []),
  (11, .getfield 83, 3, (3, 1, 0), []),
  (14, .invokestatic 86, 3, (1, 2, 81), []),
  (17, .istore 4, 2, (0, 0, 0), []),
  (19, .iload_n 3, 1, (0, 0, 0), []),
  (20, .iload 4, 2, (0, 0, 0), []),
  (22, .if_icmp .ge 14, 3, (36, 0, 0), []),
  (25, .lconst 1, 1, (0, 0, 0), []),
  (26, .iload 4, 2, (0, 0, 0), []),
  (28, .lshl, 1, (0, 0, 0), []),
  (29, .lconst 1, 1, (0, 0, 0), []),
  (30, .iload_n 3, 1, (0, 0, 0), []),
  (31, .lshl, 1, (0, 0, 0), []),
  (32, .lsub, 1, (0, 0, 0), []),
  (33, .goto 4, 3, (37, 0, 0), []),
  (36, .lconst 0, 1, (0, 0, 0), []),
  (37, .lreturn, 1, (0, 0, 0), [])]
abbrev am_m142 : am_Mt := (⟨"BookedEmpty$House", "span", "(II)J"⟩, prog_4_method_7_code, 5, (some .long), am_P142, 2, 2)
/-- BookedEmpty$House.booked(LBookedEmpty$Hour;)J -/
def am_P143 : List am_E := [(0, .aload_n 0, 1, (0, 0, 0), []),
  (1, .aload_n 1, 1, (0, 0, 0), []),
  (2, .getfield 89, 3, (1, 3, 0), []),
  (5, .aload_n 1, 1, (0, 0, 0), []),
  (6, .getfield 89, 3, (1, 3, 0), []),
  (9, .aload_n 1, 1, (0, 0, 0), []),
  (10, .getfield 92, 3, (1, 4, 0), []),
  (13, .iadd, 1, (0, 0, 0), []),
  (14, .invokevirtual 93, 3, (142, 2, 2), []),
  (17, .lreturn, 1, (0, 0, 0), [])]
abbrev am_m143 : am_Mt := (⟨"BookedEmpty$House", "booked", "(LBookedEmpty$Hour;)J"⟩, prog_4_method_8_code, 2, (some .long), am_P143, 2, 2)
/-- BookedEmpty$House.heldFor(LBookedEmpty$Hour;I)J -/
def am_P144 : List am_E := [(0, .aload_n 1, 1, (0, 0, 0), []),
  (1, .iload_n 2, 1, (0, 0, 0), []),
  (2, .invokevirtual 97, 3, (133, 1, 1), []),
  (5, .istore_n 3, 1, (0, 0, 0), []),
  (6, .aload_n 1, 1, (0, 0, 0), []),
  (7, .getfield 89, 3, (1, 3, 0), []),
  (10, .aload_n 0, 1, (0, 0, 0), []),
  (11, .getfield 48, 3, (2, 6, 0), []),
  (14, .iadd, 1, (0, 0, 0), []),
  (15, .istore 4, 2, (0, 0, 0), []),
  (17, .aload_n 1, 1, (0, 0, 0), []),
  (18, .getfield 89, 3, (1, 3, 0), []),
  (21, .aload_n 1, 1, (0, 0, 0), []),
  (22, .getfield 92, 3, (1, 4, 0), []),
  (25, .iadd, 1, (0, 0, 0), []),
  (26, .istore 5, 2, (0, 0, 0), []),
  (28, .iload_n 3, 1, (0, 0, 0), []),
  (29, .bipush (-5), 2, (0, 0, 0), []),
  (31, .if_icmp .eq 9, 3, (40, 0, 0), []),
  (34, .iload_n 3, 1, (0, 0, 0), []),
  (35, .iload 4, 2, (0, 0, 0), []),
  (37, .if_icmp .le 7, 3, (44, 0, 0), []),
  (40, .iconst 1, 1, (0, 0, 0), []),
  (41, .goto 4, 3, (45, 0, 0), []),
  (44, .iconst 0, 1, (0, 0, 0), []),
  (45, .istore 6, 2, (0, 0, 0), []),
  (47, .aload_n 0, 1, (0, 0, 0), []),
  (48, .aload_n 1, 1, (0, 0, 0), []),
  (49, .getfield 89, 3, (1, 3, 0), []),
  (52, .iload 6, 2, (0, 0, 0), []),
  (54, .ifCond .eq 13, 3, (67, 0, 0), []),
  (57, .iload 5, 2, (0, 0, 0), []),
  (59, .iload 4, 2, (0, 0, 0), []),
  (61, .invokestatic 86, 3, (1, 2, 81), []),
  (64, .goto 5, 3, (69, 0, 0), []),
  (67, .iload 5, 2, (0, 0, 0), []),
  (69, .invokevirtual 93, 3, (142, 2, 2), []),
  (72, .lreturn, 1, (0, 0, 0), [])]
abbrev am_m144 : am_Mt := (⟨"BookedEmpty$House", "heldFor", "(LBookedEmpty$Hour;I)J"⟩, prog_4_method_9_code, 7, (some .long), am_P144, 2, 2)
/-- BookedEmpty$House.peopleOf(LBookedEmpty$Hour;I)J -/
def am_P145 : List am_E := [(0, .aload_n 1, 1, (0, 0, 0), []),
  (1, .iload_n 2, 1, (0, 0, 0), []),
  (2, .invokevirtual 97, 3, (133, 1, 1), []),
  (5, .istore_n 3, 1, (0, 0, 0), []),
  (6, .iload_n 3, 1, (0, 0, 0), []),
  (7, .bipush (-5), 2, (0, 0, 0), []),
  (9, .if_icmp .ne 7, 3, (16, 0, 0), []),
  (12, .lconst 0, 1, (0, 0, 0), []),
  (13, .goto 12, 3, (25, 0, 0), []),
  (16, .aload_n 0, 1, (0, 0, 0), []),
  (17, .iload_n 3, 1, (0, 0, 0), []),
  (18, .aload_n 1, 1, (0, 0, 0), []),
  (19, .invokevirtual 101, 3, (134, 0, 1), []),
  (22, .invokevirtual 93, 3, (142, 2, 2), []),
  (25, .lreturn, 1, (0, 0, 0), [])]
abbrev am_m145 : am_Mt := (⟨"BookedEmpty$House", "peopleOf", "(LBookedEmpty$Hour;I)J"⟩, prog_4_method_10_code, 4, (some .long), am_P145, 2, 2)
/-- BookedEmpty$House.clashesIn(ILBookedEmpty$Hour;)Z -/
def am_P146 : List am_E := [(0, .iconst 0, 1, (0, 0, 0), []),
  (1, .istore_n 3, 1, (0, 0, 0), []),
  (2, .iload_n 3, 1, (0, 0, 0), []),
  (3, .aload_n 0, 1, (0, 0, 0), []),
  (4, .getfield 54, 3, (2, 3, 0), []),
  (7, .if_icmp .ge 53, 3, (60, 0, 0), []),
  (10, .iload_n 3, 1, (0, 0, 0), []),
  (11, .aload_n 2, 1, (0, 0, 0), []),
  (12, .getfield 105, 3, (1, 0, 0), []),
  (15, .if_icmp .eq 39, 3, (54, 0, 0), []),
  (18, .aload_n 0, 1, (0, 0, 0), []),
  (19, .getfield 19, 3, (2, 1, 2), []),
  (22, .iload_n 3, 1, (0, 0, 0), []),
  (23, .aaload, 1, (0, 0, 0), []),
  (24, .getfield 108, 3, (1, 6, 0), []),
  (27, .iload_n 1, 1, (0, 0, 0), []),
  (28, .if_icmp .ne 26, 3, (54, 0, 0), []),
  (31, .aload_n 0, 1, (0, 0, 0), []),
  (32, .aload_n 0, 1, (0, 0, 0), []),
  (33, .getfield 19, 3, (2, 1, 2), []),
  (36, .iload_n 3, 1, (0, 0, 0), []),
  (37, .aaload, 1, (0, 0, 0), []),
  (38, .invokevirtual 111, 3, (143, 1, 2), []),
  (41, .aload_n 0, 1, (0, 0, 0), []),
  (42, .aload_n 2, 1, (0, 0, 0), []),
  (43, .invokevirtual 111, 3, (143, 1, 2), []),
  (46, .land, 1, (0, 0, 0), []),
  (47, .lconst 0, 1, (0, 0, 0), []),
  (48, .lcmp, 1, (0, 0, 0), []),
  (49, .ifCond .eq 5, 3, (54, 0, 0), []),
  (52, .iconst 1, 1, (0, 0, 0), []),
  (53, .ireturn, 1, (1, 0, 0), []),
  (54, .iinc 3 1, 3, (0, 0, 0), []),
  (57, .goto (-55), 3, (2, 0, 0), []),
  (60, .iconst 0, 1, (0, 0, 0), []),
  (61, .ireturn, 1, (1, 0, 0), [])]
abbrev am_m146 : am_Mt := (⟨"BookedEmpty$House", "clashesIn", "(ILBookedEmpty$Hour;)Z"⟩, prog_4_method_11_code, 4, (some .boolean), am_P146, 2, 2)
/-- BookedEmpty$House.heldIn(II)J -/
def am_P147 : List am_E := [(0, .lconst 0, 1, (0, 0, 0), []),
  (1, .lstore_n 3, 1, (0, 0, 0), []),
  (2, .iconst 0, 1, (0, 0, 0), []),
  (3, .istore 5, 2, (0, 0, 0), []),
  (5, .iload 5, 2, (0, 0, 0), []),
  (7, .aload_n 0, 1, (0, 0, 0), []),
  (8, .getfield 54, 3, (2, 3, 0), []),
  (11, .if_icmp .ge 38, 3, (49, 0, 0), []),
  (14, .aload_n 0, 1, (0, 0, 0), []),
  (15, .getfield 19, 3, (2, 1, 2), []),
  (18, .iload 5, 2, (0, 0, 0), []),
  (20, .aaload, 1, (0, 0, 0), []),
  (21, .getfield 108, 3, (1, 6, 0), []),
  (24, .iload_n 1, 1, (0, 0, 0), []),
  (25, .if_icmp .ne 18, 3, (43, 0, 0), []),
  (28, .lload_n 3, 1, (0, 0, 0), []),
  (29, .aload_n 0, 1, (0, 0, 0), []),
  (30, .aload_n 0, 1, (0, 0, 0), []),
  (31, .getfield 19, 3, (2, 1, 2), []),
  (34, .iload 5, 2, (0, 0, 0), []),
  (36, .aaload, 1, (0, 0, 0), []),
  (37, .iload_n 2, 1, (0, 0, 0), []),
  (38, .invokevirtual 115, 3, (144, 2, 2), []),
  (41, .lor, 1, (0, 0, 0), []),
  (42, .lstore_n 3, 1, (0, 0, 0), []),
  (43, .iinc 5 1, 3, (0, 0, 0), []),
  (46, .goto (-41), 3, (5, 0, 0), []),
  (49, .lload_n 3, 1, (0, 0, 0), []),
  (50, .lreturn, 1, (0, 0, 0), [])]
abbrev am_m147 : am_Mt := (⟨"BookedEmpty$House", "heldIn", "(II)J"⟩, prog_4_method_12_code, 6, (some .long), am_P147, 2, 2)
/-- BookedEmpty$House.peopleIn(II)J -/
def am_P148 : List am_E := [(0, .lconst 0, 1, (0, 0, 0), []),
  (1, .lstore_n 3, 1, (0, 0, 0), []),
  (2, .iconst 0, 1, (0, 0, 0), []),
  (3, .istore 5, 2, (0, 0, 0), []),
  (5, .iload 5, 2, (0, 0, 0), []),
  (7, .aload_n 0, 1, (0, 0, 0), []),
  (8, .getfield 54, 3, (2, 3, 0), []),
  (11, .if_icmp .ge 38, 3, (49, 0, 0), []),
  (14, .aload_n 0, 1, (0, 0, 0), []),
  (15, .getfield 19, 3, (2, 1, 2), []),
  (18, .iload 5, 2, (0, 0, 0), []),
  (20, .aaload, 1, (0, 0, 0), []),
  (21, .getfield 108, 3, (1, 6, 0), []),
  (24, .iload_n 1, 1, (0, 0, 0), []),
  (25, .if_icmp .ne 18, 3, (43, 0, 0), []),
  (28, .lload_n 3, 1, (0, 0, 0), []),
  (29, .aload_n 0, 1, (0, 0, 0), []),
  (30, .aload_n 0, 1, (0, 0, 0), []),
  (31, .getfield 19, 3, (2, 1, 2), []),
  (34, .iload 5, 2, (0, 0, 0), []),
  (36, .aaload, 1, (0, 0, 0), []),
  (37, .iload_n 2, 1, (0, 0, 0), []),
  (38, .invokevirtual 119, 3, (145, 2, 2), []),
  (41, .lor, 1, (0, 0, 0), []),
  (42, .lstore_n 3, 1, (0, 0, 0), []),
  (43, .iinc 5 1, 3, (0, 0, 0), []),
  (46, .goto (-41), 3, (5, 0, 0), []),
  (49, .lload_n 3, 1, (0, 0, 0), []),
  (50, .lreturn, 1, (0, 0, 0), [])]
abbrev am_m148 : am_Mt := (⟨"BookedEmpty$House", "peopleIn", "(II)J"⟩, prog_4_method_13_code, 6, (some .long), am_P148, 2, 2)
/-- BookedEmpty$House.emptyIn(II)I -/
def am_P149 : List am_E := [(0, .aload_n 0, 1, (0, 0, 0), []),
  (1, .iload_n 1, 1, (0, 0, 0), []),
  (2, .iload_n 2, 1, (0, 0, 0), []),
  (3, .invokevirtual 122, 3, (147, 2, 2), []),
  (6, .aload_n 0, 1, (0, 0, 0), []),
  (7, .iload_n 1, 1, (0, 0, 0), []),
  (8, .iload_n 2, 1, (0, 0, 0), []),
  (9, .invokevirtual 125, 3, (148, 2, 2), []),
  (12, .ldc2_w 128, 3, (18446744073709551615, 0, 0), []),
  (15, .lxor, 1, (0, 0, 0), []),
  (16, .land, 1, (0, 0, 0), []),
  (17, .invokestatic 130, 3, (112, 1, 11), []),
  (20, .ireturn, 1, (0, 0, 0), [])]
abbrev am_m149 : am_Mt := (⟨"BookedEmpty$House", "emptyIn", "(II)I"⟩, prog_4_method_14_code, 3, (some .int), am_P149, 2, 2)
/-- BookedEmpty$House.freeIn(II)I -/
def am_P150 : List am_E := [(0, .aload_n 0, 1, (0, 0, 0), []),
  (1, .getfield 38, 3, (2, 5, 2), []),
  (4, .getfield 83, 3, (3, 1, 0), []),
  (7, .aload_n 0, 1, (0, 0, 0), []),
  (8, .iload_n 1, 1, (0, 0, 0), []),
  (9, .iload_n 2, 1, (0, 0, 0), []),
  (10, .invokevirtual 122, 3, (147, 2, 2), []),
  (13, .aload_n 0, 1, (0, 0, 0), []),
  (14, .iload_n 1, 1, (0, 0, 0), []),
  (15, .iload_n 2, 1, (0, 0, 0), []),
  (16, .invokevirtual 125, 3, (148, 2, 2), []),
  (19, .lor, 1, (0, 0, 0), []),
  (20, .invokestatic 130, 3, (112, 1, 11), []),
  (23, .isub, 1, (0, 0, 0), []),
  (24, .ireturn, 1, (0, 0, 0), [])]
abbrev am_m150 : am_Mt := (⟨"BookedEmpty$House", "freeIn", "(II)I"⟩, prog_4_method_15_code, 3, (some .int), am_P150, 2, 2)
/-- BookedEmpty$House.emptyInAll(I)I -/
def am_P151 : List am_E := [(0, .iconst 0, 1, (0, 0, 0), []),
  (1, .istore_n 2, 1, (0, 0, 0), []),
  (2, .iconst 0, 1, (0, 0, 0), []),
  (3, .istore_n 3, 1, (0, 0, 0), []),
  (4, .iload_n 3, 1, (0, 0, 0), []),
  (5, .aload_n 0, 1, (0, 0, 0), []),
  (6, .getfield 51, 3, (2, 2, 0), []),
  (9, .if_icmp .ge 18, 3, (27, 0, 0), []),
  (12, .iload_n 2, 1, (0, 0, 0), []),
  (13, .aload_n 0, 1, (0, 0, 0), []),
  (14, .iload_n 3, 1, (0, 0, 0), []),
  (15, .iload_n 1, 1, (0, 0, 0), []),
  (16, .invokevirtual 136, 3, (149, 2, 1), []),
  (19, .iadd, 1, (0, 0, 0), []),
  (20, .istore_n 2, 1, (0, 0, 0), []),
  (21, .iinc 3 1, 3, (0, 0, 0), []),
  (24, .goto (-20), 3, (4, 0, 0), []),
  (27, .iload_n 2, 1, (0, 0, 0), []),
  (28, .ireturn, 1, (0, 0, 0), [])]
abbrev am_m151 : am_Mt := (⟨"BookedEmpty$House", "emptyInAll", "(I)I"⟩, prog_4_method_16_code, 4, (some .int), am_P151, 2, 2)
/-- BookedEmpty$House.freeInAll(I)I -/
def am_P152 : List am_E := [(0, .iconst 0, 1, (0, 0, 0), []),
  (1, .istore_n 2, 1, (0, 0, 0), []),
  (2, .iconst 0, 1, (0, 0, 0), []),
  (3, .istore_n 3, 1, (0, 0, 0), []),
  (4, .iload_n 3, 1, (0, 0, 0), []),
  (5, .aload_n 0, 1, (0, 0, 0), []),
  (6, .getfield 51, 3, (2, 2, 0), []),
  (9, .if_icmp .ge 18, 3, (27, 0, 0), []),
  (12, .iload_n 2, 1, (0, 0, 0), []),
  (13, .aload_n 0, 1, (0, 0, 0), []),
  (14, .iload_n 3, 1, (0, 0, 0), []),
  (15, .iload_n 1, 1, (0, 0, 0), []),
  (16, .invokevirtual 139, 3, (150, 2, 1), []),
  (19, .iadd, 1, (0, 0, 0), []),
  (20, .istore_n 2, 1, (0, 0, 0), []),
  (21, .iinc 3 1, 3, (0, 0, 0), []),
  (24, .goto (-20), 3, (4, 0, 0), []),
  (27, .iload_n 2, 1, (0, 0, 0), []),
  (28, .ireturn, 1, (0, 0, 0), [])]
abbrev am_m152 : am_Mt := (⟨"BookedEmpty$House", "freeInAll", "(I)I"⟩, prog_4_method_17_code, 4, (some .int), am_P152, 2, 2)
/-- BookedEmpty$House.emptyInDays(I)I -/
def am_P153 : List am_E := [(0, .iconst 0, 1, (0, 0, 0), []),
  (1, .istore_n 2, 1, (0, 0, 0), []),
  (2, .iconst 0, 1, (0, 0, 0), []),
  (3, .istore_n 3, 1, (0, 0, 0), []),
  (4, .iload_n 3, 1, (0, 0, 0), []),
  (5, .iload_n 1, 1, (0, 0, 0), []),
  (6, .if_icmp .ge 22, 3, (28, 0, 0), []),
  (9, .iload_n 2, 1, (0, 0, 0), []),
  (10, .aload_n 0, 1, (0, 0, 0), []),
  (11, .aload_n 0, 1, (0, 0, 0), []),
  (12, .getfield 57, 3, (2, 4, 0), []),
  (15, .iload_n 3, 1, (0, 0, 0), []),
  (16, .iadd, 1, (0, 0, 0), []),
  (17, .invokevirtual 142, 3, (151, 1, 1), []),
  (20, .iadd, 1, (0, 0, 0), []),
  (21, .istore_n 2, 1, (0, 0, 0), []),
  (22, .iinc 3 1, 3, (0, 0, 0), []),
  (25, .goto (-21), 3, (4, 0, 0), []),
  (28, .iload_n 2, 1, (0, 0, 0), []),
  (29, .ireturn, 1, (0, 0, 0), [])]
abbrev am_m153 : am_Mt := (⟨"BookedEmpty$House", "emptyInDays", "(I)I"⟩, prog_4_method_18_code, 4, (some .int), am_P153, 2, 2)
/-- BookedEmpty$House.housed()I -/
def am_P154 : List am_E := [(0, .iconst 0, 1, (0, 0, 0), []),
  (1, .istore_n 1, 1, (0, 0, 0), []),
  (2, .iconst 0, 1, (0, 0, 0), []),
  (3, .istore_n 2, 1, (0, 0, 0), []),
  (4, .iload_n 2, 1, (0, 0, 0), []),
  (5, .aload_n 0, 1, (0, 0, 0), []),
  (6, .getfield 54, 3, (2, 3, 0), []),
  (9, .if_icmp .ge 28, 3, (37, 0, 0), []),
  (12, .iload_n 1, 1, (0, 0, 0), []),
  (13, .aload_n 0, 1, (0, 0, 0), []),
  (14, .aload_n 0, 1, (0, 0, 0), []),
  (15, .getfield 19, 3, (2, 1, 2), []),
  (18, .iload_n 2, 1, (0, 0, 0), []),
  (19, .aaload, 1, (0, 0, 0), []),
  (20, .getfield 108, 3, (1, 6, 0), []),
  (23, .invokevirtual 145, 3, (138, 1, 1), []),
  (26, .invokestatic 149, 3, (252, 1, 61), []),
  (29, .iadd, 1, (0, 0, 0), []),
  (30, .istore_n 1, 1, (0, 0, 0), []),
  (31, .iinc 2 1, 3, (0, 0, 0), []),
  (34, .goto (-30), 3, (4, 0, 0), []),
  (37, .iload_n 1, 1, (0, 0, 0), []),
  (38, .ireturn, 1, (0, 0, 0), [])]
abbrev am_m154 : am_Mt := (⟨"BookedEmpty$House", "housed", "()I"⟩, prog_4_method_19_code, 3, (some .int), am_P154, 2, 2)
/-- BookedEmpty$House.worthNow()I -/
def am_P155 : List am_E := [(0, .iconst 0, 1, (0, 0, 0), []),
  (1, .istore_n 1, 1, (0, 0, 0), []),
  (2, .iconst 0, 1, (0, 0, 0), []),
  (3, .istore_n 2, 1, (0, 0, 0), []),
  (4, .iload_n 2, 1, (0, 0, 0), []),
  (5, .aload_n 0, 1, (0, 0, 0), []),
  (6, .getfield 54, 3, (2, 3, 0), []),
  (9, .if_icmp .ge 55, 3, (64, 0, 0), []),
  (12, .aload_n 0, 1, (0, 0, 0), []),
  (13, .aload_n 0, 1, (0, 0, 0), []),
  (14, .getfield 19, 3, (2, 1, 2), []),
  (17, .iload_n 2, 1, (0, 0, 0), []),
  (18, .aaload, 1, (0, 0, 0), []),
  (19, .getfield 108, 3, (1, 6, 0), []),
  (22, .invokevirtual 145, 3, (138, 1, 1), []),
  (25, .ifCond .eq 33, 3, (58, 0, 0), []),
  (28, .iload_n 1, 1, (0, 0, 0), []),
  (29, .aload_n 0, 1, (0, 0, 0), []),
  (30, .getfield 38, 3, (2, 5, 2), []),
  (33, .aload_n 0, 1, (0, 0, 0), []),
  (34, .getfield 19, 3, (2, 1, 2), []),
  (37, .iload_n 2, 1, (0, 0, 0), []),
  (38, .aaload, 1, (0, 0, 0), []),
  (39, .aload_n 0, 1, (0, 0, 0), []),
  (40, .getfield 11, 3, (2, 0, 2), []),
  (43, .aload_n 0, 1, (0, 0, 0), []),
  (44, .getfield 19, 3, (2, 1, 2), []),
  (47, .iload_n 2, 1, (0, 0, 0), []),
  (48, .aaload, 1, (0, 0, 0), []),
  (49, .getfield 108, 3, (1, 6, 0), []),
  (52, .aaload, 1, (0, 0, 0), []),
  (53, .invokevirtual 153, 3, (163, 2, 1), []),
  (56, .iadd, 1, (0, 0, 0), []),
  (57, .istore_n 1, 1, (0, 0, 0), []),
  (58, .iinc 2 1, 3, (0, 0, 0), []),
  (61, .goto (-57), 3, (4, 0, 0), []),
  (64, .iload_n 1, 1, (0, 0, 0), []),
  (65, .ireturn, 1, (0, 0, 0), [])]
abbrev am_m155 : am_Mt := (⟨"BookedEmpty$House", "worthNow", "()I"⟩, prog_4_method_20_code, 3, (some .int), am_P155, 2, 2)
/-- BookedEmpty$House.isAsSeen()Z -/
def am_P156 : List am_E := [(0, .iconst 0, 1, (0, 0, 0), []),
  (1, .istore_n 1, 1, (0, 0, 0), []),
  (2, .iload_n 1, 1, (0, 0, 0), []),
  (3, .aload_n 0, 1, (0, 0, 0), []),
  (4, .getfield 28, 3, (2, 7, 2), []),
  (7, .getfield 157, 3, (6, 1, 0), []),
  (10, .if_icmp .ge 53, 3, (63, 0, 0), []),
  (13, .aload_n 0, 1, (0, 0, 0), []),
  (14, .getfield 28, 3, (2, 7, 2), []),
  (17, .getfield 160, 3, (6, 0, 2), []),
  (20, .iload_n 1, 1, (0, 0, 0), []),
  (21, .aaload, 1, (0, 0, 0), []),
  (22, .astore_n 2, 1, (0, 0, 0), []),
  (23, .aload_n 0, 1, (0, 0, 0), []),
  (24, .aload_n 2, 1, (0, 0, 0), []),
  (25, .iconst 0, 1, (0, 0, 0), []),
  (26, .iaload, 1, (0, 0, 0), []),
  (27, .aload_n 0, 1, (0, 0, 0), []),
  (28, .getfield 57, 3, (2, 4, 0), []),
  (31, .aload_n 2, 1, (0, 0, 0), []),
  (32, .iconst 3, 1, (0, 0, 0), []),
  (33, .iaload, 1, (0, 0, 0), []),
  (34, .iadd, 1, (0, 0, 0), []),
  (35, .invokevirtual 125, 3, (148, 2, 2), []),
  (38, .aload_n 2, 1, (0, 0, 0), []),
  (39, .iconst 1, 1, (0, 0, 0), []),
  (40, .iaload, 1, (0, 0, 0), []),
  (41, .invokestatic 164, 3, (253, 2, 61), []),
  (44, .istore_n 3, 1, (0, 0, 0), []),
  (45, .iload_n 3, 1, (0, 0, 0), []),
  (46, .invokestatic 149, 3, (252, 1, 61), []),
  (49, .aload_n 2, 1, (0, 0, 0), []),
  (50, .iconst 2, 1, (0, 0, 0), []),
  (51, .iaload, 1, (0, 0, 0), []),
  (52, .if_icmp .eq 5, 3, (57, 0, 0), []),
  (55, .iconst 0, 1, (0, 0, 0), []),
  (56, .ireturn, 1, (1, 0, 0), []),
  (57, .iinc 1 1, 3, (0, 0, 0), []),
  (60, .goto (-58), 3, (2, 0, 0), []),
  (63, .iconst 1, 1, (0, 0, 0), []),
  (64, .ireturn, 1, (1, 0, 0), [])]
abbrev am_m156 : am_Mt := (⟨"BookedEmpty$House", "isAsSeen", "()Z"⟩, prog_4_method_21_code, 4, (some .boolean), am_P156, 2, 2)
/-- BookedEmpty$House.doPlan()V -/
def am_P157 : List am_E := [(0, .iconst 0, 1, (0, 0, 0), []),
  (1, .istore_n 1, 1, (0, 0, 0), []),
  (2, .iload_n 1, 1, (0, 0, 0), []),
  (3, .aload_n 0, 1, (0, 0, 0), []),
  (4, .getfield 32, 3, (2, 8, 2), []),
  (7, .getfield 157, 3, (6, 1, 0), []),
  (10, .if_icmp .ge 100, 3, (110, 0, 0), []),
  (13, .aload_n 0, 1, (0, 0, 0), []),
  (14, .getfield 32, 3, (2, 8, 2), []),
  (17, .getfield 160, 3, (6, 0, 2), []),
  (20, .iload_n 1, 1, (0, 0, 0), []),
  (21, .aaload, 1, (0, 0, 0), []),
  (22, .iconst 0, 1, (0, 0, 0), []),
  (23, .iaload, 1, (0, 0, 0), []),
  (24, .istore_n 2, 1, (0, 0, 0), []),
  (25, .aload_n 0, 1, (0, 0, 0), []),
  (26, .getfield 32, 3, (2, 8, 2), []),
  (29, .getfield 160, 3, (6, 0, 2), []),
  (32, .iload_n 1, 1, (0, 0, 0), []),
  (33, .aaload, 1, (0, 0, 0), []),
  (34, .iconst 1, 1, (0, 0, 0), []),
  (35, .iaload, 1, (0, 0, 0), []),
  (36, .istore_n 3, 1, (0, 0, 0), []),
  (37, .iload_n 2, 1, (0, 0, 0), []),
  (38, .ifCond .ne 16, 3, (54, 0, 0), []),
  (41, .aload_n 0, 1, (0, 0, 0), []),
  (42, .dup, 1, (0, 0, 0), []),
  (43, .getfield 57, 3, (2, 4, 0), []),
  (46, .iconst 1, 1, (0, 0, 0), []),
  (47, .iadd, 1, (0, 0, 0), []),
  (48, .putfield 57, 3, (2, 4, 0), []),
  (51, .goto 53, 3, (104, 0, 0), []),
  (54, .iload_n 2, 1, (0, 0, 0), []),
  (55, .iconst 1, 1, (0, 0, 0), []),
  (56, .if_icmp .ne 25, 3, (81, 0, 0), []),
  (59, .aload_n 0, 1, (0, 0, 0), []),
  (60, .iload_n 3, 1, (0, 0, 0), []),
  (61, .invokevirtual 168, 3, (139, 1, 1), []),
  (64, .ifCond .eq 17, 3, (81, 0, 0), []),
  (67, .aload_n 0, 1, (0, 0, 0), []),
  (68, .getfield 19, 3, (2, 1, 2), []),
  (71, .iload_n 3, 1, (0, 0, 0), []),
  (72, .aaload, 1, (0, 0, 0), []),
  (73, .bipush (-5), 2, (0, 0, 0), []),
  (75, .putfield 108, 3, (1, 6, 0), []),
  (78, .goto 26, 3, (104, 0, 0), []),
  (81, .iload_n 2, 1, (0, 0, 0), []),
  (82, .iconst 2, 1, (0, 0, 0), []),
  (83, .if_icmp .ne 21, 3, (104, 0, 0), []),
  (86, .aload_n 0, 1, (0, 0, 0), []),
  (87, .iload_n 3, 1, (0, 0, 0), []),
  (88, .invokevirtual 145, 3, (138, 1, 1), []),
  (91, .ifCond .eq 13, 3, (104, 0, 0), []),
  (94, .aload_n 0, 1, (0, 0, 0), []),
  (95, .getfield 11, 3, (2, 0, 2), []),
  (98, .iload_n 3, 1, (0, 0, 0), []),
  (99, .aaload, 1, (0, 0, 0), []),
  (100, .iconst 0, 1, (0, 0, 0), []),
  (101, .putfield 73, 3, (5, 2, 3), []),
  (104, .iinc 1 1, 3, (0, 0, 0), []),
  (107, .goto (-105), 3, (2, 0, 0), []),
  (110, .return_, 1, (0, 0, 0), [])]
abbrev am_m157 : am_Mt := (⟨"BookedEmpty$House", "doPlan", "()V"⟩, prog_4_method_22_code, 4, none, am_P157, 2, 2)
/-- BookedEmpty$Office.<init>()V -/
def am_P158 : List am_E := [(0, .aload_n 0, 1, (0, 0, 0), []),
  (1, .invokespecial 3, 3, (0, 0, 30), []),
  (4, .aload_n 0, 1, (0, 0, 0), []),
  (5, .iconst 2, 1, (0, 0, 0), []),
  (6, .putfield 9, 3, (3, 0, 0), []),
  (9, .aload_n 0, 1, (0, 0, 0), []),
  (10, .bipush 40, 2, (0, 0, 0), []),
  (12, .putfield 15, 3, (3, 1, 0), []),
  (15, .aload_n 0, 1, (0, 0, 0), []),
  (16, .bipush 10, 2, (0, 0, 0), []),
  (18, .newarray .int, 2, (14, 0, 0), []),
  (20, .putfield 18, 3, (3, 3, 2), []),
  (23, .aload_n 0, 1, (0, 0, 0), []),
  (24, .bipush 10, 2, (0, 0, 0), []),
  (26, .newarray .int, 2, (15, 0, 0), []),
  (28, .putfield 22, 3, (3, 4, 2), []),
  (31, .aload_n 0, 1, (0, 0, 0), []),
  (32, .bipush 100, 2, (0, 0, 0), []),
  (34, .newarray .int, 2, (16, 0, 0), []),
  (36, .putfield 25, 3, (3, 5, 2), []),
  (39, .return_, 1, (0, 0, 0), [])]
abbrev am_m158 : am_Mt := (⟨"BookedEmpty$Office", "<init>", "()V"⟩, prog_5_method_1_code, 1, none, am_P158, 3, 3)
/-- BookedEmpty$Office.clear()V -/
def am_P159 : List am_E := [(0, .aload_n 0, 1, (0, 0, 0), []),
  (1, .iconst 2, 1, (0, 0, 0), []),
  (2, .putfield 9, 3, (3, 0, 0), []),
  (5, .aload_n 0, 1, (0, 0, 0), []),
  (6, .bipush 40, 2, (0, 0, 0), []),
  (8, .putfield 15, 3, (3, 1, 0), []),
  (11, .aload_n 0, 1, (0, 0, 0), []),
  (12, .iconst 0, 1, (0, 0, 0), []),
  (13, .putfield 28, 3, (3, 2, 0), []),
  (16, .aload_n 0, 1, (0, 0, 0), []),
  (17, .iconst 0, 1, (0, 0, 0), []),
  (18, .putfield 31, 3, (3, 6, 0), []),
  (21, .return_, 1, (0, 0, 0), [])]
abbrev am_m159 : am_Mt := (⟨"BookedEmpty$Office", "clear", "()V"⟩, prog_5_method_2_code, 1, none, am_P159, 3, 3)
/-- BookedEmpty$Office.put(I)V -/
def am_P160 : List am_E := [(0, .aload_n 0, 1, (0, 0, 0), []),
  (1, .getfield 31, 3, (3, 6, 0), []),
  (4, .aload_n 0, 1, (0, 0, 0), []),
  (5, .getfield 25, 3, (3, 5, 2), []),
  (8, .arraylength, 1, (0, 0, 0), []),
  (9, .if_icmp .ge 23, 3, (32, 0, 0), []),
  (12, .aload_n 0, 1, (0, 0, 0), []),
  (13, .getfield 25, 3, (3, 5, 2), []),
  (16, .aload_n 0, 1, (0, 0, 0), []),
  (17, .getfield 31, 3, (3, 6, 0), []),
  (20, .iload_n 1, 1, (0, 0, 0), []),
  (21, .iastore, 1, (0, 0, 0), []),
  (22, .aload_n 0, 1, (0, 0, 0), []),
  (23, .dup, 1, (0, 0, 0), []),
  (24, .getfield 31, 3, (3, 6, 0), []),
  (27, .iconst 1, 1, (0, 0, 0), []),
  (28, .iadd, 1, (0, 0, 0), []),
  (29, .putfield 31, 3, (3, 6, 0), []),
  (32, .return_, 1, (0, 0, 0), [])]
abbrev am_m160 : am_Mt := (⟨"BookedEmpty$Office", "put", "(I)V"⟩, prog_5_method_3_code, 2, none, am_P160, 3, 3)
/-- BookedEmpty$Office.putTest(III)V -/
def am_P161 : List am_E := [(0, .aload_n 0, 1, (0, 0, 0), []),
  (1, .iload_n 1, 1, (0, 0, 0), []),
  (2, .iconst 3, 1, (0, 0, 0), []),
  (3, .imul, 1, (0, 0, 0), []),
  (4, .iload_n 2, 1, (0, 0, 0), []),
  (5, .iadd, 1, (0, 0, 0), []),
  (6, .bipush 100, 2, (0, 0, 0), []),
  (8, .imul, 1, (0, 0, 0), []),
  (9, .iload_n 3, 1, (0, 0, 0), []),
  (10, .iadd, 1, (0, 0, 0), []),
  (11, .invokevirtual 34, 3, (160, 1, 0), []),
  (14, .return_, 1, (0, 0, 0), [])]
abbrev am_m161 : am_Mt := (⟨"BookedEmpty$Office", "putTest", "(III)V"⟩, prog_5_method_4_code, 4, none, am_P161, 3, 3)
/-- BookedEmpty$Office.endWish(I)V -/
def am_P162 : List am_E := [(0, .aload_n 0, 1, (0, 0, 0), []),
  (1, .getfield 28, 3, (3, 2, 0), []),
  (4, .bipush 10, 2, (0, 0, 0), []),
  (6, .if_icmp .ge 36, 3, (42, 0, 0), []),
  (9, .aload_n 0, 1, (0, 0, 0), []),
  (10, .getfield 18, 3, (3, 3, 2), []),
  (13, .aload_n 0, 1, (0, 0, 0), []),
  (14, .getfield 28, 3, (3, 2, 0), []),
  (17, .iload_n 1, 1, (0, 0, 0), []),
  (18, .iastore, 1, (0, 0, 0), []),
  (19, .aload_n 0, 1, (0, 0, 0), []),
  (20, .getfield 22, 3, (3, 4, 2), []),
  (23, .aload_n 0, 1, (0, 0, 0), []),
  (24, .getfield 28, 3, (3, 2, 0), []),
  (27, .aload_n 0, 1, (0, 0, 0), []),
  (28, .getfield 31, 3, (3, 6, 0), []),
  (31, .iastore, 1, (0, 0, 0), []),
  (32, .aload_n 0, 1, (0, 0, 0), []),
  (33, .dup, 1, (0, 0, 0), []),
  (34, .getfield 28, 3, (3, 2, 0), []),
  (37, .iconst 1, 1, (0, 0, 0), []),
  (38, .iadd, 1, (0, 0, 0), []),
  (39, .putfield 28, 3, (3, 2, 0), []),
  (42, .return_, 1, (0, 0, 0), [])]
abbrev am_m162 : am_Mt := (⟨"BookedEmpty$Office", "endWish", "(I)V"⟩, prog_5_method_5_code, 2, none, am_P162, 3, 3)
/-- BookedEmpty$Office.worth(LBookedEmpty$Hour;LBookedEmpty$Room;)I -/
def am_P163 : List am_E := [(0, .bipush 10, 2, (0, 0, 0), []),
  (2, .istore_n 3, 1, (0, 0, 0), []),
  (3, .iconst 0, 1, (0, 0, 0), []),
  (4, .istore 4, 2, (0, 0, 0), []),
  (6, .iconst 0, 1, (0, 0, 0), []),
  (7, .istore 5, 2, (0, 0, 0), []),
  (9, .iload 5, 2, (0, 0, 0), []),
  (11, .aload_n 0, 1, (0, 0, 0), []),
  (12, .getfield 28, 3, (3, 2, 0), []),
  (15, .if_icmp .ge 46, 3, (61, 0, 0), []),
  (18, .aload_n 0, 1, (0, 0, 0), []),
  (19, .iload 4, 2, (0, 0, 0), []),
  (21, .aload_n 0, 1, (0, 0, 0), []),
  (22, .getfield 22, 3, (3, 4, 2), []),
  (25, .iload 5, 2, (0, 0, 0), []),
  (27, .iaload, 1, (0, 0, 0), []),
  (28, .aload_n 1, 1, (0, 0, 0), []),
  (29, .aload_n 2, 1, (0, 0, 0), []),
  (30, .invokevirtual 38, 3, (164, 4, 1), []),
  (33, .ifCond .eq 13, 3, (46, 0, 0), []),
  (36, .iload_n 3, 1, (0, 0, 0), []),
  (37, .aload_n 0, 1, (0, 0, 0), []),
  (38, .getfield 18, 3, (3, 3, 2), []),
  (41, .iload 5, 2, (0, 0, 0), []),
  (43, .iaload, 1, (0, 0, 0), []),
  (44, .iadd, 1, (0, 0, 0), []),
  (45, .istore_n 3, 1, (0, 0, 0), []),
  (46, .aload_n 0, 1, (0, 0, 0), []),
  (47, .getfield 22, 3, (3, 4, 2), []),
  (50, .iload 5, 2, (0, 0, 0), []),
  (52, .iaload, 1, (0, 0, 0), []),
  (53, .istore 4, 2, (0, 0, 0), []),
  (55, .iinc 5 1, 3, (0, 0, 0), []),
  (58, .goto (-49), 3, (9, 0, 0), []),
  (61, .iload_n 3, 1, (0, 0, 0), []),
  (62, .iconst 0, 1, (0, 0, 0), []),
  (63, .invokestatic 42, 3, (0, 2, 81), []),
  (66, .ireturn, 1, (0, 0, 0), [])]
abbrev am_m163 : am_Mt := (⟨"BookedEmpty$Office", "worth", "(LBookedEmpty$Hour;LBookedEmpty$Room;)I"⟩, prog_5_method_6_code, 6, (some .int), am_P163, 3, 3)
/-- BookedEmpty$Office.isSo(IILBookedEmpty$Hour;LBookedEmpty$Room;)Z -/
def am_P164 : List am_E := [(0, .iconst 0, 1, (0, 0, 0), []),
  (1, .istore 5, 2, (0, 0, 0), []),
  (3, .iload_n 1, 1, (0, 0, 0), []),
  (4, .istore 6, 2, (0, 0, 0), []),
  (6, .iload 6, 2, (0, 0, 0), []),
  (8, .iload_n 2, 1, (0, 0, 0), []),
  (9, .if_icmp .ge 104, 3, (113, 0, 0), []),
  (12, .aload_n 0, 1, (0, 0, 0), []),
  (13, .getfield 25, 3, (3, 5, 2), []),
  (16, .iload 6, 2, (0, 0, 0), []),
  (18, .iaload, 1, (0, 0, 0), []),
  (19, .istore 7, 2, (0, 0, 0), []),
  (21, .iload 7, 2, (0, 0, 0), []),
  (23, .iconst (-1), 1, (0, 0, 0), []),
  (24, .if_icmp .ne 12, 3, (36, 0, 0), []),
  (27, .iload 5, 2, (0, 0, 0), []),
  (29, .iconst 1, 1, (0, 0, 0), []),
  (30, .ixor, 1, (0, 0, 0), []),
  (31, .istore 5, 2, (0, 0, 0), []),
  (33, .goto 74, 3, (107, 0, 0), []),
  (36, .iload 7, 2, (0, 0, 0), []),
  (38, .bipush (-2), 2, (0, 0, 0), []),
  (40, .if_icmp .ne 18, 3, (58, 0, 0), []),
  (43, .iload 5, 2, (0, 0, 0), []),
  (45, .iconst 1, 1, (0, 0, 0), []),
  (46, .ishr, 1, (0, 0, 0), []),
  (47, .iload 5, 2, (0, 0, 0), []),
  (49, .bipush (-2), 2, (0, 0, 0), []),
  (51, .ior, 1, (0, 0, 0), []),
  (52, .iand, 1, (0, 0, 0), []),
  (53, .istore 5, 2, (0, 0, 0), []),
  (55, .goto 52, 3, (107, 0, 0), []),
  (58, .iload 7, 2, (0, 0, 0), []),
  (60, .bipush (-3), 2, (0, 0, 0), []),
  (62, .if_icmp .ne 17, 3, (79, 0, 0), []),
  (65, .iload 5, 2, (0, 0, 0), []),
  (67, .iconst 1, 1, (0, 0, 0), []),
  (68, .ishr, 1, (0, 0, 0), []),
  (69, .iload 5, 2, (0, 0, 0), []),
  (71, .iconst 1, 1, (0, 0, 0), []),
  (72, .iand, 1, (0, 0, 0), []),
  (73, .ior, 1, (0, 0, 0), []),
  (74, .istore 5, 2, (0, 0, 0), []),
  (76, .goto 31, 3, (107, 0, 0), []),
  (79, .iload 5, 2, (0, 0, 0), []),
  (81, .iconst 1, 1, (0, 0, 0), []),
  (82, .ishl, 1, (0, 0, 0), []),
  (83, .iload 7, 2, (0, 0, 0), []),
  (85, .iload 7, 2, (0, 0, 0), []),
  (87, .bipush 100, 2, (0, 0, 0), []),
  (89, .idiv, 1, (0, 0, 0), []),
  (90, .iconst 3, 1, (0, 0, 0), []),
  (91, .idiv, 1, (0, 0, 0), []),
  (92, .aload_n 3, 1, (0, 0, 0), []),
  (93, .aload 4, 2, (0, 0, 0), []),
  (95, .invokestatic 48, 3, (166, 3, 11), []),
  (98, .invokestatic 52, 3, (165, 2, 11), []),
  (101, .invokestatic 56, 3, (252, 1, 61), []),
  (104, .ior, 1, (0, 0, 0), []),
  (105, .istore 5, 2, (0, 0, 0), []),
  (107, .iinc 6 1, 3, (0, 0, 0), []),
  (110, .goto (-104), 3, (6, 0, 0), []),
  (113, .iload 5, 2, (0, 0, 0), []),
  (115, .iconst 1, 1, (0, 0, 0), []),
  (116, .iand, 1, (0, 0, 0), []),
  (117, .ifCond .eq 7, 3, (124, 0, 0), []),
  (120, .iconst 1, 1, (0, 0, 0), []),
  (121, .goto 4, 3, (125, 0, 0), []),
  (124, .iconst 0, 1, (0, 0, 0), []),
  (125, .ireturn, 1, (1, 0, 0), [])]
abbrev am_m164 : am_Mt := (⟨"BookedEmpty$Office", "isSo", "(IILBookedEmpty$Hour;LBookedEmpty$Room;)Z"⟩, prog_5_method_7_code, 8, (some .boolean), am_P164, 3, 3)
/-- BookedEmpty$Office.isTrue(II)Z -/
def am_P165 : List am_E := [(0, .iload_n 0, 1, (0, 0, 0), []),
  (1, .bipush 100, 2, (0, 0, 0), []),
  (3, .irem, 1, (0, 0, 0), []),
  (4, .istore_n 2, 1, (0, 0, 0), []),
  (5, .iload_n 0, 1, (0, 0, 0), []),
  (6, .bipush 100, 2, (0, 0, 0), []),
  (8, .idiv, 1, (0, 0, 0), []),
  (9, .iconst 3, 1, (0, 0, 0), []),
  (10, .irem, 1, (0, 0, 0), []),
  (11, .istore_n 3, 1, (0, 0, 0), []),
  (12, .iload_n 3, 1, (0, 0, 0), []),
  (13, .ifCond .ne 14, 3, (27, 0, 0), []),
  (16, .iload_n 1, 1, (0, 0, 0), []),
  (17, .iload_n 2, 1, (0, 0, 0), []),
  (18, .if_icmp .ge 7, 3, (25, 0, 0), []),
  (21, .iconst 1, 1, (0, 0, 0), []),
  (22, .goto 4, 3, (26, 0, 0), []),
  (25, .iconst 0, 1, (0, 0, 0), []),
  (26, .ireturn, 1, (1, 0, 0), []),
  (27, .iload_n 3, 1, (0, 0, 0), []),
  (28, .iconst 1, 1, (0, 0, 0), []),
  (29, .if_icmp .ne 16, 3, (45, 0, 0), []),
  (32, .iload_n 1, 1, (0, 0, 0), []),
  (33, .iload_n 2, 1, (0, 0, 0), []),
  (34, .if_icmp .ne 7, 3, (41, 0, 0), []),
  (37, .iconst 1, 1, (0, 0, 0), []),
  (38, .goto 17, 3, (55, 0, 0), []),
  (41, .iconst 0, 1, (0, 0, 0), []),
  (42, .goto 13, 3, (55, 0, 0), []),
  (45, .iload_n 1, 1, (0, 0, 0), []),
  (46, .iload_n 2, 1, (0, 0, 0), []),
  (47, .if_icmp .le 7, 3, (54, 0, 0), []),
  (50, .iconst 1, 1, (0, 0, 0), []),
  (51, .goto 4, 3, (55, 0, 0), []),
  (54, .iconst 0, 1, (0, 0, 0), []),
  (55, .ireturn, 1, (1, 0, 0), [])]
abbrev am_m165 : am_Mt := (⟨"BookedEmpty$Office", "isTrue", "(II)Z"⟩, prog_5_method_8_code, 4, (some .boolean), am_P165, 3, 3)
/-- BookedEmpty$Office.number(ILBookedEmpty$Hour;LBookedEmpty$Room;)I -/
def am_P166 : List am_E := [(0, .iload_n 0, 1, (0, 0, 0), []),
  (1, .tableswitch 60 0 4 #[35, 40, 45, 50, 55], 35, (61, 0, 0), [(0, 36), (1, 41), (2, 46), (3, 51), (4, 56)]),
  (36, .aload_n 1, 1, (0, 0, 0), []),
  (37, .getfield 60, 3, (1, 0, 0), []),
  (40, .ireturn, 1, (0, 0, 0), []),
  (41, .aload_n 2, 1, (0, 0, 0), []),
  (42, .getfield 64, 3, (5, 0, 0), []),
  (45, .ireturn, 1, (0, 0, 0), []),
  (46, .aload_n 1, 1, (0, 0, 0), []),
  (47, .getfield 67, 3, (1, 1, 0), []),
  (50, .ireturn, 1, (0, 0, 0), []),
  (51, .aload_n 1, 1, (0, 0, 0), []),
  (52, .getfield 70, 3, (1, 2, 0), []),
  (55, .ireturn, 1, (0, 0, 0), []),
  (56, .aload_n 1, 1, (0, 0, 0), []),
  (57, .getfield 73, 3, (1, 5, 0), []),
  (60, .ireturn, 1, (0, 0, 0), []),
  (61, .aload_n 2, 1, (0, 0, 0), []),
  (62, .getfield 76, 3, (5, 1, 0), []),
  (65, .ireturn, 1, (0, 0, 0), [])]
abbrev am_m166 : am_Mt := (⟨"BookedEmpty$Office", "number", "(ILBookedEmpty$Hour;LBookedEmpty$Room;)I"⟩, prog_5_method_9_code, 3, (some .int), am_P166, 3, 3)
/-- BookedEmpty$Reader.<init>(LBookedEmpty$Office;)V -/
def am_P167 : List am_E := [(0, .aload_n 0, 1, (0, 0, 0), []),
  (1, .invokespecial 3, 3, (0, 0, 30), []),
  (4, .aload_n 0, 1, (0, 0, 0), []),
  (5, .bipush 100, 2, (0, 0, 0), []),
  (7, .newarray .byte, 2, (17, 0, 0), []),
  (9, .putfield 9, 3, (4, 0, 2), []),
  (12, .aload_n 0, 1, (0, 0, 0), []),
  (13, .aload_n 1, 1, (0, 0, 0), []),
  (14, .putfield 15, 3, (4, 4, 2), []),
  (17, .return_, 1, (0, 0, 0), [])]
abbrev am_m167 : am_Mt := (⟨"BookedEmpty$Reader", "<init>", "(LBookedEmpty$Office;)V"⟩, prog_6_method_1_code, 2, none, am_P167, 4, 4)
/-- BookedEmpty$Reader.take(I)I -/
def am_P168 : List am_E := [(0, .aload_n 0, 1, (0, 0, 0), []),
  (1, .getfield 19, 3, (4, 1, 0), []),
  (4, .bipush 100, 2, (0, 0, 0), []),
  (6, .if_icmp .lt 6, 3, (12, 0, 0), []),
  (9, .bipush (-4), 2, (0, 0, 0), []),
  (11, .ireturn, 1, (0, 0, 0), []),
  (12, .aload_n 0, 1, (0, 0, 0), []),
  (13, .getfield 9, 3, (4, 0, 2), []),
  (16, .aload_n 0, 1, (0, 0, 0), []),
  (17, .getfield 19, 3, (4, 1, 0), []),
  (20, .iload_n 1, 1, (0, 0, 0), []),
  (21, .i2b, 1, (0, 0, 0), []),
  (22, .bastore, 1, (0, 0, 0), []),
  (23, .aload_n 0, 1, (0, 0, 0), []),
  (24, .dup, 1, (0, 0, 0), []),
  (25, .getfield 19, 3, (4, 1, 0), []),
  (28, .iconst 1, 1, (0, 0, 0), []),
  (29, .iadd, 1, (0, 0, 0), []),
  (30, .putfield 19, 3, (4, 1, 0), []),
  (33, .aload_n 0, 1, (0, 0, 0), []),
  (34, .getfield 19, 3, (4, 1, 0), []),
  (37, .ireturn, 1, (0, 0, 0), [])]
abbrev am_m168 : am_Mt := (⟨"BookedEmpty$Reader", "take", "(I)I"⟩, prog_6_method_2_code, 2, (some .int), am_P168, 4, 4)
/-- BookedEmpty$Reader.readInto(LBookedEmpty$Office;)I -/
def am_P169 : List am_E := [(0, .aload_n 0, 1, (0, 0, 0), []),
  (1, .aload_n 1, 1, (0, 0, 0), []),
  (2, .putfield 15, 3, (4, 4, 2), []),
  (5, .aload_n 0, 1, (0, 0, 0), []),
  (6, .getfield 15, 3, (4, 4, 2), []),
  (9, .invokevirtual 23, 3, (159, 0, 0), []),
  (12, .aload_n 0, 1, (0, 0, 0), []),
  (13, .iconst 0, 1, (0, 0, 0), []),
  (14, .putfield 28, 3, (4, 2, 0), []),
  (17, .aload_n 0, 1, (0, 0, 0), []),
  (18, .iconst 0, 1, (0, 0, 0), []),
  (19, .putfield 31, 3, (4, 3, 3), []),
  (22, .aload_n 0, 1, (0, 0, 0), []),
  (23, .invokevirtual 35, 3, (173, 0, 0), []),
  (26, .iconst 1, 1, (0, 0, 0), []),
  (27, .istore_n 2, 1, (0, 0, 0), []),
  (28, .iload_n 2, 1, (0, 0, 0), []),
  (29, .bipush 10, 2, (0, 0, 0), []),
  (31, .if_icmp .ge 22, 3, (53, 0, 0), []),
  (34, .aload_n 0, 1, (0, 0, 0), []),
  (35, .bipush 59, 2, (0, 0, 0), []),
  (37, .invokevirtual 38, 3, (171, 1, 1), []),
  (40, .ifCond .eq 13, 3, (53, 0, 0), []),
  (43, .aload_n 0, 1, (0, 0, 0), []),
  (44, .invokevirtual 35, 3, (173, 0, 0), []),
  (47, .iinc 2 1, 3, (0, 0, 0), []),
  (50, .goto (-22), 3, (28, 0, 0), []),
  (53, .aload_n 0, 1, (0, 0, 0), []),
  (54, .getfield 31, 3, (4, 3, 3), []),
  (57, .ifCond .ne 18, 3, (75, 0, 0), []),
  (60, .aload_n 0, 1, (0, 0, 0), []),
  (61, .getfield 28, 3, (4, 2, 0), []),
  (64, .aload_n 0, 1, (0, 0, 0), []),
  (65, .getfield 19, 3, (4, 1, 0), []),
  (68, .if_icmp .ne 7, 3, (75, 0, 0), []),
  (71, .iconst 1, 1, (0, 0, 0), []),
  (72, .goto 4, 3, (76, 0, 0), []),
  (75, .iconst 0, 1, (0, 0, 0), []),
  (76, .istore_n 2, 1, (0, 0, 0), []),
  (77, .aload_n 0, 1, (0, 0, 0), []),
  (78, .iconst 0, 1, (0, 0, 0), []),
  (79, .putfield 19, 3, (4, 1, 0), []),
  (82, .iload_n 2, 1, (0, 0, 0), []),
  (83, .ifCond .eq 7, 3, (90, 0, 0), []),
  (86, .iconst (-1), 1, (0, 0, 0), []),
  (87, .goto 7, 3, (94, 0, 0), []),
  (90, .aload_n 0, 1, (0, 0, 0), []),
  (91, .getfield 28, 3, (4, 2, 0), []),
  (94, .ireturn, 1, (0, 0, 0), [])]
abbrev am_m169 : am_Mt := (⟨"BookedEmpty$Reader", "readInto", "(LBookedEmpty$Office;)I"⟩, prog_6_method_3_code, 3, (some .int), am_P169, 4, 4)
/-- BookedEmpty$Reader.sign()I -/
def am_P170 : List am_E := [(0, .aload_n 0, 1, (0, 0, 0), []),
  (1, .getfield 31, 3, (4, 3, 3), []),
  (4, .ifCond .ne 14, 3, (18, 0, 0), []),
  (7, .aload_n 0, 1, (0, 0, 0), []),
  (8, .getfield 28, 3, (4, 2, 0), []),
  (11, .aload_n 0, 1, (0, 0, 0), []),
  (12, .getfield 19, 3, (4, 1, 0), []),
  (15, .if_icmp .lt 7, 3, (22, 0, 0), []),
  (18, .iconst (-1), 1, (0, 0, 0), []),
  (19, .goto 12, 3, (31, 0, 0), []),
  (22, .aload_n 0, 1, (0, 0, 0), []),
  (23, .getfield 9, 3, (4, 0, 2), []),
  (26, .aload_n 0, 1, (0, 0, 0), []),
  (27, .getfield 28, 3, (4, 2, 0), []),
  (30, .baload, 1, (0, 0, 0), []),
  (31, .ireturn, 1, (0, 0, 0), [])]
abbrev am_m170 : am_Mt := (⟨"BookedEmpty$Reader", "sign", "()I"⟩, prog_6_method_4_code, 1, (some .int), am_P170, 4, 4)
/-- BookedEmpty$Reader.takes(I)Z -/
def am_P171 : List am_E := [(0, .aload_n 0, 1, (0, 0, 0), []),
  (1, .invokevirtual 42, 3, (170, 0, 1), []),
  (4, .iload_n 1, 1, (0, 0, 0), []),
  (5, .if_icmp .eq 5, 3, (10, 0, 0), []),
  (8, .iconst 0, 1, (0, 0, 0), []),
  (9, .ireturn, 1, (1, 0, 0), []),
  (10, .aload_n 0, 1, (0, 0, 0), []),
  (11, .dup, 1, (0, 0, 0), []),
  (12, .getfield 28, 3, (4, 2, 0), []),
  (15, .iconst 1, 1, (0, 0, 0), []),
  (16, .iadd, 1, (0, 0, 0), []),
  (17, .putfield 28, 3, (4, 2, 0), []),
  (20, .iconst 1, 1, (0, 0, 0), []),
  (21, .ireturn, 1, (1, 0, 0), [])]
abbrev am_m171 : am_Mt := (⟨"BookedEmpty$Reader", "takes", "(I)Z"⟩, prog_6_method_5_code, 2, (some .boolean), am_P171, 4, 4)
/-- BookedEmpty$Reader.expects(I)V -/
def am_P172 : List am_E := [(0, .aload_n 0, 1, (0, 0, 0), []),
  (1, .invokevirtual 42, 3, (170, 0, 1), []),
  (4, .iload_n 1, 1, (0, 0, 0), []),
  (5, .if_icmp .ne 16, 3, (21, 0, 0), []),
  (8, .aload_n 0, 1, (0, 0, 0), []),
  (9, .dup, 1, (0, 0, 0), []),
  (10, .getfield 28, 3, (4, 2, 0), []),
  (13, .iconst 1, 1, (0, 0, 0), []),
  (14, .iadd, 1, (0, 0, 0), []),
  (15, .putfield 28, 3, (4, 2, 0), []),
  (18, .goto 8, 3, (26, 0, 0), []),
  (21, .aload_n 0, 1, (0, 0, 0), []),
  (22, .iconst 1, 1, (0, 0, 0), []),
  (23, .putfield 31, 3, (4, 3, 3), []),
  (26, .return_, 1, (0, 0, 0), [])]
abbrev am_m172 : am_Mt := (⟨"BookedEmpty$Reader", "expects", "(I)V"⟩, prog_6_method_6_code, 2, none, am_P172, 4, 4)
/-- BookedEmpty$Reader.clause()V -/
def am_P173 : List am_E := [(0, .aload_n 0, 1, (0, 0, 0), []),
  (1, .invokevirtual 42, 3, (170, 0, 1), []),
  (4, .istore_n 1, 1, (0, 0, 0), []),
  (5, .aload_n 0, 1, (0, 0, 0), []),
  (6, .iload_n 1, 1, (0, 0, 0), []),
  (7, .invokevirtual 46, 3, (174, 1, 0), []),
  (10, .aload_n 0, 1, (0, 0, 0), []),
  (11, .invokevirtual 50, 3, (180, 0, 1), []),
  (14, .istore_n 2, 1, (0, 0, 0), []),
  (15, .iload_n 1, 1, (0, 0, 0), []),
  (16, .bipush 104, 2, (0, 0, 0), []),
  (18, .if_icmp .ne 14, 3, (32, 0, 0), []),
  (21, .aload_n 0, 1, (0, 0, 0), []),
  (22, .getfield 15, 3, (4, 4, 2), []),
  (25, .iload_n 2, 1, (0, 0, 0), []),
  (26, .putfield 53, 3, (3, 0, 0), []),
  (29, .goto 59, 3, (88, 0, 0), []),
  (32, .iload_n 1, 1, (0, 0, 0), []),
  (33, .bipush 100, 2, (0, 0, 0), []),
  (35, .if_icmp .ne 23, 3, (58, 0, 0), []),
  (38, .aload_n 0, 1, (0, 0, 0), []),
  (39, .getfield 15, 3, (4, 4, 2), []),
  (42, .iconst 1, 1, (0, 0, 0), []),
  (43, .iload_n 2, 1, (0, 0, 0), []),
  (44, .bipush 40, 2, (0, 0, 0), []),
  (46, .invokestatic 56, 3, (1, 2, 81), []),
  (49, .invokestatic 62, 3, (0, 2, 81), []),
  (52, .putfield 65, 3, (3, 1, 0), []),
  (55, .goto 33, 3, (88, 0, 0), []),
  (58, .aload_n 0, 1, (0, 0, 0), []),
  (59, .bipush 32, 2, (0, 0, 0), []),
  (61, .invokevirtual 68, 3, (172, 1, 0), []),
  (64, .aload_n 0, 1, (0, 0, 0), []),
  (65, .iconst 0, 1, (0, 0, 0), []),
  (66, .invokevirtual 71, 3, (176, 1, 0), []),
  (69, .aload_n 0, 1, (0, 0, 0), []),
  (70, .getfield 15, 3, (4, 4, 2), []),
  (73, .iload_n 1, 1, (0, 0, 0), []),
  (74, .bipush 108, 2, (0, 0, 0), []),
  (76, .if_icmp .ne 7, 3, (83, 0, 0), []),
  (79, .iload_n 2, 1, (0, 0, 0), []),
  (80, .goto 5, 3, (85, 0, 0), []),
  (83, .iload_n 2, 1, (0, 0, 0), []),
  (84, .ineg, 1, (0, 0, 0), []),
  (85, .invokevirtual 74, 3, (162, 1, 0), []),
  (88, .return_, 1, (0, 0, 0), [])]
abbrev am_m173 : am_Mt := (⟨"BookedEmpty$Reader", "clause", "()V"⟩, prog_6_method_7_code, 3, none, am_P173, 4, 4)
/-- BookedEmpty$Reader.word(I)V -/
def am_P174 : List am_E := [(0, .iload_n 1, 1, (0, 0, 0), []),
  (1, .invokestatic 77, 3, (175, 1, 13), []),
  (4, .astore_n 2, 1, (0, 0, 0), []),
  (5, .aload_n 2, 1, (0, 0, 0), []),
  (6, .invokevirtual 81, 3, (114, 0, 1), []),
  (9, .ifCond .eq 8, 3, (17, 0, 0), []),
  (12, .aload_n 0, 1, (0, 0, 0), []),
  (13, .iconst 1, 1, (0, 0, 0), []),
  (14, .putfield 31, 3, (4, 3, 3), []),
  (17, .iconst 0, 1, (0, 0, 0), []),
  (18, .istore_n 3, 1, (0, 0, 0), []),
  (19, .iload_n 3, 1, (0, 0, 0), []),
  (20, .aload_n 2, 1, (0, 0, 0), []),
  (21, .invokevirtual 87, 3, (113, 0, 1), []),
  (24, .if_icmp .ge 18, 3, (42, 0, 0), []),
  (27, .aload_n 0, 1, (0, 0, 0), []),
  (28, .aload_n 2, 1, (0, 0, 0), []),
  (29, .iload_n 3, 1, (0, 0, 0), []),
  (30, .invokevirtual 89, 3, (115, 1, 1), []),
  (33, .invokevirtual 68, 3, (172, 1, 0), []),
  (36, .iinc 3 1, 3, (0, 0, 0), []),
  (39, .goto (-20), 3, (19, 0, 0), []),
  (42, .return_, 1, (0, 0, 0), [])]
abbrev am_m174 : am_Mt := (⟨"BookedEmpty$Reader", "word", "(I)V"⟩, prog_6_method_8_code, 4, none, am_P174, 4, 4)
/-- BookedEmpty$Reader.wordBy(I)Ljava/lang/String; -/
def am_P175 : List am_E := [(0, .iload_n 0, 1, (0, 0, 0), []),
  (1, .tableswitch 67 100 109 #[64, 67, 67, 67, 61, 67, 67, 67, 55, 58], 55, (68, 0, 0), [(100, 65), (101, 68), (102, 68), (103, 68), (104, 62), (105, 68), (106, 68), (107, 68), (108, 56), (109, 59)]),
  (56, .ldc 93, 2, (203, 0, 2), []),
  (58, .areturn, 1, (0, 0, 0), []),
  (59, .ldc 95, 2, (203, 1, 2), []),
  (61, .areturn, 1, (0, 0, 0), []),
  (62, .ldc 97, 2, (203, 2, 2), []),
  (64, .areturn, 1, (0, 0, 0), []),
  (65, .ldc 99, 2, (203, 3, 2), []),
  (67, .areturn, 1, (0, 0, 0), []),
  (68, .ldc 101, 2, (203, 4, 2), []),
  (70, .areturn, 1, (0, 0, 0), [])]
abbrev am_m175 : am_Mt := (⟨"BookedEmpty$Reader", "wordBy", "(I)Ljava/lang/String;"⟩, prog_6_method_9_code, 1, (some (.object "java/lang/String")), am_P175, 4, 4)
/-- BookedEmpty$Reader.either(I)V -/
def am_P176 : List am_E := [(0, .aload_n 0, 1, (0, 0, 0), []),
  (1, .iload_n 1, 1, (0, 0, 0), []),
  (2, .invokevirtual 103, 3, (177, 1, 0), []),
  (5, .iconst 0, 1, (0, 0, 0), []),
  (6, .istore_n 2, 1, (0, 0, 0), []),
  (7, .iload_n 2, 1, (0, 0, 0), []),
  (8, .bipush 100, 2, (0, 0, 0), []),
  (10, .if_icmp .ge 32, 3, (42, 0, 0), []),
  (13, .aload_n 0, 1, (0, 0, 0), []),
  (14, .bipush 124, 2, (0, 0, 0), []),
  (16, .invokevirtual 38, 3, (171, 1, 1), []),
  (19, .ifCond .eq 23, 3, (42, 0, 0), []),
  (22, .aload_n 0, 1, (0, 0, 0), []),
  (23, .iload_n 1, 1, (0, 0, 0), []),
  (24, .invokevirtual 103, 3, (177, 1, 0), []),
  (27, .aload_n 0, 1, (0, 0, 0), []),
  (28, .getfield 15, 3, (4, 4, 2), []),
  (31, .bipush (-3), 2, (0, 0, 0), []),
  (33, .invokevirtual 106, 3, (160, 1, 0), []),
  (36, .iinc 2 1, 3, (0, 0, 0), []),
  (39, .goto (-32), 3, (7, 0, 0), []),
  (42, .return_, 1, (0, 0, 0), [])]
abbrev am_m176 : am_Mt := (⟨"BookedEmpty$Reader", "either", "(I)V"⟩, prog_6_method_10_code, 3, none, am_P176, 4, 4)
/-- BookedEmpty$Reader.both(I)V -/
def am_P177 : List am_E := [(0, .aload_n 0, 1, (0, 0, 0), []),
  (1, .iload_n 1, 1, (0, 0, 0), []),
  (2, .invokevirtual 109, 3, (178, 1, 0), []),
  (5, .iconst 0, 1, (0, 0, 0), []),
  (6, .istore_n 2, 1, (0, 0, 0), []),
  (7, .iload_n 2, 1, (0, 0, 0), []),
  (8, .bipush 100, 2, (0, 0, 0), []),
  (10, .if_icmp .ge 32, 3, (42, 0, 0), []),
  (13, .aload_n 0, 1, (0, 0, 0), []),
  (14, .bipush 38, 2, (0, 0, 0), []),
  (16, .invokevirtual 38, 3, (171, 1, 1), []),
  (19, .ifCond .eq 23, 3, (42, 0, 0), []),
  (22, .aload_n 0, 1, (0, 0, 0), []),
  (23, .iload_n 1, 1, (0, 0, 0), []),
  (24, .invokevirtual 109, 3, (178, 1, 0), []),
  (27, .aload_n 0, 1, (0, 0, 0), []),
  (28, .getfield 15, 3, (4, 4, 2), []),
  (31, .bipush (-2), 2, (0, 0, 0), []),
  (33, .invokevirtual 106, 3, (160, 1, 0), []),
  (36, .iinc 2 1, 3, (0, 0, 0), []),
  (39, .goto (-32), 3, (7, 0, 0), []),
  (42, .return_, 1, (0, 0, 0), [])]
abbrev am_m177 : am_Mt := (⟨"BookedEmpty$Reader", "both", "(I)V"⟩, prog_6_method_11_code, 3, none, am_P177, 4, 4)
/-- BookedEmpty$Reader.one(I)V -/
def am_P178 : List am_E := [(0, .iload_n 1, 1, (0, 0, 0), []),
  (1, .iconst 4, 1, (0, 0, 0), []),
  (2, .if_icmp .ge 30, 3, (32, 0, 0), []),
  (5, .aload_n 0, 1, (0, 0, 0), []),
  (6, .bipush 33, 2, (0, 0, 0), []),
  (8, .invokevirtual 38, 3, (171, 1, 1), []),
  (11, .ifCond .eq 21, 3, (32, 0, 0), []),
  (14, .aload_n 0, 1, (0, 0, 0), []),
  (15, .iload_n 1, 1, (0, 0, 0), []),
  (16, .iconst 1, 1, (0, 0, 0), []),
  (17, .iadd, 1, (0, 0, 0), []),
  (18, .invokevirtual 109, 3, (178, 1, 0), []),
  (21, .aload_n 0, 1, (0, 0, 0), []),
  (22, .getfield 15, 3, (4, 4, 2), []),
  (25, .iconst (-1), 1, (0, 0, 0), []),
  (26, .invokevirtual 106, 3, (160, 1, 0), []),
  (29, .goto 60, 3, (89, 0, 0), []),
  (32, .iload_n 1, 1, (0, 0, 0), []),
  (33, .iconst 4, 1, (0, 0, 0), []),
  (34, .if_icmp .ge 28, 3, (62, 0, 0), []),
  (37, .aload_n 0, 1, (0, 0, 0), []),
  (38, .bipush 40, 2, (0, 0, 0), []),
  (40, .invokevirtual 38, 3, (171, 1, 1), []),
  (43, .ifCond .eq 19, 3, (62, 0, 0), []),
  (46, .aload_n 0, 1, (0, 0, 0), []),
  (47, .iload_n 1, 1, (0, 0, 0), []),
  (48, .iconst 1, 1, (0, 0, 0), []),
  (49, .iadd, 1, (0, 0, 0), []),
  (50, .invokevirtual 71, 3, (176, 1, 0), []),
  (53, .aload_n 0, 1, (0, 0, 0), []),
  (54, .bipush 41, 2, (0, 0, 0), []),
  (56, .invokevirtual 68, 3, (172, 1, 0), []),
  (59, .goto 30, 3, (89, 0, 0), []),
  (62, .aload_n 0, 1, (0, 0, 0), []),
  (63, .ldc 112, 2, (203, 5, 2), []),
  (65, .invokevirtual 114, 3, (179, 1, 1), []),
  (68, .istore_n 2, 1, (0, 0, 0), []),
  (69, .aload_n 0, 1, (0, 0, 0), []),
  (70, .ldc 118, 2, (203, 6, 2), []),
  (72, .invokevirtual 114, 3, (179, 1, 1), []),
  (75, .istore_n 3, 1, (0, 0, 0), []),
  (76, .aload_n 0, 1, (0, 0, 0), []),
  (77, .getfield 15, 3, (4, 4, 2), []),
  (80, .iload_n 2, 1, (0, 0, 0), []),
  (81, .iload_n 3, 1, (0, 0, 0), []),
  (82, .aload_n 0, 1, (0, 0, 0), []),
  (83, .invokevirtual 50, 3, (180, 0, 1), []),
  (86, .invokevirtual 120, 3, (161, 3, 0), []),
  (89, .return_, 1, (0, 0, 0), [])]
abbrev am_m178 : am_Mt := (⟨"BookedEmpty$Reader", "one", "(I)V"⟩, prog_6_method_12_code, 4, none, am_P178, 4, 4)
/-- BookedEmpty$Reader.oneOf(Ljava/lang/String;)I -/
def am_P179 : List am_E := [(0, .aload_n 1, 1, (0, 0, 0), []),
  (1, .aload_n 0, 1, (0, 0, 0), []),
  (2, .invokevirtual 42, 3, (170, 0, 1), []),
  (5, .i2c, 1, (0, 0, 0), []),
  (6, .invokevirtual 124, 3, (116, 1, 1), []),
  (9, .istore_n 2, 1, (0, 0, 0), []),
  (10, .iload_n 2, 1, (0, 0, 0), []),
  (11, .ifCond .ge 10, 3, (21, 0, 0), []),
  (14, .aload_n 0, 1, (0, 0, 0), []),
  (15, .iconst 1, 1, (0, 0, 0), []),
  (16, .putfield 31, 3, (4, 3, 3), []),
  (19, .iconst 0, 1, (0, 0, 0), []),
  (20, .ireturn, 1, (0, 0, 0), []),
  (21, .aload_n 0, 1, (0, 0, 0), []),
  (22, .dup, 1, (0, 0, 0), []),
  (23, .getfield 28, 3, (4, 2, 0), []),
  (26, .iconst 1, 1, (0, 0, 0), []),
  (27, .iadd, 1, (0, 0, 0), []),
  (28, .putfield 28, 3, (4, 2, 0), []),
  (31, .iload_n 2, 1, (0, 0, 0), []),
  (32, .ireturn, 1, (0, 0, 0), [])]
abbrev am_m179 : am_Mt := (⟨"BookedEmpty$Reader", "oneOf", "(Ljava/lang/String;)I"⟩, prog_6_method_13_code, 3, (some .int), am_P179, 4, 4)
/-- BookedEmpty$Reader.number()I -/
def am_P180 : List am_E := [(0, .aload_n 0, 1, (0, 0, 0), []),
  (1, .invokevirtual 42, 3, (170, 0, 1), []),
  (4, .bipush 48, 2, (0, 0, 0), []),
  (6, .isub, 1, (0, 0, 0), []),
  (7, .istore_n 1, 1, (0, 0, 0), []),
  (8, .iload_n 1, 1, (0, 0, 0), []),
  (9, .ifCond .lt 9, 3, (18, 0, 0), []),
  (12, .iload_n 1, 1, (0, 0, 0), []),
  (13, .bipush 9, 2, (0, 0, 0), []),
  (15, .if_icmp .le 10, 3, (25, 0, 0), []),
  (18, .aload_n 0, 1, (0, 0, 0), []),
  (19, .iconst 1, 1, (0, 0, 0), []),
  (20, .putfield 31, 3, (4, 3, 3), []),
  (23, .iconst 0, 1, (0, 0, 0), []),
  (24, .ireturn, 1, (0, 0, 0), []),
  (25, .aload_n 0, 1, (0, 0, 0), []),
  (26, .dup, 1, (0, 0, 0), []),
  (27, .getfield 28, 3, (4, 2, 0), []),
  (30, .iconst 1, 1, (0, 0, 0), []),
  (31, .iadd, 1, (0, 0, 0), []),
  (32, .putfield 28, 3, (4, 2, 0), []),
  (35, .aload_n 0, 1, (0, 0, 0), []),
  (36, .invokevirtual 42, 3, (170, 0, 1), []),
  (39, .bipush 48, 2, (0, 0, 0), []),
  (41, .isub, 1, (0, 0, 0), []),
  (42, .istore_n 2, 1, (0, 0, 0), []),
  (43, .iload_n 2, 1, (0, 0, 0), []),
  (44, .ifCond .lt 9, 3, (53, 0, 0), []),
  (47, .iload_n 2, 1, (0, 0, 0), []),
  (48, .bipush 9, 2, (0, 0, 0), []),
  (50, .if_icmp .le 5, 3, (55, 0, 0), []),
  (53, .iload_n 1, 1, (0, 0, 0), []),
  (54, .ireturn, 1, (0, 0, 0), []),
  (55, .aload_n 0, 1, (0, 0, 0), []),
  (56, .dup, 1, (0, 0, 0), []),
  (57, .getfield 28, 3, (4, 2, 0), []),
  (60, .iconst 1, 1, (0, 0, 0), []),
  (61, .iadd, 1, (0, 0, 0), []),
  (62, .putfield 28, 3, (4, 2, 0), []),
  (65, .iload_n 1, 1, (0, 0, 0), []),
  (66, .bipush 10, 2, (0, 0, 0), []),
  (68, .imul, 1, (0, 0, 0), []),
  (69, .iload_n 2, 1, (0, 0, 0), []),
  (70, .iadd, 1, (0, 0, 0), []),
  (71, .ireturn, 1, (0, 0, 0), [])]
abbrev am_m180 : am_Mt := (⟨"BookedEmpty$Reader", "number", "()I"⟩, prog_6_method_14_code, 3, (some .int), am_P180, 4, 4)
/-- BookedEmpty$Room.<init>(I)V -/
def am_P181 : List am_E := [(0, .aload_n 0, 1, (0, 0, 0), []),
  (1, .invokespecial 3, 3, (0, 0, 30), []),
  (4, .aload_n 0, 1, (0, 0, 0), []),
  (5, .iload_n 1, 1, (0, 0, 0), []),
  (6, .putfield 9, 3, (5, 0, 0), []),
  (9, .return_, 1, (0, 0, 0), [])]
abbrev am_m181 : am_Mt := (⟨"BookedEmpty$Room", "<init>", "(I)V"⟩, prog_7_method_1_code, 2, none, am_P181, 5, 5)
/-- BookedEmpty$Room.suits(LBookedEmpty$Hour;)Z -/
def am_P182 : List am_E := [(0, .aload_n 1, 1, (0, 0, 0), []),
  (1, .getfield 15, 3, (1, 1, 0), []),
  (4, .iconst 1, 1, (0, 0, 0), []),
  (5, .if_icmp .eq 11, 3, (16, 0, 0), []),
  (8, .aload_n 1, 1, (0, 0, 0), []),
  (9, .getfield 15, 3, (1, 1, 0), []),
  (12, .iconst 4, 1, (0, 0, 0), []),
  (13, .if_icmp .ne 7, 3, (20, 0, 0), []),
  (16, .iconst 1, 1, (0, 0, 0), []),
  (17, .goto 4, 3, (21, 0, 0), []),
  (20, .iconst 0, 1, (0, 0, 0), []),
  (21, .istore_n 2, 1, (0, 0, 0), []),
  (22, .aload_n 0, 1, (0, 0, 0), []),
  (23, .getfield 20, 3, (5, 1, 0), []),
  (26, .aload_n 1, 1, (0, 0, 0), []),
  (27, .getfield 23, 3, (1, 5, 0), []),
  (30, .if_icmp .lt 18, 3, (48, 0, 0), []),
  (33, .iload_n 2, 1, (0, 0, 0), []),
  (34, .ifCond .eq 10, 3, (44, 0, 0), []),
  (37, .aload_n 0, 1, (0, 0, 0), []),
  (38, .getfield 26, 3, (5, 2, 3), []),
  (41, .ifCond .ne 7, 3, (48, 0, 0), []),
  (44, .iconst 1, 1, (0, 0, 0), []),
  (45, .goto 4, 3, (49, 0, 0), []),
  (48, .iconst 0, 1, (0, 0, 0), []),
  (49, .ireturn, 1, (1, 0, 0), [])]
abbrev am_m182 : am_Mt := (⟨"BookedEmpty$Room", "suits", "(LBookedEmpty$Hour;)Z"⟩, prog_7_method_2_code, 3, (some .boolean), am_P182, 5, 5)
/-- BookedEmpty$Room.copyFrom(LBookedEmpty$Room;)V -/
def am_P183 : List am_E := [(0, .aload_n 0, 1, (0, 0, 0), []),
  (1, .aload_n 1, 1, (0, 0, 0), []),
  (2, .getfield 20, 3, (5, 1, 0), []),
  (5, .putfield 20, 3, (5, 1, 0), []),
  (8, .aload_n 0, 1, (0, 0, 0), []),
  (9, .aload_n 1, 1, (0, 0, 0), []),
  (10, .getfield 26, 3, (5, 2, 3), []),
  (13, .putfield 26, 3, (5, 2, 3), []),
  (16, .return_, 1, (0, 0, 0), [])]
abbrev am_m183 : am_Mt := (⟨"BookedEmpty$Room", "copyFrom", "(LBookedEmpty$Room;)V"⟩, prog_7_method_3_code, 2, none, am_P183, 5, 5)
/-- BookedEmpty$Rows.<init>(I)V -/
def am_P184 : List am_E := [(0, .aload_n 0, 1, (0, 0, 0), []),
  (1, .invokespecial 3, 3, (0, 0, 30), []),
  (4, .aload_n 0, 1, (0, 0, 0), []),
  (5, .iload_n 1, 1, (0, 0, 0), []),
  (6, .iconst 4, 1, (0, 0, 0), []),
  (7, .multianewarray 9 2, 4, (18, 19, 0), []),
  (11, .putfield 11, 3, (6, 0, 2), []),
  (14, .return_, 1, (0, 0, 0), [])]
abbrev am_m184 : am_Mt := (⟨"BookedEmpty$Rows", "<init>", "(I)V"⟩, prog_8_method_1_code, 2, none, am_P184, 6, 6)
/-- BookedEmpty$Rows.empty()I -/
def am_P185 : List am_E := [(0, .aload_n 0, 1, (0, 0, 0), []),
  (1, .iconst 0, 1, (0, 0, 0), []),
  (2, .putfield 16, 3, (6, 1, 0), []),
  (5, .iconst 0, 1, (0, 0, 0), []),
  (6, .ireturn, 1, (0, 0, 0), [])]
abbrev am_m185 : am_Mt := (⟨"BookedEmpty$Rows", "empty", "()I"⟩, prog_8_method_2_code, 1, (some .int), am_P185, 6, 6)
/-- BookedEmpty$Rows.add(IIII)I -/
def am_P186 : List am_E := [(0, .aload_n 0, 1, (0, 0, 0), []),
  (1, .getfield 16, 3, (6, 1, 0), []),
  (4, .aload_n 0, 1, (0, 0, 0), []),
  (5, .getfield 11, 3, (6, 0, 2), []),
  (8, .arraylength, 1, (0, 0, 0), []),
  (9, .if_icmp .lt 6, 3, (15, 0, 0), []),
  (12, .bipush (-4), 2, (0, 0, 0), []),
  (14, .ireturn, 1, (0, 0, 0), []),
  (15, .aload_n 0, 1, (0, 0, 0), []),
  (16, .getfield 11, 3, (6, 0, 2), []),
  (19, .aload_n 0, 1, (0, 0, 0), []),
  (20, .getfield 16, 3, (6, 1, 0), []),
  (23, .aaload, 1, (0, 0, 0), []),
  (24, .astore 5, 2, (0, 0, 0), []),
  (26, .aload 5, 2, (0, 0, 0), []),
  (28, .iconst 0, 1, (0, 0, 0), []),
  (29, .iload_n 1, 1, (0, 0, 0), []),
  (30, .iastore, 1, (0, 0, 0), []),
  (31, .aload 5, 2, (0, 0, 0), []),
  (33, .iconst 1, 1, (0, 0, 0), []),
  (34, .iload_n 2, 1, (0, 0, 0), []),
  (35, .iastore, 1, (0, 0, 0), []),
  (36, .aload 5, 2, (0, 0, 0), []),
  (38, .iconst 2, 1, (0, 0, 0), []),
  (39, .iload_n 3, 1, (0, 0, 0), []),
  (40, .iastore, 1, (0, 0, 0), []),
  (41, .aload 5, 2, (0, 0, 0), []),
  (43, .iconst 3, 1, (0, 0, 0), []),
  (44, .iload 4, 2, (0, 0, 0), []),
  (46, .iastore, 1, (0, 0, 0), []),
  (47, .aload_n 0, 1, (0, 0, 0), []),
  (48, .dup, 1, (0, 0, 0), []),
  (49, .getfield 16, 3, (6, 1, 0), []),
  (52, .iconst 1, 1, (0, 0, 0), []),
  (53, .iadd, 1, (0, 0, 0), []),
  (54, .putfield 16, 3, (6, 1, 0), []),
  (57, .aload_n 0, 1, (0, 0, 0), []),
  (58, .getfield 16, 3, (6, 1, 0), []),
  (61, .ireturn, 1, (0, 0, 0), [])]
abbrev am_m186 : am_Mt := (⟨"BookedEmpty$Rows", "add", "(IIII)I"⟩, prog_8_method_3_code, 6, (some .int), am_P186, 6, 6)
/-- BookedEmpty$Rows.copyFrom(LBookedEmpty$Rows;)V -/
def am_P187 : List am_E := [(0, .aload_n 0, 1, (0, 0, 0), []),
  (1, .invokevirtual 20, 3, (185, 0, 1), []),
  (4, .pop, 1, (0, 0, 0), []),
  (5, .iconst 0, 1, (0, 0, 0), []),
  (6, .istore_n 2, 1, (0, 0, 0), []),
  (7, .iload_n 2, 1, (0, 0, 0), []),
  (8, .aload_n 1, 1, (0, 0, 0), []),
  (9, .getfield 16, 3, (6, 1, 0), []),
  (12, .if_icmp .ge 33, 3, (45, 0, 0), []),
  (15, .aload_n 1, 1, (0, 0, 0), []),
  (16, .getfield 11, 3, (6, 0, 2), []),
  (19, .iload_n 2, 1, (0, 0, 0), []),
  (20, .aaload, 1, (0, 0, 0), []),
  (21, .astore_n 3, 1, (0, 0, 0), []),
  (22, .aload_n 0, 1, (0, 0, 0), []),
  (23, .aload_n 3, 1, (0, 0, 0), []),
  (24, .iconst 0, 1, (0, 0, 0), []),
  (25, .iaload, 1, (0, 0, 0), []),
  (26, .aload_n 3, 1, (0, 0, 0), []),
  (27, .iconst 1, 1, (0, 0, 0), []),
  (28, .iaload, 1, (0, 0, 0), []),
  (29, .aload_n 3, 1, (0, 0, 0), []),
  (30, .iconst 2, 1, (0, 0, 0), []),
  (31, .iaload, 1, (0, 0, 0), []),
  (32, .aload_n 3, 1, (0, 0, 0), []),
  (33, .iconst 3, 1, (0, 0, 0), []),
  (34, .iaload, 1, (0, 0, 0), []),
  (35, .invokevirtual 24, 3, (186, 4, 1), []),
  (38, .pop, 1, (0, 0, 0), []),
  (39, .iinc 2 1, 3, (0, 0, 0), []),
  (42, .goto (-35), 3, (7, 0, 0), []),
  (45, .return_, 1, (0, 0, 0), [])]
abbrev am_m187 : am_Mt := (⟨"BookedEmpty$Rows", "copyFrom", "(LBookedEmpty$Rows;)V"⟩, prog_8_method_4_code, 4, none, am_P187, 6, 6)
/-- BookedEmpty$Tapes.<init>()V -/
def am_P188 : List am_E := [(0, .aload_n 0, 1, (0, 0, 0), []),
  (1, .invokespecial 1, 3, (0, 0, 30), []),
  (4, .aload_n 0, 1, (0, 0, 0), []),
  (5, .bipush 6, 2, (0, 0, 0), []),
  (7, .bipush 60, 2, (0, 0, 0), []),
  (9, .multianewarray 9 2, 4, (20, 21, 0), []),
  (13, .putfield 11, 3, (7, 0, 2), []),
  (16, .aload_n 0, 1, (0, 0, 0), []),
  (17, .bipush 6, 2, (0, 0, 0), []),
  (19, .newarray .int, 2, (22, 0, 0), []),
  (21, .putfield 14, 3, (7, 1, 2), []),
  (24, .aload_n 0, 1, (0, 0, 0), []),
  (25, .bipush 6, 2, (0, 0, 0), []),
  (27, .newarray .int, 2, (23, 0, 0), []),
  (29, .putfield 18, 3, (7, 2, 2), []),
  (32, .iconst 0, 1, (0, 0, 0), []),
  (33, .istore_n 1, 1, (0, 0, 0), []),
  (34, .iload_n 1, 1, (0, 0, 0), []),
  (35, .bipush 6, 2, (0, 0, 0), []),
  (37, .if_icmp .ge 16, 3, (53, 0, 0), []),
  (40, .aload_n 0, 1, (0, 0, 0), []),
  (41, .getfield 14, 3, (7, 1, 2), []),
  (44, .iload_n 1, 1, (0, 0, 0), []),
  (45, .iconst (-1), 1, (0, 0, 0), []),
  (46, .iastore, 1, (0, 0, 0), []),
  (47, .iinc 1 1, 3, (0, 0, 0), []),
  (50, .goto (-16), 3, (34, 0, 0), []),
  (53, .return_, 1, (0, 0, 0), [])]
abbrev am_m188 : am_Mt := (⟨"BookedEmpty$Tapes", "<init>", "()V"⟩, prog_9_method_1_code, 2, none, am_P188, 7, 7)
/-- BookedEmpty$Tapes.has(I)Z -/
def am_P189 : List am_E := [(0, .iload_n 1, 1, (0, 0, 0), []),
  (1, .ifCond .lt 13, 3, (14, 0, 0), []),
  (4, .iload_n 1, 1, (0, 0, 0), []),
  (5, .bipush 6, 2, (0, 0, 0), []),
  (7, .if_icmp .ge 7, 3, (14, 0, 0), []),
  (10, .iconst 1, 1, (0, 0, 0), []),
  (11, .goto 4, 3, (15, 0, 0), []),
  (14, .iconst 0, 1, (0, 0, 0), []),
  (15, .ireturn, 1, (1, 0, 0), [])]
abbrev am_m189 : am_Mt := (⟨"BookedEmpty$Tapes", "has", "(I)Z"⟩, prog_9_method_2_code, 2, (some .boolean), am_P189, 7, 7)
/-- BookedEmpty$Tapes.isNothing(I)Z -/
def am_P190 : List am_E := [(0, .aload_n 0, 1, (0, 0, 0), []),
  (1, .getfield 14, 3, (7, 1, 2), []),
  (4, .iload_n 1, 1, (0, 0, 0), []),
  (5, .iaload, 1, (0, 0, 0), []),
  (6, .iconst (-1), 1, (0, 0, 0), []),
  (7, .if_icmp .ne 7, 3, (14, 0, 0), []),
  (10, .iconst 1, 1, (0, 0, 0), []),
  (11, .goto 4, 3, (15, 0, 0), []),
  (14, .iconst 0, 1, (0, 0, 0), []),
  (15, .ireturn, 1, (1, 0, 0), [])]
abbrev am_m190 : am_Mt := (⟨"BookedEmpty$Tapes", "isNothing", "(I)Z"⟩, prog_9_method_3_code, 2, (some .boolean), am_P190, 7, 7)
/-- BookedEmpty$Tapes.isBytes(I)Z -/
def am_P191 : List am_E := [(0, .aload_n 0, 1, (0, 0, 0), []),
  (1, .getfield 14, 3, (7, 1, 2), []),
  (4, .iload_n 1, 1, (0, 0, 0), []),
  (5, .iaload, 1, (0, 0, 0), []),
  (6, .ifCond .ne 7, 3, (13, 0, 0), []),
  (9, .iconst 1, 1, (0, 0, 0), []),
  (10, .goto 4, 3, (14, 0, 0), []),
  (13, .iconst 0, 1, (0, 0, 0), []),
  (14, .ireturn, 1, (1, 0, 0), [])]
abbrev am_m191 : am_Mt := (⟨"BookedEmpty$Tapes", "isBytes", "(I)Z"⟩, prog_9_method_4_code, 2, (some .boolean), am_P191, 7, 7)
/-- BookedEmpty$Tapes.hasPlace(II)Z -/
def am_P192 : List am_E := [(0, .iload_n 2, 1, (0, 0, 0), []),
  (1, .ifCond .lt 17, 3, (18, 0, 0), []),
  (4, .iload_n 2, 1, (0, 0, 0), []),
  (5, .aload_n 0, 1, (0, 0, 0), []),
  (6, .getfield 18, 3, (7, 2, 2), []),
  (9, .iload_n 1, 1, (0, 0, 0), []),
  (10, .iaload, 1, (0, 0, 0), []),
  (11, .if_icmp .ge 7, 3, (18, 0, 0), []),
  (14, .iconst 1, 1, (0, 0, 0), []),
  (15, .goto 4, 3, (19, 0, 0), []),
  (18, .iconst 0, 1, (0, 0, 0), []),
  (19, .ireturn, 1, (1, 0, 0), [])]
abbrev am_m192 : am_Mt := (⟨"BookedEmpty$Tapes", "hasPlace", "(II)Z"⟩, prog_9_method_5_code, 3, (some .boolean), am_P192, 7, 7)
/-- BookedEmpty$Tapes.hasRun(III)Z -/
def am_P193 : List am_E := [(0, .iload_n 2, 1, (0, 0, 0), []),
  (1, .ifCond .lt 27, 3, (28, 0, 0), []),
  (4, .iload_n 3, 1, (0, 0, 0), []),
  (5, .ifCond .lt 23, 3, (28, 0, 0), []),
  (8, .iload_n 2, 1, (0, 0, 0), []),
  (9, .i2l, 1, (0, 0, 0), []),
  (10, .iload_n 3, 1, (0, 0, 0), []),
  (11, .i2l, 1, (0, 0, 0), []),
  (12, .ladd, 1, (0, 0, 0), []),
  (13, .aload_n 0, 1, (0, 0, 0), []),
  (14, .getfield 18, 3, (7, 2, 2), []),
  (17, .iload_n 1, 1, (0, 0, 0), []),
  (18, .iaload, 1, (0, 0, 0), []),
  (19, .i2l, 1, (0, 0, 0), []),
  (20, .lcmp, 1, (0, 0, 0), []),
  (21, .ifCond .gt 7, 3, (28, 0, 0), []),
  (24, .iconst 1, 1, (0, 0, 0), []),
  (25, .goto 4, 3, (29, 0, 0), []),
  (28, .iconst 0, 1, (0, 0, 0), []),
  (29, .ireturn, 1, (1, 0, 0), [])]
abbrev am_m193 : am_Mt := (⟨"BookedEmpty$Tapes", "hasRun", "(III)Z"⟩, prog_9_method_6_code, 4, (some .boolean), am_P193, 7, 7)
/-- BookedEmpty$Tapes.holdNothing(I)I -/
def am_P194 : List am_E := [(0, .aload_n 0, 1, (0, 0, 0), []),
  (1, .getfield 14, 3, (7, 1, 2), []),
  (4, .iload_n 1, 1, (0, 0, 0), []),
  (5, .iconst (-1), 1, (0, 0, 0), []),
  (6, .iastore, 1, (0, 0, 0), []),
  (7, .aload_n 0, 1, (0, 0, 0), []),
  (8, .getfield 18, 3, (7, 2, 2), []),
  (11, .iload_n 1, 1, (0, 0, 0), []),
  (12, .iconst 0, 1, (0, 0, 0), []),
  (13, .iastore, 1, (0, 0, 0), []),
  (14, .iconst 1, 1, (0, 0, 0), []),
  (15, .ireturn, 1, (0, 0, 0), [])]
abbrev am_m194 : am_Mt := (⟨"BookedEmpty$Tapes", "holdNothing", "(I)I"⟩, prog_9_method_7_code, 2, (some .int), am_P194, 7, 7)
/-- BookedEmpty$Tapes.begin(III)I -/
def am_P195 : List am_E := [(0, .aload_n 0, 1, (0, 0, 0), []),
  (1, .getfield 14, 3, (7, 1, 2), []),
  (4, .iload_n 1, 1, (0, 0, 0), []),
  (5, .iload_n 2, 1, (0, 0, 0), []),
  (6, .iastore, 1, (0, 0, 0), []),
  (7, .aload_n 0, 1, (0, 0, 0), []),
  (8, .getfield 18, 3, (7, 2, 2), []),
  (11, .iload_n 1, 1, (0, 0, 0), []),
  (12, .iload_n 3, 1, (0, 0, 0), []),
  (13, .iastore, 1, (0, 0, 0), []),
  (14, .iconst 0, 1, (0, 0, 0), []),
  (15, .istore 4, 2, (0, 0, 0), []),
  (17, .iload 4, 2, (0, 0, 0), []),
  (19, .bipush 60, 2, (0, 0, 0), []),
  (21, .if_icmp .ge 19, 3, (40, 0, 0), []),
  (24, .aload_n 0, 1, (0, 0, 0), []),
  (25, .getfield 11, 3, (7, 0, 2), []),
  (28, .iload_n 1, 1, (0, 0, 0), []),
  (29, .aaload, 1, (0, 0, 0), []),
  (30, .iload 4, 2, (0, 0, 0), []),
  (32, .lconst 0, 1, (0, 0, 0), []),
  (33, .lastore, 1, (0, 0, 0), []),
  (34, .iinc 4 1, 3, (0, 0, 0), []),
  (37, .goto (-20), 3, (17, 0, 0), []),
  (40, .iconst 1, 1, (0, 0, 0), []),
  (41, .ireturn, 1, (0, 0, 0), [])]
abbrev am_m195 : am_Mt := (⟨"BookedEmpty$Tapes", "begin", "(III)I"⟩, prog_9_method_8_code, 5, (some .int), am_P195, 7, 7)
/-- BookedEmpty$Tapes.put(IIJ)I -/
def am_P196 : List am_E := [(0, .aload_n 0, 1, (0, 0, 0), []),
  (1, .getfield 11, 3, (7, 0, 2), []),
  (4, .iload_n 1, 1, (0, 0, 0), []),
  (5, .aaload, 1, (0, 0, 0), []),
  (6, .iload_n 2, 1, (0, 0, 0), []),
  (7, .aload_n 0, 1, (0, 0, 0), []),
  (8, .getfield 14, 3, (7, 1, 2), []),
  (11, .iload_n 1, 1, (0, 0, 0), []),
  (12, .iaload, 1, (0, 0, 0), []),
  (13, .lload_n 3, 1, (0, 0, 0), []),
  (14, .invokestatic 21, 3, (197, 2, 12), []),
  (17, .lastore, 1, (0, 0, 0), []),
  (18, .iconst 1, 1, (0, 0, 0), []),
  (19, .ireturn, 1, (0, 0, 0), [])]
abbrev am_m196 : am_Mt := (⟨"BookedEmpty$Tapes", "put", "(IIJ)I"⟩, prog_9_method_9_code, 5, (some .int), am_P196, 7, 7)
/-- BookedEmpty$Tapes.asItem(IJ)J -/
def am_P197 : List am_E := [(0, .iload_n 0, 1, (0, 0, 0), []),
  (1, .tableswitch 47 0 3 #[31, 36, 41, 45], 31, (48, 0, 0), [(0, 32), (1, 37), (2, 42), (3, 46)]),
  (32, .lload_n 1, 1, (0, 0, 0), []),
  (33, .l2i, 1, (0, 0, 0), []),
  (34, .i2b, 1, (0, 0, 0), []),
  (35, .i2l, 1, (0, 0, 0), []),
  (36, .lreturn, 1, (0, 0, 0), []),
  (37, .lload_n 1, 1, (0, 0, 0), []),
  (38, .l2i, 1, (0, 0, 0), []),
  (39, .i2s, 1, (0, 0, 0), []),
  (40, .i2l, 1, (0, 0, 0), []),
  (41, .lreturn, 1, (0, 0, 0), []),
  (42, .lload_n 1, 1, (0, 0, 0), []),
  (43, .l2i, 1, (0, 0, 0), []),
  (44, .i2l, 1, (0, 0, 0), []),
  (45, .lreturn, 1, (0, 0, 0), []),
  (46, .lload_n 1, 1, (0, 0, 0), []),
  (47, .lreturn, 1, (0, 0, 0), []),
  (48, .lload_n 1, 1, (0, 0, 0), []),
  (49, .lconst 0, 1, (0, 0, 0), []),
  (50, .lcmp, 1, (0, 0, 0), []),
  (51, .ifCond .eq 7, 3, (58, 0, 0), []),
  (54, .iconst 1, 1, (0, 0, 0), []),
  (55, .goto 4, 3, (59, 0, 0), []),
  (58, .iconst 0, 1, (0, 0, 0), []),
  (59, .invokestatic 25, 3, (252, 1, 61), []),
  (62, .i2l, 1, (0, 0, 0), []),
  (63, .lreturn, 1, (0, 0, 0), [])]
abbrev am_m197 : am_Mt := (⟨"BookedEmpty$Tapes", "asItem", "(IJ)J"⟩, prog_9_method_10_code, 3, (some .long), am_P197, 7, 7)
/-- BookedEmpty$Ways.<init>()V -/
def am_P198 : List am_E := [(0, .aload_n 0, 1, (0, 0, 0), []),
  (1, .invokespecial 3, 3, (0, 0, 30), []),
  (4, .aload_n 0, 1, (0, 0, 0), []),
  (5, .bipush 6, 2, (0, 0, 0), []),
  (7, .newarray .int, 2, (24, 0, 0), []),
  (9, .putfield 9, 3, (8, 3, 2), []),
  (12, .aload_n 0, 1, (0, 0, 0), []),
  (13, .bipush 6, 2, (0, 0, 0), []),
  (15, .newarray .long, 2, (25, 0, 0), []),
  (17, .putfield 15, 3, (8, 4, 2), []),
  (20, .aload_n 0, 1, (0, 0, 0), []),
  (21, .bipush 6, 2, (0, 0, 0), []),
  (23, .iconst 5, 1, (0, 0, 0), []),
  (24, .multianewarray 19 2, 4, (26, 27, 0), []),
  (28, .putfield 21, 3, (8, 5, 2), []),
  (31, .aload_n 0, 1, (0, 0, 0), []),
  (32, .iconst 5, 1, (0, 0, 0), []),
  (33, .newarray .long, 2, (28, 0, 0), []),
  (35, .putfield 24, 3, (8, 6, 2), []),
  (38, .aload_n 0, 1, (0, 0, 0), []),
  (39, .bipush 6, 2, (0, 0, 0), []),
  (41, .newarray .int, 2, (29, 0, 0), []),
  (43, .putfield 27, 3, (8, 7, 2), []),
  (46, .aload_n 0, 1, (0, 0, 0), []),
  (47, .bipush 6, 2, (0, 0, 0), []),
  (49, .newarray .int, 2, (30, 0, 0), []),
  (51, .putfield 30, 3, (8, 8, 2), []),
  (54, .return_, 1, (0, 0, 0), [])]
abbrev am_m198 : am_Mt := (⟨"BookedEmpty$Ways", "<init>", "()V"⟩, prog_10_method_1_code, 1, none, am_P198, 8, 8)
/-- BookedEmpty$Ways.search(LBookedEmpty$House;IZ)I -/
def am_P199 : List am_E := [(0, .aload_n 0, 1, (0, 0, 0), []),
  (1, .aload_n 1, 1, (0, 0, 0), []),
  (2, .getfield 33, 3, (2, 3, 0), []),
  (5, .putfield 39, 3, (8, 0, 0), []),
  (8, .aload_n 0, 1, (0, 0, 0), []),
  (9, .aload_n 1, 1, (0, 0, 0), []),
  (10, .getfield 42, 3, (2, 2, 0), []),
  (13, .putfield 45, 3, (8, 1, 0), []),
  (16, .aload_n 0, 1, (0, 0, 0), []),
  (17, .iload_n 3, 1, (0, 0, 0), []),
  (18, .putfield 48, 3, (8, 2, 3), []),
  (21, .aload_n 0, 1, (0, 0, 0), []),
  (22, .iconst (-1), 1, (0, 0, 0), []),
  (23, .putfield 52, 3, (8, 9, 0), []),
  (26, .aload_n 0, 1, (0, 0, 0), []),
  (27, .iconst (-1), 1, (0, 0, 0), []),
  (28, .putfield 55, 3, (8, 10, 0), []),
  (31, .iconst 0, 1, (0, 0, 0), []),
  (32, .istore 4, 2, (0, 0, 0), []),
  (34, .iload 4, 2, (0, 0, 0), []),
  (36, .aload_n 0, 1, (0, 0, 0), []),
  (37, .getfield 39, 3, (8, 0, 0), []),
  (40, .if_icmp .ge 22, 3, (62, 0, 0), []),
  (43, .aload_n 0, 1, (0, 0, 0), []),
  (44, .aload_n 1, 1, (0, 0, 0), []),
  (45, .aload_n 1, 1, (0, 0, 0), []),
  (46, .getfield 58, 3, (2, 1, 2), []),
  (49, .iload 4, 2, (0, 0, 0), []),
  (51, .aaload, 1, (0, 0, 0), []),
  (52, .iload_n 2, 1, (0, 0, 0), []),
  (53, .invokevirtual 61, 3, (200, 3, 0), []),
  (56, .iinc 4 1, 3, (0, 0, 0), []),
  (59, .goto (-25), 3, (34, 0, 0), []),
  (62, .aload_n 0, 1, (0, 0, 0), []),
  (63, .iconst 0, 1, (0, 0, 0), []),
  (64, .iconst 0, 1, (0, 0, 0), []),
  (65, .iconst 0, 1, (0, 0, 0), []),
  (66, .invokevirtual 65, 3, (201, 3, 0), []),
  (69, .aload_n 0, 1, (0, 0, 0), []),
  (70, .getfield 52, 3, (8, 9, 0), []),
  (73, .ireturn, 1, (0, 0, 0), [])]
abbrev am_m199 : am_Mt := (⟨"BookedEmpty$Ways", "search", "(LBookedEmpty$House;IZ)I"⟩, prog_10_method_2_code, 5, (some .int), am_P199, 8, 8)
/-- BookedEmpty$Ways.lookAt(LBookedEmpty$House;LBookedEmpty$Hour;I)V -/
def am_P200 : List am_E := [(0, .aload_n 2, 1, (0, 0, 0), []),
  (1, .getfield 69, 3, (1, 0, 0), []),
  (4, .istore 4, 2, (0, 0, 0), []),
  (6, .aload_n 0, 1, (0, 0, 0), []),
  (7, .getfield 15, 3, (8, 4, 2), []),
  (10, .iload 4, 2, (0, 0, 0), []),
  (12, .aload_n 1, 1, (0, 0, 0), []),
  (13, .aload_n 2, 1, (0, 0, 0), []),
  (14, .invokevirtual 74, 3, (143, 1, 2), []),
  (17, .lastore, 1, (0, 0, 0), []),
  (18, .aload_n 0, 1, (0, 0, 0), []),
  (19, .getfield 9, 3, (8, 3, 2), []),
  (22, .iload 4, 2, (0, 0, 0), []),
  (24, .iconst 0, 1, (0, 0, 0), []),
  (25, .iastore, 1, (0, 0, 0), []),
  (26, .iconst 0, 1, (0, 0, 0), []),
  (27, .istore 5, 2, (0, 0, 0), []),
  (29, .iload 5, 2, (0, 0, 0), []),
  (31, .aload_n 0, 1, (0, 0, 0), []),
  (32, .getfield 45, 3, (8, 1, 0), []),
  (35, .if_icmp .ge 64, 3, (99, 0, 0), []),
  (38, .aload_n 0, 1, (0, 0, 0), []),
  (39, .getfield 21, 3, (8, 5, 2), []),
  (42, .iload 4, 2, (0, 0, 0), []),
  (44, .aaload, 1, (0, 0, 0), []),
  (45, .iload 5, 2, (0, 0, 0), []),
  (47, .aload_n 1, 1, (0, 0, 0), []),
  (48, .getfield 77, 3, (2, 5, 2), []),
  (51, .aload_n 2, 1, (0, 0, 0), []),
  (52, .aload_n 1, 1, (0, 0, 0), []),
  (53, .getfield 81, 3, (2, 0, 2), []),
  (56, .iload 5, 2, (0, 0, 0), []),
  (58, .aaload, 1, (0, 0, 0), []),
  (59, .invokevirtual 84, 3, (163, 2, 1), []),
  (62, .iastore, 1, (0, 0, 0), []),
  (63, .aload_n 1, 1, (0, 0, 0), []),
  (64, .getfield 81, 3, (2, 0, 2), []),
  (67, .iload 5, 2, (0, 0, 0), []),
  (69, .aaload, 1, (0, 0, 0), []),
  (70, .aload_n 2, 1, (0, 0, 0), []),
  (71, .invokevirtual 90, 3, (182, 1, 1), []),
  (74, .ifCond .eq 19, 3, (93, 0, 0), []),
  (77, .aload_n 0, 1, (0, 0, 0), []),
  (78, .getfield 9, 3, (8, 3, 2), []),
  (81, .iload 4, 2, (0, 0, 0), []),
  (83, .dup2, 1, (0, 0, 0), []),
  (84, .iaload, 1, (0, 0, 0), []),
  (85, .iload_n 3, 1, (0, 0, 0), []),
  (86, .iconst 1, 1, (0, 0, 0), []),
  (87, .iload 5, 2, (0, 0, 0), []),
  (89, .ishl, 1, (0, 0, 0), []),
  (90, .iand, 1, (0, 0, 0), []),
  (91, .ior, 1, (0, 0, 0), []),
  (92, .iastore, 1, (0, 0, 0), []),
  (93, .iinc 5 1, 3, (0, 0, 0), []),
  (96, .goto (-67), 3, (29, 0, 0), []),
  (99, .return_, 1, (0, 0, 0), [])]
abbrev am_m200 : am_Mt := (⟨"BookedEmpty$Ways", "lookAt", "(LBookedEmpty$House;LBookedEmpty$Hour;I)V"⟩, prog_10_method_3_code, 6, none, am_P200, 8, 8)
/-- BookedEmpty$Ways.goOn(III)V -/
def am_P201 : List am_E := [(0, .aload_n 0, 1, (0, 0, 0), []),
  (1, .getfield 48, 3, (8, 2, 3), []),
  (4, .ifCond .eq 19, 3, (23, 0, 0), []),
  (7, .iload_n 2, 1, (0, 0, 0), []),
  (8, .aload_n 0, 1, (0, 0, 0), []),
  (9, .getfield 39, 3, (8, 0, 0), []),
  (12, .iadd, 1, (0, 0, 0), []),
  (13, .iload_n 1, 1, (0, 0, 0), []),
  (14, .isub, 1, (0, 0, 0), []),
  (15, .aload_n 0, 1, (0, 0, 0), []),
  (16, .getfield 52, 3, (8, 9, 0), []),
  (19, .if_icmp .ge 4, 3, (23, 0, 0), []),
  (22, .return_, 1, (0, 0, 0), []),
  (23, .iload_n 1, 1, (0, 0, 0), []),
  (24, .aload_n 0, 1, (0, 0, 0), []),
  (25, .getfield 39, 3, (8, 0, 0), []),
  (28, .if_icmp .lt 10, 3, (38, 0, 0), []),
  (31, .aload_n 0, 1, (0, 0, 0), []),
  (32, .iload_n 2, 1, (0, 0, 0), []),
  (33, .iload_n 3, 1, (0, 0, 0), []),
  (34, .invokevirtual 96, 3, (202, 2, 0), []),
  (37, .return_, 1, (0, 0, 0), []),
  (38, .iconst 0, 1, (0, 0, 0), []),
  (39, .istore 4, 2, (0, 0, 0), []),
  (41, .iload 4, 2, (0, 0, 0), []),
  (43, .aload_n 0, 1, (0, 0, 0), []),
  (44, .getfield 45, 3, (8, 1, 0), []),
  (47, .if_icmp .ge 107, 3, (154, 0, 0), []),
  (50, .aload_n 0, 1, (0, 0, 0), []),
  (51, .getfield 9, 3, (8, 3, 2), []),
  (54, .iload_n 1, 1, (0, 0, 0), []),
  (55, .iaload, 1, (0, 0, 0), []),
  (56, .iload 4, 2, (0, 0, 0), []),
  (58, .ishr, 1, (0, 0, 0), []),
  (59, .iconst 1, 1, (0, 0, 0), []),
  (60, .iand, 1, (0, 0, 0), []),
  (61, .ifCond .eq 87, 3, (148, 0, 0), []),
  (64, .aload_n 0, 1, (0, 0, 0), []),
  (65, .getfield 24, 3, (8, 6, 2), []),
  (68, .iload 4, 2, (0, 0, 0), []),
  (70, .laload, 1, (0, 0, 0), []),
  (71, .aload_n 0, 1, (0, 0, 0), []),
  (72, .getfield 15, 3, (8, 4, 2), []),
  (75, .iload_n 1, 1, (0, 0, 0), []),
  (76, .laload, 1, (0, 0, 0), []),
  (77, .land, 1, (0, 0, 0), []),
  (78, .lconst 0, 1, (0, 0, 0), []),
  (79, .lcmp, 1, (0, 0, 0), []),
  (80, .ifCond .ne 68, 3, (148, 0, 0), []),
  (83, .aload_n 0, 1, (0, 0, 0), []),
  (84, .getfield 27, 3, (8, 7, 2), []),
  (87, .iload_n 1, 1, (0, 0, 0), []),
  (88, .iload 4, 2, (0, 0, 0), []),
  (90, .iastore, 1, (0, 0, 0), []),
  (91, .aload_n 0, 1, (0, 0, 0), []),
  (92, .getfield 24, 3, (8, 6, 2), []),
  (95, .iload 4, 2, (0, 0, 0), []),
  (97, .dup2, 1, (0, 0, 0), []),
  (98, .laload, 1, (0, 0, 0), []),
  (99, .aload_n 0, 1, (0, 0, 0), []),
  (100, .getfield 15, 3, (8, 4, 2), []),
  (103, .iload_n 1, 1, (0, 0, 0), []),
  (104, .laload, 1, (0, 0, 0), []),
  (105, .lor, 1, (0, 0, 0), []),
  (106, .lastore, 1, (0, 0, 0), []),
  (107, .aload_n 0, 1, (0, 0, 0), []),
  (108, .iload_n 1, 1, (0, 0, 0), []),
  (109, .iconst 1, 1, (0, 0, 0), []),
  (110, .iadd, 1, (0, 0, 0), []),
  (111, .iload_n 2, 1, (0, 0, 0), []),
  (112, .iconst 1, 1, (0, 0, 0), []),
  (113, .iadd, 1, (0, 0, 0), []),
  (114, .iload_n 3, 1, (0, 0, 0), []),
  (115, .aload_n 0, 1, (0, 0, 0), []),
  (116, .getfield 21, 3, (8, 5, 2), []),
  (119, .iload_n 1, 1, (0, 0, 0), []),
  (120, .aaload, 1, (0, 0, 0), []),
  (121, .iload 4, 2, (0, 0, 0), []),
  (123, .iaload, 1, (0, 0, 0), []),
  (124, .iadd, 1, (0, 0, 0), []),
  (125, .invokevirtual 65, 3, (201, 3, 0), []),
  (128, .aload_n 0, 1, (0, 0, 0), []),
  (129, .getfield 24, 3, (8, 6, 2), []),
  (132, .iload 4, 2, (0, 0, 0), []),
  (134, .dup2, 1, (0, 0, 0), []),
  (135, .laload, 1, (0, 0, 0), []),
  (136, .aload_n 0, 1, (0, 0, 0), []),
  (137, .getfield 15, 3, (8, 4, 2), []),
  (140, .iload_n 1, 1, (0, 0, 0), []),
  (141, .laload, 1, (0, 0, 0), []),
  (142, .ldc2_w 100, 3, (18446744073709551615, 0, 0), []),
  (145, .lxor, 1, (0, 0, 0), []),
  (146, .land, 1, (0, 0, 0), []),
  (147, .lastore, 1, (0, 0, 0), []),
  (148, .iinc 4 1, 3, (0, 0, 0), []),
  (151, .goto (-110), 3, (41, 0, 0), []),
  (154, .aload_n 0, 1, (0, 0, 0), []),
  (155, .getfield 27, 3, (8, 7, 2), []),
  (158, .iload_n 1, 1, (0, 0, 0), []),
  (159, .bipush (-5), 2, (0, 0, 0), []),
  (161, .iastore, 1, (0, 0, 0), []),
  (162, .aload_n 0, 1, (0, 0, 0), []),
  (163, .iload_n 1, 1, (0, 0, 0), []),
  (164, .iconst 1, 1, (0, 0, 0), []),
  (165, .iadd, 1, (0, 0, 0), []),
  (166, .iload_n 2, 1, (0, 0, 0), []),
  (167, .iload_n 3, 1, (0, 0, 0), []),
  (168, .invokevirtual 65, 3, (201, 3, 0), []),
  (171, .return_, 1, (0, 0, 0), [])]
abbrev am_m201 : am_Mt := (⟨"BookedEmpty$Ways", "goOn", "(III)V"⟩, prog_10_method_4_code, 5, none, am_P201, 8, 8)
/-- BookedEmpty$Ways.keepBetter(II)V -/
def am_P202 : List am_E := [(0, .aload_n 0, 1, (0, 0, 0), []),
  (1, .getfield 48, 3, (8, 2, 3), []),
  (4, .ifCond .eq 35, 3, (39, 0, 0), []),
  (7, .iload_n 1, 1, (0, 0, 0), []),
  (8, .aload_n 0, 1, (0, 0, 0), []),
  (9, .getfield 52, 3, (8, 9, 0), []),
  (12, .if_icmp .gt 19, 3, (31, 0, 0), []),
  (15, .iload_n 1, 1, (0, 0, 0), []),
  (16, .aload_n 0, 1, (0, 0, 0), []),
  (17, .getfield 52, 3, (8, 9, 0), []),
  (20, .if_icmp .ne 15, 3, (35, 0, 0), []),
  (23, .iload_n 2, 1, (0, 0, 0), []),
  (24, .aload_n 0, 1, (0, 0, 0), []),
  (25, .getfield 55, 3, (8, 10, 0), []),
  (28, .if_icmp .le 7, 3, (35, 0, 0), []),
  (31, .iconst 1, 1, (0, 0, 0), []),
  (32, .goto 20, 3, (52, 0, 0), []),
  (35, .iconst 0, 1, (0, 0, 0), []),
  (36, .goto 16, 3, (52, 0, 0), []),
  (39, .iload_n 2, 1, (0, 0, 0), []),
  (40, .aload_n 0, 1, (0, 0, 0), []),
  (41, .getfield 55, 3, (8, 10, 0), []),
  (44, .if_icmp .le 7, 3, (51, 0, 0), []),
  (47, .iconst 1, 1, (0, 0, 0), []),
  (48, .goto 4, 3, (52, 0, 0), []),
  (51, .iconst 0, 1, (0, 0, 0), []),
  (52, .istore_n 3, 1, (0, 0, 0), []),
  (53, .iload_n 3, 1, (0, 0, 0), []),
  (54, .ifCond .eq 28, 3, (82, 0, 0), []),
  (57, .aload_n 0, 1, (0, 0, 0), []),
  (58, .iload_n 1, 1, (0, 0, 0), []),
  (59, .putfield 52, 3, (8, 9, 0), []),
  (62, .aload_n 0, 1, (0, 0, 0), []),
  (63, .iload_n 2, 1, (0, 0, 0), []),
  (64, .putfield 55, 3, (8, 10, 0), []),
  (67, .aload_n 0, 1, (0, 0, 0), []),
  (68, .getfield 27, 3, (8, 7, 2), []),
  (71, .iconst 0, 1, (0, 0, 0), []),
  (72, .aload_n 0, 1, (0, 0, 0), []),
  (73, .getfield 30, 3, (8, 8, 2), []),
  (76, .iconst 0, 1, (0, 0, 0), []),
  (77, .bipush 6, 2, (0, 0, 0), []),
  (79, .invokestatic 102, 3, (0, 0, 40), []),
  (82, .return_, 1, (0, 0, 0), [])]
abbrev am_m202 : am_Mt := (⟨"BookedEmpty$Ways", "keepBetter", "(II)V"⟩, prog_10_method_5_code, 4, none, am_P202, 8, 8)
/-- BookedEmpty.<init>()V -/
def am_P203 : List am_E := [(0, .aload_n 0, 1, (0, 0, 0), []),
  (1, .invokespecial 3, 3, (0, 0, 30), []),
  (4, .aload_n 0, 1, (0, 0, 0), []),
  (5, .bipush 6, 2, (0, 0, 0), []),
  (7, .anewarray 11, 3, (31, 0, 0), []),
  (10, .putfield 13, 3, (9, 4, 2), []),
  (13, .aload_n 0, 1, (0, 0, 0), []),
  (14, .new 17, 3, (8, 0, 0), []),
  (17, .dup, 1, (0, 0, 0), []),
  (18, .invokespecial 19, 3, (198, 0, 70), []),
  (21, .putfield 20, 3, (9, 7, 2), []),
  (24, .aload_n 0, 1, (0, 0, 0), []),
  (25, .new 24, 3, (0, 0, 0), []),
  (28, .dup, 1, (0, 0, 0), []),
  (29, .invokespecial 26, 3, (126, 0, 70), []),
  (32, .putfield 27, 3, (9, 8, 2), []),
  (35, .aload_n 0, 1, (0, 0, 0), []),
  (36, .new 31, 3, (7, 0, 0), []),
  (39, .dup, 1, (0, 0, 0), []),
  (40, .invokespecial 33, 3, (188, 0, 20), []),
  (43, .putfield 34, 3, (9, 9, 2), []),
  (46, .new 11, 3, (3, 0, 0), []),
  (49, .dup, 1, (0, 0, 0), []),
  (50, .invokespecial 38, 3, (158, 0, 70), []),
  (53, .astore_n 1, 1, (0, 0, 0), []),
  (54, .aload_n 0, 1, (0, 0, 0), []),
  (55, .new 39, 3, (2, 0, 0), []),
  (58, .dup, 1, (0, 0, 0), []),
  (59, .aload_n 1, 1, (0, 0, 0), []),
  (60, .invokespecial 41, 3, (136, 1, 20), []),
  (63, .putfield 44, 3, (9, 0, 2), []),
  (66, .aload_n 0, 1, (0, 0, 0), []),
  (67, .new 39, 3, (2, 0, 0), []),
  (70, .dup, 1, (0, 0, 0), []),
  (71, .aload_n 1, 1, (0, 0, 0), []),
  (72, .invokespecial 41, 3, (136, 1, 20), []),
  (75, .putfield 48, 3, (9, 1, 2), []),
  (78, .aload_n 0, 1, (0, 0, 0), []),
  (79, .new 39, 3, (2, 0, 0), []),
  (82, .dup, 1, (0, 0, 0), []),
  (83, .aload_n 1, 1, (0, 0, 0), []),
  (84, .invokespecial 41, 3, (136, 1, 20), []),
  (87, .putfield 51, 3, (9, 3, 2), []),
  (90, .aload_n 0, 1, (0, 0, 0), []),
  (91, .new 54, 3, (4, 0, 0), []),
  (94, .dup, 1, (0, 0, 0), []),
  (95, .aload_n 1, 1, (0, 0, 0), []),
  (96, .invokespecial 56, 3, (167, 1, 20), []),
  (99, .putfield 57, 3, (9, 6, 2), []),
  (102, .iconst 0, 1, (0, 0, 0), []),
  (103, .istore_n 2, 1, (0, 0, 0), []),
  (104, .iload_n 2, 1, (0, 0, 0), []),
  (105, .bipush 6, 2, (0, 0, 0), []),
  (107, .if_icmp .ge 22, 3, (129, 0, 0), []),
  (110, .aload_n 0, 1, (0, 0, 0), []),
  (111, .getfield 13, 3, (9, 4, 2), []),
  (114, .iload_n 2, 1, (0, 0, 0), []),
  (115, .new 11, 3, (3, 0, 0), []),
  (118, .dup, 1, (0, 0, 0), []),
  (119, .invokespecial 38, 3, (158, 0, 70), []),
  (122, .aastore, 1, (0, 0, 0), []),
  (123, .iinc 2 1, 3, (0, 0, 0), []),
  (126, .goto (-22), 3, (104, 0, 0), []),
  (129, .return_, 1, (0, 0, 0), [])]
abbrev am_m203 : am_Mt := (⟨"BookedEmpty", "<init>", "()V"⟩, prog_1_method_1_code, 3, none, am_P203, 9, 9)
/-- BookedEmpty.room(I)I -/
def am_P204 : List am_E := [(0, .iload_n 1, 1, (0, 0, 0), []),
  (1, .iconst 1, 1, (0, 0, 0), []),
  (2, .bipush 20, 2, (0, 0, 0), []),
  (4, .invokestatic 61, 3, (250, 3, 11), []),
  (7, .ifCond .ne 6, 3, (13, 0, 0), []),
  (10, .bipush (-2), 2, (0, 0, 0), []),
  (12, .ireturn, 1, (0, 0, 0), []),
  (13, .aload_n 0, 1, (0, 0, 0), []),
  (14, .getfield 44, 3, (9, 0, 2), []),
  (17, .getfield 65, 3, (2, 2, 0), []),
  (20, .iconst 4, 1, (0, 0, 0), []),
  (21, .if_icmp .lt 8, 3, (29, 0, 0), []),
  (24, .bipush (-4), 2, (0, 0, 0), []),
  (26, .goto 11, 3, (37, 0, 0), []),
  (29, .aload_n 0, 1, (0, 0, 0), []),
  (30, .getfield 44, 3, (9, 0, 2), []),
  (33, .iload_n 1, 1, (0, 0, 0), []),
  (34, .invokevirtual 69, 3, (140, 1, 1), []),
  (37, .ireturn, 1, (0, 0, 0), [])]
abbrev am_m204 : am_Mt := (⟨"BookedEmpty", "room", "(I)I"⟩, prog_1_method_2_code, 2, (some .int), am_P204, 9, 9)
/-- BookedEmpty.hour(IIIII)I -/
def am_P205 : List am_E := [(0, .iload_n 1, 1, (0, 0, 0), []),
  (1, .iconst 0, 1, (0, 0, 0), []),
  (2, .bipush 6, 2, (0, 0, 0), []),
  (4, .invokestatic 61, 3, (250, 3, 11), []),
  (7, .ifCond .ne 5, 3, (12, 0, 0), []),
  (10, .iconst (-1), 1, (0, 0, 0), []),
  (11, .ireturn, 1, (0, 0, 0), []),
  (12, .iload_n 2, 1, (0, 0, 0), []),
  (13, .iconst 0, 1, (0, 0, 0), []),
  (14, .bipush 9, 2, (0, 0, 0), []),
  (16, .invokestatic 61, 3, (250, 3, 11), []),
  (19, .ifCond .eq 39, 3, (58, 0, 0), []),
  (22, .iload_n 3, 1, (0, 0, 0), []),
  (23, .iconst 0, 1, (0, 0, 0), []),
  (24, .bipush 39, 2, (0, 0, 0), []),
  (26, .invokestatic 61, 3, (250, 3, 11), []),
  (29, .ifCond .eq 29, 3, (58, 0, 0), []),
  (32, .iload 4, 2, (0, 0, 0), []),
  (34, .iconst 1, 1, (0, 0, 0), []),
  (35, .bipush 12, 2, (0, 0, 0), []),
  (37, .invokestatic 61, 3, (250, 3, 11), []),
  (40, .ifCond .eq 18, 3, (58, 0, 0), []),
  (43, .iload 5, 2, (0, 0, 0), []),
  (45, .iconst 1, 1, (0, 0, 0), []),
  (46, .bipush 20, 2, (0, 0, 0), []),
  (48, .invokestatic 61, 3, (250, 3, 11), []),
  (51, .ifCond .eq 7, 3, (58, 0, 0), []),
  (54, .iconst 1, 1, (0, 0, 0), []),
  (55, .goto 4, 3, (59, 0, 0), []),
  (58, .iconst 0, 1, (0, 0, 0), []),
  (59, .istore 6, 2, (0, 0, 0), []),
  (61, .iload 6, 2, (0, 0, 0), []),
  (63, .ifCond .ne 6, 3, (69, 0, 0), []),
  (66, .bipush (-2), 2, (0, 0, 0), []),
  (68, .ireturn, 1, (0, 0, 0), []),
  (69, .aload_n 0, 1, (0, 0, 0), []),
  (70, .getfield 44, 3, (9, 0, 2), []),
  (73, .getfield 73, 3, (2, 3, 0), []),
  (76, .bipush 6, 2, (0, 0, 0), []),
  (78, .if_icmp .lt 6, 3, (84, 0, 0), []),
  (81, .bipush (-4), 2, (0, 0, 0), []),
  (83, .ireturn, 1, (0, 0, 0), []),
  (84, .aload_n 0, 1, (0, 0, 0), []),
  (85, .getfield 44, 3, (9, 0, 2), []),
  (88, .getfield 76, 3, (2, 1, 2), []),
  (91, .aload_n 0, 1, (0, 0, 0), []),
  (92, .getfield 44, 3, (9, 0, 2), []),
  (95, .getfield 73, 3, (2, 3, 0), []),
  (98, .aaload, 1, (0, 0, 0), []),
  (99, .iload_n 1, 1, (0, 0, 0), []),
  (100, .iload_n 2, 1, (0, 0, 0), []),
  (101, .iload_n 3, 1, (0, 0, 0), []),
  (102, .iload 4, 2, (0, 0, 0), []),
  (104, .iload 5, 2, (0, 0, 0), []),
  (106, .invokevirtual 80, 3, (131, 5, 0), []),
  (109, .aload_n 0, 1, (0, 0, 0), []),
  (110, .getfield 44, 3, (9, 0, 2), []),
  (113, .dup, 1, (0, 0, 0), []),
  (114, .getfield 73, 3, (2, 3, 0), []),
  (117, .dup_x1, 1, (0, 0, 0), []),
  (118, .iconst 1, 1, (0, 0, 0), []),
  (119, .iadd, 1, (0, 0, 0), []),
  (120, .putfield 73, 3, (2, 3, 0), []),
  (123, .ireturn, 1, (0, 0, 0), [])]
abbrev am_m205 : am_Mt := (⟨"BookedEmpty", "hour", "(IIIII)I"⟩, prog_1_method_3_code, 7, (some .int), am_P205, 9, 9)
/-- BookedEmpty.of(II)I -/
def am_P206 : List am_E := [(0, .aload_n 0, 1, (0, 0, 0), []),
  (1, .getfield 44, 3, (9, 0, 2), []),
  (4, .iload_n 1, 1, (0, 0, 0), []),
  (5, .invokevirtual 86, 3, (139, 1, 1), []),
  (8, .ifCond .ne 7, 3, (15, 0, 0), []),
  (11, .sipush (-1001), 3, (0, 0, 0), []),
  (14, .ireturn, 1, (0, 0, 0), []),
  (15, .aload_n 0, 1, (0, 0, 0), []),
  (16, .getfield 44, 3, (9, 0, 2), []),
  (19, .getfield 76, 3, (2, 1, 2), []),
  (22, .iload_n 1, 1, (0, 0, 0), []),
  (23, .aaload, 1, (0, 0, 0), []),
  (24, .astore_n 3, 1, (0, 0, 0), []),
  (25, .iload_n 2, 1, (0, 0, 0), []),
  (26, .tableswitch 116 0 8 #[50, 55, 60, 65, 70, 75, 80, 92, 97], 50, (142, 0, 0), [(0, 76), (1, 81), (2, 86), (3, 91), (4, 96), (5, 101), (6, 106), (7, 118), (8, 123)]),
  (76, .aload_n 3, 1, (0, 0, 0), []),
  (77, .getfield 90, 3, (1, 1, 0), []),
  (80, .ireturn, 1, (0, 0, 0), []),
  (81, .aload_n 3, 1, (0, 0, 0), []),
  (82, .getfield 93, 3, (1, 2, 0), []),
  (85, .ireturn, 1, (0, 0, 0), []),
  (86, .aload_n 3, 1, (0, 0, 0), []),
  (87, .getfield 96, 3, (1, 3, 0), []),
  (90, .ireturn, 1, (0, 0, 0), []),
  (91, .aload_n 3, 1, (0, 0, 0), []),
  (92, .getfield 99, 3, (1, 4, 0), []),
  (95, .ireturn, 1, (0, 0, 0), []),
  (96, .aload_n 3, 1, (0, 0, 0), []),
  (97, .getfield 102, 3, (1, 5, 0), []),
  (100, .ireturn, 1, (0, 0, 0), []),
  (101, .aload_n 3, 1, (0, 0, 0), []),
  (102, .getfield 105, 3, (1, 6, 0), []),
  (105, .ireturn, 1, (0, 0, 0), []),
  (106, .aload_n 3, 1, (0, 0, 0), []),
  (107, .aload_n 0, 1, (0, 0, 0), []),
  (108, .getfield 44, 3, (9, 0, 2), []),
  (111, .getfield 108, 3, (2, 4, 0), []),
  (114, .invokevirtual 111, 3, (133, 1, 1), []),
  (117, .ireturn, 1, (0, 0, 0), []),
  (118, .aload_n 3, 1, (0, 0, 0), []),
  (119, .invokevirtual 114, 3, (134, 0, 1), []),
  (122, .ireturn, 1, (0, 0, 0), []),
  (123, .aload_n 0, 1, (0, 0, 0), []),
  (124, .getfield 44, 3, (9, 0, 2), []),
  (127, .aload_n 3, 1, (0, 0, 0), []),
  (128, .aload_n 0, 1, (0, 0, 0), []),
  (129, .getfield 44, 3, (9, 0, 2), []),
  (132, .getfield 108, 3, (2, 4, 0), []),
  (135, .invokevirtual 118, 3, (144, 2, 2), []),
  (138, .invokestatic 122, 3, (112, 1, 11), []),
  (141, .ireturn, 1, (0, 0, 0), []),
  (142, .aload_n 0, 1, (0, 0, 0), []),
  (143, .aload_n 3, 1, (0, 0, 0), []),
  (144, .iload_n 2, 1, (0, 0, 0), []),
  (145, .invokevirtual 126, 3, (207, 2, 1), []),
  (148, .ireturn, 1, (0, 0, 0), [])]
abbrev am_m206 : am_Mt := (⟨"BookedEmpty", "of", "(II)I"⟩, prog_1_method_4_code, 4, (some .int), am_P206, 9, 9)
/-- BookedEmpty.ofInRoom(LBookedEmpty$Hour;I)I -/
def am_P207 : List am_E := [(0, .iload_n 2, 1, (0, 0, 0), []),
  (1, .bipush 20, 2, (0, 0, 0), []),
  (3, .if_icmp .lt 47, 3, (50, 0, 0), []),
  (6, .aload_n 0, 1, (0, 0, 0), []),
  (7, .getfield 44, 3, (9, 0, 2), []),
  (10, .iload_n 2, 1, (0, 0, 0), []),
  (11, .bipush 20, 2, (0, 0, 0), []),
  (13, .isub, 1, (0, 0, 0), []),
  (14, .invokevirtual 130, 3, (138, 1, 1), []),
  (17, .ifCond .eq 29, 3, (46, 0, 0), []),
  (20, .aload_n 0, 1, (0, 0, 0), []),
  (21, .getfield 44, 3, (9, 0, 2), []),
  (24, .getfield 133, 3, (2, 5, 2), []),
  (27, .aload_n 1, 1, (0, 0, 0), []),
  (28, .aload_n 0, 1, (0, 0, 0), []),
  (29, .getfield 44, 3, (9, 0, 2), []),
  (32, .getfield 137, 3, (2, 0, 2), []),
  (35, .iload_n 2, 1, (0, 0, 0), []),
  (36, .bipush 20, 2, (0, 0, 0), []),
  (38, .isub, 1, (0, 0, 0), []),
  (39, .aaload, 1, (0, 0, 0), []),
  (40, .invokevirtual 141, 3, (163, 2, 1), []),
  (43, .goto 6, 3, (49, 0, 0), []),
  (46, .sipush (-1001), 3, (0, 0, 0), []),
  (49, .ireturn, 1, (0, 0, 0), []),
  (50, .iload_n 2, 1, (0, 0, 0), []),
  (51, .bipush 10, 2, (0, 0, 0), []),
  (53, .if_icmp .lt 37, 3, (90, 0, 0), []),
  (56, .aload_n 0, 1, (0, 0, 0), []),
  (57, .getfield 44, 3, (9, 0, 2), []),
  (60, .iload_n 2, 1, (0, 0, 0), []),
  (61, .bipush 10, 2, (0, 0, 0), []),
  (63, .isub, 1, (0, 0, 0), []),
  (64, .invokevirtual 130, 3, (138, 1, 1), []),
  (67, .ifCond .eq 23, 3, (90, 0, 0), []),
  (70, .aload_n 0, 1, (0, 0, 0), []),
  (71, .getfield 44, 3, (9, 0, 2), []),
  (74, .getfield 137, 3, (2, 0, 2), []),
  (77, .iload_n 2, 1, (0, 0, 0), []),
  (78, .bipush 10, 2, (0, 0, 0), []),
  (80, .isub, 1, (0, 0, 0), []),
  (81, .aaload, 1, (0, 0, 0), []),
  (82, .aload_n 1, 1, (0, 0, 0), []),
  (83, .invokevirtual 145, 3, (182, 1, 1), []),
  (86, .invokestatic 151, 3, (252, 1, 11), []),
  (89, .ireturn, 1, (0, 0, 0), []),
  (90, .sipush (-1001), 3, (0, 0, 0), []),
  (93, .ireturn, 1, (0, 0, 0), [])]
abbrev am_m207 : am_Mt := (⟨"BookedEmpty", "ofInRoom", "(LBookedEmpty$Hour;I)I"⟩, prog_1_method_5_code, 3, (some .int), am_P207, 9, 9)
/-- BookedEmpty.at(II)I -/
def am_P208 : List am_E := [(0, .aload_n 0, 1, (0, 0, 0), []),
  (1, .getfield 44, 3, (9, 0, 2), []),
  (4, .iload_n 1, 1, (0, 0, 0), []),
  (5, .invokevirtual 130, 3, (138, 1, 1), []),
  (8, .ifCond .ne 5, 3, (13, 0, 0), []),
  (11, .iconst (-1), 1, (0, 0, 0), []),
  (12, .ireturn, 1, (0, 0, 0), []),
  (13, .iload_n 2, 1, (0, 0, 0), []),
  (14, .tableswitch 91 0 3 #[30, 43, 59, 75], 30, (105, 0, 0), [(0, 44), (1, 57), (2, 73), (3, 89)]),
  (44, .aload_n 0, 1, (0, 0, 0), []),
  (45, .getfield 44, 3, (9, 0, 2), []),
  (48, .getfield 137, 3, (2, 0, 2), []),
  (51, .iload_n 1, 1, (0, 0, 0), []),
  (52, .aaload, 1, (0, 0, 0), []),
  (53, .getfield 155, 3, (5, 1, 0), []),
  (56, .ireturn, 1, (0, 0, 0), []),
  (57, .aload_n 0, 1, (0, 0, 0), []),
  (58, .getfield 44, 3, (9, 0, 2), []),
  (61, .getfield 137, 3, (2, 0, 2), []),
  (64, .iload_n 1, 1, (0, 0, 0), []),
  (65, .aaload, 1, (0, 0, 0), []),
  (66, .getfield 158, 3, (5, 2, 3), []),
  (69, .invokestatic 151, 3, (252, 1, 11), []),
  (72, .ireturn, 1, (0, 0, 0), []),
  (73, .aload_n 0, 1, (0, 0, 0), []),
  (74, .getfield 44, 3, (9, 0, 2), []),
  (77, .iload_n 1, 1, (0, 0, 0), []),
  (78, .aload_n 0, 1, (0, 0, 0), []),
  (79, .getfield 44, 3, (9, 0, 2), []),
  (82, .getfield 108, 3, (2, 4, 0), []),
  (85, .invokevirtual 162, 3, (149, 2, 1), []),
  (88, .ireturn, 1, (0, 0, 0), []),
  (89, .aload_n 0, 1, (0, 0, 0), []),
  (90, .getfield 44, 3, (9, 0, 2), []),
  (93, .iload_n 1, 1, (0, 0, 0), []),
  (94, .aload_n 0, 1, (0, 0, 0), []),
  (95, .getfield 44, 3, (9, 0, 2), []),
  (98, .getfield 108, 3, (2, 4, 0), []),
  (101, .invokevirtual 166, 3, (150, 2, 1), []),
  (104, .ireturn, 1, (0, 0, 0), []),
  (105, .iconst (-1), 1, (0, 0, 0), []),
  (106, .ireturn, 1, (0, 0, 0), [])]
abbrev am_m208 : am_Mt := (⟨"BookedEmpty", "at", "(II)I"⟩, prog_1_method_6_code, 3, (some .int), am_P208, 9, 9)
/-- BookedEmpty.fault(IZ)I -/
def am_P209 : List am_E := [(0, .aload_n 0, 1, (0, 0, 0), []),
  (1, .getfield 44, 3, (9, 0, 2), []),
  (4, .iload_n 1, 1, (0, 0, 0), []),
  (5, .invokevirtual 130, 3, (138, 1, 1), []),
  (8, .ifCond .ne 5, 3, (13, 0, 0), []),
  (11, .iconst (-1), 1, (0, 0, 0), []),
  (12, .ireturn, 1, (0, 0, 0), []),
  (13, .aload_n 0, 1, (0, 0, 0), []),
  (14, .getfield 44, 3, (9, 0, 2), []),
  (17, .getfield 137, 3, (2, 0, 2), []),
  (20, .iload_n 1, 1, (0, 0, 0), []),
  (21, .aaload, 1, (0, 0, 0), []),
  (22, .getfield 158, 3, (5, 2, 3), []),
  (25, .invokestatic 151, 3, (252, 1, 11), []),
  (28, .istore_n 3, 1, (0, 0, 0), []),
  (29, .aload_n 0, 1, (0, 0, 0), []),
  (30, .getfield 44, 3, (9, 0, 2), []),
  (33, .getfield 137, 3, (2, 0, 2), []),
  (36, .iload_n 1, 1, (0, 0, 0), []),
  (37, .aaload, 1, (0, 0, 0), []),
  (38, .iload_n 2, 1, (0, 0, 0), []),
  (39, .putfield 158, 3, (5, 2, 3), []),
  (42, .iload_n 3, 1, (0, 0, 0), []),
  (43, .ireturn, 1, (0, 0, 0), [])]
abbrev am_m209 : am_Mt := (⟨"BookedEmpty", "fault", "(IZ)I"⟩, prog_1_method_7_code, 4, (some .int), am_P209, 9, 9)
/-- BookedEmpty.row(III)I -/
def am_P210 : List am_E := [(0, .aload_n 0, 1, (0, 0, 0), []),
  (1, .getfield 44, 3, (9, 0, 2), []),
  (4, .iload_n 1, 1, (0, 0, 0), []),
  (5, .invokevirtual 86, 3, (139, 1, 1), []),
  (8, .ifCond .eq 12, 3, (20, 0, 0), []),
  (11, .iload_n 2, 1, (0, 0, 0), []),
  (12, .iconst 0, 1, (0, 0, 0), []),
  (13, .iconst 3, 1, (0, 0, 0), []),
  (14, .invokestatic 61, 3, (250, 3, 11), []),
  (17, .ifCond .ne 5, 3, (22, 0, 0), []),
  (20, .iconst (-1), 1, (0, 0, 0), []),
  (21, .ireturn, 1, (0, 0, 0), []),
  (22, .iload_n 3, 1, (0, 0, 0), []),
  (23, .iconst 0, 1, (0, 0, 0), []),
  (24, .bipush 9, 2, (0, 0, 0), []),
  (26, .invokestatic 61, 3, (250, 3, 11), []),
  (29, .ifCond .ne 6, 3, (35, 0, 0), []),
  (32, .bipush (-2), 2, (0, 0, 0), []),
  (34, .ireturn, 1, (0, 0, 0), []),
  (35, .aload_n 0, 1, (0, 0, 0), []),
  (36, .getfield 44, 3, (9, 0, 2), []),
  (39, .getfield 76, 3, (2, 1, 2), []),
  (42, .iload_n 1, 1, (0, 0, 0), []),
  (43, .aaload, 1, (0, 0, 0), []),
  (44, .astore 4, 2, (0, 0, 0), []),
  (46, .aload 4, 2, (0, 0, 0), []),
  (48, .getfield 90, 3, (1, 1, 0), []),
  (51, .bipush 6, 2, (0, 0, 0), []),
  (53, .if_icmp .eq 6, 3, (59, 0, 0), []),
  (56, .bipush (-3), 2, (0, 0, 0), []),
  (58, .ireturn, 1, (0, 0, 0), []),
  (59, .aload 4, 2, (0, 0, 0), []),
  (61, .getfield 169, 3, (1, 7, 2), []),
  (64, .iload_n 2, 1, (0, 0, 0), []),
  (65, .iaload, 1, (0, 0, 0), []),
  (66, .istore 5, 2, (0, 0, 0), []),
  (68, .aload 4, 2, (0, 0, 0), []),
  (70, .getfield 169, 3, (1, 7, 2), []),
  (73, .iload_n 2, 1, (0, 0, 0), []),
  (74, .iload_n 3, 1, (0, 0, 0), []),
  (75, .iastore, 1, (0, 0, 0), []),
  (76, .iload 5, 2, (0, 0, 0), []),
  (78, .ireturn, 1, (0, 0, 0), [])]
abbrev am_m210 : am_Mt := (⟨"BookedEmpty", "row", "(III)I"⟩, prog_1_method_8_code, 6, (some .int), am_P210, 9, 9)
/-- BookedEmpty.give(II)I -/
def am_P211 : List am_E := [(0, .aload_n 0, 1, (0, 0, 0), []),
  (1, .getfield 44, 3, (9, 0, 2), []),
  (4, .iload_n 1, 1, (0, 0, 0), []),
  (5, .invokevirtual 86, 3, (139, 1, 1), []),
  (8, .ifCond .eq 19, 3, (27, 0, 0), []),
  (11, .iload_n 2, 1, (0, 0, 0), []),
  (12, .iconst (-1), 1, (0, 0, 0), []),
  (13, .if_icmp .eq 16, 3, (29, 0, 0), []),
  (16, .aload_n 0, 1, (0, 0, 0), []),
  (17, .getfield 44, 3, (9, 0, 2), []),
  (20, .iload_n 2, 1, (0, 0, 0), []),
  (21, .invokevirtual 130, 3, (138, 1, 1), []),
  (24, .ifCond .ne 5, 3, (29, 0, 0), []),
  (27, .iconst (-1), 1, (0, 0, 0), []),
  (28, .ireturn, 1, (0, 0, 0), []),
  (29, .aload_n 0, 1, (0, 0, 0), []),
  (30, .getfield 44, 3, (9, 0, 2), []),
  (33, .getfield 76, 3, (2, 1, 2), []),
  (36, .iload_n 1, 1, (0, 0, 0), []),
  (37, .aaload, 1, (0, 0, 0), []),
  (38, .astore_n 3, 1, (0, 0, 0), []),
  (39, .iload_n 2, 1, (0, 0, 0), []),
  (40, .iconst (-1), 1, (0, 0, 0), []),
  (41, .if_icmp .eq 34, 3, (75, 0, 0), []),
  (44, .aload_n 0, 1, (0, 0, 0), []),
  (45, .getfield 44, 3, (9, 0, 2), []),
  (48, .getfield 137, 3, (2, 0, 2), []),
  (51, .iload_n 2, 1, (0, 0, 0), []),
  (52, .aaload, 1, (0, 0, 0), []),
  (53, .aload_n 3, 1, (0, 0, 0), []),
  (54, .invokevirtual 145, 3, (182, 1, 1), []),
  (57, .ifCond .eq 15, 3, (72, 0, 0), []),
  (60, .aload_n 0, 1, (0, 0, 0), []),
  (61, .getfield 44, 3, (9, 0, 2), []),
  (64, .iload_n 2, 1, (0, 0, 0), []),
  (65, .aload_n 3, 1, (0, 0, 0), []),
  (66, .invokevirtual 173, 3, (146, 2, 1), []),
  (69, .ifCond .eq 6, 3, (75, 0, 0), []),
  (72, .bipush (-3), 2, (0, 0, 0), []),
  (74, .ireturn, 1, (0, 0, 0), []),
  (75, .aload_n 3, 1, (0, 0, 0), []),
  (76, .getfield 105, 3, (1, 6, 0), []),
  (79, .istore 4, 2, (0, 0, 0), []),
  (81, .aload_n 3, 1, (0, 0, 0), []),
  (82, .iload_n 2, 1, (0, 0, 0), []),
  (83, .iconst (-1), 1, (0, 0, 0), []),
  (84, .if_icmp .ne 8, 3, (92, 0, 0), []),
  (87, .bipush (-5), 2, (0, 0, 0), []),
  (89, .goto 4, 3, (93, 0, 0), []),
  (92, .iload_n 2, 1, (0, 0, 0), []),
  (93, .putfield 105, 3, (1, 6, 0), []),
  (96, .iload 4, 2, (0, 0, 0), []),
  (98, .ireturn, 1, (0, 0, 0), [])]
abbrev am_m211 : am_Mt := (⟨"BookedEmpty", "give", "(II)I"⟩, prog_1_method_9_code, 5, (some .int), am_P211, 9, 9)
/-- BookedEmpty.inside(II)I -/
def am_P212 : List am_E := [(0, .aload_n 0, 1, (0, 0, 0), []),
  (1, .getfield 44, 3, (9, 0, 2), []),
  (4, .iload_n 1, 1, (0, 0, 0), []),
  (5, .invokevirtual 130, 3, (138, 1, 1), []),
  (8, .ifCond .eq 10, 3, (18, 0, 0), []),
  (11, .iload_n 2, 1, (0, 0, 0), []),
  (12, .invokestatic 177, 3, (251, 1, 11), []),
  (15, .ifCond .ne 5, 3, (20, 0, 0), []),
  (18, .iconst (-1), 1, (0, 0, 0), []),
  (19, .ireturn, 1, (0, 0, 0), []),
  (20, .iconst 0, 1, (0, 0, 0), []),
  (21, .istore_n 3, 1, (0, 0, 0), []),
  (22, .iconst 0, 1, (0, 0, 0), []),
  (23, .istore 4, 2, (0, 0, 0), []),
  (25, .iload 4, 2, (0, 0, 0), []),
  (27, .aload_n 0, 1, (0, 0, 0), []),
  (28, .getfield 44, 3, (9, 0, 2), []),
  (31, .getfield 73, 3, (2, 3, 0), []),
  (34, .if_icmp .ge 60, 3, (94, 0, 0), []),
  (37, .aload_n 0, 1, (0, 0, 0), []),
  (38, .getfield 44, 3, (9, 0, 2), []),
  (41, .getfield 76, 3, (2, 1, 2), []),
  (44, .iload 4, 2, (0, 0, 0), []),
  (46, .aaload, 1, (0, 0, 0), []),
  (47, .astore 5, 2, (0, 0, 0), []),
  (49, .aload 5, 2, (0, 0, 0), []),
  (51, .getfield 105, 3, (1, 6, 0), []),
  (54, .iload_n 1, 1, (0, 0, 0), []),
  (55, .if_icmp .ne 33, 3, (88, 0, 0), []),
  (58, .aload_n 0, 1, (0, 0, 0), []),
  (59, .getfield 44, 3, (9, 0, 2), []),
  (62, .aload 5, 2, (0, 0, 0), []),
  (64, .aload_n 0, 1, (0, 0, 0), []),
  (65, .getfield 44, 3, (9, 0, 2), []),
  (68, .getfield 108, 3, (2, 4, 0), []),
  (71, .invokevirtual 180, 3, (145, 2, 2), []),
  (74, .iload_n 2, 1, (0, 0, 0), []),
  (75, .invokestatic 183, 3, (253, 2, 11), []),
  (78, .ifCond .eq 10, 3, (88, 0, 0), []),
  (81, .iload_n 3, 1, (0, 0, 0), []),
  (82, .iconst 1, 1, (0, 0, 0), []),
  (83, .iload 4, 2, (0, 0, 0), []),
  (85, .ishl, 1, (0, 0, 0), []),
  (86, .ior, 1, (0, 0, 0), []),
  (87, .istore_n 3, 1, (0, 0, 0), []),
  (88, .iinc 4 1, 3, (0, 0, 0), []),
  (91, .goto (-66), 3, (25, 0, 0), []),
  (94, .iload_n 3, 1, (0, 0, 0), []),
  (95, .ireturn, 1, (0, 0, 0), [])]
abbrev am_m212 : am_Mt := (⟨"BookedEmpty", "inside", "(II)I"⟩, prog_1_method_10_code, 6, (some .int), am_P212, 9, 9)
/-- BookedEmpty.held(II)I -/
def am_P213 : List am_E := [(0, .aload_n 0, 1, (0, 0, 0), []),
  (1, .getfield 44, 3, (9, 0, 2), []),
  (4, .iload_n 1, 1, (0, 0, 0), []),
  (5, .invokevirtual 130, 3, (138, 1, 1), []),
  (8, .ifCond .eq 10, 3, (18, 0, 0), []),
  (11, .iload_n 2, 1, (0, 0, 0), []),
  (12, .invokestatic 177, 3, (251, 1, 11), []),
  (15, .ifCond .ne 5, 3, (20, 0, 0), []),
  (18, .iconst (-1), 1, (0, 0, 0), []),
  (19, .ireturn, 1, (0, 0, 0), []),
  (20, .iconst 0, 1, (0, 0, 0), []),
  (21, .istore_n 3, 1, (0, 0, 0), []),
  (22, .iconst 0, 1, (0, 0, 0), []),
  (23, .istore 4, 2, (0, 0, 0), []),
  (25, .iload 4, 2, (0, 0, 0), []),
  (27, .aload_n 0, 1, (0, 0, 0), []),
  (28, .getfield 44, 3, (9, 0, 2), []),
  (31, .getfield 73, 3, (2, 3, 0), []),
  (34, .if_icmp .ge 60, 3, (94, 0, 0), []),
  (37, .aload_n 0, 1, (0, 0, 0), []),
  (38, .getfield 44, 3, (9, 0, 2), []),
  (41, .getfield 76, 3, (2, 1, 2), []),
  (44, .iload 4, 2, (0, 0, 0), []),
  (46, .aaload, 1, (0, 0, 0), []),
  (47, .astore 5, 2, (0, 0, 0), []),
  (49, .aload 5, 2, (0, 0, 0), []),
  (51, .getfield 105, 3, (1, 6, 0), []),
  (54, .iload_n 1, 1, (0, 0, 0), []),
  (55, .if_icmp .ne 33, 3, (88, 0, 0), []),
  (58, .aload_n 0, 1, (0, 0, 0), []),
  (59, .getfield 44, 3, (9, 0, 2), []),
  (62, .aload 5, 2, (0, 0, 0), []),
  (64, .aload_n 0, 1, (0, 0, 0), []),
  (65, .getfield 44, 3, (9, 0, 2), []),
  (68, .getfield 108, 3, (2, 4, 0), []),
  (71, .invokevirtual 118, 3, (144, 2, 2), []),
  (74, .iload_n 2, 1, (0, 0, 0), []),
  (75, .invokestatic 183, 3, (253, 2, 11), []),
  (78, .ifCond .eq 10, 3, (88, 0, 0), []),
  (81, .iload_n 3, 1, (0, 0, 0), []),
  (82, .iconst 1, 1, (0, 0, 0), []),
  (83, .iload 4, 2, (0, 0, 0), []),
  (85, .ishl, 1, (0, 0, 0), []),
  (86, .ior, 1, (0, 0, 0), []),
  (87, .istore_n 3, 1, (0, 0, 0), []),
  (88, .iinc 4 1, 3, (0, 0, 0), []),
  (91, .goto (-66), 3, (25, 0, 0), []),
  (94, .iload_n 3, 1, (0, 0, 0), []),
  (95, .ireturn, 1, (0, 0, 0), [])]
abbrev am_m213 : am_Mt := (⟨"BookedEmpty", "held", "(II)I"⟩, prog_1_method_11_code, 6, (some .int), am_P213, 9, 9)
/-- BookedEmpty.feed(I)I -/
def am_P214 : List am_E := [(0, .iload_n 1, 1, (0, 0, 0), []),
  (1, .iconst 0, 1, (0, 0, 0), []),
  (2, .bipush 127, 2, (0, 0, 0), []),
  (4, .invokestatic 61, 3, (250, 3, 11), []),
  (7, .ifCond .eq 14, 3, (21, 0, 0), []),
  (10, .aload_n 0, 1, (0, 0, 0), []),
  (11, .getfield 57, 3, (9, 6, 2), []),
  (14, .iload_n 1, 1, (0, 0, 0), []),
  (15, .invokevirtual 187, 3, (168, 1, 1), []),
  (18, .goto 5, 3, (23, 0, 0), []),
  (21, .bipush (-2), 2, (0, 0, 0), []),
  (23, .ireturn, 1, (0, 0, 0), [])]
abbrev am_m214 : am_Mt := (⟨"BookedEmpty", "feed", "(I)I"⟩, prog_1_method_12_code, 2, (some .int), am_P214, 9, 9)
/-- BookedEmpty.office()I -/
def am_P215 : List am_E := [(0, .aload_n 0, 1, (0, 0, 0), []),
  (1, .getfield 190, 3, (9, 5, 0), []),
  (4, .bipush 6, 2, (0, 0, 0), []),
  (6, .if_icmp .lt 6, 3, (12, 0, 0), []),
  (9, .bipush (-4), 2, (0, 0, 0), []),
  (11, .ireturn, 1, (0, 0, 0), []),
  (12, .aload_n 0, 1, (0, 0, 0), []),
  (13, .getfield 57, 3, (9, 6, 2), []),
  (16, .aload_n 0, 1, (0, 0, 0), []),
  (17, .getfield 13, 3, (9, 4, 2), []),
  (20, .aload_n 0, 1, (0, 0, 0), []),
  (21, .getfield 190, 3, (9, 5, 0), []),
  (24, .aaload, 1, (0, 0, 0), []),
  (25, .invokevirtual 193, 3, (169, 1, 1), []),
  (28, .istore_n 1, 1, (0, 0, 0), []),
  (29, .iload_n 1, 1, (0, 0, 0), []),
  (30, .ifCond .lt 8, 3, (38, 0, 0), []),
  (33, .bipush (-10), 2, (0, 0, 0), []),
  (35, .iload_n 1, 1, (0, 0, 0), []),
  (36, .isub, 1, (0, 0, 0), []),
  (37, .ireturn, 1, (0, 0, 0), []),
  (38, .aload_n 0, 1, (0, 0, 0), []),
  (39, .getfield 44, 3, (9, 0, 2), []),
  (42, .aload_n 0, 1, (0, 0, 0), []),
  (43, .getfield 13, 3, (9, 4, 2), []),
  (46, .aload_n 0, 1, (0, 0, 0), []),
  (47, .getfield 190, 3, (9, 5, 0), []),
  (50, .aaload, 1, (0, 0, 0), []),
  (51, .invokevirtual 197, 3, (141, 1, 0), []),
  (54, .aload_n 0, 1, (0, 0, 0), []),
  (55, .dup, 1, (0, 0, 0), []),
  (56, .getfield 190, 3, (9, 5, 0), []),
  (59, .dup_x1, 1, (0, 0, 0), []),
  (60, .iconst 1, 1, (0, 0, 0), []),
  (61, .iadd, 1, (0, 0, 0), []),
  (62, .putfield 190, 3, (9, 5, 0), []),
  (65, .ireturn, 1, (0, 0, 0), [])]
abbrev am_m215 : am_Mt := (⟨"BookedEmpty", "office", "()I"⟩, prog_1_method_13_code, 2, (some .int), am_P215, 9, 9)
/-- BookedEmpty.told(I)I -/
def am_P216 : List am_E := [(0, .iload_n 1, 1, (0, 0, 0), []),
  (1, .tableswitch 78 0 4 #[35, 43, 51, 62, 70], 35, (79, 0, 0), [(0, 36), (1, 44), (2, 52), (3, 63), (4, 71)]),
  (36, .aload_n 0, 1, (0, 0, 0), []),
  (37, .getfield 44, 3, (9, 0, 2), []),
  (40, .getfield 108, 3, (2, 4, 0), []),
  (43, .ireturn, 1, (0, 0, 0), []),
  (44, .aload_n 0, 1, (0, 0, 0), []),
  (45, .getfield 44, 3, (9, 0, 2), []),
  (48, .getfield 200, 3, (2, 6, 0), []),
  (51, .ireturn, 1, (0, 0, 0), []),
  (52, .aload_n 0, 1, (0, 0, 0), []),
  (53, .getfield 44, 3, (9, 0, 2), []),
  (56, .getfield 133, 3, (2, 5, 2), []),
  (59, .getfield 203, 3, (3, 1, 0), []),
  (62, .ireturn, 1, (0, 0, 0), []),
  (63, .aload_n 0, 1, (0, 0, 0), []),
  (64, .getfield 44, 3, (9, 0, 2), []),
  (67, .invokevirtual 204, 3, (154, 0, 1), []),
  (70, .ireturn, 1, (0, 0, 0), []),
  (71, .aload_n 0, 1, (0, 0, 0), []),
  (72, .getfield 44, 3, (9, 0, 2), []),
  (75, .invokevirtual 207, 3, (155, 0, 1), []),
  (78, .ireturn, 1, (0, 0, 0), []),
  (79, .iconst (-1), 1, (0, 0, 0), []),
  (80, .ireturn, 1, (0, 0, 0), [])]
abbrev am_m216 : am_Mt := (⟨"BookedEmpty", "told", "(I)I"⟩, prog_1_method_14_code, 2, (some .int), am_P216, 9, 9)
/-- BookedEmpty.pass(I)I -/
def am_P217 : List am_E := [(0, .iload_n 1, 1, (0, 0, 0), []),
  (1, .iconst 0, 1, (0, 0, 0), []),
  (2, .bipush 60, 2, (0, 0, 0), []),
  (4, .invokestatic 61, 3, (250, 3, 11), []),
  (7, .ifCond .ne 6, 3, (13, 0, 0), []),
  (10, .bipush (-2), 2, (0, 0, 0), []),
  (12, .ireturn, 1, (0, 0, 0), []),
  (13, .aload_n 0, 1, (0, 0, 0), []),
  (14, .getfield 44, 3, (9, 0, 2), []),
  (17, .getfield 108, 3, (2, 4, 0), []),
  (20, .iload_n 1, 1, (0, 0, 0), []),
  (21, .iadd, 1, (0, 0, 0), []),
  (22, .sipush 9999, 3, (0, 0, 0), []),
  (25, .if_icmp .le 6, 3, (31, 0, 0), []),
  (28, .bipush (-3), 2, (0, 0, 0), []),
  (30, .ireturn, 1, (0, 0, 0), []),
  (31, .aload_n 0, 1, (0, 0, 0), []),
  (32, .getfield 44, 3, (9, 0, 2), []),
  (35, .dup, 1, (0, 0, 0), []),
  (36, .getfield 108, 3, (2, 4, 0), []),
  (39, .iload_n 1, 1, (0, 0, 0), []),
  (40, .iadd, 1, (0, 0, 0), []),
  (41, .putfield 108, 3, (2, 4, 0), []),
  (44, .aload_n 0, 1, (0, 0, 0), []),
  (45, .getfield 44, 3, (9, 0, 2), []),
  (48, .getfield 108, 3, (2, 4, 0), []),
  (51, .ireturn, 1, (0, 0, 0), [])]
abbrev am_m217 : am_Mt := (⟨"BookedEmpty", "pass", "(I)I"⟩, prog_1_method_15_code, 2, (some .int), am_P217, 9, 9)
/-- BookedEmpty.waste(I)I -/
def am_P218 : List am_E := [(0, .iload_n 1, 1, (0, 0, 0), []),
  (1, .iconst 0, 1, (0, 0, 0), []),
  (2, .bipush 30, 2, (0, 0, 0), []),
  (4, .invokestatic 61, 3, (250, 3, 11), []),
  (7, .ifCond .eq 14, 3, (21, 0, 0), []),
  (10, .aload_n 0, 1, (0, 0, 0), []),
  (11, .getfield 44, 3, (9, 0, 2), []),
  (14, .iload_n 1, 1, (0, 0, 0), []),
  (15, .invokevirtual 210, 3, (153, 1, 1), []),
  (18, .goto 5, 3, (23, 0, 0), []),
  (21, .bipush (-2), 2, (0, 0, 0), []),
  (23, .ireturn, 1, (0, 0, 0), [])]
abbrev am_m218 : am_Mt := (⟨"BookedEmpty", "waste", "(I)I"⟩, prog_1_method_16_code, 2, (some .int), am_P218, 9, 9)
/-- BookedEmpty.on(II)I -/
def am_P219 : List am_E := [(0, .iload_n 2, 1, (0, 0, 0), []),
  (1, .bipush 10, 2, (0, 0, 0), []),
  (3, .if_icmp .lt 21, 3, (24, 0, 0), []),
  (6, .aload_n 0, 1, (0, 0, 0), []),
  (7, .getfield 44, 3, (9, 0, 2), []),
  (10, .iload_n 2, 1, (0, 0, 0), []),
  (11, .bipush 10, 2, (0, 0, 0), []),
  (13, .isub, 1, (0, 0, 0), []),
  (14, .invokevirtual 86, 3, (139, 1, 1), []),
  (17, .ifCond .eq 7, 3, (24, 0, 0), []),
  (20, .iconst 1, 1, (0, 0, 0), []),
  (21, .goto 4, 3, (25, 0, 0), []),
  (24, .iconst 0, 1, (0, 0, 0), []),
  (25, .istore_n 3, 1, (0, 0, 0), []),
  (26, .iload_n 2, 1, (0, 0, 0), []),
  (27, .bipush 20, 2, (0, 0, 0), []),
  (29, .if_icmp .lt 21, 3, (50, 0, 0), []),
  (32, .aload_n 0, 1, (0, 0, 0), []),
  (33, .getfield 44, 3, (9, 0, 2), []),
  (36, .iload_n 2, 1, (0, 0, 0), []),
  (37, .bipush 20, 2, (0, 0, 0), []),
  (39, .isub, 1, (0, 0, 0), []),
  (40, .invokevirtual 130, 3, (138, 1, 1), []),
  (43, .ifCond .eq 7, 3, (50, 0, 0), []),
  (46, .iconst 1, 1, (0, 0, 0), []),
  (47, .goto 4, 3, (51, 0, 0), []),
  (50, .iconst 0, 1, (0, 0, 0), []),
  (51, .istore 4, 2, (0, 0, 0), []),
  (53, .iload_n 2, 1, (0, 0, 0), []),
  (54, .bipush 30, 2, (0, 0, 0), []),
  (56, .if_icmp .lt 21, 3, (77, 0, 0), []),
  (59, .aload_n 0, 1, (0, 0, 0), []),
  (60, .getfield 44, 3, (9, 0, 2), []),
  (63, .iload_n 2, 1, (0, 0, 0), []),
  (64, .bipush 30, 2, (0, 0, 0), []),
  (66, .isub, 1, (0, 0, 0), []),
  (67, .invokevirtual 130, 3, (138, 1, 1), []),
  (70, .ifCond .eq 7, 3, (77, 0, 0), []),
  (73, .iconst 1, 1, (0, 0, 0), []),
  (74, .goto 4, 3, (78, 0, 0), []),
  (77, .iconst 0, 1, (0, 0, 0), []),
  (78, .istore 5, 2, (0, 0, 0), []),
  (80, .iload_n 3, 1, (0, 0, 0), []),
  (81, .ifCond .ne 15, 3, (96, 0, 0), []),
  (84, .iload 4, 2, (0, 0, 0), []),
  (86, .ifCond .ne 10, 3, (96, 0, 0), []),
  (89, .iload 5, 2, (0, 0, 0), []),
  (91, .ifCond .ne 5, 3, (96, 0, 0), []),
  (94, .iconst (-1), 1, (0, 0, 0), []),
  (95, .ireturn, 1, (0, 0, 0), []),
  (96, .iload_n 1, 1, (0, 0, 0), []),
  (97, .iconst 0, 1, (0, 0, 0), []),
  (98, .bipush 60, 2, (0, 0, 0), []),
  (100, .invokestatic 61, 3, (250, 3, 11), []),
  (103, .ifCond .ne 6, 3, (109, 0, 0), []),
  (106, .bipush (-2), 2, (0, 0, 0), []),
  (108, .ireturn, 1, (0, 0, 0), []),
  (109, .aload_n 0, 1, (0, 0, 0), []),
  (110, .getfield 44, 3, (9, 0, 2), []),
  (113, .getfield 108, 3, (2, 4, 0), []),
  (116, .iload_n 1, 1, (0, 0, 0), []),
  (117, .iadd, 1, (0, 0, 0), []),
  (118, .istore 6, 2, (0, 0, 0), []),
  (120, .iload_n 3, 1, (0, 0, 0), []),
  (121, .ifCond .eq 21, 3, (142, 0, 0), []),
  (124, .aload_n 0, 1, (0, 0, 0), []),
  (125, .getfield 44, 3, (9, 0, 2), []),
  (128, .getfield 76, 3, (2, 1, 2), []),
  (131, .iload_n 2, 1, (0, 0, 0), []),
  (132, .bipush 10, 2, (0, 0, 0), []),
  (134, .isub, 1, (0, 0, 0), []),
  (135, .aaload, 1, (0, 0, 0), []),
  (136, .iload 6, 2, (0, 0, 0), []),
  (138, .invokevirtual 111, 3, (133, 1, 1), []),
  (141, .ireturn, 1, (0, 0, 0), []),
  (142, .iload 4, 2, (0, 0, 0), []),
  (144, .ifCond .eq 19, 3, (163, 0, 0), []),
  (147, .aload_n 0, 1, (0, 0, 0), []),
  (148, .getfield 44, 3, (9, 0, 2), []),
  (151, .iload_n 2, 1, (0, 0, 0), []),
  (152, .bipush 20, 2, (0, 0, 0), []),
  (154, .isub, 1, (0, 0, 0), []),
  (155, .iload 6, 2, (0, 0, 0), []),
  (157, .invokevirtual 162, 3, (149, 2, 1), []),
  (160, .goto 16, 3, (176, 0, 0), []),
  (163, .aload_n 0, 1, (0, 0, 0), []),
  (164, .getfield 44, 3, (9, 0, 2), []),
  (167, .iload_n 2, 1, (0, 0, 0), []),
  (168, .bipush 30, 2, (0, 0, 0), []),
  (170, .isub, 1, (0, 0, 0), []),
  (171, .iload 6, 2, (0, 0, 0), []),
  (173, .invokevirtual 166, 3, (150, 2, 1), []),
  (176, .ireturn, 1, (0, 0, 0), [])]
abbrev am_m219 : am_Mt := (⟨"BookedEmpty", "on", "(II)I"⟩, prog_1_method_17_code, 7, (some .int), am_P219, 9, 9)
/-- BookedEmpty.most(I)I -/
def am_P220 : List am_E := [(0, .iload_n 1, 1, (0, 0, 0), []),
  (1, .ifCond .eq 18, 3, (19, 0, 0), []),
  (4, .iload_n 1, 1, (0, 0, 0), []),
  (5, .iconst 1, 1, (0, 0, 0), []),
  (6, .if_icmp .eq 13, 3, (19, 0, 0), []),
  (9, .aload_n 0, 1, (0, 0, 0), []),
  (10, .iload_n 1, 1, (0, 0, 0), []),
  (11, .invokevirtual 213, 3, (222, 1, 1), []),
  (14, .ifCond .ne 5, 3, (19, 0, 0), []),
  (17, .iconst (-1), 1, (0, 0, 0), []),
  (18, .ireturn, 1, (0, 0, 0), []),
  (19, .aload_n 0, 1, (0, 0, 0), []),
  (20, .getfield 20, 3, (9, 7, 2), []),
  (23, .aload_n 0, 1, (0, 0, 0), []),
  (24, .getfield 44, 3, (9, 0, 2), []),
  (27, .iconst (-1), 1, (0, 0, 0), []),
  (28, .iconst 1, 1, (0, 0, 0), []),
  (29, .invokevirtual 216, 3, (199, 3, 1), []),
  (32, .istore_n 2, 1, (0, 0, 0), []),
  (33, .iload_n 1, 1, (0, 0, 0), []),
  (34, .ifCond .ne 5, 3, (39, 0, 0), []),
  (37, .iload_n 2, 1, (0, 0, 0), []),
  (38, .ireturn, 1, (0, 0, 0), []),
  (39, .iload_n 1, 1, (0, 0, 0), []),
  (40, .iconst 1, 1, (0, 0, 0), []),
  (41, .if_icmp .ne 13, 3, (54, 0, 0), []),
  (44, .aload_n 0, 1, (0, 0, 0), []),
  (45, .getfield 20, 3, (9, 7, 2), []),
  (48, .getfield 220, 3, (8, 10, 0), []),
  (51, .goto 15, 3, (66, 0, 0), []),
  (54, .aload_n 0, 1, (0, 0, 0), []),
  (55, .getfield 20, 3, (9, 7, 2), []),
  (58, .getfield 223, 3, (8, 8, 2), []),
  (61, .iload_n 1, 1, (0, 0, 0), []),
  (62, .bipush 10, 2, (0, 0, 0), []),
  (64, .isub, 1, (0, 0, 0), []),
  (65, .iaload, 1, (0, 0, 0), []),
  (66, .ireturn, 1, (0, 0, 0), [])]
abbrev am_m220 : am_Mt := (⟨"BookedEmpty", "most", "(I)I"⟩, prog_1_method_18_code, 3, (some .int), am_P220, 9, 9)
/-- BookedEmpty.dearest(I)I -/
def am_P221 : List am_E := [(0, .iload_n 1, 1, (0, 0, 0), []),
  (1, .ifCond .eq 13, 3, (14, 0, 0), []),
  (4, .aload_n 0, 1, (0, 0, 0), []),
  (5, .iload_n 1, 1, (0, 0, 0), []),
  (6, .invokevirtual 213, 3, (222, 1, 1), []),
  (9, .ifCond .ne 5, 3, (14, 0, 0), []),
  (12, .iconst (-1), 1, (0, 0, 0), []),
  (13, .ireturn, 1, (0, 0, 0), []),
  (14, .aload_n 0, 1, (0, 0, 0), []),
  (15, .getfield 20, 3, (9, 7, 2), []),
  (18, .aload_n 0, 1, (0, 0, 0), []),
  (19, .getfield 44, 3, (9, 0, 2), []),
  (22, .iconst (-1), 1, (0, 0, 0), []),
  (23, .iconst 0, 1, (0, 0, 0), []),
  (24, .invokevirtual 216, 3, (199, 3, 1), []),
  (27, .pop, 1, (0, 0, 0), []),
  (28, .iload_n 1, 1, (0, 0, 0), []),
  (29, .ifCond .ne 13, 3, (42, 0, 0), []),
  (32, .aload_n 0, 1, (0, 0, 0), []),
  (33, .getfield 20, 3, (9, 7, 2), []),
  (36, .getfield 220, 3, (8, 10, 0), []),
  (39, .goto 15, 3, (54, 0, 0), []),
  (42, .aload_n 0, 1, (0, 0, 0), []),
  (43, .getfield 20, 3, (9, 7, 2), []),
  (46, .getfield 223, 3, (8, 8, 2), []),
  (49, .iload_n 1, 1, (0, 0, 0), []),
  (50, .bipush 10, 2, (0, 0, 0), []),
  (52, .isub, 1, (0, 0, 0), []),
  (53, .iaload, 1, (0, 0, 0), []),
  (54, .ireturn, 1, (0, 0, 0), [])]
abbrev am_m221 : am_Mt := (⟨"BookedEmpty", "dearest", "(I)I"⟩, prog_1_method_19_code, 2, (some .int), am_P221, 9, 9)
/-- BookedEmpty.asksHour(I)Z -/
def am_P222 : List am_E := [(0, .iload_n 1, 1, (0, 0, 0), []),
  (1, .bipush 10, 2, (0, 0, 0), []),
  (3, .if_icmp .lt 21, 3, (24, 0, 0), []),
  (6, .aload_n 0, 1, (0, 0, 0), []),
  (7, .getfield 44, 3, (9, 0, 2), []),
  (10, .iload_n 1, 1, (0, 0, 0), []),
  (11, .bipush 10, 2, (0, 0, 0), []),
  (13, .isub, 1, (0, 0, 0), []),
  (14, .invokevirtual 86, 3, (139, 1, 1), []),
  (17, .ifCond .eq 7, 3, (24, 0, 0), []),
  (20, .iconst 1, 1, (0, 0, 0), []),
  (21, .goto 4, 3, (25, 0, 0), []),
  (24, .iconst 0, 1, (0, 0, 0), []),
  (25, .ireturn, 1, (1, 0, 0), [])]
abbrev am_m222 : am_Mt := (⟨"BookedEmpty", "asksHour", "(I)Z"⟩, prog_1_method_20_code, 2, (some .boolean), am_P222, 9, 9)
/-- BookedEmpty.best(I)I -/
def am_P223 : List am_E := [(0, .iload_n 1, 1, (0, 0, 0), []),
  (1, .tableswitch 42 0 2 #[27, 32, 37], 27, (43, 0, 0), [(0, 28), (1, 33), (2, 38)]),
  (28, .aload_n 0, 1, (0, 0, 0), []),
  (29, .invokevirtual 226, 3, (224, 0, 1), []),
  (32, .ireturn, 1, (0, 0, 0), []),
  (33, .aload_n 0, 1, (0, 0, 0), []),
  (34, .invokevirtual 229, 3, (225, 0, 1), []),
  (37, .ireturn, 1, (0, 0, 0), []),
  (38, .aload_n 0, 1, (0, 0, 0), []),
  (39, .invokevirtual 232, 3, (226, 0, 1), []),
  (42, .ireturn, 1, (0, 0, 0), []),
  (43, .iconst (-1), 1, (0, 0, 0), []),
  (44, .ireturn, 1, (0, 0, 0), [])]
abbrev am_m223 : am_Mt := (⟨"BookedEmpty", "best", "(I)I"⟩, prog_1_method_21_code, 2, (some .int), am_P223, 9, 9)
/-- BookedEmpty.roomy()I -/
def am_P224 : List am_E := [(0, .aload_n 0, 1, (0, 0, 0), []),
  (1, .getfield 20, 3, (9, 7, 2), []),
  (4, .aload_n 0, 1, (0, 0, 0), []),
  (5, .getfield 44, 3, (9, 0, 2), []),
  (8, .iconst (-1), 1, (0, 0, 0), []),
  (9, .iconst 1, 1, (0, 0, 0), []),
  (10, .invokevirtual 216, 3, (199, 3, 1), []),
  (13, .istore_n 1, 1, (0, 0, 0), []),
  (14, .iconst 1, 1, (0, 0, 0), []),
  (15, .aload_n 0, 1, (0, 0, 0), []),
  (16, .getfield 44, 3, (9, 0, 2), []),
  (19, .getfield 65, 3, (2, 2, 0), []),
  (22, .ishl, 1, (0, 0, 0), []),
  (23, .iconst 1, 1, (0, 0, 0), []),
  (24, .isub, 1, (0, 0, 0), []),
  (25, .istore_n 2, 1, (0, 0, 0), []),
  (26, .iload_n 2, 1, (0, 0, 0), []),
  (27, .istore_n 3, 1, (0, 0, 0), []),
  (28, .iconst 0, 1, (0, 0, 0), []),
  (29, .istore 4, 2, (0, 0, 0), []),
  (31, .iload 4, 2, (0, 0, 0), []),
  (33, .iload_n 2, 1, (0, 0, 0), []),
  (34, .if_icmp .ge 42, 3, (76, 0, 0), []),
  (37, .iload 4, 2, (0, 0, 0), []),
  (39, .invokestatic 235, 3, (111, 1, 11), []),
  (42, .iload_n 3, 1, (0, 0, 0), []),
  (43, .invokestatic 235, 3, (111, 1, 11), []),
  (46, .if_icmp .ge 24, 3, (70, 0, 0), []),
  (49, .aload_n 0, 1, (0, 0, 0), []),
  (50, .getfield 20, 3, (9, 7, 2), []),
  (53, .aload_n 0, 1, (0, 0, 0), []),
  (54, .getfield 44, 3, (9, 0, 2), []),
  (57, .iload 4, 2, (0, 0, 0), []),
  (59, .iconst 1, 1, (0, 0, 0), []),
  (60, .invokevirtual 216, 3, (199, 3, 1), []),
  (63, .iload_n 1, 1, (0, 0, 0), []),
  (64, .if_icmp .ne 6, 3, (70, 0, 0), []),
  (67, .iload 4, 2, (0, 0, 0), []),
  (69, .istore_n 3, 1, (0, 0, 0), []),
  (70, .iinc 4 1, 3, (0, 0, 0), []),
  (73, .goto (-42), 3, (31, 0, 0), []),
  (76, .iload_n 3, 1, (0, 0, 0), []),
  (77, .ireturn, 1, (0, 0, 0), [])]
abbrev am_m224 : am_Mt := (⟨"BookedEmpty", "roomy", "()I"⟩, prog_1_method_22_code, 5, (some .int), am_P224, 9, 9)
/-- BookedEmpty.more()I -/
def am_P225 : List am_E := [(0, .aload_n 0, 1, (0, 0, 0), []),
  (1, .getfield 51, 3, (9, 3, 2), []),
  (4, .aload_n 0, 1, (0, 0, 0), []),
  (5, .getfield 44, 3, (9, 0, 2), []),
  (8, .invokevirtual 239, 3, (137, 1, 0), []),
  (11, .aload_n 0, 1, (0, 0, 0), []),
  (12, .getfield 51, 3, (9, 3, 2), []),
  (15, .bipush 20, 2, (0, 0, 0), []),
  (17, .invokevirtual 69, 3, (140, 1, 1), []),
  (20, .pop, 1, (0, 0, 0), []),
  (21, .aload_n 0, 1, (0, 0, 0), []),
  (22, .getfield 20, 3, (9, 7, 2), []),
  (25, .aload_n 0, 1, (0, 0, 0), []),
  (26, .getfield 51, 3, (9, 3, 2), []),
  (29, .iconst (-1), 1, (0, 0, 0), []),
  (30, .iconst 1, 1, (0, 0, 0), []),
  (31, .invokevirtual 216, 3, (199, 3, 1), []),
  (34, .aload_n 0, 1, (0, 0, 0), []),
  (35, .getfield 20, 3, (9, 7, 2), []),
  (38, .aload_n 0, 1, (0, 0, 0), []),
  (39, .getfield 44, 3, (9, 0, 2), []),
  (42, .iconst (-1), 1, (0, 0, 0), []),
  (43, .iconst 1, 1, (0, 0, 0), []),
  (44, .invokevirtual 216, 3, (199, 3, 1), []),
  (47, .isub, 1, (0, 0, 0), []),
  (48, .ireturn, 1, (0, 0, 0), [])]
abbrev am_m225 : am_Mt := (⟨"BookedEmpty", "more", "()I"⟩, prog_1_method_23_code, 1, (some .int), am_P225, 9, 9)
/-- BookedEmpty.mend()I -/
def am_P226 : List am_E := [(0, .aload_n 0, 1, (0, 0, 0), []),
  (1, .getfield 20, 3, (9, 7, 2), []),
  (4, .aload_n 0, 1, (0, 0, 0), []),
  (5, .getfield 44, 3, (9, 0, 2), []),
  (8, .iconst (-1), 1, (0, 0, 0), []),
  (9, .iconst 1, 1, (0, 0, 0), []),
  (10, .invokevirtual 216, 3, (199, 3, 1), []),
  (13, .istore_n 1, 1, (0, 0, 0), []),
  (14, .bipush (-5), 2, (0, 0, 0), []),
  (16, .istore_n 2, 1, (0, 0, 0), []),
  (17, .aload_n 0, 1, (0, 0, 0), []),
  (18, .getfield 51, 3, (9, 3, 2), []),
  (21, .aload_n 0, 1, (0, 0, 0), []),
  (22, .getfield 44, 3, (9, 0, 2), []),
  (25, .invokevirtual 239, 3, (137, 1, 0), []),
  (28, .iconst 0, 1, (0, 0, 0), []),
  (29, .istore_n 3, 1, (0, 0, 0), []),
  (30, .iload_n 3, 1, (0, 0, 0), []),
  (31, .aload_n 0, 1, (0, 0, 0), []),
  (32, .getfield 44, 3, (9, 0, 2), []),
  (35, .getfield 65, 3, (2, 2, 0), []),
  (38, .if_icmp .ge 72, 3, (110, 0, 0), []),
  (41, .aload_n 0, 1, (0, 0, 0), []),
  (42, .getfield 51, 3, (9, 3, 2), []),
  (45, .getfield 137, 3, (2, 0, 2), []),
  (48, .iload_n 3, 1, (0, 0, 0), []),
  (49, .aaload, 1, (0, 0, 0), []),
  (50, .iconst 0, 1, (0, 0, 0), []),
  (51, .putfield 158, 3, (5, 2, 3), []),
  (54, .aload_n 0, 1, (0, 0, 0), []),
  (55, .getfield 20, 3, (9, 7, 2), []),
  (58, .aload_n 0, 1, (0, 0, 0), []),
  (59, .getfield 51, 3, (9, 3, 2), []),
  (62, .iconst (-1), 1, (0, 0, 0), []),
  (63, .iconst 1, 1, (0, 0, 0), []),
  (64, .invokevirtual 216, 3, (199, 3, 1), []),
  (67, .istore 4, 2, (0, 0, 0), []),
  (69, .iload 4, 2, (0, 0, 0), []),
  (71, .iload_n 1, 1, (0, 0, 0), []),
  (72, .if_icmp .le 8, 3, (80, 0, 0), []),
  (75, .iload 4, 2, (0, 0, 0), []),
  (77, .istore_n 1, 1, (0, 0, 0), []),
  (78, .iload_n 3, 1, (0, 0, 0), []),
  (79, .istore_n 2, 1, (0, 0, 0), []),
  (80, .aload_n 0, 1, (0, 0, 0), []),
  (81, .getfield 51, 3, (9, 3, 2), []),
  (84, .getfield 137, 3, (2, 0, 2), []),
  (87, .iload_n 3, 1, (0, 0, 0), []),
  (88, .aaload, 1, (0, 0, 0), []),
  (89, .aload_n 0, 1, (0, 0, 0), []),
  (90, .getfield 44, 3, (9, 0, 2), []),
  (93, .getfield 137, 3, (2, 0, 2), []),
  (96, .iload_n 3, 1, (0, 0, 0), []),
  (97, .aaload, 1, (0, 0, 0), []),
  (98, .getfield 158, 3, (5, 2, 3), []),
  (101, .putfield 158, 3, (5, 2, 3), []),
  (104, .iinc 3 1, 3, (0, 0, 0), []),
  (107, .goto (-77), 3, (30, 0, 0), []),
  (110, .iload_n 2, 1, (0, 0, 0), []),
  (111, .ireturn, 1, (0, 0, 0), [])]
abbrev am_m226 : am_Mt := (⟨"BookedEmpty", "mend", "()I"⟩, prog_1_method_24_code, 5, (some .int), am_P226, 9, 9)
/-- BookedEmpty.holds(I)I -/
def am_P227 : List am_E := [(0, .iload_n 1, 1, (0, 0, 0), []),
  (1, .iconst 1, 1, (0, 0, 0), []),
  (2, .bipush 20, 2, (0, 0, 0), []),
  (4, .invokestatic 61, 3, (250, 3, 11), []),
  (7, .ifCond .ne 6, 3, (13, 0, 0), []),
  (10, .bipush (-2), 2, (0, 0, 0), []),
  (12, .ireturn, 1, (0, 0, 0), []),
  (13, .aload_n 0, 1, (0, 0, 0), []),
  (14, .getfield 51, 3, (9, 3, 2), []),
  (17, .aload_n 0, 1, (0, 0, 0), []),
  (18, .getfield 44, 3, (9, 0, 2), []),
  (21, .invokevirtual 239, 3, (137, 1, 0), []),
  (24, .iconst 0, 1, (0, 0, 0), []),
  (25, .istore_n 2, 1, (0, 0, 0), []),
  (26, .iconst 0, 1, (0, 0, 0), []),
  (27, .istore_n 3, 1, (0, 0, 0), []),
  (28, .iconst 0, 1, (0, 0, 0), []),
  (29, .istore 4, 2, (0, 0, 0), []),
  (31, .iload 4, 2, (0, 0, 0), []),
  (33, .bipush 12, 2, (0, 0, 0), []),
  (35, .if_icmp .gt 45, 3, (80, 0, 0), []),
  (38, .aload_n 0, 1, (0, 0, 0), []),
  (39, .getfield 51, 3, (9, 3, 2), []),
  (42, .iload 4, 2, (0, 0, 0), []),
  (44, .putfield 200, 3, (2, 6, 0), []),
  (47, .aload_n 0, 1, (0, 0, 0), []),
  (48, .getfield 51, 3, (9, 3, 2), []),
  (51, .iload_n 1, 1, (0, 0, 0), []),
  (52, .invokevirtual 210, 3, (153, 1, 1), []),
  (55, .istore 5, 2, (0, 0, 0), []),
  (57, .iload 4, 2, (0, 0, 0), []),
  (59, .ifCond .eq 9, 3, (68, 0, 0), []),
  (62, .iload 5, 2, (0, 0, 0), []),
  (64, .iload_n 3, 1, (0, 0, 0), []),
  (65, .if_icmp .gt 9, 3, (74, 0, 0), []),
  (68, .iload 5, 2, (0, 0, 0), []),
  (70, .istore_n 3, 1, (0, 0, 0), []),
  (71, .iload 4, 2, (0, 0, 0), []),
  (73, .istore_n 2, 1, (0, 0, 0), []),
  (74, .iinc 4 1, 3, (0, 0, 0), []),
  (77, .goto (-46), 3, (31, 0, 0), []),
  (80, .iload_n 2, 1, (0, 0, 0), []),
  (81, .ireturn, 1, (0, 0, 0), [])]
abbrev am_m227 : am_Mt := (⟨"BookedEmpty", "holds", "(I)I"⟩, prog_1_method_25_code, 6, (some .int), am_P227, 9, 9)
/-- BookedEmpty.sudden(III)I -/
def am_P228 : List am_E := [(0, .iload_n 1, 1, (0, 0, 0), []),
  (1, .iconst 1, 1, (0, 0, 0), []),
  (2, .bipush 20, 2, (0, 0, 0), []),
  (4, .invokestatic 61, 3, (250, 3, 11), []),
  (7, .ifCond .eq 20, 3, (27, 0, 0), []),
  (10, .iload_n 2, 1, (0, 0, 0), []),
  (11, .invokestatic 177, 3, (251, 1, 11), []),
  (14, .ifCond .eq 13, 3, (27, 0, 0), []),
  (17, .iload_n 3, 1, (0, 0, 0), []),
  (18, .iconst 1, 1, (0, 0, 0), []),
  (19, .bipush 12, 2, (0, 0, 0), []),
  (21, .invokestatic 61, 3, (250, 3, 11), []),
  (24, .ifCond .ne 6, 3, (30, 0, 0), []),
  (27, .bipush (-2), 2, (0, 0, 0), []),
  (29, .ireturn, 1, (0, 0, 0), []),
  (30, .aload_n 0, 1, (0, 0, 0), []),
  (31, .getfield 44, 3, (9, 0, 2), []),
  (34, .iload_n 2, 1, (0, 0, 0), []),
  (35, .iload_n 2, 1, (0, 0, 0), []),
  (36, .iload_n 3, 1, (0, 0, 0), []),
  (37, .iadd, 1, (0, 0, 0), []),
  (38, .invokevirtual 243, 3, (142, 2, 2), []),
  (41, .lstore 4, 2, (0, 0, 0), []),
  (43, .bipush (-5), 2, (0, 0, 0), []),
  (45, .istore 6, 2, (0, 0, 0), []),
  (47, .iconst 0, 1, (0, 0, 0), []),
  (48, .istore 7, 2, (0, 0, 0), []),
  (50, .iconst 0, 1, (0, 0, 0), []),
  (51, .istore 8, 2, (0, 0, 0), []),
  (53, .iload 8, 2, (0, 0, 0), []),
  (55, .aload_n 0, 1, (0, 0, 0), []),
  (56, .getfield 44, 3, (9, 0, 2), []),
  (59, .getfield 65, 3, (2, 2, 0), []),
  (62, .if_icmp .ge 141, 3, (203, 0, 0), []),
  (65, .aload_n 0, 1, (0, 0, 0), []),
  (66, .getfield 44, 3, (9, 0, 2), []),
  (69, .getfield 137, 3, (2, 0, 2), []),
  (72, .iload 8, 2, (0, 0, 0), []),
  (74, .aaload, 1, (0, 0, 0), []),
  (75, .astore 9, 2, (0, 0, 0), []),
  (77, .aload 9, 2, (0, 0, 0), []),
  (79, .getfield 158, 3, (5, 2, 3), []),
  (82, .ifCond .ne 115, 3, (197, 0, 0), []),
  (85, .aload 9, 2, (0, 0, 0), []),
  (87, .getfield 155, 3, (5, 1, 0), []),
  (90, .iload_n 1, 1, (0, 0, 0), []),
  (91, .if_icmp .lt 106, 3, (197, 0, 0), []),
  (94, .aload_n 0, 1, (0, 0, 0), []),
  (95, .getfield 44, 3, (9, 0, 2), []),
  (98, .iload 8, 2, (0, 0, 0), []),
  (100, .aload_n 0, 1, (0, 0, 0), []),
  (101, .getfield 44, 3, (9, 0, 2), []),
  (104, .getfield 108, 3, (2, 4, 0), []),
  (107, .invokevirtual 247, 3, (148, 2, 2), []),
  (110, .lload 4, 2, (0, 0, 0), []),
  (112, .land, 1, (0, 0, 0), []),
  (113, .lconst 0, 1, (0, 0, 0), []),
  (114, .lcmp, 1, (0, 0, 0), []),
  (115, .ifCond .eq 6, 3, (121, 0, 0), []),
  (118, .goto 79, 3, (197, 0, 0), []),
  (121, .aload_n 0, 1, (0, 0, 0), []),
  (122, .getfield 44, 3, (9, 0, 2), []),
  (125, .iload 8, 2, (0, 0, 0), []),
  (127, .aload_n 0, 1, (0, 0, 0), []),
  (128, .getfield 44, 3, (9, 0, 2), []),
  (131, .getfield 108, 3, (2, 4, 0), []),
  (134, .invokevirtual 250, 3, (147, 2, 2), []),
  (137, .lload 4, 2, (0, 0, 0), []),
  (139, .land, 1, (0, 0, 0), []),
  (140, .lconst 0, 1, (0, 0, 0), []),
  (141, .lcmp, 1, (0, 0, 0), []),
  (142, .ifCond .ne 7, 3, (149, 0, 0), []),
  (145, .iconst 1, 1, (0, 0, 0), []),
  (146, .goto 4, 3, (150, 0, 0), []),
  (149, .iconst 0, 1, (0, 0, 0), []),
  (150, .istore 10, 2, (0, 0, 0), []),
  (152, .iload 10, 2, (0, 0, 0), []),
  (154, .ifCond .eq 11, 3, (165, 0, 0), []),
  (157, .aload 9, 2, (0, 0, 0), []),
  (159, .getfield 155, 3, (5, 1, 0), []),
  (162, .goto 11, 3, (173, 0, 0), []),
  (165, .aload 9, 2, (0, 0, 0), []),
  (167, .getfield 155, 3, (5, 1, 0), []),
  (170, .bipush 20, 2, (0, 0, 0), []),
  (172, .iadd, 1, (0, 0, 0), []),
  (173, .istore 11, 2, (0, 0, 0), []),
  (175, .iload 6, 2, (0, 0, 0), []),
  (177, .bipush (-5), 2, (0, 0, 0), []),
  (179, .if_icmp .eq 10, 3, (189, 0, 0), []),
  (182, .iload 11, 2, (0, 0, 0), []),
  (184, .iload 7, 2, (0, 0, 0), []),
  (186, .if_icmp .ge 11, 3, (197, 0, 0), []),
  (189, .iload 11, 2, (0, 0, 0), []),
  (191, .istore 7, 2, (0, 0, 0), []),
  (193, .iload 8, 2, (0, 0, 0), []),
  (195, .istore 6, 2, (0, 0, 0), []),
  (197, .iinc 8 1, 3, (0, 0, 0), []),
  (200, .goto (-147), 3, (53, 0, 0), []),
  (203, .iload 6, 2, (0, 0, 0), []),
  (205, .ireturn, 1, (0, 0, 0), [])]
abbrev am_m228 : am_Mt := (⟨"BookedEmpty", "sudden", "(III)I"⟩, prog_1_method_26_code, 12, (some .int), am_P228, 9, 9)
/-- BookedEmpty.see(IIZI)I -/
def am_P229 : List am_E := [(0, .iload_n 1, 1, (0, 0, 0), []),
  (1, .iconst (-1), 1, (0, 0, 0), []),
  (2, .if_icmp .ne 14, 3, (16, 0, 0), []),
  (5, .aload_n 0, 1, (0, 0, 0), []),
  (6, .getfield 44, 3, (9, 0, 2), []),
  (9, .getfield 253, 3, (2, 7, 2), []),
  (12, .invokevirtual 257, 3, (185, 0, 1), []),
  (15, .ireturn, 1, (0, 0, 0), []),
  (16, .aload_n 0, 1, (0, 0, 0), []),
  (17, .getfield 44, 3, (9, 0, 2), []),
  (20, .iload_n 1, 1, (0, 0, 0), []),
  (21, .invokevirtual 130, 3, (138, 1, 1), []),
  (24, .ifCond .eq 10, 3, (34, 0, 0), []),
  (27, .iload_n 2, 1, (0, 0, 0), []),
  (28, .invokestatic 177, 3, (251, 1, 11), []),
  (31, .ifCond .ne 5, 3, (36, 0, 0), []),
  (34, .iconst (-1), 1, (0, 0, 0), []),
  (35, .ireturn, 1, (0, 0, 0), []),
  (36, .iload 4, 2, (0, 0, 0), []),
  (38, .iconst 0, 1, (0, 0, 0), []),
  (39, .bipush 20, 2, (0, 0, 0), []),
  (41, .invokestatic 61, 3, (250, 3, 11), []),
  (44, .ifCond .eq 24, 3, (68, 0, 0), []),
  (47, .aload_n 0, 1, (0, 0, 0), []),
  (48, .getfield 44, 3, (9, 0, 2), []),
  (51, .getfield 253, 3, (2, 7, 2), []),
  (54, .iload_n 1, 1, (0, 0, 0), []),
  (55, .iload_n 2, 1, (0, 0, 0), []),
  (56, .iload_n 3, 1, (0, 0, 0), []),
  (57, .invokestatic 151, 3, (252, 1, 11), []),
  (60, .iload 4, 2, (0, 0, 0), []),
  (62, .invokevirtual 262, 3, (186, 4, 1), []),
  (65, .goto 5, 3, (70, 0, 0), []),
  (68, .bipush (-2), 2, (0, 0, 0), []),
  (70, .ireturn, 1, (0, 0, 0), [])]
abbrev am_m229 : am_Mt := (⟨"BookedEmpty", "see", "(IIZI)I"⟩, prog_1_method_27_code, 5, (some .int), am_P229, 9, 9)
/-- BookedEmpty.can(II)I -/
def am_P230 : List am_E := [(0, .aload_n 0, 1, (0, 0, 0), []),
  (1, .getfield 44, 3, (9, 0, 2), []),
  (4, .iload_n 1, 1, (0, 0, 0), []),
  (5, .invokevirtual 86, 3, (139, 1, 1), []),
  (8, .ifCond .eq 12, 3, (20, 0, 0), []),
  (11, .iload_n 2, 1, (0, 0, 0), []),
  (12, .iconst 0, 1, (0, 0, 0), []),
  (13, .iconst 1, 1, (0, 0, 0), []),
  (14, .invokestatic 61, 3, (250, 3, 11), []),
  (17, .ifCond .ne 5, 3, (22, 0, 0), []),
  (20, .iconst (-1), 1, (0, 0, 0), []),
  (21, .ireturn, 1, (0, 0, 0), []),
  (22, .aload_n 0, 1, (0, 0, 0), []),
  (23, .getfield 51, 3, (9, 3, 2), []),
  (26, .aload_n 0, 1, (0, 0, 0), []),
  (27, .getfield 44, 3, (9, 0, 2), []),
  (30, .invokevirtual 239, 3, (137, 1, 0), []),
  (33, .iconst 0, 1, (0, 0, 0), []),
  (34, .istore_n 3, 1, (0, 0, 0), []),
  (35, .bipush (-5), 2, (0, 0, 0), []),
  (37, .istore 4, 2, (0, 0, 0), []),
  (39, .bipush 9, 2, (0, 0, 0), []),
  (41, .istore 5, 2, (0, 0, 0), []),
  (43, .iload 5, 2, (0, 0, 0), []),
  (45, .ifCond .lt 40, 3, (85, 0, 0), []),
  (48, .aload_n 0, 1, (0, 0, 0), []),
  (49, .getfield 51, 3, (9, 3, 2), []),
  (52, .getfield 76, 3, (2, 1, 2), []),
  (55, .iload_n 1, 1, (0, 0, 0), []),
  (56, .aaload, 1, (0, 0, 0), []),
  (57, .iload 5, 2, (0, 0, 0), []),
  (59, .putfield 93, 3, (1, 2, 0), []),
  (62, .aload_n 0, 1, (0, 0, 0), []),
  (63, .getfield 51, 3, (9, 3, 2), []),
  (66, .invokevirtual 266, 3, (156, 0, 1), []),
  (69, .ifCond .eq 10, 3, (79, 0, 0), []),
  (72, .iinc 3 1, 3, (0, 0, 0), []),
  (75, .iload 5, 2, (0, 0, 0), []),
  (77, .istore 4, 2, (0, 0, 0), []),
  (79, .iinc 5 (-1), 3, (0, 0, 0), []),
  (82, .goto (-39), 3, (43, 0, 0), []),
  (85, .iload_n 2, 1, (0, 0, 0), []),
  (86, .ifCond .ne 7, 3, (93, 0, 0), []),
  (89, .iload_n 3, 1, (0, 0, 0), []),
  (90, .goto 5, 3, (95, 0, 0), []),
  (93, .iload 4, 2, (0, 0, 0), []),
  (95, .ireturn, 1, (0, 0, 0), [])]
abbrev am_m230 : am_Mt := (⟨"BookedEmpty", "can", "(II)I"⟩, prog_1_method_28_code, 6, (some .int), am_P230, 9, 9)
/-- BookedEmpty.where(I)I -/
def am_P231 : List am_E := [(0, .aload_n 0, 1, (0, 0, 0), []),
  (1, .getfield 44, 3, (9, 0, 2), []),
  (4, .iload_n 1, 1, (0, 0, 0), []),
  (5, .invokevirtual 86, 3, (139, 1, 1), []),
  (8, .ifCond .ne 5, 3, (13, 0, 0), []),
  (11, .iconst (-1), 1, (0, 0, 0), []),
  (12, .ireturn, 1, (0, 0, 0), []),
  (13, .aload_n 0, 1, (0, 0, 0), []),
  (14, .getfield 51, 3, (9, 3, 2), []),
  (17, .aload_n 0, 1, (0, 0, 0), []),
  (18, .getfield 44, 3, (9, 0, 2), []),
  (21, .invokevirtual 239, 3, (137, 1, 0), []),
  (24, .aload_n 0, 1, (0, 0, 0), []),
  (25, .getfield 51, 3, (9, 3, 2), []),
  (28, .getfield 76, 3, (2, 1, 2), []),
  (31, .iload_n 1, 1, (0, 0, 0), []),
  (32, .aaload, 1, (0, 0, 0), []),
  (33, .bipush (-5), 2, (0, 0, 0), []),
  (35, .putfield 105, 3, (1, 6, 0), []),
  (38, .aload_n 0, 1, (0, 0, 0), []),
  (39, .getfield 51, 3, (9, 3, 2), []),
  (42, .invokevirtual 266, 3, (156, 0, 1), []),
  (45, .ifCond .eq 8, 3, (53, 0, 0), []),
  (48, .bipush 16, 2, (0, 0, 0), []),
  (50, .goto 4, 3, (54, 0, 0), []),
  (53, .iconst 0, 1, (0, 0, 0), []),
  (54, .istore_n 2, 1, (0, 0, 0), []),
  (55, .iconst 0, 1, (0, 0, 0), []),
  (56, .istore_n 3, 1, (0, 0, 0), []),
  (57, .iload_n 3, 1, (0, 0, 0), []),
  (58, .aload_n 0, 1, (0, 0, 0), []),
  (59, .getfield 44, 3, (9, 0, 2), []),
  (62, .getfield 65, 3, (2, 2, 0), []),
  (65, .if_icmp .ge 38, 3, (103, 0, 0), []),
  (68, .aload_n 0, 1, (0, 0, 0), []),
  (69, .getfield 51, 3, (9, 3, 2), []),
  (72, .getfield 76, 3, (2, 1, 2), []),
  (75, .iload_n 1, 1, (0, 0, 0), []),
  (76, .aaload, 1, (0, 0, 0), []),
  (77, .iload_n 3, 1, (0, 0, 0), []),
  (78, .putfield 105, 3, (1, 6, 0), []),
  (81, .aload_n 0, 1, (0, 0, 0), []),
  (82, .getfield 51, 3, (9, 3, 2), []),
  (85, .invokevirtual 266, 3, (156, 0, 1), []),
  (88, .ifCond .eq 9, 3, (97, 0, 0), []),
  (91, .iload_n 2, 1, (0, 0, 0), []),
  (92, .iconst 1, 1, (0, 0, 0), []),
  (93, .iload_n 3, 1, (0, 0, 0), []),
  (94, .ishl, 1, (0, 0, 0), []),
  (95, .ior, 1, (0, 0, 0), []),
  (96, .istore_n 2, 1, (0, 0, 0), []),
  (97, .iinc 3 1, 3, (0, 0, 0), []),
  (100, .goto (-43), 3, (57, 0, 0), []),
  (103, .iload_n 2, 1, (0, 0, 0), []),
  (104, .ireturn, 1, (0, 0, 0), [])]
abbrev am_m231 : am_Mt := (⟨"BookedEmpty", "where", "(I)I"⟩, prog_1_method_29_code, 4, (some .int), am_P231, 9, 9)
/-- BookedEmpty.odds(II)J -/
def am_P232 : List am_E := [(0, .aload_n 0, 1, (0, 0, 0), []),
  (1, .getfield 44, 3, (9, 0, 2), []),
  (4, .iload_n 1, 1, (0, 0, 0), []),
  (5, .invokevirtual 130, 3, (138, 1, 1), []),
  (8, .ifCond .eq 12, 3, (20, 0, 0), []),
  (11, .iload_n 2, 1, (0, 0, 0), []),
  (12, .iconst 0, 1, (0, 0, 0), []),
  (13, .iconst 1, 1, (0, 0, 0), []),
  (14, .invokestatic 61, 3, (250, 3, 11), []),
  (17, .ifCond .ne 7, 3, (24, 0, 0), []),
  (20, .ldc2_w 270, 3, (9223372036854775808, 0, 0), []),
  (23, .lreturn, 1, (0, 0, 0), []),
  (24, .aload_n 0, 1, (0, 0, 0), []),
  (25, .getfield 44, 3, (9, 0, 2), []),
  (28, .iload_n 1, 1, (0, 0, 0), []),
  (29, .aload_n 0, 1, (0, 0, 0), []),
  (30, .getfield 44, 3, (9, 0, 2), []),
  (33, .getfield 108, 3, (2, 4, 0), []),
  (36, .invokevirtual 162, 3, (149, 2, 1), []),
  (39, .aload_n 0, 1, (0, 0, 0), []),
  (40, .getfield 44, 3, (9, 0, 2), []),
  (43, .getfield 133, 3, (2, 5, 2), []),
  (46, .getfield 203, 3, (3, 1, 0), []),
  (49, .iload_n 2, 1, (0, 0, 0), []),
  (50, .invokestatic 272, 3, (254, 3, 12), []),
  (53, .lreturn, 1, (0, 0, 0), [])]
abbrev am_m232 : am_Mt := (⟨"BookedEmpty", "odds", "(II)J"⟩, prog_1_method_30_code, 3, (some .long), am_P232, 9, 9)
/-- BookedEmpty.mean(II)J -/
def am_P233 : List am_E := [(0, .iload_n 1, 1, (0, 0, 0), []),
  (1, .iconst 1, 1, (0, 0, 0), []),
  (2, .bipush 20, 2, (0, 0, 0), []),
  (4, .invokestatic 61, 3, (250, 3, 11), []),
  (7, .ifCond .eq 12, 3, (19, 0, 0), []),
  (10, .iload_n 2, 1, (0, 0, 0), []),
  (11, .iconst 0, 1, (0, 0, 0), []),
  (12, .iconst 1, 1, (0, 0, 0), []),
  (13, .invokestatic 61, 3, (250, 3, 11), []),
  (16, .ifCond .ne 7, 3, (23, 0, 0), []),
  (19, .ldc2_w 270, 3, (9223372036854775808, 0, 0), []),
  (22, .lreturn, 1, (0, 0, 0), []),
  (23, .aload_n 0, 1, (0, 0, 0), []),
  (24, .getfield 44, 3, (9, 0, 2), []),
  (27, .iload_n 1, 1, (0, 0, 0), []),
  (28, .invokevirtual 210, 3, (153, 1, 1), []),
  (31, .iload_n 1, 1, (0, 0, 0), []),
  (32, .iload_n 2, 1, (0, 0, 0), []),
  (33, .invokestatic 272, 3, (254, 3, 12), []),
  (36, .lreturn, 1, (0, 0, 0), [])]
abbrev am_m233 : am_Mt := (⟨"BookedEmpty", "mean", "(II)J"⟩, prog_1_method_31_code, 3, (some .long), am_P233, 9, 9)
/-- BookedEmpty.plan(II)I -/
def am_P234 : List am_E := [(0, .iload_n 1, 1, (0, 0, 0), []),
  (1, .iconst (-1), 1, (0, 0, 0), []),
  (2, .if_icmp .ne 14, 3, (16, 0, 0), []),
  (5, .aload_n 0, 1, (0, 0, 0), []),
  (6, .getfield 44, 3, (9, 0, 2), []),
  (9, .getfield 276, 3, (2, 8, 2), []),
  (12, .invokevirtual 257, 3, (185, 0, 1), []),
  (15, .ireturn, 1, (0, 0, 0), []),
  (16, .iload_n 1, 1, (0, 0, 0), []),
  (17, .iconst 0, 1, (0, 0, 0), []),
  (18, .iconst 2, 1, (0, 0, 0), []),
  (19, .invokestatic 61, 3, (250, 3, 11), []),
  (22, .ifCond .eq 35, 3, (57, 0, 0), []),
  (25, .iload_n 1, 1, (0, 0, 0), []),
  (26, .iconst 1, 1, (0, 0, 0), []),
  (27, .if_icmp .ne 14, 3, (41, 0, 0), []),
  (30, .aload_n 0, 1, (0, 0, 0), []),
  (31, .getfield 44, 3, (9, 0, 2), []),
  (34, .iload_n 2, 1, (0, 0, 0), []),
  (35, .invokevirtual 86, 3, (139, 1, 1), []),
  (38, .ifCond .eq 19, 3, (57, 0, 0), []),
  (41, .iload_n 1, 1, (0, 0, 0), []),
  (42, .iconst 2, 1, (0, 0, 0), []),
  (43, .if_icmp .ne 16, 3, (59, 0, 0), []),
  (46, .aload_n 0, 1, (0, 0, 0), []),
  (47, .getfield 44, 3, (9, 0, 2), []),
  (50, .iload_n 2, 1, (0, 0, 0), []),
  (51, .invokevirtual 130, 3, (138, 1, 1), []),
  (54, .ifCond .ne 5, 3, (59, 0, 0), []),
  (57, .iconst (-1), 1, (0, 0, 0), []),
  (58, .ireturn, 1, (0, 0, 0), []),
  (59, .aload_n 0, 1, (0, 0, 0), []),
  (60, .getfield 44, 3, (9, 0, 2), []),
  (63, .getfield 276, 3, (2, 8, 2), []),
  (66, .iload_n 1, 1, (0, 0, 0), []),
  (67, .iload_n 2, 1, (0, 0, 0), []),
  (68, .iconst 0, 1, (0, 0, 0), []),
  (69, .iconst 0, 1, (0, 0, 0), []),
  (70, .invokevirtual 262, 3, (186, 4, 1), []),
  (73, .ireturn, 1, (0, 0, 0), [])]
abbrev am_m234 : am_Mt := (⟨"BookedEmpty", "plan", "(II)I"⟩, prog_1_method_32_code, 3, (some .int), am_P234, 9, 9)
/-- BookedEmpty.ends(I)I -/
def am_P235 : List am_E := [(0, .iload_n 1, 1, (0, 0, 0), []),
  (1, .iconst 0, 1, (0, 0, 0), []),
  (2, .iconst 1, 1, (0, 0, 0), []),
  (3, .invokestatic 61, 3, (250, 3, 11), []),
  (6, .ifCond .ne 5, 3, (11, 0, 0), []),
  (9, .iconst (-1), 1, (0, 0, 0), []),
  (10, .ireturn, 1, (0, 0, 0), []),
  (11, .aload_n 0, 1, (0, 0, 0), []),
  (12, .getfield 51, 3, (9, 3, 2), []),
  (15, .aload_n 0, 1, (0, 0, 0), []),
  (16, .getfield 44, 3, (9, 0, 2), []),
  (19, .invokevirtual 239, 3, (137, 1, 0), []),
  (22, .aload_n 0, 1, (0, 0, 0), []),
  (23, .getfield 51, 3, (9, 3, 2), []),
  (26, .invokevirtual 279, 3, (157, 0, 0), []),
  (29, .iload_n 1, 1, (0, 0, 0), []),
  (30, .ifCond .ne 20, 3, (50, 0, 0), []),
  (33, .aload_n 0, 1, (0, 0, 0), []),
  (34, .getfield 51, 3, (9, 3, 2), []),
  (37, .aload_n 0, 1, (0, 0, 0), []),
  (38, .getfield 51, 3, (9, 3, 2), []),
  (41, .getfield 108, 3, (2, 4, 0), []),
  (44, .invokevirtual 282, 3, (151, 1, 1), []),
  (47, .goto 17, 3, (64, 0, 0), []),
  (50, .aload_n 0, 1, (0, 0, 0), []),
  (51, .getfield 51, 3, (9, 3, 2), []),
  (54, .aload_n 0, 1, (0, 0, 0), []),
  (55, .getfield 51, 3, (9, 3, 2), []),
  (58, .getfield 108, 3, (2, 4, 0), []),
  (61, .invokevirtual 285, 3, (152, 1, 1), []),
  (64, .ireturn, 1, (0, 0, 0), [])]
abbrev am_m235 : am_Mt := (⟨"BookedEmpty", "ends", "(I)I"⟩, prog_1_method_33_code, 2, (some .int), am_P235, 9, 9)
/-- BookedEmpty.book(II)I -/
def am_P236 : List am_E := [(0, .iload_n 1, 1, (0, 0, 0), []),
  (1, .iconst (-1), 1, (0, 0, 0), []),
  (2, .if_icmp .ne 14, 3, (16, 0, 0), []),
  (5, .aload_n 0, 1, (0, 0, 0), []),
  (6, .getfield 44, 3, (9, 0, 2), []),
  (9, .getfield 288, 3, (2, 9, 2), []),
  (12, .invokevirtual 257, 3, (185, 0, 1), []),
  (15, .ireturn, 1, (0, 0, 0), []),
  (16, .aload_n 0, 1, (0, 0, 0), []),
  (17, .getfield 44, 3, (9, 0, 2), []),
  (20, .iload_n 1, 1, (0, 0, 0), []),
  (21, .invokevirtual 86, 3, (139, 1, 1), []),
  (24, .ifCond .eq 19, 3, (43, 0, 0), []),
  (27, .iload_n 2, 1, (0, 0, 0), []),
  (28, .iconst 4, 1, (0, 0, 0), []),
  (29, .if_icmp .eq 16, 3, (45, 0, 0), []),
  (32, .aload_n 0, 1, (0, 0, 0), []),
  (33, .getfield 44, 3, (9, 0, 2), []),
  (36, .iload_n 2, 1, (0, 0, 0), []),
  (37, .invokevirtual 130, 3, (138, 1, 1), []),
  (40, .ifCond .ne 5, 3, (45, 0, 0), []),
  (43, .iconst (-1), 1, (0, 0, 0), []),
  (44, .ireturn, 1, (0, 0, 0), []),
  (45, .aload_n 0, 1, (0, 0, 0), []),
  (46, .getfield 44, 3, (9, 0, 2), []),
  (49, .getfield 288, 3, (2, 9, 2), []),
  (52, .iload_n 1, 1, (0, 0, 0), []),
  (53, .iload_n 2, 1, (0, 0, 0), []),
  (54, .iconst 0, 1, (0, 0, 0), []),
  (55, .iconst 0, 1, (0, 0, 0), []),
  (56, .invokevirtual 262, 3, (186, 4, 1), []),
  (59, .ireturn, 1, (0, 0, 0), [])]
abbrev am_m236 : am_Mt := (⟨"BookedEmpty", "book", "(II)I"⟩, prog_1_method_34_code, 3, (some .int), am_P236, 9, 9)
/-- BookedEmpty.looked()I -/
def am_P237 : List am_E := [(0, .iconst 0, 1, (0, 0, 0), []),
  (1, .istore_n 1, 1, (0, 0, 0), []),
  (2, .iload_n 1, 1, (0, 0, 0), []),
  (3, .aload_n 0, 1, (0, 0, 0), []),
  (4, .getfield 44, 3, (9, 0, 2), []),
  (7, .getfield 288, 3, (2, 9, 2), []),
  (10, .getfield 291, 3, (6, 1, 0), []),
  (13, .if_icmp .ge 57, 3, (70, 0, 0), []),
  (16, .aload_n 0, 1, (0, 0, 0), []),
  (17, .getfield 44, 3, (9, 0, 2), []),
  (20, .getfield 288, 3, (2, 9, 2), []),
  (23, .getfield 294, 3, (6, 0, 2), []),
  (26, .iload_n 1, 1, (0, 0, 0), []),
  (27, .aaload, 1, (0, 0, 0), []),
  (28, .astore_n 2, 1, (0, 0, 0), []),
  (29, .aload_n 0, 1, (0, 0, 0), []),
  (30, .getfield 44, 3, (9, 0, 2), []),
  (33, .aload_n 2, 1, (0, 0, 0), []),
  (34, .iconst 0, 1, (0, 0, 0), []),
  (35, .iaload, 1, (0, 0, 0), []),
  (36, .invokevirtual 86, 3, (139, 1, 1), []),
  (39, .ifCond .eq 25, 3, (64, 0, 0), []),
  (42, .aload_n 0, 1, (0, 0, 0), []),
  (43, .getfield 44, 3, (9, 0, 2), []),
  (46, .getfield 76, 3, (2, 1, 2), []),
  (49, .aload_n 2, 1, (0, 0, 0), []),
  (50, .iconst 0, 1, (0, 0, 0), []),
  (51, .iaload, 1, (0, 0, 0), []),
  (52, .aaload, 1, (0, 0, 0), []),
  (53, .invokevirtual 298, 3, (135, 0, 1), []),
  (56, .aload_n 2, 1, (0, 0, 0), []),
  (57, .iconst 1, 1, (0, 0, 0), []),
  (58, .iaload, 1, (0, 0, 0), []),
  (59, .if_icmp .eq 5, 3, (64, 0, 0), []),
  (62, .iload_n 1, 1, (0, 0, 0), []),
  (63, .ireturn, 1, (0, 0, 0), []),
  (64, .iinc 1 1, 3, (0, 0, 0), []),
  (67, .goto (-65), 3, (2, 0, 0), []),
  (70, .bipush (-5), 2, (0, 0, 0), []),
  (72, .ireturn, 1, (0, 0, 0), [])]
abbrev am_m237 : am_Mt := (⟨"BookedEmpty", "looked", "()I"⟩, prog_1_method_35_code, 3, (some .int), am_P237, 9, 9)
/-- BookedEmpty.judge(II)I -/
def am_P238 : List am_E := [(0, .aload_n 0, 1, (0, 0, 0), []),
  (1, .getfield 34, 3, (9, 9, 2), []),
  (4, .iload_n 1, 1, (0, 0, 0), []),
  (5, .invokevirtual 301, 3, (189, 1, 1), []),
  (8, .ifCond .ne 5, 3, (13, 0, 0), []),
  (11, .iconst (-1), 1, (0, 0, 0), []),
  (12, .ireturn, 1, (0, 0, 0), []),
  (13, .aload_n 0, 1, (0, 0, 0), []),
  (14, .getfield 34, 3, (9, 9, 2), []),
  (17, .iload_n 1, 1, (0, 0, 0), []),
  (18, .invokevirtual 304, 3, (190, 1, 1), []),
  (21, .ifCond .ne 17, 3, (38, 0, 0), []),
  (24, .aload_n 0, 1, (0, 0, 0), []),
  (25, .getfield 34, 3, (9, 9, 2), []),
  (28, .iload_n 1, 1, (0, 0, 0), []),
  (29, .invokevirtual 307, 3, (191, 1, 1), []),
  (32, .ifCond .ne 6, 3, (38, 0, 0), []),
  (35, .bipush (-12), 2, (0, 0, 0), []),
  (37, .ireturn, 1, (0, 0, 0), []),
  (38, .iconst 0, 1, (0, 0, 0), []),
  (39, .istore_n 3, 1, (0, 0, 0), []),
  (40, .iload_n 3, 1, (0, 0, 0), []),
  (41, .aload_n 0, 1, (0, 0, 0), []),
  (42, .getfield 44, 3, (9, 0, 2), []),
  (45, .getfield 73, 3, (2, 3, 0), []),
  (48, .if_icmp .ge 73, 3, (121, 0, 0), []),
  (51, .iload_n 2, 1, (0, 0, 0), []),
  (52, .i2l, 1, (0, 0, 0), []),
  (53, .iload_n 3, 1, (0, 0, 0), []),
  (54, .i2l, 1, (0, 0, 0), []),
  (55, .ladd, 1, (0, 0, 0), []),
  (56, .lstore 4, 2, (0, 0, 0), []),
  (58, .iload_n 2, 1, (0, 0, 0), []),
  (59, .ifCond .lt 19, 3, (78, 0, 0), []),
  (62, .lload 4, 2, (0, 0, 0), []),
  (64, .aload_n 0, 1, (0, 0, 0), []),
  (65, .getfield 34, 3, (9, 9, 2), []),
  (68, .getfield 310, 3, (7, 2, 2), []),
  (71, .iload_n 1, 1, (0, 0, 0), []),
  (72, .iaload, 1, (0, 0, 0), []),
  (73, .i2l, 1, (0, 0, 0), []),
  (74, .lcmp, 1, (0, 0, 0), []),
  (75, .ifCond .lt 8, 3, (83, 0, 0), []),
  (78, .bipush 100, 2, (0, 0, 0), []),
  (80, .iload_n 3, 1, (0, 0, 0), []),
  (81, .iadd, 1, (0, 0, 0), []),
  (82, .ireturn, 1, (0, 0, 0), []),
  (83, .aload_n 0, 1, (0, 0, 0), []),
  (84, .getfield 34, 3, (9, 9, 2), []),
  (87, .getfield 313, 3, (7, 0, 2), []),
  (90, .iload_n 1, 1, (0, 0, 0), []),
  (91, .aaload, 1, (0, 0, 0), []),
  (92, .lload 4, 2, (0, 0, 0), []),
  (94, .l2i, 1, (0, 0, 0), []),
  (95, .laload, 1, (0, 0, 0), []),
  (96, .aload_n 0, 1, (0, 0, 0), []),
  (97, .getfield 44, 3, (9, 0, 2), []),
  (100, .getfield 76, 3, (2, 1, 2), []),
  (103, .iload_n 3, 1, (0, 0, 0), []),
  (104, .aaload, 1, (0, 0, 0), []),
  (105, .invokevirtual 298, 3, (135, 0, 1), []),
  (108, .i2l, 1, (0, 0, 0), []),
  (109, .lcmp, 1, (0, 0, 0), []),
  (110, .ifCond .eq 5, 3, (115, 0, 0), []),
  (113, .iload_n 3, 1, (0, 0, 0), []),
  (114, .ireturn, 1, (0, 0, 0), []),
  (115, .iinc 3 1, 3, (0, 0, 0), []),
  (118, .goto (-78), 3, (40, 0, 0), []),
  (121, .bipush (-5), 2, (0, 0, 0), []),
  (123, .ireturn, 1, (0, 0, 0), [])]
abbrev am_m238 : am_Mt := (⟨"BookedEmpty", "judge", "(II)I"⟩, prog_1_method_36_code, 6, (some .int), am_P238, 9, 9)
/-- BookedEmpty.image()I -/
def am_P239 : List am_E := [(0, .aload_n 0, 1, (0, 0, 0), []),
  (1, .getfield 48, 3, (9, 1, 2), []),
  (4, .aload_n 0, 1, (0, 0, 0), []),
  (5, .getfield 44, 3, (9, 0, 2), []),
  (8, .invokevirtual 239, 3, (137, 1, 0), []),
  (11, .aload_n 0, 1, (0, 0, 0), []),
  (12, .iconst 1, 1, (0, 0, 0), []),
  (13, .putfield 317, 3, (9, 2, 3), []),
  (16, .aload_n 0, 1, (0, 0, 0), []),
  (17, .getfield 44, 3, (9, 0, 2), []),
  (20, .getfield 73, 3, (2, 3, 0), []),
  (23, .ireturn, 1, (0, 0, 0), [])]
abbrev am_m239 : am_Mt := (⟨"BookedEmpty", "image", "()I"⟩, prog_1_method_37_code, 1, (some .int), am_P239, 9, 9)
/-- BookedEmpty.undo()I -/
def am_P240 : List am_E := [(0, .aload_n 0, 1, (0, 0, 0), []),
  (1, .getfield 317, 3, (9, 2, 3), []),
  (4, .ifCond .ne 6, 3, (10, 0, 0), []),
  (7, .bipush (-3), 2, (0, 0, 0), []),
  (9, .ireturn, 1, (0, 0, 0), []),
  (10, .aload_n 0, 1, (0, 0, 0), []),
  (11, .getfield 44, 3, (9, 0, 2), []),
  (14, .aload_n 0, 1, (0, 0, 0), []),
  (15, .getfield 48, 3, (9, 1, 2), []),
  (18, .invokevirtual 239, 3, (137, 1, 0), []),
  (21, .aload_n 0, 1, (0, 0, 0), []),
  (22, .getfield 44, 3, (9, 0, 2), []),
  (25, .getfield 73, 3, (2, 3, 0), []),
  (28, .ireturn, 1, (0, 0, 0), [])]
abbrev am_m240 : am_Mt := (⟨"BookedEmpty", "undo", "()I"⟩, prog_1_method_38_code, 1, (some .int), am_P240, 9, 9)
/-- BookedEmpty.act(III)I -/
def am_P241 : List am_E := [(0, .aload_n 0, 1, (0, 0, 0), []),
  (1, .getfield 27, 3, (9, 8, 2), []),
  (4, .iconst 0, 1, (0, 0, 0), []),
  (5, .putfield 320, 3, (0, 1, 0), []),
  (8, .aload_n 0, 1, (0, 0, 0), []),
  (9, .getfield 44, 3, (9, 0, 2), []),
  (12, .iload_n 1, 1, (0, 0, 0), []),
  (13, .invokevirtual 86, 3, (139, 1, 1), []),
  (16, .ifCond .eq 12, 3, (28, 0, 0), []),
  (19, .iload_n 2, 1, (0, 0, 0), []),
  (20, .iconst 0, 1, (0, 0, 0), []),
  (21, .iconst 2, 1, (0, 0, 0), []),
  (22, .invokestatic 61, 3, (250, 3, 11), []),
  (25, .ifCond .ne 5, 3, (30, 0, 0), []),
  (28, .iconst 0, 1, (0, 0, 0), []),
  (29, .ireturn, 1, (0, 0, 0), []),
  (30, .aload_n 0, 1, (0, 0, 0), []),
  (31, .getfield 44, 3, (9, 0, 2), []),
  (34, .getfield 76, 3, (2, 1, 2), []),
  (37, .iload_n 1, 1, (0, 0, 0), []),
  (38, .aaload, 1, (0, 0, 0), []),
  (39, .astore 4, 2, (0, 0, 0), []),
  (41, .aload_n 0, 1, (0, 0, 0), []),
  (42, .getfield 27, 3, (9, 8, 2), []),
  (45, .aload 4, 2, (0, 0, 0), []),
  (47, .aload 4, 2, (0, 0, 0), []),
  (49, .getfield 90, 3, (1, 1, 0), []),
  (52, .iload_n 2, 1, (0, 0, 0), []),
  (53, .iload_n 3, 1, (0, 0, 0), []),
  (54, .iconst 0, 1, (0, 0, 0), []),
  (55, .invokevirtual 323, 3, (127, 5, 51), []),
  (58, .ireturn, 1, (0, 0, 0), [])]
abbrev am_m241 : am_Mt := (⟨"BookedEmpty", "act", "(III)I"⟩, prog_1_method_39_code, 5, (some .int), am_P241, 9, 9)
/-- BookedEmpty.trace(I)I -/
def am_P242 : List am_E := [(0, .iload_n 1, 1, (0, 0, 0), []),
  (1, .ifCond .lt 38, 3, (39, 0, 0), []),
  (4, .iload_n 1, 1, (0, 0, 0), []),
  (5, .aload_n 0, 1, (0, 0, 0), []),
  (6, .getfield 27, 3, (9, 8, 2), []),
  (9, .getfield 320, 3, (0, 1, 0), []),
  (12, .if_icmp .ge 27, 3, (39, 0, 0), []),
  (15, .iload_n 1, 1, (0, 0, 0), []),
  (16, .aload_n 0, 1, (0, 0, 0), []),
  (17, .getfield 27, 3, (9, 8, 2), []),
  (20, .getfield 327, 3, (0, 0, 2), []),
  (23, .arraylength, 1, (0, 0, 0), []),
  (24, .if_icmp .ge 15, 3, (39, 0, 0), []),
  (27, .aload_n 0, 1, (0, 0, 0), []),
  (28, .getfield 27, 3, (9, 8, 2), []),
  (31, .getfield 327, 3, (0, 0, 2), []),
  (34, .iload_n 1, 1, (0, 0, 0), []),
  (35, .iaload, 1, (0, 0, 0), []),
  (36, .goto 4, 3, (40, 0, 0), []),
  (39, .iconst (-1), 1, (0, 0, 0), []),
  (40, .ireturn, 1, (0, 0, 0), [])]
abbrev am_m242 : am_Mt := (⟨"BookedEmpty", "trace", "(I)I"⟩, prog_1_method_40_code, 2, (some .int), am_P242, 9, 9)
/-- BookedEmpty.taken(II)I -/
def am_P243 : List am_E := [(0, .iload_n 2, 1, (0, 0, 0), []),
  (1, .iconst 0, 1, (0, 0, 0), []),
  (2, .bipush 6, 2, (0, 0, 0), []),
  (4, .invokestatic 61, 3, (250, 3, 11), []),
  (7, .ifCond .ne 6, 3, (13, 0, 0), []),
  (10, .bipush (-2), 2, (0, 0, 0), []),
  (12, .ireturn, 1, (0, 0, 0), []),
  (13, .aload_n 0, 1, (0, 0, 0), []),
  (14, .getfield 44, 3, (9, 0, 2), []),
  (17, .iload_n 1, 1, (0, 0, 0), []),
  (18, .invokevirtual 86, 3, (139, 1, 1), []),
  (21, .ifCond .ne 6, 3, (27, 0, 0), []),
  (24, .bipush (-11), 2, (0, 0, 0), []),
  (26, .ireturn, 1, (0, 0, 0), []),
  (27, .aload_n 0, 1, (0, 0, 0), []),
  (28, .getfield 44, 3, (9, 0, 2), []),
  (31, .getfield 76, 3, (2, 1, 2), []),
  (34, .iload_n 1, 1, (0, 0, 0), []),
  (35, .aaload, 1, (0, 0, 0), []),
  (36, .getfield 90, 3, (1, 1, 0), []),
  (39, .istore_n 3, 1, (0, 0, 0), []),
  (40, .iload_n 3, 1, (0, 0, 0), []),
  (41, .iload_n 2, 1, (0, 0, 0), []),
  (42, .invokestatic 330, 3, (244, 2, 11), []),
  (45, .ifCond .eq 7, 3, (52, 0, 0), []),
  (48, .iload_n 3, 1, (0, 0, 0), []),
  (49, .goto 5, 3, (54, 0, 0), []),
  (52, .bipush (-12), 2, (0, 0, 0), []),
  (54, .ireturn, 1, (0, 0, 0), [])]
abbrev am_m243 : am_Mt := (⟨"BookedEmpty", "taken", "(II)I"⟩, prog_1_method_41_code, 4, (some .int), am_P243, 9, 9)
/-- BookedEmpty.isUnder(II)Z -/
def am_P244 : List am_E := [(0, .iload_n 0, 1, (0, 0, 0), []),
  (1, .istore_n 2, 1, (0, 0, 0), []),
  (2, .iconst 0, 1, (0, 0, 0), []),
  (3, .istore_n 3, 1, (0, 0, 0), []),
  (4, .iload_n 3, 1, (0, 0, 0), []),
  (5, .bipush 7, 2, (0, 0, 0), []),
  (7, .if_icmp .ge 32, 3, (39, 0, 0), []),
  (10, .iload_n 2, 1, (0, 0, 0), []),
  (11, .iconst 0, 1, (0, 0, 0), []),
  (12, .bipush 6, 2, (0, 0, 0), []),
  (14, .invokestatic 61, 3, (250, 3, 11), []),
  (17, .ifCond .eq 22, 3, (39, 0, 0), []),
  (20, .iload_n 2, 1, (0, 0, 0), []),
  (21, .iload_n 1, 1, (0, 0, 0), []),
  (22, .if_icmp .ne 5, 3, (27, 0, 0), []),
  (25, .iconst 1, 1, (0, 0, 0), []),
  (26, .ireturn, 1, (1, 0, 0), []),
  (27, .getstatic 334, 3, (200, 0, 1), []),
  (30, .iload_n 2, 1, (0, 0, 0), []),
  (31, .iaload, 1, (0, 0, 0), []),
  (32, .istore_n 2, 1, (0, 0, 0), []),
  (33, .iinc 3 1, 3, (0, 0, 0), []),
  (36, .goto (-32), 3, (4, 0, 0), []),
  (39, .iconst 0, 1, (0, 0, 0), []),
  (40, .ireturn, 1, (1, 0, 0), [])]
abbrev am_m244 : am_Mt := (⟨"BookedEmpty", "isUnder", "(II)Z"⟩, prog_1_method_42_code, 4, (some .boolean), am_P244, 9, 9)
/-- BookedEmpty.count(I)I -/
def am_P245 : List am_E := [(0, .iload_n 1, 1, (0, 0, 0), []),
  (1, .tableswitch 117 0 7 #[47, 55, 63, 68, 79, 90, 101, 109], 47, (118, 0, 0), [(0, 48), (1, 56), (2, 64), (3, 69), (4, 80), (5, 91), (6, 102), (7, 110)]),
  (48, .aload_n 0, 1, (0, 0, 0), []),
  (49, .getfield 44, 3, (9, 0, 2), []),
  (52, .getfield 73, 3, (2, 3, 0), []),
  (55, .ireturn, 1, (0, 0, 0), []),
  (56, .aload_n 0, 1, (0, 0, 0), []),
  (57, .getfield 44, 3, (9, 0, 2), []),
  (60, .getfield 65, 3, (2, 2, 0), []),
  (63, .ireturn, 1, (0, 0, 0), []),
  (64, .aload_n 0, 1, (0, 0, 0), []),
  (65, .getfield 190, 3, (9, 5, 0), []),
  (68, .ireturn, 1, (0, 0, 0), []),
  (69, .aload_n 0, 1, (0, 0, 0), []),
  (70, .getfield 44, 3, (9, 0, 2), []),
  (73, .getfield 253, 3, (2, 7, 2), []),
  (76, .getfield 291, 3, (6, 1, 0), []),
  (79, .ireturn, 1, (0, 0, 0), []),
  (80, .aload_n 0, 1, (0, 0, 0), []),
  (81, .getfield 44, 3, (9, 0, 2), []),
  (84, .getfield 276, 3, (2, 8, 2), []),
  (87, .getfield 291, 3, (6, 1, 0), []),
  (90, .ireturn, 1, (0, 0, 0), []),
  (91, .aload_n 0, 1, (0, 0, 0), []),
  (92, .getfield 44, 3, (9, 0, 2), []),
  (95, .getfield 288, 3, (2, 9, 2), []),
  (98, .getfield 291, 3, (6, 1, 0), []),
  (101, .ireturn, 1, (0, 0, 0), []),
  (102, .aload_n 0, 1, (0, 0, 0), []),
  (103, .getfield 57, 3, (9, 6, 2), []),
  (106, .getfield 337, 3, (4, 1, 0), []),
  (109, .ireturn, 1, (0, 0, 0), []),
  (110, .aload_n 0, 1, (0, 0, 0), []),
  (111, .getfield 27, 3, (9, 8, 2), []),
  (114, .getfield 320, 3, (0, 1, 0), []),
  (117, .ireturn, 1, (0, 0, 0), []),
  (118, .bipush (-2), 2, (0, 0, 0), []),
  (120, .ireturn, 1, (0, 0, 0), [])]
abbrev am_m245 : am_Mt := (⟨"BookedEmpty", "count", "(I)I"⟩, prog_1_method_43_code, 2, (some .int), am_P245, 9, 9)
/-- BookedEmpty.tape(III)I -/
def am_P246 : List am_E := [(0, .aload_n 0, 1, (0, 0, 0), []),
  (1, .getfield 34, 3, (9, 9, 2), []),
  (4, .iload_n 1, 1, (0, 0, 0), []),
  (5, .invokevirtual 301, 3, (189, 1, 1), []),
  (8, .ifCond .ne 5, 3, (13, 0, 0), []),
  (11, .iconst (-1), 1, (0, 0, 0), []),
  (12, .ireturn, 1, (0, 0, 0), []),
  (13, .iload_n 2, 1, (0, 0, 0), []),
  (14, .iconst (-1), 1, (0, 0, 0), []),
  (15, .if_icmp .ne 12, 3, (27, 0, 0), []),
  (18, .aload_n 0, 1, (0, 0, 0), []),
  (19, .getfield 34, 3, (9, 9, 2), []),
  (22, .iload_n 1, 1, (0, 0, 0), []),
  (23, .invokevirtual 340, 3, (194, 1, 1), []),
  (26, .ireturn, 1, (0, 0, 0), []),
  (27, .iload_n 2, 1, (0, 0, 0), []),
  (28, .iconst 0, 1, (0, 0, 0), []),
  (29, .iconst 4, 1, (0, 0, 0), []),
  (30, .invokestatic 61, 3, (250, 3, 11), []),
  (33, .ifCond .eq 9, 3, (42, 0, 0), []),
  (36, .iload_n 3, 1, (0, 0, 0), []),
  (37, .bipush 60, 2, (0, 0, 0), []),
  (39, .if_icmp .le 6, 3, (45, 0, 0), []),
  (42, .bipush (-2), 2, (0, 0, 0), []),
  (44, .ireturn, 1, (0, 0, 0), []),
  (45, .iload_n 3, 1, (0, 0, 0), []),
  (46, .ifCond .ge 8, 3, (54, 0, 0), []),
  (49, .bipush (-14), 2, (0, 0, 0), []),
  (51, .goto 13, 3, (64, 0, 0), []),
  (54, .aload_n 0, 1, (0, 0, 0), []),
  (55, .getfield 34, 3, (9, 9, 2), []),
  (58, .iload_n 1, 1, (0, 0, 0), []),
  (59, .iload_n 2, 1, (0, 0, 0), []),
  (60, .iload_n 3, 1, (0, 0, 0), []),
  (61, .invokevirtual 343, 3, (195, 3, 1), []),
  (64, .ireturn, 1, (0, 0, 0), [])]
abbrev am_m246 : am_Mt := (⟨"BookedEmpty", "tape", "(III)I"⟩, prog_1_method_44_code, 4, (some .int), am_P246, 9, 9)
/-- BookedEmpty.item(IIJ)I -/
def am_P247 : List am_E := [(0, .aload_n 0, 1, (0, 0, 0), []),
  (1, .getfield 34, 3, (9, 9, 2), []),
  (4, .iload_n 1, 1, (0, 0, 0), []),
  (5, .invokevirtual 301, 3, (189, 1, 1), []),
  (8, .ifCond .ne 5, 3, (13, 0, 0), []),
  (11, .iconst (-1), 1, (0, 0, 0), []),
  (12, .ireturn, 1, (0, 0, 0), []),
  (13, .aload_n 0, 1, (0, 0, 0), []),
  (14, .getfield 34, 3, (9, 9, 2), []),
  (17, .iload_n 1, 1, (0, 0, 0), []),
  (18, .invokevirtual 304, 3, (190, 1, 1), []),
  (21, .ifCond .eq 6, 3, (27, 0, 0), []),
  (24, .bipush (-11), 2, (0, 0, 0), []),
  (26, .ireturn, 1, (0, 0, 0), []),
  (27, .aload_n 0, 1, (0, 0, 0), []),
  (28, .getfield 34, 3, (9, 9, 2), []),
  (31, .iload_n 1, 1, (0, 0, 0), []),
  (32, .iload_n 2, 1, (0, 0, 0), []),
  (33, .invokevirtual 346, 3, (192, 2, 1), []),
  (36, .ifCond .eq 16, 3, (52, 0, 0), []),
  (39, .aload_n 0, 1, (0, 0, 0), []),
  (40, .getfield 34, 3, (9, 9, 2), []),
  (43, .iload_n 1, 1, (0, 0, 0), []),
  (44, .iload_n 2, 1, (0, 0, 0), []),
  (45, .lload_n 3, 1, (0, 0, 0), []),
  (46, .invokevirtual 349, 3, (196, 3, 1), []),
  (49, .goto 5, 3, (54, 0, 0), []),
  (52, .bipush (-13), 2, (0, 0, 0), []),
  (54, .ireturn, 1, (0, 0, 0), [])]
abbrev am_m247 : am_Mt := (⟨"BookedEmpty", "item", "(IIJ)I"⟩, prog_1_method_45_code, 5, (some .int), am_P247, 9, 9)
/-- BookedEmpty.read(II)J -/
def am_P248 : List am_E := [(0, .aload_n 0, 1, (0, 0, 0), []),
  (1, .getfield 34, 3, (9, 9, 2), []),
  (4, .iload_n 1, 1, (0, 0, 0), []),
  (5, .invokevirtual 301, 3, (189, 1, 1), []),
  (8, .ifCond .eq 29, 3, (37, 0, 0), []),
  (11, .aload_n 0, 1, (0, 0, 0), []),
  (12, .getfield 34, 3, (9, 9, 2), []),
  (15, .iload_n 1, 1, (0, 0, 0), []),
  (16, .iload_n 2, 1, (0, 0, 0), []),
  (17, .invokevirtual 346, 3, (192, 2, 1), []),
  (20, .ifCond .eq 17, 3, (37, 0, 0), []),
  (23, .aload_n 0, 1, (0, 0, 0), []),
  (24, .getfield 34, 3, (9, 9, 2), []),
  (27, .getfield 313, 3, (7, 0, 2), []),
  (30, .iload_n 1, 1, (0, 0, 0), []),
  (31, .aaload, 1, (0, 0, 0), []),
  (32, .iload_n 2, 1, (0, 0, 0), []),
  (33, .laload, 1, (0, 0, 0), []),
  (34, .goto 6, 3, (40, 0, 0), []),
  (37, .ldc2_w 270, 3, (9223372036854775808, 0, 0), []),
  (40, .lreturn, 1, (0, 0, 0), [])]
abbrev am_m248 : am_Mt := (⟨"BookedEmpty", "read", "(II)J"⟩, prog_1_method_46_code, 3, (some .long), am_P248, 9, 9)
/-- BookedEmpty.shift(IIIII)I -/
def am_P249 : List am_E := [(0, .aload_n 0, 1, (0, 0, 0), []),
  (1, .getfield 34, 3, (9, 9, 2), []),
  (4, .iload_n 1, 1, (0, 0, 0), []),
  (5, .invokevirtual 301, 3, (189, 1, 1), []),
  (8, .ifCond .eq 14, 3, (22, 0, 0), []),
  (11, .aload_n 0, 1, (0, 0, 0), []),
  (12, .getfield 34, 3, (9, 9, 2), []),
  (15, .iload_n 3, 1, (0, 0, 0), []),
  (16, .invokevirtual 301, 3, (189, 1, 1), []),
  (19, .ifCond .ne 5, 3, (24, 0, 0), []),
  (22, .iconst (-1), 1, (0, 0, 0), []),
  (23, .ireturn, 1, (0, 0, 0), []),
  (24, .aload_n 0, 1, (0, 0, 0), []),
  (25, .getfield 34, 3, (9, 9, 2), []),
  (28, .iload_n 1, 1, (0, 0, 0), []),
  (29, .invokevirtual 304, 3, (190, 1, 1), []),
  (32, .ifCond .ne 14, 3, (46, 0, 0), []),
  (35, .aload_n 0, 1, (0, 0, 0), []),
  (36, .getfield 34, 3, (9, 9, 2), []),
  (39, .iload_n 3, 1, (0, 0, 0), []),
  (40, .invokevirtual 304, 3, (190, 1, 1), []),
  (43, .ifCond .eq 6, 3, (49, 0, 0), []),
  (46, .bipush (-11), 2, (0, 0, 0), []),
  (48, .ireturn, 1, (0, 0, 0), []),
  (49, .aload_n 0, 1, (0, 0, 0), []),
  (50, .getfield 34, 3, (9, 9, 2), []),
  (53, .getfield 353, 3, (7, 1, 2), []),
  (56, .iload_n 1, 1, (0, 0, 0), []),
  (57, .iaload, 1, (0, 0, 0), []),
  (58, .aload_n 0, 1, (0, 0, 0), []),
  (59, .getfield 34, 3, (9, 9, 2), []),
  (62, .getfield 353, 3, (7, 1, 2), []),
  (65, .iload_n 3, 1, (0, 0, 0), []),
  (66, .iaload, 1, (0, 0, 0), []),
  (67, .if_icmp .eq 6, 3, (73, 0, 0), []),
  (70, .bipush (-12), 2, (0, 0, 0), []),
  (72, .ireturn, 1, (0, 0, 0), []),
  (73, .aload_n 0, 1, (0, 0, 0), []),
  (74, .getfield 34, 3, (9, 9, 2), []),
  (77, .iload_n 1, 1, (0, 0, 0), []),
  (78, .iload_n 2, 1, (0, 0, 0), []),
  (79, .iload 5, 2, (0, 0, 0), []),
  (81, .invokevirtual 356, 3, (193, 3, 1), []),
  (84, .ifCond .eq 18, 3, (102, 0, 0), []),
  (87, .aload_n 0, 1, (0, 0, 0), []),
  (88, .getfield 34, 3, (9, 9, 2), []),
  (91, .iload_n 3, 1, (0, 0, 0), []),
  (92, .iload 4, 2, (0, 0, 0), []),
  (94, .iload 5, 2, (0, 0, 0), []),
  (96, .invokevirtual 356, 3, (193, 3, 1), []),
  (99, .ifCond .ne 6, 3, (105, 0, 0), []),
  (102, .bipush (-13), 2, (0, 0, 0), []),
  (104, .ireturn, 1, (0, 0, 0), []),
  (105, .aload_n 0, 1, (0, 0, 0), []),
  (106, .getfield 34, 3, (9, 9, 2), []),
  (109, .getfield 313, 3, (7, 0, 2), []),
  (112, .iload_n 1, 1, (0, 0, 0), []),
  (113, .aaload, 1, (0, 0, 0), []),
  (114, .iload_n 2, 1, (0, 0, 0), []),
  (115, .aload_n 0, 1, (0, 0, 0), []),
  (116, .getfield 34, 3, (9, 9, 2), []),
  (119, .getfield 313, 3, (7, 0, 2), []),
  (122, .iload_n 3, 1, (0, 0, 0), []),
  (123, .aaload, 1, (0, 0, 0), []),
  (124, .iload 4, 2, (0, 0, 0), []),
  (126, .iload 5, 2, (0, 0, 0), []),
  (128, .invokestatic 359, 3, (0, 0, 40), []),
  (131, .iload 5, 2, (0, 0, 0), []),
  (133, .ireturn, 1, (0, 0, 0), [])]
abbrev am_m249 : am_Mt := (⟨"BookedEmpty", "shift", "(IIIII)I"⟩, prog_1_method_47_code, 6, (some .int), am_P249, 9, 9)
/-- BookedEmpty.within(III)Z -/
def am_P250 : List am_E := [(0, .iload_n 0, 1, (0, 0, 0), []),
  (1, .iload_n 1, 1, (0, 0, 0), []),
  (2, .if_icmp .lt 12, 3, (14, 0, 0), []),
  (5, .iload_n 0, 1, (0, 0, 0), []),
  (6, .iload_n 2, 1, (0, 0, 0), []),
  (7, .if_icmp .gt 7, 3, (14, 0, 0), []),
  (10, .iconst 1, 1, (0, 0, 0), []),
  (11, .goto 4, 3, (15, 0, 0), []),
  (14, .iconst 0, 1, (0, 0, 0), []),
  (15, .ireturn, 1, (1, 0, 0), [])]
abbrev am_m250 : am_Mt := (⟨"BookedEmpty", "within", "(III)Z"⟩, prog_1_method_48_code, 3, (some .boolean), am_P250, 9, 9)
/-- BookedEmpty.isQuarter(I)Z -/
def am_P251 : List am_E := [(0, .iload_n 0, 1, (0, 0, 0), []),
  (1, .iconst 0, 1, (0, 0, 0), []),
  (2, .bipush 39, 2, (0, 0, 0), []),
  (4, .invokestatic 61, 3, (250, 3, 11), []),
  (7, .ireturn, 1, (1, 0, 0), [])]
abbrev am_m251 : am_Mt := (⟨"BookedEmpty", "isQuarter", "(I)Z"⟩, prog_1_method_49_code, 1, (some .boolean), am_P251, 9, 9)
/-- BookedEmpty.bit(Z)I -/
def am_P252 : List am_E := [(0, .iload_n 0, 1, (0, 0, 0), []),
  (1, .ifCond .eq 7, 3, (8, 0, 0), []),
  (4, .iconst 1, 1, (0, 0, 0), []),
  (5, .goto 4, 3, (9, 0, 0), []),
  (8, .iconst 0, 1, (0, 0, 0), []),
  (9, .ireturn, 1, (0, 0, 0), [])]
abbrev am_m252 : am_Mt := (⟨"BookedEmpty", "bit", "(Z)I"⟩, prog_1_method_50_code, 1, (some .int), am_P252, 9, 9)
/-- BookedEmpty.hasBit(JI)Z -/
def am_P253 : List am_E := [(0, .lload_n 0, 1, (0, 0, 0), []),
  (1, .iload_n 2, 1, (0, 0, 0), []),
  (2, .lshr, 1, (0, 0, 0), []),
  (3, .lconst 1, 1, (0, 0, 0), []),
  (4, .land, 1, (0, 0, 0), []),
  (5, .lconst 0, 1, (0, 0, 0), []),
  (6, .lcmp, 1, (0, 0, 0), []),
  (7, .ifCond .eq 7, 3, (14, 0, 0), []),
  (10, .iconst 1, 1, (0, 0, 0), []),
  (11, .goto 4, 3, (15, 0, 0), []),
  (14, .iconst 0, 1, (0, 0, 0), []),
  (15, .ireturn, 1, (1, 0, 0), [])]
abbrev am_m253 : am_Mt := (⟨"BookedEmpty", "hasBit", "(JI)Z"⟩, prog_1_method_51_code, 3, (some .boolean), am_P253, 9, 9)
/-- BookedEmpty.inLowestTerms(III)J -/
def am_P254 : List am_E := [(0, .iload_n 0, 1, (0, 0, 0), []),
  (1, .istore_n 3, 1, (0, 0, 0), []),
  (2, .iload_n 1, 1, (0, 0, 0), []),
  (3, .istore 4, 2, (0, 0, 0), []),
  (5, .iconst 0, 1, (0, 0, 0), []),
  (6, .istore 5, 2, (0, 0, 0), []),
  (8, .iload 5, 2, (0, 0, 0), []),
  (10, .bipush 64, 2, (0, 0, 0), []),
  (12, .if_icmp .ge 27, 3, (39, 0, 0), []),
  (15, .iload 4, 2, (0, 0, 0), []),
  (17, .ifCond .eq 22, 3, (39, 0, 0), []),
  (20, .iload_n 3, 1, (0, 0, 0), []),
  (21, .iload 4, 2, (0, 0, 0), []),
  (23, .irem, 1, (0, 0, 0), []),
  (24, .istore 6, 2, (0, 0, 0), []),
  (26, .iload 4, 2, (0, 0, 0), []),
  (28, .istore_n 3, 1, (0, 0, 0), []),
  (29, .iload 6, 2, (0, 0, 0), []),
  (31, .istore 4, 2, (0, 0, 0), []),
  (33, .iinc 5 1, 3, (0, 0, 0), []),
  (36, .goto (-28), 3, (8, 0, 0), []),
  (39, .iload_n 3, 1, (0, 0, 0), []),
  (40, .ifCond .ne 7, 3, (47, 0, 0), []),
  (43, .ldc2_w 270, 3, (9223372036854775808, 0, 0), []),
  (46, .lreturn, 1, (0, 0, 0), []),
  (47, .iload_n 2, 1, (0, 0, 0), []),
  (48, .ifCond .ne 10, 3, (58, 0, 0), []),
  (51, .iload_n 0, 1, (0, 0, 0), []),
  (52, .iload_n 3, 1, (0, 0, 0), []),
  (53, .idiv, 1, (0, 0, 0), []),
  (54, .i2l, 1, (0, 0, 0), []),
  (55, .goto 7, 3, (62, 0, 0), []),
  (58, .iload_n 1, 1, (0, 0, 0), []),
  (59, .iload_n 3, 1, (0, 0, 0), []),
  (60, .idiv, 1, (0, 0, 0), []),
  (61, .i2l, 1, (0, 0, 0), []),
  (62, .lreturn, 1, (0, 0, 0), [])]
abbrev am_m254 : am_Mt := (⟨"BookedEmpty", "inLowestTerms", "(III)J"⟩, prog_1_method_52_code, 7, (some .long), am_P254, 9, 9)
/-- BookedEmptyLaw.law([I)Z -/
def am_P255 : List am_E := [(0, .new 7, 3, (9, 0, 0), []),
  (3, .dup, 1, (0, 0, 0), []),
  (4, .invokespecial 9, 3, (203, 0, 20), []),
  (7, .astore_n 1, 1, (0, 0, 0), []),
  (8, .new 10, 3, (50, 0, 0), []),
  (11, .dup, 1, (0, 0, 0), []),
  (12, .invokespecial 12, 3, (0, 0, 20), []),
  (15, .astore_n 2, 1, (0, 0, 0), []),
  (16, .iconst 0, 1, (0, 0, 0), []),
  (17, .istore_n 3, 1, (0, 0, 0), []),
  (18, .iload_n 3, 1, (0, 0, 0), []),
  (19, .aload_n 0, 1, (0, 0, 0), []),
  (20, .arraylength, 1, (0, 0, 0), []),
  (21, .bipush 6, 2, (0, 0, 0), []),
  (23, .isub, 1, (0, 0, 0), []),
  (24, .if_icmp .gt 1495, 3, (1519, 0, 0), []),
  (27, .aload_n 0, 1, (0, 0, 0), []),
  (28, .iload_n 3, 1, (0, 0, 0), []),
  (29, .iaload, 1, (0, 0, 0), []),
  (30, .bipush 63, 2, (0, 0, 0), []),
  (32, .iand, 1, (0, 0, 0), []),
  (33, .tableswitch 1480 0 39 #[175, 198, 261, 294, 327, 376, 419, 452, 485, 518, 541, 554, 577, 600, 623, 656, 679, 702, 725, 748, 791, 860, 893, 916, 950, 984, 1017, 1040, 1073, 1086, 1119, 1132, 1145, 1188, 1211, 1244, 1267, 1310, 1383, 1417], 175, (1513, 0, 0), [(0, 208), (1, 231), (2, 294), (3, 327), (4, 360), (5, 409), (6, 452), (7, 485), (8, 518), (9, 551), (10, 574), (11, 587), (12, 610), (13, 633), (14, 656), (15, 689), (16, 712), (17, 735), (18, 758), (19, 781), (20, 824), (21, 893), (22, 926), (23, 949), (24, 983), (25, 1017), (26, 1050), (27, 1073), (28, 1106), (29, 1119), (30, 1152), (31, 1165), (32, 1178), (33, 1221), (34, 1244), (35, 1277), (36, 1300), (37, 1343), (38, 1416), (39, 1450)]),
  (208, .aload_n 1, 1, (0, 0, 0), []),
  (209, .aload_n 0, 1, (0, 0, 0), []),
  (210, .iload_n 3, 1, (0, 0, 0), []),
  (211, .iconst 1, 1, (0, 0, 0), []),
  (212, .iadd, 1, (0, 0, 0), []),
  (213, .iaload, 1, (0, 0, 0), []),
  (214, .invokevirtual 13, 3, (204, 1, 1), []),
  (217, .aload_n 2, 1, (0, 0, 0), []),
  (218, .aload_n 0, 1, (0, 0, 0), []),
  (219, .iload_n 3, 1, (0, 0, 0), []),
  (220, .iconst 1, 1, (0, 0, 0), []),
  (221, .iadd, 1, (0, 0, 0), []),
  (222, .iaload, 1, (0, 0, 0), []),
  (223, .invokevirtual 17, 3, (9, 1, 1), []),
  (226, .if_icmp .eq 1287, 3, (1513, 0, 0), []),
  (229, .iconst 0, 1, (0, 0, 0), []),
  (230, .ireturn, 1, (1, 0, 0), []),
  (231, .aload_n 1, 1, (0, 0, 0), []),
  (232, .aload_n 0, 1, (0, 0, 0), []),
  (233, .iload_n 3, 1, (0, 0, 0), []),
  (234, .iconst 1, 1, (0, 0, 0), []),
  (235, .iadd, 1, (0, 0, 0), []),
  (236, .iaload, 1, (0, 0, 0), []),
  (237, .aload_n 0, 1, (0, 0, 0), []),
  (238, .iload_n 3, 1, (0, 0, 0), []),
  (239, .iconst 2, 1, (0, 0, 0), []),
  (240, .iadd, 1, (0, 0, 0), []),
  (241, .iaload, 1, (0, 0, 0), []),
  (242, .aload_n 0, 1, (0, 0, 0), []),
  (243, .iload_n 3, 1, (0, 0, 0), []),
  (244, .iconst 3, 1, (0, 0, 0), []),
  (245, .iadd, 1, (0, 0, 0), []),
  (246, .iaload, 1, (0, 0, 0), []),
  (247, .aload_n 0, 1, (0, 0, 0), []),
  (248, .iload_n 3, 1, (0, 0, 0), []),
  (249, .iconst 4, 1, (0, 0, 0), []),
  (250, .iadd, 1, (0, 0, 0), []),
  (251, .iaload, 1, (0, 0, 0), []),
  (252, .aload_n 0, 1, (0, 0, 0), []),
  (253, .iload_n 3, 1, (0, 0, 0), []),
  (254, .iconst 5, 1, (0, 0, 0), []),
  (255, .iadd, 1, (0, 0, 0), []),
  (256, .iaload, 1, (0, 0, 0), []),
  (257, .invokevirtual 18, 3, (205, 5, 1), []),
  (260, .aload_n 2, 1, (0, 0, 0), []),
  (261, .aload_n 0, 1, (0, 0, 0), []),
  (262, .iload_n 3, 1, (0, 0, 0), []),
  (263, .iconst 1, 1, (0, 0, 0), []),
  (264, .iadd, 1, (0, 0, 0), []),
  (265, .iaload, 1, (0, 0, 0), []),
  (266, .aload_n 0, 1, (0, 0, 0), []),
  (267, .iload_n 3, 1, (0, 0, 0), []),
  (268, .iconst 2, 1, (0, 0, 0), []),
  (269, .iadd, 1, (0, 0, 0), []),
  (270, .iaload, 1, (0, 0, 0), []),
  (271, .aload_n 0, 1, (0, 0, 0), []),
  (272, .iload_n 3, 1, (0, 0, 0), []),
  (273, .iconst 3, 1, (0, 0, 0), []),
  (274, .iadd, 1, (0, 0, 0), []),
  (275, .iaload, 1, (0, 0, 0), []),
  (276, .aload_n 0, 1, (0, 0, 0), []),
  (277, .iload_n 3, 1, (0, 0, 0), []),
  (278, .iconst 4, 1, (0, 0, 0), []),
  (279, .iadd, 1, (0, 0, 0), []),
  (280, .iaload, 1, (0, 0, 0), []),
  (281, .aload_n 0, 1, (0, 0, 0), []),
  (282, .iload_n 3, 1, (0, 0, 0), []),
  (283, .iconst 5, 1, (0, 0, 0), []),
  (284, .iadd, 1, (0, 0, 0), []),
  (285, .iaload, 1, (0, 0, 0), []),
  (286, .invokevirtual 22, 3, (10, 5, 1), []),
  (289, .if_icmp .eq 1224, 3, (1513, 0, 0), []),
  (292, .iconst 0, 1, (0, 0, 0), []),
  (293, .ireturn, 1, (1, 0, 0), []),
  (294, .aload_n 1, 1, (0, 0, 0), []),
  (295, .aload_n 0, 1, (0, 0, 0), []),
  (296, .iload_n 3, 1, (0, 0, 0), []),
  (297, .iconst 1, 1, (0, 0, 0), []),
  (298, .iadd, 1, (0, 0, 0), []),
  (299, .iaload, 1, (0, 0, 0), []),
  (300, .aload_n 0, 1, (0, 0, 0), []),
  (301, .iload_n 3, 1, (0, 0, 0), []),
  (302, .iconst 2, 1, (0, 0, 0), []),
  (303, .iadd, 1, (0, 0, 0), []),
  (304, .iaload, 1, (0, 0, 0), []),
  (305, .invokevirtual 23, 3, (206, 2, 1), []),
  (308, .aload_n 2, 1, (0, 0, 0), []),
  (309, .aload_n 0, 1, (0, 0, 0), []),
  (310, .iload_n 3, 1, (0, 0, 0), []),
  (311, .iconst 1, 1, (0, 0, 0), []),
  (312, .iadd, 1, (0, 0, 0), []),
  (313, .iaload, 1, (0, 0, 0), []),
  (314, .aload_n 0, 1, (0, 0, 0), []),
  (315, .iload_n 3, 1, (0, 0, 0), []),
  (316, .iconst 2, 1, (0, 0, 0), []),
  (317, .iadd, 1, (0, 0, 0), []),
  (318, .iaload, 1, (0, 0, 0), []),
  (319, .invokevirtual 27, 3, (53, 2, 1), []),
  (322, .if_icmp .eq 1191, 3, (1513, 0, 0), []),
  (325, .iconst 0, 1, (0, 0, 0), []),
  (326, .ireturn, 1, (1, 0, 0), []),
  (327, .aload_n 1, 1, (0, 0, 0), []),
  (328, .aload_n 0, 1, (0, 0, 0), []),
  (329, .iload_n 3, 1, (0, 0, 0), []),
  (330, .iconst 1, 1, (0, 0, 0), []),
  (331, .iadd, 1, (0, 0, 0), []),
  (332, .iaload, 1, (0, 0, 0), []),
  (333, .aload_n 0, 1, (0, 0, 0), []),
  (334, .iload_n 3, 1, (0, 0, 0), []),
  (335, .iconst 2, 1, (0, 0, 0), []),
  (336, .iadd, 1, (0, 0, 0), []),
  (337, .iaload, 1, (0, 0, 0), []),
  (338, .invokevirtual 28, 3, (208, 2, 1), []),
  (341, .aload_n 2, 1, (0, 0, 0), []),
  (342, .aload_n 0, 1, (0, 0, 0), []),
  (343, .iload_n 3, 1, (0, 0, 0), []),
  (344, .iconst 1, 1, (0, 0, 0), []),
  (345, .iadd, 1, (0, 0, 0), []),
  (346, .iaload, 1, (0, 0, 0), []),
  (347, .aload_n 0, 1, (0, 0, 0), []),
  (348, .iload_n 3, 1, (0, 0, 0), []),
  (349, .iconst 2, 1, (0, 0, 0), []),
  (350, .iadd, 1, (0, 0, 0), []),
  (351, .iaload, 1, (0, 0, 0), []),
  (352, .invokevirtual 31, 3, (49, 2, 1), []),
  (355, .if_icmp .eq 1158, 3, (1513, 0, 0), []),
  (358, .iconst 0, 1, (0, 0, 0), []),
  (359, .ireturn, 1, (1, 0, 0), []),
  (360, .aload_n 1, 1, (0, 0, 0), []),
  (361, .aload_n 0, 1, (0, 0, 0), []),
  (362, .iload_n 3, 1, (0, 0, 0), []),
  (363, .iconst 1, 1, (0, 0, 0), []),
  (364, .iadd, 1, (0, 0, 0), []),
  (365, .iaload, 1, (0, 0, 0), []),
  (366, .aload_n 0, 1, (0, 0, 0), []),
  (367, .iload_n 3, 1, (0, 0, 0), []),
  (368, .iconst 2, 1, (0, 0, 0), []),
  (369, .iadd, 1, (0, 0, 0), []),
  (370, .iaload, 1, (0, 0, 0), []),
  (371, .ifCond .eq 7, 3, (378, 0, 0), []),
  (374, .iconst 1, 1, (0, 0, 0), []),
  (375, .goto 4, 3, (379, 0, 0), []),
  (378, .iconst 0, 1, (0, 0, 0), []),
  (379, .invokevirtual 32, 3, (209, 2, 1), []),
  (382, .aload_n 2, 1, (0, 0, 0), []),
  (383, .aload_n 0, 1, (0, 0, 0), []),
  (384, .iload_n 3, 1, (0, 0, 0), []),
  (385, .iconst 1, 1, (0, 0, 0), []),
  (386, .iadd, 1, (0, 0, 0), []),
  (387, .iaload, 1, (0, 0, 0), []),
  (388, .aload_n 0, 1, (0, 0, 0), []),
  (389, .iload_n 3, 1, (0, 0, 0), []),
  (390, .iconst 2, 1, (0, 0, 0), []),
  (391, .iadd, 1, (0, 0, 0), []),
  (392, .iaload, 1, (0, 0, 0), []),
  (393, .ifCond .eq 7, 3, (400, 0, 0), []),
  (396, .iconst 1, 1, (0, 0, 0), []),
  (397, .goto 4, 3, (401, 0, 0), []),
  (400, .iconst 0, 1, (0, 0, 0), []),
  (401, .invokevirtual 36, 3, (11, 2, 1), []),
  (404, .if_icmp .eq 1109, 3, (1513, 0, 0), []),
  (407, .iconst 0, 1, (0, 0, 0), []),
  (408, .ireturn, 1, (1, 0, 0), []),
  (409, .aload_n 1, 1, (0, 0, 0), []),
  (410, .aload_n 0, 1, (0, 0, 0), []),
  (411, .iload_n 3, 1, (0, 0, 0), []),
  (412, .iconst 1, 1, (0, 0, 0), []),
  (413, .iadd, 1, (0, 0, 0), []),
  (414, .iaload, 1, (0, 0, 0), []),
  (415, .aload_n 0, 1, (0, 0, 0), []),
  (416, .iload_n 3, 1, (0, 0, 0), []),
  (417, .iconst 2, 1, (0, 0, 0), []),
  (418, .iadd, 1, (0, 0, 0), []),
  (419, .iaload, 1, (0, 0, 0), []),
  (420, .aload_n 0, 1, (0, 0, 0), []),
  (421, .iload_n 3, 1, (0, 0, 0), []),
  (422, .iconst 3, 1, (0, 0, 0), []),
  (423, .iadd, 1, (0, 0, 0), []),
  (424, .iaload, 1, (0, 0, 0), []),
  (425, .invokevirtual 37, 3, (210, 3, 1), []),
  (428, .aload_n 2, 1, (0, 0, 0), []),
  (429, .aload_n 0, 1, (0, 0, 0), []),
  (430, .iload_n 3, 1, (0, 0, 0), []),
  (431, .iconst 1, 1, (0, 0, 0), []),
  (432, .iadd, 1, (0, 0, 0), []),
  (433, .iaload, 1, (0, 0, 0), []),
  (434, .aload_n 0, 1, (0, 0, 0), []),
  (435, .iload_n 3, 1, (0, 0, 0), []),
  (436, .iconst 2, 1, (0, 0, 0), []),
  (437, .iadd, 1, (0, 0, 0), []),
  (438, .iaload, 1, (0, 0, 0), []),
  (439, .aload_n 0, 1, (0, 0, 0), []),
  (440, .iload_n 3, 1, (0, 0, 0), []),
  (441, .iconst 3, 1, (0, 0, 0), []),
  (442, .iadd, 1, (0, 0, 0), []),
  (443, .iaload, 1, (0, 0, 0), []),
  (444, .invokevirtual 41, 3, (12, 3, 1), []),
  (447, .if_icmp .eq 1066, 3, (1513, 0, 0), []),
  (450, .iconst 0, 1, (0, 0, 0), []),
  (451, .ireturn, 1, (1, 0, 0), []),
  (452, .aload_n 1, 1, (0, 0, 0), []),
  (453, .aload_n 0, 1, (0, 0, 0), []),
  (454, .iload_n 3, 1, (0, 0, 0), []),
  (455, .iconst 1, 1, (0, 0, 0), []),
  (456, .iadd, 1, (0, 0, 0), []),
  (457, .iaload, 1, (0, 0, 0), []),
  (458, .aload_n 0, 1, (0, 0, 0), []),
  (459, .iload_n 3, 1, (0, 0, 0), []),
  (460, .iconst 2, 1, (0, 0, 0), []),
  (461, .iadd, 1, (0, 0, 0), []),
  (462, .iaload, 1, (0, 0, 0), []),
  (463, .invokevirtual 42, 3, (211, 2, 1), []),
  (466, .aload_n 2, 1, (0, 0, 0), []),
  (467, .aload_n 0, 1, (0, 0, 0), []),
  (468, .iload_n 3, 1, (0, 0, 0), []),
  (469, .iconst 1, 1, (0, 0, 0), []),
  (470, .iadd, 1, (0, 0, 0), []),
  (471, .iaload, 1, (0, 0, 0), []),
  (472, .aload_n 0, 1, (0, 0, 0), []),
  (473, .iload_n 3, 1, (0, 0, 0), []),
  (474, .iconst 2, 1, (0, 0, 0), []),
  (475, .iadd, 1, (0, 0, 0), []),
  (476, .iaload, 1, (0, 0, 0), []),
  (477, .invokevirtual 45, 3, (54, 2, 1), []),
  (480, .if_icmp .eq 1033, 3, (1513, 0, 0), []),
  (483, .iconst 0, 1, (0, 0, 0), []),
  (484, .ireturn, 1, (1, 0, 0), []),
  (485, .aload_n 1, 1, (0, 0, 0), []),
  (486, .aload_n 0, 1, (0, 0, 0), []),
  (487, .iload_n 3, 1, (0, 0, 0), []),
  (488, .iconst 1, 1, (0, 0, 0), []),
  (489, .iadd, 1, (0, 0, 0), []),
  (490, .iaload, 1, (0, 0, 0), []),
  (491, .aload_n 0, 1, (0, 0, 0), []),
  (492, .iload_n 3, 1, (0, 0, 0), []),
  (493, .iconst 2, 1, (0, 0, 0), []),
  (494, .iadd, 1, (0, 0, 0), []),
  (495, .iaload, 1, (0, 0, 0), []),
  (496, .invokevirtual 46, 3, (212, 2, 1), []),
  (499, .aload_n 2, 1, (0, 0, 0), []),
  (500, .aload_n 0, 1, (0, 0, 0), []),
  (501, .iload_n 3, 1, (0, 0, 0), []),
  (502, .iconst 1, 1, (0, 0, 0), []),
  (503, .iadd, 1, (0, 0, 0), []),
  (504, .iaload, 1, (0, 0, 0), []),
  (505, .aload_n 0, 1, (0, 0, 0), []),
  (506, .iload_n 3, 1, (0, 0, 0), []),
  (507, .iconst 2, 1, (0, 0, 0), []),
  (508, .iadd, 1, (0, 0, 0), []),
  (509, .iaload, 1, (0, 0, 0), []),
  (510, .invokevirtual 49, 3, (45, 2, 1), []),
  (513, .if_icmp .eq 1000, 3, (1513, 0, 0), []),
  (516, .iconst 0, 1, (0, 0, 0), []),
  (517, .ireturn, 1, (1, 0, 0), []),
  (518, .aload_n 1, 1, (0, 0, 0), []),
  (519, .aload_n 0, 1, (0, 0, 0), []),
  (520, .iload_n 3, 1, (0, 0, 0), []),
  (521, .iconst 1, 1, (0, 0, 0), []),
  (522, .iadd, 1, (0, 0, 0), []),
  (523, .iaload, 1, (0, 0, 0), []),
  (524, .aload_n 0, 1, (0, 0, 0), []),
  (525, .iload_n 3, 1, (0, 0, 0), []),
  (526, .iconst 2, 1, (0, 0, 0), []),
  (527, .iadd, 1, (0, 0, 0), []),
  (528, .iaload, 1, (0, 0, 0), []),
  (529, .invokevirtual 50, 3, (213, 2, 1), []),
  (532, .aload_n 2, 1, (0, 0, 0), []),
  (533, .aload_n 0, 1, (0, 0, 0), []),
  (534, .iload_n 3, 1, (0, 0, 0), []),
  (535, .iconst 1, 1, (0, 0, 0), []),
  (536, .iadd, 1, (0, 0, 0), []),
  (537, .iaload, 1, (0, 0, 0), []),
  (538, .aload_n 0, 1, (0, 0, 0), []),
  (539, .iload_n 3, 1, (0, 0, 0), []),
  (540, .iconst 2, 1, (0, 0, 0), []),
  (541, .iadd, 1, (0, 0, 0), []),
  (542, .iaload, 1, (0, 0, 0), []),
  (543, .invokevirtual 53, 3, (46, 2, 1), []),
  (546, .if_icmp .eq 967, 3, (1513, 0, 0), []),
  (549, .iconst 0, 1, (0, 0, 0), []),
  (550, .ireturn, 1, (1, 0, 0), []),
  (551, .aload_n 1, 1, (0, 0, 0), []),
  (552, .aload_n 0, 1, (0, 0, 0), []),
  (553, .iload_n 3, 1, (0, 0, 0), []),
  (554, .iconst 1, 1, (0, 0, 0), []),
  (555, .iadd, 1, (0, 0, 0), []),
  (556, .iaload, 1, (0, 0, 0), []),
  (557, .invokevirtual 54, 3, (214, 1, 1), []),
  (560, .aload_n 2, 1, (0, 0, 0), []),
  (561, .aload_n 0, 1, (0, 0, 0), []),
  (562, .iload_n 3, 1, (0, 0, 0), []),
  (563, .iconst 1, 1, (0, 0, 0), []),
  (564, .iadd, 1, (0, 0, 0), []),
  (565, .iaload, 1, (0, 0, 0), []),
  (566, .invokevirtual 57, 3, (13, 1, 1), []),
  (569, .if_icmp .eq 944, 3, (1513, 0, 0), []),
  (572, .iconst 0, 1, (0, 0, 0), []),
  (573, .ireturn, 1, (1, 0, 0), []),
  (574, .aload_n 1, 1, (0, 0, 0), []),
  (575, .invokevirtual 58, 3, (215, 0, 1), []),
  (578, .aload_n 2, 1, (0, 0, 0), []),
  (579, .invokevirtual 62, 3, (28, 0, 1), []),
  (582, .if_icmp .eq 931, 3, (1513, 0, 0), []),
  (585, .iconst 0, 1, (0, 0, 0), []),
  (586, .ireturn, 1, (1, 0, 0), []),
  (587, .aload_n 1, 1, (0, 0, 0), []),
  (588, .aload_n 0, 1, (0, 0, 0), []),
  (589, .iload_n 3, 1, (0, 0, 0), []),
  (590, .iconst 1, 1, (0, 0, 0), []),
  (591, .iadd, 1, (0, 0, 0), []),
  (592, .iaload, 1, (0, 0, 0), []),
  (593, .invokevirtual 63, 3, (216, 1, 1), []),
  (596, .aload_n 2, 1, (0, 0, 0), []),
  (597, .aload_n 0, 1, (0, 0, 0), []),
  (598, .iload_n 3, 1, (0, 0, 0), []),
  (599, .iconst 1, 1, (0, 0, 0), []),
  (600, .iadd, 1, (0, 0, 0), []),
  (601, .iaload, 1, (0, 0, 0), []),
  (602, .invokevirtual 66, 3, (55, 1, 1), []),
  (605, .if_icmp .eq 908, 3, (1513, 0, 0), []),
  (608, .iconst 0, 1, (0, 0, 0), []),
  (609, .ireturn, 1, (1, 0, 0), []),
  (610, .aload_n 1, 1, (0, 0, 0), []),
  (611, .aload_n 0, 1, (0, 0, 0), []),
  (612, .iload_n 3, 1, (0, 0, 0), []),
  (613, .iconst 1, 1, (0, 0, 0), []),
  (614, .iadd, 1, (0, 0, 0), []),
  (615, .iaload, 1, (0, 0, 0), []),
  (616, .invokevirtual 67, 3, (217, 1, 1), []),
  (619, .aload_n 2, 1, (0, 0, 0), []),
  (620, .aload_n 0, 1, (0, 0, 0), []),
  (621, .iload_n 3, 1, (0, 0, 0), []),
  (622, .iconst 1, 1, (0, 0, 0), []),
  (623, .iadd, 1, (0, 0, 0), []),
  (624, .iaload, 1, (0, 0, 0), []),
  (625, .invokevirtual 70, 3, (56, 1, 1), []),
  (628, .if_icmp .eq 885, 3, (1513, 0, 0), []),
  (631, .iconst 0, 1, (0, 0, 0), []),
  (632, .ireturn, 1, (1, 0, 0), []),
  (633, .aload_n 1, 1, (0, 0, 0), []),
  (634, .aload_n 0, 1, (0, 0, 0), []),
  (635, .iload_n 3, 1, (0, 0, 0), []),
  (636, .iconst 1, 1, (0, 0, 0), []),
  (637, .iadd, 1, (0, 0, 0), []),
  (638, .iaload, 1, (0, 0, 0), []),
  (639, .invokevirtual 71, 3, (218, 1, 1), []),
  (642, .aload_n 2, 1, (0, 0, 0), []),
  (643, .aload_n 0, 1, (0, 0, 0), []),
  (644, .iload_n 3, 1, (0, 0, 0), []),
  (645, .iconst 1, 1, (0, 0, 0), []),
  (646, .iadd, 1, (0, 0, 0), []),
  (647, .iaload, 1, (0, 0, 0), []),
  (648, .invokevirtual 74, 3, (58, 1, 1), []),
  (651, .if_icmp .eq 862, 3, (1513, 0, 0), []),
  (654, .iconst 0, 1, (0, 0, 0), []),
  (655, .ireturn, 1, (1, 0, 0), []),
  (656, .aload_n 1, 1, (0, 0, 0), []),
  (657, .aload_n 0, 1, (0, 0, 0), []),
  (658, .iload_n 3, 1, (0, 0, 0), []),
  (659, .iconst 1, 1, (0, 0, 0), []),
  (660, .iadd, 1, (0, 0, 0), []),
  (661, .iaload, 1, (0, 0, 0), []),
  (662, .aload_n 0, 1, (0, 0, 0), []),
  (663, .iload_n 3, 1, (0, 0, 0), []),
  (664, .iconst 2, 1, (0, 0, 0), []),
  (665, .iadd, 1, (0, 0, 0), []),
  (666, .iaload, 1, (0, 0, 0), []),
  (667, .invokevirtual 75, 3, (219, 2, 1), []),
  (670, .aload_n 2, 1, (0, 0, 0), []),
  (671, .aload_n 0, 1, (0, 0, 0), []),
  (672, .iload_n 3, 1, (0, 0, 0), []),
  (673, .iconst 1, 1, (0, 0, 0), []),
  (674, .iadd, 1, (0, 0, 0), []),
  (675, .iaload, 1, (0, 0, 0), []),
  (676, .aload_n 0, 1, (0, 0, 0), []),
  (677, .iload_n 3, 1, (0, 0, 0), []),
  (678, .iconst 2, 1, (0, 0, 0), []),
  (679, .iadd, 1, (0, 0, 0), []),
  (680, .iaload, 1, (0, 0, 0), []),
  (681, .invokevirtual 78, 3, (59, 2, 1), []),
  (684, .if_icmp .eq 829, 3, (1513, 0, 0), []),
  (687, .iconst 0, 1, (0, 0, 0), []),
  (688, .ireturn, 1, (1, 0, 0), []),
  (689, .aload_n 1, 1, (0, 0, 0), []),
  (690, .aload_n 0, 1, (0, 0, 0), []),
  (691, .iload_n 3, 1, (0, 0, 0), []),
  (692, .iconst 1, 1, (0, 0, 0), []),
  (693, .iadd, 1, (0, 0, 0), []),
  (694, .iaload, 1, (0, 0, 0), []),
  (695, .invokevirtual 79, 3, (220, 1, 1), []),
  (698, .aload_n 2, 1, (0, 0, 0), []),
  (699, .aload_n 0, 1, (0, 0, 0), []),
  (700, .iload_n 3, 1, (0, 0, 0), []),
  (701, .iconst 1, 1, (0, 0, 0), []),
  (702, .iadd, 1, (0, 0, 0), []),
  (703, .iaload, 1, (0, 0, 0), []),
  (704, .invokevirtual 82, 3, (64, 1, 1), []),
  (707, .if_icmp .eq 806, 3, (1513, 0, 0), []),
  (710, .iconst 0, 1, (0, 0, 0), []),
  (711, .ireturn, 1, (1, 0, 0), []),
  (712, .aload_n 1, 1, (0, 0, 0), []),
  (713, .aload_n 0, 1, (0, 0, 0), []),
  (714, .iload_n 3, 1, (0, 0, 0), []),
  (715, .iconst 1, 1, (0, 0, 0), []),
  (716, .iadd, 1, (0, 0, 0), []),
  (717, .iaload, 1, (0, 0, 0), []),
  (718, .invokevirtual 83, 3, (221, 1, 1), []),
  (721, .aload_n 2, 1, (0, 0, 0), []),
  (722, .aload_n 0, 1, (0, 0, 0), []),
  (723, .iload_n 3, 1, (0, 0, 0), []),
  (724, .iconst 1, 1, (0, 0, 0), []),
  (725, .iadd, 1, (0, 0, 0), []),
  (726, .iaload, 1, (0, 0, 0), []),
  (727, .invokevirtual 86, 3, (65, 1, 1), []),
  (730, .if_icmp .eq 783, 3, (1513, 0, 0), []),
  (733, .iconst 0, 1, (0, 0, 0), []),
  (734, .ireturn, 1, (1, 0, 0), []),
  (735, .aload_n 1, 1, (0, 0, 0), []),
  (736, .aload_n 0, 1, (0, 0, 0), []),
  (737, .iload_n 3, 1, (0, 0, 0), []),
  (738, .iconst 1, 1, (0, 0, 0), []),
  (739, .iadd, 1, (0, 0, 0), []),
  (740, .iaload, 1, (0, 0, 0), []),
  (741, .invokevirtual 87, 3, (223, 1, 1), []),
  (744, .aload_n 2, 1, (0, 0, 0), []),
  (745, .aload_n 0, 1, (0, 0, 0), []),
  (746, .iload_n 3, 1, (0, 0, 0), []),
  (747, .iconst 1, 1, (0, 0, 0), []),
  (748, .iadd, 1, (0, 0, 0), []),
  (749, .iaload, 1, (0, 0, 0), []),
  (750, .invokevirtual 90, 3, (75, 1, 1), []),
  (753, .if_icmp .eq 760, 3, (1513, 0, 0), []),
  (756, .iconst 0, 1, (0, 0, 0), []),
  (757, .ireturn, 1, (1, 0, 0), []),
  (758, .aload_n 1, 1, (0, 0, 0), []),
  (759, .aload_n 0, 1, (0, 0, 0), []),
  (760, .iload_n 3, 1, (0, 0, 0), []),
  (761, .iconst 1, 1, (0, 0, 0), []),
  (762, .iadd, 1, (0, 0, 0), []),
  (763, .iaload, 1, (0, 0, 0), []),
  (764, .invokevirtual 91, 3, (227, 1, 1), []),
  (767, .aload_n 2, 1, (0, 0, 0), []),
  (768, .aload_n 0, 1, (0, 0, 0), []),
  (769, .iload_n 3, 1, (0, 0, 0), []),
  (770, .iconst 1, 1, (0, 0, 0), []),
  (771, .iadd, 1, (0, 0, 0), []),
  (772, .iaload, 1, (0, 0, 0), []),
  (773, .invokevirtual 94, 3, (76, 1, 1), []),
  (776, .if_icmp .eq 737, 3, (1513, 0, 0), []),
  (779, .iconst 0, 1, (0, 0, 0), []),
  (780, .ireturn, 1, (1, 0, 0), []),
  (781, .aload_n 1, 1, (0, 0, 0), []),
  (782, .aload_n 0, 1, (0, 0, 0), []),
  (783, .iload_n 3, 1, (0, 0, 0), []),
  (784, .iconst 1, 1, (0, 0, 0), []),
  (785, .iadd, 1, (0, 0, 0), []),
  (786, .iaload, 1, (0, 0, 0), []),
  (787, .aload_n 0, 1, (0, 0, 0), []),
  (788, .iload_n 3, 1, (0, 0, 0), []),
  (789, .iconst 2, 1, (0, 0, 0), []),
  (790, .iadd, 1, (0, 0, 0), []),
  (791, .iaload, 1, (0, 0, 0), []),
  (792, .aload_n 0, 1, (0, 0, 0), []),
  (793, .iload_n 3, 1, (0, 0, 0), []),
  (794, .iconst 3, 1, (0, 0, 0), []),
  (795, .iadd, 1, (0, 0, 0), []),
  (796, .iaload, 1, (0, 0, 0), []),
  (797, .invokevirtual 95, 3, (228, 3, 1), []),
  (800, .aload_n 2, 1, (0, 0, 0), []),
  (801, .aload_n 0, 1, (0, 0, 0), []),
  (802, .iload_n 3, 1, (0, 0, 0), []),
  (803, .iconst 1, 1, (0, 0, 0), []),
  (804, .iadd, 1, (0, 0, 0), []),
  (805, .iaload, 1, (0, 0, 0), []),
  (806, .aload_n 0, 1, (0, 0, 0), []),
  (807, .iload_n 3, 1, (0, 0, 0), []),
  (808, .iconst 2, 1, (0, 0, 0), []),
  (809, .iadd, 1, (0, 0, 0), []),
  (810, .iaload, 1, (0, 0, 0), []),
  (811, .aload_n 0, 1, (0, 0, 0), []),
  (812, .iload_n 3, 1, (0, 0, 0), []),
  (813, .iconst 3, 1, (0, 0, 0), []),
  (814, .iadd, 1, (0, 0, 0), []),
  (815, .iaload, 1, (0, 0, 0), []),
  (816, .invokevirtual 98, 3, (77, 3, 1), []),
  (819, .if_icmp .eq 694, 3, (1513, 0, 0), []),
  (822, .iconst 0, 1, (0, 0, 0), []),
  (823, .ireturn, 1, (1, 0, 0), []),
  (824, .aload_n 1, 1, (0, 0, 0), []),
  (825, .aload_n 0, 1, (0, 0, 0), []),
  (826, .iload_n 3, 1, (0, 0, 0), []),
  (827, .iconst 1, 1, (0, 0, 0), []),
  (828, .iadd, 1, (0, 0, 0), []),
  (829, .iaload, 1, (0, 0, 0), []),
  (830, .aload_n 0, 1, (0, 0, 0), []),
  (831, .iload_n 3, 1, (0, 0, 0), []),
  (832, .iconst 2, 1, (0, 0, 0), []),
  (833, .iadd, 1, (0, 0, 0), []),
  (834, .iaload, 1, (0, 0, 0), []),
  (835, .aload_n 0, 1, (0, 0, 0), []),
  (836, .iload_n 3, 1, (0, 0, 0), []),
  (837, .iconst 3, 1, (0, 0, 0), []),
  (838, .iadd, 1, (0, 0, 0), []),
  (839, .iaload, 1, (0, 0, 0), []),
  (840, .ifCond .eq 7, 3, (847, 0, 0), []),
  (843, .iconst 1, 1, (0, 0, 0), []),
  (844, .goto 4, 3, (848, 0, 0), []),
  (847, .iconst 0, 1, (0, 0, 0), []),
  (848, .aload_n 0, 1, (0, 0, 0), []),
  (849, .iload_n 3, 1, (0, 0, 0), []),
  (850, .iconst 4, 1, (0, 0, 0), []),
  (851, .iadd, 1, (0, 0, 0), []),
  (852, .iaload, 1, (0, 0, 0), []),
  (853, .invokevirtual 99, 3, (229, 4, 1), []),
  (856, .aload_n 2, 1, (0, 0, 0), []),
  (857, .aload_n 0, 1, (0, 0, 0), []),
  (858, .iload_n 3, 1, (0, 0, 0), []),
  (859, .iconst 1, 1, (0, 0, 0), []),
  (860, .iadd, 1, (0, 0, 0), []),
  (861, .iaload, 1, (0, 0, 0), []),
  (862, .aload_n 0, 1, (0, 0, 0), []),
  (863, .iload_n 3, 1, (0, 0, 0), []),
  (864, .iconst 2, 1, (0, 0, 0), []),
  (865, .iadd, 1, (0, 0, 0), []),
  (866, .iaload, 1, (0, 0, 0), []),
  (867, .aload_n 0, 1, (0, 0, 0), []),
  (868, .iload_n 3, 1, (0, 0, 0), []),
  (869, .iconst 3, 1, (0, 0, 0), []),
  (870, .iadd, 1, (0, 0, 0), []),
  (871, .iaload, 1, (0, 0, 0), []),
  (872, .ifCond .eq 7, 3, (879, 0, 0), []),
  (875, .iconst 1, 1, (0, 0, 0), []),
  (876, .goto 4, 3, (880, 0, 0), []),
  (879, .iconst 0, 1, (0, 0, 0), []),
  (880, .aload_n 0, 1, (0, 0, 0), []),
  (881, .iload_n 3, 1, (0, 0, 0), []),
  (882, .iconst 4, 1, (0, 0, 0), []),
  (883, .iadd, 1, (0, 0, 0), []),
  (884, .iaload, 1, (0, 0, 0), []),
  (885, .invokevirtual 103, 3, (78, 4, 1), []),
  (888, .if_icmp .eq 625, 3, (1513, 0, 0), []),
  (891, .iconst 0, 1, (0, 0, 0), []),
  (892, .ireturn, 1, (1, 0, 0), []),
  (893, .aload_n 1, 1, (0, 0, 0), []),
  (894, .aload_n 0, 1, (0, 0, 0), []),
  (895, .iload_n 3, 1, (0, 0, 0), []),
  (896, .iconst 1, 1, (0, 0, 0), []),
  (897, .iadd, 1, (0, 0, 0), []),
  (898, .iaload, 1, (0, 0, 0), []),
  (899, .aload_n 0, 1, (0, 0, 0), []),
  (900, .iload_n 3, 1, (0, 0, 0), []),
  (901, .iconst 2, 1, (0, 0, 0), []),
  (902, .iadd, 1, (0, 0, 0), []),
  (903, .iaload, 1, (0, 0, 0), []),
  (904, .invokevirtual 104, 3, (230, 2, 1), []),
  (907, .aload_n 2, 1, (0, 0, 0), []),
  (908, .aload_n 0, 1, (0, 0, 0), []),
  (909, .iload_n 3, 1, (0, 0, 0), []),
  (910, .iconst 1, 1, (0, 0, 0), []),
  (911, .iadd, 1, (0, 0, 0), []),
  (912, .iaload, 1, (0, 0, 0), []),
  (913, .aload_n 0, 1, (0, 0, 0), []),
  (914, .iload_n 3, 1, (0, 0, 0), []),
  (915, .iconst 2, 1, (0, 0, 0), []),
  (916, .iadd, 1, (0, 0, 0), []),
  (917, .iaload, 1, (0, 0, 0), []),
  (918, .invokevirtual 107, 3, (80, 2, 1), []),
  (921, .if_icmp .eq 592, 3, (1513, 0, 0), []),
  (924, .iconst 0, 1, (0, 0, 0), []),
  (925, .ireturn, 1, (1, 0, 0), []),
  (926, .aload_n 1, 1, (0, 0, 0), []),
  (927, .aload_n 0, 1, (0, 0, 0), []),
  (928, .iload_n 3, 1, (0, 0, 0), []),
  (929, .iconst 1, 1, (0, 0, 0), []),
  (930, .iadd, 1, (0, 0, 0), []),
  (931, .iaload, 1, (0, 0, 0), []),
  (932, .invokevirtual 108, 3, (231, 1, 1), []),
  (935, .aload_n 2, 1, (0, 0, 0), []),
  (936, .aload_n 0, 1, (0, 0, 0), []),
  (937, .iload_n 3, 1, (0, 0, 0), []),
  (938, .iconst 1, 1, (0, 0, 0), []),
  (939, .iadd, 1, (0, 0, 0), []),
  (940, .iaload, 1, (0, 0, 0), []),
  (941, .invokevirtual 111, 3, (81, 1, 1), []),
  (944, .if_icmp .eq 569, 3, (1513, 0, 0), []),
  (947, .iconst 0, 1, (0, 0, 0), []),
  (948, .ireturn, 1, (1, 0, 0), []),
  (949, .aload_n 1, 1, (0, 0, 0), []),
  (950, .aload_n 0, 1, (0, 0, 0), []),
  (951, .iload_n 3, 1, (0, 0, 0), []),
  (952, .iconst 1, 1, (0, 0, 0), []),
  (953, .iadd, 1, (0, 0, 0), []),
  (954, .iaload, 1, (0, 0, 0), []),
  (955, .aload_n 0, 1, (0, 0, 0), []),
  (956, .iload_n 3, 1, (0, 0, 0), []),
  (957, .iconst 2, 1, (0, 0, 0), []),
  (958, .iadd, 1, (0, 0, 0), []),
  (959, .iaload, 1, (0, 0, 0), []),
  (960, .invokevirtual 112, 3, (232, 2, 2), []),
  (963, .aload_n 2, 1, (0, 0, 0), []),
  (964, .aload_n 0, 1, (0, 0, 0), []),
  (965, .iload_n 3, 1, (0, 0, 0), []),
  (966, .iconst 1, 1, (0, 0, 0), []),
  (967, .iadd, 1, (0, 0, 0), []),
  (968, .iaload, 1, (0, 0, 0), []),
  (969, .aload_n 0, 1, (0, 0, 0), []),
  (970, .iload_n 3, 1, (0, 0, 0), []),
  (971, .iconst 2, 1, (0, 0, 0), []),
  (972, .iadd, 1, (0, 0, 0), []),
  (973, .iaload, 1, (0, 0, 0), []),
  (974, .invokevirtual 116, 3, (84, 2, 2), []),
  (977, .lcmp, 1, (0, 0, 0), []),
  (978, .ifCond .eq 535, 3, (1513, 0, 0), []),
  (981, .iconst 0, 1, (0, 0, 0), []),
  (982, .ireturn, 1, (1, 0, 0), []),
  (983, .aload_n 1, 1, (0, 0, 0), []),
  (984, .aload_n 0, 1, (0, 0, 0), []),
  (985, .iload_n 3, 1, (0, 0, 0), []),
  (986, .iconst 1, 1, (0, 0, 0), []),
  (987, .iadd, 1, (0, 0, 0), []),
  (988, .iaload, 1, (0, 0, 0), []),
  (989, .aload_n 0, 1, (0, 0, 0), []),
  (990, .iload_n 3, 1, (0, 0, 0), []),
  (991, .iconst 2, 1, (0, 0, 0), []),
  (992, .iadd, 1, (0, 0, 0), []),
  (993, .iaload, 1, (0, 0, 0), []),
  (994, .invokevirtual 117, 3, (233, 2, 2), []),
  (997, .aload_n 2, 1, (0, 0, 0), []),
  (998, .aload_n 0, 1, (0, 0, 0), []),
  (999, .iload_n 3, 1, (0, 0, 0), []),
  (1000, .iconst 1, 1, (0, 0, 0), []),
  (1001, .iadd, 1, (0, 0, 0), []),
  (1002, .iaload, 1, (0, 0, 0), []),
  (1003, .aload_n 0, 1, (0, 0, 0), []),
  (1004, .iload_n 3, 1, (0, 0, 0), []),
  (1005, .iconst 2, 1, (0, 0, 0), []),
  (1006, .iadd, 1, (0, 0, 0), []),
  (1007, .iaload, 1, (0, 0, 0), []),
  (1008, .invokevirtual 120, 3, (85, 2, 2), []),
  (1011, .lcmp, 1, (0, 0, 0), []),
  (1012, .ifCond .eq 501, 3, (1513, 0, 0), []),
  (1015, .iconst 0, 1, (0, 0, 0), []),
  (1016, .ireturn, 1, (1, 0, 0), []),
  (1017, .aload_n 1, 1, (0, 0, 0), []),
  (1018, .aload_n 0, 1, (0, 0, 0), []),
  (1019, .iload_n 3, 1, (0, 0, 0), []),
  (1020, .iconst 1, 1, (0, 0, 0), []),
  (1021, .iadd, 1, (0, 0, 0), []),
  (1022, .iaload, 1, (0, 0, 0), []),
  (1023, .aload_n 0, 1, (0, 0, 0), []),
  (1024, .iload_n 3, 1, (0, 0, 0), []),
  (1025, .iconst 2, 1, (0, 0, 0), []),
  (1026, .iadd, 1, (0, 0, 0), []),
  (1027, .iaload, 1, (0, 0, 0), []),
  (1028, .invokevirtual 121, 3, (234, 2, 1), []),
  (1031, .aload_n 2, 1, (0, 0, 0), []),
  (1032, .aload_n 0, 1, (0, 0, 0), []),
  (1033, .iload_n 3, 1, (0, 0, 0), []),
  (1034, .iconst 1, 1, (0, 0, 0), []),
  (1035, .iadd, 1, (0, 0, 0), []),
  (1036, .iaload, 1, (0, 0, 0), []),
  (1037, .aload_n 0, 1, (0, 0, 0), []),
  (1038, .iload_n 3, 1, (0, 0, 0), []),
  (1039, .iconst 2, 1, (0, 0, 0), []),
  (1040, .iadd, 1, (0, 0, 0), []),
  (1041, .iaload, 1, (0, 0, 0), []),
  (1042, .invokevirtual 124, 3, (86, 2, 1), []),
  (1045, .if_icmp .eq 468, 3, (1513, 0, 0), []),
  (1048, .iconst 0, 1, (0, 0, 0), []),
  (1049, .ireturn, 1, (1, 0, 0), []),
  (1050, .aload_n 1, 1, (0, 0, 0), []),
  (1051, .aload_n 0, 1, (0, 0, 0), []),
  (1052, .iload_n 3, 1, (0, 0, 0), []),
  (1053, .iconst 1, 1, (0, 0, 0), []),
  (1054, .iadd, 1, (0, 0, 0), []),
  (1055, .iaload, 1, (0, 0, 0), []),
  (1056, .invokevirtual 125, 3, (235, 1, 1), []),
  (1059, .aload_n 2, 1, (0, 0, 0), []),
  (1060, .aload_n 0, 1, (0, 0, 0), []),
  (1061, .iload_n 3, 1, (0, 0, 0), []),
  (1062, .iconst 1, 1, (0, 0, 0), []),
  (1063, .iadd, 1, (0, 0, 0), []),
  (1064, .iaload, 1, (0, 0, 0), []),
  (1065, .invokevirtual 128, 3, (87, 1, 1), []),
  (1068, .if_icmp .eq 445, 3, (1513, 0, 0), []),
  (1071, .iconst 0, 1, (0, 0, 0), []),
  (1072, .ireturn, 1, (1, 0, 0), []),
  (1073, .aload_n 1, 1, (0, 0, 0), []),
  (1074, .aload_n 0, 1, (0, 0, 0), []),
  (1075, .iload_n 3, 1, (0, 0, 0), []),
  (1076, .iconst 1, 1, (0, 0, 0), []),
  (1077, .iadd, 1, (0, 0, 0), []),
  (1078, .iaload, 1, (0, 0, 0), []),
  (1079, .aload_n 0, 1, (0, 0, 0), []),
  (1080, .iload_n 3, 1, (0, 0, 0), []),
  (1081, .iconst 2, 1, (0, 0, 0), []),
  (1082, .iadd, 1, (0, 0, 0), []),
  (1083, .iaload, 1, (0, 0, 0), []),
  (1084, .invokevirtual 129, 3, (236, 2, 1), []),
  (1087, .aload_n 2, 1, (0, 0, 0), []),
  (1088, .aload_n 0, 1, (0, 0, 0), []),
  (1089, .iload_n 3, 1, (0, 0, 0), []),
  (1090, .iconst 1, 1, (0, 0, 0), []),
  (1091, .iadd, 1, (0, 0, 0), []),
  (1092, .iaload, 1, (0, 0, 0), []),
  (1093, .aload_n 0, 1, (0, 0, 0), []),
  (1094, .iload_n 3, 1, (0, 0, 0), []),
  (1095, .iconst 2, 1, (0, 0, 0), []),
  (1096, .iadd, 1, (0, 0, 0), []),
  (1097, .iaload, 1, (0, 0, 0), []),
  (1098, .invokevirtual 132, 3, (88, 2, 1), []),
  (1101, .if_icmp .eq 412, 3, (1513, 0, 0), []),
  (1104, .iconst 0, 1, (0, 0, 0), []),
  (1105, .ireturn, 1, (1, 0, 0), []),
  (1106, .aload_n 1, 1, (0, 0, 0), []),
  (1107, .invokevirtual 133, 3, (237, 0, 1), []),
  (1110, .aload_n 2, 1, (0, 0, 0), []),
  (1111, .invokevirtual 136, 3, (89, 0, 1), []),
  (1114, .if_icmp .eq 399, 3, (1513, 0, 0), []),
  (1117, .iconst 0, 1, (0, 0, 0), []),
  (1118, .ireturn, 1, (1, 0, 0), []),
  (1119, .aload_n 1, 1, (0, 0, 0), []),
  (1120, .aload_n 0, 1, (0, 0, 0), []),
  (1121, .iload_n 3, 1, (0, 0, 0), []),
  (1122, .iconst 1, 1, (0, 0, 0), []),
  (1123, .iadd, 1, (0, 0, 0), []),
  (1124, .iaload, 1, (0, 0, 0), []),
  (1125, .aload_n 0, 1, (0, 0, 0), []),
  (1126, .iload_n 3, 1, (0, 0, 0), []),
  (1127, .iconst 2, 1, (0, 0, 0), []),
  (1128, .iadd, 1, (0, 0, 0), []),
  (1129, .iaload, 1, (0, 0, 0), []),
  (1130, .invokevirtual 137, 3, (238, 2, 1), []),
  (1133, .aload_n 2, 1, (0, 0, 0), []),
  (1134, .aload_n 0, 1, (0, 0, 0), []),
  (1135, .iload_n 3, 1, (0, 0, 0), []),
  (1136, .iconst 1, 1, (0, 0, 0), []),
  (1137, .iadd, 1, (0, 0, 0), []),
  (1138, .iaload, 1, (0, 0, 0), []),
  (1139, .aload_n 0, 1, (0, 0, 0), []),
  (1140, .iload_n 3, 1, (0, 0, 0), []),
  (1141, .iconst 2, 1, (0, 0, 0), []),
  (1142, .iadd, 1, (0, 0, 0), []),
  (1143, .iaload, 1, (0, 0, 0), []),
  (1144, .invokevirtual 140, 3, (90, 2, 1), []),
  (1147, .if_icmp .eq 366, 3, (1513, 0, 0), []),
  (1150, .iconst 0, 1, (0, 0, 0), []),
  (1151, .ireturn, 1, (1, 0, 0), []),
  (1152, .aload_n 1, 1, (0, 0, 0), []),
  (1153, .invokevirtual 141, 3, (239, 0, 1), []),
  (1156, .aload_n 2, 1, (0, 0, 0), []),
  (1157, .invokevirtual 144, 3, (91, 0, 1), []),
  (1160, .if_icmp .eq 353, 3, (1513, 0, 0), []),
  (1163, .iconst 0, 1, (0, 0, 0), []),
  (1164, .ireturn, 1, (1, 0, 0), []),
  (1165, .aload_n 1, 1, (0, 0, 0), []),
  (1166, .invokevirtual 145, 3, (240, 0, 1), []),
  (1169, .aload_n 2, 1, (0, 0, 0), []),
  (1170, .invokevirtual 148, 3, (92, 0, 1), []),
  (1173, .if_icmp .eq 340, 3, (1513, 0, 0), []),
  (1176, .iconst 0, 1, (0, 0, 0), []),
  (1177, .ireturn, 1, (1, 0, 0), []),
  (1178, .aload_n 1, 1, (0, 0, 0), []),
  (1179, .aload_n 0, 1, (0, 0, 0), []),
  (1180, .iload_n 3, 1, (0, 0, 0), []),
  (1181, .iconst 1, 1, (0, 0, 0), []),
  (1182, .iadd, 1, (0, 0, 0), []),
  (1183, .iaload, 1, (0, 0, 0), []),
  (1184, .aload_n 0, 1, (0, 0, 0), []),
  (1185, .iload_n 3, 1, (0, 0, 0), []),
  (1186, .iconst 2, 1, (0, 0, 0), []),
  (1187, .iadd, 1, (0, 0, 0), []),
  (1188, .iaload, 1, (0, 0, 0), []),
  (1189, .aload_n 0, 1, (0, 0, 0), []),
  (1190, .iload_n 3, 1, (0, 0, 0), []),
  (1191, .iconst 3, 1, (0, 0, 0), []),
  (1192, .iadd, 1, (0, 0, 0), []),
  (1193, .iaload, 1, (0, 0, 0), []),
  (1194, .invokevirtual 149, 3, (241, 3, 1), []),
  (1197, .aload_n 2, 1, (0, 0, 0), []),
  (1198, .aload_n 0, 1, (0, 0, 0), []),
  (1199, .iload_n 3, 1, (0, 0, 0), []),
  (1200, .iconst 1, 1, (0, 0, 0), []),
  (1201, .iadd, 1, (0, 0, 0), []),
  (1202, .iaload, 1, (0, 0, 0), []),
  (1203, .aload_n 0, 1, (0, 0, 0), []),
  (1204, .iload_n 3, 1, (0, 0, 0), []),
  (1205, .iconst 2, 1, (0, 0, 0), []),
  (1206, .iadd, 1, (0, 0, 0), []),
  (1207, .iaload, 1, (0, 0, 0), []),
  (1208, .aload_n 0, 1, (0, 0, 0), []),
  (1209, .iload_n 3, 1, (0, 0, 0), []),
  (1210, .iconst 3, 1, (0, 0, 0), []),
  (1211, .iadd, 1, (0, 0, 0), []),
  (1212, .iaload, 1, (0, 0, 0), []),
  (1213, .invokevirtual 152, 3, (101, 3, 1), []),
  (1216, .if_icmp .eq 297, 3, (1513, 0, 0), []),
  (1219, .iconst 0, 1, (0, 0, 0), []),
  (1220, .ireturn, 1, (1, 0, 0), []),
  (1221, .aload_n 1, 1, (0, 0, 0), []),
  (1222, .aload_n 0, 1, (0, 0, 0), []),
  (1223, .iload_n 3, 1, (0, 0, 0), []),
  (1224, .iconst 1, 1, (0, 0, 0), []),
  (1225, .iadd, 1, (0, 0, 0), []),
  (1226, .iaload, 1, (0, 0, 0), []),
  (1227, .invokevirtual 153, 3, (242, 1, 1), []),
  (1230, .aload_n 2, 1, (0, 0, 0), []),
  (1231, .aload_n 0, 1, (0, 0, 0), []),
  (1232, .iload_n 3, 1, (0, 0, 0), []),
  (1233, .iconst 1, 1, (0, 0, 0), []),
  (1234, .iadd, 1, (0, 0, 0), []),
  (1235, .iaload, 1, (0, 0, 0), []),
  (1236, .invokevirtual 156, 3, (102, 1, 1), []),
  (1239, .if_icmp .eq 274, 3, (1513, 0, 0), []),
  (1242, .iconst 0, 1, (0, 0, 0), []),
  (1243, .ireturn, 1, (1, 0, 0), []),
  (1244, .aload_n 1, 1, (0, 0, 0), []),
  (1245, .aload_n 0, 1, (0, 0, 0), []),
  (1246, .iload_n 3, 1, (0, 0, 0), []),
  (1247, .iconst 1, 1, (0, 0, 0), []),
  (1248, .iadd, 1, (0, 0, 0), []),
  (1249, .iaload, 1, (0, 0, 0), []),
  (1250, .aload_n 0, 1, (0, 0, 0), []),
  (1251, .iload_n 3, 1, (0, 0, 0), []),
  (1252, .iconst 2, 1, (0, 0, 0), []),
  (1253, .iadd, 1, (0, 0, 0), []),
  (1254, .iaload, 1, (0, 0, 0), []),
  (1255, .invokevirtual 157, 3, (243, 2, 1), []),
  (1258, .aload_n 2, 1, (0, 0, 0), []),
  (1259, .aload_n 0, 1, (0, 0, 0), []),
  (1260, .iload_n 3, 1, (0, 0, 0), []),
  (1261, .iconst 1, 1, (0, 0, 0), []),
  (1262, .iadd, 1, (0, 0, 0), []),
  (1263, .iaload, 1, (0, 0, 0), []),
  (1264, .aload_n 0, 1, (0, 0, 0), []),
  (1265, .iload_n 3, 1, (0, 0, 0), []),
  (1266, .iconst 2, 1, (0, 0, 0), []),
  (1267, .iadd, 1, (0, 0, 0), []),
  (1268, .iaload, 1, (0, 0, 0), []),
  (1269, .invokevirtual 160, 3, (103, 2, 1), []),
  (1272, .if_icmp .eq 241, 3, (1513, 0, 0), []),
  (1275, .iconst 0, 1, (0, 0, 0), []),
  (1276, .ireturn, 1, (1, 0, 0), []),
  (1277, .aload_n 1, 1, (0, 0, 0), []),
  (1278, .aload_n 0, 1, (0, 0, 0), []),
  (1279, .iload_n 3, 1, (0, 0, 0), []),
  (1280, .iconst 1, 1, (0, 0, 0), []),
  (1281, .iadd, 1, (0, 0, 0), []),
  (1282, .iaload, 1, (0, 0, 0), []),
  (1283, .invokevirtual 161, 3, (245, 1, 1), []),
  (1286, .aload_n 2, 1, (0, 0, 0), []),
  (1287, .aload_n 0, 1, (0, 0, 0), []),
  (1288, .iload_n 3, 1, (0, 0, 0), []),
  (1289, .iconst 1, 1, (0, 0, 0), []),
  (1290, .iadd, 1, (0, 0, 0), []),
  (1291, .iaload, 1, (0, 0, 0), []),
  (1292, .invokevirtual 164, 3, (104, 1, 1), []),
  (1295, .if_icmp .eq 218, 3, (1513, 0, 0), []),
  (1298, .iconst 0, 1, (0, 0, 0), []),
  (1299, .ireturn, 1, (1, 0, 0), []),
  (1300, .aload_n 1, 1, (0, 0, 0), []),
  (1301, .aload_n 0, 1, (0, 0, 0), []),
  (1302, .iload_n 3, 1, (0, 0, 0), []),
  (1303, .iconst 1, 1, (0, 0, 0), []),
  (1304, .iadd, 1, (0, 0, 0), []),
  (1305, .iaload, 1, (0, 0, 0), []),
  (1306, .aload_n 0, 1, (0, 0, 0), []),
  (1307, .iload_n 3, 1, (0, 0, 0), []),
  (1308, .iconst 2, 1, (0, 0, 0), []),
  (1309, .iadd, 1, (0, 0, 0), []),
  (1310, .iaload, 1, (0, 0, 0), []),
  (1311, .aload_n 0, 1, (0, 0, 0), []),
  (1312, .iload_n 3, 1, (0, 0, 0), []),
  (1313, .iconst 3, 1, (0, 0, 0), []),
  (1314, .iadd, 1, (0, 0, 0), []),
  (1315, .iaload, 1, (0, 0, 0), []),
  (1316, .invokevirtual 165, 3, (246, 3, 1), []),
  (1319, .aload_n 2, 1, (0, 0, 0), []),
  (1320, .aload_n 0, 1, (0, 0, 0), []),
  (1321, .iload_n 3, 1, (0, 0, 0), []),
  (1322, .iconst 1, 1, (0, 0, 0), []),
  (1323, .iadd, 1, (0, 0, 0), []),
  (1324, .iaload, 1, (0, 0, 0), []),
  (1325, .aload_n 0, 1, (0, 0, 0), []),
  (1326, .iload_n 3, 1, (0, 0, 0), []),
  (1327, .iconst 2, 1, (0, 0, 0), []),
  (1328, .iadd, 1, (0, 0, 0), []),
  (1329, .iaload, 1, (0, 0, 0), []),
  (1330, .aload_n 0, 1, (0, 0, 0), []),
  (1331, .iload_n 3, 1, (0, 0, 0), []),
  (1332, .iconst 3, 1, (0, 0, 0), []),
  (1333, .iadd, 1, (0, 0, 0), []),
  (1334, .iaload, 1, (0, 0, 0), []),
  (1335, .invokevirtual 168, 3, (106, 3, 1), []),
  (1338, .if_icmp .eq 175, 3, (1513, 0, 0), []),
  (1341, .iconst 0, 1, (0, 0, 0), []),
  (1342, .ireturn, 1, (1, 0, 0), []),
  (1343, .aload_n 1, 1, (0, 0, 0), []),
  (1344, .aload_n 0, 1, (0, 0, 0), []),
  (1345, .iload_n 3, 1, (0, 0, 0), []),
  (1346, .iconst 1, 1, (0, 0, 0), []),
  (1347, .iadd, 1, (0, 0, 0), []),
  (1348, .iaload, 1, (0, 0, 0), []),
  (1349, .aload_n 0, 1, (0, 0, 0), []),
  (1350, .iload_n 3, 1, (0, 0, 0), []),
  (1351, .iconst 2, 1, (0, 0, 0), []),
  (1352, .iadd, 1, (0, 0, 0), []),
  (1353, .iaload, 1, (0, 0, 0), []),
  (1354, .aload_n 0, 1, (0, 0, 0), []),
  (1355, .iload_n 3, 1, (0, 0, 0), []),
  (1356, .iconst 3, 1, (0, 0, 0), []),
  (1357, .iadd, 1, (0, 0, 0), []),
  (1358, .iaload, 1, (0, 0, 0), []),
  (1359, .i2l, 1, (0, 0, 0), []),
  (1360, .bipush 32, 2, (0, 0, 0), []),
  (1362, .lshl, 1, (0, 0, 0), []),
  (1363, .aload_n 0, 1, (0, 0, 0), []),
  (1364, .iload_n 3, 1, (0, 0, 0), []),
  (1365, .iconst 4, 1, (0, 0, 0), []),
  (1366, .iadd, 1, (0, 0, 0), []),
  (1367, .iaload, 1, (0, 0, 0), []),
  (1368, .i2l, 1, (0, 0, 0), []),
  (1369, .ldc2_w 169, 3, (4294967295, 0, 0), []),
  (1372, .land, 1, (0, 0, 0), []),
  (1373, .lor, 1, (0, 0, 0), []),
  (1374, .invokevirtual 171, 3, (247, 3, 1), []),
  (1377, .aload_n 2, 1, (0, 0, 0), []),
  (1378, .aload_n 0, 1, (0, 0, 0), []),
  (1379, .iload_n 3, 1, (0, 0, 0), []),
  (1380, .iconst 1, 1, (0, 0, 0), []),
  (1381, .iadd, 1, (0, 0, 0), []),
  (1382, .iaload, 1, (0, 0, 0), []),
  (1383, .aload_n 0, 1, (0, 0, 0), []),
  (1384, .iload_n 3, 1, (0, 0, 0), []),
  (1385, .iconst 2, 1, (0, 0, 0), []),
  (1386, .iadd, 1, (0, 0, 0), []),
  (1387, .iaload, 1, (0, 0, 0), []),
  (1388, .aload_n 0, 1, (0, 0, 0), []),
  (1389, .iload_n 3, 1, (0, 0, 0), []),
  (1390, .iconst 3, 1, (0, 0, 0), []),
  (1391, .iadd, 1, (0, 0, 0), []),
  (1392, .iaload, 1, (0, 0, 0), []),
  (1393, .i2l, 1, (0, 0, 0), []),
  (1394, .bipush 32, 2, (0, 0, 0), []),
  (1396, .lshl, 1, (0, 0, 0), []),
  (1397, .aload_n 0, 1, (0, 0, 0), []),
  (1398, .iload_n 3, 1, (0, 0, 0), []),
  (1399, .iconst 4, 1, (0, 0, 0), []),
  (1400, .iadd, 1, (0, 0, 0), []),
  (1401, .iaload, 1, (0, 0, 0), []),
  (1402, .i2l, 1, (0, 0, 0), []),
  (1403, .ldc2_w 169, 3, (4294967295, 0, 0), []),
  (1406, .land, 1, (0, 0, 0), []),
  (1407, .lor, 1, (0, 0, 0), []),
  (1408, .invokevirtual 175, 3, (108, 3, 1), []),
  (1411, .if_icmp .eq 102, 3, (1513, 0, 0), []),
  (1414, .iconst 0, 1, (0, 0, 0), []),
  (1415, .ireturn, 1, (1, 0, 0), []),
  (1416, .aload_n 1, 1, (0, 0, 0), []),
  (1417, .aload_n 0, 1, (0, 0, 0), []),
  (1418, .iload_n 3, 1, (0, 0, 0), []),
  (1419, .iconst 1, 1, (0, 0, 0), []),
  (1420, .iadd, 1, (0, 0, 0), []),
  (1421, .iaload, 1, (0, 0, 0), []),
  (1422, .aload_n 0, 1, (0, 0, 0), []),
  (1423, .iload_n 3, 1, (0, 0, 0), []),
  (1424, .iconst 2, 1, (0, 0, 0), []),
  (1425, .iadd, 1, (0, 0, 0), []),
  (1426, .iaload, 1, (0, 0, 0), []),
  (1427, .invokevirtual 176, 3, (248, 2, 2), []),
  (1430, .aload_n 2, 1, (0, 0, 0), []),
  (1431, .aload_n 0, 1, (0, 0, 0), []),
  (1432, .iload_n 3, 1, (0, 0, 0), []),
  (1433, .iconst 1, 1, (0, 0, 0), []),
  (1434, .iadd, 1, (0, 0, 0), []),
  (1435, .iaload, 1, (0, 0, 0), []),
  (1436, .aload_n 0, 1, (0, 0, 0), []),
  (1437, .iload_n 3, 1, (0, 0, 0), []),
  (1438, .iconst 2, 1, (0, 0, 0), []),
  (1439, .iadd, 1, (0, 0, 0), []),
  (1440, .iaload, 1, (0, 0, 0), []),
  (1441, .invokevirtual 179, 3, (109, 2, 2), []),
  (1444, .lcmp, 1, (0, 0, 0), []),
  (1445, .ifCond .eq 68, 3, (1513, 0, 0), []),
  (1448, .iconst 0, 1, (0, 0, 0), []),
  (1449, .ireturn, 1, (1, 0, 0), []),
  (1450, .aload_n 1, 1, (0, 0, 0), []),
  (1451, .aload_n 0, 1, (0, 0, 0), []),
  (1452, .iload_n 3, 1, (0, 0, 0), []),
  (1453, .iconst 1, 1, (0, 0, 0), []),
  (1454, .iadd, 1, (0, 0, 0), []),
  (1455, .iaload, 1, (0, 0, 0), []),
  (1456, .aload_n 0, 1, (0, 0, 0), []),
  (1457, .iload_n 3, 1, (0, 0, 0), []),
  (1458, .iconst 2, 1, (0, 0, 0), []),
  (1459, .iadd, 1, (0, 0, 0), []),
  (1460, .iaload, 1, (0, 0, 0), []),
  (1461, .aload_n 0, 1, (0, 0, 0), []),
  (1462, .iload_n 3, 1, (0, 0, 0), []),
  (1463, .iconst 3, 1, (0, 0, 0), []),
  (1464, .iadd, 1, (0, 0, 0), []),
  (1465, .iaload, 1, (0, 0, 0), []),
  (1466, .aload_n 0, 1, (0, 0, 0), []),
  (1467, .iload_n 3, 1, (0, 0, 0), []),
  (1468, .iconst 4, 1, (0, 0, 0), []),
  (1469, .iadd, 1, (0, 0, 0), []),
  (1470, .iaload, 1, (0, 0, 0), []),
  (1471, .aload_n 0, 1, (0, 0, 0), []),
  (1472, .iload_n 3, 1, (0, 0, 0), []),
  (1473, .iconst 5, 1, (0, 0, 0), []),
  (1474, .iadd, 1, (0, 0, 0), []),
  (1475, .iaload, 1, (0, 0, 0), []),
  (1476, .invokevirtual 180, 3, (249, 5, 1), []),
  (1479, .aload_n 2, 1, (0, 0, 0), []),
  (1480, .aload_n 0, 1, (0, 0, 0), []),
  (1481, .iload_n 3, 1, (0, 0, 0), []),
  (1482, .iconst 1, 1, (0, 0, 0), []),
  (1483, .iadd, 1, (0, 0, 0), []),
  (1484, .iaload, 1, (0, 0, 0), []),
  (1485, .aload_n 0, 1, (0, 0, 0), []),
  (1486, .iload_n 3, 1, (0, 0, 0), []),
  (1487, .iconst 2, 1, (0, 0, 0), []),
  (1488, .iadd, 1, (0, 0, 0), []),
  (1489, .iaload, 1, (0, 0, 0), []),
  (1490, .aload_n 0, 1, (0, 0, 0), []),
  (1491, .iload_n 3, 1, (0, 0, 0), []),
  (1492, .iconst 3, 1, (0, 0, 0), []),
  (1493, .iadd, 1, (0, 0, 0), []),
  (1494, .iaload, 1, (0, 0, 0), []),
  (1495, .aload_n 0, 1, (0, 0, 0), []),
  (1496, .iload_n 3, 1, (0, 0, 0), []),
  (1497, .iconst 4, 1, (0, 0, 0), []),
  (1498, .iadd, 1, (0, 0, 0), []),
  (1499, .iaload, 1, (0, 0, 0), []),
  (1500, .aload_n 0, 1, (0, 0, 0), []),
  (1501, .iload_n 3, 1, (0, 0, 0), []),
  (1502, .iconst 5, 1, (0, 0, 0), []),
  (1503, .iadd, 1, (0, 0, 0), []),
  (1504, .iaload, 1, (0, 0, 0), []),
  (1505, .invokevirtual 183, 3, (110, 5, 1), []),
  (1508, .if_icmp .eq 5, 3, (1513, 0, 0), []),
  (1511, .iconst 0, 1, (0, 0, 0), []),
  (1512, .ireturn, 1, (1, 0, 0), []),
  (1513, .iinc 3 6, 3, (0, 0, 0), []),
  (1516, .goto (-1498), 3, (18, 0, 0), []),
  (1519, .iconst 1, 1, (0, 0, 0), []),
  (1520, .ireturn, 1, (1, 0, 0), [])]
abbrev am_m255 : am_Mt := (⟨"BookedEmptyLaw", "law", "([I)Z"⟩, code, 4, (some .boolean), am_P255, 999, 16)
def am_ML : List am_Mt := [am_m0, am_m1, am_m2, am_m3, am_m4, am_m5, am_m6, am_m7, am_m8, am_m9, am_m10, am_m11, am_m12, am_m13, am_m14, am_m15, am_m16, am_m17, am_m18, am_m19, am_m20, am_m21, am_m22, am_m23, am_m24, am_m25, am_m26, am_m27, am_m28, am_m29, am_m30, am_m31, am_m32, am_m33, am_m34, am_m35, am_m36, am_m37, am_m38, am_m39, am_m40, am_m41, am_m42, am_m43, am_m44, am_m45, am_m46, am_m47, am_m48, am_m49, am_m50, am_m51, am_m52, am_m53, am_m54, am_m55, am_m56, am_m57, am_m58, am_m59, am_m60, am_m61, am_m62, am_m63, am_m64, am_m65, am_m66, am_m67, am_m68, am_m69, am_m70, am_m71, am_m72, am_m73, am_m74, am_m75, am_m76, am_m77, am_m78, am_m79, am_m80, am_m81, am_m82, am_m83, am_m84, am_m85, am_m86, am_m87, am_m88, am_m89, am_m90, am_m91, am_m92, am_m93, am_m94, am_m95, am_m96, am_m97, am_m98, am_m99, am_m100, am_m101, am_m102, am_m103, am_m104, am_m105, am_m106, am_m107, am_m108, am_m109, am_m110, am_m111, am_m112, am_m113, am_m114, am_m115, am_m116, am_m117, am_m118, am_m119, am_m120, am_m121, am_m122, am_m123, am_m124, am_m125, am_m126, am_m127, am_m128, am_m129, am_m130, am_m131, am_m132, am_m133, am_m134, am_m135, am_m136, am_m137, am_m138, am_m139, am_m140, am_m141, am_m142, am_m143, am_m144, am_m145, am_m146, am_m147, am_m148, am_m149, am_m150, am_m151, am_m152, am_m153, am_m154, am_m155, am_m156, am_m157, am_m158, am_m159, am_m160, am_m161, am_m162, am_m163, am_m164, am_m165, am_m166, am_m167, am_m168, am_m169, am_m170, am_m171, am_m172, am_m173, am_m174, am_m175, am_m176, am_m177, am_m178, am_m179, am_m180, am_m181, am_m182, am_m183, am_m184, am_m185, am_m186, am_m187, am_m188, am_m189, am_m190, am_m191, am_m192, am_m193, am_m194, am_m195, am_m196, am_m197, am_m198, am_m199, am_m200, am_m201, am_m202, am_m203, am_m204, am_m205, am_m206, am_m207, am_m208, am_m209, am_m210, am_m211, am_m212, am_m213, am_m214, am_m215, am_m216, am_m217, am_m218, am_m219, am_m220, am_m221, am_m222, am_m223, am_m224, am_m225, am_m226, am_m227, am_m228, am_m229, am_m230, am_m231, am_m232, am_m233, am_m234, am_m235, am_m236, am_m237, am_m238, am_m239, am_m240, am_m241, am_m242, am_m243, am_m244, am_m245, am_m246, am_m247, am_m248, am_m249, am_m250, am_m251, am_m252, am_m253, am_m254]
end
section
/-! AN ABSTRACT MACHINE over the same instructions: a reference is a pair (which kind of made thing, which of them), what the made things hold are three functions. -/
abbrev am_V : Type := Value ⊕ (Nat × Nat)
abbrev am_Q : Type := (Nat → Nat → Nat → Int32) × (Nat → Nat → Nat → Int64) × (Nat → Nat → Nat → Option (Nat × Nat))
/-- the system's part, the reference's part, how many of each kind there are, cells, slots -/
abbrev am_S : Type := am_Q × am_Q × (Nat → Nat) × Nat × Nat
abbrev am_R : Type := Option (Option am_V × am_S)
/-- the script -/
abbrev am_X : Type := Nat × (Nat → Int32)
abbrev am_I (x : Int32) : am_V := .inl (.int x)
abbrev am_J (x : Int64) : am_V := .inl (.long x)
abbrev am_un : am_V := .inl (.retAddr 0)
def am_u {α : Type} (f : Nat → α) (k : Nat) (v : α) : Nat → α := fun j => bif Nat.beq j k then v else f j
def am_w3 {α : Type} (f : Nat → Nat → Nat → α) (c i j : Nat) (x : α) : Nat → Nat → Nat → α := fun c' i' j' => bif Nat.beq c' c then (bif Nat.beq j' j then (bif Nat.beq i' i then x else f c' i' j') else f c' i' j') else f c' i' j'
def am_w2 {α : Type} (f : Nat → Nat → Nat → α) (c i : Nat) (g : Nat → α) : Nat → Nat → Nat → α := am_u f c (am_u (f c) i g)
def am_q (σ : am_S) (c : Nat) : am_Q := bif Nat.ble 50 c then σ.2.1 else σ.1
def am_sq (σ : am_S) (c : Nat) (q : am_Q) : am_S := bif Nat.ble 50 c then (σ.1, q, σ.2.2) else (q, σ.2)
def am_gs (X : am_X) (σ : am_S) (c i j : Nat) : Int32 := bif Nat.ble 200 c then am_ro X c i j else (am_q σ c).1 c i j
def am_gl (σ : am_S) (c i j : Nat) : Int64 := (am_q σ c).2.1 c i j
def am_go (σ : am_S) (c i j : Nat) : Option (Nat × Nat) := bif Nat.ble 200 c then am_roo c i j else (am_q σ c).2.2 c i j
def am_pi (σ : am_S) (c i j : Nat) (x : Int32) : am_S := am_sq σ c (am_w3 (am_q σ c).1 c i j x, (am_q σ c).2)
def am_pl (σ : am_S) (c i j : Nat) (x : Int64) : am_S := am_sq σ c ((am_q σ c).1, am_w3 (am_q σ c).2.1 c i j x, (am_q σ c).2.2)
def am_po (σ : am_S) (c i j : Nat) (x : Option (Nat × Nat)) : am_S := am_sq σ c ((am_q σ c).1, (am_q σ c).2.1, am_w3 (am_q σ c).2.2 c i j x)
/-- a whole row of ints, of longs -/
def am_pis (σ : am_S) (c i : Nat) (g : Nat → Int32) : am_S := am_sq σ c (am_w2 (am_q σ c).1 c i g, (am_q σ c).2)
def am_pls (σ : am_S) (c i : Nat) (g : Nat → Int64) : am_S := am_sq σ c ((am_q σ c).1, am_w2 (am_q σ c).2.1 c i g, (am_q σ c).2.2)
/-- a whole row of references -/
def am_pos (σ : am_S) (c i : Nat) (g : Nat → Option (Nat × Nat)) : am_S := am_sq σ c ((am_q σ c).1, (am_q σ c).2.1, am_w2 (am_q σ c).2.2 c i g)
/-- one more of a kind, all 0 -/
def am_new (σ : am_S) (c w : Nat) : am_S :=
  let q := am_q σ c
  let i := σ.2.2.1 c
  let τ := am_sq σ c (am_w2 q.1 c i (fun _ => 0), am_w2 q.2.1 c i (fun _ => 0), am_w2 q.2.2 c i (fun _ => none))
  (τ.1, τ.2.1, am_u σ.2.2.1 c (i + 1), σ.2.2.2.1 + 1, σ.2.2.2.2 + w)
def am_ck (i : Int32) (n : Nat) (r : am_R) : am_R := if i < 0 ∨ n ≤ i.toNatClampNeg then none else r
def am_bk (x : Int32) (r : am_R) : am_R := if x = 0 ∨ x = 1 then r else none
def am_nz (x : Int32) (r : am_R) : am_R := if x = 0 then none else r
def am_cat (st : List am_V) : Nat := (st.map fun v => match v with | .inl w => w.category | .inr _ => 1).sum
def am_i1 (st : List am_V) (f : Int32 → List am_V → am_R) : am_R := match st with | .inl (.int x) :: t => f x t | _ => none
def am_i2 (st : List am_V) (f : Int32 → Int32 → List am_V → am_R) : am_R := match st with | .inl (.int y) :: .inl (.int x) :: t => f x y t | _ => none
def am_j1 (st : List am_V) (f : Int64 → List am_V → am_R) : am_R := match st with | .inl (.long x) :: t => f x t | _ => none
def am_j2 (st : List am_V) (f : Int64 → Int64 → List am_V → am_R) : am_R := match st with | .inl (.long y) :: .inl (.long x) :: t => f x y t | _ => none
def am_ji (st : List am_V) (f : Int64 → Int32 → List am_V → am_R) : am_R := match st with | .inl (.int y) :: .inl (.long x) :: t => f x y t | _ => none
def am_r1 (st : List am_V) (f : Nat → Nat → List am_V → am_R) : am_R := match st with | .inr (c, i) :: t => f c i t | _ => none
def am_ri (st : List am_V) (f : Nat → Nat → Int32 → List am_V → am_R) : am_R := match st with | .inl (.int j) :: .inr (c, i) :: t => f c i j t | _ => none
def am_iri (st : List am_V) (f : Nat → Nat → Int32 → Int32 → List am_V → am_R) : am_R := match st with | .inl (.int x) :: .inl (.int j) :: .inr (c, i) :: t => f c i j x t | _ => none
def am_jri (st : List am_V) (f : Nat → Nat → Int32 → Int64 → List am_V → am_R) : am_R := match st with | .inl (.long x) :: .inl (.int j) :: .inr (c, i) :: t => f c i j x t | _ => none
def am_rri (st : List am_V) (f : Nat → Nat → Int32 → Nat → Nat → List am_V → am_R) : am_R := match st with | .inr (c2, i2) :: .inl (.int j) :: .inr (c, i) :: t => f c i j c2 i2 t | _ => none
def am_ir (st : List am_V) (f : Nat → Nat → Int32 → List am_V → am_R) : am_R := match st with | .inl (.int x) :: .inr (c, i) :: t => f c i x t | _ => none
def am_jr (st : List am_V) (f : Nat → Nat → Int64 → List am_V → am_R) : am_R := match st with | .inl (.long x) :: .inr (c, i) :: t => f c i x t | _ => none
def am_rr (st : List am_V) (f : Nat → Nat → Nat → Nat → List am_V → am_R) : am_R := match st with | .inr (c2, i2) :: .inr (c, i) :: t => f c i c2 i2 t | _ => none
def am_bi (r : am_R) (f : Int32 → am_S → am_R) : am_R := match r with | some (some (.inl (.int x)), σ) => f x σ | _ => none
def am_bl (r : am_R) (f : Int64 → am_S → am_R) : am_R := match r with | some (some (.inl (.long x)), σ) => f x σ | _ => none
def am_br (r : am_R) (f : Nat → Nat → am_S → am_R) : am_R := match r with | some (some (.inr (c, i)), σ) => f c i σ | _ => none
def am_bv (r : am_R) (f : am_S → am_R) : am_R := match r with | some (none, σ) => f σ | _ => none
def am_rv (o : Option (Nat × Nat)) : am_V := match o with | some q => .inr q | none => .inl .null
def am_sw (f : Nat → am_R) (x : Int32) : List (Int × Nat) → Nat → am_R
  | [], d => f d
  | (v, t) :: r, d => if x = Int32.ofInt v then f t else am_sw f x r d
def am_cmp (c : ClassFile.Cond) (x y : Int32) (a b : am_R) : am_R := match c with
  | .eq => if x = y then a else b
  | .ne => if ¬ x = y then a else b
  | .lt => if x < y then a else b
  | .ge => if y ≤ x then a else b
  | .gt => if y < x then a else b
  | .le => if x ≤ y then a else b
/-- a call: what was given, the rest below -/
def am_call (Γ : Nat → List am_V → am_S → am_R) (k : List am_V → am_S → am_R) (r : Nat × Nat × Nat) (recv : Bool) (rt : Nat) (st : List am_V) (σ : am_S) : am_R :=
  let na := bif recv then r.2.1 + 1 else r.2.1
  let as := (st.take na).reverse
  let rest := st.drop na
  bif Nat.beq as.length na && Nat.ble (am_cat rest) 8 then
    match rt with
    | 0 => am_bv (Γ r.1 as σ) fun σ' => k rest σ'
    | 1 => am_bi (Γ r.1 as σ) fun x σ' => k (am_I x :: rest) σ'
    | 2 => am_bl (Γ r.1 as σ) fun x σ' => k (am_J x :: rest) σ'
    | _ => am_br (Γ r.1 as σ) fun c i σ' => k (.inr (c, i) :: rest) σ'
  else none
def am_rk (as : List am_V) (c : Nat) (r : am_R) : am_R := match as with
  | .inr (c', _) :: _ => bif Nat.beq c' c then r else none
  | _ => none
def am_st1 (k : List am_V → am_R) (ls : List am_V) (i : Nat) (v : am_V) : am_R :=
  bif Nat.blt i ls.length && (match ls[i - 1]? with | some (.inl (.long _)) => Nat.beq i 0 | some (.inl (.double _)) => Nat.beq i 0 | _ => true) then k (ls.set i v) else none
def am_st2 (k : List am_V → am_R) (ls : List am_V) (i : Nat) (v : am_V) : am_R :=
  bif Nat.blt (i + 1) ls.length && (match ls[i - 1]? with | some (.inl (.long _)) => Nat.beq i 0 | some (.inl (.double _)) => Nat.beq i 0 | _ => true) then k ((ls.set i v).set (i + 1) am_un) else none
def am_ldi (k : List am_V → am_R) (ls : List am_V) (i : Nat) (st : List am_V) : am_R := match ls[i]? with | some (.inl (.int x)) => k (am_I x :: st) | _ => none
def am_ldl (k : List am_V → am_R) (ls : List am_V) (i : Nat) (st : List am_V) : am_R := match ls[i]? with | some (.inl (.long x)) => k (am_J x :: st) | _ => none
def am_lda (k : List am_V → am_R) (ls : List am_V) (i : Nat) (st : List am_V) : am_R := match ls[i]? with | some (.inr q) => k (.inr q :: st) | _ => none
def am_acpy (X : am_X) (k : List am_V → am_S → am_R) (st : List am_V) (σ : am_S) : am_R := match st with
  | .inl (.int n) :: .inl (.int dp) :: .inr (c, i) :: .inl (.int sp) :: .inr (c0, i0) :: t =>
    bif Nat.blt c 200 && (Nat.blt c0 200 && (Nat.beq (am_tk c) (am_tk c0) && Nat.ble (am_cat t) 8)) then
      if n < 0 ∨ sp < 0 ∨ dp < 0 ∨ am_len X c0 i0 < sp.toNatClampNeg + n.toNatClampNeg ∨ am_len X c i < dp.toNatClampNeg + n.toNatClampNeg then none else
        match am_tk c with
        | 0 => k t (am_pis σ c i (va_cpy ((am_q σ c0).1 c0 i0) ((am_q σ c).1 c i) sp.toNatClampNeg dp.toNatClampNeg n.toNatClampNeg))
        | 1 => k t (am_pls σ c i (va_cpy ((am_q σ c0).2.1 c0 i0) ((am_q σ c).2.1 c i) sp.toNatClampNeg dp.toNatClampNeg n.toNatClampNeg))
        | _ => none
    else none
  | _ => none
/-- n rows of a kind, as one after another comes -/
def am_rows (σ : am_S) (c w : Nat) : Nat → am_S
  | 0 => σ
  | n + 1 => am_new (am_rows σ c w n) c w
/-- what stands in SIOOBE_FORMATTER: null, or a thing of its own -/
def am_fm (X : am_X) : am_V := if X.2 4096 = 1 then .inl .null else .inr (205, 0)
def am_ins (Γ : Nat → List am_V → am_S → am_R) (X : am_X) (k : Nat → List am_V → List am_V → am_S → am_R) (pc : Nat) (ins : Instr) (n : Nat) (r : Nat × Nat × Nat) (sw : List (Int × Nat)) (ls st : List am_V) (σ : am_S) : am_R := match ins with
  | .iconst v => k (pc + n) ls (am_I (Int32.ofInt v) :: st) σ
  | .bipush v => k (pc + n) ls (am_I (Int32.ofInt v) :: st) σ
  | .sipush v => k (pc + n) ls (am_I (Int32.ofInt v) :: st) σ
  | .lconst v => k (pc + n) ls (am_J (Int64.ofNat v) :: st) σ
  | .ldc _ => match r.2.2 with
    | 1 => k (pc + n) ls (am_I (Int32.ofNat r.1) :: st) σ
    | 2 => k (pc + n) ls (.inr (r.1, r.2.1) :: st) σ
    | _ => none
  | .ldc_w _ => match r.2.2 with
    | 1 => k (pc + n) ls (am_I (Int32.ofNat r.1) :: st) σ
    | _ => none
  | .ldc2_w _ => k (pc + n) ls (am_J (Int64.ofNat r.1) :: st) σ
  | .iload_n i => am_ldi (fun s => k (pc + n) ls s σ) ls i st
  | .iload i => am_ldi (fun s => k (pc + n) ls s σ) ls i st
  | .lload_n i => am_ldl (fun s => k (pc + n) ls s σ) ls i st
  | .lload i => am_ldl (fun s => k (pc + n) ls s σ) ls i st
  | .aload_n i => am_lda (fun s => k (pc + n) ls s σ) ls i st
  | .aload i => am_lda (fun s => k (pc + n) ls s σ) ls i st
  | .istore_n i => am_i1 st fun x t => am_st1 (fun l => k (pc + n) l t σ) ls i (am_I x)
  | .istore i => am_i1 st fun x t => am_st1 (fun l => k (pc + n) l t σ) ls i (am_I x)
  | .lstore_n i => am_j1 st fun x t => am_st2 (fun l => k (pc + n) l t σ) ls i (am_J x)
  | .lstore i => am_j1 st fun x t => am_st2 (fun l => k (pc + n) l t σ) ls i (am_J x)
  | .astore_n i => am_r1 st fun c q t => am_st1 (fun l => k (pc + n) l t σ) ls i (.inr (c, q))
  | .astore i => am_r1 st fun c q t => am_st1 (fun l => k (pc + n) l t σ) ls i (.inr (c, q))
  | .iinc i v => match ls[i]? with
    | some (.inl (.int x)) => am_st1 (fun l => k (pc + n) l st σ) ls i (am_I (x + Int32.ofInt v))
    | _ => none
  | .iadd => am_i2 st fun x y t => k (pc + n) ls (am_I (x + y) :: t) σ
  | .isub => am_i2 st fun x y t => k (pc + n) ls (am_I (x - y) :: t) σ
  | .imul => am_i2 st fun x y t => k (pc + n) ls (am_I (x * y) :: t) σ
  | .iand => am_i2 st fun x y t => k (pc + n) ls (am_I (x &&& y) :: t) σ
  | .ior => am_i2 st fun x y t => k (pc + n) ls (am_I (x ||| y) :: t) σ
  | .ixor => am_i2 st fun x y t => k (pc + n) ls (am_I (x ^^^ y) :: t) σ
  | .idiv => am_i2 st fun x y t => am_nz y (k (pc + n) ls (am_I (x / y) :: t) σ)
  | .irem => am_i2 st fun x y t => am_nz y (k (pc + n) ls (am_I (x - (x / y) * y) :: t) σ)
  | .ineg => am_i1 st fun x t => k (pc + n) ls (am_I (-x) :: t) σ
  | .ishl => am_i2 st fun x y t => k (pc + n) ls (am_I (x <<< (y &&& 31)) :: t) σ
  | .ishr => am_i2 st fun x y t => k (pc + n) ls (am_I (x >>> (y &&& 31)) :: t) σ
  | .iushr => am_i2 st fun x y t => k (pc + n) ls (am_I (x.toUInt32 >>> (y.toUInt32 &&& Int32.toUInt32 31)).toInt32 :: t) σ
  | .ladd => am_j2 st fun x y t => k (pc + n) ls (am_J (x + y) :: t) σ
  | .lsub => am_j2 st fun x y t => k (pc + n) ls (am_J (x - y) :: t) σ
  | .land => am_j2 st fun x y t => k (pc + n) ls (am_J (x &&& y) :: t) σ
  | .lor => am_j2 st fun x y t => k (pc + n) ls (am_J (x ||| y) :: t) σ
  | .lxor => am_j2 st fun x y t => k (pc + n) ls (am_J (x ^^^ y) :: t) σ
  | .lshl => am_ji st fun x y t => k (pc + n) ls (am_J (x <<< (y.toInt64 &&& 63)) :: t) σ
  | .lshr => am_ji st fun x y t => k (pc + n) ls (am_J (x >>> (y.toInt64 &&& 63)) :: t) σ
  | .lushr => am_ji st fun x y t => k (pc + n) ls (am_J (x.toUInt64 >>> (y.toInt64.toUInt64 &&& Int64.toUInt64 63)).toInt64 :: t) σ
  | .lcmp => am_j2 st fun x y t => k (pc + n) ls (am_I (lg_cmp x y) :: t) σ
  | .i2l => am_i1 st fun x t => k (pc + n) ls (am_J x.toInt64 :: t) σ
  | .l2i => am_j1 st fun x t => k (pc + n) ls (am_I x.toInt32 :: t) σ
  | .i2b => am_i1 st fun x t => k (pc + n) ls (am_I x.toInt8.toInt32 :: t) σ
  | .i2s => am_i1 st fun x t => k (pc + n) ls (am_I x.toInt16.toInt32 :: t) σ
  | .i2c => am_i1 st fun x t => k (pc + n) ls (am_I (x.toUInt32 % 65536).toInt32 :: t) σ
  | .dup => match st with
    | .inl (.int x) :: t => k (pc + n) ls (am_I x :: am_I x :: t) σ
    | .inr q :: t => k (pc + n) ls (.inr q :: .inr q :: t) σ
    | _ => none
  | .dup_x1 => match st with
    | .inl (.int x) :: .inr q :: t => k (pc + n) ls (am_I x :: .inr q :: am_I x :: t) σ
    | _ => none
  | .dup2 => match st with
    | .inl (.int x) :: .inr q :: t => k (pc + n) ls (am_I x :: .inr q :: am_I x :: .inr q :: t) σ
    | _ => none
  | .pop => am_i1 st fun _ t => k (pc + n) ls t σ
  | .goto _ => k r.1 ls st σ
  | .ifCond c _ => am_i1 st fun x t => am_cmp c x 0 (k r.1 ls t σ) (k (pc + n) ls t σ)
  | .if_icmp c _ => am_i2 st fun x y t => am_cmp c x y (k r.1 ls t σ) (k (pc + n) ls t σ)
  | .tableswitch _ _ _ _ => am_i1 st fun x t => am_sw (fun p => k p ls t σ) x sw r.1
  | .lookupswitch _ _ => am_i1 st fun x t => am_sw (fun p => k p ls t σ) x sw r.1
  | .getfield _ => am_r1 st fun c i t => bif Nat.beq c r.1 then (match r.2.2 with
    | 1 => k (pc + n) ls (am_J (am_gl σ c i r.2.1) :: t) σ
    | 2 => k (pc + n) ls (am_rv (am_go σ c i r.2.1) :: t) σ
    | _ => k (pc + n) ls (am_I (am_gs X σ c i r.2.1) :: t) σ) else none
  | .putfield _ => match r.2.2 with
    | 0 => am_ir st fun c i x t => bif Nat.beq c r.1 then k (pc + n) ls t (am_pi σ c i r.2.1 x) else none
    | 3 => am_ir st fun c i x t => bif Nat.beq c r.1 then am_bk x (k (pc + n) ls t (am_pi σ c i r.2.1 x)) else none
    | 2 => am_rr st fun c i c2 i2 t => bif Nat.beq c r.1 && (Nat.blt c2 200) then k (pc + n) ls t (am_po σ c i r.2.1 (some (c2, i2))) else none
    | _ => none
  | .getstatic _ => match r.2.2 with
    | 0 => k (pc + n) ls (am_I (Int32.ofNat r.1) :: st) σ
    | 1 => k (pc + n) ls ((bif Nat.beq r.1 205 then am_fm X else .inr (r.1, r.2.1)) :: st) σ
    | _ => none
  | .arraylength => am_r1 st fun c i t => bif Nat.beq (am_tk c) 9 then none else k (pc + n) ls (am_I (Int32.ofNat (am_len X c i)) :: t) σ
  | .iaload => am_ri st fun c i j t => bif Nat.beq (am_tk c) 0 then am_ck j (am_len X c i) (k (pc + n) ls (am_I (am_gs X σ c i j.toNatClampNeg) :: t) σ) else none
  | .baload => am_ri st fun c i j t => bif Nat.beq (am_tk c) 3 || Nat.beq (am_tk c) 4 then am_ck j (am_len X c i) (k (pc + n) ls (am_I (am_gs X σ c i j.toNatClampNeg) :: t) σ) else none
  | .laload => am_ri st fun c i j t => bif Nat.beq (am_tk c) 1 then am_ck j (am_len X c i) (k (pc + n) ls (am_J (am_gl σ c i j.toNatClampNeg) :: t) σ) else none
  | .aaload => am_ri st fun c i j t => bif Nat.beq (am_tk c) 2 then am_ck j (am_len X c i) (k (pc + n) ls (am_rv (am_go σ c i j.toNatClampNeg) :: t) σ) else none
  | .iastore => am_iri st fun c i j x t => bif Nat.beq (am_tk c) 0 && Nat.blt c 200 then am_ck j (am_len X c i) (k (pc + n) ls t (am_pi σ c i j.toNatClampNeg x)) else none
  | .bastore => am_iri st fun c i j x t => bif Nat.beq (am_tk c) 3 && Nat.blt c 200 then am_ck j (am_len X c i) (k (pc + n) ls t (am_pi σ c i j.toNatClampNeg x.toInt8.toInt32)) else
      bif Nat.beq (am_tk c) 4 && Nat.blt c 200 then am_ck j (am_len X c i) (am_bk x (k (pc + n) ls t (am_pi σ c i j.toNatClampNeg x))) else none
  | .lastore => am_jri st fun c i j x t => bif Nat.beq (am_tk c) 1 && Nat.blt c 200 then am_ck j (am_len X c i) (k (pc + n) ls t (am_pl σ c i j.toNatClampNeg x)) else none
  | .aastore => am_rri st fun c i j c2 i2 t => bif Nat.beq (am_tk c) 2 && (Nat.blt c 200 && Nat.beq (am_ec c) c2) then am_ck j (am_len X c i) (k (pc + n) ls t (am_po σ c i j.toNatClampNeg (some (c2, i2)))) else none
  | .new _ => k (pc + n) ls (.inr (r.1, σ.2.2.1 r.1) :: st) (am_new σ r.1 (am_nf r.1))
  | .newarray _ => am_i1 st fun x t => if x = Int32.ofNat (am_len X r.1 (σ.2.2.1 r.1)) ∧ am_len X r.1 (σ.2.2.1 r.1) ≤ 1000 then k (pc + n) ls (.inr (r.1, σ.2.2.1 r.1) :: t) (am_new σ r.1 (am_len X r.1 (σ.2.2.1 r.1))) else none
  | .anewarray _ => am_i1 st fun x t => if x = Int32.ofNat (am_len X r.1 (σ.2.2.1 r.1)) ∧ am_len X r.1 (σ.2.2.1 r.1) ≤ 1000 then k (pc + n) ls (.inr (r.1, σ.2.2.1 r.1) :: t) (am_new σ r.1 (am_len X r.1 (σ.2.2.1 r.1))) else none
  | .multianewarray _ _ => am_i2 st fun x y t =>
      let a := am_len X r.1 (σ.2.2.1 r.1)
      let b := am_len X r.2.1 0
      if x = Int32.ofNat a ∧ y = Int32.ofNat b ∧ a ≤ 1000 ∧ b ≤ 1000 ∧ (List.range a).all (fun j => Nat.beq (am_len X r.2.1 (σ.2.2.1 r.2.1 + j)) b) = true then
        let τ := am_new (am_rows σ r.2.1 b a) r.1 a
        k (pc + n) ls (.inr (r.1, σ.2.2.1 r.1) :: t) (am_pos τ r.1 (σ.2.2.1 r.1) (fun j => bif Nat.blt j a then some (r.2.1, σ.2.2.1 r.2.1 + j) else none))
      else none
  | .invokevirtual _ => match r.2.2 / 10 with
    | 0 => am_rk (st.drop r.2.1) (am_mc r.1) (am_call Γ (fun s σ' => k (pc + n) ls s σ') r true (r.2.2 % 10) st σ)
    | 5 => am_rk (st.drop r.2.1) (am_mc r.1) (am_call Γ (fun s σ' => k (pc + n) ls s σ') r true (r.2.2 % 10) st σ)
    | _ => none
  | .invokestatic _ => match r.2.2 / 10 with
    | 1 => am_call Γ (fun s σ' => k (pc + n) ls s σ') r false (r.2.2 % 10) st σ
    | 6 => am_call Γ (fun s σ' => k (pc + n) ls s σ') r false (r.2.2 % 10) st σ
    | 4 => am_acpy X (fun s σ' => k (pc + n) ls s σ') st σ
    | 8 => am_i2 st fun x y t => bif Nat.ble (am_cat t) 8 then k (pc + n) ls (am_I (bif Nat.beq r.1 0 then (if x < y then y else x) else (if y < x then y else x)) :: t) σ else none
    | _ => none
  | .invokespecial _ => match r.2.2 / 10 with
    | 3 => am_r1 st fun _ _ t => bif Nat.ble (am_cat t) 8 then k (pc + n) ls t σ else none
    | 2 => am_rk (st.drop r.2.1) (am_mc r.1) (am_call Γ (fun s σ' => k (pc + n) ls s σ') r true (r.2.2 % 10) st σ)
    | 7 => am_rk (st.drop r.2.1) (am_mc r.1) (am_call Γ (fun s σ' => k (pc + n) ls s σ') r true (r.2.2 % 10) st σ)
    | _ => none
  | .return_ => match st with | [] => some (none, σ) | _ => none
  | .ireturn => match st with
    | [.inl (.int x)] => match r.1 with
      | 0 => some (some (am_I x), σ)
      | 1 => am_bk x (some (some (am_I x), σ))
      | 2 => if (x.toUInt32 % 65536).toInt32 = x then some (some (am_I x), σ) else none
      | _ => none
    | _ => none
  | .lreturn => match st with | [.inl (.long x)] => some (some (am_J x), σ) | _ => none
  | .areturn => match st with | [.inr q] => some (some (.inr q), σ) | _ => none
  | _ => none
def am_find (pc : Nat) : List am_E → Option am_E
  | [] => none
  | e :: r => bif Nat.beq pc e.1 then some e else am_find pc r
def am_run (Γ : Nat → List am_V → am_S → am_R) (X : am_X) (P : List am_E) : Nat → Nat → List am_V → List am_V → am_S → am_R
  | 0, _, _, _, _ => none
  | F + 1, pc, ls, st, σ => match am_find pc P with
    | some e => am_ins Γ X (am_run Γ X P F) pc e.2.1 e.2.2.1 e.2.2.2.1 e.2.2.2.2 ls st σ
    | none => none

/-- what is asked goes on at one place at most -/
def am_K1 (G : (Nat → List am_V → List am_V → am_S → am_R) → am_R) : Prop :=
  (∃ r, ∀ k, G k = r) ∨ ∃ (pc : Nat) (ls st : List am_V) (σ : am_S), ∀ k, G k = k pc ls st σ
theorem am_K1c (r : am_R) : am_K1 (fun _ => r) := Or.inl ⟨r, fun _ => rfl⟩
theorem am_K1k (pc : Nat) (ls st : List am_V) (σ : am_S) : am_K1 (fun k => k pc ls st σ) := Or.inr ⟨pc, ls, st, σ, fun _ => rfl⟩
theorem am_K1i {c : Prop} [Decidable c] {G1 G2 : (Nat → List am_V → List am_V → am_S → am_R) → am_R} (h1 : am_K1 G1) (h2 : am_K1 G2) : am_K1 (fun k => if c then G1 k else G2 k) := by
  by_cases h : c
  · simp only [if_pos h]; exact h1
  · simp only [if_neg h]; exact h2
theorem am_K1b {c : Bool} {G1 G2 : (Nat → List am_V → List am_V → am_S → am_R) → am_R} (h1 : am_K1 G1) (h2 : am_K1 G2) : am_K1 (fun k => bif c then G1 k else G2 k) := by
  cases c
  · exact h2
  · exact h1
theorem am_K1ck {i : Int32} {n : Nat} {G : (Nat → List am_V → List am_V → am_S → am_R) → am_R} (h : am_K1 G) : am_K1 (fun k => am_ck i n (G k)) := am_K1i (am_K1c none) h
theorem am_K1bk {i : Int32} {G : (Nat → List am_V → List am_V → am_S → am_R) → am_R} (h : am_K1 G) : am_K1 (fun k => am_bk i (G k)) := am_K1i h (am_K1c none)
theorem am_K1nz {i : Int32} {G : (Nat → List am_V → List am_V → am_S → am_R) → am_R} (h : am_K1 G) : am_K1 (fun k => am_nz i (G k)) := am_K1i (am_K1c none) h
theorem am_K1i1 {st : List am_V} {G : (Nat → List am_V → List am_V → am_S → am_R) → Int32 → List am_V → am_R} (h : ∀ x t, am_K1 (fun k => G k x t)) : am_K1 (fun k => am_i1 st (G k)) := by
  unfold am_i1; split
  · exact h _ _
  · exact am_K1c none
theorem am_K1i2 {st : List am_V} {G : (Nat → List am_V → List am_V → am_S → am_R) → Int32 → Int32 → List am_V → am_R} (h : ∀ x y t, am_K1 (fun k => G k x y t)) : am_K1 (fun k => am_i2 st (G k)) := by
  unfold am_i2; split
  · exact h _ _ _
  · exact am_K1c none
theorem am_K1j1 {st : List am_V} {G : (Nat → List am_V → List am_V → am_S → am_R) → Int64 → List am_V → am_R} (h : ∀ x t, am_K1 (fun k => G k x t)) : am_K1 (fun k => am_j1 st (G k)) := by
  unfold am_j1; split
  · exact h _ _
  · exact am_K1c none
theorem am_K1j2 {st : List am_V} {G : (Nat → List am_V → List am_V → am_S → am_R) → Int64 → Int64 → List am_V → am_R} (h : ∀ x y t, am_K1 (fun k => G k x y t)) : am_K1 (fun k => am_j2 st (G k)) := by
  unfold am_j2; split
  · exact h _ _ _
  · exact am_K1c none
theorem am_K1ji {st : List am_V} {G : (Nat → List am_V → List am_V → am_S → am_R) → Int64 → Int32 → List am_V → am_R} (h : ∀ x y t, am_K1 (fun k => G k x y t)) : am_K1 (fun k => am_ji st (G k)) := by
  unfold am_ji; split
  · exact h _ _ _
  · exact am_K1c none
theorem am_K1r1 {st : List am_V} {G : (Nat → List am_V → List am_V → am_S → am_R) → Nat → Nat → List am_V → am_R} (h : ∀ x y t, am_K1 (fun k => G k x y t)) : am_K1 (fun k => am_r1 st (G k)) := by
  unfold am_r1; split
  · exact h _ _ _
  · exact am_K1c none
theorem am_K1ri {st : List am_V} {G : (Nat → List am_V → List am_V → am_S → am_R) → Nat → Nat → Int32 → List am_V → am_R} (h : ∀ x y z t, am_K1 (fun k => G k x y z t)) : am_K1 (fun k => am_ri st (G k)) := by
  unfold am_ri; split
  · exact h _ _ _ _
  · exact am_K1c none
theorem am_K1ir {st : List am_V} {G : (Nat → List am_V → List am_V → am_S → am_R) → Nat → Nat → Int32 → List am_V → am_R} (h : ∀ x y z t, am_K1 (fun k => G k x y z t)) : am_K1 (fun k => am_ir st (G k)) := by
  unfold am_ir; split
  · exact h _ _ _ _
  · exact am_K1c none
theorem am_K1rr {st : List am_V} {G : (Nat → List am_V → List am_V → am_S → am_R) → Nat → Nat → Nat → Nat → List am_V → am_R} (h : ∀ x y z w t, am_K1 (fun k => G k x y z w t)) : am_K1 (fun k => am_rr st (G k)) := by
  unfold am_rr; split
  · exact h _ _ _ _ _
  · exact am_K1c none
theorem am_K1iri {st : List am_V} {G : (Nat → List am_V → List am_V → am_S → am_R) → Nat → Nat → Int32 → Int32 → List am_V → am_R} (h : ∀ x y z w t, am_K1 (fun k => G k x y z w t)) : am_K1 (fun k => am_iri st (G k)) := by
  unfold am_iri; split
  · exact h _ _ _ _ _
  · exact am_K1c none
theorem am_K1jri {st : List am_V} {G : (Nat → List am_V → List am_V → am_S → am_R) → Nat → Nat → Int32 → Int64 → List am_V → am_R} (h : ∀ x y z w t, am_K1 (fun k => G k x y z w t)) : am_K1 (fun k => am_jri st (G k)) := by
  unfold am_jri; split
  · exact h _ _ _ _ _
  · exact am_K1c none
theorem am_K1rri {st : List am_V} {G : (Nat → List am_V → List am_V → am_S → am_R) → Nat → Nat → Int32 → Nat → Nat → List am_V → am_R} (h : ∀ x y z w v t, am_K1 (fun k => G k x y z w v t)) : am_K1 (fun k => am_rri st (G k)) := by
  unfold am_rri; split
  · exact h _ _ _ _ _ _
  · exact am_K1c none
theorem am_K1bi {r : am_R} {G : (Nat → List am_V → List am_V → am_S → am_R) → Int32 → am_S → am_R} (h : ∀ x t, am_K1 (fun k => G k x t)) : am_K1 (fun k => am_bi r (G k)) := by
  unfold am_bi; split
  · exact h _ _
  · exact am_K1c none
theorem am_K1bl {r : am_R} {G : (Nat → List am_V → List am_V → am_S → am_R) → Int64 → am_S → am_R} (h : ∀ x t, am_K1 (fun k => G k x t)) : am_K1 (fun k => am_bl r (G k)) := by
  unfold am_bl; split
  · exact h _ _
  · exact am_K1c none
theorem am_K1br {r : am_R} {G : (Nat → List am_V → List am_V → am_S → am_R) → Nat → Nat → am_S → am_R} (h : ∀ x y t, am_K1 (fun k => G k x y t)) : am_K1 (fun k => am_br r (G k)) := by
  unfold am_br; split
  · exact h _ _ _
  · exact am_K1c none
theorem am_K1bv {r : am_R} {G : (Nat → List am_V → List am_V → am_S → am_R) → am_S → am_R} (h : ∀ t, am_K1 (fun k => G k t)) : am_K1 (fun k => am_bv r (G k)) := by
  unfold am_bv; split
  · exact h _
  · exact am_K1c none
theorem am_K1cmp {c : ClassFile.Cond} {x y : Int32} {G1 G2 : (Nat → List am_V → List am_V → am_S → am_R) → am_R} (h1 : am_K1 G1) (h2 : am_K1 G2) : am_K1 (fun k => am_cmp c x y (G1 k) (G2 k)) := by
  cases c <;> exact am_K1i h1 h2
theorem am_K1sw {x : Int32} {G : (Nat → List am_V → List am_V → am_S → am_R) → Nat → am_R} (h : ∀ p, am_K1 (fun k => G k p)) (l : List (Int × Nat)) (d : Nat) : am_K1 (fun k => am_sw (G k) x l d) := by
  induction l with
  | nil => exact h d
  | cons q r ih => obtain ⟨v, t⟩ := q; exact am_K1i (h t) ih
theorem am_K1st1 {G : (Nat → List am_V → List am_V → am_S → am_R) → List am_V → am_R} (h : ∀ l, am_K1 (fun k => G k l)) (ls : List am_V) (i : Nat) (v : am_V) : am_K1 (fun k => am_st1 (G k) ls i v) := am_K1b (h _) (am_K1c none)
theorem am_K1st2 {G : (Nat → List am_V → List am_V → am_S → am_R) → List am_V → am_R} (h : ∀ l, am_K1 (fun k => G k l)) (ls : List am_V) (i : Nat) (v : am_V) : am_K1 (fun k => am_st2 (G k) ls i v) := am_K1b (h _) (am_K1c none)
theorem am_K1ldi {G : (Nat → List am_V → List am_V → am_S → am_R) → List am_V → am_R} (h : ∀ l, am_K1 (fun k => G k l)) (ls : List am_V) (i : Nat) (st : List am_V) : am_K1 (fun k => am_ldi (G k) ls i st) := by
  unfold am_ldi; split
  · exact h _
  · exact am_K1c none
theorem am_K1ldl {G : (Nat → List am_V → List am_V → am_S → am_R) → List am_V → am_R} (h : ∀ l, am_K1 (fun k => G k l)) (ls : List am_V) (i : Nat) (st : List am_V) : am_K1 (fun k => am_ldl (G k) ls i st) := by
  unfold am_ldl; split
  · exact h _
  · exact am_K1c none
theorem am_K1lda {G : (Nat → List am_V → List am_V → am_S → am_R) → List am_V → am_R} (h : ∀ l, am_K1 (fun k => G k l)) (ls : List am_V) (i : Nat) (st : List am_V) : am_K1 (fun k => am_lda (G k) ls i st) := by
  unfold am_lda; split
  · exact h _
  · exact am_K1c none
theorem am_K1rk {as : List am_V} {c : Nat} {G : (Nat → List am_V → List am_V → am_S → am_R) → am_R} (h : am_K1 G) : am_K1 (fun k => am_rk as c (G k)) := by
  unfold am_rk; split
  · exact am_K1b h (am_K1c none)
  · exact am_K1c none
theorem am_K1call {Γ : Nat → List am_V → am_S → am_R} {G : (Nat → List am_V → List am_V → am_S → am_R) → List am_V → am_S → am_R} (h : ∀ s τ, am_K1 (fun k => G k s τ)) (r : Nat × Nat × Nat) (b : Bool) (rt : Nat) (st : List am_V) (σ : am_S) : am_K1 (fun k => am_call Γ (G k) r b rt st σ) := by
  unfold am_call
  refine am_K1b ?_ (am_K1c none)
  split
  · exact am_K1bv fun _ => h _ _
  · exact am_K1bi fun _ _ => h _ _
  · exact am_K1bl fun _ _ => h _ _
  · exact am_K1br fun _ _ _ => h _ _
theorem am_K1acpy {X : am_X} {G : (Nat → List am_V → List am_V → am_S → am_R) → List am_V → am_S → am_R} (h : ∀ s τ, am_K1 (fun k => G k s τ)) (st : List am_V) (σ : am_S) : am_K1 (fun k => am_acpy X (G k) st σ) := by
  unfold am_acpy; split
  · refine am_K1b (am_K1i (am_K1c none) ?_) (am_K1c none)
    split
    · exact h _ _
    · exact h _ _
    · exact am_K1c none
  · exact am_K1c none
set_option maxHeartbeats 4000000 in
theorem am_K1ins (Γ : Nat → List am_V → am_S → am_R) (X : am_X) (pc : Nat) (ins : Instr) (n : Nat) (r : Nat × Nat × Nat) (sw : List (Int × Nat)) (ls st : List am_V) (σ : am_S) : am_K1 (fun k => am_ins Γ X k pc ins n r sw ls st σ) := by
  cases ins <;> simp only [am_ins] <;>
    repeat' (first
      | exact am_K1k _ _ _ _
      | exact am_K1c _
      | refine am_K1i1 fun _ _ => ?_ | refine am_K1i2 fun _ _ _ => ?_ | refine am_K1j1 fun _ _ => ?_ | refine am_K1j2 fun _ _ _ => ?_ | refine am_K1ji fun _ _ _ => ?_ | refine am_K1r1 fun _ _ _ => ?_
      | refine am_K1ri fun _ _ _ _ => ?_ | refine am_K1ir fun _ _ _ _ => ?_ | refine am_K1rr fun _ _ _ _ _ => ?_ | refine am_K1iri fun _ _ _ _ _ => ?_ | refine am_K1jri fun _ _ _ _ _ => ?_ | refine am_K1rri fun _ _ _ _ _ _ => ?_
      | refine am_K1st1 (fun _ => ?_) _ _ _ | refine am_K1st2 (fun _ => ?_) _ _ _ | refine am_K1ldi (fun _ => ?_) _ _ _ | refine am_K1ldl (fun _ => ?_) _ _ _ | refine am_K1lda (fun _ => ?_) _ _ _
      | refine am_K1cmp ?_ ?_ | refine am_K1sw (fun _ => ?_) _ _ | refine am_K1rk ?_ | refine am_K1call (fun _ _ => ?_) _ _ _ _ _ | refine am_K1acpy (fun _ _ => ?_) _ _
      | refine am_K1ck ?_ | refine am_K1bk ?_ | refine am_K1nz ?_ | refine am_K1b ?_ ?_ | refine am_K1i ?_ ?_
      | split)
theorem am_run_succ (Γ : Nat → List am_V → am_S → am_R) (X : am_X) (P : List am_E) : ∀ (F pc : Nat) (ls st : List am_V) (σ : am_S) (z : Option am_V × am_S), am_run Γ X P F pc ls st σ = some z → am_run Γ X P (F + 1) pc ls st σ = some z := by
  intro F
  induction F with
  | zero => intro pc ls st σ z h; exact absurd h (by simp [am_run])
  | succ F ih =>
    intro pc ls st σ z h
    rw [am_run] at h
    rw [am_run]
    cases hf : am_find pc P with
    | none => rw [hf] at h; exact absurd h (by simp)
    | some e =>
      rw [hf] at h
      dsimp only at h ⊢
      rcases am_K1ins Γ X pc e.2.1 e.2.2.1 e.2.2.2.1 e.2.2.2.2 ls st σ with ⟨r, hr⟩ | ⟨pc', ls', st', σ', hr⟩
      · dsimp only at hr; rw [hr] at h ⊢; exact h
      · dsimp only at hr; rw [hr] at h ⊢; exact ih _ _ _ _ _ h
theorem am_run_le (Γ : Nat → List am_V → am_S → am_R) (X : am_X) (P : List am_E) {F G pc : Nat} {ls st : List am_V} {σ : am_S} {z : Option am_V × am_S} (hle : F ≤ G) (h : am_run Γ X P F pc ls st σ = some z) : am_run Γ X P G pc ls st σ = some z := by
  obtain ⟨n, rfl⟩ := Nat.exists_eq_add_of_le hle
  clear hle
  induction n with
  | zero => exact h
  | succ n ih => exact am_run_succ Γ X P _ _ _ _ _ _ ih
/-- where it comes to, if it comes to an end -/
noncomputable def am_fix (Γ : Nat → List am_V → am_S → am_R) (X : am_X) (P : List am_E) (pc : Nat) (ls st : List am_V) (σ : am_S) : am_R :=
  Classical.epsilon fun r : am_R => (∃ F, r = am_run Γ X P F pc ls st σ ∧ r ≠ none) ∨ (r = none ∧ ∀ F, am_run Γ X P F pc ls st σ = none)
theorem am_fix_spec (Γ : Nat → List am_V → am_S → am_R) (X : am_X) (P : List am_E) (pc : Nat) (ls st : List am_V) (σ : am_S) :
    (∃ F, am_fix Γ X P pc ls st σ = am_run Γ X P F pc ls st σ ∧ am_fix Γ X P pc ls st σ ≠ none) ∨ (am_fix Γ X P pc ls st σ = none ∧ ∀ F, am_run Γ X P F pc ls st σ = none) := by
  refine Classical.epsilon_spec (p := fun r : am_R => (∃ F, r = am_run Γ X P F pc ls st σ ∧ r ≠ none) ∨ (r = none ∧ ∀ F, am_run Γ X P F pc ls st σ = none)) ?_
  by_cases h : ∃ F, am_run Γ X P F pc ls st σ ≠ none
  · obtain ⟨F, h⟩ := h
    exact ⟨_, Or.inl ⟨F, rfl, h⟩⟩
  · exact ⟨none, Or.inr ⟨rfl, fun F => Classical.byContradiction fun q => h ⟨F, q⟩⟩⟩
theorem am_fix_some {Γ : Nat → List am_V → am_S → am_R} {X : am_X} {P : List am_E} {pc : Nat} {ls st : List am_V} {σ : am_S} {z : Option am_V × am_S} (h : am_fix Γ X P pc ls st σ = some z) : ∃ F, am_run Γ X P F pc ls st σ = some z := by
  rcases am_fix_spec Γ X P pc ls st σ with ⟨F, h1, -⟩ | ⟨h1, -⟩
  · exact ⟨F, h1.symm.trans h⟩
  · rw [h1] at h; cases h
theorem am_fix_of {Γ : Nat → List am_V → am_S → am_R} {X : am_X} {P : List am_E} {F pc : Nat} {ls st : List am_V} {σ : am_S} {z : Option am_V × am_S} (h : am_run Γ X P F pc ls st σ = some z) : am_fix Γ X P pc ls st σ = some z := by
  rcases am_fix_spec Γ X P pc ls st σ with ⟨G, h1, h2⟩ | ⟨-, h2⟩
  · rw [h1]
    cases hz : am_run Γ X P G pc ls st σ with
    | none => rw [h1, hz] at h2; exact absurd rfl h2
    | some w =>
      have e1 := am_run_le Γ X P (Nat.le_max_left F G) h
      have e2 := am_run_le Γ X P (Nat.le_max_right F G) hz
      exact e2.symm.trans e1
  · rw [h2 F] at h; cases h
theorem am_fix_eq (Γ : Nat → List am_V → am_S → am_R) (X : am_X) (P : List am_E) (pc : Nat) (ls st : List am_V) (σ : am_S) :
    am_fix Γ X P pc ls st σ = match am_find pc P with
      | some e => am_ins Γ X (am_fix Γ X P) pc e.2.1 e.2.2.1 e.2.2.2.1 e.2.2.2.2 ls st σ
      | none => none := by
  cases hf : am_find pc P with
  | none =>
    rcases am_fix_spec Γ X P pc ls st σ with ⟨F, h1, h2⟩ | ⟨h1, -⟩
    · exfalso; apply h2; rw [h1]
      cases F with
      | zero => rfl
      | succ F => rw [am_run, hf]
    · exact h1
  | some e =>
    dsimp only
    rcases am_K1ins Γ X pc e.2.1 e.2.2.1 e.2.2.2.1 e.2.2.2.2 ls st σ with ⟨r, hr⟩ | ⟨pc', ls', st', σ', hr⟩
    · dsimp only at hr; rw [hr]
      cases r with
      | some z => exact am_fix_of (F := 1) (by rw [am_run, hf]; dsimp only; rw [hr])
      | none =>
        rcases am_fix_spec Γ X P pc ls st σ with ⟨F, h1, h2⟩ | ⟨h1, -⟩
        · exfalso; apply h2; rw [h1]
          cases F with
          | zero => rfl
          | succ F => rw [am_run, hf]; dsimp only; rw [hr]
        · exact h1
    · dsimp only at hr; rw [hr]
      have key : ∀ F, am_run Γ X P (F + 1) pc ls st σ = am_run Γ X P F pc' ls' st' σ' := fun F => by rw [am_run, hf]; dsimp only; rw [hr]
      rcases am_fix_spec Γ X P pc' ls' st' σ' with ⟨F, h1, h2⟩ | ⟨h1, h2⟩
      · rw [h1] at h2 ⊢
        cases hz : am_run Γ X P F pc' ls' st' σ' with
        | none => rw [hz] at h2; exact absurd rfl h2
        | some z => exact am_fix_of (F := F + 1) ((key F).trans hz)
      · rw [h1]
        rcases am_fix_spec Γ X P pc ls st σ with ⟨F, h3, h4⟩ | ⟨h3, -⟩
        · exfalso; apply h4; rw [h3]
          cases F with
          | zero => rfl
          | succ F => rw [key, h2]
        · exact h3
def am_mem (pc : Nat) : List Nat → Bool
  | [] => false
  | a :: r => bif Nat.beq pc a then true else am_mem pc r
/-- on to the next stop -/
def am_to (Γ : Nat → List am_V → am_S → am_R) (X : am_X) (P : List am_E) (S : List Nat) (k : Nat → List am_V → List am_V → am_S → am_R) : Nat → Nat → List am_V → List am_V → am_S → am_R
  | 0, pc, ls, st, σ => k pc ls st σ
  | n + 1, pc, ls, st, σ => bif am_mem pc S then k pc ls st σ else match am_find pc P with
    | some e => am_ins Γ X (am_to Γ X P S k n) pc e.2.1 e.2.2.1 e.2.2.2.1 e.2.2.2.2 ls st σ
    | none => none
theorem am_to_fix (Γ : Nat → List am_V → am_S → am_R) (X : am_X) (P : List am_E) (S : List Nat) (n : Nat) : am_to Γ X P S (am_fix Γ X P) n = am_fix Γ X P := by
  induction n with
  | zero => funext pc ls st σ; rfl
  | succ n ih =>
    funext pc ls st σ
    rw [am_to, ih]
    cases am_mem pc S with
    | true => rfl
    | false => exact (am_fix_eq Γ X P pc ls st σ).symm
def am_at (Γ : Nat → List am_V → am_S → am_R) (X : am_X) (P : List am_E) (S : List Nat) (k : Nat → List am_V → List am_V → am_S → am_R) (n pc : Nat) (ls st : List am_V) (σ : am_S) : am_R := match am_find pc P with
  | some e => am_ins Γ X (am_to Γ X P S k n) pc e.2.1 e.2.2.1 e.2.2.2.1 e.2.2.2.2 ls st σ
  | none => none
theorem am_blk {Γ : Nat → List am_V → am_S → am_R} {X : am_X} {P : List am_E} (S : List Nat) (n : Nat) {pc : Nat} {ls st : List am_V} {σ : am_S} {r : am_R} (h : am_at Γ X P S (am_fix Γ X P) n pc ls st σ = r) : am_fix Γ X P pc ls st σ = r := by
  rw [← h, am_fix_eq]
  unfold am_at
  rw [am_to_fix]
def am_fl : List am_V → List am_V
  | [] => []
  | .inl (.long x) :: t => am_J x :: am_un :: am_fl t
  | .inl (.double x) :: t => .inl (.double x) :: am_un :: am_fl t
  | v :: t => v :: am_fl t
def am_entry (n : Nat) (as : List am_V) : List am_V := am_fl as ++ List.replicate (n - (am_fl as).length) am_un
noncomputable def am_sem (X : am_X) : Nat → Nat → List am_V → am_S → am_R
  | 0, _, _, _ => none
  | d + 1, y, as, σ => match am_ML[y]? with
    | some mt => bif Nat.ble (am_fl as).length mt.2.2.1 then am_fix (am_sem X d) X mt.2.2.2.2.1 0 (am_entry mt.2.2.1 as) [] σ else none
    | none => none
/-- the same with a bound on its steps: it can be counted out -/
def am_cal (X : am_X) (F : Nat) : Nat → Nat → List am_V → am_S → am_R
  | 0, _, _, _ => none
  | d + 1, y, as, σ => match am_ML[y]? with
    | some mt => bif Nat.ble (am_fl as).length mt.2.2.1 then am_run (am_cal X F d) X mt.2.2.2.2.1 F 0 (am_entry mt.2.2.1 as) [] σ else none
    | none => none
end
section
/-! THE STATE behind the constructors: which thing refers to which stays, but for four references to offices -/
def am_rb18 (i : Nat) : Nat := ([0, 6, 14, 22, 28, 36, 44, 50, 58] : List Nat).getD i 0
def am_OC (u : Nat → Nat) (c i j : Nat) : Option (Nat × Nat) := bif Nat.ble 8 c then (bif Nat.ble 18 c then (bif Nat.ble 26 c then (bif Nat.ble 31 c then (bif Nat.beq c 31 then some (3, j + 1) else none) else (bif Nat.beq c 26 then some (27, j) else none)) else (bif Nat.ble 20 c then (bif Nat.beq c 20 then some (21, j) else none) else (bif Nat.beq c 18 then some (19, j + am_rb18 i) else none))) else (bif Nat.ble 12 c then (bif Nat.ble 13 c then (bif Nat.beq c 13 then some (1, j + 6 * i) else none) else (bif Nat.beq c 12 then some (5, j + 5 * i) else none)) else (bif Nat.ble 9 c then (bif Nat.beq c 9 then (bif Nat.ble 6 j then (bif Nat.ble 8 j then (bif Nat.ble 9 j then (bif Nat.beq j 9 then some (7, 0) else none) else (bif Nat.beq j 8 then some (0, 0) else none)) else (bif Nat.ble 7 j then (bif Nat.beq j 7 then some (8, 0) else none) else (bif Nat.beq j 6 then some (4, 0) else none))) else (bif Nat.ble 3 j then (bif Nat.ble 4 j then (bif Nat.beq j 4 then some (31, 0) else none) else (bif Nat.beq j 3 then some (2, 2) else none)) else (bif Nat.ble 1 j then (bif Nat.beq j 1 then some (2, 1) else none) else (bif Nat.beq j 0 then some (2, 0) else none)))) else none) else (bif Nat.beq c 8 then (bif Nat.ble 6 j then (bif Nat.ble 7 j then (bif Nat.ble 8 j then (bif Nat.beq j 8 then some (30, 0) else none) else (bif Nat.beq j 7 then some (29, 0) else none)) else (bif Nat.beq j 6 then some (28, 0) else none)) else (bif Nat.ble 4 j then (bif Nat.ble 5 j then (bif Nat.beq j 5 then some (26, 0) else none) else (bif Nat.beq j 4 then some (25, 0) else none)) else (bif Nat.beq j 3 then some (24, 0) else none))) else none)))) else (bif Nat.ble 3 c then (bif Nat.ble 6 c then (bif Nat.ble 7 c then (bif Nat.beq c 7 then (bif Nat.ble 1 j then (bif Nat.ble 2 j then (bif Nat.beq j 2 then some (23, 0) else none) else (bif Nat.beq j 1 then some (22, 0) else none)) else (bif Nat.beq j 0 then some (20, 0) else none)) else none) else (bif Nat.beq c 6 then (bif Nat.beq j 0 then some (18, i) else none) else none)) else (bif Nat.ble 4 c then (bif Nat.beq c 4 then (bif Nat.ble 4 j then (bif Nat.beq j 4 then some (3, u 3) else none) else (bif Nat.beq j 0 then some (17, 0) else none)) else none) else (bif Nat.beq c 3 then (bif Nat.ble 4 j then (bif Nat.ble 5 j then (bif Nat.beq j 5 then some (16, i) else none) else (bif Nat.beq j 4 then some (15, i) else none)) else (bif Nat.beq j 3 then some (14, i) else none)) else none))) else (bif Nat.ble 1 c then (bif Nat.ble 2 c then (bif Nat.beq c 2 then (bif Nat.ble 7 j then (bif Nat.ble 8 j then (bif Nat.ble 9 j then (bif Nat.beq j 9 then some (6, 3 * i + 2) else none) else (bif Nat.beq j 8 then some (6, 3 * i + 1) else none)) else (bif Nat.beq j 7 then some (6, 3 * i) else none)) else (bif Nat.ble 1 j then (bif Nat.ble 5 j then (bif Nat.beq j 5 then some (3, u i) else none) else (bif Nat.beq j 1 then some (13, i) else none)) else (bif Nat.beq j 0 then some (12, i) else none))) else none) else (bif Nat.beq c 1 then (bif Nat.beq j 7 then some (11, i) else none) else none)) else (bif Nat.beq c 0 then (bif Nat.beq j 0 then some (10, 0) else none) else none)))
def am_OM (c i j : Nat) : Option (Nat × Nat) := bif Nat.beq c 50 then (bif Nat.ble 43 j then (bif Nat.ble 68 j then (bif Nat.ble 75 j then (bif Nat.ble 79 j then (bif Nat.ble 81 j then (bif Nat.ble 82 j then (bif Nat.beq j 82 then some (105, 0) else none) else (bif Nat.beq j 81 then some (104, 0) else none)) else (bif Nat.ble 80 j then (bif Nat.beq j 80 then some (103, 0) else none) else (bif Nat.beq j 79 then some (102, 0) else none))) else (bif Nat.ble 76 j then (bif Nat.ble 78 j then (bif Nat.beq j 78 then some (101, 0) else none) else (bif Nat.beq j 76 then some (100, 0) else none)) else (bif Nat.beq j 75 then some (99, 0) else none))) else (bif Nat.ble 71 j then (bif Nat.ble 73 j then (bif Nat.ble 74 j then (bif Nat.beq j 74 then some (98, 0) else none) else (bif Nat.beq j 73 then some (97, 0) else none)) else (bif Nat.ble 72 j then (bif Nat.beq j 72 then some (96, 0) else none) else (bif Nat.beq j 71 then some (95, 0) else none))) else (bif Nat.ble 69 j then (bif Nat.ble 70 j then (bif Nat.beq j 70 then some (94, 0) else none) else (bif Nat.beq j 69 then some (93, 0) else none)) else (bif Nat.beq j 68 then some (92, 0) else none)))) else (bif Nat.ble 61 j then (bif Nat.ble 64 j then (bif Nat.ble 66 j then (bif Nat.ble 67 j then (bif Nat.beq j 67 then some (91, 0) else none) else (bif Nat.beq j 66 then some (90, 0) else none)) else (bif Nat.ble 65 j then (bif Nat.beq j 65 then some (89, 0) else none) else (bif Nat.beq j 64 then some (88, 0) else none))) else (bif Nat.ble 62 j then (bif Nat.ble 63 j then (bif Nat.beq j 63 then some (87, 0) else none) else (bif Nat.beq j 62 then some (86, 0) else none)) else (bif Nat.beq j 61 then some (85, 0) else none))) else (bif Nat.ble 48 j then (bif Nat.ble 50 j then (bif Nat.ble 51 j then (bif Nat.beq j 51 then some (84, 0) else none) else (bif Nat.beq j 50 then some (83, 0) else none)) else (bif Nat.ble 49 j then (bif Nat.beq j 49 then some (82, 0) else none) else (bif Nat.beq j 48 then some (81, 0) else none))) else (bif Nat.ble 44 j then (bif Nat.ble 47 j then (bif Nat.beq j 47 then some (80, 0) else none) else (bif Nat.beq j 44 then some (79, 0) else none)) else (bif Nat.beq j 43 then some (78, 0) else none))))) else (bif Nat.ble 22 j then (bif Nat.ble 35 j then (bif Nat.ble 38 j then (bif Nat.ble 41 j then (bif Nat.ble 42 j then (bif Nat.beq j 42 then some (77, 0) else none) else (bif Nat.beq j 41 then some (76, 0) else none)) else (bif Nat.ble 39 j then (bif Nat.beq j 39 then some (75, 0) else none) else (bif Nat.beq j 38 then some (74, 0) else none))) else (bif Nat.ble 36 j then (bif Nat.ble 37 j then (bif Nat.beq j 37 then some (73, 0) else none) else (bif Nat.beq j 36 then some (72, 0) else none)) else (bif Nat.beq j 35 then some (71, 0) else none))) else (bif Nat.ble 28 j then (bif Nat.ble 31 j then (bif Nat.ble 32 j then (bif Nat.beq j 32 then some (70, 0) else none) else (bif Nat.beq j 31 then some (69, 0) else none)) else (bif Nat.ble 30 j then (bif Nat.beq j 30 then some (68, 0) else none) else (bif Nat.beq j 28 then some (67, 0) else none))) else (bif Nat.ble 23 j then (bif Nat.ble 24 j then (bif Nat.beq j 24 then some (66, 0) else none) else (bif Nat.beq j 23 then some (65, 0) else none)) else (bif Nat.beq j 22 then some (64, 0) else none)))) else (bif Nat.ble 10 j then (bif Nat.ble 18 j then (bif Nat.ble 20 j then (bif Nat.ble 21 j then (bif Nat.beq j 21 then some (63, 0) else none) else (bif Nat.beq j 20 then some (62, 0) else none)) else (bif Nat.ble 19 j then (bif Nat.beq j 19 then some (61, 0) else none) else (bif Nat.beq j 18 then some (60, 0) else none))) else (bif Nat.ble 11 j then (bif Nat.ble 17 j then (bif Nat.beq j 17 then some (59, 0) else none) else (bif Nat.beq j 11 then some (58, 0) else none)) else (bif Nat.beq j 10 then some (57, 0) else none))) else (bif Nat.ble 7 j then (bif Nat.ble 8 j then (bif Nat.ble 9 j then (bif Nat.beq j 9 then some (56, 0) else none) else (bif Nat.beq j 8 then some (55, 0) else none)) else (bif Nat.beq j 7 then some (54, 0) else none)) else (bif Nat.ble 5 j then (bif Nat.ble 6 j then (bif Nat.beq j 6 then some (53, 0) else none) else (bif Nat.beq j 5 then some (52, 0) else none)) else (bif Nat.beq j 4 then some (51, 0) else none)))))) else none
def am_cnt (c : Nat) : Nat := bif Nat.ble 14 c then (bif Nat.ble 21 c then (bif Nat.ble 27 c then (bif Nat.ble 28 c then (bif Nat.ble 50 c then (bif Nat.ble 50 c && Nat.ble c 105 then 1 else 0) else (bif Nat.ble 28 c && Nat.ble c 31 then 1 else 0)) else (bif Nat.beq c 27 then 6 else 0)) else (bif Nat.ble 22 c then (bif Nat.ble 22 c && Nat.ble c 26 then 1 else 0) else (bif Nat.beq c 21 then 6 else 0))) else (bif Nat.ble 18 c then (bif Nat.ble 19 c then (bif Nat.ble 20 c then (bif Nat.beq c 20 then 1 else 0) else (bif Nat.beq c 19 then 66 else 0)) else (bif Nat.beq c 18 then 9 else 0)) else (bif Nat.ble 17 c then (bif Nat.beq c 17 then 1 else 0) else (bif Nat.ble 14 c && Nat.ble c 16 then 7 else 0)))) else (bif Nat.ble 5 c then (bif Nat.ble 7 c then (bif Nat.ble 11 c then (bif Nat.ble 12 c then (bif Nat.ble 12 c && Nat.ble c 13 then 3 else 0) else (bif Nat.beq c 11 then 18 else 0)) else (bif Nat.ble 7 c && Nat.ble c 10 then 1 else 0)) else (bif Nat.ble 6 c then (bif Nat.beq c 6 then 9 else 0) else (bif Nat.beq c 5 then 15 else 0))) else (bif Nat.ble 2 c then (bif Nat.ble 3 c then (bif Nat.ble 4 c then (bif Nat.beq c 4 then 1 else 0) else (bif Nat.beq c 3 then 7 else 0)) else (bif Nat.beq c 2 then 3 else 0)) else (bif Nat.ble 1 c then (bif Nat.beq c 1 then 18 else 0) else (bif Nat.beq c 0 then 1 else 0))))
def am_st (a : Nat → Nat → Nat → Int32) (b : Nat → Nat → Nat → Int64) (u : Nat → Nat) (e : Nat → Nat → Nat → Int32) (f : Nat → Nat → Nat → Int64) : am_S := ((a, b, am_OC u), (e, f, am_OM), am_cnt, 257, 4340)
end
section
/-! WHAT THE ABSTRACT MACHINE IS WORTH, 1: the made things in the heap -/
def am_cv (ad : Nat → Nat → Nat) : am_V → Value
  | .inl v => v
  | .inr q => .ref (ad q.1 q.2)
def am_rf (ad : Nat → Nat → Nat) (o : Option (Nat × Nat)) : Option Nat := o.map fun q => ad q.1 q.2
theorem am_cv_rv (ad : Nat → Nat → Nat) (o : Option (Nat × Nat)) : am_cv ad (am_rv o) = va_rf (am_rf ad o) := by
  cases o <;> rfl
def am_fv (X : am_X) (ad : Nat → Nat → Nat) (σ : am_S) (c i j : Nat) : Value := match am_fk c j with
  | 1 => .long (am_gl σ c i j)
  | 2 => va_rf (am_rf ad (am_go σ c i j))
  | _ => .int (am_gs X σ c i j)
def am_row (X : am_X) (ad : Nat → Nat → Nat) (σ : am_S) (c i : Nat) : vp_A := (am_len X c i, match am_tk c with
  | 1 => .inr (.inl (am_gl σ c i))
  | 2 => .inr (.inr (.inr (.inr fun j => am_rf ad (am_go σ c i j))))
  | _ => .inl (am_gs X σ c i))
def am_obj (X : am_X) (ad : Nat → Nat → Nat) (σ : am_S) (c i : Nat) : List Value := (List.range (am_nf c)).map (am_fv X ad σ c i)
def am_cell (X : am_X) (ad : Nat → Nat → Nat) (cA : Nat → Nat → ClassId) (σ : am_S) (c i : Nat) : va_E :=
  bif Nat.beq (am_tk c) 9 then .inr (am_ci c, am_obj X ad σ c i) else .inl (cA c i, am_row X ad σ c i)
def am_ok (σ : am_S) (c i : Nat) : Prop := c < 200 ∧ i < σ.2.2.1 c
def am_W (X : am_X) (D : va_G) (A : Nat → Prop) (s : State) (ad : Nat → Nat → Nat) (cA : Nat → Nat → ClassId) (σ : am_S) (H : Heap) : Prop :=
  ∃ ws : va_W, va_P D am_CL ws H ∧ va_D A ws ∧ (∀ c i, am_ok σ c i → ∃ k : Nat, ws[k]? = some (ad c i, am_cell X ad cA σ c i)) ∧
    (∀ c i, am_ok σ c i → am_tk c ≠ 9 → ArrOfT s (cA c i) (am_ty c) ∧ va_RA s (cA c i) (am_ty c)) ∧
    (∀ c i c' i', am_ok σ c i → am_ok σ c' i' → ad c i = ad c' i' → c = c' ∧ i = i') ∧
    (∀ c i j q, am_ok σ c i → am_go σ c i j = some q → am_ok σ q.1 q.2)
theorem am_W_moved {X : am_X} {D : va_G} {A : Nat → Prop} {s u : State} {ad : Nat → Nat → Nat} {cA : Nat → Nat → ClassId} {σ : am_S} {H : Heap} (hvm : s.vm.Alike u.vm) (h : am_W X D A s ad cA σ H) : am_W X D A u ad cA σ H := by
  obtain ⟨ws, h1, h2, h3, h4, h5⟩ := h
  exact ⟨ws, h1, h2, h3, fun c i hv ht => ⟨arrOfT_moved hvm (h4 c i hv ht).1, (h4 c i hv ht).2.moved hvm⟩, h5⟩
theorem am_W_weak {X : am_X} {D : va_G} {A B : Nat → Prop} {s : State} {ad : Nat → Nat → Nat} {cA : Nat → Nat → ClassId} {σ : am_S} {H : Heap} (hAB : ∀ q, A q → B q) (h : am_W X D A s ad cA σ H) : am_W X D B s ad cA σ H := by
  obtain ⟨ws, h1, h2, h3⟩ := h
  exact ⟨ws, h1, ⟨h2.1, fun k q hk => hAB _ (h2.2 k q hk)⟩, h3⟩
theorem am_W_in {X : am_X} {D : va_G} {A : Nat → Prop} {s : State} {ad : Nat → Nat → Nat} {cA : Nat → Nat → ClassId} {σ : am_S} {H : Heap} (h : am_W X D A s ad cA σ H) {c i : Nat} (hv : am_ok σ c i) : A (ad c i) := by
  obtain ⟨ws, h1, h2, h3, -⟩ := h
  obtain ⟨k, hk⟩ := h3 c i hv
  exact h2.2 k _ hk
theorem am_W_lt {X : am_X} {D : va_G} {A : Nat → Prop} {s : State} {ad : Nat → Nat → Nat} {cA : Nat → Nat → ClassId} {σ : am_S} {H : Heap} (h : am_W X D A s ad cA σ H) {c i : Nat} (hv : am_ok σ c i) : ad c i < H.size := by
  obtain ⟨ws, h1, h2, h3, -⟩ := h
  obtain ⟨k, hk⟩ := h3 c i hv
  exact (h1 k _ hk).lt
/-- one of them is written -/
theorem am_W_set {X : am_X} {D : va_G} {A : Nat → Prop} {s : State} {ad : Nat → Nat → Nat} {cA : Nat → Nat → ClassId} {σ σ' : am_S} {H1 : Heap} {ws : va_W} {c i k : Nat} {E : va_E}
    (hk : ws[k]? = some (ad c i, am_cell X ad cA σ c i)) (hv : am_ok σ c i)
    (h3 : ∀ c i, am_ok σ c i → ∃ k : Nat, ws[k]? = some (ad c i, am_cell X ad cA σ c i)) (h4 : ∀ c i, am_ok σ c i → am_tk c ≠ 9 → ArrOfT s (cA c i) (am_ty c) ∧ va_RA s (cA c i) (am_ty c))
    (h5 : ∀ c i c' i', am_ok σ c i → am_ok σ c' i' → ad c i = ad c' i' → c = c' ∧ i = i') (h6 : ∀ c i j q, am_ok σ' c i → am_go σ' c i j = some q → am_ok σ' q.1 q.2)
    (hP1 : va_P D am_CL (ws.set k (ad c i, E)) H1) (hD1 : va_D A (ws.set k (ad c i, E))) (he : E = am_cell X ad cA σ' c i)
    (hcn : σ'.2.2.1 = σ.2.2.1) (ho : ∀ c' i', ¬ (c' = c ∧ i' = i) → am_cell X ad cA σ' c' i' = am_cell X ad cA σ c' i') : am_W X D A s ad cA σ' H1 := by
  have hok : ∀ c i, am_ok σ' c i ↔ am_ok σ c i := fun c i => by unfold am_ok; rw [hcn]
  refine ⟨_, hP1, hD1, fun c' i' hv' => ?_, fun c' i' hv' => h4 c' i' ((hok _ _).mp hv'), fun c1 i1 c2 i2 h1 h2 => h5 c1 i1 c2 i2 ((hok _ _).mp h1) ((hok _ _).mp h2), h6⟩
  by_cases e : c' = c ∧ i' = i
  · obtain ⟨rfl, rfl⟩ := e
    refine ⟨k, ?_⟩
    rw [List.getElem?_set_self (List.getElem?_eq_some_iff.mp hk).1, he]
  · obtain ⟨k', hk'⟩ := h3 c' i' ((hok _ _).mp hv')
    refine ⟨k', ?_⟩
    have hne : k ≠ k' := by
      intro q
      subst q
      rw [hk] at hk'
      have := (Prod.mk.inj (Option.some.inj hk')).1
      obtain ⟨e1, e2⟩ := h5 c i c' i' hv ((hok _ _).mp hv') this
      exact e ⟨e1.symm, e2.symm⟩
    rw [List.getElem?_set_ne hne, hk', ho c' i' e]
-- reading what was written
theorem am_q_sq (σ : am_S) (c : Nat) (q : am_Q) (c' : Nat) : am_q (am_sq σ c q) c' = bif (Nat.ble 50 c' == Nat.ble 50 c) then q else am_q σ c' := by
  unfold am_q am_sq
  cases Nat.ble 50 c <;> cases Nat.ble 50 c' <;> rfl
theorem am_cn_sq (σ : am_S) (c : Nat) (q : am_Q) : (am_sq σ c q).2.2 = σ.2.2 := by
  unfold am_sq
  cases Nat.ble 50 c <;> rfl
theorem am_nbf {a b : Nat} (h : ¬ a = b) : Nat.beq a b = false := by
  cases e : Nat.beq a b with
  | false => rfl
  | true => exact absurd (Nat.eq_of_beq_eq_true e) h
theorem am_nbt (a : Nat) : Nat.beq a a = true := Nat.beq_refl a
theorem am_w3_eq {α : Type} (f : Nat → Nat → Nat → α) (c i j : Nat) (x : α) (c' i' j' : Nat) : am_w3 f c i j x c' i' j' = if c' = c ∧ i' = i ∧ j' = j then x else f c' i' j' := by
  unfold am_w3
  by_cases h1 : c' = c
  · by_cases h2 : j' = j
    · by_cases h3 : i' = i
      · subst h1; subst h2; subst h3; simp [am_nbt]
      · simp [h1, h2, h3, am_nbt, am_nbf h3]
    · simp [h1, h2, am_nbt, am_nbf h2]
  · simp [h1, am_nbf h1]
theorem am_ble_lt {c : Nat} (h : c < 200) : Nat.ble 200 c = false := by
  cases e : Nat.ble 200 c with
  | false => rfl
  | true => exact absurd (Nat.le_of_ble_eq_true e) (by omega)
theorem am_gs_lt (X : am_X) (σ : am_S) {c : Nat} (h : c < 200) (i j : Nat) : am_gs X σ c i j = (am_q σ c).1 c i j := by
  unfold am_gs; rw [am_ble_lt h]; rfl
theorem am_go_lt (σ : am_S) {c : Nat} (h : c < 200) (i j : Nat) : am_go σ c i j = (am_q σ c).2.2 c i j := by
  unfold am_go; rw [am_ble_lt h]; rfl
theorem am_gs_ge (X : am_X) (σ τ : am_S) {c : Nat} (h : Nat.ble 200 c = true) (i j : Nat) : am_gs X σ c i j = am_gs X τ c i j := by
  unfold am_gs; rw [h]; rfl
theorem am_go_ge (σ τ : am_S) {c : Nat} (h : Nat.ble 200 c = true) (i j : Nat) : am_go σ c i j = am_go τ c i j := by
  unfold am_go; rw [h]; rfl
theorem am_gs_pi (X : am_X) (σ : am_S) {c : Nat} (h : c < 200) (i j : Nat) (x : Int32) (c' i' j' : Nat) : am_gs X (am_pi σ c i j x) c' i' j' = if c' = c ∧ i' = i ∧ j' = j then x else am_gs X σ c' i' j' := by
  cases e : Nat.ble 200 c' with
  | true =>
    have : c' ≠ c := fun q => by rw [q, am_ble_lt h] at e; cases e
    rw [if_neg (fun q => this q.1)]
    exact am_gs_ge X _ _ e _ _
  | false =>
    unfold am_gs
    rw [e]
    show (am_q (am_pi σ c i j x) c').1 c' i' j' = if c' = c ∧ i' = i ∧ j' = j then x else (am_q σ c').1 c' i' j'
    unfold am_pi
    rw [am_q_sq]
    cases e2 : (Nat.ble 50 c' == Nat.ble 50 c) with
    | false =>
      have : c' ≠ c := fun q => by rw [q] at e2; simp at e2
      rw [if_neg (fun q => this q.1)]; rfl
    | true =>
      show (am_w3 _ c i j x) c' i' j' = _
      rw [am_w3_eq]
      have : am_q σ c' = am_q σ c := by unfold am_q; rw [beq_iff_eq.mp e2]
      rw [this]
theorem am_gl_pi (σ : am_S) (c i j : Nat) (x : Int32) (c' i' j' : Nat) : am_gl (am_pi σ c i j x) c' i' j' = am_gl σ c' i' j' := by
  unfold am_gl am_pi
  rw [am_q_sq]
  cases e2 : (Nat.ble 50 c' == Nat.ble 50 c) with
  | false => rfl
  | true => have : am_q σ c' = am_q σ c := by unfold am_q; rw [beq_iff_eq.mp e2]
            rw [this]; rfl
theorem am_go_pi (σ : am_S) (c i j : Nat) (x : Int32) (c' i' j' : Nat) : am_go (am_pi σ c i j x) c' i' j' = am_go σ c' i' j' := by
  unfold am_go am_pi
  rw [am_q_sq]
  cases e2 : (Nat.ble 50 c' == Nat.ble 50 c) with
  | false => rfl
  | true => have : am_q σ c' = am_q σ c := by unfold am_q; rw [beq_iff_eq.mp e2]
            rw [this]; rfl
theorem am_gl_pl (σ : am_S) (c i j : Nat) (x : Int64) (c' i' j' : Nat) : am_gl (am_pl σ c i j x) c' i' j' = if c' = c ∧ i' = i ∧ j' = j then x else am_gl σ c' i' j' := by
  unfold am_gl am_pl
  rw [am_q_sq]
  cases e2 : (Nat.ble 50 c' == Nat.ble 50 c) with
  | false =>
    have : c' ≠ c := fun q => by rw [q] at e2; simp at e2
    rw [if_neg (fun q => this q.1)]; rfl
  | true =>
    show (am_w3 _ c i j x) c' i' j' = _
    rw [am_w3_eq]
    have : am_q σ c' = am_q σ c := by unfold am_q; rw [beq_iff_eq.mp e2]
    rw [this]
theorem am_gs_pl (X : am_X) (σ : am_S) (c i j : Nat) (x : Int64) (c' i' j' : Nat) : am_gs X (am_pl σ c i j x) c' i' j' = am_gs X σ c' i' j' := by
  unfold am_gs am_pl
  rw [am_q_sq]
  cases e2 : (Nat.ble 50 c' == Nat.ble 50 c) with
  | false => rfl
  | true => have : am_q σ c' = am_q σ c := by unfold am_q; rw [beq_iff_eq.mp e2]
            rw [this]; rfl
theorem am_go_pl (σ : am_S) (c i j : Nat) (x : Int64) (c' i' j' : Nat) : am_go (am_pl σ c i j x) c' i' j' = am_go σ c' i' j' := by
  unfold am_go am_pl
  rw [am_q_sq]
  cases e2 : (Nat.ble 50 c' == Nat.ble 50 c) with
  | false => rfl
  | true => have : am_q σ c' = am_q σ c := by unfold am_q; rw [beq_iff_eq.mp e2]
            rw [this]; rfl
theorem am_go_po (σ : am_S) {c : Nat} (h : c < 200) (i j : Nat) (x : Option (Nat × Nat)) (c' i' j' : Nat) : am_go (am_po σ c i j x) c' i' j' = if c' = c ∧ i' = i ∧ j' = j then x else am_go σ c' i' j' := by
  cases e : Nat.ble 200 c' with
  | true =>
    have : c' ≠ c := fun q => by rw [q, am_ble_lt h] at e; cases e
    rw [if_neg (fun q => this q.1)]
    exact am_go_ge _ _ e _ _
  | false =>
    unfold am_go
    rw [e]
    show (am_q (am_po σ c i j x) c').2.2 c' i' j' = if c' = c ∧ i' = i ∧ j' = j then x else (am_q σ c').2.2 c' i' j'
    unfold am_po
    rw [am_q_sq]
    cases e2 : (Nat.ble 50 c' == Nat.ble 50 c) with
    | false =>
      have : c' ≠ c := fun q => by rw [q] at e2; simp at e2
      rw [if_neg (fun q => this q.1)]; rfl
    | true =>
      show (am_w3 _ c i j x) c' i' j' = _
      rw [am_w3_eq]
      have : am_q σ c' = am_q σ c := by unfold am_q; rw [beq_iff_eq.mp e2]
      rw [this]
theorem am_gs_po (X : am_X) (σ : am_S) (c i j : Nat) (x : Option (Nat × Nat)) (c' i' j' : Nat) : am_gs X (am_po σ c i j x) c' i' j' = am_gs X σ c' i' j' := by
  unfold am_gs am_po
  rw [am_q_sq]
  cases e2 : (Nat.ble 50 c' == Nat.ble 50 c) with
  | false => rfl
  | true => have : am_q σ c' = am_q σ c := by unfold am_q; rw [beq_iff_eq.mp e2]
            rw [this]; rfl
theorem am_gl_po (σ : am_S) (c i j : Nat) (x : Option (Nat × Nat)) (c' i' j' : Nat) : am_gl (am_po σ c i j x) c' i' j' = am_gl σ c' i' j' := by
  unfold am_gl am_po
  rw [am_q_sq]
  cases e2 : (Nat.ble 50 c' == Nat.ble 50 c) with
  | false => rfl
  | true => have : am_q σ c' = am_q σ c := by unfold am_q; rw [beq_iff_eq.mp e2]
            rw [this]; rfl
/-- cells with the same contents -/
theorem am_cell_eq {X : am_X} {ad : Nat → Nat → Nat} {cA : Nat → Nat → ClassId} {σ σ' : am_S} {c i : Nat} (h1 : ∀ j, am_gs X σ' c i j = am_gs X σ c i j) (h2 : ∀ j, am_gl σ' c i j = am_gl σ c i j) (h3 : ∀ j, am_go σ' c i j = am_go σ c i j) : am_cell X ad cA σ' c i = am_cell X ad cA σ c i := by
  have e1 : am_gs X σ' c i = am_gs X σ c i := funext h1
  have e2 : am_gl σ' c i = am_gl σ c i := funext h2
  have e3 : am_go σ' c i = am_go σ c i := funext h3
  unfold am_cell am_row am_obj am_fv
  simp only [e1, e2, e3]
theorem am_map_set {β : Type} (n j : Nat) (f g : Nat → β) (x : β) (hx : g j = x) (hg : ∀ k, k ≠ j → g k = f k) : ((List.range n).map f).set j x = (List.range n).map g := by
  apply List.ext_getElem?
  intro k
  rw [List.getElem?_set]
  by_cases h : j = k
  · subst h
    by_cases hk : j < n
    · simp [hk, hx]
    · simp [hk]
  · rw [if_neg h]
    by_cases hk : k < n
    · simp [hk, hg k (fun q => h q.symm)]
    · simp [hk]
end
section
/-! WHAT THE ABSTRACT MACHINE IS WORTH, 2: what a running method is in, what a row of a program must be -/
def am_tbl : List Cond := lw_tbl.filter goodWord
theorem am_tb {w : Cond} (h : w ∈ lw_tbl) (hg : goodWord w = true) : w ∈ am_tbl := List.mem_filter.mpr ⟨h, hg⟩
def va_AOA (t : FieldType) (U : State) : Prop := (Cond.arrayOver (.array t)).before #[] U = true
theorem va_AOA.use {t : FieldType} {A : Array Value} {U : State} (h : va_AOA t U) : (Cond.arrayOver (.array t)).before A U = true := h
theorem va_AOA_warm {t : FieldType} {s U : State} (hW : s.WarmedH U.vm) (h : va_AOA t s) : va_AOA t U := by
  have hvm := hW.alike
  have h0 := h
  unfold va_AOA Cond.before Cond.holds at h0
  simp only [Cond.value, beq_iff_eq] at h0
  cases hc : s.vm.findClass (FieldType.array t).toString with
  | none => simp [hc] at h0
  | some comp =>
    simp only [hc, Option.bind_some, Option.bind_eq_some_iff, Option.map_eq_some_iff] at h0
    obtain ⟨c, hi, k, hk, hb⟩ := h0
    obtain ⟨k', hk', he⟩ := hvm.2.2 _ _ hk
    have hi' : (U.vm.classes.findIdx? fun (x : Class) => match x.kind with | .array component _ => component == comp | _ => false) = some c := by
      have h1 := va_idx_bare U.vm comp
      have h2 := va_idx_bare s.vm comp
      first | rw [hvm.bare_eq] at h2 | rw [← hvm.bare_eq] at h2
      exact (h1.symm.trans h2).trans hi
    have f1 : U.vm.findClass (FieldType.array t).toString = some comp := by rw [hvm.findClass]; exact hc
    have f2 : k'.kind = k.kind := by rw [he]
    unfold va_AOA Cond.before Cond.holds
    simp only [Cond.value]
    rw [f1, Option.bind_some]
    rw [beq_iff_eq, Option.bind_eq_some_iff]
    refine ⟨c, hi', ?_⟩
    rw [Option.map_eq_some_iff]
    refine ⟨k', hk', ?_⟩
    rw [f2, hvm.findClass]
    exact hb
/-- a class by its kind -/
def am_k (c : Nat) : vw_C := am_CL.getD (am_ci c) ("", fun _ => ("", "", "", false), 0)
/-- what is there before, and isn't written -/
def am_rok (c i : Nat) : Prop := (c = 202 ∨ c = 203) ∧ i < 7 ∨ (c = 200 ∨ c = 201 ∨ c = 204 ∨ c = 205) ∧ i = 0
def am_RO (X : am_X) (A : Nat → Prop) (rd : Nat → Nat → Nat) (U : State) (H : Heap) : Prop :=
  (va_Z "BookedEmpty" "ABOVE" "[I" (.ref (rd 200 0)) A U H ∧ va_T .int (rd 200 0) (am_len X 200 0) (fun j => .int (am_ro X 200 0 j)) A U H) ∧
  (va_Z "BookedEmpty$Acts" "BODIES" "[I" (.ref (rd 201 0)) A U H ∧ va_T .int (rd 201 0) (am_len X 201 0) (fun j => .int (am_ro X 201 0 j)) A U H) ∧
  va_Z "java/lang/String" "COMPACT_STRINGS" "Z" (.int 1) A U H ∧
  va_Z "jdk/internal/util/Preconditions" "SIOOBE_FORMATTER" "Ljava/util/function/BiFunction;" (am_cv rd (am_fm X)) A U H ∧
  vk_S 7 am_slen am_sbyt (fun i => rd 203 i) (fun i => rd 202 i) A U H ∧
  (∀ x ∈ am_strs, vk_R x.1 x.2.1 x.2.2.1 (rd 203 x.2.2.2) U) ∧
  (∀ x ∈ am_nestM, va_Nw (.methodLinkNest x.1 x.2.1 x.2.2.1 x.2.2.2) U) ∧
  (∀ x ∈ am_nestF, va_Nw (.fieldLinkNest x.1 x.2.1 x.2.2.1 x.2.2.2.1 x.2.2.2.2.1 x.2.2.2.2.2) U) ∧
  (∀ C ∈ am_over, va_AO C U) ∧ (∀ t ∈ am_overA, va_AOA t U) ∧
  va_X (rd 204 0) X.1 X.2 U H ∧ ¬ A (rd 204 0) ∧ rd 204 0 < H.size
theorem am_RO_to {X : am_X} {A B : Nat → Prop} {rd : Nat → Nat → Nat} {s U : State} {H H1 : Heap} (hW : s.WarmedH U.vm) (hq : ∀ a : Nat, a < H.size → ¬ A a → H1[a]? = H[a]?) (hsz : H.size ≤ H1.size) (hAB : ∀ q, B q → A q) (h : am_RO X A rd s H) : am_RO X B rd U H1 := by
  obtain ⟨⟨a1, a2⟩, ⟨b1, b2⟩, c1, d1, e1, f1, g1, g2, k1, k2, l1, l2, l3⟩ := h
  have hvm := hW.alike
  refine ⟨⟨((va_Z.moved hvm a1).kept hq).narrow hAB, ((va_T.moved hvm a2).kept hq).narrow hAB⟩, ⟨((va_Z.moved hvm b1).kept hq).narrow hAB, ((va_T.moved hvm b2).kept hq).narrow hAB⟩, ((va_Z.moved hvm c1).kept hq).narrow hAB, ((va_Z.moved hvm d1).kept hq).narrow hAB, ((vk_S.moved hvm e1).kept hq).narrow hAB, fun x hx => (f1 x hx).warm hW, fun x hx => va_Nw.warmM hW (g1 x hx), fun x hx => va_Nw.warmF hW (g2 x hx), fun C hC => (k1 C hC).moved hvm, fun t ht => ?_, ?_, fun q => l2 (hAB _ q), Nat.lt_of_lt_of_le l3 hsz⟩
  · exact va_AOA_warm hW (k2 t ht)
  · obtain ⟨scr, h1, h2, h3, h4, h5⟩ := l1
    exact ⟨scr, by rw [hq _ l3 l2]; exact h1, State.isArrayOf_alike hvm h2, h3, h4, h5⟩
/-- what stays while a method runs -/
def am_Cx (p : Program) (s : State) (m : MethodId) (args : Array Value) (meth : Method) (c : Code) (X : am_X) (D : va_G) (A : Nat → Prop) (rd : Nat → Nat → Nat) (nm : String) (cc : ByteArray) (nL ow : Nat) : Prop :=
  p.tables.exec = Jvm.exec ∧ c.code = cc ∧ c.maxLocals = nL ∧ s.vm.findClass (am_on ow) = some m.cls ∧ (∀ w ∈ am_tbl, w.before args s = true) ∧ meth.locks = false ∧ meth.name = nm ∧
  (∀ q, s.heap.size ≤ q → A q) ∧ va_K D am_CL [] s ∧ am_RO X A rd s s.heap
def am_okq (σ : am_S) (c i : Nat) : Prop := am_ok σ c i ∨ am_rok c i
def am_okv (σ : am_S) (v : am_V) : Prop := match v with
  | .inr q => am_okq σ q.1 q.2
  | _ => True
/-- known locals -/
def am_lk (ad : Nat → Nat → Nat) : Nat → List am_V → List (Nat × Value)
  | _, [] => []
  | k, .inl (.retAddr _) :: t => am_lk ad (k + 1) t
  | k, v :: t => (k, am_cv ad v) :: am_lk ad (k + 1) t
def am_Inv (X : am_X) (D : va_G) (A : Nat → Prop) (s : State) (rd ad0 : Nat → Nat → Nat) (σ0 : am_S) (ad : Nat → Nat → Nat) (cA : Nat → Nat → ClassId) (σ : am_S) (H : Heap) (locs : List Loc) (cells slots : Nat) : Prop :=
  am_W X D A s ad cA σ H ∧ va_S A s.heap H locs ∧ (∀ c i, 200 ≤ c → ad c i = rd c i) ∧ (∀ c i, am_ok σ0 c i → ad c i = ad0 c i) ∧ (∀ c, σ0.2.2.1 c ≤ σ.2.2.1 c) ∧ cells + σ0.2.2.2.1 = σ.2.2.2.1 ∧ slots + σ0.2.2.2.2 = σ.2.2.2.2
def am_Fr (σ : am_S) (ad : Nat → Nat → Nat) (ls st : List am_V) (LS : Array Slot) (nL : Nat) : Prop :=
  lv_has LS nL (am_lk ad 0 ls) ∧ ls.length = nL ∧ (∀ v ∈ ls, am_okv σ v) ∧ (∀ v ∈ st, am_okv σ v)
theorem am_lk_mem {ad : Nat → Nat → Nat} {q : Nat × Value} : ∀ {k : Nat} {ls : List am_V}, q ∈ am_lk ad k ls ↔ ∃ (i : Nat) (v : am_V), ls[i]? = some v ∧ (∀ z, v ≠ .inl (.retAddr z)) ∧ q = (k + i, am_cv ad v) := by
  intro k ls
  induction ls generalizing k with
  | nil => simp [am_lk]
  | cons w t ih =>
    have hstep : (∃ (i : Nat) (v : am_V), (w :: t)[i]? = some v ∧ (∀ z, v ≠ .inl (.retAddr z)) ∧ q = (k + i, am_cv ad v)) ↔ ((∀ z, w ≠ .inl (.retAddr z)) ∧ q = (k, am_cv ad w)) ∨ ∃ (i : Nat) (v : am_V), t[i]? = some v ∧ (∀ z, v ≠ .inl (.retAddr z)) ∧ q = (k + 1 + i, am_cv ad v) := by
      constructor
      · rintro ⟨i, v, h1, h2, h3⟩
        cases i with
        | zero => simp at h1; subst h1; exact Or.inl ⟨h2, h3⟩
        | succ i => exact Or.inr ⟨i, v, by simpa using h1, h2, by rw [h3, show k + (i + 1) = k + 1 + i by omega]⟩
      · rintro (⟨h2, h3⟩ | ⟨i, v, h1, h2, h3⟩)
        · exact ⟨0, w, rfl, h2, h3⟩
        · exact ⟨i + 1, v, by simpa using h1, h2, by rw [h3, show k + 1 + i = k + (i + 1) by omega]⟩
    rw [hstep, ← ih]
    rcases w with w | w
    · cases w <;> simp [am_lk]
    · simp [am_lk]
theorem am_lk_get {ad : Nat → Nat → Nat} {ls : List am_V} {LS : Array Slot} {nL i : Nat} {v : am_V} (h : lv_has LS nL (am_lk ad 0 ls)) (hi : ls[i]? = some v) (hv : ∀ z, v ≠ .inl (.retAddr z)) : LS[i]? = some (.val (am_cv ad v)) :=
  h.2.2 (i, am_cv ad v) (am_lk_mem.mpr ⟨i, v, hi, hv, by simp⟩)
theorem am_lk_sub {LS : Array Slot} {nL : Nat} {l l' : List (Nat × Value)} (h : lv_has LS nL l) (hs : ∀ q ∈ l', q ∈ l) : lv_has LS nL l' := ⟨h.1, h.2.1, fun q hq => h.2.2 q (hs q hq)⟩
/-- addresses that agree give the same locals, the same stack -/
theorem am_cv_same {σ : am_S} {ad ad' : Nat → Nat → Nat} (h : ∀ c i, am_okq σ c i → ad' c i = ad c i) {v : am_V} (hv : am_okv σ v) : am_cv ad' v = am_cv ad v := by
  rcases v with v | q
  · rfl
  · show Value.ref (ad' q.1 q.2) = .ref (ad q.1 q.2)
    rw [h _ _ hv]
theorem am_lk_same {σ : am_S} {ad ad' : Nat → Nat → Nat} (h : ∀ c i, am_okq σ c i → ad' c i = ad c i) : ∀ (k : Nat) (ls : List am_V), (∀ v ∈ ls, am_okv σ v) → am_lk ad' k ls = am_lk ad k ls := by
  intro k ls
  induction ls generalizing k with
  | nil => intro _; rfl
  | cons w t ih =>
    intro hv
    have h1 := ih (k + 1) (fun v hq => hv v (List.mem_cons_of_mem _ hq))
    have h2 := am_cv_same h (hv w List.mem_cons_self)
    rcases w with w | w
    · cases w <;> simp only [am_lk, h1, h2]
    · simp only [am_lk, h1, h2]
theorem am_map_same {σ : am_S} {ad ad' : Nat → Nat → Nat} (h : ∀ c i, am_okq σ c i → ad' c i = ad c i) (st : List am_V) (hv : ∀ v ∈ st, am_okv σ v) : st.map (am_cv ad') = st.map (am_cv ad) :=
  List.map_congr_left fun v hq => am_cv_same h (hv v hq)
end
section
/-! WHAT THE ABSTRACT MACHINE IS WORTH, 3: what a row of a program must be; the rows one by one -/
/-- a switch by a table -/
def am_tsQ (pc : Nat) (d lo hi : Int) (offs : Array Int) (sw : List (Int × Nat)) (df : Nat) : Prop :=
  (pc : Int) + d = (df : Int) ∧ hi = lo + (offs.size : Int) - 1 ∧ -2147483648 ≤ lo ∧ hi < 2147483648 ∧ sw.length = offs.size ∧
  ∀ k : Nat, k < offs.size → ∃ (o : Int) (t : Nat), offs[k]? = some o ∧ sw[k]? = some (lo + (k : Int), t) ∧ (pc : Int) + o = (t : Int)
def am_lsQ (pc : Nat) (d : Int) (ps : Array (Int × Int)) (sw : List (Int × Nat)) (df : Nat) : Prop :=
  (pc : Int) + d = (df : Int) ∧ (ps.toList.zip (ps.toList.drop 1)).all (fun (a, next) => a.1 < next.1) = true ∧
  sw.length = ps.toList.length ∧ ∀ (k : Nat) (q : Int × Int), ps.toList[k]? = some q → -2147483648 ≤ q.1 ∧ q.1 < 2147483648 ∧ ∃ t : Nat, sw[k]? = some (q.1, t) ∧ (pc : Int) + q.2 = (t : Int)
/-- a field of a class of ours -/
def am_fQ (own : String) (i : Nat) (r : Nat × Nat × Nat) : Prop :=
  r.1 < 200 ∧ am_tk r.1 = 9 ∧ am_CL[am_ci r.1]? = some (am_k r.1) ∧ (am_k r.1).2.2 = am_nf r.1 ∧ r.2.1 < am_nf r.1 ∧ am_fk r.1 r.2.1 = r.2.2 ∧
  ((am_k r.1).2.1 r.2.1).1 = (am_k r.1).1 ∧ Cond.fieldLink own i (am_k r.1).1 ((am_k r.1).2.1 r.2.1).2.1 ((am_k r.1).2.1 r.2.1).2.2.1 ∈ am_tbl ∧
  (∀ w ∈ u_ws (am_k r.1).1 (am_k r.1).2.1 (am_k r.1).2.2, w ∈ am_tbl)
def am_pQ (own nm : String) (r : Nat × Nat × Nat) : Prop :=
  (∃ ty0 : Nat → FieldType, ∀ k, k < (am_k r.1).2.2 → parseFieldDescriptor ((am_k r.1).2.1 k).2.2.1 = some (ty0 k)) ∧
  (∀ a, a < (am_k r.1).2.2 → ∀ b, b < (am_k r.1).2.2 → a ≠ b → ((am_k r.1).2.1 a).2.1 ≠ ((am_k r.1).2.1 b).2.1) ∧
  (((am_k r.1).2.1 r.2.1).2.2.2 = false ∨ (((am_k r.1).2.1 r.2.1).2.2.2 = true ∧ nm = "<init>" ∧ (am_k r.1).1 = own)) ∧
  ∃ ty, parseFieldDescriptor ((am_k r.1).2.1 r.2.1).2.2.1 = some ty ∧ (r.2.2 = 0 → ty = .int) ∧ (r.2.2 = 3 → ty = .boolean) ∧ (r.2.2 = 2 → ∀ a, narrow ty (.ref a) = .ref a ∧ fits ty (.ref a) = true)
/-- a method that is called -/
def am_mQ (y na rt : Nat) (st : Bool) (mt : am_Mt) : Prop :=
  am_ML[y]? = some mt ∧ Cond.code mt.1 mt.2.1 mt.2.2.1 mt.2.2.2.1 ∈ am_tbl ∧ Cond.initialized mt.1.cls ∈ am_tbl ∧ plainName mt.1.cls = true ∧
  (mt.1.cls ≠ "java/lang/invoke/MethodHandle" ∧ mt.1.cls ≠ "java/lang/invoke/VarHandle" ∧ (parseMethodDescriptor mt.1.desc).map (fun d => d.parameters.length) = some na) ∧ mt.2.2.1 ≤ 60 ∧
  (bif st then Cond.static mt.1 ∈ am_tbl else Cond.instanceMethod mt.1 ∈ am_tbl)
/-- the class of a receiver -/
def am_rQ (c : Nat) (cls : String) : Prop := (c = 203 ∧ cls = "java/lang/String") ∨ (c < 200 ∧ am_tk c = 9 ∧ am_CL[am_ci c]? = some (am_k c) ∧ (am_k c).1 = cls)
def am_ln (ins : Instr) : Nat := match ins with
  | .bipush _ | .iload _ | .lload _ | .aload _ | .istore _ | .lstore _ | .astore _ | .ldc _ | .newarray _ => 2
  | .sipush _ | .iinc _ _ | .goto _ | .ifCond _ _ | .if_icmp _ _ | .ldc_w _ | .ldc2_w _ | .getfield _ | .putfield _ | .getstatic _ | .new _ | .anewarray _ | .invokevirtual _ | .invokestatic _ | .invokespecial _ => 3
  | .multianewarray _ _ => 4
  | _ => 1
def am_eQ (own nm : String) (ret : Option FieldType) (pc : Nat) (ins : Instr) (r : Nat × Nat × Nat) (sw : List (Int × Nat)) : Prop := match ins with
  | .bipush v => (Int8.ofInt v).toInt32 = Int32.ofInt v
  | .sipush v => (Int16.ofInt v).toInt32 = Int32.ofInt v
  | .ldc i => (r.2.2 = 1 → Cond.constant own i (Int32.ofNat r.1) ∈ am_tbl) ∧ (r.2.2 = 2 → r.1 = 203 ∧ r.2.1 < 7 ∧ ∃ tx, (own, i, tx, r.2.1) ∈ am_strs)
  | .ldc_w i => r.2.2 = 1 → Cond.constant own i (Int32.ofNat r.1) ∈ am_tbl
  | .ldc2_w i => Cond.constantLong own i (Int64.ofNat r.1) ∈ am_tbl
  | .goto off => (pc : Int) + off = (r.1 : Int)
  | .ifCond _ off => (pc : Int) + off = (r.1 : Int)
  | .if_icmp _ off => (pc : Int) + off = (r.1 : Int)
  | .tableswitch d lo hi offs => am_tsQ pc d lo hi offs sw r.1
  | .lookupswitch d ps => am_lsQ pc d ps sw r.1
  | .getfield i => am_fQ own i r ∨ (r.1 = 203 ∧ ((r.2.1 = 0 ∧ r.2.2 = 2 ∧ Cond.fieldLink own i "java/lang/String" "value" "[B" ∈ am_tbl) ∨ (r.2.1 = 1 ∧ r.2.2 = 0 ∧ Cond.fieldLink own i "java/lang/String" "coder" "B" ∈ am_tbl)))
  | .putfield i => am_fQ own i r ∧ am_pQ own nm r
  | .getstatic i => (r = (1, 0, 0) ∧ Cond.fieldLink own i "java/lang/String" "COMPACT_STRINGS" "Z" ∈ am_tbl) ∨ (r = (205, 0, 1) ∧ Cond.fieldLink own i "jdk/internal/util/Preconditions" "SIOOBE_FORMATTER" "Ljava/util/function/BiFunction;" ∈ am_tbl) ∨
      (r = (200, 0, 1) ∧ (Cond.fieldLink own i "BookedEmpty" "ABOVE" "[I" ∈ am_tbl ∨ ∃ host, (own, i, "BookedEmpty", "ABOVE", "[I", host) ∈ am_nestF)) ∨ (r = (201, 0, 1) ∧ Cond.fieldLink own i "BookedEmpty$Acts" "BODIES" "[I" ∈ am_tbl) ∨ (r.2.2 ≠ 0 ∧ r.2.2 ≠ 1)
  | .new i => r.1 < 200 ∧ am_tk r.1 = 9 ∧ am_CL[am_ci r.1]? = some (am_k r.1) ∧ (am_k r.1).2.2 = am_nf r.1 ∧ Cond.classLink own i (am_k r.1).1 ∈ am_tbl ∧ Cond.instantiable (am_k r.1).1 (am_nf r.1) ∈ am_tbl ∧ Cond.initialized (am_k r.1).1 ∈ am_tbl ∧
      (∀ w ∈ u_ws (am_k r.1).1 (am_k r.1).2.1 (am_k r.1).2.2, w ∈ am_tbl) ∧ ∃ ty0 : Nat → FieldType, (∀ k, k < (am_k r.1).2.2 → parseFieldDescriptor ((am_k r.1).2.1 k).2.2.1 = some (ty0 k)) ∧
      ∀ k, k < (am_k r.1).2.2 → defaultValue (ty0 k) = (match am_fk r.1 k with | 1 => Value.long 0 | 2 => .null | _ => .int 0)
  | .newarray a => r.1 < 200 ∧ newarray.typeOf a = am_ty r.1 ∧ am_tk r.1 ≠ 9 ∧ am_tk r.1 ≠ 2 ∧ (am_tk r.1 = 1 → am_ty r.1 = .long) ∧ (am_tk r.1 ≠ 1 → defaultValue (am_ty r.1) = .int 0) ∧ componentBytes (am_ty r.1) ≤ 8 ∧ Cond.arrayClass (am_ty r.1) ∈ am_tbl
  | .anewarray i => r.1 < 200 ∧ am_tk r.1 = 2 ∧ ∃ C, am_ty r.1 = .object C ∧ C ∈ am_over ∧ Cond.classLink own i C ∈ am_tbl
  | .multianewarray i k => k = 2 ∧ r.1 < 200 ∧ r.2.1 < 200 ∧ r.1 ≠ r.2.1 ∧ am_tk r.1 = 2 ∧ (am_tk r.2.1 = 0 ∧ am_ty r.2.1 = .int ∨ am_tk r.2.1 = 1 ∧ am_ty r.2.1 = .long) ∧ am_ty r.1 = .array (am_ty r.2.1) ∧ am_ty r.2.1 ∈ am_overA ∧ Cond.classLink own i ("[" ++ (FieldType.array (am_ty r.2.1)).toString) ∈ am_tbl ∧ Cond.arrayClass (am_ty r.2.1) ∈ am_tbl
  | .invokevirtual i => r.2.2 / 10 ≠ 0 ∧ r.2.2 / 10 ≠ 5 ∨ ∃ mt, am_mQ r.1 r.2.1 (r.2.2 % 10) false mt ∧ am_mc r.1 = mt.2.2.2.2.2.1 ∧ am_rQ mt.2.2.2.2.2.1 mt.1.cls ∧ Cond.selects mt.1.cls mt.1 mt.1 ∈ am_tbl ∧ (r.2.2 / 10 = 0 → Cond.methodLink own i mt.1 ∈ am_tbl) ∧ (r.2.2 / 10 = 5 → ∃ host, (own, i, mt.1, host) ∈ am_nestM)
  | .invokestatic i => (r.2.2 / 10 ≠ 1 ∧ r.2.2 / 10 ≠ 6 ∧ r.2.2 / 10 ≠ 4 ∧ r.2.2 / 10 ≠ 8) ∨ (r.2.2 / 10 = 8 ∧ Cond.initialized "java/lang/Math" ∈ am_tbl ∧ ((r.1 = 0 ∧ Cond.methodLink own i Lib.Math.max.name ∈ am_tbl ∧ Cond.static Lib.Math.max.name ∈ am_tbl ∧ Cond.code Lib.Math.max.name Lib.Math.max.code 2 (some .int) ∈ am_tbl) ∨ (r.1 ≠ 0 ∧ Cond.methodLink own i Lib.Math.min.name ∈ am_tbl ∧ Cond.static Lib.Math.min.name ∈ am_tbl ∧ Cond.code Lib.Math.min.name Lib.Math.min.code 2 (some .int) ∈ am_tbl))) ∨ (r.2.2 / 10 = 4 ∧ Cond.methodLink own i arraycopyName ∈ am_tbl ∧ Cond.native arraycopyName ∈ am_tbl ∧ Cond.static arraycopyName ∈ am_tbl ∧ Cond.initialized "java/lang/System" ∈ am_tbl) ∨
      ∃ mt, am_mQ r.1 r.2.1 (r.2.2 % 10) true mt ∧ (r.2.2 / 10 = 1 → Cond.methodLink own i mt.1 ∈ am_tbl) ∧ (r.2.2 / 10 = 6 → ∃ host, (own, i, mt.1, host) ∈ am_nestM) ∧ r.2.2 / 10 ≠ 4 ∧ r.2.2 / 10 ≠ 8
  | .invokespecial i => (r.2.2 / 10 ≠ 3 ∧ r.2.2 / 10 ≠ 2 ∧ r.2.2 / 10 ≠ 7) ∨ (r.2.2 / 10 = 3 ∧ Cond.methodLink own i objectInit ∈ am_tbl ∧ Cond.instanceMethod objectInit ∈ am_tbl ∧ Cond.code objectInit ⟨#[0xb1]⟩ 1 none ∈ am_tbl) ∨
      ∃ mt, am_mQ r.1 r.2.1 (r.2.2 % 10) false mt ∧ mt.1.name = "<init>" ∧ mt.2.2.2.1 = none ∧ (r.2.2 / 10 = 2 → Cond.methodLink own i mt.1 ∈ am_tbl) ∧ (r.2.2 / 10 = 7 → ∃ host, (own, i, mt.1, host) ∈ am_nestM) ∧ r.2.2 / 10 ≠ 3
  | .return_ => ret = none
  | .ireturn => (r.1 = 0 ∧ ret = some .int) ∨ (r.1 = 1 ∧ ret = some .boolean) ∨ (r.1 = 2 ∧ ret = some .char) ∨ (2 < r.1)
  | .lreturn => ret = some .long
  | .areturn => ∃ n, ret = some (.object n)
  | _ => True
/-- a row of a program -/
def am_eP (own nm : String) (cc : ByteArray) (ret : Option FieldType) (e : am_E) : Prop :=
  decode cc e.1 = .ok (e.2.1, e.2.2.1) ∧ (e.2.2.1 = am_ln e.2.1 ∨ (∃ d lo hi offs, e.2.1 = .tableswitch d lo hi offs) ∨ ∃ d ps, e.2.1 = .lookupswitch d ps) ∧ am_eQ own nm ret e.1 e.2.1 e.2.2.2.1 e.2.2.2.2

theorem am_i1_some {st : List am_V} {f : Int32 → List am_V → am_R} {z : Option am_V × am_S} (h : am_i1 st f = some z) : ∃ x t, st = am_I x :: t ∧ f x t = some z := by
  unfold am_i1 at h
  split at h
  · exact ⟨_, _, rfl, h⟩
  · cases h
theorem am_i2_some {st : List am_V} {f : Int32 → Int32 → List am_V → am_R} {z : Option am_V × am_S} (h : am_i2 st f = some z) : ∃ x y t, st = am_I y :: am_I x :: t ∧ f x y t = some z := by
  unfold am_i2 at h
  split at h
  · exact ⟨_, _, _, rfl, h⟩
  · cases h
theorem am_j1_some {st : List am_V} {f : Int64 → List am_V → am_R} {z : Option am_V × am_S} (h : am_j1 st f = some z) : ∃ x t, st = am_J x :: t ∧ f x t = some z := by
  unfold am_j1 at h
  split at h
  · exact ⟨_, _, rfl, h⟩
  · cases h
theorem am_j2_some {st : List am_V} {f : Int64 → Int64 → List am_V → am_R} {z : Option am_V × am_S} (h : am_j2 st f = some z) : ∃ x y t, st = am_J y :: am_J x :: t ∧ f x y t = some z := by
  unfold am_j2 at h
  split at h
  · exact ⟨_, _, _, rfl, h⟩
  · cases h
theorem am_ji_some {st : List am_V} {f : Int64 → Int32 → List am_V → am_R} {z : Option am_V × am_S} (h : am_ji st f = some z) : ∃ x y t, st = am_I y :: am_J x :: t ∧ f x y t = some z := by
  unfold am_ji at h
  split at h
  · exact ⟨_, _, _, rfl, h⟩
  · cases h
theorem am_r1_some {st : List am_V} {f : Nat → Nat → List am_V → am_R} {z : Option am_V × am_S} (h : am_r1 st f = some z) : ∃ c i t, st = .inr (c, i) :: t ∧ f c i t = some z := by
  unfold am_r1 at h
  split at h
  · exact ⟨_, _, _, rfl, h⟩
  · cases h
theorem am_ri_some {st : List am_V} {f : Nat → Nat → Int32 → List am_V → am_R} {z : Option am_V × am_S} (h : am_ri st f = some z) : ∃ c i j t, st = am_I j :: .inr (c, i) :: t ∧ f c i j t = some z := by
  unfold am_ri at h
  split at h
  · exact ⟨_, _, _, _, rfl, h⟩
  · cases h
theorem am_ir_some {st : List am_V} {f : Nat → Nat → Int32 → List am_V → am_R} {z : Option am_V × am_S} (h : am_ir st f = some z) : ∃ c i x t, st = am_I x :: .inr (c, i) :: t ∧ f c i x t = some z := by
  unfold am_ir at h
  split at h
  · exact ⟨_, _, _, _, rfl, h⟩
  · cases h
theorem am_rr_some {st : List am_V} {f : Nat → Nat → Nat → Nat → List am_V → am_R} {z : Option am_V × am_S} (h : am_rr st f = some z) : ∃ c i c2 i2 t, st = .inr (c2, i2) :: .inr (c, i) :: t ∧ f c i c2 i2 t = some z := by
  unfold am_rr at h
  split at h
  · exact ⟨_, _, _, _, _, rfl, h⟩
  · cases h
theorem am_iri_some {st : List am_V} {f : Nat → Nat → Int32 → Int32 → List am_V → am_R} {z : Option am_V × am_S} (h : am_iri st f = some z) : ∃ c i j x t, st = am_I x :: am_I j :: .inr (c, i) :: t ∧ f c i j x t = some z := by
  unfold am_iri at h
  split at h
  · exact ⟨_, _, _, _, _, rfl, h⟩
  · cases h
theorem am_jri_some {st : List am_V} {f : Nat → Nat → Int32 → Int64 → List am_V → am_R} {z : Option am_V × am_S} (h : am_jri st f = some z) : ∃ c i j x t, st = am_J x :: am_I j :: .inr (c, i) :: t ∧ f c i j x t = some z := by
  unfold am_jri at h
  split at h
  · exact ⟨_, _, _, _, _, rfl, h⟩
  · cases h
theorem am_rri_some {st : List am_V} {f : Nat → Nat → Int32 → Nat → Nat → List am_V → am_R} {z : Option am_V × am_S} (h : am_rri st f = some z) : ∃ c i j c2 i2 t, st = .inr (c2, i2) :: am_I j :: .inr (c, i) :: t ∧ f c i j c2 i2 t = some z := by
  unfold am_rri at h
  split at h
  · exact ⟨_, _, _, _, _, _, rfl, h⟩
  · cases h
theorem am_ck_some {i : Int32} {n : Nat} {r : am_R} {z : Option am_V × am_S} (h : am_ck i n r = some z) : vp_in i n ∧ r = some z := by
  unfold am_ck at h
  split at h
  · cases h
  · rename_i q; exact ⟨q, h⟩
theorem am_bk_some {x : Int32} {r : am_R} {z : Option am_V × am_S} (h : am_bk x r = some z) : (x = 0 ∨ x = 1) ∧ r = some z := by
  unfold am_bk at h
  split at h
  · rename_i q; exact ⟨q, h⟩
  · cases h
theorem am_nz_some {x : Int32} {r : am_R} {z : Option am_V × am_S} (h : am_nz x r = some z) : ¬ x = 0 ∧ r = some z := by
  unfold am_nz at h
  split at h
  · cases h
  · rename_i q; exact ⟨q, h⟩
theorem am_bif_some {b : Bool} {r : am_R} {z : Option am_V × am_S} (h : (bif b then r else none) = some z) : b = true ∧ r = some z := by
  cases b
  · cases h
  · exact ⟨rfl, h⟩
theorem am_bi_some {r : am_R} {f : Int32 → am_S → am_R} {z : Option am_V × am_S} (h : am_bi r f = some z) : ∃ x σ, r = some (some (am_I x), σ) ∧ f x σ = some z := by
  unfold am_bi at h
  split at h
  · exact ⟨_, _, rfl, h⟩
  · cases h
theorem am_bl_some {r : am_R} {f : Int64 → am_S → am_R} {z : Option am_V × am_S} (h : am_bl r f = some z) : ∃ x σ, r = some (some (am_J x), σ) ∧ f x σ = some z := by
  unfold am_bl at h
  split at h
  · exact ⟨_, _, rfl, h⟩
  · cases h
theorem am_br_some {r : am_R} {f : Nat → Nat → am_S → am_R} {z : Option am_V × am_S} (h : am_br r f = some z) : ∃ c i σ, r = some (some (.inr (c, i)), σ) ∧ f c i σ = some z := by
  unfold am_br at h
  split at h
  · exact ⟨_, _, _, rfl, h⟩
  · cases h
theorem am_bv_some {r : am_R} {f : am_S → am_R} {z : Option am_V × am_S} (h : am_bv r f = some z) : ∃ σ, r = some (none, σ) ∧ f σ = some z := by
  unfold am_bv at h
  split at h
  · exact ⟨_, rfl, h⟩
  · cases h
theorem am_sw_some {f : Nat → am_R} {x : Int32} {z : Option am_V × am_S} {d : Nat} : ∀ {l : List (Int × Nat)}, am_sw f x l d = some z → (∃ (k : Nat) (v : Int) (t : Nat), l[k]? = some (v, t) ∧ x = Int32.ofInt v ∧ (∀ (k1 : Nat) (v1 : Int) (t1 : Nat), k1 < k → l[k1]? = some (v1, t1) → ¬ x = Int32.ofInt v1) ∧ f t = some z) ∨ ((∀ (k : Nat) (v : Int) (t : Nat), l[k]? = some (v, t) → ¬ x = Int32.ofInt v) ∧ f d = some z) := by
  intro l
  induction l with
  | nil => intro h; exact Or.inr ⟨fun k v t h => by simp at h, h⟩
  | cons q r ih =>
    obtain ⟨v, t⟩ := q
    intro h
    unfold am_sw at h
    split at h
    · rename_i hx; exact Or.inl ⟨0, v, t, rfl, hx, fun k' v' t' hk => absurd hk (Nat.not_lt_zero _), h⟩
    · rename_i hx
      rcases ih h with ⟨k, v1, t1, h1, h2, h3, h4⟩ | ⟨h1, h2⟩
      · refine Or.inl ⟨k + 1, v1, t1, by simpa using h1, h2, fun k' v' t' hk hk' => ?_, h4⟩
        cases k' with
        | zero => simp at hk'; obtain ⟨rfl, rfl⟩ := hk'; exact hx
        | succ k' => exact h3 k' v' t' (by omega) (by simpa using hk')
      · refine Or.inr ⟨fun k v' t' hk => ?_, h2⟩
        cases k with
        | zero => simp at hk; obtain ⟨rfl, rfl⟩ := hk; exact hx
        | succ k => exact h1 k v' t' (by simpa using hk)
end
section
/-! WHAT THE ABSTRACT MACHINE IS WORTH, 4: an instruction -/
section AMI
variable {p : Program} {l : Launch} {e : Env} {R : Room} {s : State} {m : MethodId} {args : Array Value} {below : List Frame} {meth : Method} {c : Code} {H : Heap} {locs : List Loc} {cells slots : Nat} {Q : State → Prop}
variable {X : am_X} {D : va_G} {A : Nat → Prop} {rd ad0 ad : Nat → Nat → Nat} {cA : Nat → Nat → ClassId} {σ0 σ : am_S} {nm : String} {cc : ByteArray} {nL ow pc n : Nat} {ret : Option FieldType} {z : Option am_V × am_S}
variable {ls st : List am_V} {LS : Array Slot} {r : Nat × Nat × Nat} {sw : List (Int × Nat)} {Γ : Nat → List am_V → am_S → am_R}
variable {k : Nat → List am_V → List am_V → am_S → am_R}
abbrev am_Ks (p : Program) (l : Launch) (e : Env) (R : Room) (s : State) (m : MethodId) (args : Array Value) (below : List Frame) (meth : Method) (c : Code) (X : am_X) (D : va_G) (A : Nat → Prop) (rd ad0 : Nat → Nat → Nat) (σ0 : am_S) (nL : Nat) (Q : State → Prop) (z : Option am_V × am_S) (k : Nat → List am_V → List am_V → am_S → am_R) : Prop :=
  ∀ (pc : Nat) (ls st : List am_V) (σ : am_S), k pc ls st σ = some z → ∀ (ad : Nat → Nat → Nat) (cA : Nat → Nat → ClassId) (H : Heap) (locs : List Loc) (cells slots : Nat) (LS : Array Slot), am_Inv X D A s rd ad0 σ0 ad cA σ H locs cells slots → am_Fr σ ad ls st LS nL →
    W p l e R s m args below meth c H locs cells slots Q (F0 m pc LS (st.map (am_cv ad)))
theorem am_Fr_st {st' : List am_V} (hF : am_Fr σ ad ls st LS nL) (h : ∀ v ∈ st', am_okv σ v) : am_Fr σ ad ls st' LS nL := ⟨hF.1, hF.2.1, hF.2.2.1, h⟩
theorem am_ok_t {v : am_V} {t : List am_V} (h : ∀ w ∈ v :: t, am_okv σ w) : ∀ w ∈ t, am_okv σ w := fun w hw => h w (List.mem_cons_of_mem _ hw)
theorem am_ok_c {v : am_V} {t : List am_V} (hv : am_okv σ v) (h : ∀ w ∈ t, am_okv σ w) : ∀ w ∈ v :: t, am_okv σ w := fun w hw => by
  rcases List.mem_cons.mp hw with rfl | hw
  · exact hv
  · exact h w hw
theorem am_okI (x : Int32) : am_okv σ (am_I x) := trivial
theorem am_okJ (x : Int64) : am_okv σ (am_J x) := trivial
/-- a local is set -/
theorem am_Fr_set {i : Nat} {v : am_V} {st' : List am_V} {LS' : Array Slot} (hF : am_Fr σ ad ls st LS nL) (hi : i < ls.length) (hp : ∀ w, ls[i - 1]? = some w → (am_cv ad w).category = 2 → i = 0) (hv : am_okv σ v) (hnu : ∀ z, v ≠ .inl (.retAddr z))
    (h : lv_has LS' nL ((i, am_cv ad v) :: (am_lk ad 0 ls).filter (fun q => !(q.1 == i) && !(q.1 + 1 == i && q.2.category == 2)))) (hs : ∀ w ∈ st', am_okv σ w) : am_Fr σ ad (ls.set i v) st' LS' nL := by
  refine ⟨am_lk_sub h fun q hq => ?_, by rw [List.length_set]; exact hF.2.1, fun w hw => ?_, hs⟩
  · obtain ⟨j, w, h1, h2, rfl⟩ := am_lk_mem.mp hq
    rw [List.getElem?_set] at h1
    by_cases hj : i = j
    · subst hj
      rw [if_pos rfl, if_pos hi] at h1
      cases h1
      simp
    · rw [if_neg hj] at h1
      refine List.mem_cons_of_mem _ (List.mem_filter.mpr ⟨am_lk_mem.mpr ⟨j, w, h1, h2, rfl⟩, ?_⟩)
      have e1 : ((0 + j, am_cv ad w).1 == i) = false := by simp; omega
      rw [e1]
      show (true && !((0 + j + 1 == i) && ((am_cv ad w).category == 2))) = true
      by_cases hj2 : 0 + j + 1 = i
      · have hnl : (am_cv ad w).category ≠ 2 := fun hc => by
          have := hp w (by rw [show i - 1 = j by omega]; exact h1) hc
          omega
        simp [hnl]
      · have : ¬ j + 1 = i := by omega
        simp [this]
  · rcases List.mem_or_eq_of_mem_set hw with h1 | h1
    · exact hF.2.2.1 w h1
    · rw [h1]; exact hv
theorem am_Fr_set2 {i : Nat} {x : Int64} {st' : List am_V} {LS' : Array Slot} (hF : am_Fr σ ad ls st LS nL) (hi : i + 1 < ls.length) (hp : ∀ w, ls[i - 1]? = some w → (am_cv ad w).category = 2 → i = 0)
    (h : lv_has LS' nL ((i, Value.long x) :: (am_lk ad 0 ls).filter (fun q => !(q.1 == i) && (!(q.1 == i + 1) && !(q.1 + 1 == i && q.2.category == 2))))) (hs : ∀ w ∈ st', am_okv σ w) : am_Fr σ ad ((ls.set i (am_J x)).set (i + 1) am_un) st' LS' nL := by
  refine ⟨am_lk_sub h fun q hq => ?_, by rw [List.length_set, List.length_set]; exact hF.2.1, fun w hw => ?_, hs⟩
  · obtain ⟨j, w, h1, h2, rfl⟩ := am_lk_mem.mp hq
    rw [List.getElem?_set] at h1
    by_cases hj1 : i + 1 = j
    · subst hj1
      rw [if_pos rfl, if_pos (by rw [List.length_set]; exact hi)] at h1
      cases h1
      exact absurd rfl (h2 0)
    · rw [if_neg hj1, List.getElem?_set] at h1
      by_cases hj : i = j
      · subst hj
        rw [if_pos rfl, if_pos (by omega)] at h1
        cases h1
        simp [am_cv]
      · rw [if_neg hj] at h1
        refine List.mem_cons_of_mem _ (List.mem_filter.mpr ⟨am_lk_mem.mpr ⟨j, w, h1, h2, rfl⟩, ?_⟩)
        have e1 : ((0 + j, am_cv ad w).1 == i) = false := by simp; omega
        have e2 : ((0 + j, am_cv ad w).1 == i + 1) = false := by simp; omega
        rw [e1, e2]
        show (true && (true && !((0 + j + 1 == i) && ((am_cv ad w).category == 2)))) = true
        by_cases hj2 : 0 + j + 1 = i
        · have hnl : (am_cv ad w).category ≠ 2 := fun hc => by
            have := hp w (by rw [show i - 1 = j by omega]; exact h1) hc
            omega
          simp [hnl]
        · have : ¬ j + 1 = i := by omega
          simp [this]
  · rcases List.mem_or_eq_of_mem_set hw with h1 | h1
    · rcases List.mem_or_eq_of_mem_set h1 with h1 | h1
      · exact hF.2.2.1 w h1
      · rw [h1]; trivial
    · rw [h1]; trivial
theorem am_st1_some {kk : List am_V → am_R} {i : Nat} {v : am_V} (h : am_st1 kk ls i v = some z) : i < ls.length ∧ (∀ w, ls[i - 1]? = some w → (am_cv ad w).category = 2 → i = 0) ∧ kk (ls.set i v) = some z := by
  obtain ⟨h1, h2⟩ := am_bif_some h
  rw [Bool.and_eq_true] at h1
  refine ⟨by have := h1.1; unfold Nat.blt at this; exact Nat.le_of_ble_eq_true this, fun w hw hc => ?_, h2⟩
  have h3 := h1.2
  rw [hw] at h3
  rcases w with w | w
  · cases w <;> first | exact Nat.eq_of_beq_eq_true h3 | (cases hc; done)
  · cases hc
theorem am_st2_some {kk : List am_V → am_R} {i : Nat} {v : am_V} (h : am_st2 kk ls i v = some z) : i + 1 < ls.length ∧ (∀ w, ls[i - 1]? = some w → (am_cv ad w).category = 2 → i = 0) ∧ kk ((ls.set i v).set (i + 1) am_un) = some z := by
  obtain ⟨h1, h2⟩ := am_bif_some h
  rw [Bool.and_eq_true] at h1
  refine ⟨by have := h1.1; unfold Nat.blt at this; exact Nat.le_of_ble_eq_true this, fun w hw hc => ?_, h2⟩
  have h3 := h1.2
  rw [hw] at h3
  rcases w with w | w
  · cases w <;> first | exact Nat.eq_of_beq_eq_true h3 | (cases hc; done)
  · cases hc
theorem am_ldi_some {kk : List am_V → am_R} {i : Nat} (h : am_ldi kk ls i st = some z) : ∃ x, ls[i]? = some (am_I x) ∧ kk (am_I x :: st) = some z := by
  unfold am_ldi at h
  split at h
  · rename_i x hx; exact ⟨x, hx, h⟩
  · cases h
theorem am_ldl_some {kk : List am_V → am_R} {i : Nat} (h : am_ldl kk ls i st = some z) : ∃ x, ls[i]? = some (am_J x) ∧ kk (am_J x :: st) = some z := by
  unfold am_ldl at h
  split at h
  · rename_i x hx; exact ⟨x, hx, h⟩
  · cases h
theorem am_lda_some {kk : List am_V → am_R} {i : Nat} (h : am_lda kk ls i st = some z) : ∃ q, ls[i]? = some (.inr q) ∧ kk (.inr q :: st) = some z := by
  unfold am_lda at h
  split at h
  · rename_i x hx; exact ⟨x, hx, h⟩
  · cases h
theorem am_ls_ok {i : Nat} {v : am_V} (hF : am_Fr σ ad ls st LS nL) (h : ls[i]? = some v) : am_okv σ v := hF.2.2.1 v (List.mem_of_getElem? h)

/-- instructions that touch locals and stack alone -/
def am_easy (ins : Instr) : Bool := match ins with
  | .iconst _ | .bipush _ | .sipush _ | .lconst _ | .ldc2_w _ | .iload_n _ | .iload _ | .lload_n _ | .lload _ | .aload_n _ | .aload _ | .istore_n _ | .istore _ | .lstore_n _ | .lstore _ | .astore_n _ | .astore _ | .iinc _ _
  | .iadd | .isub | .imul | .iand | .ior | .ixor | .idiv | .irem | .ineg | .ishl | .ishr | .iushr | .ladd | .lsub | .land | .lor | .lxor | .lshl | .lshr | .lushr | .lcmp | .i2l | .l2i | .i2b | .i2s | .i2c
  | .dup | .dup_x1 | .dup2 | .pop | .goto _ | .ifCond _ _ | .if_icmp _ _ => true
  | _ => false
set_option maxHeartbeats 4000000 in
theorem am_snd_easy {ins : Instr} (he : am_easy ins = true) (hC : am_Cx p s m args meth c X D A rd nm cc nL ow) (hE : am_eP (am_on ow) nm cc ret (pc, ins, n, r, sw))
    (hk : am_Ks p l e R s m args below meth c X D A rd ad0 σ0 nL Q z k) (h : am_ins Γ X k pc ins n r sw ls st σ = some z)
    (hI : am_Inv X D A s rd ad0 σ0 ad cA σ H locs cells slots) (hF : am_Fr σ ad ls st LS nL) : W p l e R s m args below meth c H locs cells slots Q (F0 m pc LS (st.map (am_cv ad))) := by
  obtain ⟨hx, hb, hml, hown, hts, hlo, hnm, hA, hK, hRO⟩ := hC
  obtain ⟨hd, hn, hq⟩ := hE
  have hn : n = am_ln ins := by
    rcases hn with hn | ⟨_, _, _, _, hn⟩ | ⟨_, _, hn⟩
    · exact hn
    · dsimp only at hn; rw [hn] at he; cases he
    · dsimp only at hn; rw [hn] at he; cases he
  dsimp only at hd hq
  cases ins
  all_goals first | (cases he; done) | skip
  all_goals (simp only [am_ins] at h; simp only [am_ln] at hn; subst hn)
  case iconst v =>
    exact lv_iconst hx hb hd rfl (hk _ _ _ _ h _ _ _ _ _ _ _ hI (am_Fr_st hF (am_ok_c (am_okI _) hF.2.2.2)))
  case bipush v =>
    exact lv_bipush hx hb hd hq (hk _ _ _ _ h _ _ _ _ _ _ _ hI (am_Fr_st hF (am_ok_c (am_okI _) hF.2.2.2)))
  case sipush v =>
    exact lv_sipush hx hb hd hq (hk _ _ _ _ h _ _ _ _ _ _ _ hI (am_Fr_st hF (am_ok_c (am_okI _) hF.2.2.2)))
  case lconst v =>
    exact lv_lconst hx hb hd rfl (hk _ _ _ _ h _ _ _ _ _ _ _ hI (am_Fr_st hF (am_ok_c (am_okJ _) hF.2.2.2)))
  case ldc2_w v =>
    exact lv_ldc2 hx hb hown (hts _ hq) hd (hk _ _ _ _ h _ _ _ _ _ _ _ hI (am_Fr_st hF (am_ok_c (am_okJ _) hF.2.2.2)))
  case iload_n i =>
    obtain ⟨x, h1, h⟩ := am_ldi_some h
    exact lv_iload_n hx hb hd rfl (am_lk_get hF.1 h1 (fun z q => by cases q)) (hk _ _ _ _ h _ _ _ _ _ _ _ hI (am_Fr_st hF (am_ok_c (am_okI _) hF.2.2.2)))
  case iload i =>
    obtain ⟨x, h1, h⟩ := am_ldi_some h
    exact lv_iload hx hb hd (am_lk_get hF.1 h1 (fun z q => by cases q)) (hk _ _ _ _ h _ _ _ _ _ _ _ hI (am_Fr_st hF (am_ok_c (am_okI _) hF.2.2.2)))
  case lload_n i =>
    obtain ⟨x, h1, h⟩ := am_ldl_some h
    exact lv_lload_n hx hb hd rfl (am_lk_get hF.1 h1 (fun z q => by cases q)) (hk _ _ _ _ h _ _ _ _ _ _ _ hI (am_Fr_st hF (am_ok_c (am_okJ _) hF.2.2.2)))
  case lload i =>
    obtain ⟨x, h1, h⟩ := am_ldl_some h
    exact lv_lload hx hb hd (am_lk_get hF.1 h1 (fun z q => by cases q)) (hk _ _ _ _ h _ _ _ _ _ _ _ hI (am_Fr_st hF (am_ok_c (am_okJ _) hF.2.2.2)))
  case aload_n i =>
    obtain ⟨x, h1, h⟩ := am_lda_some h
    exact lv_aload_n hx hb hd rfl (am_lk_get hF.1 h1 (fun z q => by cases q)) (hk _ _ _ _ h _ _ _ _ _ _ _ hI (am_Fr_st hF (am_ok_c (am_ls_ok hF h1) hF.2.2.2)))
  case aload i =>
    obtain ⟨x, h1, h⟩ := am_lda_some h
    exact lv_aload hx hb hd (am_lk_get hF.1 h1 (fun z q => by cases q)) (hk _ _ _ _ h _ _ _ _ _ _ _ hI (am_Fr_st hF (am_ok_c (am_ls_ok hF h1) hF.2.2.2)))
  case istore_n i =>
    obtain ⟨x, t, rfl, h9⟩ := am_i1_some h
    replace h := h9
    obtain ⟨h1, h2, h⟩ := am_st1_some (ad := ad) h
    refine lv_istore_n hx hb hd rfl hF.1 (by rw [← hF.2.1]; exact h1) rfl (fun LS2 hl2 => ?_)
    exact hk _ _ _ _ h _ _ _ _ _ _ _ hI (am_Fr_set hF h1 h2 (am_okI _) (fun z q => by cases q) hl2 (am_ok_t hF.2.2.2))
  case istore i =>
    obtain ⟨x, t, rfl, h9⟩ := am_i1_some h
    replace h := h9
    obtain ⟨h1, h2, h⟩ := am_st1_some (ad := ad) h
    refine lv_istore hx hb hd hF.1 (by rw [← hF.2.1]; exact h1) rfl (fun LS2 hl2 => ?_)
    exact hk _ _ _ _ h _ _ _ _ _ _ _ hI (am_Fr_set hF h1 h2 (am_okI _) (fun z q => by cases q) hl2 (am_ok_t hF.2.2.2))
  case astore_n i =>
    obtain ⟨x, y, t, rfl, h9⟩ := am_r1_some h
    replace h := h9
    obtain ⟨h1, h2, h⟩ := am_st1_some (ad := ad) h
    refine lv_astore_n hx hb hd rfl hF.1 (by rw [← hF.2.1]; exact h1) rfl (fun LS2 hl2 => ?_)
    exact hk _ _ _ _ h _ _ _ _ _ _ _ hI (am_Fr_set hF h1 h2 (hF.2.2.2 _ List.mem_cons_self) (fun z q => by cases q) hl2 (am_ok_t hF.2.2.2))
  case astore i =>
    obtain ⟨x, y, t, rfl, h9⟩ := am_r1_some h
    replace h := h9
    obtain ⟨h1, h2, h⟩ := am_st1_some (ad := ad) h
    refine lv_astore hx hb hd hF.1 (by rw [← hF.2.1]; exact h1) rfl (fun LS2 hl2 => ?_)
    exact hk _ _ _ _ h _ _ _ _ _ _ _ hI (am_Fr_set hF h1 h2 (hF.2.2.2 _ List.mem_cons_self) (fun z q => by cases q) hl2 (am_ok_t hF.2.2.2))
  case lstore_n i =>
    obtain ⟨x, t, rfl, h9⟩ := am_j1_some h
    replace h := h9
    obtain ⟨h1, h2, h⟩ := am_st2_some (ad := ad) h
    refine lv_lstore_n hx hb hd rfl hF.1 (by rw [← hF.2.1]; exact h1) rfl (fun LS2 hl2 => ?_)
    exact hk _ _ _ _ h _ _ _ _ _ _ _ hI (am_Fr_set2 hF h1 h2 hl2 (am_ok_t hF.2.2.2))
  case lstore i =>
    obtain ⟨x, t, rfl, h9⟩ := am_j1_some h
    replace h := h9
    obtain ⟨h1, h2, h⟩ := am_st2_some (ad := ad) h
    refine lv_lstore hx hb hd hF.1 (by rw [← hF.2.1]; exact h1) rfl (fun LS2 hl2 => ?_)
    exact hk _ _ _ _ h _ _ _ _ _ _ _ hI (am_Fr_set2 hF h1 h2 hl2 (am_ok_t hF.2.2.2))
  case iinc i v =>
    split at h
    · rename_i x hx1
      obtain ⟨h1, h2, h⟩ := am_st1_some (ad := ad) h
      obtain ⟨k1, hk1⟩ := List.mem_iff_getElem?.mp (am_lk_mem.mpr ⟨i, am_I x, hx1, (fun z q => by cases q), rfl⟩ : (0 + i, am_cv ad (am_I x)) ∈ am_lk ad 0 ls)
      rw [Nat.zero_add] at hk1
      refine lv_iinc hx hb hd hF.1 hk1 rfl (by rw [← hF.2.1]; exact h1) rfl (fun LS2 hl2 => ?_)
      exact hk _ _ _ _ h _ _ _ _ _ _ _ hI (am_Fr_set hF h1 h2 (am_okI _) (fun z q => by cases q) hl2 hF.2.2.2)
    · cases h
  case iadd =>
    obtain ⟨x, y, t, rfl, h9⟩ := am_i2_some h
    replace h := h9
    exact lv_iadd hx hb hd (hk _ _ _ _ h _ _ _ _ _ _ _ hI (am_Fr_st hF (am_ok_c (am_okI _) (am_ok_t (am_ok_t hF.2.2.2)))))
  case isub =>
    obtain ⟨x, y, t, rfl, h9⟩ := am_i2_some h
    replace h := h9
    exact lv_isub hx hb hd (hk _ _ _ _ h _ _ _ _ _ _ _ hI (am_Fr_st hF (am_ok_c (am_okI _) (am_ok_t (am_ok_t hF.2.2.2)))))
  case imul =>
    obtain ⟨x, y, t, rfl, h9⟩ := am_i2_some h
    replace h := h9
    exact lv_imul hx hb hd (hk _ _ _ _ h _ _ _ _ _ _ _ hI (am_Fr_st hF (am_ok_c (am_okI _) (am_ok_t (am_ok_t hF.2.2.2)))))
  case iand =>
    obtain ⟨x, y, t, rfl, h9⟩ := am_i2_some h
    replace h := h9
    exact lv_iand hx hb hd (hk _ _ _ _ h _ _ _ _ _ _ _ hI (am_Fr_st hF (am_ok_c (am_okI _) (am_ok_t (am_ok_t hF.2.2.2)))))
  case ior =>
    obtain ⟨x, y, t, rfl, h9⟩ := am_i2_some h
    replace h := h9
    exact lv_ior hx hb hd (hk _ _ _ _ h _ _ _ _ _ _ _ hI (am_Fr_st hF (am_ok_c (am_okI _) (am_ok_t (am_ok_t hF.2.2.2)))))
  case ixor =>
    obtain ⟨x, y, t, rfl, h9⟩ := am_i2_some h
    replace h := h9
    exact lv_ixor hx hb hd (hk _ _ _ _ h _ _ _ _ _ _ _ hI (am_Fr_st hF (am_ok_c (am_okI _) (am_ok_t (am_ok_t hF.2.2.2)))))
  case idiv =>
    obtain ⟨x, y, t, rfl, h9⟩ := am_i2_some h
    replace h := h9
    obtain ⟨h0, h⟩ := am_nz_some h
    exact lv_idiv hx hb hd h0 (hk _ _ _ _ h _ _ _ _ _ _ _ hI (am_Fr_st hF (am_ok_c (am_okI _) (am_ok_t (am_ok_t hF.2.2.2)))))
  case irem =>
    obtain ⟨x, y, t, rfl, h9⟩ := am_i2_some h
    replace h := h9
    obtain ⟨h0, h⟩ := am_nz_some h
    exact lv_irem hx hb hd h0 (hk _ _ _ _ h _ _ _ _ _ _ _ hI (am_Fr_st hF (am_ok_c (am_okI _) (am_ok_t (am_ok_t hF.2.2.2)))))
  case ineg =>
    obtain ⟨x, t, rfl, h9⟩ := am_i1_some h
    replace h := h9
    exact lv_ineg hx hb hd (hk _ _ _ _ h _ _ _ _ _ _ _ hI (am_Fr_st hF (am_ok_c (am_okI _) (am_ok_t hF.2.2.2))))
  case ishl =>
    obtain ⟨x, y, t, rfl, h9⟩ := am_i2_some h
    replace h := h9
    exact lv_ishl hx hb hd (hk _ _ _ _ h _ _ _ _ _ _ _ hI (am_Fr_st hF (am_ok_c (am_okI _) (am_ok_t (am_ok_t hF.2.2.2)))))
  case ishr =>
    obtain ⟨x, y, t, rfl, h9⟩ := am_i2_some h
    replace h := h9
    exact lv_ishr hx hb hd (hk _ _ _ _ h _ _ _ _ _ _ _ hI (am_Fr_st hF (am_ok_c (am_okI _) (am_ok_t (am_ok_t hF.2.2.2)))))
  case iushr =>
    obtain ⟨x, y, t, rfl, h9⟩ := am_i2_some h
    replace h := h9
    exact lv_iushr hx hb hd rfl (hk _ _ _ _ h _ _ _ _ _ _ _ hI (am_Fr_st hF (am_ok_c (am_okI _) (am_ok_t (am_ok_t hF.2.2.2)))))
  case ladd =>
    obtain ⟨x, y, t, rfl, h9⟩ := am_j2_some h
    replace h := h9
    exact lv_ladd hx hb hd (hk _ _ _ _ h _ _ _ _ _ _ _ hI (am_Fr_st hF (am_ok_c (am_okJ _) (am_ok_t (am_ok_t hF.2.2.2)))))
  case lsub =>
    obtain ⟨x, y, t, rfl, h9⟩ := am_j2_some h
    replace h := h9
    exact lv_lsub hx hb hd (hk _ _ _ _ h _ _ _ _ _ _ _ hI (am_Fr_st hF (am_ok_c (am_okJ _) (am_ok_t (am_ok_t hF.2.2.2)))))
  case land =>
    obtain ⟨x, y, t, rfl, h9⟩ := am_j2_some h
    replace h := h9
    exact lv_land hx hb hd (hk _ _ _ _ h _ _ _ _ _ _ _ hI (am_Fr_st hF (am_ok_c (am_okJ _) (am_ok_t (am_ok_t hF.2.2.2)))))
  case lor =>
    obtain ⟨x, y, t, rfl, h9⟩ := am_j2_some h
    replace h := h9
    exact lv_lor hx hb hd (hk _ _ _ _ h _ _ _ _ _ _ _ hI (am_Fr_st hF (am_ok_c (am_okJ _) (am_ok_t (am_ok_t hF.2.2.2)))))
  case lxor =>
    obtain ⟨x, y, t, rfl, h9⟩ := am_j2_some h
    replace h := h9
    exact lv_lxor hx hb hd (hk _ _ _ _ h _ _ _ _ _ _ _ hI (am_Fr_st hF (am_ok_c (am_okJ _) (am_ok_t (am_ok_t hF.2.2.2)))))
  case lshl =>
    obtain ⟨x, y, t, rfl, h9⟩ := am_ji_some h
    replace h := h9
    exact lv_lshl hx hb hd rfl (hk _ _ _ _ h _ _ _ _ _ _ _ hI (am_Fr_st hF (am_ok_c (am_okJ _) (am_ok_t (am_ok_t hF.2.2.2)))))
  case lshr =>
    obtain ⟨x, y, t, rfl, h9⟩ := am_ji_some h
    replace h := h9
    exact lv_lshr hx hb hd rfl (hk _ _ _ _ h _ _ _ _ _ _ _ hI (am_Fr_st hF (am_ok_c (am_okJ _) (am_ok_t (am_ok_t hF.2.2.2)))))
  case lushr =>
    obtain ⟨x, y, t, rfl, h9⟩ := am_ji_some h
    replace h := h9
    exact lv_lushr hx hb hd rfl (hk _ _ _ _ h _ _ _ _ _ _ _ hI (am_Fr_st hF (am_ok_c (am_okJ _) (am_ok_t (am_ok_t hF.2.2.2)))))
  case lcmp =>
    obtain ⟨x, y, t, rfl, h9⟩ := am_j2_some h
    replace h := h9
    exact W.lcmp hx hb hd (hk _ _ _ _ h _ _ _ _ _ _ _ hI (am_Fr_st hF (am_ok_c (am_okI _) (am_ok_t (am_ok_t hF.2.2.2)))))
  case i2l =>
    obtain ⟨x, t, rfl, h9⟩ := am_i1_some h
    replace h := h9
    exact lv_i2l hx hb hd rfl (hk _ _ _ _ h _ _ _ _ _ _ _ hI (am_Fr_st hF (am_ok_c (am_okJ _) (am_ok_t hF.2.2.2))))
  case l2i =>
    obtain ⟨x, t, rfl, h9⟩ := am_j1_some h
    replace h := h9
    exact lv_l2i hx hb hd rfl (hk _ _ _ _ h _ _ _ _ _ _ _ hI (am_Fr_st hF (am_ok_c (am_okI _) (am_ok_t hF.2.2.2))))
  case i2b =>
    obtain ⟨x, t, rfl, h9⟩ := am_i1_some h
    replace h := h9
    exact lv_i2b hx hb hd rfl (hk _ _ _ _ h _ _ _ _ _ _ _ hI (am_Fr_st hF (am_ok_c (am_okI _) (am_ok_t hF.2.2.2))))
  case i2s =>
    obtain ⟨x, t, rfl, h9⟩ := am_i1_some h
    replace h := h9
    exact lv_i2s hx hb hd rfl (hk _ _ _ _ h _ _ _ _ _ _ _ hI (am_Fr_st hF (am_ok_c (am_okI _) (am_ok_t hF.2.2.2))))
  case i2c =>
    obtain ⟨x, t, rfl, h9⟩ := am_i1_some h
    replace h := h9
    exact lv_i2c hx hb hd rfl (hk _ _ _ _ h _ _ _ _ _ _ _ hI (am_Fr_st hF (am_ok_c (am_okI _) (am_ok_t hF.2.2.2))))
  case dup =>
    split at h
    · exact lv_dup hx hb hd rfl (hk _ _ _ _ h _ _ _ _ _ _ _ hI (am_Fr_st hF (am_ok_c (am_okI _) hF.2.2.2)))
    · exact lv_dup hx hb hd rfl (hk _ _ _ _ h _ _ _ _ _ _ _ hI (am_Fr_st hF (am_ok_c (hF.2.2.2 _ List.mem_cons_self) hF.2.2.2)))
    · cases h
  case dup_x1 =>
    split at h
    · exact lv_dup_x1 hx hb hd rfl rfl (hk _ _ _ _ h _ _ _ _ _ _ _ hI (am_Fr_st hF (am_ok_c (am_okI _) (am_ok_c (am_ok_t hF.2.2.2 _ List.mem_cons_self) (am_ok_c (am_okI _) (am_ok_t (am_ok_t hF.2.2.2)))))))
    · cases h
  case dup2 =>
    split at h
    · exact lv_dup2_11 hx hb hd rfl rfl (hk _ _ _ _ h _ _ _ _ _ _ _ hI (am_Fr_st hF (am_ok_c (am_okI _) (am_ok_c (am_ok_t hF.2.2.2 _ List.mem_cons_self) hF.2.2.2))))
    · cases h
  case pop =>
    obtain ⟨x, t, rfl, h9⟩ := am_i1_some h
    replace h := h9
    exact lv_pop hx hb hd rfl (hk _ _ _ _ h _ _ _ _ _ _ _ hI (am_Fr_st hF (am_ok_t hF.2.2.2)))
  case goto off =>
    exact lv_goto hx hb hd hq (hk _ _ _ _ h _ _ _ _ _ _ _ hI hF)
  case ifCond cnd off =>
    obtain ⟨x, t, rfl, h9⟩ := am_i1_some h
    replace h := h9
    cases cnd <;> simp only [am_cmp] at h
    · refine lv_if_eq hx hb hd hq (fun w => ?_) (fun w => ?_)
      · rw [if_pos w] at h; exact hk _ _ _ _ h _ _ _ _ _ _ _ hI (am_Fr_st hF (am_ok_t hF.2.2.2))
      · rw [if_neg w] at h; exact hk _ _ _ _ h _ _ _ _ _ _ _ hI (am_Fr_st hF (am_ok_t hF.2.2.2))
    · refine lv_if_ne hx hb hd hq (fun w => ?_) (fun w => ?_)
      · rw [if_pos w] at h; exact hk _ _ _ _ h _ _ _ _ _ _ _ hI (am_Fr_st hF (am_ok_t hF.2.2.2))
      · rw [if_neg (fun q => q w)] at h; exact hk _ _ _ _ h _ _ _ _ _ _ _ hI (am_Fr_st hF (am_ok_t hF.2.2.2))
    · refine lv_if_lt hx hb hd hq (fun w => ?_) (fun w => ?_)
      · rw [if_pos w] at h; exact hk _ _ _ _ h _ _ _ _ _ _ _ hI (am_Fr_st hF (am_ok_t hF.2.2.2))
      · rw [if_neg w] at h; exact hk _ _ _ _ h _ _ _ _ _ _ _ hI (am_Fr_st hF (am_ok_t hF.2.2.2))
    · refine lv_if_ge hx hb hd hq (fun w => ?_) (fun w => ?_)
      · rw [if_pos w] at h; exact hk _ _ _ _ h _ _ _ _ _ _ _ hI (am_Fr_st hF (am_ok_t hF.2.2.2))
      · rw [if_neg w] at h; exact hk _ _ _ _ h _ _ _ _ _ _ _ hI (am_Fr_st hF (am_ok_t hF.2.2.2))
    · refine lv_if_gt hx hb hd hq (fun w => ?_) (fun w => ?_)
      · rw [if_pos w] at h; exact hk _ _ _ _ h _ _ _ _ _ _ _ hI (am_Fr_st hF (am_ok_t hF.2.2.2))
      · rw [if_neg w] at h; exact hk _ _ _ _ h _ _ _ _ _ _ _ hI (am_Fr_st hF (am_ok_t hF.2.2.2))
    · refine lv_if_le hx hb hd hq (fun w => ?_) (fun w => ?_)
      · rw [if_pos w] at h; exact hk _ _ _ _ h _ _ _ _ _ _ _ hI (am_Fr_st hF (am_ok_t hF.2.2.2))
      · rw [if_neg w] at h; exact hk _ _ _ _ h _ _ _ _ _ _ _ hI (am_Fr_st hF (am_ok_t hF.2.2.2))
  case if_icmp cnd off =>
    obtain ⟨x, y, t, rfl, h9⟩ := am_i2_some h
    replace h := h9
    cases cnd <;> simp only [am_cmp] at h
    · refine lv_icmp_eq hx hb hd hq (fun w => ?_) (fun w => ?_)
      · rw [if_pos w] at h; exact hk _ _ _ _ h _ _ _ _ _ _ _ hI (am_Fr_st hF (am_ok_t (am_ok_t hF.2.2.2)))
      · rw [if_neg w] at h; exact hk _ _ _ _ h _ _ _ _ _ _ _ hI (am_Fr_st hF (am_ok_t (am_ok_t hF.2.2.2)))
    · refine lv_icmp_ne hx hb hd hq (fun w => ?_) (fun w => ?_)
      · rw [if_pos w] at h; exact hk _ _ _ _ h _ _ _ _ _ _ _ hI (am_Fr_st hF (am_ok_t (am_ok_t hF.2.2.2)))
      · rw [if_neg (fun q => q w)] at h; exact hk _ _ _ _ h _ _ _ _ _ _ _ hI (am_Fr_st hF (am_ok_t (am_ok_t hF.2.2.2)))
    · refine lv_icmp_lt hx hb hd hq (fun w => ?_) (fun w => ?_)
      · rw [if_pos w] at h; exact hk _ _ _ _ h _ _ _ _ _ _ _ hI (am_Fr_st hF (am_ok_t (am_ok_t hF.2.2.2)))
      · rw [if_neg w] at h; exact hk _ _ _ _ h _ _ _ _ _ _ _ hI (am_Fr_st hF (am_ok_t (am_ok_t hF.2.2.2)))
    · refine lv_icmp_ge hx hb hd hq (fun w => ?_) (fun w => ?_)
      · rw [if_pos w] at h; exact hk _ _ _ _ h _ _ _ _ _ _ _ hI (am_Fr_st hF (am_ok_t (am_ok_t hF.2.2.2)))
      · rw [if_neg w] at h; exact hk _ _ _ _ h _ _ _ _ _ _ _ hI (am_Fr_st hF (am_ok_t (am_ok_t hF.2.2.2)))
    · refine lv_icmp_gt hx hb hd hq (fun w => ?_) (fun w => ?_)
      · rw [if_pos w] at h; exact hk _ _ _ _ h _ _ _ _ _ _ _ hI (am_Fr_st hF (am_ok_t (am_ok_t hF.2.2.2)))
      · rw [if_neg w] at h; exact hk _ _ _ _ h _ _ _ _ _ _ _ hI (am_Fr_st hF (am_ok_t (am_ok_t hF.2.2.2)))
    · refine lv_icmp_le hx hb hd hq (fun w => ?_) (fun w => ?_)
      · rw [if_pos w] at h; exact hk _ _ _ _ h _ _ _ _ _ _ _ hI (am_Fr_st hF (am_ok_t (am_ok_t hF.2.2.2)))
      · rw [if_neg w] at h; exact hk _ _ _ _ h _ _ _ _ _ _ _ hI (am_Fr_st hF (am_ok_t (am_ok_t hF.2.2.2)))
end AMI
end
section
/-! WHAT THE ABSTRACT MACHINE IS WORTH, 5: instructions that read or write made things -/
section AMH
variable {p : Program} {l : Launch} {e : Env} {R : Room} {s : State} {m : MethodId} {args : Array Value} {below : List Frame} {meth : Method} {c : Code} {H : Heap} {locs : List Loc} {cells slots : Nat} {Q : State → Prop}
variable {X : am_X} {D : va_G} {A : Nat → Prop} {rd ad0 ad : Nat → Nat → Nat} {cA : Nat → Nat → ClassId} {σ0 σ : am_S} {nm : String} {cc : ByteArray} {nL ow pc n : Nat} {ret : Option FieldType} {z : Option am_V × am_S}
variable {ls st : List am_V} {LS : Array Slot} {r : Nat × Nat × Nat} {sw : List (Int × Nat)} {Γ : Nat → List am_V → am_S → am_R}
variable {k : Nat → List am_V → List am_V → am_S → am_R}
theorem am_tysK (hK : va_K D am_CL [] s) {a : ClassId} {ty : FieldType} (h : ArrOfT s a ty ∧ va_RA s a ty) : va_K D am_CL [(a, ty)] s := by
  refine ⟨hK.1, fun k q hq => ?_⟩
  cases k with
  | zero => cases hq; exact h
  | succ k => simp at hq
theorem am_ok_lt {c0 i : Nat} (h : am_okq σ c0 i) (hc : c0 < 200) : am_ok σ c0 i := by
  rcases h with h | h
  · exact h
  · unfold am_rok at h; omega
theorem am_cell_obj {c0 i : Nat} (h : am_tk c0 = 9) : am_cell X ad cA σ c0 i = .inr (am_ci c0, am_obj X ad σ c0 i) := by
  unfold am_cell; rw [h]; rfl
theorem am_cell_row {c0 i : Nat} (h : am_tk c0 ≠ 9) : am_cell X ad cA σ c0 i = .inl (cA c0 i, am_row X ad σ c0 i) := by
  unfold am_cell; rw [am_nbf h]; rfl
theorem am_row_i {c0 i : Nat} (h1 : am_tk c0 ≠ 1) (h2 : am_tk c0 ≠ 2) : am_row X ad σ c0 i = (am_len X c0 i, .inl (am_gs X σ c0 i)) := by
  unfold am_row
  split
  · rename_i q; exact absurd q h1
  · rename_i q; exact absurd q h2
  · rfl
theorem am_row_l {c0 i : Nat} (h : am_tk c0 = 1) : am_row X ad σ c0 i = (am_len X c0 i, .inr (.inl (am_gl σ c0 i))) := by
  unfold am_row; rw [h]; rfl
theorem am_row_r {c0 i : Nat} (h : am_tk c0 = 2) : am_row X ad σ c0 i = (am_len X c0 i, .inr (.inr (.inr (.inr fun j => am_rf ad (am_go σ c0 i j))))) := by
  unfold am_row; rw [h]; rfl
/-- references of any kind of array -/
theorem am_aldq {ws : va_W} {tys : List (ClassId × FieldType)} {LS : Array Slot} {rest : List Value} {a : Nat} (hexec : p.tables.exec = Jvm.exec) (hb : c.code = cc) (hK : va_K D am_CL tys s) (hP : va_P D am_CL ws H) (q0 t0 : Nat) {a0 : ClassId} {ty : FieldType} {n : Nat} {f : Nat → Option Nat} (ha : ws[q0]? = some (a, .inl (a0, n, .inr (.inr (.inr (.inr f)))))) (ht : tys[t0]? = some (a0, ty)) (hr : ty.isReference = true) {i : Int32} (hin : vp_in i n) (hdg : decode cc pc = .ok (.aaload, 1))
    (kk : W p l e R s m args below meth c H locs cells slots Q (F0 m (pc + 1) LS (va_rf (f i.toNatClampNeg) :: rest))) : W p l e R s m args below meth c H locs cells slots Q (F0 m pc LS (.int i :: .ref a :: rest)) := by
  have hlt : i.toNatClampNeg < n := Nat.not_le.mp fun q => hin (Or.inr q)
  exact W.aald (v := va_rf (f i.toNatClampNeg)) (ty := ty) hexec hb (hP q0 _ ha) ((hK.2 t0 _ ht).1 n (fun j => va_rf (f j))) hr (fun q => by cases q) (by show ¬ (i < 0 ∨ (arrV _ _ _).slots.size ≤ _); rw [arrV_size]; exact hin) (by show (arrV _ _ _).slots[_]? = _; rw [arrV_read _ _ hlt]) rfl rfl hdg kk
/-- a place of an array of ints that was there before -/
theorem am_tld {LS : Array Slot} {rest : List Value} {t N : Nat} {f : Nat → Int32} (hx : p.tables.exec = Jvm.exec) (hb : c.code = cc) (hT : va_T .int t N (fun j => .int (f j)) A s s.heap) (hS : va_S A s.heap H locs) {i : Int32} (hin : vp_in i N) (hdg : decode cc pc = .ok (.iaload, 1))
    (kk : W p l e R s m args below meth c H locs cells slots Q (F0 m (pc + 1) LS (.int (f i.toNatClampNeg) :: rest))) : W p l e R s m args below meth c H locs cells slots Q (F0 m pc LS (.int i :: .ref t :: rest)) := by
  obtain ⟨cell, h1, h2, h3, h4, h5, h6, h7⟩ := hT.kept hS.2.1
  have hlt : i.toNatClampNeg < N := Nat.not_le.mp fun q => hin (Or.inr q)
  exact W.iald hx hb h1 h2 h3 (fun q => hin (q.elim Or.inl (fun q => Or.inr (Nat.le_trans h4 q)))) (h6 _ hlt) rfl rfl hdg kk
theorem am_tyF : ∀ c0, c0 < 200 → (am_tk c0 = 0 → am_ty c0 = .int) ∧ (am_tk c0 = 3 → am_ty c0 = .byte) ∧ (am_tk c0 = 4 → am_ty c0 = .boolean) ∧ (am_tk c0 = 1 → am_ty c0 = .long) ∧ (am_tk c0 = 2 → (am_ty c0).isReference = true) ∧ (am_tk c0 = 2 → am_ec c0 < 200 → am_tk (am_ec c0) = 9 ∧ am_ci (am_ec c0) < 11 ∧ am_ty c0 = .object (am_k (am_ec c0)).1) := by decide +kernel
theorem am_kOf {c0 : Nat} (h : am_ci c0 < 11) : am_CL[am_ci c0]? = some (am_k c0) := by
  have h2 : am_ci c0 < am_CL.length := h
  unfold am_k
  rw [List.getD_eq_getElem?_getD, List.getElem?_eq_getElem h2]
  rfl
theorem am_fv_l {c0 i j : Nat} (h : am_fk c0 j = 1) : am_fv X ad σ c0 i j = .long (am_gl σ c0 i j) := by
  unfold am_fv; rw [h]; rfl
theorem am_fv_r {c0 i j : Nat} (h : am_fk c0 j = 2) : am_fv X ad σ c0 i j = va_rf (am_rf ad (am_go σ c0 i j)) := by
  unfold am_fv; rw [h]; rfl
theorem am_fv_i {c0 i j : Nat} (h1 : am_fk c0 j ≠ 1) (h2 : am_fk c0 j ≠ 2) : am_fv X ad σ c0 i j = .int (am_gs X σ c0 i j) := by
  unfold am_fv
  split
  · rename_i q; exact absurd q h1
  · rename_i q; exact absurd q h2
  · rfl
theorem am_W_go (hW : am_W X D A s ad cA σ H) {c0 i j : Nat} (hv : am_ok σ c0 i) : am_okv σ (am_rv (am_go σ c0 i j)) := by
  obtain ⟨ws, -, -, -, -, -, h6⟩ := hW
  cases hg : am_go σ c0 i j with
  | none => trivial
  | some q => exact Or.inl (h6 c0 i j q hv hg)
theorem am_obj_at {c0 i j : Nat} (hj : j < am_nf c0) : (am_obj X ad σ c0 i)[j]? = some (am_fv X ad σ c0 i j) := by
  unfold am_obj; simp [hj]
set_option maxHeartbeats 1000000 in
theorem am_snd_getfield {idx : Nat} (hC : am_Cx p s m args meth c X D A rd nm cc nL ow) (hE : am_eP (am_on ow) nm cc ret (pc, .getfield idx, n, r, sw))
    (hk : am_Ks p l e R s m args below meth c X D A rd ad0 σ0 nL Q z k) (h : am_ins Γ X k pc (.getfield idx) n r sw ls st σ = some z)
    (hI : am_Inv X D A s rd ad0 σ0 ad cA σ H locs cells slots) (hF : am_Fr σ ad ls st LS nL) : W p l e R s m args below meth c H locs cells slots Q (F0 m pc LS (st.map (am_cv ad))) := by
  obtain ⟨hx, hb, hml, hown, hts, hlo, hnm, hA, hK, hRO⟩ := hC
  obtain ⟨hd, hn, hq⟩ := hE
  have hn : n = 3 := by
    rcases hn with hn | ⟨_, _, _, _, hn⟩ | ⟨_, _, hn⟩
    · exact hn
    · cases hn
    · cases hn
  dsimp only at hd hq
  subst hn
  simp only [am_ins] at h
  simp only [am_eQ] at hq
  obtain ⟨c0, i, t, rfl, h9⟩ := am_r1_some h
  replace h := h9
  obtain ⟨h1, h⟩ := am_bif_some h
  have h1 := Nat.eq_of_beq_eq_true h1
  have hv : am_okq σ c0 i := hF.2.2.2 _ List.mem_cons_self
  rcases hq with ⟨q1, q2, q3, q4, q5, q6, q7, q8, q9⟩ | ⟨q1, q2⟩
  · rw [← h1] at q1 q2 q3 q4 q5 q6 q7 q8 q9
    have hvo := am_ok_lt hv q1
    obtain ⟨hW, hS, hag, -⟩ := id hI
    have hWc := hW
    obtain ⟨ws, hP, hD, h3, -⟩ := hW
    obtain ⟨k1, hk1⟩ := h3 c0 i hvo
    rw [am_cell_obj q2] at hk1
    refine va_get (cl := am_CL) (D := D) (ci := am_ci c0) hx hb hts q9 hown hK hP k1 hk1 q3 r.2.1 (by rw [q4]; exact q5) (hts _ q8) (fun x h => by rw [← q7]; exact h) (am_obj_at q5) hd ?_
    have key : ∀ v : am_V, am_fv X ad σ c0 i r.2.1 = am_cv ad v → am_okv σ v → k (pc + 3) ls (v :: t) σ = some z → W p l e R s m args below meth c H locs cells slots Q (F0 m (pc + 3) LS (am_fv X ad σ c0 i r.2.1 :: t.map (am_cv ad))) := by
      intro v e1 e2 e3
      rw [e1]
      exact hk _ _ _ _ e3 _ _ _ _ _ _ _ hI (am_Fr_st hF (am_ok_c e2 (am_ok_t hF.2.2.2)))
    by_cases e1 : r.2.2 = 1
    · rw [e1] at h
      exact key _ (am_fv_l (q6.trans e1)) (am_okJ _) h
    · by_cases e2 : r.2.2 = 2
      · rw [e2] at h
        exact key _ ((am_fv_r (q6.trans e2)).trans (am_cv_rv ad _).symm) (am_W_go hWc hvo) h
      · split at h
        · rename_i q; exact absurd q e1
        · rename_i q; exact absurd q e2
        · exact key _ (am_fv_i (fun q => e1 (q6.symm.trans q)) (fun q => e2 (q6.symm.trans q))) (am_okI _) h
  · rw [← h1] at q1
    subst q1
    have hvr : i < 7 := by
      rcases hv with hv | hv
      · exact absurd hv.1 (by omega)
      · unfold am_rok at hv; omega
    obtain ⟨-, -, -, -, hS7, -⟩ := hRO
    have e203 : ad 203 i = rd 203 i := hI.2.2.1 203 i (by omega)
    have e202 : ad 202 i = rd 202 i := hI.2.2.1 202 i (by omega)
    rcases q2 with ⟨q2, q3, q4⟩ | ⟨q2, q3, q4⟩
    · rw [q2, q3] at h
      show W p l e R s m args below meth c H locs cells slots Q (F0 m pc LS (.ref (ad 203 i) :: t.map (am_cv ad)))
      rw [e203]
      refine vk_getf hx hb (hS7.1 i hvr).2.2.1 hI.2.1 hown (hts _ q4) (fun x h => h) hd ?_
      have h2 := hk _ _ _ _ h _ _ _ _ _ _ _ hI (am_Fr_st hF (am_ok_c (Or.inr (by unfold am_rok; dsimp only; omega) : am_okv σ (.inr (202, i))) (am_ok_t hF.2.2.2)))
      change W p l e R s m args below meth c H locs cells slots Q (F0 m (pc + 3) LS (.ref (ad 202 i) :: t.map (am_cv ad))) at h2
      rw [e202] at h2
      exact h2
    · rw [q2, q3] at h
      show W p l e R s m args below meth c H locs cells slots Q (F0 m pc LS (.ref (ad 203 i) :: t.map (am_cv ad)))
      rw [e203]
      exact vk_getf hx hb (hS7.1 i hvr).2.1 hI.2.1 hown (hts _ q4) (fun x h => h) hd (hk _ _ _ _ h _ _ _ _ _ _ _ hI (am_Fr_st hF (am_ok_c (am_okI _) (am_ok_t hF.2.2.2))))
end AMH
end
section
/-! WHAT THE ABSTRACT MACHINE IS WORTH, 6: instructions that write; arrays -/
section AMH
variable {p : Program} {l : Launch} {e : Env} {R : Room} {s : State} {m : MethodId} {args : Array Value} {below : List Frame} {meth : Method} {c : Code} {H : Heap} {locs : List Loc} {cells slots : Nat} {Q : State → Prop}
variable {X : am_X} {D : va_G} {A : Nat → Prop} {rd ad0 ad : Nat → Nat → Nat} {cA : Nat → Nat → ClassId} {σ0 σ : am_S} {nm : String} {cc : ByteArray} {nL ow pc n : Nat} {ret : Option FieldType} {z : Option am_V × am_S}
variable {ls st : List am_V} {LS : Array Slot} {r : Nat × Nat × Nat} {sw : List (Int × Nat)} {Γ : Nat → List am_V → am_S → am_R}
variable {k : Nat → List am_V → List am_V → am_S → am_R}

theorem am_okv_cn {σ' : am_S} (hc : σ'.2.2 = σ.2.2) {v : am_V} (h : am_okv σ v) : am_okv σ' v := by
  rcases v with v | q
  · trivial
  · rcases h with h | h
    · exact Or.inl ⟨h.1, by rw [hc]; exact h.2⟩
    · exact Or.inr h
theorem am_Fr_cn {σ' : am_S} {st' : List am_V} (hc : σ'.2.2 = σ.2.2) (hF : am_Fr σ ad ls st LS nL) (h : ∀ v ∈ st', am_okv σ v) : am_Fr σ' ad ls st' LS nL :=
  ⟨hF.1, hF.2.1, fun v hv => am_okv_cn hc (hF.2.2.1 v hv), fun v hv => am_okv_cn hc (h v hv)⟩
theorem am_Inv_cn {σ' : am_S} {H1 : Heap} {locs1 : List Loc} (hc : σ'.2.2 = σ.2.2) (hI : am_Inv X D A s rd ad0 σ0 ad cA σ H locs cells slots) (hW : am_W X D A s ad cA σ' H1) (hS : va_S A s.heap H1 locs1) : am_Inv X D A s rd ad0 σ0 ad cA σ' H1 locs1 cells slots := by
  obtain ⟨-, -, h3, h4, h5, h6, h7⟩ := hI
  exact ⟨hW, hS, h3, h4, by rw [hc]; exact h5, by rw [hc]; exact h6, by rw [hc]; exact h7⟩
theorem am_obj_pi {c0 i j : Nat} (hc : c0 < 200) (h1 : am_fk c0 j ≠ 1) (h2 : am_fk c0 j ≠ 2) (x : Int32) : (am_obj X ad σ c0 i).set j (.int x) = am_obj X ad (am_pi σ c0 i j x) c0 i := by
  refine am_map_set _ _ _ _ _ ?_ fun k hk => ?_
  · rw [am_fv_i h1 h2, am_gs_pi X σ hc, if_pos ⟨rfl, rfl, rfl⟩]
  · unfold am_fv
    rw [am_gl_pi, am_go_pi, am_gs_pi X σ hc, if_neg (fun q => hk q.2.2)]
theorem am_obj_po {c0 i j : Nat} (hc : c0 < 200) (h2 : am_fk c0 j = 2) (q : Nat × Nat) : (am_obj X ad σ c0 i).set j (.ref (ad q.1 q.2)) = am_obj X ad (am_po σ c0 i j (some q)) c0 i := by
  refine am_map_set _ _ _ _ _ ?_ fun k hk => ?_
  · rw [am_fv_r h2, am_go_po σ hc, if_pos ⟨rfl, rfl, rfl⟩]; rfl
  · unfold am_fv
    rw [am_gl_po, am_gs_po, am_go_po σ hc, if_neg (fun q => hk q.2.2)]
theorem am_cell_pi {c0 i j c' i' : Nat} (hc : c0 < 200) (x : Int32) (hne : ¬ (c' = c0 ∧ i' = i)) : am_cell X ad cA (am_pi σ c0 i j x) c' i' = am_cell X ad cA σ c' i' :=
  am_cell_eq (fun k => by rw [am_gs_pi X σ hc, if_neg (fun q => hne ⟨q.1, q.2.1⟩)]) (fun k => am_gl_pi _ _ _ _ _ _ _ _) (fun k => am_go_pi _ _ _ _ _ _ _ _)
theorem am_cell_pl {c0 i j c' i' : Nat} (x : Int64) (hne : ¬ (c' = c0 ∧ i' = i)) : am_cell X ad cA (am_pl σ c0 i j x) c' i' = am_cell X ad cA σ c' i' :=
  am_cell_eq (fun k => am_gs_pl _ _ _ _ _ _ _ _ _) (fun k => by rw [am_gl_pl, if_neg (fun q => hne ⟨q.1, q.2.1⟩)]) (fun k => am_go_pl _ _ _ _ _ _ _ _)
theorem am_cell_po {c0 i j c' i' : Nat} (hc : c0 < 200) (x : Option (Nat × Nat)) (hne : ¬ (c' = c0 ∧ i' = i)) : am_cell X ad cA (am_po σ c0 i j x) c' i' = am_cell X ad cA σ c' i' :=
  am_cell_eq (fun k => am_gs_po _ _ _ _ _ _ _ _ _) (fun k => am_gl_po _ _ _ _ _ _ _ _) (fun k => by rw [am_go_po σ hc, if_neg (fun q => hne ⟨q.1, q.2.1⟩)])
/-- an int is written into a made thing: what is there then -/
theorem am_done_pi {c0 i j k1 : Nat} {x : Int32} {E : va_E} {ws : va_W} {H1 : Heap} {locs1 : List Loc} {st' : List am_V} {pc' : Nat} (hc : c0 < 200) (hv : am_ok σ c0 i) (hI : am_Inv X D A s rd ad0 σ0 ad cA σ H locs cells slots)
    (hP : va_P D am_CL ws H) (hD : va_D A ws) (h3 : ∀ c i, am_ok σ c i → ∃ k : Nat, ws[k]? = some (ad c i, am_cell X ad cA σ c i)) (h4 : ∀ c i, am_ok σ c i → am_tk c ≠ 9 → ArrOfT s (cA c i) (am_ty c) ∧ va_RA s (cA c i) (am_ty c))
    (h5 : ∀ c i c' i', am_ok σ c i → am_ok σ c' i' → ad c i = ad c' i' → c = c' ∧ i = i') (h6 : ∀ c i j q, am_ok σ c i → am_go σ c i j = some q → am_ok σ q.1 q.2)
    (hk1 : ws[k1]? = some (ad c0 i, am_cell X ad cA σ c0 i)) (he : E = am_cell X ad cA (am_pi σ c0 i j x) c0 i) (hP1 : va_P D am_CL (ws.set k1 (ad c0 i, E)) H1) (hD1 : va_D A (ws.set k1 (ad c0 i, E))) (hS1 : va_S A s.heap H1 locs1)
    (hk : am_Ks p l e R s m args below meth c X D A rd ad0 σ0 nL Q z k) (h : k pc' ls st' (am_pi σ c0 i j x) = some z) (hF : am_Fr σ ad ls st LS nL) (hs : ∀ v ∈ st', am_okv σ v) : W p l e R s m args below meth c H1 locs1 cells slots Q (F0 m pc' LS (st'.map (am_cv ad))) := by
  have hcn : (am_pi σ c0 i j x).2.2 = σ.2.2 := am_cn_sq _ _ _
  refine hk _ _ _ _ h _ _ _ _ _ _ _ (am_Inv_cn hcn hI (am_W_set hk1 hv h3 h4 h5 ?_ hP1 hD1 he (by rw [hcn]) (fun c' i' hne => am_cell_pi hc x hne)) hS1) (am_Fr_cn hcn hF hs)
  intro c1 i1 j1 q g1 g2
  rw [am_go_pi] at g2
  have := h6 c1 i1 j1 q ⟨g1.1, by rw [← hcn]; exact g1.2⟩ g2
  exact ⟨this.1, by rw [hcn]; exact this.2⟩
theorem am_done_pl {c0 i j k1 : Nat} {x : Int64} {E : va_E} {ws : va_W} {H1 : Heap} {locs1 : List Loc} {st' : List am_V} {pc' : Nat} (hv : am_ok σ c0 i) (hI : am_Inv X D A s rd ad0 σ0 ad cA σ H locs cells slots)
    (hP : va_P D am_CL ws H) (hD : va_D A ws) (h3 : ∀ c i, am_ok σ c i → ∃ k : Nat, ws[k]? = some (ad c i, am_cell X ad cA σ c i)) (h4 : ∀ c i, am_ok σ c i → am_tk c ≠ 9 → ArrOfT s (cA c i) (am_ty c) ∧ va_RA s (cA c i) (am_ty c))
    (h5 : ∀ c i c' i', am_ok σ c i → am_ok σ c' i' → ad c i = ad c' i' → c = c' ∧ i = i') (h6 : ∀ c i j q, am_ok σ c i → am_go σ c i j = some q → am_ok σ q.1 q.2)
    (hk1 : ws[k1]? = some (ad c0 i, am_cell X ad cA σ c0 i)) (he : E = am_cell X ad cA (am_pl σ c0 i j x) c0 i) (hP1 : va_P D am_CL (ws.set k1 (ad c0 i, E)) H1) (hD1 : va_D A (ws.set k1 (ad c0 i, E))) (hS1 : va_S A s.heap H1 locs1)
    (hk : am_Ks p l e R s m args below meth c X D A rd ad0 σ0 nL Q z k) (h : k pc' ls st' (am_pl σ c0 i j x) = some z) (hF : am_Fr σ ad ls st LS nL) (hs : ∀ v ∈ st', am_okv σ v) : W p l e R s m args below meth c H1 locs1 cells slots Q (F0 m pc' LS (st'.map (am_cv ad))) := by
  have hcn : (am_pl σ c0 i j x).2.2 = σ.2.2 := am_cn_sq _ _ _
  refine hk _ _ _ _ h _ _ _ _ _ _ _ (am_Inv_cn hcn hI (am_W_set hk1 hv h3 h4 h5 ?_ hP1 hD1 he (by rw [hcn]) (fun c' i' hne => am_cell_pl x hne)) hS1) (am_Fr_cn hcn hF hs)
  intro c1 i1 j1 q g1 g2
  rw [am_go_pl] at g2
  have := h6 c1 i1 j1 q ⟨g1.1, by rw [← hcn]; exact g1.2⟩ g2
  exact ⟨this.1, by rw [hcn]; exact this.2⟩
theorem am_done_po {c0 i j k1 : Nat} {x : Nat × Nat} {E : va_E} {ws : va_W} {H1 : Heap} {locs1 : List Loc} {st' : List am_V} {pc' : Nat} (hc : c0 < 200) (hv : am_ok σ c0 i) (hvx : am_ok σ x.1 x.2) (hI : am_Inv X D A s rd ad0 σ0 ad cA σ H locs cells slots)
    (hP : va_P D am_CL ws H) (hD : va_D A ws) (h3 : ∀ c i, am_ok σ c i → ∃ k : Nat, ws[k]? = some (ad c i, am_cell X ad cA σ c i)) (h4 : ∀ c i, am_ok σ c i → am_tk c ≠ 9 → ArrOfT s (cA c i) (am_ty c) ∧ va_RA s (cA c i) (am_ty c))
    (h5 : ∀ c i c' i', am_ok σ c i → am_ok σ c' i' → ad c i = ad c' i' → c = c' ∧ i = i') (h6 : ∀ c i j q, am_ok σ c i → am_go σ c i j = some q → am_ok σ q.1 q.2)
    (hk1 : ws[k1]? = some (ad c0 i, am_cell X ad cA σ c0 i)) (he : E = am_cell X ad cA (am_po σ c0 i j (some x)) c0 i) (hP1 : va_P D am_CL (ws.set k1 (ad c0 i, E)) H1) (hD1 : va_D A (ws.set k1 (ad c0 i, E))) (hS1 : va_S A s.heap H1 locs1)
    (hk : am_Ks p l e R s m args below meth c X D A rd ad0 σ0 nL Q z k) (h : k pc' ls st' (am_po σ c0 i j (some x)) = some z) (hF : am_Fr σ ad ls st LS nL) (hs : ∀ v ∈ st', am_okv σ v) : W p l e R s m args below meth c H1 locs1 cells slots Q (F0 m pc' LS (st'.map (am_cv ad))) := by
  have hcn : (am_po σ c0 i j (some x)).2.2 = σ.2.2 := am_cn_sq _ _ _
  refine hk _ _ _ _ h _ _ _ _ _ _ _ (am_Inv_cn hcn hI (am_W_set hk1 hv h3 h4 h5 ?_ hP1 hD1 he (by rw [hcn]) (fun c' i' hne => am_cell_po hc _ hne)) hS1) (am_Fr_cn hcn hF hs)
  intro c1 i1 j1 q g1 g2
  rw [am_go_po σ hc] at g2
  have g1' : am_ok σ c1 i1 := ⟨g1.1, by rw [← hcn]; exact g1.2⟩
  split at g2
  · cases g2; exact ⟨hvx.1, by rw [hcn]; exact hvx.2⟩
  · have := h6 c1 i1 j1 q g1' g2
    exact ⟨this.1, by rw [hcn]; exact this.2⟩
theorem am_upd_pi {c0 i : Nat} (hc : c0 < 200) (j : Nat) (x : Int32) : upd (am_gs X σ c0 i) j x = am_gs X (am_pi σ c0 i j x) c0 i := by
  funext j'
  rw [am_gs_pi X σ hc]
  unfold upd
  by_cases h : j' = j
  · rw [if_pos h, if_pos ⟨rfl, rfl, h⟩]
  · rw [if_neg h, if_neg (fun q => h q.2.2)]
theorem am_upd_pl {c0 i : Nat} (j : Nat) (x : Int64) : vp_updL (am_gl σ c0 i) j x = am_gl (am_pl σ c0 i j x) c0 i := by
  funext j'
  rw [am_gl_pl]
  unfold vp_updL
  by_cases h : j' = j
  · rw [if_pos h, if_pos ⟨rfl, rfl, h⟩]
  · rw [if_neg h, if_neg (fun q => h q.2.2)]
theorem am_upd_po {c0 i : Nat} (hc : c0 < 200) (j : Nat) (q : Nat × Nat) : va_up (fun j => am_rf ad (am_go σ c0 i j)) j (some (ad q.1 q.2)) = fun j' => am_rf ad (am_go (am_po σ c0 i j (some q)) c0 i j') := by
  funext j'
  rw [am_go_po σ hc]
  unfold va_up
  by_cases h : j' = j
  · rw [if_pos h, if_pos ⟨rfl, rfl, h⟩]; rfl
  · rw [if_neg h, if_neg (fun q => h q.2.2)]
theorem am_and_true {a b : Bool} (h : (a && b) = true) : a = true ∧ b = true := by
  cases a <;> cases b <;> first | exact ⟨rfl, rfl⟩ | cases h
theorem am_blt_lt {a b : Nat} (h : Nat.blt a b = true) : a < b := by unfold Nat.blt at h; exact Nat.le_of_ble_eq_true h
theorem am_fit_b {x : Int32} (h : x = 0 ∨ x = 1) : narrow .boolean (.int x) = .int x ∧ fits .boolean (.int x) = true ∧ vp_nar .boolean x = x := by
  rcases h with rfl | rfl <;> exact ⟨rfl, rfl, rfl⟩
theorem am_nar_byte (x : Int32) : vp_nar .byte x = x.toInt8.toInt32 := vp_nar_byte x

set_option maxHeartbeats 1000000 in
theorem am_snd_putfield {idx : Nat} (hC : am_Cx p s m args meth c X D A rd nm cc nL ow) (hE : am_eP (am_on ow) nm cc ret (pc, .putfield idx, n, r, sw))
    (hk : am_Ks p l e R s m args below meth c X D A rd ad0 σ0 nL Q z k) (h : am_ins Γ X k pc (.putfield idx) n r sw ls st σ = some z)
    (hI : am_Inv X D A s rd ad0 σ0 ad cA σ H locs cells slots) (hF : am_Fr σ ad ls st LS nL) : W p l e R s m args below meth c H locs cells slots Q (F0 m pc LS (st.map (am_cv ad))) := by
  obtain ⟨hx, hb, hml, hown, hts, hlo, hnm, hA, hK, hRO⟩ := hC
  obtain ⟨hd, hn, hq⟩ := hE
  have hn : n = 3 := by
    rcases hn with hn | ⟨_, _, _, _, hn⟩ | ⟨_, _, hn⟩
    · exact hn
    · cases hn
    · cases hn
  dsimp only at hd hq
  subst hn
  simp only [am_ins] at h
  simp only [am_eQ] at hq
  obtain ⟨⟨q1, q2, q3, q4, q5, q6, q7, q8, q9⟩, ⟨ty0, hty⟩, hnmd, hfin, ty, ht, ht0, ht3, ht2⟩ := hq
  have finish : ∀ (c0 i : Nat) (t : List am_V) (v : Value) (σ' : am_S), c0 = r.1 → am_okq σ c0 i → narrow ty v = v → fits ty v = true →
      (∀ (ws : va_W) (k1 : Nat) (H1 : Heap) (locs1 : List Loc), va_P D am_CL ws H → va_D A ws → (∀ c i, am_ok σ c i → ∃ k : Nat, ws[k]? = some (ad c i, am_cell X ad cA σ c i)) → (∀ c i, am_ok σ c i → am_tk c ≠ 9 → ArrOfT s (cA c i) (am_ty c) ∧ va_RA s (cA c i) (am_ty c)) →
        (∀ c i c' i', am_ok σ c i → am_ok σ c' i' → ad c i = ad c' i' → c = c' ∧ i = i') → (∀ c i j q, am_ok σ c i → am_go σ c i j = some q → am_ok σ q.1 q.2) → ws[k1]? = some (ad c0 i, am_cell X ad cA σ c0 i) →
        va_P D am_CL (ws.set k1 (ad c0 i, .inr (am_ci c0, (am_obj X ad σ c0 i).set r.2.1 v))) H1 → va_D A (ws.set k1 (ad c0 i, .inr (am_ci c0, (am_obj X ad σ c0 i).set r.2.1 v))) → va_S A s.heap H1 locs1 → W p l e R s m args below meth c H1 locs1 cells slots Q (F0 m (pc + 3) LS (t.map (am_cv ad)))) →
      W p l e R s m args below meth c H locs cells slots Q (F0 m pc LS (v :: .ref (ad c0 i) :: t.map (am_cv ad))) := by
    intro c0 i t v σ' h1 hv hnar hfit kk
    rw [← h1] at q1 q2 q3 q4 q5 q6 q7 q8 q9 hty hnmd hfin ht
    have hvo := am_ok_lt hv q1
    obtain ⟨hW, hS, hag, -⟩ := id hI
    obtain ⟨ws, hP, hD, h3, h4, h5, h6⟩ := hW
    obtain ⟨k1, hk1⟩ := h3 c0 i hvo
    have hk1' := hk1
    rw [am_cell_obj q2] at hk1'
    have hlen : r.2.1 < (am_obj X ad σ c0 i).length := by unfold am_obj; simp; exact q5
    rcases hfin with hfin | ⟨hfin, hini, hdecl⟩
    · exact va_put (cl := am_CL) (D := D) (ci := am_ci c0) hx hb hts q9 ty0 hty hnmd hown hK hP hD hS k1 hk1' q3 r.2.1 (by rw [q4]; exact q5) (hts _ q8) (fun x h => by rw [← q7]; exact h) hfin ht hnar hfit hlen hd (fun H1 locs1 a1 a2 a3 => kk ws k1 H1 locs1 hP hD h3 h4 h5 h6 hk1 a1 a2 a3)
    · exact va_putF (cl := am_CL) (D := D) (ci := am_ci c0) hx hb hts q9 ty0 hty hnmd hown hK hP hD hS k1 hk1' q3 r.2.1 (by rw [q4]; exact q5) (hts _ q8) (fun x h => by rw [← q7]; exact h) hfin (hnm.trans hini) (q7.trans hdecl) ht hnar hfit hlen hd (fun H1 locs1 a1 a2 a3 => kk ws k1 H1 locs1 hP hD h3 h4 h5 h6 hk1 a1 a2 a3)
  split at h
  · rename_i er
    obtain ⟨c0, i, x, t, rfl, h9⟩ := am_ir_some h
    replace h := h9
    obtain ⟨h1, h⟩ := am_bif_some h
    have h1 := Nat.eq_of_beq_eq_true h1
    have hv : am_okq σ c0 i := am_ok_t hF.2.2.2 _ List.mem_cons_self
    have hty := ht0 er
    have hc : c0 < 200 := by rw [h1]; exact q1
    refine finish c0 i t (.int x) (am_pi σ c0 i r.2.1 x) h1 hv (by rw [hty]; rfl) (by rw [hty]; rfl) ?_
    intro ws k1 H1 locs1 a1 a2 a3 a4 a5 a6 a7 a8 a9 a10
    refine am_done_pi hc (am_ok_lt hv hc) hI a1 a2 a3 a4 a5 a6 a7 ?_ a8 a9 a10 hk h hF (am_ok_t (am_ok_t hF.2.2.2))
    rw [am_cell_obj (by rw [h1]; exact q2), am_obj_pi hc (by rw [h1, q6, er]; decide) (by rw [h1, q6, er]; decide)]
  · rename_i er
    obtain ⟨c0, i, x, t, rfl, h9⟩ := am_ir_some h
    replace h := h9
    obtain ⟨h1, h⟩ := am_bif_some h
    obtain ⟨h01, h⟩ := am_bk_some h
    have h1 := Nat.eq_of_beq_eq_true h1
    have hv : am_okq σ c0 i := am_ok_t hF.2.2.2 _ List.mem_cons_self
    have hty := ht3 er
    have hc : c0 < 200 := by rw [h1]; exact q1
    refine finish c0 i t (.int x) (am_pi σ c0 i r.2.1 x) h1 hv (by rw [hty]; exact (am_fit_b h01).1) (by rw [hty]; exact (am_fit_b h01).2.1) ?_
    intro ws k1 H1 locs1 a1 a2 a3 a4 a5 a6 a7 a8 a9 a10
    refine am_done_pi hc (am_ok_lt hv hc) hI a1 a2 a3 a4 a5 a6 a7 ?_ a8 a9 a10 hk h hF (am_ok_t (am_ok_t hF.2.2.2))
    rw [am_cell_obj (by rw [h1]; exact q2), am_obj_pi hc (by rw [h1, q6, er]; decide) (by rw [h1, q6, er]; decide)]
  · rename_i er
    obtain ⟨c0, i, c2, i2, t, rfl, h9⟩ := am_rr_some h
    replace h := h9
    obtain ⟨h1, h⟩ := am_bif_some h
    obtain ⟨h1, hc2⟩ := am_and_true h1
    have h1 := Nat.eq_of_beq_eq_true h1
    have hv : am_okq σ c0 i := am_ok_t hF.2.2.2 _ List.mem_cons_self
    have hv2 : am_okq σ c2 i2 := hF.2.2.2 _ List.mem_cons_self
    have hc : c0 < 200 := by rw [h1]; exact q1
    refine finish c0 i t (.ref (ad c2 i2)) (am_po σ c0 i r.2.1 (some (c2, i2))) h1 hv (ht2 er _).1 (ht2 er _).2 ?_
    intro ws k1 H1 locs1 a1 a2 a3 a4 a5 a6 a7 a8 a9 a10
    refine am_done_po hc (am_ok_lt hv hc) (am_ok_lt hv2 (am_blt_lt hc2)) hI a1 a2 a3 a4 a5 a6 a7 ?_ a8 a9 a10 hk h hF (am_ok_t (am_ok_t hF.2.2.2))
    rw [am_cell_obj (by rw [h1]; exact q2), ← am_obj_po hc (by rw [h1, q6, er])]
  · cases h

end AMH
end
section
/-! WHAT THE ABSTRACT MACHINE IS WORTH, 7: arrays, statics, constants, switches -/
section AMH
variable {p : Program} {l : Launch} {e : Env} {R : Room} {s : State} {m : MethodId} {args : Array Value} {below : List Frame} {meth : Method} {c : Code} {H : Heap} {locs : List Loc} {cells slots : Nat} {Q : State → Prop}
variable {X : am_X} {D : va_G} {A : Nat → Prop} {rd ad0 ad : Nat → Nat → Nat} {cA : Nat → Nat → ClassId} {σ0 σ : am_S} {nm : String} {cc : ByteArray} {nL ow pc n : Nat} {ret : Option FieldType} {z : Option am_V × am_S}
variable {ls st : List am_V} {LS : Array Slot} {r : Nat × Nat × Nat} {sw : List (Int × Nat)} {Γ : Nat → List am_V → am_S → am_R}
variable {k : Nat → List am_V → List am_V → am_S → am_R}

theorem am_tk_rok : am_tk 200 = 0 ∧ am_tk 201 = 0 ∧ am_tk 202 = 3 ∧ am_tk 203 = 9 ∧ am_tk 204 = 0 ∧ am_tk 205 = 9 := by decide +kernel
theorem am_ro_gs (i j : Nat) : (am_gs X σ 200 i j = am_ro X 200 i j) ∧ (am_gs X σ 201 i j = am_ro X 201 i j) ∧ (am_gs X σ 202 i j = am_ro X 202 i j) ∧ (am_gs X σ 204 i j = am_ro X 204 i j) := ⟨rfl, rfl, rfl, rfl⟩
theorem am_bty (i j : Nat) : am_ro X 202 i j = (am_sbyt.getD i []).getD j 0 ∧ am_len X 202 i = am_slen.getD i 0 ∧ am_ro X 204 i j = X.2 j ∧ am_len X 204 i = X.1 := ⟨rfl, rfl, rfl, rfl⟩
/-- a place of a row of ints -/
theorem am_rd_row {LS : Array Slot} {t : List am_V} {c0 i : Nat} {j : Int32} {n : Nat} (hvo : am_ok σ c0 i) (h1 : am_tk c0 ≠ 1) (h2 : am_tk c0 ≠ 2) (h9 : am_tk c0 ≠ 9) (hW : am_W X D A s ad cA σ H)
    (kk : ∀ (ws : va_W) (k1 : Nat), va_P D am_CL ws H → ws[k1]? = some (ad c0 i, .inl (cA c0 i, am_len X c0 i, .inl (am_gs X σ c0 i))) → (ArrOfT s (cA c0 i) (am_ty c0) ∧ va_RA s (cA c0 i) (am_ty c0)) → W p l e R s m args below meth c H locs cells slots Q (F0 m pc LS (.int j :: .ref (ad c0 i) :: t.map (am_cv ad)))) :
    W p l e R s m args below meth c H locs cells slots Q (F0 m pc LS (.int j :: .ref (ad c0 i) :: t.map (am_cv ad))) := by
  obtain ⟨ws, hP, hD, h3, h4, h5, h6⟩ := hW
  obtain ⟨k1, hk1⟩ := h3 c0 i hvo
  rw [am_cell_row h9, am_row_i h1 h2] at hk1
  exact kk ws k1 hP hk1 (h4 c0 i hvo h9)
set_option maxHeartbeats 1000000 in
theorem am_snd_iaload (hC : am_Cx p s m args meth c X D A rd nm cc nL ow) (hE : am_eP (am_on ow) nm cc ret (pc, .iaload, n, r, sw))
    (hk : am_Ks p l e R s m args below meth c X D A rd ad0 σ0 nL Q z k) (h : am_ins Γ X k pc (.iaload) n r sw ls st σ = some z)
    (hI : am_Inv X D A s rd ad0 σ0 ad cA σ H locs cells slots) (hF : am_Fr σ ad ls st LS nL) : W p l e R s m args below meth c H locs cells slots Q (F0 m pc LS (st.map (am_cv ad))) := by
  obtain ⟨hx, hb, hml, hown, hts, hlo, hnm, hA, hK, hRO⟩ := hC
  obtain ⟨hd, hn, hq⟩ := hE
  have hn : n = 1 := by
    rcases hn with hn | ⟨_, _, _, _, hn⟩ | ⟨_, _, hn⟩
    · exact hn
    · cases hn
    · cases hn
  dsimp only at hd hq
  subst hn
  simp only [am_ins] at h
  simp only [am_eQ] at hq
  obtain ⟨c0, i, j, t, rfl, h9⟩ := am_ri_some h
  replace h := h9
  obtain ⟨htk, h⟩ := am_bif_some h
  have htk := Nat.eq_of_beq_eq_true htk
  obtain ⟨hin, h⟩ := am_ck_some h
  have hv : am_okq σ c0 i := am_ok_t hF.2.2.2 _ List.mem_cons_self
  have go := hk _ _ _ _ h _ _ _ _ _ _ _ hI (am_Fr_st hF (am_ok_c (am_okI _) (am_ok_t (am_ok_t hF.2.2.2))))
  rcases hv with hv | hv
  · have hty := (am_tyF c0 hv.1).1 htk
    refine am_rd_row (n := 1) hv (by rw [htk]; decide) (by rw [htk]; decide) (by rw [htk]; decide) hI.1 fun ws k1 hP hk1 hr => ?_
    rw [hty] at hr
    exact va_iald (tys := [(cA c0 i, .int)]) hx hb (am_tysK hK hr) hP k1 0 hk1 rfl hin hd go
  · obtain ⟨⟨-, ro1⟩, ⟨-, ro2⟩, -, -, -, -, -, -, -, -, ro3, ro4, ro5⟩ := hRO
    have hag := hI.2.2.1 c0 i (by unfold am_rok at hv; omega)
    show W p l e R s m args below meth c H locs cells slots Q (F0 m pc LS (.int j :: .ref (ad c0 i) :: t.map (am_cv ad)))
    rw [hag]
    unfold am_rok at hv
    rcases hv with ⟨hc | hc, hi⟩ | ⟨hc | hc | hc | hc, hi⟩ <;> subst hc
    · exact absurd htk (by rw [am_tk_rok.2.2.1]; decide)
    · exact absurd htk (by rw [am_tk_rok.2.2.2.1]; decide)
    · subst hi; exact am_tld hx hb ro1 hI.2.1 hin hd go
    · subst hi; exact am_tld hx hb ro2 hI.2.1 hin hd go
    · subst hi
      exact va_sld hx hb ro3 ro5 ro4 hI.2.1 hin hd go
    · exact absurd htk (by rw [am_tk_rok.2.2.2.2.2]; decide)

set_option maxHeartbeats 1000000 in
theorem am_snd_baload (hC : am_Cx p s m args meth c X D A rd nm cc nL ow) (hE : am_eP (am_on ow) nm cc ret (pc, .baload, n, r, sw))
    (hk : am_Ks p l e R s m args below meth c X D A rd ad0 σ0 nL Q z k) (h : am_ins Γ X k pc (.baload) n r sw ls st σ = some z)
    (hI : am_Inv X D A s rd ad0 σ0 ad cA σ H locs cells slots) (hF : am_Fr σ ad ls st LS nL) : W p l e R s m args below meth c H locs cells slots Q (F0 m pc LS (st.map (am_cv ad))) := by
  obtain ⟨hx, hb, hml, hown, hts, hlo, hnm, hA, hK, hRO⟩ := hC
  obtain ⟨hd, hn, hq⟩ := hE
  have hn : n = 1 := by
    rcases hn with hn | ⟨_, _, _, _, hn⟩ | ⟨_, _, hn⟩
    · exact hn
    · cases hn
    · cases hn
  dsimp only at hd hq
  subst hn
  simp only [am_ins] at h
  simp only [am_eQ] at hq
  obtain ⟨c0, i, j, t, rfl, h9⟩ := am_ri_some h
  replace h := h9
  obtain ⟨htk, h⟩ := am_bif_some h
  have htk : am_tk c0 = 3 ∨ am_tk c0 = 4 := by
    rcases Bool.or_eq_true_iff.mp htk with q | q
    · exact Or.inl (Nat.eq_of_beq_eq_true q)
    · exact Or.inr (Nat.eq_of_beq_eq_true q)
  obtain ⟨hin, h⟩ := am_ck_some h
  have hv : am_okq σ c0 i := am_ok_t hF.2.2.2 _ List.mem_cons_self
  have go := hk _ _ _ _ h _ _ _ _ _ _ _ hI (am_Fr_st hF (am_ok_c (am_okI _) (am_ok_t (am_ok_t hF.2.2.2))))
  rcases hv with hv | hv
  · refine am_rd_row (n := 1) hv (by rcases htk with q | q <;> rw [q] <;> decide) (by rcases htk with q | q <;> rw [q] <;> decide) (by rcases htk with q | q <;> rw [q] <;> decide) hI.1 fun ws k1 hP hk1 hr => ?_
    rcases htk with htk | htk
    · rw [(am_tyF c0 hv.1).2.1 htk] at hr
      exact va_bald (tys := [(cA c0 i, .byte)]) hx hb (am_tysK hK hr) hP k1 0 hk1 rfl hin hd go
    · rw [(am_tyF c0 hv.1).2.2.1 htk] at hr
      exact va_zald (tys := [(cA c0 i, .boolean)]) hx hb (am_tysK hK hr) hP k1 0 hk1 rfl hin hd go
  · obtain ⟨-, -, -, -, ro, -⟩ := hRO
    have hag := hI.2.2.1 c0 i (by unfold am_rok at hv; omega)
    show W p l e R s m args below meth c H locs cells slots Q (F0 m pc LS (.int j :: .ref (ad c0 i) :: t.map (am_cv ad)))
    rw [hag]
    unfold am_rok at hv
    rcases hv with ⟨hc | hc, hi⟩ | ⟨hc | hc | hc | hc, hi⟩ <;> subst hc
    · obtain ⟨cell, h1, h2, h3, h4, h5, h6, h7⟩ := (ro.1 i hi).2.2.2.kept hI.2.1.2.1
      have hlt : j.toNatClampNeg < am_slen.getD i 0 := Nat.not_le.mp fun q => hin (Or.inr q)
      exact W.bald hx hb h1 h2 h3 (fun q => hin (q.elim Or.inl (fun q => Or.inr (Nat.le_trans h4 q)))) (h6 _ hlt) rfl rfl hd go
    · exact absurd htk (by rw [am_tk_rok.2.2.2.1]; decide)
    · exact absurd htk (by rw [am_tk_rok.1]; decide)
    · exact absurd htk (by rw [am_tk_rok.2.1]; decide)
    · exact absurd htk (by rw [am_tk_rok.2.2.2.2.1]; decide)
    · exact absurd htk (by rw [am_tk_rok.2.2.2.2.2]; decide)

theorem am_rok_tk {c0 i : Nat} (h : am_rok c0 i) : am_tk c0 ≠ 1 ∧ am_tk c0 ≠ 2 := by
  unfold am_rok at h
  rcases h with ⟨hc | hc, hi⟩ | ⟨hc | hc | hc | hc, hi⟩ <;> subst hc <;> decide +kernel
set_option maxHeartbeats 1000000 in
theorem am_snd_laload (hC : am_Cx p s m args meth c X D A rd nm cc nL ow) (hE : am_eP (am_on ow) nm cc ret (pc, .laload, n, r, sw))
    (hk : am_Ks p l e R s m args below meth c X D A rd ad0 σ0 nL Q z k) (h : am_ins Γ X k pc (.laload) n r sw ls st σ = some z)
    (hI : am_Inv X D A s rd ad0 σ0 ad cA σ H locs cells slots) (hF : am_Fr σ ad ls st LS nL) : W p l e R s m args below meth c H locs cells slots Q (F0 m pc LS (st.map (am_cv ad))) := by
  obtain ⟨hx, hb, hml, hown, hts, hlo, hnm, hA, hK, hRO⟩ := hC
  obtain ⟨hd, hn, hq⟩ := hE
  have hn : n = 1 := by
    rcases hn with hn | ⟨_, _, _, _, hn⟩ | ⟨_, _, hn⟩
    · exact hn
    · cases hn
    · cases hn
  dsimp only at hd hq
  subst hn
  simp only [am_ins] at h
  simp only [am_eQ] at hq
  obtain ⟨c0, i, j, t, rfl, h9⟩ := am_ri_some h
  replace h := h9
  obtain ⟨htk, h⟩ := am_bif_some h
  have htk := Nat.eq_of_beq_eq_true htk
  obtain ⟨hin, h⟩ := am_ck_some h
  have hv : am_okq σ c0 i := am_ok_t hF.2.2.2 _ List.mem_cons_self
  have go := hk _ _ _ _ h _ _ _ _ _ _ _ hI (am_Fr_st hF (am_ok_c (am_okJ _) (am_ok_t (am_ok_t hF.2.2.2))))
  rcases hv with hv | hv
  · obtain ⟨ws, hP, hD, h3, h4, h5, h6⟩ := hI.1
    obtain ⟨k1, hk1⟩ := h3 c0 i hv
    have h9 : am_tk c0 ≠ 9 := by omega
    rw [am_cell_row h9, am_row_l htk] at hk1
    have hr := h4 c0 i hv h9
    rw [(am_tyF c0 hv.1).2.2.2.1 htk] at hr
    exact va_lald (tys := [(cA c0 i, .long)]) hx hb (am_tysK hK hr) hP k1 0 hk1 rfl hin hd go
  · exact absurd htk (am_rok_tk hv).1

set_option maxHeartbeats 1000000 in
theorem am_snd_aaload (hC : am_Cx p s m args meth c X D A rd nm cc nL ow) (hE : am_eP (am_on ow) nm cc ret (pc, .aaload, n, r, sw))
    (hk : am_Ks p l e R s m args below meth c X D A rd ad0 σ0 nL Q z k) (h : am_ins Γ X k pc (.aaload) n r sw ls st σ = some z)
    (hI : am_Inv X D A s rd ad0 σ0 ad cA σ H locs cells slots) (hF : am_Fr σ ad ls st LS nL) : W p l e R s m args below meth c H locs cells slots Q (F0 m pc LS (st.map (am_cv ad))) := by
  obtain ⟨hx, hb, hml, hown, hts, hlo, hnm, hA, hK, hRO⟩ := hC
  obtain ⟨hd, hn, hq⟩ := hE
  have hn : n = 1 := by
    rcases hn with hn | ⟨_, _, _, _, hn⟩ | ⟨_, _, hn⟩
    · exact hn
    · cases hn
    · cases hn
  dsimp only at hd hq
  subst hn
  simp only [am_ins] at h
  simp only [am_eQ] at hq
  obtain ⟨c0, i, j, t, rfl, h9⟩ := am_ri_some h
  replace h := h9
  obtain ⟨htk, h⟩ := am_bif_some h
  have htk := Nat.eq_of_beq_eq_true htk
  obtain ⟨hin, h⟩ := am_ck_some h
  have hv : am_okq σ c0 i := am_ok_t hF.2.2.2 _ List.mem_cons_self
  rcases hv with hv | hv
  · have go := hk _ _ _ _ h _ _ _ _ _ _ _ hI (am_Fr_st hF (am_ok_c (am_W_go hI.1 hv) (am_ok_t (am_ok_t hF.2.2.2))))
    rw [List.map_cons, am_cv_rv] at go
    obtain ⟨ws, hP, hD, h3, h4, h5, h6⟩ := hI.1
    obtain ⟨k1, hk1⟩ := h3 c0 i hv
    have h9 : am_tk c0 ≠ 9 := by omega
    rw [am_cell_row h9, am_row_r htk] at hk1
    have hr := h4 c0 i hv h9
    exact am_aldq (tys := [(cA c0 i, am_ty c0)]) hx hb (am_tysK hK hr) hP k1 0 hk1 rfl ((am_tyF c0 hv.1).2.2.2.2.1 htk) hin hd go
  · exact absurd htk (am_rok_tk hv).2

set_option maxHeartbeats 1000000 in
theorem am_snd_arraylength (hC : am_Cx p s m args meth c X D A rd nm cc nL ow) (hE : am_eP (am_on ow) nm cc ret (pc, .arraylength, n, r, sw))
    (hk : am_Ks p l e R s m args below meth c X D A rd ad0 σ0 nL Q z k) (h : am_ins Γ X k pc (.arraylength) n r sw ls st σ = some z)
    (hI : am_Inv X D A s rd ad0 σ0 ad cA σ H locs cells slots) (hF : am_Fr σ ad ls st LS nL) : W p l e R s m args below meth c H locs cells slots Q (F0 m pc LS (st.map (am_cv ad))) := by
  obtain ⟨hx, hb, hml, hown, hts, hlo, hnm, hA, hK, hRO⟩ := hC
  obtain ⟨hd, hn, hq⟩ := hE
  have hn : n = 1 := by
    rcases hn with hn | ⟨_, _, _, _, hn⟩ | ⟨_, _, hn⟩
    · exact hn
    · cases hn
    · cases hn
  dsimp only at hd hq
  subst hn
  simp only [am_ins] at h
  simp only [am_eQ] at hq
  obtain ⟨c0, i, t, rfl, h9⟩ := am_r1_some h
  replace h := h9
  have htk : am_tk c0 ≠ 9 := by
    intro q
    rw [q] at h
    cases h
  rw [am_nbf htk] at h
  replace h : k (pc + 1) ls (am_I (Int32.ofNat (am_len X c0 i)) :: t) σ = some z := h
  have hv : am_okq σ c0 i := hF.2.2.2 _ List.mem_cons_self
  have go := hk _ _ _ _ h _ _ _ _ _ _ _ hI (am_Fr_st hF (am_ok_c (am_okI _) (am_ok_t hF.2.2.2)))
  rcases hv with hv | hv
  · obtain ⟨ws, hP, hD, h3, h4, h5, h6⟩ := hI.1
    obtain ⟨k1, hk1⟩ := h3 c0 i hv
    rw [am_cell_row htk] at hk1
    exact va_alen (tys := [(cA c0 i, am_ty c0)]) hx hb (am_tysK hK (h4 c0 i hv htk)) hP k1 0 hk1 rfl rfl hd go
  · obtain ⟨⟨-, ro1⟩, ⟨-, ro2⟩, -, -, ro6, -, -, -, -, -, ro3, ro4, ro5⟩ := hRO
    have hag := hI.2.2.1 c0 i (by unfold am_rok at hv; omega)
    show W p l e R s m args below meth c H locs cells slots Q (F0 m pc LS (.ref (ad c0 i) :: t.map (am_cv ad)))
    rw [hag]
    unfold am_rok at hv
    rcases hv with ⟨hc | hc, hi⟩ | ⟨hc | hc | hc | hc, hi⟩ <;> subst hc
    · exact va_tlen hx hb (ro6.1 i hi).2.2.2 hI.2.1 rfl hd go
    · exact absurd am_tk_rok.2.2.2.1 htk
    · subst hi; exact va_tlen hx hb ro1 hI.2.1 rfl hd go
    · subst hi; exact va_tlen hx hb ro2 hI.2.1 rfl hd go
    · subst hi; exact va_slen hx hb ro3 ro5 ro4 hI.2.1 hd go
    · exact absurd am_tk_rok.2.2.2.2.2 htk

set_option maxHeartbeats 1000000 in
theorem am_snd_iastore (hC : am_Cx p s m args meth c X D A rd nm cc nL ow) (hE : am_eP (am_on ow) nm cc ret (pc, .iastore, n, r, sw))
    (hk : am_Ks p l e R s m args below meth c X D A rd ad0 σ0 nL Q z k) (h : am_ins Γ X k pc (.iastore) n r sw ls st σ = some z)
    (hI : am_Inv X D A s rd ad0 σ0 ad cA σ H locs cells slots) (hF : am_Fr σ ad ls st LS nL) : W p l e R s m args below meth c H locs cells slots Q (F0 m pc LS (st.map (am_cv ad))) := by
  obtain ⟨hx, hb, hml, hown, hts, hlo, hnm, hA, hK, hRO⟩ := hC
  obtain ⟨hd, hn, hq⟩ := hE
  have hn : n = 1 := by
    rcases hn with hn | ⟨_, _, _, _, hn⟩ | ⟨_, _, hn⟩
    · exact hn
    · cases hn
    · cases hn
  dsimp only at hd hq
  subst hn
  simp only [am_ins] at h
  simp only [am_eQ] at hq
  obtain ⟨c0, i, j, x, t, rfl, h9⟩ := am_iri_some h
  replace h := h9
  obtain ⟨htk, h⟩ := am_bif_some h
  obtain ⟨htk, hc⟩ := am_and_true htk
  have htk := Nat.eq_of_beq_eq_true htk
  have hc := am_blt_lt hc
  obtain ⟨hin, h⟩ := am_ck_some h
  have hv : am_okq σ c0 i := am_ok_t (am_ok_t hF.2.2.2) _ List.mem_cons_self
  have hvo := am_ok_lt hv hc
  have hst := am_ok_t (am_ok_t (am_ok_t hF.2.2.2))
  obtain ⟨ws, hP, hD, h3, h4, h5, h6⟩ := hI.1
  obtain ⟨k1, hk1⟩ := h3 c0 i hvo
  have h9 : am_tk c0 ≠ 9 := by omega
  have hk1' := hk1
  have hr := h4 c0 i hvo h9
  rw [am_cell_row h9, am_row_i (by omega) (by omega)] at hk1'
  rw [(am_tyF c0 hc).1 htk] at hr
  refine va_iast (tys := [(cA c0 i, .int)]) hx hb (am_tysK hK hr) hP hD hI.2.1 k1 0 hk1' rfl hin hd fun H1 locs1 a1 a2 a3 => ?_
  refine am_done_pi hc hvo hI hP hD h3 h4 h5 h6 hk1 ?_ a1 a2 a3 hk h hF hst
  rw [am_cell_row h9, am_row_i (by omega) (by omega), am_upd_pi hc]

set_option maxHeartbeats 1000000 in
theorem am_snd_bastore (hC : am_Cx p s m args meth c X D A rd nm cc nL ow) (hE : am_eP (am_on ow) nm cc ret (pc, .bastore, n, r, sw))
    (hk : am_Ks p l e R s m args below meth c X D A rd ad0 σ0 nL Q z k) (h : am_ins Γ X k pc (.bastore) n r sw ls st σ = some z)
    (hI : am_Inv X D A s rd ad0 σ0 ad cA σ H locs cells slots) (hF : am_Fr σ ad ls st LS nL) : W p l e R s m args below meth c H locs cells slots Q (F0 m pc LS (st.map (am_cv ad))) := by
  obtain ⟨hx, hb, hml, hown, hts, hlo, hnm, hA, hK, hRO⟩ := hC
  obtain ⟨hd, hn, hq⟩ := hE
  have hn : n = 1 := by
    rcases hn with hn | ⟨_, _, _, _, hn⟩ | ⟨_, _, hn⟩
    · exact hn
    · cases hn
    · cases hn
  dsimp only at hd hq
  subst hn
  simp only [am_ins] at h
  simp only [am_eQ] at hq
  obtain ⟨c0, i, j, x, t, rfl, h9⟩ := am_iri_some h
  replace h := h9
  cases hb1 : (Nat.beq (am_tk c0) 3 && Nat.blt c0 200) with
  | true =>
    rw [hb1] at h
    replace h : am_ck j (am_len X c0 i) (k (pc + 1) ls t (am_pi σ c0 i j.toNatClampNeg x.toInt8.toInt32)) = some z := h
    obtain ⟨htk, hc⟩ := am_and_true hb1
    have htk := Nat.eq_of_beq_eq_true htk
    have hc := am_blt_lt hc
    obtain ⟨hin, h⟩ := am_ck_some h
    have hv : am_okq σ c0 i := am_ok_t (am_ok_t hF.2.2.2) _ List.mem_cons_self
    have hvo := am_ok_lt hv hc
    have hst := am_ok_t (am_ok_t (am_ok_t hF.2.2.2))
    obtain ⟨ws, hP, hD, h3, h4, h5, h6⟩ := hI.1
    obtain ⟨k1, hk1⟩ := h3 c0 i hvo
    have h9 : am_tk c0 ≠ 9 := by omega
    have hk1' := hk1
    have hr := h4 c0 i hvo h9
    rw [am_cell_row h9, am_row_i (by omega) (by omega)] at hk1'
    rw [(am_tyF c0 hc).2.1 htk] at hr
    refine va_bast (tys := [(cA c0 i, .byte)]) hx hb (am_tysK hK hr) hP hD hI.2.1 k1 0 hk1' rfl hin hd fun H1 locs1 a1 a2 a3 => ?_
    rw [am_nar_byte] at a1 a2
    refine am_done_pi hc hvo hI hP hD h3 h4 h5 h6 hk1 ?_ a1 a2 a3 hk h hF hst
    rw [am_cell_row h9, am_row_i (by omega) (by omega), am_upd_pi hc]
  | false =>
    rw [hb1] at h
    obtain ⟨htk, h⟩ := am_bif_some (show (bif Nat.beq (am_tk c0) 4 && Nat.blt c0 200 then am_ck j (am_len X c0 i) (am_bk x (k (pc + 1) ls t (am_pi σ c0 i j.toNatClampNeg x))) else none) = some z from h)
    obtain ⟨htk, hc⟩ := am_and_true htk
    have htk := Nat.eq_of_beq_eq_true htk
    have hc := am_blt_lt hc
    obtain ⟨hin, h⟩ := am_ck_some h
    obtain ⟨h01, h⟩ := am_bk_some h
    have hv : am_okq σ c0 i := am_ok_t (am_ok_t hF.2.2.2) _ List.mem_cons_self
    have hvo := am_ok_lt hv hc
    have hst := am_ok_t (am_ok_t (am_ok_t hF.2.2.2))
    obtain ⟨ws, hP, hD, h3, h4, h5, h6⟩ := hI.1
    obtain ⟨k1, hk1⟩ := h3 c0 i hvo
    have h9 : am_tk c0 ≠ 9 := by omega
    have hk1' := hk1
    have hr := h4 c0 i hvo h9
    rw [am_cell_row h9, am_row_i (by omega) (by omega)] at hk1'
    rw [(am_tyF c0 hc).2.2.1 htk] at hr
    refine va_zast (tys := [(cA c0 i, .boolean)]) hx hb (am_tysK hK hr) hP hD hI.2.1 k1 0 hk1' rfl hin hd fun H1 locs1 a1 a2 a3 => ?_
    rw [(am_fit_b h01).2.2] at a1 a2
    refine am_done_pi hc hvo hI hP hD h3 h4 h5 h6 hk1 ?_ a1 a2 a3 hk h hF hst
    rw [am_cell_row h9, am_row_i (by omega) (by omega), am_upd_pi hc]

set_option maxHeartbeats 1000000 in
theorem am_snd_lastore (hC : am_Cx p s m args meth c X D A rd nm cc nL ow) (hE : am_eP (am_on ow) nm cc ret (pc, .lastore, n, r, sw))
    (hk : am_Ks p l e R s m args below meth c X D A rd ad0 σ0 nL Q z k) (h : am_ins Γ X k pc (.lastore) n r sw ls st σ = some z)
    (hI : am_Inv X D A s rd ad0 σ0 ad cA σ H locs cells slots) (hF : am_Fr σ ad ls st LS nL) : W p l e R s m args below meth c H locs cells slots Q (F0 m pc LS (st.map (am_cv ad))) := by
  obtain ⟨hx, hb, hml, hown, hts, hlo, hnm, hA, hK, hRO⟩ := hC
  obtain ⟨hd, hn, hq⟩ := hE
  have hn : n = 1 := by
    rcases hn with hn | ⟨_, _, _, _, hn⟩ | ⟨_, _, hn⟩
    · exact hn
    · cases hn
    · cases hn
  dsimp only at hd hq
  subst hn
  simp only [am_ins] at h
  simp only [am_eQ] at hq
  obtain ⟨c0, i, j, x, t, rfl, h9⟩ := am_jri_some h
  replace h := h9
  obtain ⟨htk, h⟩ := am_bif_some h
  obtain ⟨htk, hc⟩ := am_and_true htk
  have htk := Nat.eq_of_beq_eq_true htk
  have hc := am_blt_lt hc
  obtain ⟨hin, h⟩ := am_ck_some h
  have hv : am_okq σ c0 i := am_ok_t (am_ok_t hF.2.2.2) _ List.mem_cons_self
  have hvo := am_ok_lt hv hc
  have hst := am_ok_t (am_ok_t (am_ok_t hF.2.2.2))
  obtain ⟨ws, hP, hD, h3, h4, h5, h6⟩ := hI.1
  obtain ⟨k1, hk1⟩ := h3 c0 i hvo
  have h9 : am_tk c0 ≠ 9 := by omega
  have hk1' := hk1
  have hr := h4 c0 i hvo h9
  rw [am_cell_row h9, am_row_l htk] at hk1'
  rw [(am_tyF c0 hc).2.2.2.1 htk] at hr
  refine va_last (tys := [(cA c0 i, .long)]) hx hb (am_tysK hK hr) hP hD hI.2.1 k1 0 hk1' rfl hin hd fun H1 locs1 a1 a2 a3 => ?_
  refine am_done_pl hvo hI hP hD h3 h4 h5 h6 hk1 ?_ a1 a2 a3 hk h hF hst
  rw [am_cell_row h9, am_row_l htk, am_upd_pl]

set_option maxHeartbeats 1000000 in
theorem am_snd_aastore (hC : am_Cx p s m args meth c X D A rd nm cc nL ow) (hE : am_eP (am_on ow) nm cc ret (pc, .aastore, n, r, sw))
    (hk : am_Ks p l e R s m args below meth c X D A rd ad0 σ0 nL Q z k) (h : am_ins Γ X k pc (.aastore) n r sw ls st σ = some z)
    (hI : am_Inv X D A s rd ad0 σ0 ad cA σ H locs cells slots) (hF : am_Fr σ ad ls st LS nL) : W p l e R s m args below meth c H locs cells slots Q (F0 m pc LS (st.map (am_cv ad))) := by
  obtain ⟨hx, hb, hml, hown, hts, hlo, hnm, hA, hK, hRO⟩ := hC
  obtain ⟨hd, hn, hq⟩ := hE
  have hn : n = 1 := by
    rcases hn with hn | ⟨_, _, _, _, hn⟩ | ⟨_, _, hn⟩
    · exact hn
    · cases hn
    · cases hn
  dsimp only at hd hq
  subst hn
  simp only [am_ins] at h
  simp only [am_eQ] at hq
  obtain ⟨c0, i, j, c2, i2, t, rfl, h9⟩ := am_rri_some h
  replace h := h9
  obtain ⟨htk, h⟩ := am_bif_some h
  obtain ⟨htk, hc⟩ := am_and_true htk
  obtain ⟨hc, hec⟩ := am_and_true hc
  have htk := Nat.eq_of_beq_eq_true htk
  have hec := Nat.eq_of_beq_eq_true hec
  have hc := am_blt_lt hc
  obtain ⟨hin, h⟩ := am_ck_some h
  have hv : am_okq σ c0 i := am_ok_t (am_ok_t hF.2.2.2) _ List.mem_cons_self
  have hvo := am_ok_lt hv hc
  have hst := am_ok_t (am_ok_t (am_ok_t hF.2.2.2))
  obtain ⟨ws, hP, hD, h3, h4, h5, h6⟩ := hI.1
  obtain ⟨k1, hk1⟩ := h3 c0 i hvo
  have h9 : am_tk c0 ≠ 9 := by omega
  have hk1' := hk1
  have hr := h4 c0 i hvo h9
  have hc2 : c2 < 200 := by
    rcases (hF.2.2.2 _ List.mem_cons_self : am_okq σ c2 i2) with q | q
    · exact q.1
    · rw [← hec] at q
      exfalso
      have : ∀ c0, c0 < 200 → am_tk c0 = 2 → am_ec c0 < 200 ∨ am_ec c0 = 999 := by decide +kernel
      unfold am_rok at q
      rcases this c0 hc htk with g | g <;> omega
  have hv2 : am_ok σ c2 i2 := am_ok_lt (hF.2.2.2 _ List.mem_cons_self : am_okq σ c2 i2) hc2
  obtain ⟨k2, hk2⟩ := h3 c2 i2 hv2
  obtain ⟨g1, g2, g3⟩ := (am_tyF c0 hc).2.2.2.2.2 htk (by rw [hec]; exact hc2)
  rw [hec] at g1 g2 g3
  rw [am_cell_obj g1] at hk2
  rw [am_cell_row h9, am_row_r htk] at hk1'
  rw [g3] at hr
  refine va_astq (tys := [(cA c0 i, .object (am_k c2).1)]) (r := am_k c2) hx hb (am_tysK hK hr) hP hD hI.2.1 k1 0 k2 (am_ci c2) hk1' rfl hk2 (am_kOf g2) hin hd fun H1 locs1 a1 a2 a3 => ?_
  refine am_done_po (x := (c2, i2)) hc hvo hv2 hI hP hD h3 h4 h5 h6 hk1 ?_ a1 a2 a3 hk h hF hst
  rw [am_cell_row h9, am_row_r htk, am_upd_po hc _ (c2, i2)]

set_option maxHeartbeats 1000000 in
theorem am_snd_getstatic {idx : Nat} (hC : am_Cx p s m args meth c X D A rd nm cc nL ow) (hE : am_eP (am_on ow) nm cc ret (pc, .getstatic idx, n, r, sw))
    (hk : am_Ks p l e R s m args below meth c X D A rd ad0 σ0 nL Q z k) (h : am_ins Γ X k pc (.getstatic idx) n r sw ls st σ = some z)
    (hI : am_Inv X D A s rd ad0 σ0 ad cA σ H locs cells slots) (hF : am_Fr σ ad ls st LS nL) : W p l e R s m args below meth c H locs cells slots Q (F0 m pc LS (st.map (am_cv ad))) := by
  obtain ⟨hx, hb, hml, hown, hts, hlo, hnm, hA, hK, hRO⟩ := hC
  obtain ⟨hd, hn, hq⟩ := hE
  have hn : n = 3 := by
    rcases hn with hn | ⟨_, _, _, _, hn⟩ | ⟨_, _, hn⟩
    · exact hn
    · cases hn
    · cases hn
  dsimp only at hd hq
  subst hn
  simp only [am_ins] at h
  simp only [am_eQ] at hq
  have hok := hF.2.2.2
  obtain ⟨⟨a1, -⟩, ⟨b1, -⟩, c1, d1, -, -, -, nF, -⟩ := hRO
  rcases hq with ⟨rfl, hl⟩ | ⟨rfl, hl⟩ | ⟨rfl, hl⟩ | ⟨rfl, hl⟩ | ⟨g1, g2⟩
  · exact va_gets hx hb c1 hI.2.1 hown (hts _ hl) (fun x h => h) hd (hk _ _ _ _ h _ _ _ _ _ _ _ hI (am_Fr_st hF (am_ok_c (am_okI _) hok)))
  · have hv : am_okv σ (am_fm X) := by
      unfold am_fm
      split
      · trivial
      · exact Or.inr (by unfold am_rok; dsimp only; omega)
    have ev : am_cv ad (am_fm X) = am_cv rd (am_fm X) := by
      unfold am_fm
      split
      · rfl
      · show Value.ref (ad 205 0) = Value.ref (rd 205 0)
        rw [hI.2.2.1 205 0 (by omega)]
    have go := hk _ _ _ _ h _ _ _ _ _ _ _ hI (am_Fr_st hF (am_ok_c hv hok))
    change W p l e R s m args below meth c H locs cells slots Q (F0 m (pc + 3) LS (am_cv ad (am_fm X) :: st.map (am_cv ad))) at go
    rw [ev] at go
    exact va_gets hx hb d1 hI.2.1 hown (hts _ hl) (fun x h => h) hd go
  · have go := hk _ _ _ _ h _ _ _ _ _ _ _ hI (am_Fr_st hF (am_ok_c (Or.inr (by unfold am_rok; dsimp only; omega) : am_okv σ (.inr (200, 0))) hok))
    change W p l e R s m args below meth c H locs cells slots Q (F0 m (pc + 3) LS (.ref (ad 200 0) :: st.map (am_cv ad))) at go
    rw [hI.2.2.1 200 0 (by omega)] at go
    rcases hl with hl | ⟨host, hl⟩
    · exact va_gets hx hb a1 hI.2.1 hown (hts _ hl) (fun x h => h) hd go
    · exact va_getsN hx hb a1 hI.2.1 hown (va_Nw.use rfl (nF _ hl)) (fun x h => h) hd go
  · have go := hk _ _ _ _ h _ _ _ _ _ _ _ hI (am_Fr_st hF (am_ok_c (Or.inr (by unfold am_rok; dsimp only; omega) : am_okv σ (.inr (201, 0))) hok))
    change W p l e R s m args below meth c H locs cells slots Q (F0 m (pc + 3) LS (.ref (ad 201 0) :: st.map (am_cv ad))) at go
    rw [hI.2.2.1 201 0 (by omega)] at go
    exact va_gets hx hb b1 hI.2.1 hown (hts _ hl) (fun x h => h) hd go
  · split at h
    · rename_i q; exact absurd q g1
    · rename_i q; exact absurd q g2
    · cases h

set_option maxHeartbeats 1000000 in
theorem am_snd_ldc {idx : Nat} (hC : am_Cx p s m args meth c X D A rd nm cc nL ow) (hE : am_eP (am_on ow) nm cc ret (pc, .ldc idx, n, r, sw))
    (hk : am_Ks p l e R s m args below meth c X D A rd ad0 σ0 nL Q z k) (h : am_ins Γ X k pc (.ldc idx) n r sw ls st σ = some z)
    (hI : am_Inv X D A s rd ad0 σ0 ad cA σ H locs cells slots) (hF : am_Fr σ ad ls st LS nL) : W p l e R s m args below meth c H locs cells slots Q (F0 m pc LS (st.map (am_cv ad))) := by
  obtain ⟨hx, hb, hml, hown, hts, hlo, hnm, hA, hK, hRO⟩ := hC
  obtain ⟨hd, hn, hq⟩ := hE
  have hn : n = 2 := by
    rcases hn with hn | ⟨_, _, _, _, hn⟩ | ⟨_, _, hn⟩
    · exact hn
    · cases hn
    · cases hn
  dsimp only at hd hq
  subst hn
  simp only [am_ins] at h
  simp only [am_eQ] at hq
  obtain ⟨q1, q2⟩ := hq
  split at h
  · rename_i er
    exact lv_ldc hx hb hown (hts _ (q1 er)) hd (hk _ _ _ _ h _ _ _ _ _ _ _ hI (am_Fr_st hF (am_ok_c (am_okI _) hF.2.2.2)))
  · rename_i er
    obtain ⟨e1, e2, tx, e3⟩ := q2 er
    have go := hk _ _ _ _ h _ _ _ _ _ _ _ hI (am_Fr_st hF (am_ok_c (Or.inr (by unfold am_rok; dsimp only; omega) : am_okv σ (.inr (r.1, r.2.1))) hF.2.2.2))
    change W p l e R s m args below meth c H locs cells slots Q (F0 m (pc + 2) LS (.ref (ad r.1 r.2.1) :: st.map (am_cv ad))) at go
    rw [hI.2.2.1 r.1 r.2.1 (by omega), e1] at go
    obtain ⟨-, -, -, -, -, ro, -⟩ := hRO
    exact va_ldcS hx hb hown (ro _ e3) hd go
  · cases h

set_option maxHeartbeats 1000000 in
theorem am_snd_ldcw {idx : Nat} (hC : am_Cx p s m args meth c X D A rd nm cc nL ow) (hE : am_eP (am_on ow) nm cc ret (pc, .ldc_w idx, n, r, sw))
    (hk : am_Ks p l e R s m args below meth c X D A rd ad0 σ0 nL Q z k) (h : am_ins Γ X k pc (.ldc_w idx) n r sw ls st σ = some z)
    (hI : am_Inv X D A s rd ad0 σ0 ad cA σ H locs cells slots) (hF : am_Fr σ ad ls st LS nL) : W p l e R s m args below meth c H locs cells slots Q (F0 m pc LS (st.map (am_cv ad))) := by
  obtain ⟨hx, hb, hml, hown, hts, hlo, hnm, hA, hK, hRO⟩ := hC
  obtain ⟨hd, hn, hq⟩ := hE
  have hn : n = 3 := by
    rcases hn with hn | ⟨_, _, _, _, hn⟩ | ⟨_, _, hn⟩
    · exact hn
    · cases hn
    · cases hn
  dsimp only at hd hq
  subst hn
  simp only [am_ins] at h
  simp only [am_eQ] at hq
  split at h
  · rename_i er
    have go := hk _ _ _ _ h _ _ _ _ _ _ _ hI (am_Fr_st hF (am_ok_c (am_okI _) hF.2.2.2))
    intro T hT Xs
    obtain ⟨t, a1, b1⟩ := go T hT Xs
    exact ⟨t, va_ldcwI Xs hx hown (hts _ (hq er)) (g := F0 m pc LS (st.map (am_cv ad))) rfl (by rw [hb]; exact hd) t a1, b1⟩
  · cases h

theorem am_ofInt_toInt {v : Int} (h1 : -2147483648 ≤ v) (h2 : v < 2147483648) : (Int32.ofInt v).toInt = v := by
  exact Int32.toInt_ofInt_of_le (by omega) (by omega)
set_option maxHeartbeats 1000000 in
theorem am_snd_tableswitch {d lo hi : Int} {offs : Array Int} (hC : am_Cx p s m args meth c X D A rd nm cc nL ow) (hE : am_eP (am_on ow) nm cc ret (pc, .tableswitch d lo hi offs, n, r, sw))
    (hk : am_Ks p l e R s m args below meth c X D A rd ad0 σ0 nL Q z k) (h : am_ins Γ X k pc (.tableswitch d lo hi offs) n r sw ls st σ = some z)
    (hI : am_Inv X D A s rd ad0 σ0 ad cA σ H locs cells slots) (hF : am_Fr σ ad ls st LS nL) : W p l e R s m args below meth c H locs cells slots Q (F0 m pc LS (st.map (am_cv ad))) := by
  obtain ⟨hx, hb, hml, hown, hts, hlo, hnm, hA, hK, hRO⟩ := hC
  obtain ⟨hd, -, hq⟩ := hE
  dsimp only at hd hq
  simp only [am_ins] at h
  simp only [am_eQ] at hq
  obtain ⟨q1, q2, q3, q4, q5, q6⟩ := hq
  obtain ⟨x, t, rfl, h9⟩ := am_i1_some h
  replace h := h9
  have hs := am_ok_t hF.2.2.2
  rcases am_sw_some h with ⟨k1, v, tg, g1, g2, -, g4⟩ | ⟨g1, g2⟩
  · have hkl : k1 < offs.size := by rw [← q5]; exact (List.getElem?_eq_some_iff.mp g1).1
    obtain ⟨of, t2, f1, f2, f3⟩ := q6 k1 hkl
    rw [g1] at f2
    cases f2
    have hxi : x.toInt = lo + (k1 : Int) := by rw [g2]; exact am_ofInt_toInt (by omega) (by omega)
    exact lv_tableIn hx hb hd (by omega) (by omega) (by rw [hxi, show (lo + (k1 : Int) - lo).toNat = k1 by omega]; exact f1) f3 (hk _ _ _ _ g4 _ _ _ _ _ _ _ hI (am_Fr_st hF hs))
  · refine lv_tableOut hx hb hd ?_ q1 (hk _ _ _ _ g2 _ _ _ _ _ _ _ hI (am_Fr_st hF hs))
    apply Classical.byContradiction
    intro hn
    have hlo : ¬ x.toInt < lo := fun q => hn (Or.inl q)
    have hhi : ¬ hi < x.toInt := fun q => hn (Or.inr q)
    obtain ⟨of, t2, f1, f2, f3⟩ := q6 (x.toInt - lo).toNat (by omega)
    refine g1 _ _ _ f2 ?_
    rw [show lo + (((x.toInt - lo).toNat : Nat) : Int) = x.toInt by omega]
    exact (Int32.ofInt_toInt _).symm
set_option maxHeartbeats 1000000 in
theorem am_snd_lookupswitch {d : Int} {ps : Array (Int × Int)} (hC : am_Cx p s m args meth c X D A rd nm cc nL ow) (hE : am_eP (am_on ow) nm cc ret (pc, .lookupswitch d ps, n, r, sw))
    (hk : am_Ks p l e R s m args below meth c X D A rd ad0 σ0 nL Q z k) (h : am_ins Γ X k pc (.lookupswitch d ps) n r sw ls st σ = some z)
    (hI : am_Inv X D A s rd ad0 σ0 ad cA σ H locs cells slots) (hF : am_Fr σ ad ls st LS nL) : W p l e R s m args below meth c H locs cells slots Q (F0 m pc LS (st.map (am_cv ad))) := by
  obtain ⟨hx, hb, hml, hown, hts, hlo, hnm, hA, hK, hRO⟩ := hC
  obtain ⟨hd, -, hq⟩ := hE
  dsimp only at hd hq
  simp only [am_ins] at h
  simp only [am_eQ] at hq
  obtain ⟨q1, q2, q3, q4⟩ := hq
  obtain ⟨x, t, rfl, h9⟩ := am_i1_some h
  replace h := h9
  have hs := am_ok_t hF.2.2.2
  have hoff : ∀ (l : List (Int × Int)), (∀ q ∈ l, ¬ x.toInt = q.1) → Op.lookupswitch.offset l d x.toInt = d := by
    intro l
    induction l with
    | nil => intro _; simp [Op.lookupswitch.offset]
    | cons a r ih =>
      intro hl
      have h1 := ih (fun q hq => hl q (List.mem_cons_of_mem _ hq))
      have h0 := hl a List.mem_cons_self
      obtain ⟨a1, a2⟩ := a
      unfold Op.lookupswitch.offset
      rw [if_neg (fun q => h0 q.symm)]
      exact h1
  have hoff2 : ∀ (l : List (Int × Int)) (k1 : Nat) (q : Int × Int), l[k1]? = some q → x.toInt = q.1 → (∀ (k2 : Nat) (w : Int × Int), k2 < k1 → l[k2]? = some w → ¬ x.toInt = w.1) → Op.lookupswitch.offset l d x.toInt = q.2 := by
    intro l
    induction l with
    | nil => intro k1 q hq; simp at hq
    | cons a r ih =>
      intro k1 q hq he hb
      cases k1 with
      | zero =>
        simp at hq
        subst hq
        obtain ⟨a1, a2⟩ := a
        unfold Op.lookupswitch.offset
        rw [if_pos he.symm]
      | succ k1 =>
        have h0 := hb 0 a (by omega) rfl
        have h1 := ih k1 q (by simpa using hq) he (fun k2 w hk2 hw => hb (k2 + 1) w (by omega) (by simpa using hw))
        obtain ⟨a1, a2⟩ := a
        unfold Op.lookupswitch.offset
        rw [if_neg (fun q => h0 q.symm)]
        exact h1
  rcases am_sw_some h with ⟨k1, v, tg, g1, g2, g3, g4⟩ | ⟨g1, g2⟩
  · have hkl : k1 < ps.toList.length := by rw [← q3]; exact (List.getElem?_eq_some_iff.mp g1).1
    obtain ⟨w, hw⟩ : ∃ w, ps.toList[k1]? = some w := ⟨_, List.getElem?_eq_getElem hkl⟩
    obtain ⟨f1, f2, t2, f3, f4⟩ := q4 k1 w hw
    rw [g1] at f3
    cases f3
    refine lv_lookup hx hb hd q2 (hoff2 _ k1 w hw (by rw [g2]; exact am_ofInt_toInt f1 f2) ?_) f4 (hk _ _ _ _ g4 _ _ _ _ _ _ _ hI (am_Fr_st hF hs))
    intro k2 w2 hk2 hw2 he
    obtain ⟨e1, e2, t3, e3, e4⟩ := q4 k2 w2 hw2
    exact g3 k2 _ _ hk2 e3 (by rw [← he]; exact (Int32.ofInt_toInt _).symm)
  · refine lv_lookup hx hb hd q2 (hoff _ ?_) q1 (hk _ _ _ _ g2 _ _ _ _ _ _ _ hI (am_Fr_st hF hs))
    intro w hw he
    obtain ⟨k2, hk2⟩ := List.mem_iff_getElem?.mp hw
    obtain ⟨e1, e2, t3, e3, e4⟩ := q4 k2 w hk2
    exact g1 k2 _ _ e3 (by rw [← he]; exact (Int32.ofInt_toInt _).symm)

end AMH
end
