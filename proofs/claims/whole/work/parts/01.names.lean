-- ===== PART A: goes FIRST, ahead of the names: the tables' words, and 'selects' of the private methods out of them =====
/-- a private method of a class that the tables say can be made, by its rows of tables_1 -/
def lw_okq (q : MethodName × Nat) : Prop := (q.1.cls ≠ "java/lang/invoke/MethodHandle" ∧ q.1.cls ≠ "java/lang/invoke/VarHandle") ∧ Cond.instantiable q.1.cls q.2 ∈ tables_1 ∧ Cond.privateMethod q.1 ∈ tables_1 ∧ Cond.instanceMethod q.1 ∈ tables_1
theorem lw_p0 : lw_okq (⟨"LeapDesigner", "putFourBytes", "(I)V"⟩, 14) := ⟨⟨by decide +kernel, by decide +kernel⟩, List.mem_of_getElem? (i := 26) (by decide +kernel), List.mem_of_getElem? (i := 116) (by decide +kernel), List.mem_of_getElem? (i := 117) (by decide +kernel)⟩
theorem lw_p1 : lw_okq (⟨"LeapDesigner$Reader", "readStatement", "()V"⟩, 12) := ⟨⟨by decide +kernel, by decide +kernel⟩, List.mem_of_getElem? (i := 168) (by decide +kernel), List.mem_of_getElem? (i := 258) (by decide +kernel), List.mem_of_getElem? (i := 259) (by decide +kernel)⟩
theorem lw_p2 : lw_okq (⟨"LeapDesigner$Reader", "opens", "(Ljava/lang/String;I)Z"⟩, 12) := ⟨⟨by decide +kernel, by decide +kernel⟩, List.mem_of_getElem? (i := 168) (by decide +kernel), List.mem_of_getElem? (i := 263) (by decide +kernel), List.mem_of_getElem? (i := 264) (by decide +kernel)⟩
theorem lw_p3 : lw_okq (⟨"LeapDesigner$Reader", "readShare", "(II)V"⟩, 12) := ⟨⟨by decide +kernel, by decide +kernel⟩, List.mem_of_getElem? (i := 168) (by decide +kernel), List.mem_of_getElem? (i := 330) (by decide +kernel), List.mem_of_getElem? (i := 331) (by decide +kernel)⟩
theorem lw_p4 : lw_okq (⟨"LeapDesigner$Reader", "readShift", "()I"⟩, 12) := ⟨⟨by decide +kernel, by decide +kernel⟩, List.mem_of_getElem? (i := 168) (by decide +kernel), List.mem_of_getElem? (i := 341) (by decide +kernel), List.mem_of_getElem? (i := 342) (by decide +kernel)⟩
theorem lw_p5 : lw_okq (⟨"LeapDesigner$Reader", "readLadder", "()V"⟩, 12) := ⟨⟨by decide +kernel, by decide +kernel⟩, List.mem_of_getElem? (i := 168) (by decide +kernel), List.mem_of_getElem? (i := 365) (by decide +kernel), List.mem_of_getElem? (i := 366) (by decide +kernel)⟩
theorem lw_p6 : lw_okq (⟨"LeapDesigner$Reader", "readRow", "()V"⟩, 12) := ⟨⟨by decide +kernel, by decide +kernel⟩, List.mem_of_getElem? (i := 168) (by decide +kernel), List.mem_of_getElem? (i := 389) (by decide +kernel), List.mem_of_getElem? (i := 390) (by decide +kernel)⟩
theorem lw_p7 : lw_okq (⟨"LeapDesigner$Reader", "readMonths", "()V"⟩, 12) := ⟨⟨by decide +kernel, by decide +kernel⟩, List.mem_of_getElem? (i := 168) (by decide +kernel), List.mem_of_getElem? (i := 407) (by decide +kernel), List.mem_of_getElem? (i := 408) (by decide +kernel)⟩
theorem lw_p8 : lw_okq (⟨"LeapDesigner$Reader", "readWeek", "()V"⟩, 12) := ⟨⟨by decide +kernel, by decide +kernel⟩, List.mem_of_getElem? (i := 168) (by decide +kernel), List.mem_of_getElem? (i := 413) (by decide +kernel), List.mem_of_getElem? (i := 414) (by decide +kernel)⟩
theorem lw_p9 : lw_okq (⟨"LeapDesigner$Reader", "sumOfMonths", "()I"⟩, 12) := ⟨⟨by decide +kernel, by decide +kernel⟩, List.mem_of_getElem? (i := 168) (by decide +kernel), List.mem_of_getElem? (i := 432) (by decide +kernel), List.mem_of_getElem? (i := 433) (by decide +kernel)⟩
theorem lw_p10 : lw_okq (⟨"LeapDesigner", "change", "(ILLeapDesigner$Design;)V"⟩, 14) := ⟨⟨by decide +kernel, by decide +kernel⟩, List.mem_of_getElem? (i := 26) (by decide +kernel), List.mem_of_getElem? (i := 489) (by decide +kernel), List.mem_of_getElem? (i := 490) (by decide +kernel)⟩
theorem lw_p11 : lw_okq (⟨"LeapDesigner", "designAt", "(I)LLeapDesigner$Design;"⟩, 14) := ⟨⟨by decide +kernel, by decide +kernel⟩, List.mem_of_getElem? (i := 26) (by decide +kernel), List.mem_of_getElem? (i := 516) (by decide +kernel), List.mem_of_getElem? (i := 517) (by decide +kernel)⟩
theorem lw_p12 : lw_okq (⟨"LeapDesigner", "designsThere", "()I"⟩, 14) := ⟨⟨by decide +kernel, by decide +kernel⟩, List.mem_of_getElem? (i := 26) (by decide +kernel), List.mem_of_getElem? (i := 573) (by decide +kernel), List.mem_of_getElem? (i := 574) (by decide +kernel)⟩
theorem lw_p13 : lw_okq (⟨"LeapDesigner", "keepingShift", "(LLeapDesigner$Design;II)I"⟩, 14) := ⟨⟨by decide +kernel, by decide +kernel⟩, List.mem_of_getElem? (i := 26) (by decide +kernel), List.mem_of_getElem? (i := 1079) (by decide +kernel), List.mem_of_getElem? (i := 1080) (by decide +kernel)⟩
theorem lw_p14 : lw_okq (⟨"LeapDesigner", "fillHeads", "(LLeapDesigner$Design;I)V"⟩, 14) := ⟨⟨by decide +kernel, by decide +kernel⟩, List.mem_of_getElem? (i := 26) (by decide +kernel), List.mem_of_getElem? (i := 1083) (by decide +kernel), List.mem_of_getElem? (i := 1084) (by decide +kernel)⟩
theorem lw_p15 : lw_okq (⟨"LeapDesigner", "fillBorders", "(LLeapDesigner$Law;I)V"⟩, 14) := ⟨⟨by decide +kernel, by decide +kernel⟩, List.mem_of_getElem? (i := 26) (by decide +kernel), List.mem_of_getElem? (i := 1269) (by decide +kernel), List.mem_of_getElem? (i := 1270) (by decide +kernel)⟩
def lw_privs_1 : List (MethodName × Nat) := [(⟨"LeapDesigner", "putFourBytes", "(I)V"⟩, 14), (⟨"LeapDesigner$Reader", "readStatement", "()V"⟩, 12), (⟨"LeapDesigner$Reader", "opens", "(Ljava/lang/String;I)Z"⟩, 12), (⟨"LeapDesigner$Reader", "readShare", "(II)V"⟩, 12), (⟨"LeapDesigner$Reader", "readShift", "()I"⟩, 12), (⟨"LeapDesigner$Reader", "readLadder", "()V"⟩, 12), (⟨"LeapDesigner$Reader", "readRow", "()V"⟩, 12), (⟨"LeapDesigner$Reader", "readMonths", "()V"⟩, 12), (⟨"LeapDesigner$Reader", "readWeek", "()V"⟩, 12), (⟨"LeapDesigner$Reader", "sumOfMonths", "()I"⟩, 12), (⟨"LeapDesigner", "change", "(ILLeapDesigner$Design;)V"⟩, 14), (⟨"LeapDesigner", "designAt", "(I)LLeapDesigner$Design;"⟩, 14), (⟨"LeapDesigner", "designsThere", "()I"⟩, 14), (⟨"LeapDesigner", "keepingShift", "(LLeapDesigner$Design;II)I"⟩, 14), (⟨"LeapDesigner", "fillHeads", "(LLeapDesigner$Design;I)V"⟩, 14), (⟨"LeapDesigner", "fillBorders", "(LLeapDesigner$Law;I)V"⟩, 14)]
theorem lw_r1 : ∀ q ∈ lw_privs_1, lw_okq q := List.forall_mem_cons.mpr ⟨lw_p0, List.forall_mem_cons.mpr ⟨lw_p1, List.forall_mem_cons.mpr ⟨lw_p2, List.forall_mem_cons.mpr ⟨lw_p3, List.forall_mem_cons.mpr ⟨lw_p4, List.forall_mem_cons.mpr ⟨lw_p5, List.forall_mem_cons.mpr ⟨lw_p6, List.forall_mem_cons.mpr ⟨lw_p7, List.forall_mem_cons.mpr ⟨lw_p8, List.forall_mem_cons.mpr ⟨lw_p9, List.forall_mem_cons.mpr ⟨lw_p10, List.forall_mem_cons.mpr ⟨lw_p11, List.forall_mem_cons.mpr ⟨lw_p12, List.forall_mem_cons.mpr ⟨lw_p13, List.forall_mem_cons.mpr ⟨lw_p14, List.forall_mem_cons.mpr ⟨lw_p15, fun _ h => absurd h List.not_mem_nil⟩⟩⟩⟩⟩⟩⟩⟩⟩⟩⟩⟩⟩⟩⟩⟩
theorem lw_p16 : lw_okq (⟨"LeapDesigner", "goOn", "(LLeapDesigner$Law;IZ)I"⟩, 14) := ⟨⟨by decide +kernel, by decide +kernel⟩, List.mem_of_getElem? (i := 26) (by decide +kernel), List.mem_of_getElem? (i := 1273) (by decide +kernel), List.mem_of_getElem? (i := 1274) (by decide +kernel)⟩
theorem lw_p17 : lw_okq (⟨"LeapDesigner", "placeInRound", "(LLeapDesigner$Law;LLeapDesigner$Law;I)I"⟩, 14) := ⟨⟨by decide +kernel, by decide +kernel⟩, List.mem_of_getElem? (i := 26) (by decide +kernel), List.mem_of_getElem? (i := 1277) (by decide +kernel), List.mem_of_getElem? (i := 1278) (by decide +kernel)⟩
theorem lw_p18 : lw_okq (⟨"LeapDesigner$Fraction", "plusTimes", "(LLeapDesigner$Fraction;J)LLeapDesigner$Fraction;"⟩, 2) := ⟨⟨by decide +kernel, by decide +kernel⟩, List.mem_of_getElem? (i := 611) (by decide +kernel), List.mem_of_getElem? (i := 1318) (by decide +kernel), List.mem_of_getElem? (i := 1319) (by decide +kernel)⟩
theorem lw_p19 : lw_okq (⟨"LeapDesigner$Fraction", "isNearer", "(LLeapDesigner$Fraction;JJ)Z"⟩, 2) := ⟨⟨by decide +kernel, by decide +kernel⟩, List.mem_of_getElem? (i := 611) (by decide +kernel), List.mem_of_getElem? (i := 1322) (by decide +kernel), List.mem_of_getElem? (i := 1323) (by decide +kernel)⟩
theorem lw_p20 : lw_okq (⟨"LeapDesignerModel", "puts", "(I)V"⟩, 26) := ⟨⟨by decide +kernel, by decide +kernel⟩, List.mem_of_getElem? (i := 1346) (by decide +kernel), List.mem_of_getElem? (i := 1436) (by decide +kernel), List.mem_of_getElem? (i := 1437) (by decide +kernel)⟩
theorem lw_p21 : lw_okq (⟨"LeapDesignerModel", "beginsText", "()V"⟩, 26) := ⟨⟨by decide +kernel, by decide +kernel⟩, List.mem_of_getElem? (i := 1346) (by decide +kernel), List.mem_of_getElem? (i := 1452) (by decide +kernel), List.mem_of_getElem? (i := 1453) (by decide +kernel)⟩
theorem lw_p22 : lw_okq (⟨"LeapDesignerModel", "plainly", "()V"⟩, 26) := ⟨⟨by decide +kernel, by decide +kernel⟩, List.mem_of_getElem? (i := 1346) (by decide +kernel), List.mem_of_getElem? (i := 1456) (by decide +kernel), List.mem_of_getElem? (i := 1457) (by decide +kernel)⟩
theorem lw_p23 : lw_okq (⟨"LeapDesignerModel", "isFine", "()Z"⟩, 26) := ⟨⟨by decide +kernel, by decide +kernel⟩, List.mem_of_getElem? (i := 1346) (by decide +kernel), List.mem_of_getElem? (i := 1460) (by decide +kernel), List.mem_of_getElem? (i := 1461) (by decide +kernel)⟩
theorem lw_p24 : lw_okq (⟨"LeapDesignerModel", "next", "()I"⟩, 26) := ⟨⟨by decide +kernel, by decide +kernel⟩, List.mem_of_getElem? (i := 1346) (by decide +kernel), List.mem_of_getElem? (i := 1464) (by decide +kernel), List.mem_of_getElem? (i := 1465) (by decide +kernel)⟩
theorem lw_p25 : lw_okq (⟨"LeapDesignerModel", "statement", "()V"⟩, 26) := ⟨⟨by decide +kernel, by decide +kernel⟩, List.mem_of_getElem? (i := 1346) (by decide +kernel), List.mem_of_getElem? (i := 1468) (by decide +kernel), List.mem_of_getElem? (i := 1469) (by decide +kernel)⟩
theorem lw_p26 : lw_okq (⟨"LeapDesignerModel", "isWord", "(J)Z"⟩, 26) := ⟨⟨by decide +kernel, by decide +kernel⟩, List.mem_of_getElem? (i := 1346) (by decide +kernel), List.mem_of_getElem? (i := 1473) (by decide +kernel), List.mem_of_getElem? (i := 1474) (by decide +kernel)⟩
theorem lw_p27 : lw_okq (⟨"LeapDesignerModel", "isLetter", "(I)Z"⟩, 26) := ⟨⟨by decide +kernel, by decide +kernel⟩, List.mem_of_getElem? (i := 1346) (by decide +kernel), List.mem_of_getElem? (i := 1477) (by decide +kernel), List.mem_of_getElem? (i := 1478) (by decide +kernel)⟩
theorem lw_p28 : lw_okq (⟨"LeapDesignerModel", "numberTold", "(IJII)V"⟩, 26) := ⟨⟨by decide +kernel, by decide +kernel⟩, List.mem_of_getElem? (i := 1346) (by decide +kernel), List.mem_of_getElem? (i := 1486) (by decide +kernel), List.mem_of_getElem? (i := 1487) (by decide +kernel)⟩
theorem lw_p29 : lw_okq (⟨"LeapDesignerModel", "once", "(IJ)V"⟩, 26) := ⟨⟨by decide +kernel, by decide +kernel⟩, List.mem_of_getElem? (i := 1346) (by decide +kernel), List.mem_of_getElem? (i := 1490) (by decide +kernel), List.mem_of_getElem? (i := 1491) (by decide +kernel)⟩
theorem lw_p30 : lw_okq (⟨"LeapDesignerModel", "fail", "(II)V"⟩, 26) := ⟨⟨by decide +kernel, by decide +kernel⟩, List.mem_of_getElem? (i := 1346) (by decide +kernel), List.mem_of_getElem? (i := 1494) (by decide +kernel), List.mem_of_getElem? (i := 1495) (by decide +kernel)⟩
theorem lw_p31 : lw_okq (⟨"LeapDesignerModel", "takes", "(J)Z"⟩, 26) := ⟨⟨by decide +kernel, by decide +kernel⟩, List.mem_of_getElem? (i := 1346) (by decide +kernel), List.mem_of_getElem? (i := 1498) (by decide +kernel), List.mem_of_getElem? (i := 1499) (by decide +kernel)⟩
def lw_privs_2 : List (MethodName × Nat) := [(⟨"LeapDesigner", "goOn", "(LLeapDesigner$Law;IZ)I"⟩, 14), (⟨"LeapDesigner", "placeInRound", "(LLeapDesigner$Law;LLeapDesigner$Law;I)I"⟩, 14), (⟨"LeapDesigner$Fraction", "plusTimes", "(LLeapDesigner$Fraction;J)LLeapDesigner$Fraction;"⟩, 2), (⟨"LeapDesigner$Fraction", "isNearer", "(LLeapDesigner$Fraction;JJ)Z"⟩, 2), (⟨"LeapDesignerModel", "puts", "(I)V"⟩, 26), (⟨"LeapDesignerModel", "beginsText", "()V"⟩, 26), (⟨"LeapDesignerModel", "plainly", "()V"⟩, 26), (⟨"LeapDesignerModel", "isFine", "()Z"⟩, 26), (⟨"LeapDesignerModel", "next", "()I"⟩, 26), (⟨"LeapDesignerModel", "statement", "()V"⟩, 26), (⟨"LeapDesignerModel", "isWord", "(J)Z"⟩, 26), (⟨"LeapDesignerModel", "isLetter", "(I)Z"⟩, 26), (⟨"LeapDesignerModel", "numberTold", "(IJII)V"⟩, 26), (⟨"LeapDesignerModel", "once", "(IJ)V"⟩, 26), (⟨"LeapDesignerModel", "fail", "(II)V"⟩, 26), (⟨"LeapDesignerModel", "takes", "(J)Z"⟩, 26)]
theorem lw_r2 : ∀ q ∈ lw_privs_2, lw_okq q := List.forall_mem_cons.mpr ⟨lw_p16, List.forall_mem_cons.mpr ⟨lw_p17, List.forall_mem_cons.mpr ⟨lw_p18, List.forall_mem_cons.mpr ⟨lw_p19, List.forall_mem_cons.mpr ⟨lw_p20, List.forall_mem_cons.mpr ⟨lw_p21, List.forall_mem_cons.mpr ⟨lw_p22, List.forall_mem_cons.mpr ⟨lw_p23, List.forall_mem_cons.mpr ⟨lw_p24, List.forall_mem_cons.mpr ⟨lw_p25, List.forall_mem_cons.mpr ⟨lw_p26, List.forall_mem_cons.mpr ⟨lw_p27, List.forall_mem_cons.mpr ⟨lw_p28, List.forall_mem_cons.mpr ⟨lw_p29, List.forall_mem_cons.mpr ⟨lw_p30, List.forall_mem_cons.mpr ⟨lw_p31, fun _ h => absurd h List.not_mem_nil⟩⟩⟩⟩⟩⟩⟩⟩⟩⟩⟩⟩⟩⟩⟩⟩
theorem lw_p32 : lw_okq (⟨"LeapDesignerModel", "unlike", "()V"⟩, 26) := ⟨⟨by decide +kernel, by decide +kernel⟩, List.mem_of_getElem? (i := 1346) (by decide +kernel), List.mem_of_getElem? (i := 1502) (by decide +kernel), List.mem_of_getElem? (i := 1503) (by decide +kernel)⟩
theorem lw_p33 : lw_okq (⟨"LeapDesignerModel", "reads", "(II)I"⟩, 26) := ⟨⟨by decide +kernel, by decide +kernel⟩, List.mem_of_getElem? (i := 1346) (by decide +kernel), List.mem_of_getElem? (i := 1506) (by decide +kernel), List.mem_of_getElem? (i := 1507) (by decide +kernel)⟩
theorem lw_p34 : lw_okq (⟨"LeapDesignerModel", "isDigit", "(I)Z"⟩, 26) := ⟨⟨by decide +kernel, by decide +kernel⟩, List.mem_of_getElem? (i := 1346) (by decide +kernel), List.mem_of_getElem? (i := 1510) (by decide +kernel), List.mem_of_getElem? (i := 1511) (by decide +kernel)⟩
theorem lw_p35 : lw_okq (⟨"LeapDesignerModel", "lays", "(II)V"⟩, 26) := ⟨⟨by decide +kernel, by decide +kernel⟩, List.mem_of_getElem? (i := 1346) (by decide +kernel), List.mem_of_getElem? (i := 1516) (by decide +kernel), List.mem_of_getElem? (i := 1517) (by decide +kernel)⟩
theorem lw_p36 : lw_okq (⟨"LeapDesignerModel", "evenRead", "()V"⟩, 26) := ⟨⟨by decide +kernel, by decide +kernel⟩, List.mem_of_getElem? (i := 1346) (by decide +kernel), List.mem_of_getElem? (i := 1522) (by decide +kernel), List.mem_of_getElem? (i := 1523) (by decide +kernel)⟩
theorem lw_p37 : lw_okq (⟨"LeapDesignerModel", "shares", "(IIII)V"⟩, 26) := ⟨⟨by decide +kernel, by decide +kernel⟩, List.mem_of_getElem? (i := 1346) (by decide +kernel), List.mem_of_getElem? (i := 1526) (by decide +kernel), List.mem_of_getElem? (i := 1527) (by decide +kernel)⟩
theorem lw_p38 : lw_okq (⟨"LeapDesignerModel", "needs", "(J)V"⟩, 26) := ⟨⟨by decide +kernel, by decide +kernel⟩, List.mem_of_getElem? (i := 1346) (by decide +kernel), List.mem_of_getElem? (i := 1531) (by decide +kernel), List.mem_of_getElem? (i := 1532) (by decide +kernel)⟩
theorem lw_p39 : lw_okq (⟨"LeapDesignerModel", "everyRead", "()V"⟩, 26) := ⟨⟨by decide +kernel, by decide +kernel⟩, List.mem_of_getElem? (i := 1346) (by decide +kernel), List.mem_of_getElem? (i := 1537) (by decide +kernel), List.mem_of_getElem? (i := 1538) (by decide +kernel)⟩
theorem lw_p40 : lw_okq (⟨"LeapDesignerModel", "rowRead", "()V"⟩, 26) := ⟨⟨by decide +kernel, by decide +kernel⟩, List.mem_of_getElem? (i := 1346) (by decide +kernel), List.mem_of_getElem? (i := 1544) (by decide +kernel), List.mem_of_getElem? (i := 1545) (by decide +kernel)⟩
theorem lw_p41 : lw_okq (⟨"LeapDesignerModel", "seesNumber", "()Z"⟩, 26) := ⟨⟨by decide +kernel, by decide +kernel⟩, List.mem_of_getElem? (i := 1346) (by decide +kernel), List.mem_of_getElem? (i := 1548) (by decide +kernel), List.mem_of_getElem? (i := 1549) (by decide +kernel)⟩
theorem lw_p42 : lw_okq (⟨"LeapDesignerModel", "monthsRead", "()V"⟩, 26) := ⟨⟨by decide +kernel, by decide +kernel⟩, List.mem_of_getElem? (i := 1346) (by decide +kernel), List.mem_of_getElem? (i := 1553) (by decide +kernel), List.mem_of_getElem? (i := 1554) (by decide +kernel)⟩
theorem lw_p43 : lw_okq (⟨"LeapDesignerModel", "weekRead", "()V"⟩, 26) := ⟨⟨by decide +kernel, by decide +kernel⟩, List.mem_of_getElem? (i := 1346) (by decide +kernel), List.mem_of_getElem? (i := 1559) (by decide +kernel), List.mem_of_getElem? (i := 1560) (by decide +kernel)⟩
theorem lw_p44 : lw_okq (⟨"LeapDesignerModel", "trueRead", "()V"⟩, 26) := ⟨⟨by decide +kernel, by decide +kernel⟩, List.mem_of_getElem? (i := 1346) (by decide +kernel), List.mem_of_getElem? (i := 1565) (by decide +kernel), List.mem_of_getElem? (i := 1566) (by decide +kernel)⟩
theorem lw_p45 : lw_okq (⟨"LeapDesignerModel", "beginsRead", "()V"⟩, 26) := ⟨⟨by decide +kernel, by decide +kernel⟩, List.mem_of_getElem? (i := 1346) (by decide +kernel), List.mem_of_getElem? (i := 1572) (by decide +kernel), List.mem_of_getElem? (i := 1573) (by decide +kernel)⟩
theorem lw_p46 : lw_okq (⟨"LeapDesignerModel", "isAllRead", "()V"⟩, 26) := ⟨⟨by decide +kernel, by decide +kernel⟩, List.mem_of_getElem? (i := 1346) (by decide +kernel), List.mem_of_getElem? (i := 1576) (by decide +kernel), List.mem_of_getElem? (i := 1577) (by decide +kernel)⟩
theorem lw_p47 : lw_okq (⟨"LeapDesignerModel", "changesNow", "()V"⟩, 26) := ⟨⟨by decide +kernel, by decide +kernel⟩, List.mem_of_getElem? (i := 1346) (by decide +kernel), List.mem_of_getElem? (i := 1580) (by decide +kernel), List.mem_of_getElem? (i := 1581) (by decide +kernel)⟩
def lw_privs_3 : List (MethodName × Nat) := [(⟨"LeapDesignerModel", "unlike", "()V"⟩, 26), (⟨"LeapDesignerModel", "reads", "(II)I"⟩, 26), (⟨"LeapDesignerModel", "isDigit", "(I)Z"⟩, 26), (⟨"LeapDesignerModel", "lays", "(II)V"⟩, 26), (⟨"LeapDesignerModel", "evenRead", "()V"⟩, 26), (⟨"LeapDesignerModel", "shares", "(IIII)V"⟩, 26), (⟨"LeapDesignerModel", "needs", "(J)V"⟩, 26), (⟨"LeapDesignerModel", "everyRead", "()V"⟩, 26), (⟨"LeapDesignerModel", "rowRead", "()V"⟩, 26), (⟨"LeapDesignerModel", "seesNumber", "()Z"⟩, 26), (⟨"LeapDesignerModel", "monthsRead", "()V"⟩, 26), (⟨"LeapDesignerModel", "weekRead", "()V"⟩, 26), (⟨"LeapDesignerModel", "trueRead", "()V"⟩, 26), (⟨"LeapDesignerModel", "beginsRead", "()V"⟩, 26), (⟨"LeapDesignerModel", "isAllRead", "()V"⟩, 26), (⟨"LeapDesignerModel", "changesNow", "()V"⟩, 26)]
theorem lw_r3 : ∀ q ∈ lw_privs_3, lw_okq q := List.forall_mem_cons.mpr ⟨lw_p32, List.forall_mem_cons.mpr ⟨lw_p33, List.forall_mem_cons.mpr ⟨lw_p34, List.forall_mem_cons.mpr ⟨lw_p35, List.forall_mem_cons.mpr ⟨lw_p36, List.forall_mem_cons.mpr ⟨lw_p37, List.forall_mem_cons.mpr ⟨lw_p38, List.forall_mem_cons.mpr ⟨lw_p39, List.forall_mem_cons.mpr ⟨lw_p40, List.forall_mem_cons.mpr ⟨lw_p41, List.forall_mem_cons.mpr ⟨lw_p42, List.forall_mem_cons.mpr ⟨lw_p43, List.forall_mem_cons.mpr ⟨lw_p44, List.forall_mem_cons.mpr ⟨lw_p45, List.forall_mem_cons.mpr ⟨lw_p46, List.forall_mem_cons.mpr ⟨lw_p47, fun _ h => absurd h List.not_mem_nil⟩⟩⟩⟩⟩⟩⟩⟩⟩⟩⟩⟩⟩⟩⟩⟩
theorem lw_p48 : lw_okq (⟨"LeapDesignerModel", "copies", "(II)V"⟩, 26) := ⟨⟨by decide +kernel, by decide +kernel⟩, List.mem_of_getElem? (i := 1346) (by decide +kernel), List.mem_of_getElem? (i := 1587) (by decide +kernel), List.mem_of_getElem? (i := 1588) (by decide +kernel)⟩
theorem lw_p49 : lw_okq (⟨"LeapDesignerModel", "isThere", "(I)Z"⟩, 26) := ⟨⟨by decide +kernel, by decide +kernel⟩, List.mem_of_getElem? (i := 1346) (by decide +kernel), List.mem_of_getElem? (i := 1599) (by decide +kernel), List.mem_of_getElem? (i := 1600) (by decide +kernel)⟩
theorem lw_p50 : lw_okq (⟨"LeapDesignerModel", "leapsInCycle", "(I)I"⟩, 26) := ⟨⟨by decide +kernel, by decide +kernel⟩, List.mem_of_getElem? (i := 1346) (by decide +kernel), List.mem_of_getElem? (i := 1603) (by decide +kernel), List.mem_of_getElem? (i := 1604) (by decide +kernel)⟩
theorem lw_p51 : lw_okq (⟨"LeapDesignerModel", "leapsTo", "(IJ)J"⟩, 26) := ⟨⟨by decide +kernel, by decide +kernel⟩, List.mem_of_getElem? (i := 1346) (by decide +kernel), List.mem_of_getElem? (i := 1607) (by decide +kernel), List.mem_of_getElem? (i := 1608) (by decide +kernel)⟩
theorem lw_p52 : lw_okq (⟨"LeapDesignerModel", "howMany", "()I"⟩, 26) := ⟨⟨by decide +kernel, by decide +kernel⟩, List.mem_of_getElem? (i := 1346) (by decide +kernel), List.mem_of_getElem? (i := 1621) (by decide +kernel), List.mem_of_getElem? (i := 1622) (by decide +kernel)⟩
theorem lw_p53 : lw_okq (⟨"LeapDesignerModel", "isMonth", "(II)Z"⟩, 26) := ⟨⟨by decide +kernel, by decide +kernel⟩, List.mem_of_getElem? (i := 1346) (by decide +kernel), List.mem_of_getElem? (i := 1629) (by decide +kernel), List.mem_of_getElem? (i := 1630) (by decide +kernel)⟩
theorem lw_p54 : lw_okq (⟨"LeapDesignerModel", "monthDays", "(IIZ)I"⟩, 26) := ⟨⟨by decide +kernel, by decide +kernel⟩, List.mem_of_getElem? (i := 1346) (by decide +kernel), List.mem_of_getElem? (i := 1633) (by decide +kernel), List.mem_of_getElem? (i := 1634) (by decide +kernel)⟩
theorem lw_p55 : lw_okq (⟨"LeapDesignerModel", "trueAbove", "(I)J"⟩, 26) := ⟨⟨by decide +kernel, by decide +kernel⟩, List.mem_of_getElem? (i := 1346) (by decide +kernel), List.mem_of_getElem? (i := 1642) (by decide +kernel), List.mem_of_getElem? (i := 1643) (by decide +kernel)⟩
theorem lw_p56 : lw_okq (⟨"LeapDesignerModel", "startOf", "(IJ)J"⟩, 26) := ⟨⟨by decide +kernel, by decide +kernel⟩, List.mem_of_getElem? (i := 1346) (by decide +kernel), List.mem_of_getElem? (i := 1655) (by decide +kernel), List.mem_of_getElem? (i := 1656) (by decide +kernel)⟩
theorem lw_p57 : lw_okq (⟨"LeapDesignerModel", "writesWord", "(J)V"⟩, 26) := ⟨⟨by decide +kernel, by decide +kernel⟩, List.mem_of_getElem? (i := 1346) (by decide +kernel), List.mem_of_getElem? (i := 1689) (by decide +kernel), List.mem_of_getElem? (i := 1690) (by decide +kernel)⟩
theorem lw_p58 : lw_okq (⟨"LeapDesignerModel", "octet1", "(I)V"⟩, 26) := ⟨⟨by decide +kernel, by decide +kernel⟩, List.mem_of_getElem? (i := 1346) (by decide +kernel), List.mem_of_getElem? (i := 1693) (by decide +kernel), List.mem_of_getElem? (i := 1694) (by decide +kernel)⟩
theorem lw_p59 : lw_okq (⟨"LeapDesignerModel", "writesLast", "(I)V"⟩, 26) := ⟨⟨by decide +kernel, by decide +kernel⟩, List.mem_of_getElem? (i := 1346) (by decide +kernel), List.mem_of_getElem? (i := 1698) (by decide +kernel), List.mem_of_getElem? (i := 1699) (by decide +kernel)⟩
theorem lw_p60 : lw_okq (⟨"LeapDesignerModel", "writes", "(I)V"⟩, 26) := ⟨⟨by decide +kernel, by decide +kernel⟩, List.mem_of_getElem? (i := 1346) (by decide +kernel), List.mem_of_getElem? (i := 1702) (by decide +kernel), List.mem_of_getElem? (i := 1703) (by decide +kernel)⟩
theorem lw_p61 : lw_okq (⟨"LeapDesignerModel", "digits", "(I)V"⟩, 26) := ⟨⟨by decide +kernel, by decide +kernel⟩, List.mem_of_getElem? (i := 1346) (by decide +kernel), List.mem_of_getElem? (i := 1706) (by decide +kernel), List.mem_of_getElem? (i := 1707) (by decide +kernel)⟩
theorem lw_p62 : lw_okq (⟨"LeapDesignerModel", "writesLaw", "(I)V"⟩, 26) := ⟨⟨by decide +kernel, by decide +kernel⟩, List.mem_of_getElem? (i := 1346) (by decide +kernel), List.mem_of_getElem? (i := 1710) (by decide +kernel), List.mem_of_getElem? (i := 1711) (by decide +kernel)⟩
theorem lw_p63 : lw_okq (⟨"LeapDesignerModel", "writesTold", "(JI)V"⟩, 26) := ⟨⟨by decide +kernel, by decide +kernel⟩, List.mem_of_getElem? (i := 1346) (by decide +kernel), List.mem_of_getElem? (i := 1714) (by decide +kernel), List.mem_of_getElem? (i := 1715) (by decide +kernel)⟩
def lw_privs_4 : List (MethodName × Nat) := [(⟨"LeapDesignerModel", "copies", "(II)V"⟩, 26), (⟨"LeapDesignerModel", "isThere", "(I)Z"⟩, 26), (⟨"LeapDesignerModel", "leapsInCycle", "(I)I"⟩, 26), (⟨"LeapDesignerModel", "leapsTo", "(IJ)J"⟩, 26), (⟨"LeapDesignerModel", "howMany", "()I"⟩, 26), (⟨"LeapDesignerModel", "isMonth", "(II)Z"⟩, 26), (⟨"LeapDesignerModel", "monthDays", "(IIZ)I"⟩, 26), (⟨"LeapDesignerModel", "trueAbove", "(I)J"⟩, 26), (⟨"LeapDesignerModel", "startOf", "(IJ)J"⟩, 26), (⟨"LeapDesignerModel", "writesWord", "(J)V"⟩, 26), (⟨"LeapDesignerModel", "octet1", "(I)V"⟩, 26), (⟨"LeapDesignerModel", "writesLast", "(I)V"⟩, 26), (⟨"LeapDesignerModel", "writes", "(I)V"⟩, 26), (⟨"LeapDesignerModel", "digits", "(I)V"⟩, 26), (⟨"LeapDesignerModel", "writesLaw", "(I)V"⟩, 26), (⟨"LeapDesignerModel", "writesTold", "(JI)V"⟩, 26)]
theorem lw_r4 : ∀ q ∈ lw_privs_4, lw_okq q := List.forall_mem_cons.mpr ⟨lw_p48, List.forall_mem_cons.mpr ⟨lw_p49, List.forall_mem_cons.mpr ⟨lw_p50, List.forall_mem_cons.mpr ⟨lw_p51, List.forall_mem_cons.mpr ⟨lw_p52, List.forall_mem_cons.mpr ⟨lw_p53, List.forall_mem_cons.mpr ⟨lw_p54, List.forall_mem_cons.mpr ⟨lw_p55, List.forall_mem_cons.mpr ⟨lw_p56, List.forall_mem_cons.mpr ⟨lw_p57, List.forall_mem_cons.mpr ⟨lw_p58, List.forall_mem_cons.mpr ⟨lw_p59, List.forall_mem_cons.mpr ⟨lw_p60, List.forall_mem_cons.mpr ⟨lw_p61, List.forall_mem_cons.mpr ⟨lw_p62, List.forall_mem_cons.mpr ⟨lw_p63, fun _ h => absurd h List.not_mem_nil⟩⟩⟩⟩⟩⟩⟩⟩⟩⟩⟩⟩⟩⟩⟩⟩
theorem lw_p64 : lw_okq (⟨"LeapDesignerModel", "isLeap", "(IJ)Z"⟩, 26) := ⟨⟨by decide +kernel, by decide +kernel⟩, List.mem_of_getElem? (i := 1346) (by decide +kernel), List.mem_of_getElem? (i := 1718) (by decide +kernel), List.mem_of_getElem? (i := 1719) (by decide +kernel)⟩
theorem lw_p65 : lw_okq (⟨"LeapDesignerModel", "daysOf", "(IJ)I"⟩, 26) := ⟨⟨by decide +kernel, by decide +kernel⟩, List.mem_of_getElem? (i := 1346) (by decide +kernel), List.mem_of_getElem? (i := 1750) (by decide +kernel), List.mem_of_getElem? (i := 1751) (by decide +kernel)⟩
theorem lw_p66 : lw_okq (⟨"LeapDesignerModel", "isDay", "(IJ)Z"⟩, 26) := ⟨⟨by decide +kernel, by decide +kernel⟩, List.mem_of_getElem? (i := 1346) (by decide +kernel), List.mem_of_getElem? (i := 1758) (by decide +kernel), List.mem_of_getElem? (i := 1759) (by decide +kernel)⟩
theorem lw_p67 : lw_okq (⟨"LeapDesignerModel", "dateOf", "(IJI)J"⟩, 26) := ⟨⟨by decide +kernel, by decide +kernel⟩, List.mem_of_getElem? (i := 1346) (by decide +kernel), List.mem_of_getElem? (i := 1764) (by decide +kernel), List.mem_of_getElem? (i := 1765) (by decide +kernel)⟩
theorem lw_p68 : lw_okq (⟨"LeapDesignerModel", "yearOf", "(IJ)J"⟩, 26) := ⟨⟨by decide +kernel, by decide +kernel⟩, List.mem_of_getElem? (i := 1346) (by decide +kernel), List.mem_of_getElem? (i := 1768) (by decide +kernel), List.mem_of_getElem? (i := 1769) (by decide +kernel)⟩
theorem lw_p69 : lw_okq (⟨"LeapDesignerModel", "weekdayOf", "(IJ)I"⟩, 26) := ⟨⟨by decide +kernel, by decide +kernel⟩, List.mem_of_getElem? (i := 1346) (by decide +kernel), List.mem_of_getElem? (i := 1773) (by decide +kernel), List.mem_of_getElem? (i := 1774) (by decide +kernel)⟩
theorem lw_p70 : lw_okq (⟨"LeapDesignerModel", "isDate", "(IJII)Z"⟩, 26) := ⟨⟨by decide +kernel, by decide +kernel⟩, List.mem_of_getElem? (i := 1346) (by decide +kernel), List.mem_of_getElem? (i := 1781) (by decide +kernel), List.mem_of_getElem? (i := 1782) (by decide +kernel)⟩
theorem lw_p71 : lw_okq (⟨"LeapDesignerModel", "numberOf", "(IJII)J"⟩, 26) := ⟨⟨by decide +kernel, by decide +kernel⟩, List.mem_of_getElem? (i := 1346) (by decide +kernel), List.mem_of_getElem? (i := 1785) (by decide +kernel), List.mem_of_getElem? (i := 1786) (by decide +kernel)⟩
theorem lw_p72 : lw_okq (⟨"LeapDesignerModel", "aheadOf", "(IJI)I"⟩, 26) := ⟨⟨by decide +kernel, by decide +kernel⟩, List.mem_of_getElem? (i := 1346) (by decide +kernel), List.mem_of_getElem? (i := 1789) (by decide +kernel), List.mem_of_getElem? (i := 1790) (by decide +kernel)⟩
theorem lw_p73 : lw_okq (⟨"LeapDesignerModel", "driftOf", "(IJ)J"⟩, 26) := ⟨⟨by decide +kernel, by decide +kernel⟩, List.mem_of_getElem? (i := 1346) (by decide +kernel), List.mem_of_getElem? (i := 1806) (by decide +kernel), List.mem_of_getElem? (i := 1807) (by decide +kernel)⟩
theorem lw_p74 : lw_okq (⟨"LeapDesignerModel", "belowOf", "(I)J"⟩, 26) := ⟨⟨by decide +kernel, by decide +kernel⟩, List.mem_of_getElem? (i := 1346) (by decide +kernel), List.mem_of_getElem? (i := 1810) (by decide +kernel), List.mem_of_getElem? (i := 1811) (by decide +kernel)⟩
theorem lw_p75 : lw_okq (⟨"LeapDesignerModel", "dawnOf", "(IJ)J"⟩, 26) := ⟨⟨by decide +kernel, by decide +kernel⟩, List.mem_of_getElem? (i := 1346) (by decide +kernel), List.mem_of_getElem? (i := 1814) (by decide +kernel), List.mem_of_getElem? (i := 1815) (by decide +kernel)⟩
theorem lw_p76 : lw_okq (⟨"LeapDesignerModel", "farOf", "(I)J"⟩, 26) := ⟨⟨by decide +kernel, by decide +kernel⟩, List.mem_of_getElem? (i := 1346) (by decide +kernel), List.mem_of_getElem? (i := 1835) (by decide +kernel), List.mem_of_getElem? (i := 1836) (by decide +kernel)⟩
theorem lw_p77 : lw_okq (⟨"LeapDesignerModel", "laysGaps", "(I)V"⟩, 26) := ⟨⟨by decide +kernel, by decide +kernel⟩, List.mem_of_getElem? (i := 1346) (by decide +kernel), List.mem_of_getElem? (i := 1851) (by decide +kernel), List.mem_of_getElem? (i := 1852) (by decide +kernel)⟩
theorem lw_p78 : lw_okq (⟨"LeapDesignerModel", "meetsGap", "(I)V"⟩, 26) := ⟨⟨by decide +kernel, by decide +kernel⟩, List.mem_of_getElem? (i := 1346) (by decide +kernel), List.mem_of_getElem? (i := 1855) (by decide +kernel), List.mem_of_getElem? (i := 1856) (by decide +kernel)⟩
theorem lw_p79 : lw_okq (⟨"LeapDesignerModel", "isDayOfMonth", "(III)Z"⟩, 26) := ⟨⟨by decide +kernel, by decide +kernel⟩, List.mem_of_getElem? (i := 1346) (by decide +kernel), List.mem_of_getElem? (i := 1874) (by decide +kernel), List.mem_of_getElem? (i := 1875) (by decide +kernel)⟩
def lw_privs_5 : List (MethodName × Nat) := [(⟨"LeapDesignerModel", "isLeap", "(IJ)Z"⟩, 26), (⟨"LeapDesignerModel", "daysOf", "(IJ)I"⟩, 26), (⟨"LeapDesignerModel", "isDay", "(IJ)Z"⟩, 26), (⟨"LeapDesignerModel", "dateOf", "(IJI)J"⟩, 26), (⟨"LeapDesignerModel", "yearOf", "(IJ)J"⟩, 26), (⟨"LeapDesignerModel", "weekdayOf", "(IJ)I"⟩, 26), (⟨"LeapDesignerModel", "isDate", "(IJII)Z"⟩, 26), (⟨"LeapDesignerModel", "numberOf", "(IJII)J"⟩, 26), (⟨"LeapDesignerModel", "aheadOf", "(IJI)I"⟩, 26), (⟨"LeapDesignerModel", "driftOf", "(IJ)J"⟩, 26), (⟨"LeapDesignerModel", "belowOf", "(I)J"⟩, 26), (⟨"LeapDesignerModel", "dawnOf", "(IJ)J"⟩, 26), (⟨"LeapDesignerModel", "farOf", "(I)J"⟩, 26), (⟨"LeapDesignerModel", "laysGaps", "(I)V"⟩, 26), (⟨"LeapDesignerModel", "meetsGap", "(I)V"⟩, 26), (⟨"LeapDesignerModel", "isDayOfMonth", "(III)Z"⟩, 26)]
theorem lw_r5 : ∀ q ∈ lw_privs_5, lw_okq q := List.forall_mem_cons.mpr ⟨lw_p64, List.forall_mem_cons.mpr ⟨lw_p65, List.forall_mem_cons.mpr ⟨lw_p66, List.forall_mem_cons.mpr ⟨lw_p67, List.forall_mem_cons.mpr ⟨lw_p68, List.forall_mem_cons.mpr ⟨lw_p69, List.forall_mem_cons.mpr ⟨lw_p70, List.forall_mem_cons.mpr ⟨lw_p71, List.forall_mem_cons.mpr ⟨lw_p72, List.forall_mem_cons.mpr ⟨lw_p73, List.forall_mem_cons.mpr ⟨lw_p74, List.forall_mem_cons.mpr ⟨lw_p75, List.forall_mem_cons.mpr ⟨lw_p76, List.forall_mem_cons.mpr ⟨lw_p77, List.forall_mem_cons.mpr ⟨lw_p78, List.forall_mem_cons.mpr ⟨lw_p79, fun _ h => absurd h List.not_mem_nil⟩⟩⟩⟩⟩⟩⟩⟩⟩⟩⟩⟩⟩⟩⟩⟩
theorem lw_p80 : lw_okq (⟨"LeapDesignerModel", "isWeekday", "(II)Z"⟩, 26) := ⟨⟨by decide +kernel, by decide +kernel⟩, List.mem_of_getElem? (i := 1346) (by decide +kernel), List.mem_of_getElem? (i := 1878) (by decide +kernel), List.mem_of_getElem? (i := 1879) (by decide +kernel)⟩
theorem lw_p81 : lw_okq (⟨"LeapDesignerModel", "fallsOf", "(IIIIII)I"⟩, 26) := ⟨⟨by decide +kernel, by decide +kernel⟩, List.mem_of_getElem? (i := 1346) (by decide +kernel), List.mem_of_getElem? (i := 1882) (by decide +kernel), List.mem_of_getElem? (i := 1883) (by decide +kernel)⟩
theorem lw_p82 : lw_okq (⟨"LeapDesignerModel", "isAhead", "(III)Z"⟩, 26) := ⟨⟨by decide +kernel, by decide +kernel⟩, List.mem_of_getElem? (i := 1346) (by decide +kernel), List.mem_of_getElem? (i := 1943) (by decide +kernel), List.mem_of_getElem? (i := 1944) (by decide +kernel)⟩
theorem lw_p83 : lw_okq (⟨"LeapDesignerModel", "isBehind", "(III)Z"⟩, 26) := ⟨⟨by decide +kernel, by decide +kernel⟩, List.mem_of_getElem? (i := 1346) (by decide +kernel), List.mem_of_getElem? (i := 1947) (by decide +kernel), List.mem_of_getElem? (i := 1948) (by decide +kernel)⟩
theorem lw_p84 : lw_okq (⟨"LeapDesignerModel", "firstOf", "(III)J"⟩, 26) := ⟨⟨by decide +kernel, by decide +kernel⟩, List.mem_of_getElem? (i := 1346) (by decide +kernel), List.mem_of_getElem? (i := 1955) (by decide +kernel), List.mem_of_getElem? (i := 1956) (by decide +kernel)⟩
theorem lw_p85 : lw_okq (⟨"LeapDesignerModel", "areLike", "(III)Z"⟩, 26) := ⟨⟨by decide +kernel, by decide +kernel⟩, List.mem_of_getElem? (i := 1346) (by decide +kernel), List.mem_of_getElem? (i := 1963) (by decide +kernel), List.mem_of_getElem? (i := 1964) (by decide +kernel)⟩
theorem lw_p86 : lw_okq (⟨"LeapDesignerModel", "laysBest", "(JJI)V"⟩, 26) := ⟨⟨by decide +kernel, by decide +kernel⟩, List.mem_of_getElem? (i := 1346) (by decide +kernel), List.mem_of_getElem? (i := 1983) (by decide +kernel), List.mem_of_getElem? (i := 1984) (by decide +kernel)⟩
theorem lw_p87 : lw_okq (⟨"LeapDesignerModel", "works", "(JJI)I"⟩, 26) := ⟨⟨by decide +kernel, by decide +kernel⟩, List.mem_of_getElem? (i := 1346) (by decide +kernel), List.mem_of_getElem? (i := 1991) (by decide +kernel), List.mem_of_getElem? (i := 1992) (by decide +kernel)⟩
def lw_privs_6 : List (MethodName × Nat) := [(⟨"LeapDesignerModel", "isWeekday", "(II)Z"⟩, 26), (⟨"LeapDesignerModel", "fallsOf", "(IIIIII)I"⟩, 26), (⟨"LeapDesignerModel", "isAhead", "(III)Z"⟩, 26), (⟨"LeapDesignerModel", "isBehind", "(III)Z"⟩, 26), (⟨"LeapDesignerModel", "firstOf", "(III)J"⟩, 26), (⟨"LeapDesignerModel", "areLike", "(III)Z"⟩, 26), (⟨"LeapDesignerModel", "laysBest", "(JJI)V"⟩, 26), (⟨"LeapDesignerModel", "works", "(JJI)I"⟩, 26)]
theorem lw_r6 : ∀ q ∈ lw_privs_6, lw_okq q := List.forall_mem_cons.mpr ⟨lw_p80, List.forall_mem_cons.mpr ⟨lw_p81, List.forall_mem_cons.mpr ⟨lw_p82, List.forall_mem_cons.mpr ⟨lw_p83, List.forall_mem_cons.mpr ⟨lw_p84, List.forall_mem_cons.mpr ⟨lw_p85, List.forall_mem_cons.mpr ⟨lw_p86, List.forall_mem_cons.mpr ⟨lw_p87, fun _ h => absurd h List.not_mem_nil⟩⟩⟩⟩⟩⟩⟩⟩
def lw_privs : List (MethodName × Nat) := lw_privs_1 ++ (lw_privs_2 ++ (lw_privs_3 ++ (lw_privs_4 ++ (lw_privs_5 ++ (lw_privs_6)))))
def lw_tbl : List Cond := k2_sels lw_privs ++ tables_1
theorem lw_privs_ok : ∀ q ∈ lw_privs, lw_okq q := by
  show ∀ q ∈ lw_privs_1 ++ (lw_privs_2 ++ (lw_privs_3 ++ (lw_privs_4 ++ (lw_privs_5 ++ (lw_privs_6))))), lw_okq q
  exact List.forall_mem_append.mpr ⟨lw_r1, List.forall_mem_append.mpr ⟨lw_r2, List.forall_mem_append.mpr ⟨lw_r3, List.forall_mem_append.mpr ⟨lw_r4, List.forall_mem_append.mpr ⟨lw_r5, lw_r6⟩⟩⟩⟩⟩
def RX0 : String := "LeapDesigner$Design"
def TX0 : u_T := fun k => match k with
  | 0 => ("LeapDesigner$Design", "frame", "LLeapDesigner$Frame;", true)
  | 1 => ("LeapDesigner$Design", "law", "LLeapDesigner$Law;", true)
  | _ => ("LeapDesigner$Design", "trueYear", "LLeapDesigner$TrueYear;", true)
def tyX0 : Nat → FieldType := fun k => match k with
  | 0 => .object "LeapDesigner$Frame"
  | 1 => .object "LeapDesigner$Law"
  | _ => .object "LeapDesigner$TrueYear"
theorem nmX0 : ∀ a, a < 3 → ∀ b, b < 3 → a ≠ b → (TX0 a).2.1 ≠ (TX0 b).2.1 := by decide +kernel
theorem tyX0_ok : ∀ k, k < 3 → parseFieldDescriptor (TX0 k).2.2.1 = some (tyX0 k) := by decide +kernel
abbrev cX0_init : ByteArray := prog_2_method_1_code
def yX0_init : MethodName := ⟨RX0, "<init>", "(LLeapDesigner$Frame;LLeapDesigner$Law;LLeapDesigner$TrueYear;)V"⟩
abbrev cX0_withLaw : ByteArray := prog_2_method_2_code
def yX0_withLaw : MethodName := ⟨RX0, "withLaw", "(LLeapDesigner$Law;)LLeapDesigner$Design;"⟩
abbrev cX0_withTrueYear : ByteArray := prog_2_method_3_code
def yX0_withTrueYear : MethodName := ⟨RX0, "withTrueYear", "(LLeapDesigner$TrueYear;)LLeapDesigner$Design;"⟩
abbrev cX0_tell : ByteArray := prog_2_method_4_code
def yX0_tell : MethodName := ⟨RX0, "tell", "(Ljava/lang/StringBuilder;)V"⟩
abbrev cX0_meanYear : ByteArray := prog_2_method_5_code
def yX0_meanYear : MethodName := ⟨RX0, "meanYear", "()LLeapDesigner$Fraction;"⟩
abbrev cX0_aboveYear : ByteArray := prog_2_method_6_code
def yX0_aboveYear : MethodName := ⟨RX0, "aboveYear", "()J"⟩
abbrev cX0_daysOf : ByteArray := prog_2_method_7_code
def yX0_daysOf : MethodName := ⟨RX0, "daysOf", "(I)I"⟩
abbrev cX0_startOf : ByteArray := prog_2_method_8_code
def yX0_startOf : MethodName := ⟨RX0, "startOf", "(I)J"⟩
abbrev cX0_holds : ByteArray := prog_2_method_9_code
def yX0_holds : MethodName := ⟨RX0, "holds", "(J)Z"⟩
abbrev cX0_yearOf : ByteArray := prog_2_method_10_code
def yX0_yearOf : MethodName := ⟨RX0, "yearOf", "(J)I"⟩
abbrev cX0_numberOf : ByteArray := prog_2_method_11_code
def yX0_numberOf : MethodName := ⟨RX0, "numberOf", "(III)J"⟩
abbrev cX0_tellDate : ByteArray := prog_2_method_12_code
def yX0_tellDate : MethodName := ⟨RX0, "tellDate", "(JI)J"⟩
abbrev cX0_slipUnits : ByteArray := prog_2_method_13_code
def yX0_slipUnits : MethodName := ⟨RX0, "slipUnits", "(I)J"⟩
abbrev cX0_driftUnits : ByteArray := prog_2_method_14_code
def yX0_driftUnits : MethodName := ⟨RX0, "driftUnits", "(I)J"⟩
abbrev cX0_driftOf : ByteArray := prog_2_method_15_code
def yX0_driftOf : MethodName := ⟨RX0, "driftOf", "(I)LLeapDesigner$Fraction;"⟩
abbrev cX0_driftStep : ByteArray := prog_2_method_16_code
def yX0_driftStep : MethodName := ⟨RX0, "driftStep", "(Z)J"⟩
abbrev cX0_extremeYear : ByteArray := prog_2_method_17_code
def yX0_extremeYear : MethodName := ⟨RX0, "extremeYear", "(IIZ)I"⟩
abbrev cX0_passingYear : ByteArray := prog_2_method_18_code
def yX0_passingYear : MethodName := ⟨RX0, "passingYear", "(I)I"⟩
abbrev cX0_tellSteady : ByteArray := prog_2_method_19_code
def yX0_tellSteady : MethodName := ⟨RX0, "tellSteady", "(IIII)J"⟩
abbrev cX0_dawnOf : ByteArray := prog_2_method_20_code
def yX0_dawnOf : MethodName := ⟨RX0, "dawnOf", "(I)J"⟩
abbrev cX0_tellDawns : ByteArray := prog_2_method_21_code
def yX0_tellDawns : MethodName := ⟨RX0, "tellDawns", "(III)I"⟩
abbrev cX0_timesOnWeekday : ByteArray := prog_2_method_22_code
def yX0_timesOnWeekday : MethodName := ⟨RX0, "timesOnWeekday", "(IIIII)I"⟩
def RX1 : String := "LeapDesigner$EvenLaw"
def TX1 : u_T := fun k => match k with
  | 0 => ("LeapDesigner$EvenLaw", "k", "I", true)
  | 1 => ("LeapDesigner$EvenLaw", "n", "I", true)
  | _ => ("LeapDesigner$EvenLaw", "s", "I", true)
def tyX1 : Nat → FieldType := fun k => match k with
  | 0 => .int
  | 1 => .int
  | _ => .int
theorem nmX1 : ∀ a, a < 3 → ∀ b, b < 3 → a ≠ b → (TX1 a).2.1 ≠ (TX1 b).2.1 := by decide +kernel
theorem tyX1_ok : ∀ k, k < 3 → parseFieldDescriptor (TX1 k).2.2.1 = some (tyX1 k) := by decide +kernel
abbrev cX1_init : ByteArray := prog_3_method_1_code
def yX1_init : MethodName := ⟨RX1, "<init>", "(III)V"⟩
abbrev cX1_sort : ByteArray := prog_3_method_2_code
def yX1_sort : MethodName := ⟨RX1, "sort", "()I"⟩
abbrev cX1_cycle : ByteArray := prog_3_method_3_code
def yX1_cycle : MethodName := ⟨RX1, "cycle", "()I"⟩
abbrev cX1_isLeap : ByteArray := prog_3_method_4_code
def yX1_isLeap : MethodName := ⟨RX1, "isLeap", "(I)Z"⟩
abbrev cX1_leapsBefore : ByteArray := prog_3_method_5_code
def yX1_leapsBefore : MethodName := ⟨RX1, "leapsBefore", "(I)I"⟩
abbrev cX1_tell : ByteArray := prog_3_method_6_code
def yX1_tell : MethodName := ⟨RX1, "tell", "(Ljava/lang/StringBuilder;)V"⟩
def RX2 : String := "LeapDesigner$Fraction"
def TX2 : u_T := fun k => match k with
  | 0 => ("LeapDesigner$Fraction", "above", "J", true)
  | _ => ("LeapDesigner$Fraction", "below", "J", true)
def tyX2 : Nat → FieldType := fun k => match k with
  | 0 => .long
  | _ => .long
theorem nmX2 : ∀ a, a < 2 → ∀ b, b < 2 → a ≠ b → (TX2 a).2.1 ≠ (TX2 b).2.1 := by decide +kernel
theorem tyX2_ok : ∀ k, k < 2 → parseFieldDescriptor (TX2 k).2.2.1 = some (tyX2 k) := by decide +kernel
abbrev cX2_init : ByteArray := prog_4_method_1_code
def yX2_init : MethodName := ⟨RX2, "<init>", "(JJ)V"⟩
abbrev cX2_tellPart : ByteArray := prog_4_method_2_code
def yX2_tellPart : MethodName := ⟨RX2, "tellPart", "(I)J"⟩
abbrev cX2_commonDivisor : ByteArray := prog_4_method_3_code
def yX2_commonDivisor : MethodName := ⟨RX2, "commonDivisor", "(JJ)J"⟩
abbrev cX2_leastTerms : ByteArray := prog_4_method_4_code
def yX2_leastTerms : MethodName := ⟨RX2, "leastTerms", "(JJ)LLeapDesigner$Fraction;"⟩
abbrev cX2_tellTerm : ByteArray := prog_4_method_5_code
def yX2_tellTerm : MethodName := ⟨RX2, "tellTerm", "(JJI)J"⟩
abbrev cX2_ofTerms : ByteArray := prog_4_method_6_code
def yX2_ofTerms : MethodName := ⟨RX2, "ofTerms", "(JJI)LLeapDesigner$Fraction;"⟩
abbrev cX2_nearest : ByteArray := prog_4_method_7_code
def yX2_nearest : MethodName := ⟨RX2, "nearest", "(JJJ)LLeapDesigner$Fraction;"⟩
abbrev cX2_plusTimes : ByteArray := prog_4_method_8_code
def yX2_plusTimes : MethodName := ⟨RX2, "plusTimes", "(LLeapDesigner$Fraction;J)LLeapDesigner$Fraction;"⟩
abbrev cX2_isNearer : ByteArray := prog_4_method_9_code
def yX2_isNearer : MethodName := ⟨RX2, "isNearer", "(LLeapDesigner$Fraction;JJ)Z"⟩
def RX3 : String := "LeapDesigner$Frame"
def TX3 : u_T := fun k => match k with
  | 0 => ("LeapDesigner$Frame", "year", "I", true)
  | 1 => ("LeapDesigner$Frame", "extra", "I", true)
  | 2 => ("LeapDesigner$Frame", "months", "[I", true)
  | 3 => ("LeapDesigner$Frame", "leapMonth", "I", true)
  | 4 => ("LeapDesigner$Frame", "week", "I", true)
  | _ => ("LeapDesigner$Frame", "firstWeekday", "I", true)
def tyX3 : Nat → FieldType := fun k => match k with
  | 0 => .int
  | 1 => .int
  | 2 => .array .int
  | 3 => .int
  | 4 => .int
  | _ => .int
theorem nmX3 : ∀ a, a < 6 → ∀ b, b < 6 → a ≠ b → (TX3 a).2.1 ≠ (TX3 b).2.1 := by decide +kernel
theorem tyX3_ok : ∀ k, k < 6 → parseFieldDescriptor (TX3 k).2.2.1 = some (tyX3 k) := by decide +kernel
abbrev cX3_init : ByteArray := prog_5_method_1_code
def yX3_init : MethodName := ⟨RX3, "<init>", "(II[IIII)V"⟩
abbrev cX3_yearDays : ByteArray := prog_5_method_2_code
def yX3_yearDays : MethodName := ⟨RX3, "yearDays", "(Z)I"⟩
abbrev cX3_hasMonth : ByteArray := prog_5_method_3_code
def yX3_hasMonth : MethodName := ⟨RX3, "hasMonth", "(I)Z"⟩
abbrev cX3_monthDays : ByteArray := prog_5_method_4_code
def yX3_monthDays : MethodName := ⟨RX3, "monthDays", "(IZ)I"⟩
abbrev cX3_monthOffset : ByteArray := prog_5_method_5_code
def yX3_monthOffset : MethodName := ⟨RX3, "monthOffset", "(IZ)I"⟩
abbrev cX3_monthOf : ByteArray := prog_5_method_6_code
def yX3_monthOf : MethodName := ⟨RX3, "monthOf", "(IZ)I"⟩
abbrev cX3_hasLongestDay : ByteArray := prog_5_method_7_code
def yX3_hasLongestDay : MethodName := ⟨RX3, "hasLongestDay", "(II)Z"⟩
abbrev cX3_hasWeekday : ByteArray := prog_5_method_8_code
def yX3_hasWeekday : MethodName := ⟨RX3, "hasWeekday", "(I)Z"⟩
abbrev cX3_weekdayOf : ByteArray := prog_5_method_9_code
def yX3_weekdayOf : MethodName := ⟨RX3, "weekdayOf", "(J)I"⟩
abbrev cX3_tellYear : ByteArray := prog_5_method_10_code
def yX3_tellYear : MethodName := ⟨RX3, "tellYear", "(Ljava/lang/StringBuilder;)V"⟩
abbrev cX3_tellMonthsAndWeek : ByteArray := prog_5_method_11_code
def yX3_tellMonthsAndWeek : MethodName := ⟨RX3, "tellMonthsAndWeek", "(Ljava/lang/StringBuilder;)V"⟩
def RX4 : String := "LeapDesigner$Joint"
def TX4 : u_T := fun k => match k with
  | 0 => ("LeapDesigner$Joint", "first", "LLeapDesigner$Design;", true)
  | 1 => ("LeapDesigner$Joint", "second", "LLeapDesigner$Design;", true)
  | 2 => ("LeapDesigner$Joint", "seam", "J", true)
  | _ => ("LeapDesigner$Joint", "ahead", "J", true)
def tyX4 : Nat → FieldType := fun k => match k with
  | 0 => .object "LeapDesigner$Design"
  | 1 => .object "LeapDesigner$Design"
  | 2 => .long
  | _ => .long
theorem nmX4 : ∀ a, a < 4 → ∀ b, b < 4 → a ≠ b → (TX4 a).2.1 ≠ (TX4 b).2.1 := by decide +kernel
theorem tyX4_ok : ∀ k, k < 4 → parseFieldDescriptor (TX4 k).2.2.1 = some (tyX4 k) := by decide +kernel
abbrev cX4_init : ByteArray := prog_6_method_1_code
def yX4_init : MethodName := ⟨RX4, "<init>", "(LLeapDesigner$Design;LLeapDesigner$Design;JJ)V"⟩
abbrev cX4_tellDate : ByteArray := prog_6_method_2_code
def yX4_tellDate : MethodName := ⟨RX4, "tellDate", "(JI)J"⟩
abbrev cX4_earlyDay : ByteArray := prog_6_method_3_code
def yX4_earlyDay : MethodName := ⟨RX4, "earlyDay", "(III)J"⟩
abbrev cX4_lateDay : ByteArray := prog_6_method_4_code
def yX4_lateDay : MethodName := ⟨RX4, "lateDay", "(III)J"⟩
abbrev cX4_firstDay : ByteArray := prog_6_method_5_code
def yX4_firstDay : MethodName := ⟨RX4, "firstDay", "(III)J"⟩
def RX5 : String := "LeapDesigner$LadderLaw"
def TX5 : u_T := fun k => match k with
  | _ => ("LeapDesigner$LadderLaw", "steps", "[I", true)
def tyX5 : Nat → FieldType := fun k => match k with
  | _ => .array .int
theorem nmX5 : ∀ a, a < 1 → ∀ b, b < 1 → a ≠ b → (TX5 a).2.1 ≠ (TX5 b).2.1 := by decide +kernel
theorem tyX5_ok : ∀ k, k < 1 → parseFieldDescriptor (TX5 k).2.2.1 = some (tyX5 k) := by decide +kernel
abbrev cX5_init : ByteArray := prog_7_method_1_code
def yX5_init : MethodName := ⟨RX5, "<init>", "([I)V"⟩
abbrev cX5_sort : ByteArray := prog_7_method_2_code
def yX5_sort : MethodName := ⟨RX5, "sort", "()I"⟩
abbrev cX5_cycle : ByteArray := prog_7_method_3_code
def yX5_cycle : MethodName := ⟨RX5, "cycle", "()I"⟩
abbrev cX5_isLeap : ByteArray := prog_7_method_4_code
def yX5_isLeap : MethodName := ⟨RX5, "isLeap", "(I)Z"⟩
abbrev cX5_leapsBefore : ByteArray := prog_7_method_5_code
def yX5_leapsBefore : MethodName := ⟨RX5, "leapsBefore", "(I)I"⟩
abbrev cX5_tell : ByteArray := prog_7_method_6_code
def yX5_tell : MethodName := ⟨RX5, "tell", "(Ljava/lang/StringBuilder;)V"⟩
def RX6 : String := "LeapDesigner$Law"
def TX6 : u_T := fun k => match k with
  | _ => ("", "", "", false)
def tyX6 : Nat → FieldType := fun k => match k with
  | _ => .int
theorem nmX6 : ∀ a, a < 0 → ∀ b, b < 0 → a ≠ b → (TX6 a).2.1 ≠ (TX6 b).2.1 := by decide +kernel
theorem tyX6_ok : ∀ k, k < 0 → parseFieldDescriptor (TX6 k).2.2.1 = some (tyX6 k) := by decide +kernel
abbrev cX6_init : ByteArray := prog_8_method_1_code
def yX6_init : MethodName := ⟨RX6, "<init>", "()V"⟩
abbrev cX6_sort : ByteArray := prog_8_method_2_code
def yX6_sort : MethodName := ⟨RX6, "sort", "()I"⟩
abbrev cX6_cycle : ByteArray := prog_8_method_3_code
def yX6_cycle : MethodName := ⟨RX6, "cycle", "()I"⟩
abbrev cX6_isLeap : ByteArray := prog_8_method_4_code
def yX6_isLeap : MethodName := ⟨RX6, "isLeap", "(I)Z"⟩
abbrev cX6_leapsBefore : ByteArray := prog_8_method_5_code
def yX6_leapsBefore : MethodName := ⟨RX6, "leapsBefore", "(I)I"⟩
abbrev cX6_tell : ByteArray := prog_8_method_6_code
def yX6_tell : MethodName := ⟨RX6, "tell", "(Ljava/lang/StringBuilder;)V"⟩
abbrev cX6_leapsInCycle : ByteArray := prog_8_method_7_code
def yX6_leapsInCycle : MethodName := ⟨RX6, "leapsInCycle", "()I"⟩
def RX7 : String := "LeapDesigner$Reader"
def TX7 : u_T := fun k => match k with
  | 0 => ("LeapDesigner$Reader", "scanner", "LLeapDesigner$Scanner;", true)
  | 1 => ("LeapDesigner$Reader", "told", "I", false)
  | 2 => ("LeapDesigner$Reader", "year", "I", false)
  | 3 => ("LeapDesigner$Reader", "extra", "I", false)
  | 4 => ("LeapDesigner$Reader", "law", "LLeapDesigner$Law;", false)
  | 5 => ("LeapDesigner$Reader", "months", "[I", false)
  | 6 => ("LeapDesigner$Reader", "leapMonth", "I", false)
  | 7 => ("LeapDesigner$Reader", "week", "I", false)
  | 8 => ("LeapDesigner$Reader", "firstWeekday", "I", false)
  | 9 => ("LeapDesigner$Reader", "trueYear", "LLeapDesigner$TrueYear;", false)
  | 10 => ("LeapDesigner$Reader", "above", "I", false)
  | _ => ("LeapDesigner$Reader", "below", "I", false)
def tyX7 : Nat → FieldType := fun k => match k with
  | 0 => .object "LeapDesigner$Scanner"
  | 1 => .int
  | 2 => .int
  | 3 => .int
  | 4 => .object "LeapDesigner$Law"
  | 5 => .array .int
  | 6 => .int
  | 7 => .int
  | 8 => .int
  | 9 => .object "LeapDesigner$TrueYear"
  | 10 => .int
  | _ => .int
theorem nmX7 : ∀ a, a < 12 → ∀ b, b < 12 → a ≠ b → (TX7 a).2.1 ≠ (TX7 b).2.1 := by decide +kernel
theorem tyX7_ok : ∀ k, k < 12 → parseFieldDescriptor (TX7 k).2.2.1 = some (tyX7 k) := by decide +kernel
abbrev cX7_init : ByteArray := prog_9_method_1_code
def yX7_init : MethodName := ⟨RX7, "<init>", "(LLeapDesigner$Scanner;)V"⟩
abbrev cX7_readDesign : ByteArray := prog_9_method_2_code
def yX7_readDesign : MethodName := ⟨RX7, "readDesign", "()LLeapDesigner$Design;"⟩
abbrev cX7_sumOfMonths : ByteArray := prog_9_method_3_code
def yX7_sumOfMonths : MethodName := ⟨RX7, "sumOfMonths", "()I"⟩
abbrev cX7_readStatement : ByteArray := prog_9_method_4_code
def yX7_readStatement : MethodName := ⟨RX7, "readStatement", "()V"⟩
abbrev cX7_opens : ByteArray := prog_9_method_5_code
def yX7_opens : MethodName := ⟨RX7, "opens", "(Ljava/lang/String;I)Z"⟩
abbrev cX7_readShare : ByteArray := prog_9_method_6_code
def yX7_readShare : MethodName := ⟨RX7, "readShare", "(II)V"⟩
abbrev cX7_readShift : ByteArray := prog_9_method_7_code
def yX7_readShift : MethodName := ⟨RX7, "readShift", "()I"⟩
abbrev cX7_readLadder : ByteArray := prog_9_method_8_code
def yX7_readLadder : MethodName := ⟨RX7, "readLadder", "()V"⟩
abbrev cX7_isMultiple : ByteArray := prog_9_method_9_code
def yX7_isMultiple : MethodName := ⟨RX7, "isMultiple", "(II)Z"⟩
abbrev cX7_firstOf : ByteArray := prog_9_method_10_code
def yX7_firstOf : MethodName := ⟨RX7, "firstOf", "([II)[I"⟩
abbrev cX7_readRow : ByteArray := prog_9_method_11_code
def yX7_readRow : MethodName := ⟨RX7, "readRow", "()V"⟩
abbrev cX7_readMonths : ByteArray := prog_9_method_12_code
def yX7_readMonths : MethodName := ⟨RX7, "readMonths", "()V"⟩
abbrev cX7_readWeek : ByteArray := prog_9_method_13_code
def yX7_readWeek : MethodName := ⟨RX7, "readWeek", "()V"⟩
def RX8 : String := "LeapDesigner$RowLaw"
def TX8 : u_T := fun k => match k with
  | 0 => ("LeapDesigner$RowLaw", "before", "[I", true)
  | _ => ("LeapDesigner$RowLaw", "n", "I", true)
def tyX8 : Nat → FieldType := fun k => match k with
  | 0 => .array .int
  | _ => .int
theorem nmX8 : ∀ a, a < 2 → ∀ b, b < 2 → a ≠ b → (TX8 a).2.1 ≠ (TX8 b).2.1 := by decide +kernel
theorem tyX8_ok : ∀ k, k < 2 → parseFieldDescriptor (TX8 k).2.2.1 = some (tyX8 k) := by decide +kernel
abbrev cX8_init : ByteArray := prog_10_method_1_code
def yX8_init : MethodName := ⟨RX8, "<init>", "([I)V"⟩
abbrev cX8_sort : ByteArray := prog_10_method_2_code
def yX8_sort : MethodName := ⟨RX8, "sort", "()I"⟩
abbrev cX8_cycle : ByteArray := prog_10_method_3_code
def yX8_cycle : MethodName := ⟨RX8, "cycle", "()I"⟩
abbrev cX8_isLeap : ByteArray := prog_10_method_4_code
def yX8_isLeap : MethodName := ⟨RX8, "isLeap", "(I)Z"⟩
abbrev cX8_leapsBefore : ByteArray := prog_10_method_5_code
def yX8_leapsBefore : MethodName := ⟨RX8, "leapsBefore", "(I)I"⟩
abbrev cX8_tell : ByteArray := prog_10_method_6_code
def yX8_tell : MethodName := ⟨RX8, "tell", "(Ljava/lang/StringBuilder;)V"⟩
def RX9 : String := "LeapDesigner$Scanner"
def TX9 : u_T := fun k => match k with
  | 0 => ("LeapDesigner$Scanner", "length", "I", true)
  | 1 => ("LeapDesigner$Scanner", "kind", "I", false)
  | 2 => ("LeapDesigner$Scanner", "from", "I", false)
  | 3 => ("LeapDesigner$Scanner", "fault", "I", false)
  | 4 => ("LeapDesigner$Scanner", "place", "I", false)
  | 5 => ("LeapDesigner$Scanner", "text", "[B", true)
  | _ => ("LeapDesigner$Scanner", "to", "I", false)
def tyX9 : Nat → FieldType := fun k => match k with
  | 0 => .int
  | 1 => .int
  | 2 => .int
  | 3 => .int
  | 4 => .int
  | 5 => .array .byte
  | _ => .int
theorem nmX9 : ∀ a, a < 7 → ∀ b, b < 7 → a ≠ b → (TX9 a).2.1 ≠ (TX9 b).2.1 := by decide +kernel
theorem tyX9_ok : ∀ k, k < 7 → parseFieldDescriptor (TX9 k).2.2.1 = some (tyX9 k) := by decide +kernel
abbrev cX9_init : ByteArray := prog_11_method_1_code
def yX9_init : MethodName := ⟨RX9, "<init>", "([BI)V"⟩
abbrev cX9_fail : ByteArray := prog_11_method_2_code
def yX9_fail : MethodName := ⟨RX9, "fail", "(II)V"⟩
abbrev cX9_advance : ByteArray := prog_11_method_3_code
def yX9_advance : MethodName := ⟨RX9, "advance", "()V"⟩
abbrev cX9_sortOf : ByteArray := prog_11_method_4_code
def yX9_sortOf : MethodName := ⟨RX9, "sortOf", "(B)I"⟩
abbrev cX9_sees : ByteArray := prog_11_method_5_code
def yX9_sees : MethodName := ⟨RX9, "sees", "(Ljava/lang/String;)Z"⟩
abbrev cX9_takeIf : ByteArray := prog_11_method_6_code
def yX9_takeIf : MethodName := ⟨RX9, "takeIf", "(Z)V"⟩
abbrev cX9_takeNumber : ByteArray := prog_11_method_7_code
def yX9_takeNumber : MethodName := ⟨RX9, "takeNumber", "(II)I"⟩
def RX10 : String := "LeapDesigner$TrueYear"
def TX10 : u_T := fun k => match k with
  | 0 => ("LeapDesigner$TrueYear", "days", "I", true)
  | 1 => ("LeapDesigner$TrueYear", "p", "I", true)
  | 2 => ("LeapDesigner$TrueYear", "q", "I", true)
  | 3 => ("LeapDesigner$TrueYear", "beginP", "I", true)
  | _ => ("LeapDesigner$TrueYear", "beginQ", "I", true)
def tyX10 : Nat → FieldType := fun k => match k with
  | 0 => .int
  | 1 => .int
  | 2 => .int
  | 3 => .int
  | _ => .int
theorem nmX10 : ∀ a, a < 5 → ∀ b, b < 5 → a ≠ b → (TX10 a).2.1 ≠ (TX10 b).2.1 := by decide +kernel
theorem tyX10_ok : ∀ k, k < 5 → parseFieldDescriptor (TX10 k).2.2.1 = some (tyX10 k) := by decide +kernel
abbrev cX10_init : ByteArray := prog_12_method_1_code
def yX10_init : MethodName := ⟨RX10, "<init>", "(IIIII)V"⟩
abbrev cX10_withLength : ByteArray := prog_12_method_2_code
def yX10_withLength : MethodName := ⟨RX10, "withLength", "(III)LLeapDesigner$TrueYear;"⟩
abbrev cX10_withBegin : ByteArray := prog_12_method_3_code
def yX10_withBegin : MethodName := ⟨RX10, "withBegin", "(II)LLeapDesigner$TrueYear;"⟩
abbrev cX10_length : ByteArray := prog_12_method_4_code
def yX10_length : MethodName := ⟨RX10, "length", "()LLeapDesigner$Fraction;"⟩
abbrev cX10_unitsOfDay : ByteArray := prog_12_method_5_code
def yX10_unitsOfDay : MethodName := ⟨RX10, "unitsOfDay", "()J"⟩
abbrev cX10_unitsOfYear : ByteArray := prog_12_method_6_code
def yX10_unitsOfYear : MethodName := ⟨RX10, "unitsOfYear", "()J"⟩
abbrev cX10_beginUnits : ByteArray := prog_12_method_7_code
def yX10_beginUnits : MethodName := ⟨RX10, "beginUnits", "()J"⟩
abbrev cX10_tell : ByteArray := prog_12_method_8_code
def yX10_tell : MethodName := ⟨RX10, "tell", "(Ljava/lang/StringBuilder;)V"⟩
def RX11 : String := "LeapDesigner"
def TX11 : u_T := fun k => match k with
  | 0 => ("LeapDesigner", "tape", "[B", true)
  | 1 => ("LeapDesigner", "tapeLength", "I", false)
  | 2 => ("LeapDesigner", "latestFault", "I", false)
  | 3 => ("LeapDesigner", "latestPlace", "I", false)
  | 4 => ("LeapDesigner", "designs", "[LLeapDesigner$Design;", true)
  | 5 => ("LeapDesigner", "changedSlots", "[I", true)
  | 6 => ("LeapDesigner", "changedFrom", "[LLeapDesigner$Design;", true)
  | 7 => ("LeapDesigner", "changesEnd", "I", false)
  | 8 => ("LeapDesigner", "changes", "I", false)
  | 9 => ("LeapDesigner", "written", "Ljava/lang/StringBuilder;", true)
  | 10 => ("LeapDesigner", "joint", "LLeapDesigner$Joint;", false)
  | 11 => ("LeapDesigner", "borders", "[I", false)
  | 12 => ("LeapDesigner", "highs", "[J", false)
  | _ => ("LeapDesigner", "lows", "[J", false)
def tyX11 : Nat → FieldType := fun k => match k with
  | 0 => .array .byte
  | 1 => .int
  | 2 => .int
  | 3 => .int
  | 4 => .array (.object "LeapDesigner$Design")
  | 5 => .array .int
  | 6 => .array (.object "LeapDesigner$Design")
  | 7 => .int
  | 8 => .int
  | 9 => .object "java/lang/StringBuilder"
  | 10 => .object "LeapDesigner$Joint"
  | 11 => .array .int
  | 12 => .array .long
  | _ => .array .long
theorem nmX11 : ∀ a, a < 14 → ∀ b, b < 14 → a ≠ b → (TX11 a).2.1 ≠ (TX11 b).2.1 := by decide +kernel
theorem tyX11_ok : ∀ k, k < 14 → parseFieldDescriptor (TX11 k).2.2.1 = some (tyX11 k) := by decide +kernel
abbrev cX11_init : ByteArray := prog_1_method_1_code
def yX11_init : MethodName := ⟨RX11, "<init>", "()V"⟩
abbrev cX11_feed : ByteArray := prog_1_method_2_code
def yX11_feed : MethodName := ⟨RX11, "feed", "(IIIII)I"⟩
abbrev cX11_putFourBytes : ByteArray := prog_1_method_3_code
def yX11_putFourBytes : MethodName := ⟨RX11, "putFourBytes", "(I)V"⟩
abbrev cX11_end : ByteArray := prog_1_method_4_code
def yX11_end : MethodName := ⟨RX11, "end", "(I)Z"⟩
abbrev cX11_design : ByteArray := prog_1_method_5_code
def yX11_design : MethodName := ⟨RX11, "design", "(I)I"⟩
abbrev cX11_fault : ByteArray := prog_1_method_6_code
def yX11_fault : MethodName := ⟨RX11, "fault", "(I)I"⟩
abbrev cX11_has : ByteArray := prog_1_method_7_code
def yX11_has : MethodName := ⟨RX11, "has", "(II)I"⟩
abbrev cX11_evenNumber : ByteArray := prog_1_method_8_code
def yX11_evenNumber : MethodName := ⟨RX11, "evenNumber", "(LLeapDesigner$Law;I)I"⟩
abbrev cX11_count : ByteArray := prog_1_method_9_code
def yX11_count : MethodName := ⟨RX11, "count", "(I)I"⟩
abbrev cX11_designsThere : ByteArray := prog_1_method_10_code
def yX11_designsThere : MethodName := ⟨RX11, "designsThere", "()I"⟩
abbrev cX11_month : ByteArray := prog_1_method_11_code
def yX11_month : MethodName := ⟨RX11, "month", "(IIZ)I"⟩
abbrev cX11_mean : ByteArray := prog_1_method_12_code
def yX11_mean : MethodName := ⟨RX11, "mean", "(IZI)J"⟩
abbrev cX11_copy : ByteArray := prog_1_method_13_code
def yX11_copy : MethodName := ⟨RX11, "copy", "(II)I"⟩
abbrev cX11_drop : ByteArray := prog_1_method_14_code
def yX11_drop : MethodName := ⟨RX11, "drop", "(I)I"⟩
abbrev cX11_shift : ByteArray := prog_1_method_15_code
def yX11_shift : MethodName := ⟨RX11, "shift", "(II)I"⟩
abbrev cX11_truth : ByteArray := prog_1_method_16_code
def yX11_truth : MethodName := ⟨RX11, "truth", "(IIII)I"⟩
abbrev cX11_undo : ByteArray := prog_1_method_17_code
def yX11_undo : MethodName := ⟨RX11, "undo", "()I"⟩
abbrev cX11_change : ByteArray := prog_1_method_18_code
def yX11_change : MethodName := ⟨RX11, "change", "(ILLeapDesigner$Design;)V"⟩
abbrev cX11_write : ByteArray := prog_1_method_19_code
def yX11_write : MethodName := ⟨RX11, "write", "(I)I"⟩
abbrev cX11_octet : ByteArray := prog_1_method_20_code
def yX11_octet : MethodName := ⟨RX11, "octet", "(I)I"⟩
abbrev cX11_leap : ByteArray := prog_1_method_21_code
def yX11_leap : MethodName := ⟨RX11, "leap", "(II)I"⟩
abbrev cX11_leaps : ByteArray := prog_1_method_22_code
def yX11_leaps : MethodName := ⟨RX11, "leaps", "(III)I"⟩
abbrev cX11_start : ByteArray := prog_1_method_23_code
def yX11_start : MethodName := ⟨RX11, "start", "(II)J"⟩
abbrev cX11_number : ByteArray := prog_1_method_24_code
def yX11_number : MethodName := ⟨RX11, "number", "(III)J"⟩
abbrev cX11_date : ByteArray := prog_1_method_25_code
def yX11_date : MethodName := ⟨RX11, "date", "(IJI)J"⟩
abbrev cX11_dated : ByteArray := prog_1_method_26_code
def yX11_dated : MethodName := ⟨RX11, "dated", "(IIII)J"⟩
abbrev cX11_later : ByteArray := prog_1_method_27_code
def yX11_later : MethodName := ⟨RX11, "later", "(IIIII)J"⟩
abbrev cX11_taken : ByteArray := prog_1_method_28_code
def yX11_taken : MethodName := ⟨RX11, "taken", "(IJIII)J"⟩
abbrev cX11_drift : ByteArray := prog_1_method_29_code
def yX11_drift : MethodName := ⟨RX11, "drift", "(III)J"⟩
abbrev cX11_extreme : ByteArray := prog_1_method_30_code
def yX11_extreme : MethodName := ⟨RX11, "extreme", "(IIIZI)J"⟩
abbrev cX11_passes : ByteArray := prog_1_method_31_code
def yX11_passes : MethodName := ⟨RX11, "passes", "(II)I"⟩
abbrev cX11_keeps : ByteArray := prog_1_method_32_code
def yX11_keeps : MethodName := ⟨RX11, "keeps", "(I)I"⟩
abbrev cX11_keepingShift : ByteArray := prog_1_method_33_code
def yX11_keepingShift : MethodName := ⟨RX11, "keepingShift", "(LLeapDesigner$Design;II)I"⟩
abbrev cX11_fillHeads : ByteArray := prog_1_method_34_code
def yX11_fillHeads : MethodName := ⟨RX11, "fillHeads", "(LLeapDesigner$Design;I)V"⟩
abbrev cX11_dawns : ByteArray := prog_1_method_35_code
def yX11_dawns : MethodName := ⟨RX11, "dawns", "(IIII)I"⟩
abbrev cX11_steady : ByteArray := prog_1_method_36_code
def yX11_steady : MethodName := ⟨RX11, "steady", "(IIIII)J"⟩
abbrev cX11_gap : ByteArray := prog_1_method_37_code
def yX11_gap : MethodName := ⟨RX11, "gap", "(II)I"⟩
abbrev cX11_tellGap : ByteArray := prog_1_method_38_code
def yX11_tellGap : MethodName := ⟨RX11, "tellGap", "(LLeapDesigner$Law;I)I"⟩
abbrev cX11_firstLeap : ByteArray := prog_1_method_39_code
def yX11_firstLeap : MethodName := ⟨RX11, "firstLeap", "(LLeapDesigner$Law;)I"⟩
abbrev cX11_even : ByteArray := prog_1_method_40_code
def yX11_even : MethodName := ⟨RX11, "even", "(I)I"⟩
abbrev cX11_weeks : ByteArray := prog_1_method_41_code
def yX11_weeks : MethodName := ⟨RX11, "weeks", "(I)I"⟩
abbrev cX11_falls : ByteArray := prog_1_method_42_code
def yX11_falls : MethodName := ⟨RX11, "falls", "(IIIIII)I"⟩
abbrev cX11_nth : ByteArray := prog_1_method_43_code
def yX11_nth : MethodName := ⟨RX11, "nth", "(IIIIIZ)J"⟩
abbrev cX11_next : ByteArray := prog_1_method_44_code
def yX11_next : MethodName := ⟨RX11, "next", "(III)J"⟩
abbrev cX11_yearCompleting : ByteArray := prog_1_method_45_code
def yX11_yearCompleting : MethodName := ⟨RX11, "yearCompleting", "(LLeapDesigner$Law;I)I"⟩
abbrev cX11_pattern : ByteArray := prog_1_method_46_code
def yX11_pattern : MethodName := ⟨RX11, "pattern", "(III)J"⟩
abbrev cX11_busiest : ByteArray := prog_1_method_47_code
def yX11_busiest : MethodName := ⟨RX11, "busiest", "(IIIIII)J"⟩
abbrev cX11_moons : ByteArray := prog_1_method_48_code
def yX11_moons : MethodName := ⟨RX11, "moons", "(IIIII)J"⟩
abbrev cX11_age : ByteArray := prog_1_method_49_code
def yX11_age : MethodName := ⟨RX11, "age", "(IJII)J"⟩
abbrev cX11_meets : ByteArray := prog_1_method_50_code
def yX11_meets : MethodName := ⟨RX11, "meets", "(IIIIIII)J"⟩
abbrev cX11_moonFrom : ByteArray := prog_1_method_51_code
def yX11_moonFrom : MethodName := ⟨RX11, "moonFrom", "(JII)J"⟩
abbrev cX11_moonDay : ByteArray := prog_1_method_52_code
def yX11_moonDay : MethodName := ⟨RX11, "moonDay", "(JII)J"⟩
abbrev cX11_join : ByteArray := prog_1_method_53_code
def yX11_join : MethodName := ⟨RX11, "join", "(IJIIII)I"⟩
abbrev cX11_joined : ByteArray := prog_1_method_54_code
def yX11_joined : MethodName := ⟨RX11, "joined", "(JI)J"⟩
abbrev cX11_often : ByteArray := prog_1_method_55_code
def yX11_often : MethodName := ⟨RX11, "often", "(III)I"⟩
abbrev cX11_span : ByteArray := prog_1_method_56_code
def yX11_span : MethodName := ⟨RX11, "span", "(IIIIII)J"⟩
abbrev cX11_like : ByteArray := prog_1_method_57_code
def yX11_like : MethodName := ⟨RX11, "like", "(II)I"⟩
abbrev cX11_fillBorders : ByteArray := prog_1_method_58_code
def yX11_fillBorders : MethodName := ⟨RX11, "fillBorders", "(LLeapDesigner$Law;I)V"⟩
abbrev cX11_placeInRound : ByteArray := prog_1_method_59_code
def yX11_placeInRound : MethodName := ⟨RX11, "placeInRound", "(LLeapDesigner$Law;LLeapDesigner$Law;I)I"⟩
abbrev cX11_goOn : ByteArray := prog_1_method_60_code
def yX11_goOn : MethodName := ⟨RX11, "goOn", "(LLeapDesigner$Law;IZ)I"⟩
abbrev cX11_within : ByteArray := prog_1_method_61_code
def yX11_within : MethodName := ⟨RX11, "within", "(IIII)J"⟩
abbrev cX11_nearestK : ByteArray := prog_1_method_62_code
def yX11_nearestK : MethodName := ⟨RX11, "nearestK", "(JJI)J"⟩
abbrev cX11_asRow : ByteArray := prog_1_method_63_code
def yX11_asRow : MethodName := ⟨RX11, "asRow", "(I)I"⟩
abbrev cX11_apart : ByteArray := prog_1_method_64_code
def yX11_apart : MethodName := ⟨RX11, "apart", "(IIIII)J"⟩
abbrev cX11_lonelyLeaps : ByteArray := prog_1_method_65_code
def yX11_lonelyLeaps : MethodName := ⟨RX11, "lonelyLeaps", "(LLeapDesigner$Law;LLeapDesigner$Law;III)J"⟩
abbrev cX11_farthestStarts : ByteArray := prog_1_method_66_code
def yX11_farthestStarts : MethodName := ⟨RX11, "farthestStarts", "(LLeapDesigner$Design;LLeapDesigner$Design;III)J"⟩
abbrev cX11_best : ByteArray := prog_1_method_67_code
def yX11_best : MethodName := ⟨RX11, "best", "(IIII)J"⟩
abbrev cX11_term : ByteArray := prog_1_method_68_code
def yX11_term : MethodName := ⟨RX11, "term", "(III)J"⟩
abbrev cX11_convergent : ByteArray := prog_1_method_69_code
def yX11_convergent : MethodName := ⟨RX11, "convergent", "(IIII)J"⟩
abbrev cX11_suggests : ByteArray := prog_1_method_70_code
def yX11_suggests : MethodName := ⟨RX11, "suggests", "(III)J"⟩
abbrev cX11_isSlot : ByteArray := prog_1_method_71_code
def yX11_isSlot : MethodName := ⟨RX11, "isSlot", "(I)Z"⟩
abbrev cX11_designAt : ByteArray := prog_1_method_72_code
def yX11_designAt : MethodName := ⟨RX11, "designAt", "(I)LLeapDesigner$Design;"⟩
abbrev cX11_isYear : ByteArray := prog_1_method_73_code
def yX11_isYear : MethodName := ⟨RX11, "isYear", "(I)Z"⟩
abbrev cX11_isWalk : ByteArray := prog_1_method_74_code
def yX11_isWalk : MethodName := ⟨RX11, "isWalk", "(II)Z"⟩
abbrev cX11_isStretch : ByteArray := prog_1_method_75_code
def yX11_isStretch : MethodName := ⟨RX11, "isStretch", "(II)Z"⟩
abbrev cX11_isMoon : ByteArray := prog_1_method_76_code
def yX11_isMoon : MethodName := ⟨RX11, "isMoon", "(II)Z"⟩
abbrev cX11_isShare : ByteArray := prog_1_method_77_code
def yX11_isShare : MethodName := ⟨RX11, "isShare", "(II)Z"⟩
def RX12 : String := "LeapDesignerModel"
def TX12 : u_T := fun k => match k with
  | 0 => ("LeapDesignerModel", "thrown", "I", false)
  | 1 => ("LeapDesignerModel", "tape", "[B", true)
  | 2 => ("LeapDesignerModel", "taped", "I", false)
  | 3 => ("LeapDesignerModel", "length", "I", false)
  | 4 => ("LeapDesignerModel", "at", "I", false)
  | 5 => ("LeapDesignerModel", "ended", "I", false)
  | 6 => ("LeapDesignerModel", "bad", "I", false)
  | 7 => ("LeapDesignerModel", "badPlace", "I", false)
  | 8 => ("LeapDesignerModel", "faultKind", "I", false)
  | 9 => ("LeapDesignerModel", "faultPlace", "I", false)
  | 10 => ("LeapDesignerModel", "letters", "I", false)
  | 11 => ("LeapDesignerModel", "numberPlace", "I", false)
  | 12 => ("LeapDesignerModel", "w", "[I", true)
  | 13 => ("LeapDesignerModel", "toldOnce", "I", false)
  | 14 => ("LeapDesignerModel", "changes", "I", false)
  | 15 => ("LeapDesignerModel", "octets", "[I", true)
  | 16 => ("LeapDesignerModel", "octetMany", "I", false)
  | 17 => ("LeapDesignerModel", "gapLeast", "I", false)
  | 18 => ("LeapDesignerModel", "gapMost", "I", false)
  | 19 => ("LeapDesignerModel", "gapOften", "I", false)
  | 20 => ("LeapDesignerModel", "isJoined", "Z", false)
  | 21 => ("LeapDesignerModel", "joint", "J", false)
  | 22 => ("LeapDesignerModel", "onward", "J", false)
  | 23 => ("LeapDesignerModel", "bestAbove", "J", false)
  | 24 => ("LeapDesignerModel", "bestBelow", "J", false)
  | _ => ("LeapDesignerModel", "lastTerm", "J", false)
def tyX12 : Nat → FieldType := fun k => match k with
  | 0 => .int
  | 1 => .array .byte
  | 2 => .int
  | 3 => .int
  | 4 => .int
  | 5 => .int
  | 6 => .int
  | 7 => .int
  | 8 => .int
  | 9 => .int
  | 10 => .int
  | 11 => .int
  | 12 => .array .int
  | 13 => .int
  | 14 => .int
  | 15 => .array .int
  | 16 => .int
  | 17 => .int
  | 18 => .int
  | 19 => .int
  | 20 => .boolean
  | 21 => .long
  | 22 => .long
  | 23 => .long
  | 24 => .long
  | _ => .long
theorem nmX12 : ∀ a, a < 26 → ∀ b, b < 26 → a ≠ b → (TX12 a).2.1 ≠ (TX12 b).2.1 := by decide +kernel
theorem tyX12_ok : ∀ k, k < 26 → parseFieldDescriptor (TX12 k).2.2.1 = some (tyX12 k) := by decide +kernel
abbrev cX12_init : ByteArray := prog_14_method_1_code
def yX12_init : MethodName := ⟨RX12, "<init>", "()V"⟩
abbrev cX12_isIn : ByteArray := prog_14_method_3_code
def yX12_isIn : MethodName := ⟨RX12, "isIn", "(JJJ)Z"⟩
abbrev cX12_flag : ByteArray := prog_14_method_4_code
def yX12_flag : MethodName := ⟨RX12, "flag", "(Z)I"⟩
abbrev cX12_size : ByteArray := prog_14_method_5_code
def yX12_size : MethodName := ⟨RX12, "size", "(J)J"⟩
abbrev cX12_floor : ByteArray := prog_14_method_6_code
def yX12_floor : MethodName := ⟨RX12, "floor", "(JJ)J"⟩
abbrev cX12_rest : ByteArray := prog_14_method_7_code
def yX12_rest : MethodName := ⟨RX12, "rest", "(JJ)J"⟩
abbrev cX12_gcd : ByteArray := prog_14_method_8_code
def yX12_gcd : MethodName := ⟨RX12, "gcd", "(JJ)J"⟩
abbrev cX12_partOf : ByteArray := prog_14_method_9_code
def yX12_partOf : MethodName := ⟨RX12, "partOf", "(JJI)J"⟩
abbrev cX12_puts : ByteArray := prog_14_method_10_code
def yX12_puts : MethodName := ⟨RX12, "puts", "(I)V"⟩
abbrev cX12_feed : ByteArray := prog_14_method_11_code
def yX12_feed : MethodName := ⟨RX12, "feed", "(IIIII)I"⟩
abbrev cX12_end : ByteArray := prog_14_method_12_code
def yX12_end : MethodName := ⟨RX12, "end", "(I)Z"⟩
abbrev cX12_beginsText : ByteArray := prog_14_method_13_code
def yX12_beginsText : MethodName := ⟨RX12, "beginsText", "()V"⟩
abbrev cX12_isFine : ByteArray := prog_14_method_14_code
def yX12_isFine : MethodName := ⟨RX12, "isFine", "()Z"⟩
abbrev cX12_fail : ByteArray := prog_14_method_15_code
def yX12_fail : MethodName := ⟨RX12, "fail", "(II)V"⟩
abbrev cX12_isLetter : ByteArray := prog_14_method_16_code
def yX12_isLetter : MethodName := ⟨RX12, "isLetter", "(I)Z"⟩
abbrev cX12_isDigit : ByteArray := prog_14_method_17_code
def yX12_isDigit : MethodName := ⟨RX12, "isDigit", "(I)Z"⟩
abbrev cX12_next : ByteArray := prog_14_method_18_code
def yX12_next : MethodName := ⟨RX12, "next", "()I"⟩
abbrev cX12_unlike : ByteArray := prog_14_method_19_code
def yX12_unlike : MethodName := ⟨RX12, "unlike", "()V"⟩
abbrev cX12_isWord : ByteArray := prog_14_method_20_code
def yX12_isWord : MethodName := ⟨RX12, "isWord", "(J)Z"⟩
abbrev cX12_takes : ByteArray := prog_14_method_21_code
def yX12_takes : MethodName := ⟨RX12, "takes", "(J)Z"⟩
abbrev cX12_needs : ByteArray := prog_14_method_22_code
def yX12_needs : MethodName := ⟨RX12, "needs", "(J)V"⟩
abbrev cX12_seesNumber : ByteArray := prog_14_method_23_code
def yX12_seesNumber : MethodName := ⟨RX12, "seesNumber", "()Z"⟩
abbrev cX12_reads : ByteArray := prog_14_method_24_code
def yX12_reads : MethodName := ⟨RX12, "reads", "(II)I"⟩
abbrev cX12_bank : ByteArray := prog_14_method_25_code
def yX12_bank : MethodName := ⟨RX12, "bank", "(I)I"⟩
abbrev cX12_isThere : ByteArray := prog_14_method_26_code
def yX12_isThere : MethodName := ⟨RX12, "isThere", "(I)Z"⟩
abbrev cX12_copies : ByteArray := prog_14_method_27_code
def yX12_copies : MethodName := ⟨RX12, "copies", "(II)V"⟩
abbrev cX12_lays : ByteArray := prog_14_method_28_code
def yX12_lays : MethodName := ⟨RX12, "lays", "(II)V"⟩
abbrev cX12_once : ByteArray := prog_14_method_29_code
def yX12_once : MethodName := ⟨RX12, "once", "(IJ)V"⟩
abbrev cX12_shares : ByteArray := prog_14_method_30_code
def yX12_shares : MethodName := ⟨RX12, "shares", "(IIII)V"⟩
abbrev cX12_evenRead : ByteArray := prog_14_method_31_code
def yX12_evenRead : MethodName := ⟨RX12, "evenRead", "()V"⟩
abbrev cX12_everyRead : ByteArray := prog_14_method_32_code
def yX12_everyRead : MethodName := ⟨RX12, "everyRead", "()V"⟩
abbrev cX12_rowRead : ByteArray := prog_14_method_33_code
def yX12_rowRead : MethodName := ⟨RX12, "rowRead", "()V"⟩
abbrev cX12_monthsRead : ByteArray := prog_14_method_34_code
def yX12_monthsRead : MethodName := ⟨RX12, "monthsRead", "()V"⟩
abbrev cX12_weekRead : ByteArray := prog_14_method_35_code
def yX12_weekRead : MethodName := ⟨RX12, "weekRead", "()V"⟩
abbrev cX12_trueRead : ByteArray := prog_14_method_36_code
def yX12_trueRead : MethodName := ⟨RX12, "trueRead", "()V"⟩
abbrev cX12_beginsRead : ByteArray := prog_14_method_37_code
def yX12_beginsRead : MethodName := ⟨RX12, "beginsRead", "()V"⟩
abbrev cX12_numberTold : ByteArray := prog_14_method_38_code
def yX12_numberTold : MethodName := ⟨RX12, "numberTold", "(IJII)V"⟩
abbrev cX12_statement : ByteArray := prog_14_method_39_code
def yX12_statement : MethodName := ⟨RX12, "statement", "()V"⟩
abbrev cX12_plainly : ByteArray := prog_14_method_40_code
def yX12_plainly : MethodName := ⟨RX12, "plainly", "()V"⟩
abbrev cX12_isAllRead : ByteArray := prog_14_method_41_code
def yX12_isAllRead : MethodName := ⟨RX12, "isAllRead", "()V"⟩
abbrev cX12_changesNow : ByteArray := prog_14_method_42_code
def yX12_changesNow : MethodName := ⟨RX12, "changesNow", "()V"⟩
abbrev cX12_design : ByteArray := prog_14_method_43_code
def yX12_design : MethodName := ⟨RX12, "design", "(I)I"⟩
abbrev cX12_fault : ByteArray := prog_14_method_44_code
def yX12_fault : MethodName := ⟨RX12, "fault", "(I)I"⟩
abbrev cX12_isLeap : ByteArray := prog_14_method_45_code
def yX12_isLeap : MethodName := ⟨RX12, "isLeap", "(IJ)Z"⟩
abbrev cX12_leapsTo : ByteArray := prog_14_method_46_code
def yX12_leapsTo : MethodName := ⟨RX12, "leapsTo", "(IJ)J"⟩
abbrev cX12_startOf : ByteArray := prog_14_method_47_code
def yX12_startOf : MethodName := ⟨RX12, "startOf", "(IJ)J"⟩
abbrev cX12_daysOf : ByteArray := prog_14_method_48_code
def yX12_daysOf : MethodName := ⟨RX12, "daysOf", "(IJ)I"⟩
abbrev cX12_isYear : ByteArray := prog_14_method_49_code
def yX12_isYear : MethodName := ⟨RX12, "isYear", "(J)Z"⟩
abbrev cX12_isDay : ByteArray := prog_14_method_50_code
def yX12_isDay : MethodName := ⟨RX12, "isDay", "(IJ)Z"⟩
abbrev cX12_yearOf : ByteArray := prog_14_method_51_code
def yX12_yearOf : MethodName := ⟨RX12, "yearOf", "(IJ)J"⟩
abbrev cX12_monthDays : ByteArray := prog_14_method_52_code
def yX12_monthDays : MethodName := ⟨RX12, "monthDays", "(IIZ)I"⟩
abbrev cX12_isMonth : ByteArray := prog_14_method_53_code
def yX12_isMonth : MethodName := ⟨RX12, "isMonth", "(II)Z"⟩
abbrev cX12_aheadOf : ByteArray := prog_14_method_54_code
def yX12_aheadOf : MethodName := ⟨RX12, "aheadOf", "(IJI)I"⟩
abbrev cX12_isDate : ByteArray := prog_14_method_55_code
def yX12_isDate : MethodName := ⟨RX12, "isDate", "(IJII)Z"⟩
abbrev cX12_numberOf : ByteArray := prog_14_method_56_code
def yX12_numberOf : MethodName := ⟨RX12, "numberOf", "(IJII)J"⟩
abbrev cX12_weekdayOf : ByteArray := prog_14_method_57_code
def yX12_weekdayOf : MethodName := ⟨RX12, "weekdayOf", "(IJ)I"⟩
abbrev cX12_dateOf : ByteArray := prog_14_method_58_code
def yX12_dateOf : MethodName := ⟨RX12, "dateOf", "(IJI)J"⟩
abbrev cX12_leapsInCycle : ByteArray := prog_14_method_59_code
def yX12_leapsInCycle : MethodName := ⟨RX12, "leapsInCycle", "(I)I"⟩
abbrev cX12_has : ByteArray := prog_14_method_60_code
def yX12_has : MethodName := ⟨RX12, "has", "(II)I"⟩
abbrev cX12_howMany : ByteArray := prog_14_method_61_code
def yX12_howMany : MethodName := ⟨RX12, "howMany", "()I"⟩
abbrev cX12_count : ByteArray := prog_14_method_62_code
def yX12_count : MethodName := ⟨RX12, "count", "(I)I"⟩
abbrev cX12_month : ByteArray := prog_14_method_63_code
def yX12_month : MethodName := ⟨RX12, "month", "(IIZ)I"⟩
abbrev cX12_trueAbove : ByteArray := prog_14_method_64_code
def yX12_trueAbove : MethodName := ⟨RX12, "trueAbove", "(I)J"⟩
abbrev cX12_mean : ByteArray := prog_14_method_65_code
def yX12_mean : MethodName := ⟨RX12, "mean", "(IZI)J"⟩
abbrev cX12_copy : ByteArray := prog_14_method_66_code
def yX12_copy : MethodName := ⟨RX12, "copy", "(II)I"⟩
abbrev cX12_drop : ByteArray := prog_14_method_67_code
def yX12_drop : MethodName := ⟨RX12, "drop", "(I)I"⟩
abbrev cX12_shift : ByteArray := prog_14_method_68_code
def yX12_shift : MethodName := ⟨RX12, "shift", "(II)I"⟩
abbrev cX12_truth : ByteArray := prog_14_method_69_code
def yX12_truth : MethodName := ⟨RX12, "truth", "(IIII)I"⟩
abbrev cX12_undo : ByteArray := prog_14_method_70_code
def yX12_undo : MethodName := ⟨RX12, "undo", "()I"⟩
abbrev cX12_asRow : ByteArray := prog_14_method_71_code
def yX12_asRow : MethodName := ⟨RX12, "asRow", "(I)I"⟩
abbrev cX12_octet1 : ByteArray := prog_14_method_72_code
def yX12_octet1 : MethodName := ⟨RX12, "octet1", "(I)V"⟩
abbrev cX12_digits : ByteArray := prog_14_method_73_code
def yX12_digits : MethodName := ⟨RX12, "digits", "(I)V"⟩
abbrev cX12_writesWord : ByteArray := prog_14_method_74_code
def yX12_writesWord : MethodName := ⟨RX12, "writesWord", "(J)V"⟩
abbrev cX12_writes : ByteArray := prog_14_method_75_code
def yX12_writes : MethodName := ⟨RX12, "writes", "(I)V"⟩
abbrev cX12_writesTold : ByteArray := prog_14_method_76_code
def yX12_writesTold : MethodName := ⟨RX12, "writesTold", "(JI)V"⟩
abbrev cX12_writesLast : ByteArray := prog_14_method_77_code
def yX12_writesLast : MethodName := ⟨RX12, "writesLast", "(I)V"⟩
abbrev cX12_writesLaw : ByteArray := prog_14_method_78_code
def yX12_writesLaw : MethodName := ⟨RX12, "writesLaw", "(I)V"⟩
abbrev cX12_write : ByteArray := prog_14_method_79_code
def yX12_write : MethodName := ⟨RX12, "write", "(I)I"⟩
abbrev cX12_octet : ByteArray := prog_14_method_80_code
def yX12_octet : MethodName := ⟨RX12, "octet", "(I)I"⟩
abbrev cX12_leap : ByteArray := prog_14_method_81_code
def yX12_leap : MethodName := ⟨RX12, "leap", "(II)I"⟩
abbrev cX12_leaps : ByteArray := prog_14_method_82_code
def yX12_leaps : MethodName := ⟨RX12, "leaps", "(III)I"⟩
abbrev cX12_start : ByteArray := prog_14_method_83_code
def yX12_start : MethodName := ⟨RX12, "start", "(II)J"⟩
abbrev cX12_number : ByteArray := prog_14_method_84_code
def yX12_number : MethodName := ⟨RX12, "number", "(III)J"⟩
abbrev cX12_date : ByteArray := prog_14_method_85_code
def yX12_date : MethodName := ⟨RX12, "date", "(IJI)J"⟩
abbrev cX12_dated : ByteArray := prog_14_method_86_code
def yX12_dated : MethodName := ⟨RX12, "dated", "(IIII)J"⟩
abbrev cX12_later : ByteArray := prog_14_method_87_code
def yX12_later : MethodName := ⟨RX12, "later", "(IIIII)J"⟩
abbrev cX12_taken : ByteArray := prog_14_method_88_code
def yX12_taken : MethodName := ⟨RX12, "taken", "(IJIII)J"⟩
abbrev cX12_belowOf : ByteArray := prog_14_method_89_code
def yX12_belowOf : MethodName := ⟨RX12, "belowOf", "(I)J"⟩
abbrev cX12_dawnOf : ByteArray := prog_14_method_90_code
def yX12_dawnOf : MethodName := ⟨RX12, "dawnOf", "(IJ)J"⟩
abbrev cX12_driftOf : ByteArray := prog_14_method_91_code
def yX12_driftOf : MethodName := ⟨RX12, "driftOf", "(IJ)J"⟩
abbrev cX12_drift : ByteArray := prog_14_method_92_code
def yX12_drift : MethodName := ⟨RX12, "drift", "(III)J"⟩
abbrev cX12_isSpan : ByteArray := prog_14_method_93_code
def yX12_isSpan : MethodName := ⟨RX12, "isSpan", "(II)Z"⟩
abbrev cX12_extreme : ByteArray := prog_14_method_94_code
def yX12_extreme : MethodName := ⟨RX12, "extreme", "(IIIZI)J"⟩
abbrev cX12_passes : ByteArray := prog_14_method_95_code
def yX12_passes : MethodName := ⟨RX12, "passes", "(II)I"⟩
abbrev cX12_farOf : ByteArray := prog_14_method_96_code
def yX12_farOf : MethodName := ⟨RX12, "farOf", "(I)J"⟩
abbrev cX12_keeps : ByteArray := prog_14_method_97_code
def yX12_keeps : MethodName := ⟨RX12, "keeps", "(I)I"⟩
abbrev cX12_dawns : ByteArray := prog_14_method_98_code
def yX12_dawns : MethodName := ⟨RX12, "dawns", "(IIII)I"⟩
abbrev cX12_steady : ByteArray := prog_14_method_99_code
def yX12_steady : MethodName := ⟨RX12, "steady", "(IIIII)J"⟩
abbrev cX12_meetsGap : ByteArray := prog_14_method_100_code
def yX12_meetsGap : MethodName := ⟨RX12, "meetsGap", "(I)V"⟩
abbrev cX12_laysGaps : ByteArray := prog_14_method_101_code
def yX12_laysGaps : MethodName := ⟨RX12, "laysGaps", "(I)V"⟩
abbrev cX12_gap : ByteArray := prog_14_method_102_code
def yX12_gap : MethodName := ⟨RX12, "gap", "(II)I"⟩
abbrev cX12_even : ByteArray := prog_14_method_103_code
def yX12_even : MethodName := ⟨RX12, "even", "(I)I"⟩
abbrev cX12_weeks : ByteArray := prog_14_method_104_code
def yX12_weeks : MethodName := ⟨RX12, "weeks", "(I)I"⟩
abbrev cX12_isRun : ByteArray := prog_14_method_105_code
def yX12_isRun : MethodName := ⟨RX12, "isRun", "(III)Z"⟩
abbrev cX12_isWeekday : ByteArray := prog_14_method_106_code
def yX12_isWeekday : MethodName := ⟨RX12, "isWeekday", "(II)Z"⟩
abbrev cX12_fallsOf : ByteArray := prog_14_method_107_code
def yX12_fallsOf : MethodName := ⟨RX12, "fallsOf", "(IIIIII)I"⟩
abbrev cX12_isDayOfMonth : ByteArray := prog_14_method_108_code
def yX12_isDayOfMonth : MethodName := ⟨RX12, "isDayOfMonth", "(III)Z"⟩
abbrev cX12_falls : ByteArray := prog_14_method_109_code
def yX12_falls : MethodName := ⟨RX12, "falls", "(IIIIII)I"⟩
abbrev cX12_nth : ByteArray := prog_14_method_110_code
def yX12_nth : MethodName := ⟨RX12, "nth", "(IIIIIZ)J"⟩
abbrev cX12_next_ : ByteArray := prog_14_method_111_code
def yX12_next_ : MethodName := ⟨RX12, "next", "(III)J"⟩
abbrev cX12_pattern : ByteArray := prog_14_method_112_code
def yX12_pattern : MethodName := ⟨RX12, "pattern", "(III)J"⟩
abbrev cX12_busiest : ByteArray := prog_14_method_113_code
def yX12_busiest : MethodName := ⟨RX12, "busiest", "(IIIIII)J"⟩
abbrev cX12_isMoon : ByteArray := prog_14_method_114_code
def yX12_isMoon : MethodName := ⟨RX12, "isMoon", "(II)Z"⟩
abbrev cX12_moonFrom : ByteArray := prog_14_method_115_code
def yX12_moonFrom : MethodName := ⟨RX12, "moonFrom", "(JJJ)J"⟩
abbrev cX12_moonDay : ByteArray := prog_14_method_116_code
def yX12_moonDay : MethodName := ⟨RX12, "moonDay", "(JJJ)J"⟩
abbrev cX12_moons : ByteArray := prog_14_method_117_code
def yX12_moons : MethodName := ⟨RX12, "moons", "(IIIII)J"⟩
abbrev cX12_ageOf : ByteArray := prog_14_method_118_code
def yX12_ageOf : MethodName := ⟨RX12, "ageOf", "(JJJ)J"⟩
abbrev cX12_age : ByteArray := prog_14_method_119_code
def yX12_age : MethodName := ⟨RX12, "age", "(IJII)J"⟩
abbrev cX12_meets : ByteArray := prog_14_method_120_code
def yX12_meets : MethodName := ⟨RX12, "meets", "(IIIIIII)J"⟩
abbrev cX12_join : ByteArray := prog_14_method_121_code
def yX12_join : MethodName := ⟨RX12, "join", "(IJIIII)I"⟩
abbrev cX12_joined : ByteArray := prog_14_method_122_code
def yX12_joined : MethodName := ⟨RX12, "joined", "(JI)J"⟩
abbrev cX12_isAhead : ByteArray := prog_14_method_123_code
def yX12_isAhead : MethodName := ⟨RX12, "isAhead", "(III)Z"⟩
abbrev cX12_isBehind : ByteArray := prog_14_method_124_code
def yX12_isBehind : MethodName := ⟨RX12, "isBehind", "(III)Z"⟩
abbrev cX12_often : ByteArray := prog_14_method_125_code
def yX12_often : MethodName := ⟨RX12, "often", "(III)I"⟩
abbrev cX12_firstOf : ByteArray := prog_14_method_126_code
def yX12_firstOf : MethodName := ⟨RX12, "firstOf", "(III)J"⟩
abbrev cX12_span : ByteArray := prog_14_method_127_code
def yX12_span : MethodName := ⟨RX12, "span", "(IIIIII)J"⟩
abbrev cX12_areLike : ByteArray := prog_14_method_128_code
def yX12_areLike : MethodName := ⟨RX12, "areLike", "(III)Z"⟩
abbrev cX12_like : ByteArray := prog_14_method_129_code
def yX12_like : MethodName := ⟨RX12, "like", "(II)I"⟩
abbrev cX12_within : ByteArray := prog_14_method_130_code
def yX12_within : MethodName := ⟨RX12, "within", "(IIII)J"⟩
abbrev cX12_apart : ByteArray := prog_14_method_131_code
def yX12_apart : MethodName := ⟨RX12, "apart", "(IIIII)J"⟩
abbrev cX12_laysBest : ByteArray := prog_14_method_132_code
def yX12_laysBest : MethodName := ⟨RX12, "laysBest", "(JJI)V"⟩
abbrev cX12_isFraction : ByteArray := prog_14_method_133_code
def yX12_isFraction : MethodName := ⟨RX12, "isFraction", "(II)Z"⟩
abbrev cX12_best : ByteArray := prog_14_method_134_code
def yX12_best : MethodName := ⟨RX12, "best", "(IIII)J"⟩
abbrev cX12_works : ByteArray := prog_14_method_135_code
def yX12_works : MethodName := ⟨RX12, "works", "(JJI)I"⟩
abbrev cX12_term : ByteArray := prog_14_method_136_code
def yX12_term : MethodName := ⟨RX12, "term", "(III)J"⟩
abbrev cX12_convergent : ByteArray := prog_14_method_137_code
def yX12_convergent : MethodName := ⟨RX12, "convergent", "(IIII)J"⟩
abbrev cX12_suggests : ByteArray := prog_14_method_138_code
def yX12_suggests : MethodName := ⟨RX12, "suggests", "(III)J"⟩
def RJ5 : String := "java/lang/AbstractStringBuilder"
def TJ5 : u_T := fun k => match k with
  | _ => ("", "", "", false)
def tyJ5 : Nat → FieldType := fun k => match k with
  | _ => .int
theorem nmJ5 : ∀ a, a < 0 → ∀ b, b < 0 → a ≠ b → (TJ5 a).2.1 ≠ (TJ5 b).2.1 := by decide +kernel
theorem tyJ5_ok : ∀ k, k < 0 → parseFieldDescriptor (TJ5 k).2.2.1 = some (tyJ5 k) := by decide +kernel
abbrev cJ5_init_d00df : ByteArray := prog_15_method_2_code
def yJ5_init_d00df : MethodName := ⟨RJ5, "<init>", "(I)V"⟩
abbrev cJ5_length_8abf5 : ByteArray := prog_15_method_6_code
def yJ5_length_8abf5 : MethodName := ⟨RJ5, "length", "()I"⟩
abbrev cJ5_ensureCapacityInternal_d00df : ByteArray := prog_15_method_9_code
def yJ5_ensureCapacityInternal_d00df : MethodName := ⟨RJ5, "ensureCapacityInternal", "(I)V"⟩
abbrev cJ5_newCapacity_0f7a4 : ByteArray := prog_15_method_10_code
def yJ5_newCapacity_0f7a4 : MethodName := ⟨RJ5, "newCapacity", "(I)I"⟩
abbrev cJ5_inflate_da8c8 : ByteArray := prog_15_method_11_code
def yJ5_inflate_da8c8 : MethodName := ⟨RJ5, "inflate", "()V"⟩
abbrev cJ5_setLength_d00df : ByteArray := prog_15_method_13_code
def yJ5_setLength_d00df : MethodName := ⟨RJ5, "setLength", "(I)V"⟩
abbrev cJ5_charAt_5068e : ByteArray := prog_15_method_14_code
def yJ5_charAt_5068e : MethodName := ⟨RJ5, "charAt", "(I)C"⟩
abbrev cJ5_append_cf1ce : ByteArray := prog_15_method_22_code
def yJ5_append_cf1ce : MethodName := ⟨RJ5, "append", "(Ljava/lang/String;)Ljava/lang/AbstractStringBuilder;"⟩
abbrev cJ5_appendNull_278bc : ByteArray := prog_15_method_26_code
def yJ5_appendNull_278bc : MethodName := ⟨RJ5, "appendNull", "()Ljava/lang/AbstractStringBuilder;"⟩
abbrev cJ5_append_3fe6f : ByteArray := prog_15_method_31_code
def yJ5_append_3fe6f : MethodName := ⟨RJ5, "append", "(C)Ljava/lang/AbstractStringBuilder;"⟩
abbrev cJ5_append_c97b9 : ByteArray := prog_15_method_32_code
def yJ5_append_c97b9 : MethodName := ⟨RJ5, "append", "(I)Ljava/lang/AbstractStringBuilder;"⟩
abbrev cJ5_isLatin1_aae02 : ByteArray := prog_15_method_68_code
def yJ5_isLatin1_aae02 : MethodName := ⟨RJ5, "isLatin1", "()Z"⟩
abbrev cJ5_inflateIfNeededFor_a7421 : ByteArray := prog_15_method_71_code
def yJ5_inflateIfNeededFor_a7421 : MethodName := ⟨RJ5, "inflateIfNeededFor", "(Ljava/lang/String;)V"⟩
abbrev cJ5_putStringAt_47b60 : ByteArray := prog_15_method_73_code
def yJ5_putStringAt_47b60 : MethodName := ⟨RJ5, "putStringAt", "(ILjava/lang/String;)V"⟩
def RJ6 : String := "java/lang/Integer"
def TJ6 : u_T := fun k => match k with
  | _ => ("", "", "", false)
def tyJ6 : Nat → FieldType := fun k => match k with
  | _ => .int
theorem nmJ6 : ∀ a, a < 0 → ∀ b, b < 0 → a ≠ b → (TJ6 a).2.1 ≠ (TJ6 b).2.1 := by decide +kernel
theorem tyJ6_ok : ∀ k, k < 0 → parseFieldDescriptor (TJ6 k).2.2.1 = some (tyJ6 k) := by decide +kernel
abbrev cJ6_getChars_ba4f3 : ByteArray := prog_17_method_12_code
def yJ6_getChars_ba4f3 : MethodName := ⟨RJ6, "getChars", "(II[B)I"⟩
abbrev cJ6_stringSize_0f7a4 : ByteArray := prog_17_method_13_code
def yJ6_stringSize_0f7a4 : MethodName := ⟨RJ6, "stringSize", "(I)I"⟩
def RJ9 : String := "java/lang/Math"
def TJ9 : u_T := fun k => match k with
  | _ => ("", "", "", false)
def tyJ9 : Nat → FieldType := fun k => match k with
  | _ => .int
theorem nmJ9 : ∀ a, a < 0 → ∀ b, b < 0 → a ≠ b → (TJ9 a).2.1 ≠ (TJ9 b).2.1 := by decide +kernel
theorem tyJ9_ok : ∀ k, k < 0 → parseFieldDescriptor (TJ9 k).2.2.1 = some (tyJ9 k) := by decide +kernel
abbrev cJ9_floorDiv_7cf53 : ByteArray := prog_18_method_47_code
def yJ9_floorDiv_7cf53 : MethodName := ⟨RJ9, "floorDiv", "(II)I"⟩
abbrev cJ9_floorDiv_f86c9 : ByteArray := prog_18_method_49_code
def yJ9_floorDiv_f86c9 : MethodName := ⟨RJ9, "floorDiv", "(JJ)J"⟩
abbrev cJ9_floorMod_7cf53 : ByteArray := prog_18_method_50_code
def yJ9_floorMod_7cf53 : MethodName := ⟨RJ9, "floorMod", "(II)I"⟩
abbrev cJ9_floorMod_f86c9 : ByteArray := prog_18_method_52_code
def yJ9_floorMod_f86c9 : MethodName := ⟨RJ9, "floorMod", "(JJ)J"⟩
abbrev cJ9_abs_067f4 : ByteArray := prog_18_method_61_code
def yJ9_abs_067f4 : MethodName := ⟨RJ9, "abs", "(J)J"⟩
abbrev cJ9_max_7cf53 : ByteArray := prog_18_method_65_code
def yJ9_max_7cf53 : MethodName := ⟨RJ9, "max", "(II)I"⟩
abbrev cJ9_max_f86c9 : ByteArray := prog_18_method_66_code
def yJ9_max_f86c9 : MethodName := ⟨RJ9, "max", "(JJ)J"⟩
abbrev cJ9_min_7cf53 : ByteArray := prog_18_method_69_code
def yJ9_min_7cf53 : MethodName := ⟨RJ9, "min", "(II)I"⟩
abbrev cJ9_min_f86c9 : ByteArray := prog_18_method_70_code
def yJ9_min_f86c9 : MethodName := ⟨RJ9, "min", "(JJ)J"⟩
def RJ0 : String := "java/lang/String"
def TJ0 : u_T := fun k => match k with
  | _ => ("", "", "", false)
def tyJ0 : Nat → FieldType := fun k => match k with
  | _ => .int
theorem nmJ0 : ∀ a, a < 0 → ∀ b, b < 0 → a ≠ b → (TJ0 a).2.1 ≠ (TJ0 b).2.1 := by decide +kernel
theorem tyJ0_ok : ∀ k, k < 0 → parseFieldDescriptor (TJ0 k).2.2.1 = some (tyJ0 k) := by decide +kernel
abbrev cJ0_length_8abf5 : ByteArray := prog_19_method_54_code
def yJ0_length_8abf5 : MethodName := ⟨RJ0, "length", "()I"⟩
abbrev cJ0_charAt_5068e : ByteArray := prog_19_method_56_code
def yJ0_charAt_5068e : MethodName := ⟨RJ0, "charAt", "(I)C"⟩
abbrev cJ0_getBytes_840e7 : ByteArray := prog_19_method_147_code
def yJ0_getBytes_840e7 : MethodName := ⟨RJ0, "getBytes", "([BIB)V"⟩
abbrev cJ0_coder_7d493 : ByteArray := prog_19_method_152_code
def yJ0_coder_7d493 : MethodName := ⟨RJ0, "coder", "()B"⟩
abbrev cJ0_isLatin1_aae02 : ByteArray := prog_19_method_154_code
def yJ0_isLatin1_aae02 : MethodName := ⟨RJ0, "isLatin1", "()Z"⟩
abbrev cJ0_checkIndex_df160 : ByteArray := prog_19_method_155_code
def yJ0_checkIndex_df160 : MethodName := ⟨RJ0, "checkIndex", "(II)V"⟩
abbrev cJ0_checkBoundsOffCount_cabcc : ByteArray := prog_19_method_157_code
def yJ0_checkBoundsOffCount_cabcc : MethodName := ⟨RJ0, "checkBoundsOffCount", "(III)I"⟩
abbrev cJ0_checkBoundsBeginEnd_23922 : ByteArray := prog_19_method_158_code
def yJ0_checkBoundsBeginEnd_23922 : MethodName := ⟨RJ0, "checkBoundsBeginEnd", "(III)V"⟩
def RJ4 : String := "java/lang/StringBuilder"
def TJ4 : u_T := fun k => match k with
  | 0 => ("java/lang/AbstractStringBuilder", "value", "[B", false)
  | 1 => ("java/lang/AbstractStringBuilder", "coder", "B", false)
  | 2 => ("java/lang/AbstractStringBuilder", "maybeLatin1", "Z", false)
  | _ => ("java/lang/AbstractStringBuilder", "count", "I", false)
def tyJ4 : Nat → FieldType := fun k => match k with
  | 0 => .array .byte
  | 1 => .byte
  | 2 => .boolean
  | _ => .int
theorem nmJ4 : ∀ a, a < 4 → ∀ b, b < 4 → a ≠ b → (TJ4 a).2.1 ≠ (TJ4 b).2.1 := by decide +kernel
theorem tyJ4_ok : ∀ k, k < 4 → parseFieldDescriptor (TJ4 k).2.2.1 = some (tyJ4 k) := by decide +kernel
abbrev cJ4_init_da8c8 : ByteArray := prog_20_method_1_code
def yJ4_init_da8c8 : MethodName := ⟨RJ4, "<init>", "()V"⟩
abbrev cJ4_append_15ec4 : ByteArray := prog_20_method_7_code
def yJ4_append_15ec4 : MethodName := ⟨RJ4, "append", "(Ljava/lang/String;)Ljava/lang/StringBuilder;"⟩
abbrev cJ4_append_cf468 : ByteArray := prog_20_method_14_code
def yJ4_append_cf468 : MethodName := ⟨RJ4, "append", "(C)Ljava/lang/StringBuilder;"⟩
abbrev cJ4_append_bf812 : ByteArray := prog_20_method_15_code
def yJ4_append_bf812 : MethodName := ⟨RJ4, "append", "(I)Ljava/lang/StringBuilder;"⟩
abbrev cJ4_charAt_5068e : ByteArray := prog_20_method_88_code
def yJ4_charAt_5068e : MethodName := ⟨RJ4, "charAt", "(I)C"⟩
abbrev cJ4_setLength_d00df : ByteArray := prog_20_method_89_code
def yJ4_setLength_d00df : MethodName := ⟨RJ4, "setLength", "(I)V"⟩
abbrev cJ4_length_8abf5 : ByteArray := prog_20_method_93_code
def yJ4_length_8abf5 : MethodName := ⟨RJ4, "length", "()I"⟩
def RJ1 : String := "java/lang/StringLatin1"
def TJ1 : u_T := fun k => match k with
  | _ => ("", "", "", false)
def tyJ1 : Nat → FieldType := fun k => match k with
  | _ => .int
theorem nmJ1 : ∀ a, a < 0 → ∀ b, b < 0 → a ≠ b → (TJ1 a).2.1 ≠ (TJ1 b).2.1 := by decide +kernel
theorem tyJ1_ok : ∀ k, k < 0 → parseFieldDescriptor (TJ1 k).2.2.1 = some (tyJ1 k) := by decide +kernel
abbrev cJ1_charAt_3b067 : ByteArray := prog_21_method_2_code
def yJ1_charAt_3b067 : MethodName := ⟨RJ1, "charAt", "([BI)C"⟩
abbrev cJ1_canEncode_fc78d : ByteArray := prog_21_method_3_code
def yJ1_canEncode_fc78d : MethodName := ⟨RJ1, "canEncode", "(C)Z"⟩
abbrev cJ1_fillNull_b72d1 : ByteArray := prog_21_method_48_code
def yJ1_fillNull_b72d1 : MethodName := ⟨RJ1, "fillNull", "([BII)V"⟩
abbrev cJ1_inflate_0e8fd : ByteArray := prog_21_method_50_code
def yJ1_inflate_0e8fd : MethodName := ⟨RJ1, "inflate", "([BI[BII)V"⟩
def RJ2 : String := "java/lang/StringUTF16"
def TJ2 : u_T := fun k => match k with
  | _ => ("", "", "", false)
def tyJ2 : Nat → FieldType := fun k => match k with
  | _ => .int
theorem nmJ2 : ∀ a, a < 0 → ∀ b, b < 0 → a ≠ b → (TJ2 a).2.1 ≠ (TJ2 b).2.1 := by decide +kernel
theorem tyJ2_ok : ∀ k, k < 0 → parseFieldDescriptor (TJ2 k).2.2.1 = some (tyJ2 k) := by decide +kernel
abbrev cJ2_newBytesFor_77867 : ByteArray := prog_22_method_2_code
def yJ2_newBytesFor_77867 : MethodName := ⟨RJ2, "newBytesFor", "(I)[B"⟩
abbrev cJ2_newBytesLength_0f7a4 : ByteArray := prog_22_method_3_code
def yJ2_newBytesLength_0f7a4 : MethodName := ⟨RJ2, "newBytesLength", "(I)I"⟩
abbrev cJ2_putChar_b72d1 : ByteArray := prog_22_method_4_code
def yJ2_putChar_b72d1 : MethodName := ⟨RJ2, "putChar", "([BII)V"⟩
abbrev cJ2_getChar_3b067 : ByteArray := prog_22_method_5_code
def yJ2_getChar_3b067 : MethodName := ⟨RJ2, "getChar", "([BI)C"⟩
abbrev cJ2_length_9d52b : ByteArray := prog_22_method_6_code
def yJ2_length_9d52b : MethodName := ⟨RJ2, "length", "([B)I"⟩
abbrev cJ2_fillNull_b72d1 : ByteArray := prog_22_method_70_code
def yJ2_fillNull_b72d1 : MethodName := ⟨RJ2, "fillNull", "([BII)V"⟩
abbrev cJ2_putCharSB_b72d1 : ByteArray := prog_22_method_71_code
def yJ2_putCharSB_b72d1 : MethodName := ⟨RJ2, "putCharSB", "([BII)V"⟩
abbrev cJ2_getChars_46870 : ByteArray := prog_22_method_77_code
def yJ2_getChars_46870 : MethodName := ⟨RJ2, "getChars", "(III[B)I"⟩
abbrev cJ2_putCharsAt_cd4e5 : ByteArray := prog_22_method_81_code
def yJ2_putCharsAt_cd4e5 : MethodName := ⟨RJ2, "putCharsAt", "([BICCCC)I"⟩
abbrev cJ2_charAt_3b067 : ByteArray := prog_22_method_83_code
def yJ2_charAt_3b067 : MethodName := ⟨RJ2, "charAt", "([BI)C"⟩
abbrev cJ2_inflate_0e8fd : ByteArray := prog_22_method_86_code
def yJ2_inflate_0e8fd : MethodName := ⟨RJ2, "inflate", "([BI[BII)V"⟩
abbrev cJ2_getChars_ba4f3 : ByteArray := prog_22_method_89_code
def yJ2_getChars_ba4f3 : MethodName := ⟨RJ2, "getChars", "(II[B)I"⟩
abbrev cJ2_checkIndex_2214a : ByteArray := prog_22_method_91_code
def yJ2_checkIndex_2214a : MethodName := ⟨RJ2, "checkIndex", "(I[B)V"⟩
abbrev cJ2_checkBoundsBeginEnd_d044e : ByteArray := prog_22_method_93_code
def yJ2_checkBoundsBeginEnd_d044e : MethodName := ⟨RJ2, "checkBoundsBeginEnd", "(II[B)V"⟩
abbrev cJ2_checkBoundsOffCount_d044e : ByteArray := prog_22_method_94_code
def yJ2_checkBoundsOffCount_d044e : MethodName := ⟨RJ2, "checkBoundsOffCount", "(II[B)V"⟩
def RJ10 : String := "java/lang/System"
def TJ10 : u_T := fun k => match k with
  | _ => ("", "", "", false)
def tyJ10 : Nat → FieldType := fun k => match k with
  | _ => .int
theorem nmJ10 : ∀ a, a < 0 → ∀ b, b < 0 → a ≠ b → (TJ10 a).2.1 ≠ (TJ10 b).2.1 := by decide +kernel
theorem tyJ10_ok : ∀ k, k < 0 → parseFieldDescriptor (TJ10 k).2.2.1 = some (tyJ10 k) := by decide +kernel
def RJ7 : String := "java/util/Arrays"
def TJ7 : u_T := fun k => match k with
  | _ => ("", "", "", false)
def tyJ7 : Nat → FieldType := fun k => match k with
  | _ => .int
theorem nmJ7 : ∀ a, a < 0 → ∀ b, b < 0 → a ≠ b → (TJ7 a).2.1 ≠ (TJ7 b).2.1 := by decide +kernel
theorem tyJ7_ok : ∀ k, k < 0 → parseFieldDescriptor (TJ7 k).2.2.1 = some (tyJ7 k) := by decide +kernel
abbrev cJ7_rangeCheck_23922 : ByteArray := prog_24_method_30_code
def yJ7_rangeCheck_23922 : MethodName := ⟨RJ7, "rangeCheck", "(III)V"⟩
abbrev cJ7_fill_eb02e : ByteArray := prog_24_method_110_code
def yJ7_fill_eb02e : MethodName := ⟨RJ7, "fill", "([BIIB)V"⟩
abbrev cJ7_copyOf_9075b : ByteArray := prog_24_method_121_code
def yJ7_copyOf_9075b : MethodName := ⟨RJ7, "copyOf", "([BI)[B"⟩
def RJ8 : String := "jdk/internal/util/ArraysSupport"
def TJ8 : u_T := fun k => match k with
  | _ => ("", "", "", false)
def tyJ8 : Nat → FieldType := fun k => match k with
  | _ => .int
theorem nmJ8 : ∀ a, a < 0 → ∀ b, b < 0 → a ≠ b → (TJ8 a).2.1 ≠ (TJ8 b).2.1 := by decide +kernel
theorem tyJ8_ok : ∀ k, k < 0 → parseFieldDescriptor (TJ8 k).2.2.1 = some (tyJ8 k) := by decide +kernel
abbrev cJ8_newLength_cabcc : ByteArray := prog_25_method_27_code
def yJ8_newLength_cabcc : MethodName := ⟨RJ8, "newLength", "(III)I"⟩
abbrev cJ8_hugeLength_7cf53 : ByteArray := prog_25_method_28_code
def yJ8_hugeLength_7cf53 : MethodName := ⟨RJ8, "hugeLength", "(II)I"⟩
def RJ3 : String := "jdk/internal/util/Preconditions"
def TJ3 : u_T := fun k => match k with
  | _ => ("", "", "", false)
def tyJ3 : Nat → FieldType := fun k => match k with
  | _ => .int
theorem nmJ3 : ∀ a, a < 0 → ∀ b, b < 0 → a ≠ b → (TJ3 a).2.1 ≠ (TJ3 b).2.1 := by decide +kernel
theorem tyJ3_ok : ∀ k, k < 0 → parseFieldDescriptor (TJ3 k).2.2.1 = some (tyJ3 k) := by decide +kernel
abbrev cJ3_checkIndex_8e157 : ByteArray := prog_26_method_11_code
def yJ3_checkIndex_8e157 : MethodName := ⟨RJ3, "checkIndex", "(IILjava/util/function/BiFunction;)I"⟩
abbrev cJ3_checkFromToIndex_8c36e : ByteArray := prog_26_method_12_code
def yJ3_checkFromToIndex_8c36e : MethodName := ⟨RJ3, "checkFromToIndex", "(IIILjava/util/function/BiFunction;)I"⟩
abbrev cJ3_checkFromIndexSize_8c36e : ByteArray := prog_26_method_13_code
def yJ3_checkFromIndexSize_8c36e : MethodName := ⟨RJ3, "checkFromIndexSize", "(IIILjava/util/function/BiFunction;)I"⟩
