section
-- ===== PART A: goes FIRST, ahead of the names: the tables' words, and 'selects' of the private methods out of them =====
/-- a private method of a class that the tables say can be made, by its rows of tables_1 -/
def lw_okq (q : MethodName × Nat) : Prop := (q.1.cls ≠ "java/lang/invoke/MethodHandle" ∧ q.1.cls ≠ "java/lang/invoke/VarHandle") ∧ Cond.instantiable q.1.cls q.2 ∈ tables_1 ∧ Cond.privateMethod q.1 ∈ tables_1 ∧ Cond.instanceMethod q.1 ∈ tables_1
theorem lw_p0 : lw_okq (⟨"java/lang/Throwable", "fillInStackTrace", "(I)Ljava/lang/Throwable;"⟩, 6) := ⟨⟨by decide +kernel, by decide +kernel⟩, List.mem_of_getElem? (i := 360) (by decide +kernel), List.mem_of_getElem? (i := 358) (by decide +kernel), List.mem_of_getElem? (i := 359) (by decide +kernel)⟩
theorem lw_p1 : lw_okq (⟨"FoldedArchive", "requireSection", "(I)V"⟩, 15) := ⟨⟨by decide +kernel, by decide +kernel⟩, List.mem_of_getElem? (i := 35) (by decide +kernel), List.mem_of_getElem? (i := 410) (by decide +kernel), List.mem_of_getElem? (i := 411) (by decide +kernel)⟩
theorem lw_p2 : lw_okq (⟨"FoldedArchive$Pile", "layerAfterInsert", "(II)I"⟩, 2) := ⟨⟨by decide +kernel, by decide +kernel⟩, List.mem_of_getElem? (i := 77) (by decide +kernel), List.mem_of_getElem? (i := 500) (by decide +kernel), List.mem_of_getElem? (i := 501) (by decide +kernel)⟩
theorem lw_p3 : lw_okq (⟨"FoldedArchive", "requirePipe", "(I)V"⟩, 15) := ⟨⟨by decide +kernel, by decide +kernel⟩, List.mem_of_getElem? (i := 35) (by decide +kernel), List.mem_of_getElem? (i := 519) (by decide +kernel), List.mem_of_getElem? (i := 520) (by decide +kernel)⟩
theorem lw_p4 : lw_okq (⟨"FoldedArchive", "obey", "(I)V"⟩, 15) := ⟨⟨by decide +kernel, by decide +kernel⟩, List.mem_of_getElem? (i := 35) (by decide +kernel), List.mem_of_getElem? (i := 555) (by decide +kernel), List.mem_of_getElem? (i := 556) (by decide +kernel)⟩
theorem lw_p5 : lw_okq (⟨"FoldedArchive", "recordDenial", "(III)V"⟩, 15) := ⟨⟨by decide +kernel, by decide +kernel⟩, List.mem_of_getElem? (i := 35) (by decide +kernel), List.mem_of_getElem? (i := 574) (by decide +kernel), List.mem_of_getElem? (i := 575) (by decide +kernel)⟩
theorem lw_p6 : lw_okq (⟨"FoldedArchive$FlowSearch", "openPipes", "(LFoldedArchive$Pipes;I)V"⟩, 3) := ⟨⟨by decide +kernel, by decide +kernel⟩, List.mem_of_getElem? (i := 152) (by decide +kernel), List.mem_of_getElem? (i := 597) (by decide +kernel), List.mem_of_getElem? (i := 598) (by decide +kernel)⟩
theorem lw_p7 : lw_okq (⟨"FoldedArchive$FlowSearch", "addSpare", "(III)V"⟩, 3) := ⟨⟨by decide +kernel, by decide +kernel⟩, List.mem_of_getElem? (i := 152) (by decide +kernel), List.mem_of_getElem? (i := 611) (by decide +kernel), List.mem_of_getElem? (i := 612) (by decide +kernel)⟩
theorem lw_p8 : lw_okq (⟨"FoldedArchive$FlowSearch", "reachesLast", "(I)Z"⟩, 3) := ⟨⟨by decide +kernel, by decide +kernel⟩, List.mem_of_getElem? (i := 152) (by decide +kernel), List.mem_of_getElem? (i := 618) (by decide +kernel), List.mem_of_getElem? (i := 619) (by decide +kernel)⟩
theorem lw_p9 : lw_okq (⟨"FoldedArchive$FlowSearch", "spareOf", "(II)I"⟩, 3) := ⟨⟨by decide +kernel, by decide +kernel⟩, List.mem_of_getElem? (i := 152) (by decide +kernel), List.mem_of_getElem? (i := 622) (by decide +kernel), List.mem_of_getElem? (i := 623) (by decide +kernel)⟩
theorem lw_p10 : lw_okq (⟨"FoldedArchive$FlowSearch", "previousOf", "(I)I"⟩, 3) := ⟨⟨by decide +kernel, by decide +kernel⟩, List.mem_of_getElem? (i := 152) (by decide +kernel), List.mem_of_getElem? (i := 626) (by decide +kernel), List.mem_of_getElem? (i := 627) (by decide +kernel)⟩
theorem lw_p11 : lw_okq (⟨"FoldedArchive$FlowSearch", "augment", "(I)I"⟩, 3) := ⟨⟨by decide +kernel, by decide +kernel⟩, List.mem_of_getElem? (i := 152) (by decide +kernel), List.mem_of_getElem? (i := 630) (by decide +kernel), List.mem_of_getElem? (i := 631) (by decide +kernel)⟩
theorem lw_p12 : lw_okq (⟨"FoldedArchive", "change", "(IIII)I"⟩, 15) := ⟨⟨by decide +kernel, by decide +kernel⟩, List.mem_of_getElem? (i := 35) (by decide +kernel), List.mem_of_getElem? (i := 670) (by decide +kernel), List.mem_of_getElem? (i := 671) (by decide +kernel)⟩
theorem lw_p13 : lw_okq (⟨"FoldedArchive$State", "judgePour", "(II)I"⟩, 3) := ⟨⟨by decide +kernel, by decide +kernel⟩, List.mem_of_getElem? (i := 43) (by decide +kernel), List.mem_of_getElem? (i := 678) (by decide +kernel), List.mem_of_getElem? (i := 679) (by decide +kernel)⟩
theorem lw_p14 : lw_okq (⟨"FoldedArchive$State", "judgeTerm", "(IIZ)I"⟩, 3) := ⟨⟨by decide +kernel, by decide +kernel⟩, List.mem_of_getElem? (i := 43) (by decide +kernel), List.mem_of_getElem? (i := 684) (by decide +kernel), List.mem_of_getElem? (i := 685) (by decide +kernel)⟩
theorem lw_p15 : lw_okq (⟨"FoldedArchive$State", "judgePipe", "(III)I"⟩, 3) := ⟨⟨by decide +kernel, by decide +kernel⟩, List.mem_of_getElem? (i := 43) (by decide +kernel), List.mem_of_getElem? (i := 710) (by decide +kernel), List.mem_of_getElem? (i := 711) (by decide +kernel)⟩
def lw_privs_1 : List (MethodName × Nat) := [(⟨"java/lang/Throwable", "fillInStackTrace", "(I)Ljava/lang/Throwable;"⟩, 6), (⟨"FoldedArchive", "requireSection", "(I)V"⟩, 15), (⟨"FoldedArchive$Pile", "layerAfterInsert", "(II)I"⟩, 2), (⟨"FoldedArchive", "requirePipe", "(I)V"⟩, 15), (⟨"FoldedArchive", "obey", "(I)V"⟩, 15), (⟨"FoldedArchive", "recordDenial", "(III)V"⟩, 15), (⟨"FoldedArchive$FlowSearch", "openPipes", "(LFoldedArchive$Pipes;I)V"⟩, 3), (⟨"FoldedArchive$FlowSearch", "addSpare", "(III)V"⟩, 3), (⟨"FoldedArchive$FlowSearch", "reachesLast", "(I)Z"⟩, 3), (⟨"FoldedArchive$FlowSearch", "spareOf", "(II)I"⟩, 3), (⟨"FoldedArchive$FlowSearch", "previousOf", "(I)I"⟩, 3), (⟨"FoldedArchive$FlowSearch", "augment", "(I)I"⟩, 3), (⟨"FoldedArchive", "change", "(IIII)I"⟩, 15), (⟨"FoldedArchive$State", "judgePour", "(II)I"⟩, 3), (⟨"FoldedArchive$State", "judgeTerm", "(IIZ)I"⟩, 3), (⟨"FoldedArchive$State", "judgePipe", "(III)I"⟩, 3)]
theorem lw_r1 : ∀ q ∈ lw_privs_1, lw_okq q := List.forall_mem_cons.mpr ⟨lw_p0, List.forall_mem_cons.mpr ⟨lw_p1, List.forall_mem_cons.mpr ⟨lw_p2, List.forall_mem_cons.mpr ⟨lw_p3, List.forall_mem_cons.mpr ⟨lw_p4, List.forall_mem_cons.mpr ⟨lw_p5, List.forall_mem_cons.mpr ⟨lw_p6, List.forall_mem_cons.mpr ⟨lw_p7, List.forall_mem_cons.mpr ⟨lw_p8, List.forall_mem_cons.mpr ⟨lw_p9, List.forall_mem_cons.mpr ⟨lw_p10, List.forall_mem_cons.mpr ⟨lw_p11, List.forall_mem_cons.mpr ⟨lw_p12, List.forall_mem_cons.mpr ⟨lw_p13, List.forall_mem_cons.mpr ⟨lw_p14, List.forall_mem_cons.mpr ⟨lw_p15, fun _ h => absurd h List.not_mem_nil⟩⟩⟩⟩⟩⟩⟩⟩⟩⟩⟩⟩⟩⟩⟩⟩
theorem lw_p16 : lw_okq (⟨"FoldedArchive$State", "judgeBroken", "(IZ)I"⟩, 3) := ⟨⟨by decide +kernel, by decide +kernel⟩, List.mem_of_getElem? (i := 43) (by decide +kernel), List.mem_of_getElem? (i := 715) (by decide +kernel), List.mem_of_getElem? (i := 716) (by decide +kernel)⟩
theorem lw_p17 : lw_okq (⟨"FoldedArchive$History", "stateAt", "(I)LFoldedArchive$State;"⟩, 3) := ⟨⟨by decide +kernel, by decide +kernel⟩, List.mem_of_getElem? (i := 132) (by decide +kernel), List.mem_of_getElem? (i := 726) (by decide +kernel), List.mem_of_getElem? (i := 727) (by decide +kernel)⟩
theorem lw_p18 : lw_okq (⟨"FoldedArchive$Strip", "add", "(II)V"⟩, 5) := ⟨⟨by decide +kernel, by decide +kernel⟩, List.mem_of_getElem? (i := 49) (by decide +kernel), List.mem_of_getElem? (i := 764) (by decide +kernel), List.mem_of_getElem? (i := 765) (by decide +kernel)⟩
theorem lw_p19 : lw_okq (⟨"FoldedArchive$State", "moveAlongPipes", "(I)I"⟩, 3) := ⟨⟨by decide +kernel, by decide +kernel⟩, List.mem_of_getElem? (i := 43) (by decide +kernel), List.mem_of_getElem? (i := 803) (by decide +kernel), List.mem_of_getElem? (i := 804) (by decide +kernel)⟩
theorem lw_p20 : lw_okq (⟨"FoldedArchive$State", "moveDownPile", "()I"⟩, 3) := ⟨⟨by decide +kernel, by decide +kernel⟩, List.mem_of_getElem? (i := 43) (by decide +kernel), List.mem_of_getElem? (i := 822) (by decide +kernel), List.mem_of_getElem? (i := 823) (by decide +kernel)⟩
theorem lw_p21 : lw_okq (⟨"FoldedArchive$CommandReader", "readCommand", "(LFoldedArchive$Row;I)V"⟩, 6) := ⟨⟨by decide +kernel, by decide +kernel⟩, List.mem_of_getElem? (i := 223) (by decide +kernel), List.mem_of_getElem? (i := 1233) (by decide +kernel), List.mem_of_getElem? (i := 1234) (by decide +kernel)⟩
theorem lw_p22 : lw_okq (⟨"FoldedArchive$CommandReader", "follows", "(LFoldedArchive$Row;ILjava/lang/String;)Z"⟩, 6) := ⟨⟨by decide +kernel, by decide +kernel⟩, List.mem_of_getElem? (i := 223) (by decide +kernel), List.mem_of_getElem? (i := 1252) (by decide +kernel), List.mem_of_getElem? (i := 1253) (by decide +kernel)⟩
theorem lw_p23 : lw_okq (⟨"FoldedArchive$CommandReader", "followsSign", "(LFoldedArchive$Row;C)Z"⟩, 6) := ⟨⟨by decide +kernel, by decide +kernel⟩, List.mem_of_getElem? (i := 223) (by decide +kernel), List.mem_of_getElem? (i := 1258) (by decide +kernel), List.mem_of_getElem? (i := 1259) (by decide +kernel)⟩
theorem lw_p24 : lw_okq (⟨"FoldedArchive$CommandReader", "takeOperand", "(I)V"⟩, 6) := ⟨⟨by decide +kernel, by decide +kernel⟩, List.mem_of_getElem? (i := 223) (by decide +kernel), List.mem_of_getElem? (i := 1273) (by decide +kernel), List.mem_of_getElem? (i := 1274) (by decide +kernel)⟩
theorem lw_p25 : lw_okq (⟨"FoldedArchive$CommandReader", "numberFrom", "(LFoldedArchive$Row;C)I"⟩, 6) := ⟨⟨by decide +kernel, by decide +kernel⟩, List.mem_of_getElem? (i := 223) (by decide +kernel), List.mem_of_getElem? (i := 1277) (by decide +kernel), List.mem_of_getElem? (i := 1278) (by decide +kernel)⟩
theorem lw_p26 : lw_okq (⟨"FoldedArchive$CommandReader", "append", "(I)V"⟩, 6) := ⟨⟨by decide +kernel, by decide +kernel⟩, List.mem_of_getElem? (i := 223) (by decide +kernel), List.mem_of_getElem? (i := 1281) (by decide +kernel), List.mem_of_getElem? (i := 1282) (by decide +kernel)⟩
theorem lw_p27 : lw_okq (⟨"FoldedArchive", "refuseFault", "(I)V"⟩, 15) := ⟨⟨by decide +kernel, by decide +kernel⟩, List.mem_of_getElem? (i := 35) (by decide +kernel), List.mem_of_getElem? (i := 1290) (by decide +kernel), List.mem_of_getElem? (i := 1291) (by decide +kernel)⟩
theorem lw_p28 : lw_okq (⟨"FoldedArchive", "runCommand", "(I)I"⟩, 15) := ⟨⟨by decide +kernel, by decide +kernel⟩, List.mem_of_getElem? (i := 35) (by decide +kernel), List.mem_of_getElem? (i := 1295) (by decide +kernel), List.mem_of_getElem? (i := 1296) (by decide +kernel)⟩
theorem lw_p29 : lw_okq (⟨"FoldedArchive", "requireTerm", "(I)V"⟩, 15) := ⟨⟨by decide +kernel, by decide +kernel⟩, List.mem_of_getElem? (i := 35) (by decide +kernel), List.mem_of_getElem? (i := 1327) (by decide +kernel), List.mem_of_getElem? (i := 1328) (by decide +kernel)⟩
theorem lw_p30 : lw_okq (⟨"FoldedArchive$Strip", "rankOf", "(I)I"⟩, 5) := ⟨⟨by decide +kernel, by decide +kernel⟩, List.mem_of_getElem? (i := 49) (by decide +kernel), List.mem_of_getElem? (i := 1365) (by decide +kernel), List.mem_of_getElem? (i := 1366) (by decide +kernel)⟩
theorem lw_p31 : lw_okq (⟨"FoldedArchive$Strip", "comesBefore", "(II)Z"⟩, 5) := ⟨⟨by decide +kernel, by decide +kernel⟩, List.mem_of_getElem? (i := 49) (by decide +kernel), List.mem_of_getElem? (i := 1369) (by decide +kernel), List.mem_of_getElem? (i := 1370) (by decide +kernel)⟩
def lw_privs_2 : List (MethodName × Nat) := [(⟨"FoldedArchive$State", "judgeBroken", "(IZ)I"⟩, 3), (⟨"FoldedArchive$History", "stateAt", "(I)LFoldedArchive$State;"⟩, 3), (⟨"FoldedArchive$Strip", "add", "(II)V"⟩, 5), (⟨"FoldedArchive$State", "moveAlongPipes", "(I)I"⟩, 3), (⟨"FoldedArchive$State", "moveDownPile", "()I"⟩, 3), (⟨"FoldedArchive$CommandReader", "readCommand", "(LFoldedArchive$Row;I)V"⟩, 6), (⟨"FoldedArchive$CommandReader", "follows", "(LFoldedArchive$Row;ILjava/lang/String;)Z"⟩, 6), (⟨"FoldedArchive$CommandReader", "followsSign", "(LFoldedArchive$Row;C)Z"⟩, 6), (⟨"FoldedArchive$CommandReader", "takeOperand", "(I)V"⟩, 6), (⟨"FoldedArchive$CommandReader", "numberFrom", "(LFoldedArchive$Row;C)I"⟩, 6), (⟨"FoldedArchive$CommandReader", "append", "(I)V"⟩, 6), (⟨"FoldedArchive", "refuseFault", "(I)V"⟩, 15), (⟨"FoldedArchive", "runCommand", "(I)I"⟩, 15), (⟨"FoldedArchive", "requireTerm", "(I)V"⟩, 15), (⟨"FoldedArchive$Strip", "rankOf", "(I)I"⟩, 5), (⟨"FoldedArchive$Strip", "comesBefore", "(II)Z"⟩, 5)]
theorem lw_r2 : ∀ q ∈ lw_privs_2, lw_okq q := List.forall_mem_cons.mpr ⟨lw_p16, List.forall_mem_cons.mpr ⟨lw_p17, List.forall_mem_cons.mpr ⟨lw_p18, List.forall_mem_cons.mpr ⟨lw_p19, List.forall_mem_cons.mpr ⟨lw_p20, List.forall_mem_cons.mpr ⟨lw_p21, List.forall_mem_cons.mpr ⟨lw_p22, List.forall_mem_cons.mpr ⟨lw_p23, List.forall_mem_cons.mpr ⟨lw_p24, List.forall_mem_cons.mpr ⟨lw_p25, List.forall_mem_cons.mpr ⟨lw_p26, List.forall_mem_cons.mpr ⟨lw_p27, List.forall_mem_cons.mpr ⟨lw_p28, List.forall_mem_cons.mpr ⟨lw_p29, List.forall_mem_cons.mpr ⟨lw_p30, List.forall_mem_cons.mpr ⟨lw_p31, fun _ h => absurd h List.not_mem_nil⟩⟩⟩⟩⟩⟩⟩⟩⟩⟩⟩⟩⟩⟩⟩⟩
theorem lw_p32 : lw_okq (⟨"FoldedArchive$SearchReader", "readSum", "(LFoldedArchive$Row;I)I"⟩, 4) := ⟨⟨by decide +kernel, by decide +kernel⟩, List.mem_of_getElem? (i := 203) (by decide +kernel), List.mem_of_getElem? (i := 1468) (by decide +kernel), List.mem_of_getElem? (i := 1469) (by decide +kernel)⟩
theorem lw_p33 : lw_okq (⟨"FoldedArchive$SearchReader", "readProduct", "(LFoldedArchive$Row;I)I"⟩, 4) := ⟨⟨by decide +kernel, by decide +kernel⟩, List.mem_of_getElem? (i := 203) (by decide +kernel), List.mem_of_getElem? (i := 1472) (by decide +kernel), List.mem_of_getElem? (i := 1473) (by decide +kernel)⟩
theorem lw_p34 : lw_okq (⟨"FoldedArchive$SearchReader", "readFactor", "(LFoldedArchive$Row;I)I"⟩, 4) := ⟨⟨by decide +kernel, by decide +kernel⟩, List.mem_of_getElem? (i := 203) (by decide +kernel), List.mem_of_getElem? (i := 1476) (by decide +kernel), List.mem_of_getElem? (i := 1477) (by decide +kernel)⟩
theorem lw_p35 : lw_okq (⟨"FoldedArchive$SearchReader", "readPlainFactor", "(LFoldedArchive$Row;I)I"⟩, 4) := ⟨⟨by decide +kernel, by decide +kernel⟩, List.mem_of_getElem? (i := 203) (by decide +kernel), List.mem_of_getElem? (i := 1481) (by decide +kernel), List.mem_of_getElem? (i := 1482) (by decide +kernel)⟩
theorem lw_p36 : lw_okq (⟨"FoldedArchive$SearchReader", "bearersOf", "(I)I"⟩, 4) := ⟨⟨by decide +kernel, by decide +kernel⟩, List.mem_of_getElem? (i := 203) (by decide +kernel), List.mem_of_getElem? (i := 1486) (by decide +kernel), List.mem_of_getElem? (i := 1487) (by decide +kernel)⟩
theorem lw_p37 : lw_okq (⟨"FoldedArchive$FoldingSearch", "foldRest", "(II)I"⟩, 2) := ⟨⟨by decide +kernel, by decide +kernel⟩, List.mem_of_getElem? (i := 168) (by decide +kernel), List.mem_of_getElem? (i := 1566) (by decide +kernel), List.mem_of_getElem? (i := 1567) (by decide +kernel)⟩
theorem lw_p38 : lw_okq (⟨"FoldedArchive$FoldingSearch", "foldInto", "(III)I"⟩, 2) := ⟨⟨by decide +kernel, by decide +kernel⟩, List.mem_of_getElem? (i := 168) (by decide +kernel), List.mem_of_getElem? (i := 1571) (by decide +kernel), List.mem_of_getElem? (i := 1572) (by decide +kernel)⟩
theorem lw_p39 : lw_okq (⟨"FoldedArchive$FoldingSearch", "placeRest", "(II)I"⟩, 2) := ⟨⟨by decide +kernel, by decide +kernel⟩, List.mem_of_getElem? (i := 168) (by decide +kernel), List.mem_of_getElem? (i := 1585) (by decide +kernel), List.mem_of_getElem? (i := 1586) (by decide +kernel)⟩
theorem lw_p40 : lw_okq (⟨"FoldedArchive$FoldingSearch", "isNextOfPile", "(II)Z"⟩, 2) := ⟨⟨by decide +kernel, by decide +kernel⟩, List.mem_of_getElem? (i := 168) (by decide +kernel), List.mem_of_getElem? (i := 1589) (by decide +kernel), List.mem_of_getElem? (i := 1590) (by decide +kernel)⟩
theorem lw_p41 : lw_okq (⟨"FoldedArchive$FoldingSearch", "goOnAbove", "(III)I"⟩, 2) := ⟨⟨by decide +kernel, by decide +kernel⟩, List.mem_of_getElem? (i := 168) (by decide +kernel), List.mem_of_getElem? (i := 1594) (by decide +kernel), List.mem_of_getElem? (i := 1595) (by decide +kernel)⟩
theorem lw_p42 : lw_okq (⟨"FoldedArchive$FoldingSearch", "spanCrosses", "(II)Z"⟩, 2) := ⟨⟨by decide +kernel, by decide +kernel⟩, List.mem_of_getElem? (i := 168) (by decide +kernel), List.mem_of_getElem? (i := 1598) (by decide +kernel), List.mem_of_getElem? (i := 1599) (by decide +kernel)⟩
theorem lw_p43 : lw_okq (⟨"FoldedArchive$FoldingSearch", "placeOf", "(II)I"⟩, 2) := ⟨⟨by decide +kernel, by decide +kernel⟩, List.mem_of_getElem? (i := 168) (by decide +kernel), List.mem_of_getElem? (i := 1602) (by decide +kernel), List.mem_of_getElem? (i := 1603) (by decide +kernel)⟩
def lw_privs_3 : List (MethodName × Nat) := [(⟨"FoldedArchive$SearchReader", "readSum", "(LFoldedArchive$Row;I)I"⟩, 4), (⟨"FoldedArchive$SearchReader", "readProduct", "(LFoldedArchive$Row;I)I"⟩, 4), (⟨"FoldedArchive$SearchReader", "readFactor", "(LFoldedArchive$Row;I)I"⟩, 4), (⟨"FoldedArchive$SearchReader", "readPlainFactor", "(LFoldedArchive$Row;I)I"⟩, 4), (⟨"FoldedArchive$SearchReader", "bearersOf", "(I)I"⟩, 4), (⟨"FoldedArchive$FoldingSearch", "foldRest", "(II)I"⟩, 2), (⟨"FoldedArchive$FoldingSearch", "foldInto", "(III)I"⟩, 2), (⟨"FoldedArchive$FoldingSearch", "placeRest", "(II)I"⟩, 2), (⟨"FoldedArchive$FoldingSearch", "isNextOfPile", "(II)Z"⟩, 2), (⟨"FoldedArchive$FoldingSearch", "goOnAbove", "(III)I"⟩, 2), (⟨"FoldedArchive$FoldingSearch", "spanCrosses", "(II)Z"⟩, 2), (⟨"FoldedArchive$FoldingSearch", "placeOf", "(II)I"⟩, 2)]
theorem lw_r3 : ∀ q ∈ lw_privs_3, lw_okq q := List.forall_mem_cons.mpr ⟨lw_p32, List.forall_mem_cons.mpr ⟨lw_p33, List.forall_mem_cons.mpr ⟨lw_p34, List.forall_mem_cons.mpr ⟨lw_p35, List.forall_mem_cons.mpr ⟨lw_p36, List.forall_mem_cons.mpr ⟨lw_p37, List.forall_mem_cons.mpr ⟨lw_p38, List.forall_mem_cons.mpr ⟨lw_p39, List.forall_mem_cons.mpr ⟨lw_p40, List.forall_mem_cons.mpr ⟨lw_p41, List.forall_mem_cons.mpr ⟨lw_p42, List.forall_mem_cons.mpr ⟨lw_p43, fun _ h => absurd h List.not_mem_nil⟩⟩⟩⟩⟩⟩⟩⟩⟩⟩⟩⟩
def lw_privs : List (MethodName × Nat) := lw_privs_1 ++ (lw_privs_2 ++ (lw_privs_3))
def lw_tbl : List Cond := k2_sels lw_privs ++ tables_1
theorem lw_privs_ok : ∀ q ∈ lw_privs, lw_okq q := by
  show ∀ q ∈ lw_privs_1 ++ (lw_privs_2 ++ (lw_privs_3)), lw_okq q
  exact List.forall_mem_append.mpr ⟨lw_r1, List.forall_mem_append.mpr ⟨lw_r2, lw_r3⟩⟩
/-- the streams that the claim lets the run draw from -/
abbrev lw_cs : List Choice := [Jvm.Choice.named "NaN.bits"]
theorem lw_bits : nanBits ∈ lw_cs := by first | decide | exact List.mem_cons_self | simp [lw_cs, nanBits]
end
section
/-! ===== BEGIN words of one list among another's, by their places ===== -/
theorem goodIn_r {big : List Cond} (ws : List Cond) (ps : List Nat) (hp : ws = ps.filterMap (fun i => big[i]?)) (h : ws.all goodWord = true) : GoodIn big ws := by
  intro w hw
  have h1 := List.all_eq_true.mp h w hw
  rw [hp] at hw
  obtain ⟨i, -, hi⟩ := List.mem_filterMap.mp hw
  have hm : w ∈ big := by first | exact List.mem_of_getElem? hi | exact List.getElem?_mem hi
  exact ⟨hm, good_of_word h1⟩
theorem goodIn_app {big a b : List Cond} (ha : GoodIn big a) (hb : GoodIn big b) : GoodIn big (a ++ b) := fun w h => (List.mem_append.mp h).elim (ha w) (hb w)
theorem goodIn_ca {big a b : List Cond} {c : Cond} (ha : GoodIn big (c :: a)) (hb : GoodIn big b) : GoodIn big (c :: (a ++ b)) := fun w h => (List.mem_cons.mp h).elim (fun e => ha w (List.mem_cons.mpr (Or.inl e))) (fun h => (List.mem_append.mp h).elim (fun h => ha w (List.mem_cons.mpr (Or.inr h))) (hb w))
theorem goodIn_sub {big ws : List Cond} (hm : ∀ w ∈ ws, w ∈ big) (h : ws.all goodWord = true) : GoodIn big ws := fun w hw => ⟨hm w hw, good_of_word (List.all_eq_true.mp h w hw)⟩
/-! ===== END ===== -/

/-! ===== BEGIN exceptions that leave a method, and their catching by the caller (launches without stack traces) ===== -/
section VXA
/-! The laws vx_back, vx_callV, vx_callS, vx_callSW, vx_throw0, vx_throwS follow proofs of the library, with one case more: JvmDerived/Free/Laws.lean (Back.of_free), Shelf42/LK1.lean (callV, callS), Shelf/KitTraced.lean (throwNew0V, throwNewS). -/
/-- where a method has thrown q: the class by its name, the cell, what was written, the world -/
def vx_T (XC : String → State → State → Prop) (st : State) (q : Addr) (t : State) (mc ms : Nat) (free : Addr → Prop) : Prop :=
  ∃ (E : String) (ce : Cell) (L : List Loc), XC E st t ∧ t.heap[q]? = some ce ∧ ce.vm = .none ∧ st.vm.findClass E = some ce.cls ∧ st.WarmedH t.vm ∧ st.sameButNew ({ t with vm := st.vm } : State) L mc ms ∧ ∀ z ∈ L, free z.base
def vx_Q (Qc : Array Value → State → Outcome → State → Prop) (XC : String → State → State → Prop) (mc ms : Nat) (free : Addr → Prop) : Array Value → State → Outcome → State → Prop := fun a st o t =>
  (Qc a st o t ∧ ∃ L, FrameEnd st o t L mc ms ∧ ∀ q ∈ L, free q.base) ∨ ∃ q, o = .threw q ∧ vx_T XC st q t mc ms free
/-- a callee that returns or throws -/
def vx_Met (l : Launch) (y : MethodName) (ws : List Cond) (rm : Room) (Pc : Array Value → State → Prop) (Qc : Array Value → State → Outcome → State → Prop) (XC : String → State → State → Prop) (mc ms : Nat) (free : Addr → Prop) : Prop :=
  MetFree l y (headSpec ws rm) Pc (fun _ _ _ _ _ => True) (vx_Q Qc XC mc ms free)
def vx_Post (XC : String → State → State → Prop) (mc ms : Nat) (free : Addr → Prop) : Pt → Array Value → Addr → Pt → Prop := fun A a q B =>
  ∃ (g : JFrame) (mk : MethodId) (t : State) (L : List Loc) (E : String) (ce : Cell), B.U.heap = t.heap ∧ B.U.vm = t.vm ∧ XC E (A.U.calling g mk a) t ∧ t.heap[q]? = some ce ∧ ce.vm = .none ∧ A.U.vm.findClass E = some ce.cls ∧ B.locs = A.locs ++ L ∧ (∀ z ∈ L, free z.base) ∧ B.cells = A.cells + mc ∧ B.slots = A.slots + ms
def vx_Back (l : Launch) (R : Room) (p : Program) (e : Env) (below : List Frame) (s : State) (sargs : Array Value) (y : MethodName) (len W9 : Nat)
    (Pre : Pt → Array Value → Prop) (Post : Pt → Array Value → Option Value → Pt → Prop) (PostX : Pt → Array Value → Addr → Pt → Prop) : Prop :=
  ∀ (m : MethodId) (meth : Method) (c : Code) (A : Pt) (g : JFrame) (ig : Instr) (mk : MethodId) (a : Array Value),
    Stand p l e R s m sargs below meth c A.U A.locs A.cells A.slots → g.method = m → g.locals.size = c.maxLocals → decode c.code g.pc = .ok (ig, len) →
    2 * g.monitorRoom + (g.stack.map fun v => v.category).sum ≤ W9 → A.U.methodNamed? y = some mk → Pre A a →
    (∃ (v : Option Value) (B : Pt), Stand p l e R s m sargs below meth c B.U B.locs B.cells B.slots ∧ Post A a v B ∧
      Steps p.tables e below (doInvoke e (A.U.setTop g) [] mk a).1 (B.U.setTop { g with pc := g.pc + len, stack := v.toList ++ g.stack })) ∨
    (∃ (q : Addr) (B : Pt), Stand p l e R s m sargs below meth c B.U B.locs B.cells B.slots ∧ PostX A a q B ∧
      Steps p.tables e below (doInvoke e (A.U.setTop g) [] mk a).1 ((B.U.setTop g).pushFrame (.throwing q)))
section Payer
variable {l : Launch} {R : Room} {p : Program} {e : Env} {below : List Frame} {s : State} {sargs : Array Value} {y : MethodName} {len W9 : Nat}
theorem vx_back {ws : List Cond} {rm : Room} {Pc : Array Value → State → Prop} {Qc : Array Value → State → Outcome → State → Prop} {XC : String → State → State → Prop} {mc ms : Nat} {free : Addr → Prop} {bytes : ByteArray} {maxL : Nat} {ret : Option FieldType}
    (hM : vx_Met l y ws rm Pc Qc XC mc ms free) (hblind : FrameBlind Pc) (hrc : rm.cells = mc) (hrs : rm.slots = ms)
    (hframes : rm.frames + 1 ≤ R.frames) (hlocals : W9 + (maxL + 11) + rm.locals ≤ R.locals)
    (hws : ∀ w ∈ ws, ∀ a' U, s.WarmedH U.vm → w.before a' U = true) (hcode : Cond.code y bytes maxL ret ∈ ws) (hinit : ∀ a' U, s.WarmedH U.vm → (Cond.initialized y.cls).before a' U = true) :
    vx_Back l R p e below s sargs y len W9 (PreOf R mc ms Pc) (PostOf Qc mc ms free) (vx_Post XC mc ms free) := by
  intro m meth c A g ig mk a X hg hsize hdg hW hn hp
  have h1 : (headSpec ws rm).pre.before a A.U = true := atoms_intro fun w hw => hws w hw _ _ X.warmed
  have h2 : (Cond.code y bytes maxL ret).before a A.U = true := hws _ hcode _ _ X.warmed
  have h3 : (Cond.initialized y.cls).before a A.U = true := hinit _ _ X.warmed
  have h4 : A.cells + (headSpec ws rm).room.cells ≤ R.cells := by rw [show (headSpec ws rm).room.cells = mc from hrc]; exact hp.1
  have h5 : A.slots + (headSpec ws rm).room.slots ≤ R.slots := by rw [show (headSpec ws rm).room.slots = ms from hrs]; exact hp.2.1
  have hPc : Pc a (A.U.calling g mk a) := hblind _ _ _ _ hp.2.2
  obtain ⟨U, Ls, c0, s0⟩ := A
  dsimp only [Pt.U, Pt.locs, Pt.cells, Pt.slots] at h1 h2 h3 h4 h5 X hn hPc ⊢
  obtain ⟨methY, cY, hmY, hcY, -, hlY, -, -, -, -⟩ := Cond.code_spec hn h2
  obtain ⟨kY, hkY, -⟩ := className_of_methodNamed hn
  have hinitY : kY.init = .initialized := Cond.initialized_spec (findClass_of_methodNamed hn) hkY h3
  have h : At U g.method c below := by rw [hg]; exact X.here
  have hlocals9 : W9 + (maxL + 11) + (headSpec ws rm).room.locals ≤ R.locals := hlocals
  have happ : (headSpec ws rm).appliesLoose y e.platform (U.calling g mk a) = true :=
    Spec.appliesLoose_calling (g := g) h hdg hn hkY hinitY
      (X.room_calling (g := g) (R' := (headSpec ws rm).room) hsize hmY hcY hframes (by rw [hlY]; omega) h4 h5) h1
  obtain ⟨mid, hmid⟩ := h.above
  have hfr : (U.setTop g).frames = (.java g :: mid) ++ below := by rw [State.frames_setTop' g h.top, hmid]; rfl
  obtain ⟨o, s₂, hsteps, -, hend, hq⟩ := Steps.callFree hM p X.admits X.cas X.clock (acts := []) hfr happ hPc trivial
  have hq' : vx_Q Qc XC mc ms free a (U.calling g mk a) o s₂ := hq
  rw [State.frames_setTop' g h.top] at hend
  obtain ⟨g₀, hg0⟩ := Option.isSome_iff_exists.mp h.top
  obtain ⟨r, hr⟩ := State.topJava?_eq_some.mp hg0
  have hr' : (({ U with heap := s₂.heap, slotsUsed := s₂.slotsUsed } : State).setVm s₂.vm).frames = .java g₀ :: r := hr
  rcases hq' with ⟨hqc, L, hfe, hL⟩ | ⟨q, rfl, E, ce, L, hx, hce, hcv, hcl, hW₂, hsm, hL⟩
  · obtain ⟨⟨v, rfl⟩, hW₂, e2, q2, q3, q4, q5, q6⟩ := id hfe
    have e3 : s₂ = ({ (U.calling g mk a).setFrames s₂.frames with heap := s₂.heap, slotsUsed := s₂.slotsUsed } : State).setVm s₂.vm := by
      have : s₂ = ({ s₂ with vm := (U.calling g mk a).vm } : State).setVm s₂.vm := rfl
      rw [e2] at this
      exact this
    obtain ⟨c₂, i₂, len₂, hc₂, hd₂, hf₂⟩ := hend
    have hW' : U.WarmedH s₂.vm := hW₂
    have hcc : c₂ = c := by
      have h1 : s₂.code? g.method = U.code? g.method := by
        rw [State.code?_eq, State.code?_eq, hW'.alike.method?]
      exact Option.some.inj (hc₂.symm.trans (h1.trans h.code))
    subst hcc
    have hlen : len₂ = len := by rw [hdg] at hd₂; cases hd₂; rfl
    subst hlen
    have hs₂ : s₂ = (({ U with heap := s₂.heap, slotsUsed := s₂.slotsUsed } : State).setVm s₂.vm).setTop { g with pc := g.pc + len₂, stack := v.toList ++ g.stack } := by
      refine e3.trans ?_
      rw [hf₂, State.calling_eq h.top, State.setFrames_setFrames, State.setTop_of_frames _ hr', hr]
      rfl
    have hsame : U.sameButNew ({ U with heap := s₂.heap, slotsUsed := s₂.slotsUsed } : State) L mc ms := by
      refine ⟨?_, q2, q3, q4, q5, q6⟩
      obtain ⟨t, ht, -⟩ := State.frames_cons hr
      show ({ U with heap := s₂.heap, slotsUsed := s₂.slotsUsed } : State) = { U.setFrames U.frames with heap := s₂.heap, slotsUsed := s₂.slotsUsed }
      rw [State.setFrames_self ht]
    subst hg
    refine Or.inl ⟨v, ⟨(({ U with heap := s₂.heap, slotsUsed := s₂.slotsUsed } : State).setVm s₂.vm), Ls ++ L, c0 + mc, s0 + ms⟩,
      ⟨X.admits, X.cas, X.clock, X.frames, X.room, X.hears, X.method, X.code, (X.here.setHeapUsed s₂.heap s₂.slotsUsed).setVm hW'.alike, X.tail, State.WarmedH.trans X.warmed hW', X.limits, X.bytes, X.same.trans (hsame.setVm s.vm)⟩,
      ⟨g, mk, s₂, L, rfl, rfl, hqc, rfl, hL, rfl, rfl⟩, ?_⟩
    show Steps p.tables e below _ ((({ U with heap := s₂.heap, slotsUsed := s₂.slotsUsed } : State).setVm s₂.vm).setTop { g with pc := g.pc + len₂, stack := v.toList ++ g.stack })
    rw [← hs₂]
    exact hsteps
  · obtain ⟨e2, q2, q3, q4, q5, q6⟩ := id hsm
    have e3 : s₂ = ({ (U.calling g mk a).setFrames s₂.frames with heap := s₂.heap, slotsUsed := s₂.slotsUsed } : State).setVm s₂.vm := by
      have : s₂ = ({ s₂ with vm := (U.calling g mk a).vm } : State).setVm s₂.vm := rfl
      rw [e2] at this
      exact this
    have hf₂ : s₂.frames = .throwing q :: .java g :: U.frames.tail := hend
    have hW' : U.WarmedH s₂.vm := hW₂
    have hs₂ : s₂ = ((({ U with heap := s₂.heap, slotsUsed := s₂.slotsUsed } : State).setVm s₂.vm).setTop g).pushFrame (.throwing q) := by
      refine e3.trans ?_
      rw [hf₂, State.calling_eq h.top, State.setFrames_setFrames, State.pushFrame, State.frames_setTop _ hr', State.setTop_of_frames _ hr', State.setFrames_setFrames, hr]
      rfl
    have hsame : U.sameButNew ({ U with heap := s₂.heap, slotsUsed := s₂.slotsUsed } : State) L mc ms := by
      refine ⟨?_, q2, q3, q4, q5, q6⟩
      obtain ⟨t, ht, -⟩ := State.frames_cons hr
      show ({ U with heap := s₂.heap, slotsUsed := s₂.slotsUsed } : State) = { U.setFrames U.frames with heap := s₂.heap, slotsUsed := s₂.slotsUsed }
      rw [State.setFrames_self ht]
    subst hg
    refine Or.inr ⟨q, ⟨(({ U with heap := s₂.heap, slotsUsed := s₂.slotsUsed } : State).setVm s₂.vm), Ls ++ L, c0 + mc, s0 + ms⟩,
      ⟨X.admits, X.cas, X.clock, X.frames, X.room, X.hears, X.method, X.code, (X.here.setHeapUsed s₂.heap s₂.slotsUsed).setVm hW'.alike, X.tail, State.WarmedH.trans X.warmed hW', X.limits, X.bytes, X.same.trans (hsame.setVm s.vm)⟩,
      ⟨g, mk, s₂, L, E, ce, rfl, rfl, hx, hce, hcv, hcl, rfl, hL, rfl, rfl⟩, ?_⟩
    show Steps p.tables e below _ (((({ U with heap := s₂.heap, slotsUsed := s₂.slotsUsed } : State).setVm s₂.vm).setTop g).pushFrame (.throwing q))
    rw [← hs₂]
    exact hsteps
end Payer
section Calls
variable {p : Program} {l : Launch} {e : Env} {R : Room} {s : State} {m : MethodId} {args : Array Value} {below : List Frame} {meth : Method} {c : Code} {T : State} {locs : List Loc} {cells slots : Nat}
theorem vx_callV (X : Stand p l e R s m args below meth c T locs cells slots) (hexec : p.tables.exec = Jvm.exec) {own C : String} {index : Nat} {y : MethodName} {bytes : ByteArray} {maxL : Nat} {ret : Option FieldType}
    (hown : s.vm.findClass own = some m.cls) (hlink : (Cond.methodLink own index y).before args s = true) (hinst : (Cond.instanceMethod y).before args s = true) (hsel : (Cond.selects C y y).before args s = true)
    (hcode : (Cond.code y bytes maxL ret).before args s = true) (hy : y.cls ≠ "java/lang/invoke/MethodHandle" ∧ y.cls ≠ "java/lang/invoke/VarHandle")
    {W9 : Nat} {Pre : Pt → Array Value → Prop} {Post : Pt → Array Value → Option Value → Pt → Prop} {PostX : Pt → Array Value → Addr → Pt → Prop} (hK : vx_Back l R p e below s args y 3 W9 Pre Post PostX)
    {b : Addr} {cellB : Cell} (hcell : T.heap[b]? = some cellB) (hobj : cellB.vm.isStatics = false) (hcls : s.vm.findClass C = some cellB.cls)
    {g : JFrame} (hg : g.method = m) (hsize : g.locals.size = c.maxLocals) {argsL rest : List Value} (hlen : ∀ sig, parseMethodDescriptor y.desc = some sig → argsL.length = sig.parameters.length)
    (hstack : g.stack = argsL.reverse ++ .ref b :: rest) (hW : 2 * g.monitorRoom + (rest.map fun v => v.category).sum ≤ W9) (hdg : decode c.code g.pc = .ok (.invokevirtual index, 3))
    (hpre : ∀ vm₁, s.WarmedH vm₁ → Pre ⟨T.setVm vm₁, locs, cells, slots⟩ (Value.ref b :: argsL).toArray) :
    (∃ (v : Option Value) (vm₁ : Vm) (B : Pt), s.WarmedH vm₁ ∧ Stand p l e R s m args below meth c B.U B.locs B.cells B.slots ∧ Post ⟨T.setVm vm₁, locs, cells, slots⟩ (Value.ref b :: argsL).toArray v B ∧
      ∀ target, Steps p.tables e below (B.U.setTop { g with pc := g.pc + 3, stack := v.toList ++ rest }) target → Steps p.tables e below (T.setTop g) target) ∨
    (∃ (q : Addr) (vm₁ : Vm) (B : Pt), s.WarmedH vm₁ ∧ Stand p l e R s m args below meth c B.U B.locs B.cells B.slots ∧ PostX ⟨T.setVm vm₁, locs, cells, slots⟩ (Value.ref b :: argsL).toArray q B ∧
      Steps p.tables e below (T.setTop g) ((B.U.setTop { g with stack := rest }).pushFrame (.throwing q))) := by
  obtain ⟨mk, methM, hnamed, hmethM, hstM, habM⟩ := Cond.instanceMethod_spec hinst
  obtain ⟨methM', cM, hmethM', -, -, -, -, -, -, hsigM⟩ := Cond.code_spec hnamed hcode
  cases hmethM.symm.trans hmethM'
  obtain ⟨c2, r2, m2, q1, q2, q3, q4, kP, hkP, hkPi⟩ := Cond.selects_spec hsel
  cases hcls.symm.trans q1
  cases (State.methodFound?_of_named hnamed hy).symm.trans q2
  cases hnamed.symm.trans q3
  have hselP : selectMethod e.platform s.vm cellB.cls mk = .method mk := by rw [Launch.admits_selectMethod X.admits]; exact q4
  obtain ⟨vm₁, X₁, hstep₁⟩ := X.invokevirtual hexec hown hlink hnamed hmethM hstM hkP hkPi hy (a := b) (cell := cellB) hcell
    (fun z h => by rw [h] at hobj; cases hobj) hselP hmethM habM hkP hkPi (g := g) hg (argsL := argsL) (rest := rest) (hlen _ hsigM) hstack hdg
  rcases hK m meth c ⟨T.setVm vm₁, locs, cells, slots⟩ { g with stack := rest } (.invokevirtual index) mk (Value.ref b :: argsL).toArray X₁ hg hsize hdg hW (X₁.named hnamed) (hpre vm₁ X₁.warmed) with ⟨v, B, X', hpost, hsteps⟩ | ⟨q, B, X', hpost, hsteps⟩
  · exact Or.inl ⟨v, vm₁, B, X₁.warmed, X', hpost, fun target h => hstep₁ _ fun acts => by rw [doInvoke_state]; exact hsteps.trans h⟩
  · exact Or.inr ⟨q, vm₁, B, X₁.warmed, X', hpost, hstep₁ _ fun acts => by rw [doInvoke_state]; exact hsteps⟩
theorem vx_callS (X : Stand p l e R s m args below meth c T locs cells slots) (hexec : p.tables.exec = Jvm.exec) {own : String} {index : Nat} {y : MethodName} {bytes : ByteArray} {maxL : Nat} {ret : Option FieldType}
    (hown : s.vm.findClass own = some m.cls) (hlink : (Cond.methodLink own index y).before args s = true) (hstat : (Cond.static y).before args s = true) (hinit : (Cond.initialized y.cls).before args s = true)
    (hcode : (Cond.code y bytes maxL ret).before args s = true) (hy : y.cls ≠ "java/lang/invoke/MethodHandle" ∧ y.cls ≠ "java/lang/invoke/VarHandle")
    {W9 : Nat} {Pre : Pt → Array Value → Prop} {Post : Pt → Array Value → Option Value → Pt → Prop} {PostX : Pt → Array Value → Addr → Pt → Prop} (hK : vx_Back l R p e below s args y 3 W9 Pre Post PostX)
    {g : JFrame} (hg : g.method = m) (hsize : g.locals.size = c.maxLocals) {argsL rest : List Value} (hlen : ∀ sig, parseMethodDescriptor y.desc = some sig → argsL.length = sig.parameters.length)
    (hstack : g.stack = argsL.reverse ++ rest) (hW : 2 * g.monitorRoom + (rest.map fun v => v.category).sum ≤ W9) (hdg : decode c.code g.pc = .ok (.invokestatic index, 3))
    (hpre : ∀ vm₁, s.WarmedH vm₁ → Pre ⟨T.setVm vm₁, locs, cells, slots⟩ argsL.toArray) :
    (∃ (v : Option Value) (vm₁ : Vm) (B : Pt), s.WarmedH vm₁ ∧ Stand p l e R s m args below meth c B.U B.locs B.cells B.slots ∧ Post ⟨T.setVm vm₁, locs, cells, slots⟩ argsL.toArray v B ∧
      ∀ target, Steps p.tables e below (B.U.setTop { g with pc := g.pc + 3, stack := v.toList ++ rest }) target → Steps p.tables e below (T.setTop g) target) ∨
    (∃ (q : Addr) (vm₁ : Vm) (B : Pt), s.WarmedH vm₁ ∧ Stand p l e R s m args below meth c B.U B.locs B.cells B.slots ∧ PostX ⟨T.setVm vm₁, locs, cells, slots⟩ argsL.toArray q B ∧
      Steps p.tables e below (T.setTop g) ((B.U.setTop { g with stack := rest }).pushFrame (.throwing q))) := by
  obtain ⟨mk, hnamed⟩ := Cond.code_named hcode
  obtain ⟨methM, cM, hmethM, -, -, -, -, -, -, hsigM⟩ := Cond.code_spec hnamed hcode
  have hstatic : methM.isStatic = true := Cond.static_spec hnamed hmethM hstat
  obtain ⟨kP, hkP, -⟩ := className_of_methodNamed hnamed
  have hinitP : kP.init = .initialized := Cond.initialized_spec (findClass_of_methodNamed hnamed) hkP hinit
  obtain ⟨vm₁, X₁, hstep₁⟩ := X.invokestatic hexec hown hlink hnamed hmethM hstatic hkP hinitP hy (g := g) hg (argsL := argsL) (rest := rest) (hlen _ hsigM) hstack hdg
  rcases hK m meth c ⟨T.setVm vm₁, locs, cells, slots⟩ { g with stack := rest } (.invokestatic index) mk argsL.toArray X₁ hg hsize hdg hW (X₁.named hnamed) (hpre vm₁ X₁.warmed) with ⟨v, B, X', hpost, hsteps⟩ | ⟨q, B, X', hpost, hsteps⟩
  · exact Or.inl ⟨v, vm₁, B, X₁.warmed, X', hpost, fun target h => hstep₁ _ fun acts => by rw [doInvoke_state]; exact hsteps.trans h⟩
  · exact Or.inr ⟨q, vm₁, B, X₁.warmed, X', hpost, hstep₁ _ fun acts => by rw [doInvoke_state]; exact hsteps⟩
end Calls
theorem vx_cls {s : State} {T : State} {vm₁ : Vm} {E : String} {k : ClassId} (hW : s.WarmedH vm₁) (h : (T.setVm vm₁).vm.findClass E = some k) : s.vm.findClass E = some k := by
  have h1 : vm₁.findClass E = some k := h
  rw [hW.alike.findClass] at h1
  exact h1
/-- the method's frame g, with q thrown over it -/
def vx_W (p : Program) (l : Launch) (e : Env) (R : Room) (s : State) (m : MethodId) (args : Array Value) (below : List Frame) (meth : Method) (c : Code) (H : Heap) (locs : List Loc) (cells slots : Nat) (Q : State → Prop) (g : JFrame) (q : Addr) : Prop :=
  ∀ T : State, T.heap = H → Stand p l e R s m args below meth c T locs cells slots → ∃ t, Steps p.tables e below ((T.setTop g).pushFrame (.throwing q)) t ∧ Q t
def vx_Run (p : Program) (l : Launch) (e : Env) (R : Room) (s : State) (m : MethodId) (args : Array Value) (below : List Frame) (meth : Method) (c : Code) (H : Heap) (locs : List Loc) (cells slots mc ms : Nat) (g : JFrame) (rest : List Value) (Qa : State → Outcome → State → Prop) (XC : String → State → State → Prop) (free : Addr → Prop) : Prop :=
  ∀ T : State, T.heap = H → Stand p l e R s m args below meth c T locs cells slots →
    (∃ (v : Option Value) (st₀ t T' : State) (L : List Loc), st₀.heap = H ∧ Stand p l e R s m args below meth c T' (locs ++ L) (cells + mc) (slots + ms) ∧ (∀ q ∈ L, free q.base) ∧ T'.heap = t.heap ∧ T'.vm = t.vm ∧ Qa st₀ (.returned v) t ∧
      Goes p e below T g T' { g with pc := g.pc + 3, stack := v.toList ++ rest }) ∨
    (∃ (q : Addr) (st₀ t T' : State) (L : List Loc) (E : String) (ce : Cell), st₀.heap = H ∧ Stand p l e R s m args below meth c T' (locs ++ L) (cells + mc) (slots + ms) ∧ (∀ z ∈ L, free z.base) ∧ T'.heap = t.heap ∧ T'.vm = t.vm ∧ XC E st₀ t ∧ t.heap[q]? = some ce ∧ ce.vm = .none ∧ s.vm.findClass E = some ce.cls ∧
      Steps p.tables e below (T.setTop g) ((T'.setTop { g with stack := rest }).pushFrame (.throwing q)))
def vx_X {S : Type} (px : S → Prop) (B : String → S → State → Prop) (A : Nat → Prop) : String → State → State → Prop := fun E st t => ∃ u : S, px u ∧ B E u t ∧ va_F A st t
section Runs
variable {p : Program} {l : Launch} {e : Env} {R : Room} {s : State} {m : MethodId} {args : Array Value} {below : List Frame} {meth : Method} {c : Code} {H : Heap} {locs : List Loc} {cells slots : Nat}
variable {y : MethodName} {bytes cc : ByteArray} {maxL nL mc ms n index : Nat} {ret : Option FieldType} {ws : List Cond} {rm : Room} {Pc : Array Value → State → Prop} {Qc : Array Value → State → Outcome → State → Prop} {XC : String → State → State → Prop} {free : Addr → Prop} {Ts : List Cond} {own C : String} {b : Addr} {As rest : List Value} {g : JFrame}
theorem vx_callBack (cb : CallB R s args own index y bytes maxL ret ws rm mc ms n) (hM : vx_Met l y ws rm Pc Qc XC mc ms free) (hbl : FrameBlind Pc) : vx_Back l R p e below s args y 3 8 (PreOf R mc ms Pc) (PostOf Qc mc ms free) (vx_Post XC mc ms free) := by
  obtain ⟨hrc, hrs, hfr, hlo, hws, hcw, -, hini, -⟩ := cb
  exact vx_back (bytes := bytes) (maxL := maxL) (ret := ret) hM hbl hrc hrs hfr hlo hws hcw (fun a' U hW => word_at hW (Or.inl (by first | rfl | simp [Cond.onTables, Cond.keeps, Cond.steady])) hini)
theorem vx_runV (S : CallFix p m c cc nL s args Ts own) (hM : vx_Met l y ws rm Pc Qc XC mc ms free) (cw : CallW R s args own C index y bytes maxL ret ws rm mc ms n) (hp : PreV s H C b Pc As)
    (hg : g.method = m) (hn : As.length = n) (hsize : g.locals.size = nL) (hstack : g.stack = As.reverse ++ .ref b :: rest) (hW : 2 * g.monitorRoom + (rest.map fun v => v.category).sum ≤ 8) (hdg : decode cc g.pc = .ok (.invokevirtual index, 3)) (hf : cells + mc ≤ R.cells ∧ slots + ms ≤ R.slots) :
    vx_Run p l e R s m args below meth c H locs cells slots mc ms g rest (Qc (Value.ref b :: As).toArray) XC free := by
  have hK : vx_Back l R p e below s args y 3 8 (PreOf R mc ms Pc) (PostOf Qc mc ms free) (vx_Post XC mc ms free) := vx_callBack cw.1 hM hp.1
  obtain ⟨⟨-, -, -, -, -, -, hcode, -, hy, hlen, hl⟩, hin, hse⟩ := cw
  obtain ⟨hx, hb, hml, ho, -⟩ := S
  obtain ⟨-, ⟨cellB, hcB, hoB, hclB⟩, hPc⟩ := hp
  intro T hT X
  rcases vx_callV X hx (C := C) (bytes := bytes) (maxL := maxL) (ret := ret) ho hl hin hse hcode hy hK (by rw [hT]; exact hcB) hoB hclB hg (hsize.trans hml.symm) (argsL := As) (rest := rest) (fun sig h => hn.trans (hlen sig h)) hstack hW (by rw [hb]; exact hdg)
    (fun vm₁ hW₁ => ⟨hf.1, hf.2, hPc (T.setVm vm₁) hT hW₁⟩) with ⟨v, vm₁, ⟨U', l2, c2, s2⟩, hW₁, X', ⟨g', mk, t, L, e1, e2, hq, h1, hL, h2, h3⟩, st⟩ | ⟨q, vm₁, ⟨U', l2, c2, s2⟩, hW₁, X', ⟨g', mk, t, L, E, ce, e1, e2, hq, hce, hcv, hcl, h1, hL, h2, h3⟩, st⟩
  · dsimp only [Pt.U, Pt.locs, Pt.cells, Pt.slots] at X' e1 e2 h1 h2 h3 st
    subst h1; subst h2; subst h3
    exact Or.inl ⟨v, (T.setVm vm₁).calling g' mk (Value.ref b :: As).toArray, t, U', L, hT, X', hL, e1, e2, hq, st⟩
  · dsimp only [Pt.U, Pt.locs, Pt.cells, Pt.slots] at X' e1 e2 h1 h2 h3 st hcl
    subst h1; subst h2; subst h3
    exact Or.inr ⟨q, (T.setVm vm₁).calling g' mk (Value.ref b :: As).toArray, t, U', L, E, ce, hT, X', hL, e1, e2, hq, hce, hcv, vx_cls hW₁ hcl, st⟩
theorem vx_runS (S : CallFix p m c cc nL s args Ts own) (hM : vx_Met l y ws rm Pc Qc XC mc ms free) (cw : CallB R s args own index y bytes maxL ret ws rm mc ms n ∧ (Cond.static y).before args s = true) (hp : PreS s H Pc As)
    (hg : g.method = m) (hn : As.length = n) (hsize : g.locals.size = nL) (hstack : g.stack = As.reverse ++ rest) (hW : 2 * g.monitorRoom + (rest.map fun v => v.category).sum ≤ 8) (hdg : decode cc g.pc = .ok (.invokestatic index, 3)) (hf : cells + mc ≤ R.cells ∧ slots + ms ≤ R.slots) :
    vx_Run p l e R s m args below meth c H locs cells slots mc ms g rest (Qc As.toArray) XC free := by
  have hK : vx_Back l R p e below s args y 3 8 (PreOf R mc ms Pc) (PostOf Qc mc ms free) (vx_Post XC mc ms free) := vx_callBack cw.1 hM hp.1
  obtain ⟨⟨-, -, -, -, -, -, hcode, hini, hy, hlen, hl⟩, hstt⟩ := cw
  obtain ⟨hx, hb, hml, ho, -⟩ := S
  intro T hT X
  rcases vx_callS X hx (bytes := bytes) (maxL := maxL) (ret := ret) ho hl hstt hini hcode hy hK hg (hsize.trans hml.symm) (argsL := As) (rest := rest) (fun sig h => hn.trans (hlen sig h)) hstack hW (by rw [hb]; exact hdg)
    (fun vm₁ hW₁ => ⟨hf.1, hf.2, hp.2 (T.setVm vm₁) hT hW₁⟩) with ⟨v, vm₁, ⟨U', l2, c2, s2⟩, hW₁, X', ⟨g', mk, t, L, e1, e2, hq, h1, hL, h2, h3⟩, st⟩ | ⟨q, vm₁, ⟨U', l2, c2, s2⟩, hW₁, X', ⟨g', mk, t, L, E, ce, e1, e2, hq, hce, hcv, hcl, h1, hL, h2, h3⟩, st⟩
  · dsimp only [Pt.U, Pt.locs, Pt.cells, Pt.slots] at X' e1 e2 h1 h2 h3 st
    subst h1; subst h2; subst h3
    exact Or.inl ⟨v, (T.setVm vm₁).calling g' mk As.toArray, t, U', L, hT, X', hL, e1, e2, hq, st⟩
  · dsimp only [Pt.U, Pt.locs, Pt.cells, Pt.slots] at X' e1 e2 h1 h2 h3 st hcl
    subst h1; subst h2; subst h3
    exact Or.inr ⟨q, (T.setVm vm₁).calling g' mk As.toArray, t, U', L, E, ce, hT, X', hL, e1, e2, hq, hce, hcv, vx_cls hW₁ hcl, st⟩
end Runs
section Rows
variable {p : Program} {l : Launch} {e : Env} {R : Room} {s : State} {m : MethodId} {args : Array Value} {below : List Frame} {meth : Method} {c : Code} {H : Heap} {locs : List Loc} {cells slots : Nat} {Q : State → Prop}
variable {mc ms : Nat} {free : Addr → Prop} {A0 A1 : Nat → Prop} {H0 : Heap} {a : Array Value} {pc : Nat} {ls : Array Slot} {st0 rest : List Value}
theorem vx_keep {st₀ t T' : State} {L : List Loc} (h0 : st₀.heap = H) (e1 : T'.heap = t.heap) (hS : va_S A0 H0 H locs) (hA : ∀ q, q < H.size → A1 q → A0 q) (hf : ∀ q, free q → A0 q) (hL : ∀ q ∈ L, free q.base) (hF : va_F A1 st₀ t) :
    H.size ≤ T'.heap.size ∧ (∀ q : Nat, q < H.size → ¬ A1 q → T'.heap[q]? = H[q]?) ∧ va_S A0 H0 T'.heap (locs ++ L) := by
  obtain ⟨hz, hk⟩ := hF
  rw [h0] at hz hk
  exact ⟨by rw [e1]; exact hz, fun q h1 h2 => by rw [e1]; exact hk q h1 h2,
    ⟨Nat.le_trans hS.1 (by rw [e1]; exact hz), fun q h1 h2 => by rw [e1, hk q (Nat.lt_of_lt_of_le h1 hS.1) (fun z => h2 (hA q (Nat.lt_of_lt_of_le h1 hS.1) z))]; exact hS.2.1 q h1 h2, fun q hq => by
      rcases List.mem_append.mp hq with h | h
      · exact hS.2.2 q h
      · exact hf _ (hL q h)⟩⟩
theorem vx_calli {S SX : Type} {post : Int32 → S → Prop} {px : SX → Prop} {B : S → State → Prop} {BX : String → SX → State → Prop} {AX : Nat → Prop} (hr : vx_Run p l e R s m args below meth c H locs cells slots mc ms (F0 m pc ls st0) rest (va_Qi post B A1 a) (vx_X px BX AX) free) (hS : va_S A0 H0 H locs) (hA : ∀ q, q < H.size → A1 q → A0 q) (hf : ∀ q, free q → A0 q) (hAX : ∀ q, q < H.size → AX q → A0 q)
    (kx : ∀ (E : String) (ce : Cell) (q9 : Addr) (u : SX) (t : State) (H1 : Heap) (locs1 : List Loc), t.heap = H1 → s.vm.Alike t.vm → px u → BX E u t → H.size ≤ H1.size → (∀ q : Nat, q < H.size → ¬ AX q → H1[q]? = H[q]?) → va_S A0 H0 H1 locs1 → H1[q9]? = some ce → ce.vm = .none → s.vm.findClass E = some ce.cls → vx_W p l e R s m args below meth c H1 locs1 (cells + mc) (slots + ms) Q (F0 m pc ls rest) q9)
    (kk : ∀ (r : Int32) (u : S) (t : State) (H1 : Heap) (locs1 : List Loc), t.heap = H1 → s.vm.Alike t.vm → post r u → B u t → H.size ≤ H1.size → (∀ q : Nat, q < H.size → ¬ A1 q → H1[q]? = H[q]?) → va_S A0 H0 H1 locs1 → W p l e R s m args below meth c H1 locs1 (cells + mc) (slots + ms) Q (F0 m (pc + 3) ls (.int r :: rest))) : W p l e R s m args below meth c H locs cells slots Q (F0 m pc ls st0) := by
  intro T hT X
  rcases hr T hT X with ⟨v, st₀, t, T', L, h0, X', hL, e1, e2, ⟨⟨r, u, hv, hp, hb⟩, hF⟩, st⟩ | ⟨q, st₀, t, T', L, E, ce, h0, X', hL, e1, e2, ⟨u, hp, hb, hF⟩, hce, hcv, hcl, st⟩
  · cases hv
    obtain ⟨k1, k2, k3⟩ := vx_keep h0 e1 hS hA hf hL hF
    obtain ⟨t2, a1, b1⟩ := kk r u t T'.heap (locs ++ L) e1.symm (by rw [← e2]; exact X'.warmed.alike) hp hb k1 k2 k3 T' rfl X'
    exact ⟨t2, st t2 a1, b1⟩
  · obtain ⟨k1, k2, k3⟩ := vx_keep h0 e1 hS hAX hf hL hF
    obtain ⟨t2, a1, b1⟩ := kx E ce q u t T'.heap (locs ++ L) e1.symm (by rw [← e2]; exact X'.warmed.alike) hp hb k1 k2 k3 (by rw [e1]; exact hce) hcv hcl T' rfl X'
    exact ⟨t2, st.trans a1, b1⟩
theorem vx_calll {S SX : Type} {post : Int64 → S → Prop} {px : SX → Prop} {B : S → State → Prop} {BX : String → SX → State → Prop} {AX : Nat → Prop} (hr : vx_Run p l e R s m args below meth c H locs cells slots mc ms (F0 m pc ls st0) rest (va_Ql post B A1 a) (vx_X px BX AX) free) (hS : va_S A0 H0 H locs) (hA : ∀ q, q < H.size → A1 q → A0 q) (hf : ∀ q, free q → A0 q) (hAX : ∀ q, q < H.size → AX q → A0 q)
    (kx : ∀ (E : String) (ce : Cell) (q9 : Addr) (u : SX) (t : State) (H1 : Heap) (locs1 : List Loc), t.heap = H1 → s.vm.Alike t.vm → px u → BX E u t → H.size ≤ H1.size → (∀ q : Nat, q < H.size → ¬ AX q → H1[q]? = H[q]?) → va_S A0 H0 H1 locs1 → H1[q9]? = some ce → ce.vm = .none → s.vm.findClass E = some ce.cls → vx_W p l e R s m args below meth c H1 locs1 (cells + mc) (slots + ms) Q (F0 m pc ls rest) q9)
    (kk : ∀ (r : Int64) (u : S) (t : State) (H1 : Heap) (locs1 : List Loc), t.heap = H1 → s.vm.Alike t.vm → post r u → B u t → H.size ≤ H1.size → (∀ q : Nat, q < H.size → ¬ A1 q → H1[q]? = H[q]?) → va_S A0 H0 H1 locs1 → W p l e R s m args below meth c H1 locs1 (cells + mc) (slots + ms) Q (F0 m (pc + 3) ls (.long r :: rest))) : W p l e R s m args below meth c H locs cells slots Q (F0 m pc ls st0) := by
  intro T hT X
  rcases hr T hT X with ⟨v, st₀, t, T', L, h0, X', hL, e1, e2, ⟨⟨r, u, hv, hp, hb⟩, hF⟩, st⟩ | ⟨q, st₀, t, T', L, E, ce, h0, X', hL, e1, e2, ⟨u, hp, hb, hF⟩, hce, hcv, hcl, st⟩
  · cases hv
    obtain ⟨k1, k2, k3⟩ := vx_keep h0 e1 hS hA hf hL hF
    obtain ⟨t2, a1, b1⟩ := kk r u t T'.heap (locs ++ L) e1.symm (by rw [← e2]; exact X'.warmed.alike) hp hb k1 k2 k3 T' rfl X'
    exact ⟨t2, st t2 a1, b1⟩
  · obtain ⟨k1, k2, k3⟩ := vx_keep h0 e1 hS hAX hf hL hF
    obtain ⟨t2, a1, b1⟩ := kx E ce q u t T'.heap (locs ++ L) e1.symm (by rw [← e2]; exact X'.warmed.alike) hp hb k1 k2 k3 (by rw [e1]; exact hce) hcv hcl T' rfl X'
    exact ⟨t2, st.trans a1, b1⟩
theorem vx_callf {S SX : Type} {post : UInt32 → S → Prop} {px : SX → Prop} {B : S → State → Prop} {BX : String → SX → State → Prop} {AX : Nat → Prop} (hr : vx_Run p l e R s m args below meth c H locs cells slots mc ms (F0 m pc ls st0) rest (va_Qf post B A1 a) (vx_X px BX AX) free) (hS : va_S A0 H0 H locs) (hA : ∀ q, q < H.size → A1 q → A0 q) (hf : ∀ q, free q → A0 q) (hAX : ∀ q, q < H.size → AX q → A0 q)
    (kx : ∀ (E : String) (ce : Cell) (q9 : Addr) (u : SX) (t : State) (H1 : Heap) (locs1 : List Loc), t.heap = H1 → s.vm.Alike t.vm → px u → BX E u t → H.size ≤ H1.size → (∀ q : Nat, q < H.size → ¬ AX q → H1[q]? = H[q]?) → va_S A0 H0 H1 locs1 → H1[q9]? = some ce → ce.vm = .none → s.vm.findClass E = some ce.cls → vx_W p l e R s m args below meth c H1 locs1 (cells + mc) (slots + ms) Q (F0 m pc ls rest) q9)
    (kk : ∀ (r : UInt32) (u : S) (t : State) (H1 : Heap) (locs1 : List Loc), t.heap = H1 → s.vm.Alike t.vm → post r u → B u t → H.size ≤ H1.size → (∀ q : Nat, q < H.size → ¬ A1 q → H1[q]? = H[q]?) → va_S A0 H0 H1 locs1 → W p l e R s m args below meth c H1 locs1 (cells + mc) (slots + ms) Q (F0 m (pc + 3) ls (.float r :: rest))) : W p l e R s m args below meth c H locs cells slots Q (F0 m pc ls st0) := by
  intro T hT X
  rcases hr T hT X with ⟨v, st₀, t, T', L, h0, X', hL, e1, e2, ⟨⟨r, u, hv, hp, hb⟩, hF⟩, st⟩ | ⟨q, st₀, t, T', L, E, ce, h0, X', hL, e1, e2, ⟨u, hp, hb, hF⟩, hce, hcv, hcl, st⟩
  · cases hv
    obtain ⟨k1, k2, k3⟩ := vx_keep h0 e1 hS hA hf hL hF
    obtain ⟨t2, a1, b1⟩ := kk r u t T'.heap (locs ++ L) e1.symm (by rw [← e2]; exact X'.warmed.alike) hp hb k1 k2 k3 T' rfl X'
    exact ⟨t2, st t2 a1, b1⟩
  · obtain ⟨k1, k2, k3⟩ := vx_keep h0 e1 hS hAX hf hL hF
    obtain ⟨t2, a1, b1⟩ := kx E ce q u t T'.heap (locs ++ L) e1.symm (by rw [← e2]; exact X'.warmed.alike) hp hb k1 k2 k3 (by rw [e1]; exact hce) hcv hcl T' rfl X'
    exact ⟨t2, st.trans a1, b1⟩
theorem vx_calld {S SX : Type} {post : UInt64 → S → Prop} {px : SX → Prop} {B : S → State → Prop} {BX : String → SX → State → Prop} {AX : Nat → Prop} (hr : vx_Run p l e R s m args below meth c H locs cells slots mc ms (F0 m pc ls st0) rest (va_Qd post B A1 a) (vx_X px BX AX) free) (hS : va_S A0 H0 H locs) (hA : ∀ q, q < H.size → A1 q → A0 q) (hf : ∀ q, free q → A0 q) (hAX : ∀ q, q < H.size → AX q → A0 q)
    (kx : ∀ (E : String) (ce : Cell) (q9 : Addr) (u : SX) (t : State) (H1 : Heap) (locs1 : List Loc), t.heap = H1 → s.vm.Alike t.vm → px u → BX E u t → H.size ≤ H1.size → (∀ q : Nat, q < H.size → ¬ AX q → H1[q]? = H[q]?) → va_S A0 H0 H1 locs1 → H1[q9]? = some ce → ce.vm = .none → s.vm.findClass E = some ce.cls → vx_W p l e R s m args below meth c H1 locs1 (cells + mc) (slots + ms) Q (F0 m pc ls rest) q9)
    (kk : ∀ (r : UInt64) (u : S) (t : State) (H1 : Heap) (locs1 : List Loc), t.heap = H1 → s.vm.Alike t.vm → post r u → B u t → H.size ≤ H1.size → (∀ q : Nat, q < H.size → ¬ A1 q → H1[q]? = H[q]?) → va_S A0 H0 H1 locs1 → W p l e R s m args below meth c H1 locs1 (cells + mc) (slots + ms) Q (F0 m (pc + 3) ls (.double r :: rest))) : W p l e R s m args below meth c H locs cells slots Q (F0 m pc ls st0) := by
  intro T hT X
  rcases hr T hT X with ⟨v, st₀, t, T', L, h0, X', hL, e1, e2, ⟨⟨r, u, hv, hp, hb⟩, hF⟩, st⟩ | ⟨q, st₀, t, T', L, E, ce, h0, X', hL, e1, e2, ⟨u, hp, hb, hF⟩, hce, hcv, hcl, st⟩
  · cases hv
    obtain ⟨k1, k2, k3⟩ := vx_keep h0 e1 hS hA hf hL hF
    obtain ⟨t2, a1, b1⟩ := kk r u t T'.heap (locs ++ L) e1.symm (by rw [← e2]; exact X'.warmed.alike) hp hb k1 k2 k3 T' rfl X'
    exact ⟨t2, st t2 a1, b1⟩
  · obtain ⟨k1, k2, k3⟩ := vx_keep h0 e1 hS hAX hf hL hF
    obtain ⟨t2, a1, b1⟩ := kx E ce q u t T'.heap (locs ++ L) e1.symm (by rw [← e2]; exact X'.warmed.alike) hp hb k1 k2 k3 (by rw [e1]; exact hce) hcv hcl T' rfl X'
    exact ⟨t2, st.trans a1, b1⟩
theorem vx_callv {S SX : Type} {post : S → Prop} {px : SX → Prop} {B : S → State → Prop} {BX : String → SX → State → Prop} {AX : Nat → Prop} (hr : vx_Run p l e R s m args below meth c H locs cells slots mc ms (F0 m pc ls st0) rest (va_Qv post B A1 a) (vx_X px BX AX) free) (hS : va_S A0 H0 H locs) (hA : ∀ q, q < H.size → A1 q → A0 q) (hf : ∀ q, free q → A0 q) (hAX : ∀ q, q < H.size → AX q → A0 q)
    (kx : ∀ (E : String) (ce : Cell) (q9 : Addr) (u : SX) (t : State) (H1 : Heap) (locs1 : List Loc), t.heap = H1 → s.vm.Alike t.vm → px u → BX E u t → H.size ≤ H1.size → (∀ q : Nat, q < H.size → ¬ AX q → H1[q]? = H[q]?) → va_S A0 H0 H1 locs1 → H1[q9]? = some ce → ce.vm = .none → s.vm.findClass E = some ce.cls → vx_W p l e R s m args below meth c H1 locs1 (cells + mc) (slots + ms) Q (F0 m pc ls rest) q9)
    (kk : ∀ (u : S) (t : State) (H1 : Heap) (locs1 : List Loc), t.heap = H1 → s.vm.Alike t.vm → post u → B u t → H.size ≤ H1.size → (∀ q : Nat, q < H.size → ¬ A1 q → H1[q]? = H[q]?) → va_S A0 H0 H1 locs1 → W p l e R s m args below meth c H1 locs1 (cells + mc) (slots + ms) Q (F0 m (pc + 3) ls (rest))) : W p l e R s m args below meth c H locs cells slots Q (F0 m pc ls st0) := by
  intro T hT X
  rcases hr T hT X with ⟨v, st₀, t, T', L, h0, X', hL, e1, e2, ⟨⟨u, hv, hp, hb⟩, hF⟩, st⟩ | ⟨q, st₀, t, T', L, E, ce, h0, X', hL, e1, e2, ⟨u, hp, hb, hF⟩, hce, hcv, hcl, st⟩
  · cases hv
    obtain ⟨k1, k2, k3⟩ := vx_keep h0 e1 hS hA hf hL hF
    obtain ⟨t2, a1, b1⟩ := kk u t T'.heap (locs ++ L) e1.symm (by rw [← e2]; exact X'.warmed.alike) hp hb k1 k2 k3 T' rfl X'
    exact ⟨t2, st t2 a1, b1⟩
  · obtain ⟨k1, k2, k3⟩ := vx_keep h0 e1 hS hAX hf hL hF
    obtain ⟨t2, a1, b1⟩ := kx E ce q u t T'.heap (locs ++ L) e1.symm (by rw [← e2]; exact X'.warmed.alike) hp hb k1 k2 k3 (by rw [e1]; exact hce) hcv hcl T' rfl X'
    exact ⟨t2, st.trans a1, b1⟩
/-- caught by the row x of this method's table; the rows ahead don't take it -/
theorem vx_catch {own name : String} {E : String} {ce : Cell} {q : Addr} (hown : s.vm.findClass own = some m.cls) (pre : List ExceptionTableEntry) (x : ExceptionTableEntry) (suf : List ExceptionTableEntry) (hsplit : c.exceptionTable.toList = pre ++ x :: suf)
    (hpass : ∀ z ∈ pre, covers z pc = false ∨ (z.catchType ≠ 0 ∧ ∃ nm : String, (Cond.classLink own z.catchType nm).before args s = true ∧ va_Nc E nm s)) (hx : covers x pc = true) (h0 : x.catchType ≠ 0)
    (hlink : (Cond.classLink own x.catchType name).before args s = true) (hcast : (Cond.castable E name).before args s = true) (hcell : H[q]? = some ce) (hv : ce.vm = .none) (hcl : s.vm.findClass E = some ce.cls)
    (kk : W p l e R s m args below meth c H locs cells slots Q (F0 m x.handlerPc ls [.ref q])) : vx_W p l e R s m args below meth c H locs cells slots Q (F0 m pc ls rest) q := by
  intro T hT X
  have hpl : e.platform.magicAccessors = ({} : Platform).magicAccessors := by rw [X.admits.platform]
  obtain ⟨c3, c4, hc3, hc4, hasg⟩ := Cond.castable_spec hcast
  cases Option.some.inj (hc3.symm.trans hcl)
  obtain ⟨c5, hc5, hcl5⟩ := Cond.classLink_spec hown hlink e.platform hpl
  cases Option.some.inj (hc4.symm.trans hc5)
  obtain ⟨vm', X', st⟩ := X.thenCaughtThrough q (g := F0 m pc ls rest) rfl (Steps.refl _) (by rw [hT]; exact hcell) (by rw [hv]; rfl) (by obtain ⟨k9, h9, -⟩ := Vm.findClass_spec hcl; exact ⟨k9, h9⟩) pre x suf hsplit
    (fun z hz => by
      rcases hpass z hz with h | ⟨hz0, nm, hl1, hn1⟩
      · exact Or.inl h
      · obtain ⟨c6, hc6, hcl6⟩ := Cond.classLink_spec hown hl1 e.platform hpl
        obtain ⟨a8, b8, h1, h2, h3⟩ := hn1
        cases Option.some.inj (h1.symm.trans hcl)
        cases Option.some.inj (h2.symm.trans hc6)
        exact Or.inr ⟨hz0, _, hcl6, h3⟩) hx (Or.inr ⟨h0, c4, hcl5, hasg⟩)
  obtain ⟨t, a1, b1⟩ := kk (T.setVm vm') hT X'
  exact ⟨t, st.trans a1, b1⟩
end Rows
section Ends
variable {p : Program} {l : Launch} {e : Env} {R : Room} {s : State} {m : MethodId} {args : Array Value} {below : List Frame} {meth : Method} {c : Code} {H : Heap} {locs : List Loc} {cells slots : Nat} {Q : State → Prop}
variable {mc ms : Nat} {free : Addr → Prop} {A0 A1 : Nat → Prop} {H0 : Heap} {a : Array Value} {ls : Array Slot} {st0 rest : List Value}
variable {Qc : Array Value → State → Outcome → State → Prop} {XC : String → State → State → Prop}
/-- what a body that may throw owes at its end -/
def vx_MQ (below : List Frame) (Qc : Array Value → State → Outcome → State → Prop) (XC : String → State → State → Prop) (a : Array Value) (s : State) (mc ms : Nat) (free : Addr → Prop) : State → Prop := fun t =>
  ∃ o, t.status = .running ∧ Ended t below o ∧ vx_Q Qc XC mc ms free a s o t
theorem vx_ret {g : JFrame} {mc ms : Nat} (k : W p l e R s m args below meth c H locs cells slots (MQ below Qc args s mc ms free) g) : W p l e R s m args below meth c H locs cells slots (vx_MQ below Qc XC args s mc ms free) g := by
  intro T hT X
  obtain ⟨t, a1, o, b1, b2, b3, b4⟩ := k T hT X
  exact ⟨t, a1, o, b1, b2, Or.inl ⟨b3, b4⟩⟩
/-- not caught here: it goes on to the caller -/
theorem vx_widen {g : JFrame} {q : Addr} {k n : Nat} (h1 : cells ≤ k) (h2 : slots ≤ n) (kk : vx_W p l e R s m args below meth c H locs k n Q g q) : vx_W p l e R s m args below meth c H locs cells slots Q g q := fun T hT X => kk T hT (stand_widen X h1 h2)
theorem vx_out {pc : Nat} {E : String} {ce : Cell} {q : Addr} {mc ms : Nat} (hout : ∀ x ∈ c.exceptionTable.toList, covers x pc = false) (hlocks : meth.locks = false) (hcell : H[q]? = some ce) (hv : ce.vm = .none) (hcl : s.vm.findClass E = some ce.cls)
    (hx : ∀ t : State, t.heap = H → s.vm.Alike t.vm → XC E s t) (hf : ∀ z ∈ locs, free z.base) (hc : cells ≤ mc) (hs : slots ≤ ms) :
    vx_W p l e R s m args below meth c H locs cells slots (vx_MQ below Qc XC args s mc ms free) (F0 m pc ls rest) q := by
  intro T hT X
  obtain ⟨st1, hrun, hend, hW, hsm⟩ := X.leaveThrown q (g := F0 m pc ls rest) rfl rfl rfl hout hlocks
  have hcell9 : (T.setFrames (.throwing q :: below)).heap[q]? = some ce := by
    show T.heap[q]? = some ce
    rw [hT]; exact hcell
  exact ⟨_, st1, .threw q, hrun, hend, Or.inr ⟨q, rfl, E, ce, locs, hx _ hT hW.alike, hcell9, hv, hcl, hW, hsm.mono hc hs, hf⟩⟩
theorem vx_frame {U : State} {k n : Nat} (h : s.sameButNew ({ U with vm := s.vm } : State) locs k n) : s.heap.size ≤ U.heap.size ∧ ∀ q : Nat, q < s.heap.size → (∀ z ∈ locs, z.base ≠ q) → U.heap[q]? = s.heap[q]? := by
  obtain ⟨-, h2, -, -, -, h6⟩ := h
  refine ⟨h2, fun q hq hz => ?_⟩
  obtain ⟨c9, e1, e2, e3, e4⟩ := h6 q _ (Array.getElem?_eq_getElem hq)
  have hs : c9.slots = (s.heap[q]).slots := Array.ext_getElem? fun i => e4 i fun hm => hz _ hm rfl
  have h9 : c9 = s.heap[q] := by
    rw [hs] at e2
    exact e2
  have e5 : U.heap[q]? = some c9 := e1
  rw [e5, h9, Array.getElem?_eq_getElem hq]
/-- the words of a throw but the four that speak of the heap -/
def vx_no (w : Cond) : Bool := decide (w ≠ .isRef (.static Bundle.tN "UNASSIGNED_STACK" Bundle.steD)) && decide (w ≠ .isRef (.static Bundle.tN "SUPPRESSED_SENTINEL" Bundle.listD)) && decide (w ≠ .laysStatic Bundle.tN "UNASSIGNED_STACK" Bundle.steD) && decide (w ≠ .laysStatic Bundle.tN "SUPPRESSED_SENTINEL" Bundle.listD)
def vx_at0 (own : String) (ic : Nat) (X : String) (names : List String) : List Cond := (Bundle.ownAtoms0 own ic X names).filter vx_no
def vx_atS (own : String) (ic : Nat) (X : String) (names : List String) : List Cond := (Bundle.ownAtoms own ic X names).filter vx_no
/-- a word that the tables alone decide, or a good one -/
def vx_ot (w : Cond) : Bool := w.onTables || goodWord w
theorem vx_ot_at {args a' : Array Value} {s U : State} {w : Cond} (hW : s.WarmedH U.vm) (hvm : s.vm = U.vm) (hg : vx_ot w = true) (h : w.before args s = true) : w.before a' U = true := by
  simp only [vx_ot, Bool.or_eq_true] at hg
  rcases hg with hg | hg
  · exact va_tabs hg hvm h
  · exact word_at hW (good_of_word hg) h
/-- a list's words: the good ones out of the method's own list, the others by premises of their own -/
theorem vx_hat {args : Array Value} {s : State} {L B : List Cond} (h1 : ∀ w ∈ L.filter goodWord, w.before args s = true) (h2 : ∀ w ∈ L.filter (fun w => !goodWord w), w ∈ B) (h3 : ∀ w ∈ B, w.before args s = true) : ∀ w ∈ L, w.before args s = true := by
  intro w hw
  by_cases g : goodWord w = true
  · exact h1 w (List.mem_filter.mpr ⟨hw, g⟩)
  · refine h3 w (h2 w (List.mem_filter.mpr ⟨hw, ?_⟩))
    show (!goodWord w) = true
    cases hgw : goodWord w
    · rfl
    · exact absurd hgw g
theorem vx_c {args : Array Value} {s : State} {w : Cond} {B : List Cond} (h : w.before args s = true) (t : ∀ w ∈ B, w.before args s = true) : ∀ w' ∈ w :: B, w'.before args s = true := fun w' h' => (List.mem_cons.mp h').elim (fun e => by rw [e]; exact h) (t w')
theorem vx_n {args : Array Value} {s : State} : ∀ w ∈ ([] : List Cond), w.before args s = true := fun _ h => nomatch h
theorem vx_own {args : Array Value} {s : State} {L : List Cond} (h1 : ∀ w ∈ L.filter vx_no, w.before args s = true)
    (hU : (Cond.isRef (.static Bundle.tN "UNASSIGNED_STACK" Bundle.steD)).before args s = true) (hN : (Cond.isRef (.static Bundle.tN "SUPPRESSED_SENTINEL" Bundle.listD)).before args s = true)
    (lU : (Cond.laysStatic Bundle.tN "UNASSIGNED_STACK" Bundle.steD).before args s = true) (lN : (Cond.laysStatic Bundle.tN "SUPPRESSED_SENTINEL" Bundle.listD).before args s = true) : ∀ w ∈ L, w.before args s = true := by
  intro w hw
  by_cases e1 : w = .isRef (.static Bundle.tN "UNASSIGNED_STACK" Bundle.steD)
  · rw [e1]; exact hU
  · by_cases e2 : w = .isRef (.static Bundle.tN "SUPPRESSED_SENTINEL" Bundle.listD)
    · rw [e2]; exact hN
    · by_cases e3 : w = .laysStatic Bundle.tN "UNASSIGNED_STACK" Bundle.steD
      · rw [e3]; exact lU
      · by_cases e4 : w = .laysStatic Bundle.tN "SUPPRESSED_SENTINEL" Bundle.listD
        · rw [e4]; exact lN
        · exact h1 w (List.mem_filter.mpr ⟨hw, by unfold vx_no; rw [decide_eq_true e1, decide_eq_true e2, decide_eq_true e3, decide_eq_true e4]; rfl⟩)
/-- where a static field lies, its class's statics cell in H -/
def vx_L (C n d : String) (A : Nat → Prop) (U : State) (H : Heap) : Prop := ∃ (c : ClassId) (k : Class) (i : Nat) (f : Field) (a : Nat) (cell : Cell), U.vm.findClass C = some c ∧ U.fieldFound? C n d = some (c, k, i, f) ∧ f.isStatic = true ∧ k.statics = some a ∧ H[a]? = some cell ∧ cell.vm.isStatics = true ∧ cell.cls = c ∧ f.slot < cell.slots.size ∧ k.staticTypes[f.slot]? = some f.type ∧ ¬ A a
theorem vx_L.moved {C n d : String} {A : Nat → Prop} {u U : State} {H : Heap} (hvm : u.vm.Alike U.vm) (h : vx_L C n d A u H) : vx_L C n d A U H := by
  obtain ⟨c, k, i, f, a, cell, h1, h2, h3, h4, h5, h6, h7, h8, h9, h10⟩ := h
  obtain ⟨k', hi', he⟩ := State.fieldFound?_setVm hvm h2
  exact ⟨c, k', i, f, a, cell, by rw [hvm.findClass]; exact h1, hi', h3, by rw [he]; exact h4, h5, h6, h7, h8, by rw [he]; exact h9, h10⟩
theorem vx_L.kept {C n d : String} {A : Nat → Prop} {U : State} {H H1 : Heap} (h : vx_L C n d A U H) (hq : ∀ a : Nat, a < H.size → ¬ A a → H1[a]? = H[a]?) : vx_L C n d A U H1 := by
  obtain ⟨c, k, i, f, a, cell, h1, h2, h3, h4, h5, h6, h7, h8, h9, h10⟩ := h
  exact ⟨c, k, i, f, a, cell, h1, h2, h3, h4, by rw [hq a (Array.getElem?_eq_some_iff.mp h5).1 h10]; exact h5, h6, h7, h8, h9, h10⟩
theorem vx_L.narrow {C n d : String} {A B : Nat → Prop} {U : State} {H : Heap} (h : vx_L C n d A U H) (hAB : ∀ q, B q → A q) : vx_L C n d B U H := by
  obtain ⟨c, k, i, f, a, cell, h1, h2, h3, h4, h5, h6, h7, h8, h9, h10⟩ := h
  exact ⟨c, k, i, f, a, cell, h1, h2, h3, h4, h5, h6, h7, h8, h9, fun z => h10 (hAB _ z)⟩
theorem vx_L.word {C n d : String} {A : Nat → Prop} {s : State} {args : Array Value} (h : vx_L C n d A s s.heap) : (Cond.laysStatic C n d).before args s = true := by
  obtain ⟨c, k, i, f, a, cell, h1, h2, h3, h4, h5, h6, h7, h8, h9, -⟩ := h
  show (Cond.laysStatic C n d).holds args s none s [] = true
  exact Cond.laysStatic_of h1 h2 h3 h4 h5 h6 h7 h8 h9
/-- .. and what it holds: null or some reference -/
def vx_Zq (C n d : String) (A : Nat → Prop) (U : State) (H : Heap) : Prop := va_Zq C n d A U H ∧ vx_L C n d A U H
theorem vx_Zq.moved {C n d : String} {A : Nat → Prop} {u U : State} {H : Heap} (hvm : u.vm.Alike U.vm) (h : vx_Zq C n d A u H) : vx_Zq C n d A U H := ⟨va_Zq.moved hvm h.1, vx_L.moved hvm h.2⟩
theorem vx_Zq.kept {C n d : String} {A : Nat → Prop} {U : State} {H H1 : Heap} (h : vx_Zq C n d A U H) (hq : ∀ a : Nat, a < H.size → ¬ A a → H1[a]? = H[a]?) : vx_Zq C n d A U H1 := ⟨va_Zq.kept h.1 hq, vx_L.kept h.2 hq⟩
theorem vx_Zq.narrow {C n d : String} {A B : Nat → Prop} {U : State} {H : Heap} (h : vx_Zq C n d A U H) (hAB : ∀ q, B q → A q) : vx_Zq C n d B U H := ⟨va_Zq.narrow h.1 hAB, vx_L.narrow h.2 hAB⟩
theorem vx_Zqof {args : Array Value} {s : State} {C n d : String} {A : Nat → Prop} (hl : (Cond.laysStatic C n d).before args s = true) (hini : (Cond.initialized C).before args s = true) (h : (Cond.isRef (.static C n d)).before args s = true) (hA : ∀ a : Nat, a < s.heap.size → ¬ A a) : vx_Zq C n d A s s.heap := by
  refine ⟨va_Zqof hl hini h hA, ?_⟩
  obtain ⟨c, k, i, f, a, cell, h1, h2, h3, h4, h5, h6, h7, h8, h9⟩ := Cond.laysStatic_spec hl
  exact ⟨c, k, i, f, a, cell, h1, h2, h3, h4, h5, h6, h7, h8, h9, hA a (Array.getElem?_eq_some_iff.mp h5).1⟩
theorem vx_isRef {C n d : String} {v : Value} {A : Nat → Prop} {s : State} {args : Array Value} (h : va_Z C n d v A s s.heap) (hv : v.isRef = true) : (Cond.isRef (.static C n d)).before args s = true := by
  obtain ⟨cf, kf, fi, f, a, cell, h1, h2, h3, h4, h5, h6, h7, -⟩ := h
  have he : (Term.static C n d).eval args s none [] s = some v := by
    simp [Term.eval, State.fieldNamed?, h1, h2, h4, h5, h6, h7]
  simp only [Cond.before, Cond.holds, Cond.value, he]
  cases v <;> simp_all [Value.isRef]
theorem vx_isRefq {C n d : String} {A : Nat → Prop} {s : State} {args : Array Value} (h : va_Zq C n d A s s.heap) : (Cond.isRef (.static C n d)).before args s = true := by
  rcases h with h | ⟨t, h⟩
  · exact vx_isRef h rfl
  · exact vx_isRef h rfl
/-- the same frame, seen from here: as if the method were called anew in this heap -/
theorem vx_rebase {T : State} (X : Stand p l e R s m args below meth c T locs cells slots) {R' : Room} (hf : R'.frames ≤ R.frames) (hl : R'.locals ≤ R.locals) (hc : cells + R'.cells ≤ R.cells) (hs : slots + R'.slots ≤ R.slots) :
    Stand p l e R' ((T.setVm s.vm).setFrames (.invoking m args :: below)) m args below meth c T [] 0 0 := by
  have htop : (T.setVm s.vm).topJava?.isSome := X.here.top
  have hF : ((T.setVm s.vm).setFrames (.invoking m args :: below)).frames = .invoking m args :: below := State.frames_setFrames _ (State.cur_lt_of_top htop)
  obtain ⟨g₀, hg0⟩ := Option.isSome_iff_exists.mp htop
  obtain ⟨r, hr⟩ := State.topJava?_eq_some.mp hg0
  have hl9 : e.platform.stackLimits (T.setVm s.vm).me = e.platform.stackLimits s.me := X.limits
  have hb9 : (T.setVm s.vm).me.stackBytes = s.me.stackBytes := X.bytes
  refine ⟨X.admits, X.cas, X.clock, hF, ?_, X.hears, X.method, X.code, X.here, X.tail, X.warmed, ?_, ?_, ?_⟩
  · have h := X.room
    have hU : ((T.setVm s.vm).setFrames (.invoking m args :: below)).localsInUse = s.localsInUse := by
      rw [State.localsInUse_invoking hF (meth := meth) (c := c) X.method X.code, State.localsInUse_invoking X.frames X.method X.code]
    simp only [State.hasRoom, Bool.and_eq_true, decide_eq_true_eq] at h ⊢
    obtain ⟨⟨⟨⟨h1, h2, h3, h4, h5, h6⟩, h7⟩, h8⟩, h9⟩ := h
    rw [X.frames, List.length_cons] at h2 h3
    have q1 := X.heapSize
    have q2 := X.used
    simp only [hF, hU, List.length_cons, State.stackLimits_setFrames, State.stackBytes_setFrames, hl9, hb9]
    refine ⟨⟨⟨⟨by omega, by omega, by omega, by omega, by omega, h6⟩, ?_⟩, ?_⟩, X.book⟩
    · show T.heap.size + R'.cells ≤ e.platform.maxCells
      omega
    · show T.slotsUsed + R'.slots ≤ e.platform.maxSlots
      omega
  · rw [State.stackLimits_setFrames]; rfl
  · rw [State.stackBytes_setFrames]; rfl
  · refine ⟨?_, Nat.le_refl _, Nat.le_refl _, ?_, ?_, fun a c9 h9 => ⟨c9, h9, rfl, rfl, fun _ _ => rfl⟩⟩
    · obtain ⟨t, ht, -⟩ := State.frames_cons hr
      show T.setVm s.vm = { ((T.setVm s.vm).setFrames (.invoking m args :: below)).setFrames (T.setVm s.vm).frames with heap := T.heap, slotsUsed := T.slotsUsed }
      rw [State.setFrames_setFrames, State.setFrames_self ht]
      rfl
    · show T.slotsUsed = T.slotsUsed + ((T.heap.toList.drop T.heap.size).map (·.slots.size)).sum
      rw [List.drop_eq_nil_of_le (Nat.le_of_eq Array.length_toList)]
      rfl
    · show ((T.heap.toList.drop T.heap.size).map (·.slots.size)).sum ≤ 0
      rw [List.drop_eq_nil_of_le (Nat.le_of_eq Array.length_toList)]
      exact Nat.le_refl _
/-- 'throw new E()': new; dup; invokespecial; athrow -/
theorem vx_throw0 {cc : ByteArray} {pc : Nat} (hexec : p.tables.exec = Jvm.exec) (hb : c.code = cc) (hl : l.stackTraces = false) {own cls : String} {names : List String} {ik ic mc ms : Nat} {A : Nat → Prop}
    (hown : s.vm.findClass own = some m.cls) (hcls : Bundle.fit cls = true) (hnames : ∀ n ∈ names, Bundle.fit n = true)
    (hk : (Cond.classLink own ik cls).before args s = true) (hini : (Cond.initialized cls).before args s = true) (hat : ∀ w ∈ vx_at0 own ic cls names, w.before args s = true)
    (hgood : ∀ w ∈ Cond.classLink own ik cls :: Cond.initialized cls :: vx_at0 own ic cls names, vx_ot w = true)
    (hU : vx_Zq Bundle.tN "UNASSIGNED_STACK" Bundle.steD A s s.heap) (hN : vx_Zq Bundle.tN "SUPPRESSED_SENTINEL" Bundle.listD A s s.heap) (hS : va_S A s.heap H locs) (hsize : ls.size = c.maxLocals)
    (d0 : decode cc pc = .ok (.new ik, 3)) (d3 : decode cc (pc + 3) = .ok (.dup, 1)) (d4 : decode cc (pc + 4) = .ok (.invokespecial ic, 3)) (d7 : decode cc (pc + 7) = .ok (.athrow, 1))
    (hout : ∀ x ∈ c.exceptionTable.toList, covers x (pc + 7) = false)
    (hRframes : names.length + 3 < R.frames) (hRlocals : (rest.map fun v => v.category).sum + (13 * (names.length + 1) + 42) ≤ R.locals) (hRcells : cells + 1 ≤ R.cells) (hRslots : slots + 6 ≤ R.slots) (hlocks : meth.locks = false)
    (hx : ∀ t : State, s.vm.Alike t.vm → H.size ≤ t.heap.size → (∀ q : Nat, q < H.size → t.heap[q]? = H[q]?) → XC cls s t)
    (hf : ∀ z ∈ locs, free z.base) (hc : cells + 1 ≤ mc) (hs : slots + 6 ≤ ms) :
    W p l e R s m args below meth c H locs cells slots (vx_MQ below Qc XC args s mc ms free) (F0 m pc ls rest) := by
  intro T hT X
  have htr : e.platform.stackTraces = false := (show e.platform.stackTraces = l.stackTraces by rw [X.admits.platform]).trans hl
  have Y := vx_rebase X (R' := { frames := R.frames, locals := R.locals, cells := 1, slots := 6 }) (Nat.le_refl _) (Nat.le_refl _) hRcells hRslots
  obtain ⟨s', hA⟩ : ∃ z, z = (T.setVm s.vm).setFrames (.invoking m args :: below) := ⟨_, rfl⟩
  rw [← hA] at Y
  have hvm : s'.vm = s.vm := by rw [hA]; rfl
  have hhp : s'.heap = H := by rw [hA]; exact hT
  have hW0 : s.WarmedH s'.vm := by rw [hvm]; exact State.WarmedH.refl s
  have hat' : ∀ w ∈ vx_at0 own ic cls names, w.before args s' = true := fun w hw => vx_ot_at hW0 hvm.symm (hgood w (List.mem_cons_of_mem _ (List.mem_cons_of_mem _ hw))) (hat w hw)
  have hk' : (Cond.classLink own ik cls).before args s' = true := vx_ot_at hW0 hvm.symm (hgood _ List.mem_cons_self) hk
  have hini' : (Cond.initialized cls).before args s' = true := vx_ot_at hW0 hvm.symm (hgood _ (List.mem_cons_of_mem _ List.mem_cons_self)) hini
  have hU' : vx_Zq Bundle.tN "UNASSIGNED_STACK" Bundle.steD A s' s'.heap := by rw [hhp]; exact vx_Zq.moved hW0.alike (hU.kept hS.2.1)
  have hN' : vx_Zq Bundle.tN "SUPPRESSED_SENTINEL" Bundle.listD A s' s'.heap := by rw [hhp]; exact vx_Zq.moved hW0.alike (hN.kept hS.2.1)
  have h : ∀ w ∈ Bundle.ownAtoms0 own ic cls names, w.before args s' = true := vx_own hat' (vx_isRefq hU'.1) (vx_isRefq hN'.1) hU'.2.word hN'.2.word
  have hown' : s'.vm.findClass own = some m.cls := by rw [hvm]; exact hown
  have hins : (Cond.instantiable cls 6).before args s' = true := h _ (by simp [Bundle.ownAtoms0])
  obtain ⟨vm₁, cX, kX, hfX, hkX, -, -, X₁, st1⟩ := Y.newCold hexec (own := own) (C := cls) (index := ik) (n := 6) hown' hk' hins hini'
    (g := F0 m pc ls rest) rfl (by rw [hb]; exact d0) (Nat.le_refl _) (Nat.le_refl _)
  generalize hT1 : (T.setVm vm₁).pushCell { cls := cX, slots := kX.instanceTypes.map defaultValue, vm := .none } = T1 at X₁ st1
  have hcat : (Value.ref T.heap.size).category = 1 := rfl
  have hcellA : T1.heap[T.heap.size]? = some (freshCell cX kX) := by rw [← hT1]; exact State.heap_pushCell_size _ _
  have d3' : decode c.code (pc + 3) = .ok (.dup, 1) := by rw [hb]; exact d3
  obtain ⟨U, hsteps, hrun, hend, hW, hsame, ce, hce, hO⟩ := X₁.ctorThrow0 hexec htr (own := own) (cls := cls) (names := names) (ic := ic) hown' hcls hnames h (fun x hx => nomatch hx) hfX hkX hcellA (by rw [hhp, hT]; exact Nat.le_refl _)
    (g := { method := m, pc := pc + 4, locals := ls, stack := .ref T.heap.size :: .ref T.heap.size :: rest, locked := none }) rfl hsize rfl rfl (rest := rest) rfl
    (by rw [hb]; exact d4) (by rw [hb]; exact d7) hout hRframes (by simp only [List.map_cons, List.sum_cons, hcat]; omega) hlocks
  obtain ⟨f1, f2⟩ := vx_frame hsame
  rw [hhp] at f1 f2
  have hWs : s.WarmedH U.vm := State.WarmedH.trans hW0 hW
  have hcl : s.vm.findClass cls = some ce.cls := by
    have h9 := hO.cls
    rw [hvm] at h9
    exact h9
  have hall : s.sameButNew ({ U with vm := s.vm } : State) locs mc ms := by
    subst hA
    obtain ⟨e1, e2⟩ := hsame
    rw [State.setFrames_setFrames] at e1
    have h2 : (T.setVm s.vm).sameButNew ({ U with vm := s.vm } : State) [] (0 + 1) (0 + 6) := ⟨e1, e2⟩
    have h3 := X.same.trans h2
    rw [List.append_nil] at h3
    exact h3.mono hc hs
  refine ⟨U, ?_, .threw T.heap.size, hrun, hend, Or.inr ⟨T.heap.size, rfl, cls, ce, locs, hx U hWs.alike f1 (fun q hq => f2 q hq (fun z hz => nomatch hz)), hce, hO.vm, hcl, hWs, hall, hf⟩⟩
  refine st1 _ ?_
  show Steps p.tables e below (T1.setTop { method := m, pc := pc + 3, locals := ls, stack := .ref T.heap.size :: rest, locked := none }) _
  jvm_step X₁.here [X₁.here.top, hexec, d3', Value.category]
  exact hsteps
/-- 'throw new E("text")': new; dup; ldc; invokespecial; athrow -/
theorem vx_throwS {cc : ByteArray} {pc : Nat} (hexec : p.tables.exec = Jvm.exec) (hb : c.code = cc) (hl : l.stackTraces = false) {own cls text : String} {names : List String} {ik is ic mc ms sa : Nat} {A : Nat → Prop}
    (hown : s.vm.findClass own = some m.cls) (hcls : Bundle.fit cls = true) (hnames : ∀ n ∈ names, Bundle.fit n = true)
    (hk : (Cond.classLink own ik cls).before args s = true) (hini : (Cond.initialized cls).before args s = true) (hstr : vk_R own is text sa s) (hat : ∀ w ∈ vx_atS own ic cls names, w.before args s = true)
    (hgood : ∀ w ∈ Cond.classLink own ik cls :: Cond.initialized cls :: vx_atS own ic cls names, vx_ot w = true)
    (hU : vx_Zq Bundle.tN "UNASSIGNED_STACK" Bundle.steD A s s.heap) (hN : vx_Zq Bundle.tN "SUPPRESSED_SENTINEL" Bundle.listD A s s.heap) (hS : va_S A s.heap H locs) (hsize : ls.size = c.maxLocals)
    (d0 : decode cc pc = .ok (.new ik, 3)) (d3 : decode cc (pc + 3) = .ok (.dup, 1)) (d4 : decode cc (pc + 4) = .ok (.ldc is, 2)) (d6 : decode cc (pc + 6) = .ok (.invokespecial ic, 3)) (d9 : decode cc (pc + 9) = .ok (.athrow, 1))
    (hout : ∀ x ∈ c.exceptionTable.toList, covers x (pc + 9) = false)
    (hRframes : names.length + 3 < R.frames) (hRlocals : (rest.map fun v => v.category).sum + (13 * (names.length + 1) + 43) ≤ R.locals) (hRcells : cells + 1 ≤ R.cells) (hRslots : slots + 6 ≤ R.slots) (hlocks : meth.locks = false)
    (hx : ∀ t : State, s.vm.Alike t.vm → H.size ≤ t.heap.size → (∀ q : Nat, q < H.size → t.heap[q]? = H[q]?) → XC cls s t)
    (hf : ∀ z ∈ locs, free z.base) (hc : cells + 1 ≤ mc) (hs : slots + 6 ≤ ms) :
    W p l e R s m args below meth c H locs cells slots (vx_MQ below Qc XC args s mc ms free) (F0 m pc ls rest) := by
  intro T hT X
  have htr : e.platform.stackTraces = false := (show e.platform.stackTraces = l.stackTraces by rw [X.admits.platform]).trans hl
  have Y := vx_rebase X (R' := { frames := R.frames, locals := R.locals, cells := 1, slots := 6 }) (Nat.le_refl _) (Nat.le_refl _) hRcells hRslots
  obtain ⟨s', hA⟩ : ∃ z, z = (T.setVm s.vm).setFrames (.invoking m args :: below) := ⟨_, rfl⟩
  rw [← hA] at Y
  have hvm : s'.vm = s.vm := by rw [hA]; rfl
  have hhp : s'.heap = H := by rw [hA]; exact hT
  have hW0 : s.WarmedH s'.vm := by rw [hvm]; exact State.WarmedH.refl s
  have hat' : ∀ w ∈ vx_atS own ic cls names, w.before args s' = true := fun w hw => vx_ot_at hW0 hvm.symm (hgood w (List.mem_cons_of_mem _ (List.mem_cons_of_mem _ hw))) (hat w hw)
  have hk' : (Cond.classLink own ik cls).before args s' = true := vx_ot_at hW0 hvm.symm (hgood _ List.mem_cons_self) hk
  have hini' : (Cond.initialized cls).before args s' = true := vx_ot_at hW0 hvm.symm (hgood _ (List.mem_cons_of_mem _ List.mem_cons_self)) hini
  have hU' : vx_Zq Bundle.tN "UNASSIGNED_STACK" Bundle.steD A s' s'.heap := by rw [hhp]; exact vx_Zq.moved hW0.alike (hU.kept hS.2.1)
  have hN' : vx_Zq Bundle.tN "SUPPRESSED_SENTINEL" Bundle.listD A s' s'.heap := by rw [hhp]; exact vx_Zq.moved hW0.alike (hN.kept hS.2.1)
  have h : ∀ w ∈ Bundle.ownAtoms own ic cls names, w.before args s' = true := vx_own hat' (vx_isRefq hU'.1) (vx_isRefq hN'.1) hU'.2.word hN'.2.word
  have hown' : s'.vm.findClass own = some m.cls := by rw [hvm]; exact hown
  have hins : (Cond.instantiable cls 6).before args s' = true := h _ (by simp [Bundle.ownAtoms])
  obtain ⟨vm₁, cX, kX, hfX, hkX, -, -, X₁, st1⟩ := Y.newCold hexec (own := own) (C := cls) (index := ik) (n := 6) hown' hk' hins hini'
    (g := F0 m pc ls rest) rfl (by rw [hb]; exact d0) (Nat.le_refl _) (Nat.le_refl _)
  generalize hT1 : (T.setVm vm₁).pushCell { cls := cX, slots := kX.instanceTypes.map defaultValue, vm := .none } = T1 at X₁ st1
  have hcat : (Value.ref T.heap.size).category = 1 := rfl
  have hcellA : T1.heap[T.heap.size]? = some (freshCell cX kX) := by rw [← hT1]; exact State.heap_pushCell_size _ _
  have d3' : decode c.code (pc + 3) = .ok (.dup, 1) := by rw [hb]; exact d3
  have d4' : decode c.code (pc + 4) = .ok (.ldc is, 2) := by rw [hb]; exact d4
  have hstr' : vk_R own is text sa s' := vk_R.warm hW0 hstr
  obtain ⟨U, hsteps, hrun, hend, hW, hsame, ce, hce, hO⟩ := X₁.ctorThrowS hexec htr (own := own) (cls := cls) (names := names) (ic := ic) hown' hcls hnames h (fun x hx => nomatch hx) hfX hkX hcellA (by rw [hhp, hT]; exact Nat.le_refl _) (msg := .ref sa) rfl
    (g := { method := m, pc := pc + 6, locals := ls, stack := .ref sa :: .ref T.heap.size :: .ref T.heap.size :: rest, locked := none }) rfl hsize rfl rfl (rest := rest) rfl
    (by rw [hb]; exact d6) (by rw [hb]; exact d9) hout hRframes (by simp only [List.map_cons, List.sum_cons, hcat]; omega) hlocks
  obtain ⟨f1, f2⟩ := vx_frame hsame
  rw [hhp] at f1 f2
  have hWs : s.WarmedH U.vm := State.WarmedH.trans hW0 hW
  have hcl : s.vm.findClass cls = some ce.cls := by
    have h9 := hO.cls
    rw [hvm] at h9
    exact h9
  have hall : s.sameButNew ({ U with vm := s.vm } : State) locs mc ms := by
    subst hA
    obtain ⟨e1, e2⟩ := hsame
    rw [State.setFrames_setFrames] at e1
    have h2 : (T.setVm s.vm).sameButNew ({ U with vm := s.vm } : State) [] (0 + 1) (0 + 6) := ⟨e1, e2⟩
    have h3 := X.same.trans h2
    rw [List.append_nil] at h3
    exact h3.mono hc hs
  refine ⟨U, ?_, .threw T.heap.size, hrun, hend, Or.inr ⟨T.heap.size, rfl, cls, ce, locs, hx U hWs.alike f1 (fun q hq => f2 q hq (fun z hz => nomatch hz)), hce, hO.vm, hcl, hWs, hall, hf⟩⟩
  refine st1 _ ?_
  show Steps p.tables e below (T1.setTop { method := m, pc := pc + 3, locals := ls, stack := .ref T.heap.size :: rest, locked := none }) _
  jvm_step X₁.here [X₁.here.top, hexec, d3', Value.category]
  exact X₁.ldcString hexec (own := own) (text := text) (index := is) (a := sa) hown' hstr'.1 hstr'.2
    (g := { method := m, pc := pc + 4, locals := ls, stack := .ref T.heap.size :: .ref T.heap.size :: rest, locked := none }) rfl d4' _ hsteps
/-- 'throw new E("text")', the text by a wide index -/
theorem vx_throwSW {cc : ByteArray} {pc : Nat} (hexec : p.tables.exec = Jvm.exec) (hb : c.code = cc) (hl : l.stackTraces = false) {own cls text : String} {names : List String} {ik is ic mc ms sa : Nat} {A : Nat → Prop}
    (hown : s.vm.findClass own = some m.cls) (hcls : Bundle.fit cls = true) (hnames : ∀ n ∈ names, Bundle.fit n = true)
    (hk : (Cond.classLink own ik cls).before args s = true) (hini : (Cond.initialized cls).before args s = true) (hstr : vk_R own is text sa s) (hat : ∀ w ∈ vx_atS own ic cls names, w.before args s = true)
    (hgood : ∀ w ∈ Cond.classLink own ik cls :: Cond.initialized cls :: vx_atS own ic cls names, vx_ot w = true)
    (hU : vx_Zq Bundle.tN "UNASSIGNED_STACK" Bundle.steD A s s.heap) (hN : vx_Zq Bundle.tN "SUPPRESSED_SENTINEL" Bundle.listD A s s.heap) (hS : va_S A s.heap H locs) (hsize : ls.size = c.maxLocals)
    (d0 : decode cc pc = .ok (.new ik, 3)) (d3 : decode cc (pc + 3) = .ok (.dup, 1)) (d4 : decode cc (pc + 4) = .ok (.ldc_w is, 3)) (d7 : decode cc (pc + 7) = .ok (.invokespecial ic, 3)) (d10 : decode cc (pc + 10) = .ok (.athrow, 1))
    (hout : ∀ x ∈ c.exceptionTable.toList, covers x (pc + 10) = false)
    (hRframes : names.length + 3 < R.frames) (hRlocals : (rest.map fun v => v.category).sum + (13 * (names.length + 1) + 43) ≤ R.locals) (hRcells : cells + 1 ≤ R.cells) (hRslots : slots + 6 ≤ R.slots) (hlocks : meth.locks = false)
    (hx : ∀ t : State, s.vm.Alike t.vm → H.size ≤ t.heap.size → (∀ q : Nat, q < H.size → t.heap[q]? = H[q]?) → XC cls s t)
    (hf : ∀ z ∈ locs, free z.base) (hc : cells + 1 ≤ mc) (hs : slots + 6 ≤ ms) :
    W p l e R s m args below meth c H locs cells slots (vx_MQ below Qc XC args s mc ms free) (F0 m pc ls rest) := by
  intro T hT X
  have htr : e.platform.stackTraces = false := (show e.platform.stackTraces = l.stackTraces by rw [X.admits.platform]).trans hl
  have Y := vx_rebase X (R' := { frames := R.frames, locals := R.locals, cells := 1, slots := 6 }) (Nat.le_refl _) (Nat.le_refl _) hRcells hRslots
  obtain ⟨s', hA⟩ : ∃ z, z = (T.setVm s.vm).setFrames (.invoking m args :: below) := ⟨_, rfl⟩
  rw [← hA] at Y
  have hvm : s'.vm = s.vm := by rw [hA]; rfl
  have hhp : s'.heap = H := by rw [hA]; exact hT
  have hW0 : s.WarmedH s'.vm := by rw [hvm]; exact State.WarmedH.refl s
  have hat' : ∀ w ∈ vx_atS own ic cls names, w.before args s' = true := fun w hw => vx_ot_at hW0 hvm.symm (hgood w (List.mem_cons_of_mem _ (List.mem_cons_of_mem _ hw))) (hat w hw)
  have hk' : (Cond.classLink own ik cls).before args s' = true := vx_ot_at hW0 hvm.symm (hgood _ List.mem_cons_self) hk
  have hini' : (Cond.initialized cls).before args s' = true := vx_ot_at hW0 hvm.symm (hgood _ (List.mem_cons_of_mem _ List.mem_cons_self)) hini
  have hU' : vx_Zq Bundle.tN "UNASSIGNED_STACK" Bundle.steD A s' s'.heap := by rw [hhp]; exact vx_Zq.moved hW0.alike (hU.kept hS.2.1)
  have hN' : vx_Zq Bundle.tN "SUPPRESSED_SENTINEL" Bundle.listD A s' s'.heap := by rw [hhp]; exact vx_Zq.moved hW0.alike (hN.kept hS.2.1)
  have h : ∀ w ∈ Bundle.ownAtoms own ic cls names, w.before args s' = true := vx_own hat' (vx_isRefq hU'.1) (vx_isRefq hN'.1) hU'.2.word hN'.2.word
  have hown' : s'.vm.findClass own = some m.cls := by rw [hvm]; exact hown
  have hins : (Cond.instantiable cls 6).before args s' = true := h _ (by simp [Bundle.ownAtoms])
  obtain ⟨vm₁, cX, kX, hfX, hkX, -, -, X₁, st1⟩ := Y.newCold hexec (own := own) (C := cls) (index := ik) (n := 6) hown' hk' hins hini'
    (g := F0 m pc ls rest) rfl (by rw [hb]; exact d0) (Nat.le_refl _) (Nat.le_refl _)
  generalize hT1 : (T.setVm vm₁).pushCell { cls := cX, slots := kX.instanceTypes.map defaultValue, vm := .none } = T1 at X₁ st1
  have hcat : (Value.ref T.heap.size).category = 1 := rfl
  have hcellA : T1.heap[T.heap.size]? = some (freshCell cX kX) := by rw [← hT1]; exact State.heap_pushCell_size _ _
  have d3' : decode c.code (pc + 3) = .ok (.dup, 1) := by rw [hb]; exact d3
  have d4' : decode c.code (pc + 4) = .ok (.ldc_w is, 3) := by rw [hb]; exact d4
  have hstr' : vk_R own is text sa s' := vk_R.warm hW0 hstr
  obtain ⟨U, hsteps, hrun, hend, hW, hsame, ce, hce, hO⟩ := X₁.ctorThrowS hexec htr (own := own) (cls := cls) (names := names) (ic := ic) hown' hcls hnames h (fun x hx => nomatch hx) hfX hkX hcellA (by rw [hhp, hT]; exact Nat.le_refl _) (msg := .ref sa) rfl
    (g := { method := m, pc := pc + 7, locals := ls, stack := .ref sa :: .ref T.heap.size :: .ref T.heap.size :: rest, locked := none }) rfl hsize rfl rfl (rest := rest) rfl
    (by rw [hb]; exact d7) (by rw [hb]; exact d10) hout hRframes (by simp only [List.map_cons, List.sum_cons, hcat]; omega) hlocks
  obtain ⟨f1, f2⟩ := vx_frame hsame
  rw [hhp] at f1 f2
  have hWs : s.WarmedH U.vm := State.WarmedH.trans hW0 hW
  have hcl : s.vm.findClass cls = some ce.cls := by
    have h9 := hO.cls
    rw [hvm] at h9
    exact h9
  have hall : s.sameButNew ({ U with vm := s.vm } : State) locs mc ms := by
    subst hA
    obtain ⟨e1, e2⟩ := hsame
    rw [State.setFrames_setFrames] at e1
    have h2 : (T.setVm s.vm).sameButNew ({ U with vm := s.vm } : State) [] (0 + 1) (0 + 6) := ⟨e1, e2⟩
    have h3 := X.same.trans h2
    rw [List.append_nil] at h3
    exact h3.mono hc hs
  refine ⟨U, ?_, .threw T.heap.size, hrun, hend, Or.inr ⟨T.heap.size, rfl, cls, ce, locs, hx U hWs.alike f1 (fun q hq => f2 q hq (fun z hz => nomatch hz)), hce, hO.vm, hcl, hWs, hall, hf⟩⟩
  refine st1 _ ?_
  show Steps p.tables e below (T1.setTop { method := m, pc := pc + 3, locals := ls, stack := .ref T.heap.size :: rest, locked := none }) _
  jvm_step X₁.here [X₁.here.top, hexec, d3', Value.category]
  exact X₁.ldcStringW hexec (own := own) (text := text) (index := is) (a := sa) hown' hstr'.1 hstr'.2
    (g := { method := m, pc := pc + 4, locals := ls, stack := .ref T.heap.size :: .ref T.heap.size :: rest, locked := none }) rfl d4' _ hsteps
end Ends
section Bodies
variable {l : Launch}
theorem vx_ofW {y : MethodName} {ws ws' : List Cond} {rm : Room} {Pc : Array Value → State → Prop} {Qc : Array Value → State → Outcome → State → Prop} {XC : String → State → State → Prop} {mc ms : Nat} {free : Addr → Prop} {cc : ByteArray} {maxL : Nat} {ret : Option FieldType}
    (hy : plainName y.cls = true) (hw : ws = Cond.code y cc maxL ret :: ws')
    (body : ∀ p e s m args below meth c s₁, BodyLoose p l y (headSpec ws rm) cc maxL ret e s m args below meth c s₁ → c.maxLocals = maxL → (∀ x ∈ c.exceptionTable.toList, False) → Pc args s →
      W p l e (headSpec ws rm).room s m args below meth c s.heap [] 0 0 (vx_MQ below Qc XC args s mc ms free) (entryFrame m args maxL)) : vx_Met l y ws rm Pc Qc XC mc ms free := by
  refine MetFree.of_bodyS (code := cc) (maxLocals := maxL) (ret := ret) hy ?_ ?_
  · intro args s m h hn
    obtain ⟨meth, c, h1, h2, h3, h4, h5, h6, -, -⟩ := Cond.code_spec hn (atoms_spec (ws := ws) h _ (by rw [hw]; exact List.mem_cons_self))
    exact ⟨meth, c, h1, h2, h3, h4, h5, h6⟩
  · intro p e s m args below meth c s₁ B hml hP _
    have hh0 : s₁.heap = s.heap := by rw [B.state]; rfl
    have ht : ∀ x ∈ c.exceptionTable.toList, False := by
      obtain ⟨meth9, c9, h1, h2, -, -, -, -, h7, -⟩ := Cond.code_spec B.named (atoms_spec (ws := ws) B.pre _ (by rw [hw]; exact List.mem_cons_self))
      cases Option.some.inj (h1.symm.trans B.method)
      cases Option.some.inj (h2.symm.trans (Stand.of_body B).code)
      intro x hx
      rw [Array.isEmpty_iff.mp h7] at hx
      cases hx
    obtain ⟨t, a1, o, b1, b2, b3⟩ := body p e s m args below meth c s₁ B hml ht hP s₁ hh0 (Stand.of_body B)
    exact ⟨t, o, a1, b1, b2, b3⟩
/-- the table of a body with handlers -/
theorem vx_table {p : Program} {x y : MethodName} {S : Spec} {cc bytes : ByteArray} {maxL maxL' : Nat} {ret ret' : Option FieldType} {e : Env} {s s₁ : State} {m : MethodId} {args : Array Value} {below : List Frame} {meth : Method} {c : Code} {hh : List (Nat × Nat × Nat × Nat)}
    (B : BodyLoose p l y S cc maxL ret e s m args below meth c s₁) (h : (Cond.codeWith y bytes maxL' ret' hh).before args s = true) : c.exceptionTable.toList = tableOf hh := by
  obtain ⟨m9, meth9, c9, hn9, h1, h2, -, -, h6, -⟩ := Cond.codeWith_spec h
  cases Option.some.inj (hn9.symm.trans B.named)
  cases Option.some.inj (h1.symm.trans B.method)
  cases Option.some.inj (h2.symm.trans (Stand.of_body B).code)
  rw [← h6, table_eq]
end Bodies
end VXA
/-! ===== END ===== -/
/-! ===== BEGIN a static call of a method with an exception table ===== -/
section VXS
variable {p : Program} {l : Launch} {e : Env} {R : Room} {s : State} {m : MethodId} {args : Array Value} {below : List Frame} {meth : Method} {c : Code} {T : State} {H : Heap} {locs : List Loc} {cells slots : Nat}
abbrev vx_CSW (R : Room) (s : State) (args : Array Value) (own : String) (index : Nat) (y : MethodName) (bytes : ByteArray) (maxL : Nat) (ret : Option FieldType) (hh : List (Nat × Nat × Nat × Nat)) (ws : List Cond) (rm : Room) (mc ms n : Nat) : Prop :=
  (rm.cells = mc ∧ rm.slots = ms ∧ rm.frames + 1 ≤ R.frames ∧ 8 + (maxL + 11) + rm.locals ≤ R.locals ∧ (∀ w ∈ ws, ∀ (a' : Array Value) (U : State), s.WarmedH U.vm → w.before a' U = true) ∧ Cond.codeWith y bytes maxL ret hh ∈ ws) ∧
  (Cond.codeWith y bytes maxL ret hh).before args s = true ∧ (Cond.initialized y.cls).before args s = true ∧ (y.cls ≠ "java/lang/invoke/MethodHandle" ∧ y.cls ≠ "java/lang/invoke/VarHandle") ∧
  (∀ sig, parseMethodDescriptor y.desc = some sig → n = sig.parameters.length) ∧ (Cond.methodLink own index y).before args s = true ∧ (Cond.static y).before args s = true
theorem vx_cwSW {own : String} {index maxL mc ms : Nat} {y : MethodName} {bytes : ByteArray} {ret : Option FieldType} {hh : List (Nat × Nat × Nat × Nat)} {Ts ws ws' : List Cond} {rm : Room} (n : Nat) (ht : ∀ w ∈ Ts, w.before args s = true) (hT : GoodIn Ts (va_wsS own index y ws)) (hw : ws = Cond.codeWith y bytes maxL ret hh :: ws') (hrc : rm.cells = mc) (hrs : rm.slots = ms)
    (hd : y.cls ≠ "java/lang/invoke/MethodHandle" ∧ y.cls ≠ "java/lang/invoke/VarHandle" ∧ (parseMethodDescriptor y.desc).map (fun d => d.parameters.length) = some n) (hR : rm.frames + 1 ≤ R.frames ∧ 8 + (maxL + 11) + rm.locals ≤ R.locals) :
    vx_CSW R s args own index y bytes maxL ret hh ws rm mc ms n := by
  have ok : ∀ w ∈ va_wsS own index y ws, w.before args s = true := fun w h => ht w (hT w h).1
  have hG : GoodIn Ts ws := fun w h => hT w (by unfold va_wsS; exact List.mem_append_right _ h)
  have hc : Cond.codeWith y bytes maxL ret hh ∈ ws := by rw [hw]; exact List.mem_cons_self
  refine ⟨⟨hrc, hrs, hR.1, hR.2, pay_in ht hG, hc⟩, ht _ (hG _ hc).1, ok _ (by simp [va_wsS]), ⟨hd.1, hd.2.1⟩, fun sig h => ?_, ok _ (by simp [va_wsS]), ok _ (by simp [va_wsS])⟩
  have h2 := hd.2.2
  rw [h] at h2
  exact (Option.some.inj h2).symm
theorem vx_callSW (X : Stand p l e R s m args below meth c T locs cells slots) (hexec : p.tables.exec = Jvm.exec) {own : String} {index : Nat} {y : MethodName} {bytes : ByteArray} {maxL : Nat} {ret : Option FieldType} {hh : List (Nat × Nat × Nat × Nat)}
    (hown : s.vm.findClass own = some m.cls) (hlink : (Cond.methodLink own index y).before args s = true) (hstat : (Cond.static y).before args s = true) (hinit : (Cond.initialized y.cls).before args s = true)
    (hcode : (Cond.codeWith y bytes maxL ret hh).before args s = true) (hy : y.cls ≠ "java/lang/invoke/MethodHandle" ∧ y.cls ≠ "java/lang/invoke/VarHandle")
    {W9 : Nat} {Pre : Pt → Array Value → Prop} {Post : Pt → Array Value → Option Value → Pt → Prop} (hK : Back l R p e below s args y 3 W9 Pre Post)
    {g : JFrame} (hg : g.method = m) (hsize : g.locals.size = c.maxLocals) {argsL rest : List Value} (hlen : ∀ sig, parseMethodDescriptor y.desc = some sig → argsL.length = sig.parameters.length)
    (hstack : g.stack = argsL.reverse ++ rest) (hW : 2 * g.monitorRoom + (rest.map fun v => v.category).sum ≤ W9) (hdg : decode c.code g.pc = .ok (.invokestatic index, 3))
    (hpre : ∀ vm₁, s.WarmedH vm₁ → Pre ⟨T.setVm vm₁, locs, cells, slots⟩ argsL.toArray) :
    ∃ (v : Option Value) (vm₁ : Vm) (B : Pt), s.WarmedH vm₁ ∧ Stand p l e R s m args below meth c B.U B.locs B.cells B.slots ∧ Post ⟨T.setVm vm₁, locs, cells, slots⟩ argsL.toArray v B ∧
      ∀ target, Steps p.tables e below (B.U.setTop { g with pc := g.pc + 3, stack := v.toList ++ rest }) target → Steps p.tables e below (T.setTop g) target := by
  obtain ⟨mk, methM, cM, hnamed, hmethM, -, -, -, -, -, -, hsigM⟩ := Cond.codeWith_spec hcode
  have hstatic : methM.isStatic = true := Cond.static_spec hnamed hmethM hstat
  obtain ⟨kP, hkP, -⟩ := className_of_methodNamed hnamed
  have hinitP : kP.init = .initialized := Cond.initialized_spec (findClass_of_methodNamed hnamed) hkP hinit
  obtain ⟨vm₁, X₁, hstep₁⟩ := X.invokestatic hexec hown hlink hnamed hmethM hstatic hkP hinitP hy (g := g) hg (argsL := argsL) (rest := rest) (hlen _ hsigM) hstack hdg
  obtain ⟨v, B, X', hpost, hsteps⟩ := hK m meth c ⟨T.setVm vm₁, locs, cells, slots⟩ { g with stack := rest } (.invokestatic index) mk argsL.toArray X₁ hg hsize hdg hW (X₁.named hnamed) (hpre vm₁ X₁.warmed)
  exact ⟨v, vm₁, B, X₁.warmed, X', hpost, fun target h => hstep₁ _ fun acts => by rw [doInvoke_state]; exact hsteps.trans h⟩
theorem vx_runSW {y : MethodName} {bytes cc : ByteArray} {maxL nL mc ms n index : Nat} {ret : Option FieldType} {hh : List (Nat × Nat × Nat × Nat)} {ws : List Cond} {rm : Room} {Pc : Array Value → State → Prop} {Qc : Array Value → State → Outcome → State → Prop} {free : Addr → Prop} {Ts : List Cond} {own : String} {As rest : List Value} {g : JFrame}
    (S : CallFix p m c cc nL s args Ts own) (hM : Met l y ws rm Pc Qc mc ms free) (cw : vx_CSW R s args own index y bytes maxL ret hh ws rm mc ms n) (hp : PreS s H Pc As)
    (hg : g.method = m) (hn : As.length = n) (hsize : g.locals.size = nL) (hstack : g.stack = As.reverse ++ rest) (hW : 2 * g.monitorRoom + (rest.map fun v => v.category).sum ≤ 8) (hdg : decode cc g.pc = .ok (.invokestatic index, 3)) (hf : cells + mc ≤ R.cells ∧ slots + ms ≤ R.slots) :
    va_Run p l e R s m args below meth c H locs cells slots mc ms g rest (Qc As.toArray) (free) := by
  obtain ⟨⟨hrc, hrs, hfr, hlo, hws, hcw⟩, hcode, hini, hy, hlen, hl, hstt⟩ := cw
  have hK : Back l R p e below s args y 3 8 (PreOf R mc ms Pc) (PostOf Qc mc ms free) := va_backW (hh := hh) (bytes := bytes) (maxL := maxL) (ret := ret) hM hp.1 hrc hrs hfr hlo hws hcw (fun a' U hW => word_at hW (Or.inl (by first | rfl | simp [Cond.onTables, Cond.keeps, Cond.steady])) hini)
  obtain ⟨hx, hb, hml, ho, -⟩ := S
  intro T hT X
  obtain ⟨v, vm₁, ⟨U', l2, c2, s2⟩, hW₁, X', ⟨g', mk, t, L, e1, e2, hq, h1, hL, h2, h3⟩, st⟩ := vx_callSW X hx (hh := hh) (bytes := bytes) (maxL := maxL) (ret := ret) ho hl hstt hini hcode hy hK hg (hsize.trans hml.symm) (argsL := As) (rest := rest) (fun sig h => hn.trans (hlen sig h)) hstack hW (by rw [hb]; exact hdg)
    (fun vm₁ hW₁ => ⟨hf.1, hf.2, hp.2 (T.setVm vm₁) hT hW₁⟩)
  dsimp only [Pt.U, Pt.locs, Pt.cells, Pt.slots] at X' e1 e2 h1 h2 h3 st
  subst h1; subst h2; subst h3
  exact ⟨v, (T.setVm vm₁).calling g' mk As.toArray, t, U', L, hT, X', hL, e1, e2, hq, st⟩
/-- not caught here, past rows that name other classes: it goes on to the caller -/
theorem vx_outP {p : Program} {l : Launch} {e : Env} {R : Room} {s : State} {m : MethodId} {args : Array Value} {below : List Frame} {meth : Method} {c : Code} {H : Heap} {locs : List Loc} {cells slots : Nat} {free : Addr → Prop} {ls : Array Slot} {rest : List Value} {Qc : Array Value → State → Outcome → State → Prop} {XC : String → State → State → Prop}
    {pc : Nat} {own E : String} {ce : Cell} {q : Addr} {mc ms : Nat} (hown : s.vm.findClass own = some m.cls) (hlocks : meth.locks = false)
    (hpass : ∀ z ∈ c.exceptionTable.toList, covers z pc = false ∨ (z.catchType ≠ 0 ∧ ∃ nm : String, (Cond.classLink own z.catchType nm).before args s = true ∧ va_Nc E nm s)) (hcell : H[q]? = some ce) (hv : ce.vm = .none) (hcl : s.vm.findClass E = some ce.cls)
    (hx : ∀ t : State, t.heap = H → s.vm.Alike t.vm → XC E s t) (hf : ∀ z ∈ locs, free z.base) (hc : cells ≤ mc) (hs : slots ≤ ms) :
    vx_W p l e R s m args below meth c H locs cells slots (vx_MQ below Qc XC args s mc ms free) (F0 m pc ls rest) q := by
  intro T hT X
  have hpl : e.platform.magicAccessors = ({} : Platform).magicAccessors := by rw [X.admits.platform]
  obtain ⟨vm', hW', X', st⟩ := X.outThrough hlocks q (g := F0 m pc ls rest) rfl rfl rfl (cell := ce) (by rw [hT]; exact hcell) (by rw [hv]; rfl)
    (by obtain ⟨k9, h9, -⟩ := Vm.findClass_spec hcl; exact ⟨k9, h9⟩) (fun z hz => by
      rcases hpass z hz with h | ⟨hz0, nm, hl1, hn1⟩
      · exact Or.inl h
      · obtain ⟨c6, hc6, hcl6⟩ := Cond.classLink_spec hown hl1 e.platform hpl
        obtain ⟨a8, b8, h1, h2, h3⟩ := hn1
        cases Option.some.inj (h1.symm.trans hcl)
        cases Option.some.inj (h2.symm.trans hc6)
        exact Or.inr ⟨hz0, _, hcl6, h3⟩)
  obtain ⟨g₀, hfr⟩ := X'.frames_eq
  have hcell9 : ((T.setVm vm').setFrames (.throwing q :: below)).heap[q]? = some ce := by
    show T.heap[q]? = some ce
    rw [hT]; exact hcell
  have hend : Ended ((T.setVm vm').setFrames (.throwing q :: below)) below (.threw q) := State.frames_setFrames _ (State.cur_lt_of_frames hfr)
  refine ⟨(T.setVm vm').setFrames (.throwing q :: below), ?_, .threw q, X'.here.running, hend, Or.inr ⟨q, rfl, E, ce, locs, hx _ hT (X'.ends _).1.alike, hcell9, hv, hcl, (X'.ends _).1, (X'.ends _).2.mono hc hs, hf⟩⟩
  rw [X.pushThrowing_eq]
  exact st
/-- a thing of a world lies in the heap -/
theorem vx_lt {D : va_G} {cl : List vw_C} {ws : va_W} {H1 : Heap} (h : va_P D cl ws H1) {k : Nat} {q : Nat × va_E} (hk : ws[k]? = some q) : q.1 < H1.size := (h k q hk).lt
end VXS
/-! ===== END ===== -/
/-! ===== BEGIN methods with a table of their own: called by a name, returning or throwing ===== -/
section VXH
/-! vx_backW, vx_callVX, vx_callSX, vx_callVW, vx_runVW, vx_runVX, vx_runSX, vx_ofWH follow the same proofs as their sisters above (Free/Laws.lean, Shelf42/LK1.lean); vx_outP calls Shelf42/NT130.lean (outThrough). -/
section
variable {l : Launch} {R : Room} {p : Program} {e : Env} {below : List Frame} {s : State} {sargs : Array Value} {y : MethodName} {len W9 : Nat}
theorem vx_backW {ws : List Cond} {rm : Room} {Pc : Array Value → State → Prop} {Qc : Array Value → State → Outcome → State → Prop} {XC : String → State → State → Prop} {mc ms : Nat} {free : Addr → Prop} {bytes : ByteArray} {maxL : Nat} {ret : Option FieldType} {hh : List (Nat × Nat × Nat × Nat)}
    (hM : vx_Met l y ws rm Pc Qc XC mc ms free) (hblind : FrameBlind Pc) (hrc : rm.cells = mc) (hrs : rm.slots = ms)
    (hframes : rm.frames + 1 ≤ R.frames) (hlocals : W9 + (maxL + 11) + rm.locals ≤ R.locals)
    (hws : ∀ w ∈ ws, ∀ a' U, s.WarmedH U.vm → w.before a' U = true) (hcode : Cond.codeWith y bytes maxL ret hh ∈ ws) (hinit : ∀ a' U, s.WarmedH U.vm → (Cond.initialized y.cls).before a' U = true) :
    vx_Back l R p e below s sargs y len W9 (PreOf R mc ms Pc) (PostOf Qc mc ms free) (vx_Post XC mc ms free) := by
  intro m meth c A g ig mk a X hg hsize hdg hW hn hp
  have h1 : (headSpec ws rm).pre.before a A.U = true := atoms_intro fun w hw => hws w hw _ _ X.warmed
  have h2 : (Cond.codeWith y bytes maxL ret hh).before a A.U = true := hws _ hcode _ _ X.warmed
  have h3 : (Cond.initialized y.cls).before a A.U = true := hinit _ _ X.warmed
  have h4 : A.cells + (headSpec ws rm).room.cells ≤ R.cells := by rw [show (headSpec ws rm).room.cells = mc from hrc]; exact hp.1
  have h5 : A.slots + (headSpec ws rm).room.slots ≤ R.slots := by rw [show (headSpec ws rm).room.slots = ms from hrs]; exact hp.2.1
  have hPc : Pc a (A.U.calling g mk a) := hblind _ _ _ _ hp.2.2
  obtain ⟨U, Ls, c0, s0⟩ := A
  dsimp only [Pt.U, Pt.locs, Pt.cells, Pt.slots] at h1 h2 h3 h4 h5 X hn hPc ⊢
  obtain ⟨m9, methY, cY, hn9, hmY, hcY, -, hlY, -⟩ := Cond.codeWith_spec h2
  cases Option.some.inj (hn9.symm.trans hn)
  obtain ⟨kY, hkY, -⟩ := className_of_methodNamed hn
  have hinitY : kY.init = .initialized := Cond.initialized_spec (findClass_of_methodNamed hn) hkY h3
  have h : At U g.method c below := by rw [hg]; exact X.here
  have hlocals9 : W9 + (maxL + 11) + (headSpec ws rm).room.locals ≤ R.locals := hlocals
  have happ : (headSpec ws rm).appliesLoose y e.platform (U.calling g mk a) = true :=
    Spec.appliesLoose_calling (g := g) h hdg hn hkY hinitY
      (X.room_calling (g := g) (R' := (headSpec ws rm).room) hsize hmY hcY hframes (by rw [hlY]; omega) h4 h5) h1
  obtain ⟨mid, hmid⟩ := h.above
  have hfr : (U.setTop g).frames = (.java g :: mid) ++ below := by rw [State.frames_setTop' g h.top, hmid]; rfl
  obtain ⟨o, s₂, hsteps, -, hend, hq⟩ := Steps.callFree hM p X.admits X.cas X.clock (acts := []) hfr happ hPc trivial
  have hq' : vx_Q Qc XC mc ms free a (U.calling g mk a) o s₂ := hq
  rw [State.frames_setTop' g h.top] at hend
  obtain ⟨g₀, hg0⟩ := Option.isSome_iff_exists.mp h.top
  obtain ⟨r, hr⟩ := State.topJava?_eq_some.mp hg0
  have hr' : (({ U with heap := s₂.heap, slotsUsed := s₂.slotsUsed } : State).setVm s₂.vm).frames = .java g₀ :: r := hr
  rcases hq' with ⟨hqc, L, hfe, hL⟩ | ⟨q, rfl, E, ce, L, hx, hce, hcv, hcl, hW₂, hsm, hL⟩
  · obtain ⟨⟨v, rfl⟩, hW₂, e2, q2, q3, q4, q5, q6⟩ := id hfe
    have e3 : s₂ = ({ (U.calling g mk a).setFrames s₂.frames with heap := s₂.heap, slotsUsed := s₂.slotsUsed } : State).setVm s₂.vm := by
      have : s₂ = ({ s₂ with vm := (U.calling g mk a).vm } : State).setVm s₂.vm := rfl
      rw [e2] at this
      exact this
    obtain ⟨c₂, i₂, len₂, hc₂, hd₂, hf₂⟩ := hend
    have hW' : U.WarmedH s₂.vm := hW₂
    have hcc : c₂ = c := by
      have h1 : s₂.code? g.method = U.code? g.method := by
        rw [State.code?_eq, State.code?_eq, hW'.alike.method?]
      exact Option.some.inj (hc₂.symm.trans (h1.trans h.code))
    subst hcc
    have hlen : len₂ = len := by rw [hdg] at hd₂; cases hd₂; rfl
    subst hlen
    have hs₂ : s₂ = (({ U with heap := s₂.heap, slotsUsed := s₂.slotsUsed } : State).setVm s₂.vm).setTop { g with pc := g.pc + len₂, stack := v.toList ++ g.stack } := by
      refine e3.trans ?_
      rw [hf₂, State.calling_eq h.top, State.setFrames_setFrames, State.setTop_of_frames _ hr', hr]
      rfl
    have hsame : U.sameButNew ({ U with heap := s₂.heap, slotsUsed := s₂.slotsUsed } : State) L mc ms := by
      refine ⟨?_, q2, q3, q4, q5, q6⟩
      obtain ⟨t, ht, -⟩ := State.frames_cons hr
      show ({ U with heap := s₂.heap, slotsUsed := s₂.slotsUsed } : State) = { U.setFrames U.frames with heap := s₂.heap, slotsUsed := s₂.slotsUsed }
      rw [State.setFrames_self ht]
    subst hg
    refine Or.inl ⟨v, ⟨(({ U with heap := s₂.heap, slotsUsed := s₂.slotsUsed } : State).setVm s₂.vm), Ls ++ L, c0 + mc, s0 + ms⟩,
      ⟨X.admits, X.cas, X.clock, X.frames, X.room, X.hears, X.method, X.code, (X.here.setHeapUsed s₂.heap s₂.slotsUsed).setVm hW'.alike, X.tail, State.WarmedH.trans X.warmed hW', X.limits, X.bytes, X.same.trans (hsame.setVm s.vm)⟩,
      ⟨g, mk, s₂, L, rfl, rfl, hqc, rfl, hL, rfl, rfl⟩, ?_⟩
    show Steps p.tables e below _ ((({ U with heap := s₂.heap, slotsUsed := s₂.slotsUsed } : State).setVm s₂.vm).setTop { g with pc := g.pc + len₂, stack := v.toList ++ g.stack })
    rw [← hs₂]
    exact hsteps
  · obtain ⟨e2, q2, q3, q4, q5, q6⟩ := id hsm
    have e3 : s₂ = ({ (U.calling g mk a).setFrames s₂.frames with heap := s₂.heap, slotsUsed := s₂.slotsUsed } : State).setVm s₂.vm := by
      have : s₂ = ({ s₂ with vm := (U.calling g mk a).vm } : State).setVm s₂.vm := rfl
      rw [e2] at this
      exact this
    have hf₂ : s₂.frames = .throwing q :: .java g :: U.frames.tail := hend
    have hW' : U.WarmedH s₂.vm := hW₂
    have hs₂ : s₂ = ((({ U with heap := s₂.heap, slotsUsed := s₂.slotsUsed } : State).setVm s₂.vm).setTop g).pushFrame (.throwing q) := by
      refine e3.trans ?_
      rw [hf₂, State.calling_eq h.top, State.setFrames_setFrames, State.pushFrame, State.frames_setTop _ hr', State.setTop_of_frames _ hr', State.setFrames_setFrames, hr]
      rfl
    have hsame : U.sameButNew ({ U with heap := s₂.heap, slotsUsed := s₂.slotsUsed } : State) L mc ms := by
      refine ⟨?_, q2, q3, q4, q5, q6⟩
      obtain ⟨t, ht, -⟩ := State.frames_cons hr
      show ({ U with heap := s₂.heap, slotsUsed := s₂.slotsUsed } : State) = { U.setFrames U.frames with heap := s₂.heap, slotsUsed := s₂.slotsUsed }
      rw [State.setFrames_self ht]
    subst hg
    refine Or.inr ⟨q, ⟨(({ U with heap := s₂.heap, slotsUsed := s₂.slotsUsed } : State).setVm s₂.vm), Ls ++ L, c0 + mc, s0 + ms⟩,
      ⟨X.admits, X.cas, X.clock, X.frames, X.room, X.hears, X.method, X.code, (X.here.setHeapUsed s₂.heap s₂.slotsUsed).setVm hW'.alike, X.tail, State.WarmedH.trans X.warmed hW', X.limits, X.bytes, X.same.trans (hsame.setVm s.vm)⟩,
      ⟨g, mk, s₂, L, E, ce, rfl, rfl, hx, hce, hcv, hcl, rfl, hL, rfl, rfl⟩, ?_⟩
    show Steps p.tables e below _ (((({ U with heap := s₂.heap, slotsUsed := s₂.slotsUsed } : State).setVm s₂.vm).setTop g).pushFrame (.throwing q))
    rw [← hs₂]
    exact hsteps
end
variable {p : Program} {l : Launch} {e : Env} {R : Room} {s : State} {m : MethodId} {args : Array Value} {below : List Frame} {meth : Method} {c : Code} {T : State} {H : Heap} {locs : List Loc} {cells slots : Nat}
theorem vx_callVX (X : Stand p l e R s m args below meth c T locs cells slots) (hexec : p.tables.exec = Jvm.exec) {own C : String} {index : Nat} {y : MethodName} {bytes : ByteArray} {maxL : Nat} {ret : Option FieldType} {hh : List (Nat × Nat × Nat × Nat)}
    (hown : s.vm.findClass own = some m.cls) (hlink : (Cond.methodLink own index y).before args s = true) (hinst : (Cond.instanceMethod y).before args s = true) (hsel : (Cond.selects C y y).before args s = true)
    (hcode : (Cond.codeWith y bytes maxL ret hh).before args s = true) (hy : y.cls ≠ "java/lang/invoke/MethodHandle" ∧ y.cls ≠ "java/lang/invoke/VarHandle")
    {W9 : Nat} {Pre : Pt → Array Value → Prop} {Post : Pt → Array Value → Option Value → Pt → Prop} {PostX : Pt → Array Value → Addr → Pt → Prop} (hK : vx_Back l R p e below s args y 3 W9 Pre Post PostX)
    {b : Addr} {cellB : Cell} (hcell : T.heap[b]? = some cellB) (hobj : cellB.vm.isStatics = false) (hcls : s.vm.findClass C = some cellB.cls)
    {g : JFrame} (hg : g.method = m) (hsize : g.locals.size = c.maxLocals) {argsL rest : List Value} (hlen : ∀ sig, parseMethodDescriptor y.desc = some sig → argsL.length = sig.parameters.length)
    (hstack : g.stack = argsL.reverse ++ .ref b :: rest) (hW : 2 * g.monitorRoom + (rest.map fun v => v.category).sum ≤ W9) (hdg : decode c.code g.pc = .ok (.invokevirtual index, 3))
    (hpre : ∀ vm₁, s.WarmedH vm₁ → Pre ⟨T.setVm vm₁, locs, cells, slots⟩ (Value.ref b :: argsL).toArray) :
    (∃ (v : Option Value) (vm₁ : Vm) (B : Pt), s.WarmedH vm₁ ∧ Stand p l e R s m args below meth c B.U B.locs B.cells B.slots ∧ Post ⟨T.setVm vm₁, locs, cells, slots⟩ (Value.ref b :: argsL).toArray v B ∧
      ∀ target, Steps p.tables e below (B.U.setTop { g with pc := g.pc + 3, stack := v.toList ++ rest }) target → Steps p.tables e below (T.setTop g) target) ∨
    (∃ (q : Addr) (vm₁ : Vm) (B : Pt), s.WarmedH vm₁ ∧ Stand p l e R s m args below meth c B.U B.locs B.cells B.slots ∧ PostX ⟨T.setVm vm₁, locs, cells, slots⟩ (Value.ref b :: argsL).toArray q B ∧
      Steps p.tables e below (T.setTop g) ((B.U.setTop { g with stack := rest }).pushFrame (.throwing q))) := by
  obtain ⟨mk, methM, hnamed, hmethM, hstM, habM⟩ := Cond.instanceMethod_spec hinst
  obtain ⟨m8, methM', cM, hn8, hmethM', -, -, -, -, -, -, hsigM⟩ := Cond.codeWith_spec hcode
  cases Option.some.inj (hn8.symm.trans hnamed)
  cases hmethM.symm.trans hmethM'
  obtain ⟨c2, r2, m2, q1, q2, q3, q4, kP, hkP, hkPi⟩ := Cond.selects_spec hsel
  cases hcls.symm.trans q1
  cases (State.methodFound?_of_named hnamed hy).symm.trans q2
  cases hnamed.symm.trans q3
  have hselP : selectMethod e.platform s.vm cellB.cls mk = .method mk := by rw [Launch.admits_selectMethod X.admits]; exact q4
  obtain ⟨vm₁, X₁, hstep₁⟩ := X.invokevirtual hexec hown hlink hnamed hmethM hstM hkP hkPi hy (a := b) (cell := cellB) hcell
    (fun z h => by rw [h] at hobj; cases hobj) hselP hmethM habM hkP hkPi (g := g) hg (argsL := argsL) (rest := rest) (hlen _ hsigM) hstack hdg
  rcases hK m meth c ⟨T.setVm vm₁, locs, cells, slots⟩ { g with stack := rest } (.invokevirtual index) mk (Value.ref b :: argsL).toArray X₁ hg hsize hdg hW (X₁.named hnamed) (hpre vm₁ X₁.warmed) with ⟨v, B, X', hpost, hsteps⟩ | ⟨q, B, X', hpost, hsteps⟩
  · exact Or.inl ⟨v, vm₁, B, X₁.warmed, X', hpost, fun target h => hstep₁ _ fun acts => by rw [doInvoke_state]; exact hsteps.trans h⟩
  · exact Or.inr ⟨q, vm₁, B, X₁.warmed, X', hpost, hstep₁ _ fun acts => by rw [doInvoke_state]; exact hsteps⟩
theorem vx_callSX (X : Stand p l e R s m args below meth c T locs cells slots) (hexec : p.tables.exec = Jvm.exec) {own : String} {index : Nat} {y : MethodName} {bytes : ByteArray} {maxL : Nat} {ret : Option FieldType} {hh : List (Nat × Nat × Nat × Nat)}
    (hown : s.vm.findClass own = some m.cls) (hlink : (Cond.methodLink own index y).before args s = true) (hstat : (Cond.static y).before args s = true) (hinit : (Cond.initialized y.cls).before args s = true)
    (hcode : (Cond.codeWith y bytes maxL ret hh).before args s = true) (hy : y.cls ≠ "java/lang/invoke/MethodHandle" ∧ y.cls ≠ "java/lang/invoke/VarHandle")
    {W9 : Nat} {Pre : Pt → Array Value → Prop} {Post : Pt → Array Value → Option Value → Pt → Prop} {PostX : Pt → Array Value → Addr → Pt → Prop} (hK : vx_Back l R p e below s args y 3 W9 Pre Post PostX)
    {g : JFrame} (hg : g.method = m) (hsize : g.locals.size = c.maxLocals) {argsL rest : List Value} (hlen : ∀ sig, parseMethodDescriptor y.desc = some sig → argsL.length = sig.parameters.length)
    (hstack : g.stack = argsL.reverse ++ rest) (hW : 2 * g.monitorRoom + (rest.map fun v => v.category).sum ≤ W9) (hdg : decode c.code g.pc = .ok (.invokestatic index, 3))
    (hpre : ∀ vm₁, s.WarmedH vm₁ → Pre ⟨T.setVm vm₁, locs, cells, slots⟩ argsL.toArray) :
    (∃ (v : Option Value) (vm₁ : Vm) (B : Pt), s.WarmedH vm₁ ∧ Stand p l e R s m args below meth c B.U B.locs B.cells B.slots ∧ Post ⟨T.setVm vm₁, locs, cells, slots⟩ argsL.toArray v B ∧
      ∀ target, Steps p.tables e below (B.U.setTop { g with pc := g.pc + 3, stack := v.toList ++ rest }) target → Steps p.tables e below (T.setTop g) target) ∨
    (∃ (q : Addr) (vm₁ : Vm) (B : Pt), s.WarmedH vm₁ ∧ Stand p l e R s m args below meth c B.U B.locs B.cells B.slots ∧ PostX ⟨T.setVm vm₁, locs, cells, slots⟩ argsL.toArray q B ∧
      Steps p.tables e below (T.setTop g) ((B.U.setTop { g with stack := rest }).pushFrame (.throwing q))) := by
  obtain ⟨mk, methM, cM, hnamed, hmethM, -, -, -, -, -, -, hsigM⟩ := Cond.codeWith_spec hcode
  have hstatic : methM.isStatic = true := Cond.static_spec hnamed hmethM hstat
  obtain ⟨kP, hkP, -⟩ := className_of_methodNamed hnamed
  have hinitP : kP.init = .initialized := Cond.initialized_spec (findClass_of_methodNamed hnamed) hkP hinit
  obtain ⟨vm₁, X₁, hstep₁⟩ := X.invokestatic hexec hown hlink hnamed hmethM hstatic hkP hinitP hy (g := g) hg (argsL := argsL) (rest := rest) (hlen _ hsigM) hstack hdg
  rcases hK m meth c ⟨T.setVm vm₁, locs, cells, slots⟩ { g with stack := rest } (.invokestatic index) mk argsL.toArray X₁ hg hsize hdg hW (X₁.named hnamed) (hpre vm₁ X₁.warmed) with ⟨v, B, X', hpost, hsteps⟩ | ⟨q, B, X', hpost, hsteps⟩
  · exact Or.inl ⟨v, vm₁, B, X₁.warmed, X', hpost, fun target h => hstep₁ _ fun acts => by rw [doInvoke_state]; exact hsteps.trans h⟩
  · exact Or.inr ⟨q, vm₁, B, X₁.warmed, X', hpost, hstep₁ _ fun acts => by rw [doInvoke_state]; exact hsteps⟩
theorem vx_callVW (X : Stand p l e R s m args below meth c T locs cells slots) (hexec : p.tables.exec = Jvm.exec) {own C : String} {index : Nat} {y : MethodName} {bytes : ByteArray} {maxL : Nat} {ret : Option FieldType} {hh : List (Nat × Nat × Nat × Nat)}
    (hown : s.vm.findClass own = some m.cls) (hlink : (Cond.methodLink own index y).before args s = true) (hinst : (Cond.instanceMethod y).before args s = true) (hsel : (Cond.selects C y y).before args s = true)
    (hcode : (Cond.codeWith y bytes maxL ret hh).before args s = true) (hy : y.cls ≠ "java/lang/invoke/MethodHandle" ∧ y.cls ≠ "java/lang/invoke/VarHandle")
    {W9 : Nat} {Pre : Pt → Array Value → Prop} {Post : Pt → Array Value → Option Value → Pt → Prop} (hK : Back l R p e below s args y 3 W9 Pre Post)
    {b : Addr} {cellB : Cell} (hcell : T.heap[b]? = some cellB) (hobj : cellB.vm.isStatics = false) (hcls : s.vm.findClass C = some cellB.cls)
    {g : JFrame} (hg : g.method = m) (hsize : g.locals.size = c.maxLocals) {argsL rest : List Value} (hlen : ∀ sig, parseMethodDescriptor y.desc = some sig → argsL.length = sig.parameters.length)
    (hstack : g.stack = argsL.reverse ++ .ref b :: rest) (hW : 2 * g.monitorRoom + (rest.map fun v => v.category).sum ≤ W9) (hdg : decode c.code g.pc = .ok (.invokevirtual index, 3))
    (hpre : ∀ vm₁, s.WarmedH vm₁ → Pre ⟨T.setVm vm₁, locs, cells, slots⟩ (Value.ref b :: argsL).toArray) :
    ∃ (v : Option Value) (vm₁ : Vm) (B : Pt), s.WarmedH vm₁ ∧ Stand p l e R s m args below meth c B.U B.locs B.cells B.slots ∧ Post ⟨T.setVm vm₁, locs, cells, slots⟩ (Value.ref b :: argsL).toArray v B ∧
      ∀ target, Steps p.tables e below (B.U.setTop { g with pc := g.pc + 3, stack := v.toList ++ rest }) target → Steps p.tables e below (T.setTop g) target := by
  obtain ⟨mk, methM, hnamed, hmethM, hstM, habM⟩ := Cond.instanceMethod_spec hinst
  obtain ⟨m8, methM', cM, hn8, hmethM', -, -, -, -, -, -, hsigM⟩ := Cond.codeWith_spec hcode
  cases Option.some.inj (hn8.symm.trans hnamed)
  cases hmethM.symm.trans hmethM'
  obtain ⟨c2, r2, m2, q1, q2, q3, q4, kP, hkP, hkPi⟩ := Cond.selects_spec hsel
  cases hcls.symm.trans q1
  cases (State.methodFound?_of_named hnamed hy).symm.trans q2
  cases hnamed.symm.trans q3
  have hselP : selectMethod e.platform s.vm cellB.cls mk = .method mk := by rw [Launch.admits_selectMethod X.admits]; exact q4
  obtain ⟨vm₁, X₁, hstep₁⟩ := X.invokevirtual hexec hown hlink hnamed hmethM hstM hkP hkPi hy (a := b) (cell := cellB) hcell
    (fun z h => by rw [h] at hobj; cases hobj) hselP hmethM habM hkP hkPi (g := g) hg (argsL := argsL) (rest := rest) (hlen _ hsigM) hstack hdg
  obtain ⟨v, B, X', hpost, hsteps⟩ := hK m meth c ⟨T.setVm vm₁, locs, cells, slots⟩ { g with stack := rest } (.invokevirtual index) mk (Value.ref b :: argsL).toArray X₁ hg hsize hdg hW (X₁.named hnamed) (hpre vm₁ X₁.warmed)
  exact ⟨v, vm₁, B, X₁.warmed, X', hpost, fun target h => hstep₁ _ fun acts => by rw [doInvoke_state]; exact hsteps.trans h⟩
abbrev vx_CVW (R : Room) (s : State) (args : Array Value) (own C : String) (index : Nat) (y : MethodName) (bytes : ByteArray) (maxL : Nat) (ret : Option FieldType) (hh : List (Nat × Nat × Nat × Nat)) (ws : List Cond) (rm : Room) (mc ms n : Nat) : Prop :=
  (rm.cells = mc ∧ rm.slots = ms ∧ rm.frames + 1 ≤ R.frames ∧ 8 + (maxL + 11) + rm.locals ≤ R.locals ∧ (∀ w ∈ ws, ∀ (a' : Array Value) (U : State), s.WarmedH U.vm → w.before a' U = true) ∧ Cond.codeWith y bytes maxL ret hh ∈ ws) ∧
  (Cond.codeWith y bytes maxL ret hh).before args s = true ∧ (Cond.initialized y.cls).before args s = true ∧ (y.cls ≠ "java/lang/invoke/MethodHandle" ∧ y.cls ≠ "java/lang/invoke/VarHandle") ∧
  (∀ sig, parseMethodDescriptor y.desc = some sig → n = sig.parameters.length) ∧ (Cond.methodLink own index y).before args s = true ∧ (Cond.instanceMethod y).before args s = true ∧ (Cond.selects C y y).before args s = true
theorem vx_cwVW {own C : String} {index maxL mc ms : Nat} {y : MethodName} {bytes : ByteArray} {ret : Option FieldType} {hh : List (Nat × Nat × Nat × Nat)} {Ts ws ws' : List Cond} {rm : Room} (n : Nat) (ht : ∀ w ∈ Ts, w.before args s = true) (hT : GoodIn Ts (wsV own index C y ws)) (hw : ws = Cond.codeWith y bytes maxL ret hh :: ws') (hrc : rm.cells = mc) (hrs : rm.slots = ms)
    (hd : y.cls = C ∧ y.cls ≠ "java/lang/invoke/MethodHandle" ∧ y.cls ≠ "java/lang/invoke/VarHandle" ∧ (parseMethodDescriptor y.desc).map (fun d => d.parameters.length) = some n) (hR : rm.frames + 1 ≤ R.frames ∧ 8 + (maxL + 11) + rm.locals ≤ R.locals) :
    vx_CVW R s args own C index y bytes maxL ret hh ws rm mc ms n := by
  obtain ⟨hC, hd⟩ := hd
  subst hC
  have ok : ∀ w ∈ wsV own index y.cls y ws, w.before args s = true := fun w h => ht w (hT w h).1
  have hG : GoodIn Ts ws := fun w h => hT w (by unfold wsV; exact List.mem_append_right _ h)
  have hc : Cond.codeWith y bytes maxL ret hh ∈ ws := by rw [hw]; exact List.mem_cons_self
  refine ⟨⟨hrc, hrs, hR.1, hR.2, pay_in ht hG, hc⟩, ht _ (hG _ hc).1, ok _ (by simp [wsV]), ⟨hd.1, hd.2.1⟩, fun sig h => ?_, ok _ (by simp [wsV]), ok _ (by simp [wsV]), ok _ (by simp [wsV])⟩
  have h2 := hd.2.2
  rw [h] at h2
  exact (Option.some.inj h2).symm
theorem vx_runVW {y : MethodName} {bytes cc : ByteArray} {maxL nL mc ms n index : Nat} {ret : Option FieldType} {hh : List (Nat × Nat × Nat × Nat)} {ws : List Cond} {rm : Room} {Pc : Array Value → State → Prop} {Qc : Array Value → State → Outcome → State → Prop} {free : Addr → Prop} {Ts : List Cond} {own C : String} {b : Addr} {As rest : List Value} {g : JFrame}
    (S : CallFix p m c cc nL s args Ts own) (hM : Met l y ws rm Pc Qc mc ms free) (cw : vx_CVW R s args own C index y bytes maxL ret hh ws rm mc ms n) (hp : PreV s H C b Pc As)
    (hg : g.method = m) (hn : As.length = n) (hsize : g.locals.size = nL) (hstack : g.stack = As.reverse ++ .ref b :: rest) (hW : 2 * g.monitorRoom + (rest.map fun v => v.category).sum ≤ 8) (hdg : decode cc g.pc = .ok (.invokevirtual index, 3)) (hf : cells + mc ≤ R.cells ∧ slots + ms ≤ R.slots) :
    va_Run p l e R s m args below meth c H locs cells slots mc ms g rest (Qc (Value.ref b :: As).toArray) free := by
  obtain ⟨⟨hrc, hrs, hfr, hlo, hws, hcw⟩, hcode, hini, hy, hlen, hl, hin, hse⟩ := cw
  have hK : Back l R p e below s args y 3 8 (PreOf R mc ms Pc) (PostOf Qc mc ms free) := va_backW (hh := hh) (bytes := bytes) (maxL := maxL) (ret := ret) hM hp.1 hrc hrs hfr hlo hws hcw (fun a' U hW => word_at hW (Or.inl (by first | rfl | simp [Cond.onTables, Cond.keeps, Cond.steady])) hini)
  obtain ⟨hx, hb, hml, ho, -⟩ := S
  obtain ⟨-, ⟨cellB, hcB, hoB, hclB⟩, hPc⟩ := hp
  intro T hT X
  obtain ⟨v, vm₁, ⟨U', l2, c2, s2⟩, hW₁, X', ⟨g', mk, t, L, e1, e2, hq, h1, hL, h2, h3⟩, st⟩ := vx_callVW X hx (C := C) (hh := hh) (bytes := bytes) (maxL := maxL) (ret := ret) ho hl hin hse hcode hy hK (by rw [hT]; exact hcB) hoB hclB hg (hsize.trans hml.symm) (argsL := As) (rest := rest) (fun sig h => hn.trans (hlen sig h)) hstack hW (by rw [hb]; exact hdg)
    (fun vm₁ hW₁ => ⟨hf.1, hf.2, hPc (T.setVm vm₁) hT hW₁⟩)
  dsimp only [Pt.U, Pt.locs, Pt.cells, Pt.slots] at X' e1 e2 h1 h2 h3 st
  subst h1; subst h2; subst h3
  exact ⟨v, (T.setVm vm₁).calling g' mk (Value.ref b :: As).toArray, t, U', L, hT, X', hL, e1, e2, hq, st⟩
section
variable {y : MethodName} {bytes cc : ByteArray} {maxL nL mc ms n index : Nat} {ret : Option FieldType} {ws : List Cond} {rm : Room} {Pc : Array Value → State → Prop} {Qc : Array Value → State → Outcome → State → Prop} {XC : String → State → State → Prop} {free : Addr → Prop} {Ts : List Cond} {own C : String} {b : Addr} {As rest : List Value} {g : JFrame}
theorem vx_runVX {hh : List (Nat × Nat × Nat × Nat)} (S : CallFix p m c cc nL s args Ts own) (hM : vx_Met l y ws rm Pc Qc XC mc ms free) (cw : vx_CVW R s args own C index y bytes maxL ret hh ws rm mc ms n) (hp : PreV s H C b Pc As)
    (hg : g.method = m) (hn : As.length = n) (hsize : g.locals.size = nL) (hstack : g.stack = As.reverse ++ .ref b :: rest) (hW : 2 * g.monitorRoom + (rest.map fun v => v.category).sum ≤ 8) (hdg : decode cc g.pc = .ok (.invokevirtual index, 3)) (hf : cells + mc ≤ R.cells ∧ slots + ms ≤ R.slots) :
    vx_Run p l e R s m args below meth c H locs cells slots mc ms g rest (Qc (Value.ref b :: As).toArray) XC free := by
  obtain ⟨⟨hrc, hrs, hfr, hlo, hws, hcw⟩, hcode, hini, hy, hlen, hl, hin, hse⟩ := cw
  have hK : vx_Back l R p e below s args y 3 8 (PreOf R mc ms Pc) (PostOf Qc mc ms free) (vx_Post XC mc ms free) := vx_backW (hh := hh) (bytes := bytes) (maxL := maxL) (ret := ret) hM hp.1 hrc hrs hfr hlo hws hcw (fun a' U hW => word_at hW (Or.inl (by first | rfl | simp [Cond.onTables, Cond.keeps, Cond.steady])) hini)
  obtain ⟨hx, hb, hml, ho, -⟩ := S
  obtain ⟨-, ⟨cellB, hcB, hoB, hclB⟩, hPc⟩ := hp
  intro T hT X
  rcases vx_callVX X hx (C := C) (hh := hh) (bytes := bytes) (maxL := maxL) (ret := ret) ho hl hin hse hcode hy hK (by rw [hT]; exact hcB) hoB hclB hg (hsize.trans hml.symm) (argsL := As) (rest := rest) (fun sig h => hn.trans (hlen sig h)) hstack hW (by rw [hb]; exact hdg)
    (fun vm₁ hW₁ => ⟨hf.1, hf.2, hPc (T.setVm vm₁) hT hW₁⟩) with ⟨v, vm₁, ⟨U', l2, c2, s2⟩, hW₁, X', ⟨g', mk, t, L, e1, e2, hq, h1, hL, h2, h3⟩, st⟩ | ⟨q, vm₁, ⟨U', l2, c2, s2⟩, hW₁, X', ⟨g', mk, t, L, E, ce, e1, e2, hq, hce, hcv, hcl, h1, hL, h2, h3⟩, st⟩
  · dsimp only [Pt.U, Pt.locs, Pt.cells, Pt.slots] at X' e1 e2 h1 h2 h3 st
    subst h1; subst h2; subst h3
    exact Or.inl ⟨v, (T.setVm vm₁).calling g' mk (Value.ref b :: As).toArray, t, U', L, hT, X', hL, e1, e2, hq, st⟩
  · dsimp only [Pt.U, Pt.locs, Pt.cells, Pt.slots] at X' e1 e2 h1 h2 h3 st hcl
    subst h1; subst h2; subst h3
    exact Or.inr ⟨q, (T.setVm vm₁).calling g' mk (Value.ref b :: As).toArray, t, U', L, E, ce, hT, X', hL, e1, e2, hq, hce, hcv, vx_cls hW₁ hcl, st⟩
theorem vx_runSX {hh : List (Nat × Nat × Nat × Nat)} (S : CallFix p m c cc nL s args Ts own) (hM : vx_Met l y ws rm Pc Qc XC mc ms free) (cw : vx_CSW R s args own index y bytes maxL ret hh ws rm mc ms n) (hp : PreS s H Pc As)
    (hg : g.method = m) (hn : As.length = n) (hsize : g.locals.size = nL) (hstack : g.stack = As.reverse ++ rest) (hW : 2 * g.monitorRoom + (rest.map fun v => v.category).sum ≤ 8) (hdg : decode cc g.pc = .ok (.invokestatic index, 3)) (hf : cells + mc ≤ R.cells ∧ slots + ms ≤ R.slots) :
    vx_Run p l e R s m args below meth c H locs cells slots mc ms g rest (Qc As.toArray) XC free := by
  obtain ⟨⟨hrc, hrs, hfr, hlo, hws, hcw⟩, hcode, hini, hy, hlen, hl, hstt⟩ := cw
  have hK : vx_Back l R p e below s args y 3 8 (PreOf R mc ms Pc) (PostOf Qc mc ms free) (vx_Post XC mc ms free) := vx_backW (hh := hh) (bytes := bytes) (maxL := maxL) (ret := ret) hM hp.1 hrc hrs hfr hlo hws hcw (fun a' U hW => word_at hW (Or.inl (by first | rfl | simp [Cond.onTables, Cond.keeps, Cond.steady])) hini)
  obtain ⟨hx, hb, hml, ho, -⟩ := S
  intro T hT X
  rcases vx_callSX X hx (hh := hh) (bytes := bytes) (maxL := maxL) (ret := ret) ho hl hstt hini hcode hy hK hg (hsize.trans hml.symm) (argsL := As) (rest := rest) (fun sig h => hn.trans (hlen sig h)) hstack hW (by rw [hb]; exact hdg)
    (fun vm₁ hW₁ => ⟨hf.1, hf.2, hp.2 (T.setVm vm₁) hT hW₁⟩) with ⟨v, vm₁, ⟨U', l2, c2, s2⟩, hW₁, X', ⟨g', mk, t, L, e1, e2, hq, h1, hL, h2, h3⟩, st⟩ | ⟨q, vm₁, ⟨U', l2, c2, s2⟩, hW₁, X', ⟨g', mk, t, L, E, ce, e1, e2, hq, hce, hcv, hcl, h1, hL, h2, h3⟩, st⟩
  · dsimp only [Pt.U, Pt.locs, Pt.cells, Pt.slots] at X' e1 e2 h1 h2 h3 st
    subst h1; subst h2; subst h3
    exact Or.inl ⟨v, (T.setVm vm₁).calling g' mk As.toArray, t, U', L, hT, X', hL, e1, e2, hq, st⟩
  · dsimp only [Pt.U, Pt.locs, Pt.cells, Pt.slots] at X' e1 e2 h1 h2 h3 st hcl
    subst h1; subst h2; subst h3
    exact Or.inr ⟨q, (T.setVm vm₁).calling g' mk As.toArray, t, U', L, E, ce, hT, X', hL, e1, e2, hq, hce, hcv, vx_cls hW₁ hcl, st⟩
end
end VXH
theorem vx_ofWH {l : Launch} {y : MethodName} {ws ws' : List Cond} {rm : Room} {Pc : Array Value → State → Prop} {Qc : Array Value → State → Outcome → State → Prop} {XC : String → State → State → Prop} {mc ms : Nat} {free : Addr → Prop} {cc : ByteArray} {maxL : Nat} {ret : Option FieldType} {hh : List (Nat × Nat × Nat × Nat)}
    (hy : plainName y.cls = true) (hw : ws = Cond.codeWith y cc maxL ret hh :: ws')
    (body : ∀ p e s m args below meth c s₁, BodyLoose p l y (headSpec ws rm) cc maxL ret e s m args below meth c s₁ → c.maxLocals = maxL → Pc args s →
      W p l e (headSpec ws rm).room s m args below meth c s.heap [] 0 0 (vx_MQ below Qc XC args s mc ms free) (entryFrame m args maxL)) : vx_Met l y ws rm Pc Qc XC mc ms free := by
  refine MetFree.of_bodyS (code := cc) (maxLocals := maxL) (ret := ret) hy ?_ ?_
  · intro args s m h hn
    obtain ⟨m9, meth, c, hn9, h1, h2, h3, h4, -, h5, h6, -⟩ := Cond.codeWith_spec (atoms_spec (ws := ws) h _ (by rw [hw]; exact List.mem_cons_self))
    cases hn.symm.trans hn9
    exact ⟨meth, c, h1, h2, h3, h4, h5, h6⟩
  · intro p e s m args below meth c s₁ B hml hP _
    have hh0 : s₁.heap = s.heap := by rw [B.state]; rfl
    obtain ⟨t, a1, o, b1, b2, b3⟩ := body p e s m args below meth c s₁ B hml hP s₁ hh0 (Stand.of_body B)
    exact ⟨t, o, a1, b1, b2, b3⟩
/-! ===== END ===== -/
end
section
def RX0 : String := "FoldedArchive$CommandReader"
def TX0 : u_T := fun k => match k with
  | 0 => ("FoldedArchive$CommandReader", "kinds", "[I", true)
  | 1 => ("FoldedArchive$CommandReader", "operands", "[I", true)
  | 2 => ("FoldedArchive$CommandReader", "count", "I", false)
  | 3 => ("FoldedArchive$CommandReader", "fault", "I", false)
  | 4 => ("FoldedArchive$CommandReader", "position", "I", false)
  | _ => ("FoldedArchive$CommandReader", "operandsRead", "I", false)
def tyX0 : Nat → FieldType := fun k => match k with
  | 0 => .array .int
  | 1 => .array .int
  | 2 => .int
  | 3 => .int
  | 4 => .int
  | _ => .int
abbrev wsX00 : List Cond := u_ws RX0 TX0 6
theorem nmX0 : ∀ a, a < 6 → ∀ b, b < 6 → a ≠ b → (TX0 a).2.1 ≠ (TX0 b).2.1 := by decide +kernel
theorem tyX0_ok : ∀ k, k < 6 → parseFieldDescriptor (TX0 k).2.2.1 = some (tyX0 k) := by decide +kernel
abbrev cX0_init : ByteArray := prog_2_method_1_code
def yX0_init : MethodName := ⟨RX0, "<init>", "()V"⟩
abbrev cX0_kindOf : ByteArray := prog_2_method_2_code
def yX0_kindOf : MethodName := ⟨RX0, "kindOf", "(I)I"⟩
abbrev cX0_operandOf : ByteArray := prog_2_method_3_code
def yX0_operandOf : MethodName := ⟨RX0, "operandOf", "(II)I"⟩
abbrev cX0_read : ByteArray := prog_2_method_4_code
def yX0_read : MethodName := ⟨RX0, "read", "(LFoldedArchive$Row;)V"⟩
abbrev cX0_readCommand : ByteArray := prog_2_method_5_code
def yX0_readCommand : MethodName := ⟨RX0, "readCommand", "(LFoldedArchive$Row;I)V"⟩
abbrev cX0_append : ByteArray := prog_2_method_6_code
def yX0_append : MethodName := ⟨RX0, "append", "(I)V"⟩
abbrev cX0_shapeOf : ByteArray := prog_2_method_7_code
def yX0_shapeOf : MethodName := ⟨RX0, "shapeOf", "(I)Ljava/lang/String;"⟩
abbrev cX0_follows : ByteArray := prog_2_method_8_code
def yX0_follows : MethodName := ⟨RX0, "follows", "(LFoldedArchive$Row;ILjava/lang/String;)Z"⟩
abbrev cX0_followsSign : ByteArray := prog_2_method_9_code
def yX0_followsSign : MethodName := ⟨RX0, "followsSign", "(LFoldedArchive$Row;C)Z"⟩
abbrev cX0_fits : ByteArray := prog_2_method_10_code
def yX0_fits : MethodName := ⟨RX0, "fits", "(CC)Z"⟩
abbrev cX0_numberFrom : ByteArray := prog_2_method_11_code
def yX0_numberFrom : MethodName := ⟨RX0, "numberFrom", "(LFoldedArchive$Row;C)I"⟩
abbrev cX0_takeOperand : ByteArray := prog_2_method_12_code
def yX0_takeOperand : MethodName := ⟨RX0, "takeOperand", "(I)V"⟩
abbrev cX0_isDigit : ByteArray := prog_2_method_13_code
def yX0_isDigit : MethodName := ⟨RX0, "isDigit", "(C)Z"⟩
def RX1 : String := "FoldedArchive$FlowSearch"
def TX1 : u_T := fun k => match k with
  | 0 => ("FoldedArchive$FlowSearch", "spare", "[I", true)
  | 1 => ("FoldedArchive$FlowSearch", "reachedFrom", "[I", true)
  | _ => ("FoldedArchive$FlowSearch", "queue", "[I", true)
def tyX1 : Nat → FieldType := fun k => match k with
  | 0 => .array .int
  | 1 => .array .int
  | _ => .array .int
abbrev wsX10 : List Cond := u_ws RX1 TX1 3
theorem nmX1 : ∀ a, a < 3 → ∀ b, b < 3 → a ≠ b → (TX1 a).2.1 ≠ (TX1 b).2.1 := by decide +kernel
theorem tyX1_ok : ∀ k, k < 3 → parseFieldDescriptor (TX1 k).2.2.1 = some (tyX1 k) := by decide +kernel
abbrev cX1_init : ByteArray := prog_3_method_1_code
def yX1_init : MethodName := ⟨RX1, "<init>", "()V"⟩
abbrev cX1_greatest : ByteArray := prog_3_method_2_code
def yX1_greatest : MethodName := ⟨RX1, "greatest", "(LFoldedArchive$Pipes;II)I"⟩
abbrev cX1_openPipes : ByteArray := prog_3_method_3_code
def yX1_openPipes : MethodName := ⟨RX1, "openPipes", "(LFoldedArchive$Pipes;I)V"⟩
abbrev cX1_inGrid : ByteArray := prog_3_method_4_code
def yX1_inGrid : MethodName := ⟨RX1, "inGrid", "(II)Z"⟩
abbrev cX1_addSpare : ByteArray := prog_3_method_5_code
def yX1_addSpare : MethodName := ⟨RX1, "addSpare", "(III)V"⟩
abbrev cX1_spareOf : ByteArray := prog_3_method_6_code
def yX1_spareOf : MethodName := ⟨RX1, "spareOf", "(II)I"⟩
abbrev cX1_reachesLast : ByteArray := prog_3_method_7_code
def yX1_reachesLast : MethodName := ⟨RX1, "reachesLast", "(I)Z"⟩
abbrev cX1_previousOf : ByteArray := prog_3_method_8_code
def yX1_previousOf : MethodName := ⟨RX1, "previousOf", "(I)I"⟩
abbrev cX1_augment : ByteArray := prog_3_method_9_code
def yX1_augment : MethodName := ⟨RX1, "augment", "(I)I"⟩
abbrev cX1_smallest : ByteArray := prog_3_method_10_code
def yX1_smallest : MethodName := ⟨RX1, "smallest", "(LFoldedArchive$Pipes;I)I"⟩
abbrev cX1_cutSize : ByteArray := prog_3_method_11_code
def yX1_cutSize : MethodName := ⟨RX1, "cutSize", "(LFoldedArchive$Pipes;I)I"⟩
abbrev cX1_contains : ByteArray := prog_3_method_12_code
def yX1_contains : MethodName := ⟨RX1, "contains", "(II)Z"⟩
def RX2 : String := "FoldedArchive$FoldingSearch"
def TX2 : u_T := fun k => match k with
  | 0 => ("FoldedArchive$FoldingSearch", "trial", "LFoldedArchive$Pile;", true)
  | _ => ("FoldedArchive$FoldingSearch", "placed", "[I", true)
def tyX2 : Nat → FieldType := fun k => match k with
  | 0 => .object "FoldedArchive$Pile"
  | _ => .array .int
abbrev wsX20 : List Cond := u_ws RX2 TX2 2
theorem nmX2 : ∀ a, a < 2 → ∀ b, b < 2 → a ≠ b → (TX2 a).2.1 ≠ (TX2 b).2.1 := by decide +kernel
theorem tyX2_ok : ∀ k, k < 2 → parseFieldDescriptor (TX2 k).2.2.1 = some (tyX2 k) := by decide +kernel
abbrev cX2_init : ByteArray := prog_4_method_1_code
def yX2_init : MethodName := ⟨RX2, "<init>", "()V"⟩
abbrev cX2_countByFolding : ByteArray := prog_4_method_2_code
def yX2_countByFolding : MethodName := ⟨RX2, "countByFolding", "(LFoldedArchive$Pile;I)I"⟩
abbrev cX2_foldRest : ByteArray := prog_4_method_3_code
def yX2_foldRest : MethodName := ⟨RX2, "foldRest", "(II)I"⟩
abbrev cX2_foldInto : ByteArray := prog_4_method_4_code
def yX2_foldInto : MethodName := ⟨RX2, "foldInto", "(III)I"⟩
abbrev cX2_countByOrders : ByteArray := prog_4_method_5_code
def yX2_countByOrders : MethodName := ⟨RX2, "countByOrders", "(LFoldedArchive$Pile;I)I"⟩
abbrev cX2_placeRest : ByteArray := prog_4_method_6_code
def yX2_placeRest : MethodName := ⟨RX2, "placeRest", "(II)I"⟩
abbrev cX2_goOnAbove : ByteArray := prog_4_method_7_code
def yX2_goOnAbove : MethodName := ⟨RX2, "goOnAbove", "(III)I"⟩
abbrev cX2_isNextOfPile : ByteArray := prog_4_method_8_code
def yX2_isNextOfPile : MethodName := ⟨RX2, "isNextOfPile", "(II)Z"⟩
abbrev cX2_placeOf : ByteArray := prog_4_method_9_code
def yX2_placeOf : MethodName := ⟨RX2, "placeOf", "(II)I"⟩
abbrev cX2_spanCrosses : ByteArray := prog_4_method_10_code
def yX2_spanCrosses : MethodName := ⟨RX2, "spanCrosses", "(II)Z"⟩
def RX3 : String := "FoldedArchive$History"
def TX3 : u_T := fun k => match k with
  | 0 => ("FoldedArchive$History", "kept", "[LFoldedArchive$State;", true)
  | 1 => ("FoldedArchive$History", "next", "I", false)
  | _ => ("FoldedArchive$History", "count", "I", false)
def tyX3 : Nat → FieldType := fun k => match k with
  | 0 => .array (.object "FoldedArchive$State")
  | 1 => .int
  | _ => .int
abbrev wsX30 : List Cond := u_ws RX3 TX3 3
theorem nmX3 : ∀ a, a < 3 → ∀ b, b < 3 → a ≠ b → (TX3 a).2.1 ≠ (TX3 b).2.1 := by decide +kernel
theorem tyX3_ok : ∀ k, k < 3 → parseFieldDescriptor (TX3 k).2.2.1 = some (tyX3 k) := by decide +kernel
abbrev cX3_init : ByteArray := prog_5_method_1_code
def yX3_init : MethodName := ⟨RX3, "<init>", "()V"⟩
abbrev cX3_stateAt : ByteArray := prog_5_method_2_code
def yX3_stateAt : MethodName := ⟨RX3, "stateAt", "(I)LFoldedArchive$State;"⟩
abbrev cX3_keep : ByteArray := prog_5_method_3_code
def yX3_keep : MethodName := ⟨RX3, "keep", "(LFoldedArchive$State;)V"⟩
abbrev cX3_takeBack : ByteArray := prog_5_method_4_code
def yX3_takeBack : MethodName := ⟨RX3, "takeBack", "(LFoldedArchive$State;)V"⟩
abbrev cX3_forget : ByteArray := prog_5_method_5_code
def yX3_forget : MethodName := ⟨RX3, "forget", "()V"⟩
def RX4 : String := "FoldedArchive$Pile"
def TX4 : u_T := fun k => match k with
  | 0 => ("FoldedArchive$Pile", "folded", "I", false)
  | _ => ("FoldedArchive$Pile", "layers", "[I", true)
def tyX4 : Nat → FieldType := fun k => match k with
  | 0 => .int
  | _ => .array .int
abbrev wsX40 : List Cond := u_ws RX4 TX4 2
theorem nmX4 : ∀ a, a < 2 → ∀ b, b < 2 → a ≠ b → (TX4 a).2.1 ≠ (TX4 b).2.1 := by decide +kernel
theorem tyX4_ok : ∀ k, k < 2 → parseFieldDescriptor (TX4 k).2.2.1 = some (tyX4 k) := by decide +kernel
abbrev cX4_init : ByteArray := prog_6_method_1_code
def yX4_init : MethodName := ⟨RX4, "<init>", "()V"⟩
abbrev cX4_copyFrom : ByteArray := prog_6_method_2_code
def yX4_copyFrom : MethodName := ⟨RX4, "copyFrom", "(LFoldedArchive$Pile;)V"⟩
abbrev cX4_layerHolding : ByteArray := prog_6_method_3_code
def yX4_layerHolding : MethodName := ⟨RX4, "layerHolding", "(I)I"⟩
abbrev cX4_sectionAt : ByteArray := prog_6_method_4_code
def yX4_sectionAt : MethodName := ⟨RX4, "sectionAt", "(I)I"⟩
abbrev cX4_spansCross : ByteArray := prog_6_method_5_code
def yX4_spansCross : MethodName := ⟨RX4, "spansCross", "(IIII)Z"⟩
abbrev cX4_layerAfterInsert : ByteArray := prog_6_method_6_code
def yX4_layerAfterInsert : MethodName := ⟨RX4, "layerAfterInsert", "(II)I"⟩
abbrev cX4_creaseCrossedAt : ByteArray := prog_6_method_7_code
def yX4_creaseCrossedAt : MethodName := ⟨RX4, "creaseCrossedAt", "(I)I"⟩
abbrev cX4_insert : ByteArray := prog_6_method_8_code
def yX4_insert : MethodName := ⟨RX4, "insert", "(I)I"⟩
abbrev cX4_removeLast : ByteArray := prog_6_method_9_code
def yX4_removeLast : MethodName := ⟨RX4, "removeLast", "()I"⟩
def RX5 : String := "FoldedArchive$Pipes"
def TX5 : u_T := fun k => match k with
  | 0 => ("FoldedArchive$Pipes", "count", "I", false)
  | 1 => ("FoldedArchive$Pipes", "starts", "[I", true)
  | 2 => ("FoldedArchive$Pipes", "ends", "[I", true)
  | 3 => ("FoldedArchive$Pipes", "widths", "[I", true)
  | _ => ("FoldedArchive$Pipes", "broken", "[Z", true)
def tyX5 : Nat → FieldType := fun k => match k with
  | 0 => .int
  | 1 => .array .int
  | 2 => .array .int
  | 3 => .array .int
  | _ => .array .boolean
abbrev wsX50 : List Cond := u_ws RX5 TX5 5
theorem nmX5 : ∀ a, a < 5 → ∀ b, b < 5 → a ≠ b → (TX5 a).2.1 ≠ (TX5 b).2.1 := by decide +kernel
theorem tyX5_ok : ∀ k, k < 5 → parseFieldDescriptor (TX5 k).2.2.1 = some (tyX5 k) := by decide +kernel
abbrev cX5_init : ByteArray := prog_7_method_1_code
def yX5_init : MethodName := ⟨RX5, "<init>", "()V"⟩
abbrev cX5_copyFrom : ByteArray := prog_7_method_2_code
def yX5_copyFrom : MethodName := ⟨RX5, "copyFrom", "(LFoldedArchive$Pipes;)V"⟩
abbrev cX5_has : ByteArray := prog_7_method_3_code
def yX5_has : MethodName := ⟨RX5, "has", "(I)Z"⟩
abbrev cX5_startOf : ByteArray := prog_7_method_4_code
def yX5_startOf : MethodName := ⟨RX5, "startOf", "(I)I"⟩
abbrev cX5_endOf : ByteArray := prog_7_method_5_code
def yX5_endOf : MethodName := ⟨RX5, "endOf", "(I)I"⟩
abbrev cX5_widthOf : ByteArray := prog_7_method_6_code
def yX5_widthOf : MethodName := ⟨RX5, "widthOf", "(I)I"⟩
abbrev cX5_brokenAt : ByteArray := prog_7_method_7_code
def yX5_brokenAt : MethodName := ⟨RX5, "brokenAt", "(I)Z"⟩
abbrev cX5_brokenCount : ByteArray := prog_7_method_8_code
def yX5_brokenCount : MethodName := ⟨RX5, "brokenCount", "()I"⟩
abbrev cX5_append : ByteArray := prog_7_method_9_code
def yX5_append : MethodName := ⟨RX5, "append", "(III)I"⟩
abbrev cX5_remove : ByteArray := prog_7_method_10_code
def yX5_remove : MethodName := ⟨RX5, "remove", "(I)I"⟩
abbrev cX5_setBroken : ByteArray := prog_7_method_11_code
def yX5_setBroken : MethodName := ⟨RX5, "setBroken", "(IZ)I"⟩
def RX6 : String := "FoldedArchive$Row"
def TX6 : u_T := fun k => match k with
  | 0 => ("FoldedArchive$Row", "signs", "[C", true)
  | _ => ("FoldedArchive$Row", "length", "I", false)
def tyX6 : Nat → FieldType := fun k => match k with
  | 0 => .array .char
  | _ => .int
abbrev wsX60 : List Cond := u_ws RX6 TX6 2
theorem nmX6 : ∀ a, a < 2 → ∀ b, b < 2 → a ≠ b → (TX6 a).2.1 ≠ (TX6 b).2.1 := by decide +kernel
theorem tyX6_ok : ∀ k, k < 2 → parseFieldDescriptor (TX6 k).2.2.1 = some (tyX6 k) := by decide +kernel
abbrev cX6_init : ByteArray := prog_8_method_1_code
def yX6_init : MethodName := ⟨RX6, "<init>", "(I)V"⟩
abbrev cX6_isFull : ByteArray := prog_8_method_2_code
def yX6_isFull : MethodName := ⟨RX6, "isFull", "()Z"⟩
abbrev cX6_put : ByteArray := prog_8_method_3_code
def yX6_put : MethodName := ⟨RX6, "put", "(C)V"⟩
abbrev cX6_at : ByteArray := prog_8_method_5_code
def yX6_at : MethodName := ⟨RX6, "at", "(I)C"⟩
abbrev cX6_empty : ByteArray := prog_8_method_6_code
def yX6_empty : MethodName := ⟨RX6, "empty", "()V"⟩
def RX7 : String := "FoldedArchive$SearchReader"
def TX7 : u_T := fun k => match k with
  | 0 => ("FoldedArchive$SearchReader", "bearers", "[I", true)
  | 1 => ("FoldedArchive$SearchReader", "everything", "I", false)
  | 2 => ("FoldedArchive$SearchReader", "position", "I", false)
  | _ => ("FoldedArchive$SearchReader", "fault", "I", false)
def tyX7 : Nat → FieldType := fun k => match k with
  | 0 => .array .int
  | 1 => .int
  | 2 => .int
  | _ => .int
abbrev wsX70 : List Cond := u_ws RX7 TX7 4
theorem nmX7 : ∀ a, a < 4 → ∀ b, b < 4 → a ≠ b → (TX7 a).2.1 ≠ (TX7 b).2.1 := by decide +kernel
theorem tyX7_ok : ∀ k, k < 4 → parseFieldDescriptor (TX7 k).2.2.1 = some (tyX7 k) := by decide +kernel
abbrev cX7_init : ByteArray := prog_9_method_1_code
def yX7_init : MethodName := ⟨RX7, "<init>", "()V"⟩
abbrev cX7_askForAll : ByteArray := prog_9_method_2_code
def yX7_askForAll : MethodName := ⟨RX7, "askForAll", "(LFoldedArchive$Strip;)V"⟩
abbrev cX7_askForOne : ByteArray := prog_9_method_3_code
def yX7_askForOne : MethodName := ⟨RX7, "askForOne", "(LFoldedArchive$Strip;I)V"⟩
abbrev cX7_read : ByteArray := prog_9_method_4_code
def yX7_read : MethodName := ⟨RX7, "read", "(LFoldedArchive$Row;)I"⟩
abbrev cX7_readSum : ByteArray := prog_9_method_5_code
def yX7_readSum : MethodName := ⟨RX7, "readSum", "(LFoldedArchive$Row;I)I"⟩
abbrev cX7_readProduct : ByteArray := prog_9_method_6_code
def yX7_readProduct : MethodName := ⟨RX7, "readProduct", "(LFoldedArchive$Row;I)I"⟩
abbrev cX7_startsFactor : ByteArray := prog_9_method_7_code
def yX7_startsFactor : MethodName := ⟨RX7, "startsFactor", "(C)Z"⟩
abbrev cX7_readFactor : ByteArray := prog_9_method_8_code
def yX7_readFactor : MethodName := ⟨RX7, "readFactor", "(LFoldedArchive$Row;I)I"⟩
abbrev cX7_readPlainFactor : ByteArray := prog_9_method_9_code
def yX7_readPlainFactor : MethodName := ⟨RX7, "readPlainFactor", "(LFoldedArchive$Row;I)I"⟩
abbrev cX7_bearersOf : ByteArray := prog_9_method_10_code
def yX7_bearersOf : MethodName := ⟨RX7, "bearersOf", "(I)I"⟩
def RX8 : String := "FoldedArchive$State"
def TX8 : u_T := fun k => match k with
  | 0 => ("FoldedArchive$State", "strip", "LFoldedArchive$Strip;", true)
  | 1 => ("FoldedArchive$State", "pile", "LFoldedArchive$Pile;", true)
  | _ => ("FoldedArchive$State", "pipes", "LFoldedArchive$Pipes;", true)
def tyX8 : Nat → FieldType := fun k => match k with
  | 0 => .object "FoldedArchive$Strip"
  | 1 => .object "FoldedArchive$Pile"
  | _ => .object "FoldedArchive$Pipes"
abbrev wsX80 : List Cond := u_ws RX8 TX8 3
theorem nmX8 : ∀ a, a < 3 → ∀ b, b < 3 → a ≠ b → (TX8 a).2.1 ≠ (TX8 b).2.1 := by decide +kernel
theorem tyX8_ok : ∀ k, k < 3 → parseFieldDescriptor (TX8 k).2.2.1 = some (tyX8 k) := by decide +kernel
abbrev cX8_init : ByteArray := prog_10_method_1_code
def yX8_init : MethodName := ⟨RX8, "<init>", "()V"⟩
abbrev cX8_copyFrom : ByteArray := prog_10_method_2_code
def yX8_copyFrom : MethodName := ⟨RX8, "copyFrom", "(LFoldedArchive$State;)V"⟩
abbrev cX8_judge : ByteArray := prog_10_method_3_code
def yX8_judge : MethodName := ⟨RX8, "judge", "(IIII)I"⟩
abbrev cX8_denied : ByteArray := prog_10_method_4_code
def yX8_denied : MethodName := ⟨RX8, "denied", "(II)I"⟩
abbrev cX8_judgePour : ByteArray := prog_10_method_5_code
def yX8_judgePour : MethodName := ⟨RX8, "judgePour", "(II)I"⟩
abbrev cX8_judgeTerm : ByteArray := prog_10_method_6_code
def yX8_judgeTerm : MethodName := ⟨RX8, "judgeTerm", "(IIZ)I"⟩
abbrev cX8_judgeFold : ByteArray := prog_10_method_7_code
def yX8_judgeFold : MethodName := ⟨RX8, "judgeFold", "(I)I"⟩
abbrev cX8_judgePipe : ByteArray := prog_10_method_8_code
def yX8_judgePipe : MethodName := ⟨RX8, "judgePipe", "(III)I"⟩
abbrev cX8_judgeBroken : ByteArray := prog_10_method_9_code
def yX8_judgeBroken : MethodName := ⟨RX8, "judgeBroken", "(IZ)I"⟩
abbrev cX8_judgeEnds : ByteArray := prog_10_method_10_code
def yX8_judgeEnds : MethodName := ⟨RX8, "judgeEnds", "()I"⟩
abbrev cX8_apply : ByteArray := prog_10_method_11_code
def yX8_apply : MethodName := ⟨RX8, "apply", "(IIIILFoldedArchive$FlowSearch;)I"⟩
abbrev cX8_moveAlongPipes : ByteArray := prog_10_method_12_code
def yX8_moveAlongPipes : MethodName := ⟨RX8, "moveAlongPipes", "(I)I"⟩
abbrev cX8_moveDownPile : ByteArray := prog_10_method_13_code
def yX8_moveDownPile : MethodName := ⟨RX8, "moveDownPile", "()I"⟩
def RX9 : String := "FoldedArchive$Strip"
def TX9 : u_T := fun k => match k with
  | 0 => ("FoldedArchive$Strip", "count", "I", false)
  | 1 => ("FoldedArchive$Strip", "pouredUnits", "I", false)
  | 2 => ("FoldedArchive$Strip", "leakedUnits", "I", false)
  | 3 => ("FoldedArchive$Strip", "water", "[I", true)
  | _ => ("FoldedArchive$Strip", "terms", "[I", true)
def tyX9 : Nat → FieldType := fun k => match k with
  | 0 => .int
  | 1 => .int
  | 2 => .int
  | 3 => .array .int
  | _ => .array .int
abbrev wsX90 : List Cond := u_ws RX9 TX9 5
theorem nmX9 : ∀ a, a < 5 → ∀ b, b < 5 → a ≠ b → (TX9 a).2.1 ≠ (TX9 b).2.1 := by decide +kernel
theorem tyX9_ok : ∀ k, k < 5 → parseFieldDescriptor (TX9 k).2.2.1 = some (tyX9 k) := by decide +kernel
abbrev cX9_init : ByteArray := prog_11_method_1_code
def yX9_init : MethodName := ⟨RX9, "<init>", "()V"⟩
abbrev cX9_copyFrom : ByteArray := prog_11_method_2_code
def yX9_copyFrom : MethodName := ⟨RX9, "copyFrom", "(LFoldedArchive$Strip;)V"⟩
abbrev cX9_isTerm : ByteArray := prog_11_method_3_code
def yX9_isTerm : MethodName := ⟨RX9, "isTerm", "(I)Z"⟩
abbrev cX9_bitOf : ByteArray := prog_11_method_4_code
def yX9_bitOf : MethodName := ⟨RX9, "bitOf", "(I)I"⟩
abbrev cX9_has : ByteArray := prog_11_method_5_code
def yX9_has : MethodName := ⟨RX9, "has", "(I)Z"⟩
abbrev cX9_append : ByteArray := prog_11_method_6_code
def yX9_append : MethodName := ⟨RX9, "append", "()I"⟩
abbrev cX9_waterOf : ByteArray := prog_11_method_7_code
def yX9_waterOf : MethodName := ⟨RX9, "waterOf", "(I)I"⟩
abbrev cX9_termCountOf : ByteArray := prog_11_method_8_code
def yX9_termCountOf : MethodName := ⟨RX9, "termCountOf", "(I)I"⟩
abbrev cX9_bears : ByteArray := prog_11_method_9_code
def yX9_bears : MethodName := ⟨RX9, "bears", "(II)Z"⟩
abbrev cX9_bearersOf : ByteArray := prog_11_method_10_code
def yX9_bearersOf : MethodName := ⟨RX9, "bearersOf", "(I)I"⟩
abbrev cX9_giveTerm : ByteArray := prog_11_method_11_code
def yX9_giveTerm : MethodName := ⟨RX9, "giveTerm", "(II)I"⟩
abbrev cX9_takeTerm : ByteArray := prog_11_method_12_code
def yX9_takeTerm : MethodName := ⟨RX9, "takeTerm", "(II)I"⟩
abbrev cX9_receivePoured : ByteArray := prog_11_method_13_code
def yX9_receivePoured : MethodName := ⟨RX9, "receivePoured", "(II)I"⟩
abbrev cX9_give : ByteArray := prog_11_method_14_code
def yX9_give : MethodName := ⟨RX9, "give", "(II)V"⟩
abbrev cX9_add : ByteArray := prog_11_method_15_code
def yX9_add : MethodName := ⟨RX9, "add", "(II)V"⟩
abbrev cX9_receive : ByteArray := prog_11_method_16_code
def yX9_receive : MethodName := ⟨RX9, "receive", "(II)I"⟩
abbrev cX9_leak : ByteArray := prog_11_method_17_code
def yX9_leak : MethodName := ⟨RX9, "leak", "(I)V"⟩
abbrev cX9_waterSum : ByteArray := prog_11_method_18_code
def yX9_waterSum : MethodName := ⟨RX9, "waterSum", "()I"⟩
abbrev cX9_comesBefore : ByteArray := prog_11_method_19_code
def yX9_comesBefore : MethodName := ⟨RX9, "comesBefore", "(II)Z"⟩
abbrev cX9_rankOf : ByteArray := prog_11_method_20_code
def yX9_rankOf : MethodName := ⟨RX9, "rankOf", "(I)I"⟩
abbrev cX9_sectionAtRank : ByteArray := prog_11_method_21_code
def yX9_sectionAtRank : MethodName := ⟨RX9, "sectionAtRank", "(I)I"⟩
def RX10 : String := "FoldedArchive"
def TX10 : u_T := fun k => match k with
  | 0 => ("FoldedArchive", "state", "LFoldedArchive$State;", true)
  | 1 => ("FoldedArchive", "beforeText", "LFoldedArchive$State;", true)
  | 2 => ("FoldedArchive", "snapshot", "LFoldedArchive$State;", true)
  | 3 => ("FoldedArchive", "history", "LFoldedArchive$History;", true)
  | 4 => ("FoldedArchive", "flows", "LFoldedArchive$FlowSearch;", true)
  | 5 => ("FoldedArchive", "foldings", "LFoldedArchive$FoldingSearch;", true)
  | 6 => ("FoldedArchive", "text", "LFoldedArchive$Row;", true)
  | 7 => ("FoldedArchive", "line", "LFoldedArchive$Row;", true)
  | 8 => ("FoldedArchive", "searches", "LFoldedArchive$SearchReader;", true)
  | 9 => ("FoldedArchive", "commands", "LFoldedArchive$CommandReader;", true)
  | 10 => ("FoldedArchive", "snapshotSaved", "Z", false)
  | 11 => ("FoldedArchive", "keptFault", "I", false)
  | 12 => ("FoldedArchive", "deniedNumber", "I", false)
  | 13 => ("FoldedArchive", "deniedDetail", "I", false)
  | _ => ("FoldedArchive", "deniedCause", "I", false)
def tyX10 : Nat → FieldType := fun k => match k with
  | 0 => .object "FoldedArchive$State"
  | 1 => .object "FoldedArchive$State"
  | 2 => .object "FoldedArchive$State"
  | 3 => .object "FoldedArchive$History"
  | 4 => .object "FoldedArchive$FlowSearch"
  | 5 => .object "FoldedArchive$FoldingSearch"
  | 6 => .object "FoldedArchive$Row"
  | 7 => .object "FoldedArchive$Row"
  | 8 => .object "FoldedArchive$SearchReader"
  | 9 => .object "FoldedArchive$CommandReader"
  | 10 => .boolean
  | 11 => .int
  | 12 => .int
  | 13 => .int
  | _ => .int
abbrev wsX100 : List Cond := u_ws RX10 TX10 15
theorem nmX10 : ∀ a, a < 15 → ∀ b, b < 15 → a ≠ b → (TX10 a).2.1 ≠ (TX10 b).2.1 := by decide +kernel
theorem tyX10_ok : ∀ k, k < 15 → parseFieldDescriptor (TX10 k).2.2.1 = some (tyX10 k) := by decide +kernel
abbrev cX10_init : ByteArray := prog_1_method_1_code
def yX10_init : MethodName := ⟨RX10, "<init>", "()V"⟩
abbrev cX10_addSection : ByteArray := prog_1_method_2_code
def yX10_addSection : MethodName := ⟨RX10, "addSection", "()I"⟩
abbrev cX10_pour : ByteArray := prog_1_method_3_code
def yX10_pour : MethodName := ⟨RX10, "pour", "(II)I"⟩
abbrev cX10_tag : ByteArray := prog_1_method_4_code
def yX10_tag : MethodName := ⟨RX10, "tag", "(IC)I"⟩
abbrev cX10_untag : ByteArray := prog_1_method_5_code
def yX10_untag : MethodName := ⟨RX10, "untag", "(IC)I"⟩
abbrev cX10_sectionCount : ByteArray := prog_1_method_6_code
def yX10_sectionCount : MethodName := ⟨RX10, "sectionCount", "()I"⟩
abbrev cX10_water : ByteArray := prog_1_method_7_code
def yX10_water : MethodName := ⟨RX10, "water", "(I)I"⟩
abbrev cX10_hasTerm : ByteArray := prog_1_method_8_code
def yX10_hasTerm : MethodName := ⟨RX10, "hasTerm", "(IC)Z"⟩
abbrev cX10_sectionsWith : ByteArray := prog_1_method_9_code
def yX10_sectionsWith : MethodName := ⟨RX10, "sectionsWith", "(C)I"⟩
abbrev cX10_sectionByWater : ByteArray := prog_1_method_10_code
def yX10_sectionByWater : MethodName := ⟨RX10, "sectionByWater", "(I)I"⟩
abbrev cX10_fold : ByteArray := prog_1_method_11_code
def yX10_fold : MethodName := ⟨RX10, "fold", "(I)I"⟩
abbrev cX10_unfold : ByteArray := prog_1_method_12_code
def yX10_unfold : MethodName := ⟨RX10, "unfold", "()I"⟩
abbrev cX10_foldedCount : ByteArray := prog_1_method_13_code
def yX10_foldedCount : MethodName := ⟨RX10, "foldedCount", "()I"⟩
abbrev cX10_layerOf : ByteArray := prog_1_method_14_code
def yX10_layerOf : MethodName := ⟨RX10, "layerOf", "(I)I"⟩
abbrev cX10_sectionIn : ByteArray := prog_1_method_15_code
def yX10_sectionIn : MethodName := ⟨RX10, "sectionIn", "(I)I"⟩
abbrev cX10_canFold : ByteArray := prog_1_method_16_code
def yX10_canFold : MethodName := ⟨RX10, "canFold", "(I)Z"⟩
abbrev cX10_completions : ByteArray := prog_1_method_17_code
def yX10_completions : MethodName := ⟨RX10, "completions", "()I"⟩
abbrev cX10_completionsByOrders : ByteArray := prog_1_method_18_code
def yX10_completionsByOrders : MethodName := ⟨RX10, "completionsByOrders", "()I"⟩
abbrev cX10_layPipe : ByteArray := prog_1_method_19_code
def yX10_layPipe : MethodName := ⟨RX10, "layPipe", "(III)I"⟩
abbrev cX10_removePipe : ByteArray := prog_1_method_20_code
def yX10_removePipe : MethodName := ⟨RX10, "removePipe", "(I)I"⟩
abbrev cX10_breakPipe : ByteArray := prog_1_method_21_code
def yX10_breakPipe : MethodName := ⟨RX10, "breakPipe", "(I)I"⟩
abbrev cX10_mendPipe : ByteArray := prog_1_method_22_code
def yX10_mendPipe : MethodName := ⟨RX10, "mendPipe", "(I)I"⟩
abbrev cX10_pipeCount : ByteArray := prog_1_method_23_code
def yX10_pipeCount : MethodName := ⟨RX10, "pipeCount", "()I"⟩
abbrev cX10_pipeFrom : ByteArray := prog_1_method_24_code
def yX10_pipeFrom : MethodName := ⟨RX10, "pipeFrom", "(I)I"⟩
abbrev cX10_pipeTo : ByteArray := prog_1_method_25_code
def yX10_pipeTo : MethodName := ⟨RX10, "pipeTo", "(I)I"⟩
abbrev cX10_capacity : ByteArray := prog_1_method_26_code
def yX10_capacity : MethodName := ⟨RX10, "capacity", "(I)I"⟩
abbrev cX10_isBroken : ByteArray := prog_1_method_27_code
def yX10_isBroken : MethodName := ⟨RX10, "isBroken", "(I)Z"⟩
abbrev cX10_greatestFlow : ByteArray := prog_1_method_28_code
def yX10_greatestFlow : MethodName := ⟨RX10, "greatestFlow", "()I"⟩
abbrev cX10_smallestCut : ByteArray := prog_1_method_29_code
def yX10_smallestCut : MethodName := ⟨RX10, "smallestCut", "()I"⟩
abbrev cX10_lossOf : ByteArray := prog_1_method_30_code
def yX10_lossOf : MethodName := ⟨RX10, "lossOf", "(I)I"⟩
abbrev cX10_drain : ByteArray := prog_1_method_31_code
def yX10_drain : MethodName := ⟨RX10, "drain", "()I"⟩
abbrev cX10_seep : ByteArray := prog_1_method_32_code
def yX10_seep : MethodName := ⟨RX10, "seep", "()I"⟩
abbrev cX10_totalWater : ByteArray := prog_1_method_33_code
def yX10_totalWater : MethodName := ⟨RX10, "totalWater", "()I"⟩
abbrev cX10_totalWaterByAccounts : ByteArray := prog_1_method_34_code
def yX10_totalWaterByAccounts : MethodName := ⟨RX10, "totalWaterByAccounts", "()I"⟩
abbrev cX10_poured : ByteArray := prog_1_method_35_code
def yX10_poured : MethodName := ⟨RX10, "poured", "()I"⟩
abbrev cX10_leaked : ByteArray := prog_1_method_36_code
def yX10_leaked : MethodName := ⟨RX10, "leaked", "()I"⟩
abbrev cX10_meanWater : ByteArray := prog_1_method_37_code
def yX10_meanWater : MethodName := ⟨RX10, "meanWater", "()D"⟩
abbrev cX10_leakedShare : ByteArray := prog_1_method_38_code
def yX10_leakedShare : MethodName := ⟨RX10, "leakedShare", "()F"⟩
abbrev cX10_feed : ByteArray := prog_1_method_39_code
def yX10_feed : MethodName := ⟨RX10, "feed", "(C)I"⟩
abbrev cX10_clearText : ByteArray := prog_1_method_40_code
def yX10_clearText : MethodName := ⟨RX10, "clearText", "()I"⟩
abbrev cX10_search : ByteArray := prog_1_method_41_code
def yX10_search : MethodName := ⟨RX10, "search", "()I"⟩
abbrev cX10_matches : ByteArray := prog_1_method_42_code
def yX10_matches : MethodName := ⟨RX10, "matches", "(I)Z"⟩
abbrev cX10_execute : ByteArray := prog_1_method_43_code
def yX10_execute : MethodName := ⟨RX10, "execute", "()I"⟩
abbrev cX10_denial : ByteArray := prog_1_method_48_code
def yX10_denial : MethodName := ⟨RX10, "denial", "()I"⟩
abbrev cX10_denialDetail : ByteArray := prog_1_method_49_code
def yX10_denialDetail : MethodName := ⟨RX10, "denialDetail", "()I"⟩
abbrev cX10_undo : ByteArray := prog_1_method_51_code
def yX10_undo : MethodName := ⟨RX10, "undo", "()I"⟩
abbrev cX10_undoCount : ByteArray := prog_1_method_52_code
def yX10_undoCount : MethodName := ⟨RX10, "undoCount", "()I"⟩
abbrev cX10_saveSnapshot : ByteArray := prog_1_method_53_code
def yX10_saveSnapshot : MethodName := ⟨RX10, "saveSnapshot", "()I"⟩
abbrev cX10_restoreSnapshot : ByteArray := prog_1_method_54_code
def yX10_restoreSnapshot : MethodName := ⟨RX10, "restoreSnapshot", "()I"⟩
abbrev cX10_change : ByteArray := prog_1_method_55_code
def yX10_change : MethodName := ⟨RX10, "change", "(IIII)I"⟩
abbrev cX10_runCommand : ByteArray := prog_1_method_56_code
def yX10_runCommand : MethodName := ⟨RX10, "runCommand", "(I)I"⟩
abbrev cX10_obey : ByteArray := prog_1_method_57_code
def yX10_obey : MethodName := ⟨RX10, "obey", "(I)V"⟩
abbrev cX10_causeOf : ByteArray := prog_1_method_58_code
def yX10_causeOf : MethodName := ⟨RX10, "causeOf", "(I)I"⟩
abbrev cX10_recordDenial : ByteArray := prog_1_method_59_code
def yX10_recordDenial : MethodName := ⟨RX10, "recordDenial", "(III)V"⟩
abbrev cX10_requireSection : ByteArray := prog_1_method_60_code
def yX10_requireSection : MethodName := ⟨RX10, "requireSection", "(I)V"⟩
abbrev cX10_requirePipe : ByteArray := prog_1_method_61_code
def yX10_requirePipe : MethodName := ⟨RX10, "requirePipe", "(I)V"⟩
abbrev cX10_requireTerm : ByteArray := prog_1_method_62_code
def yX10_requireTerm : MethodName := ⟨RX10, "requireTerm", "(I)V"⟩
abbrev cX10_refuseFault : ByteArray := prog_1_method_63_code
def yX10_refuseFault : MethodName := ⟨RX10, "refuseFault", "(I)V"⟩
def RX11 : String := "FoldedArchiveModel"
def TX11 : u_T := fun k => match k with
  | _ => ("", "", "", false)
def tyX11 : Nat → FieldType := fun k => match k with
  | _ => .int
abbrev wsX110 : List Cond := u_ws RX11 TX11 0
theorem nmX11 : ∀ a, a < 0 → ∀ b, b < 0 → a ≠ b → (TX11 a).2.1 ≠ (TX11 b).2.1 := by decide +kernel
theorem tyX11_ok : ∀ k, k < 0 → parseFieldDescriptor (TX11 k).2.2.1 = some (tyX11 k) := by decide +kernel
def RJx145de : String := "java/io/Serializable"
def RJ5 : String := "java/lang/AbstractStringBuilder"
abbrev cJ5_init_d00df : ByteArray := prog_15_method_2_code
def yJ5_init_d00df : MethodName := ⟨RJ5, "<init>", "(I)V"⟩
abbrev cJ5_length_8abf5 : ByteArray := prog_15_method_6_code
def yJ5_length_8abf5 : MethodName := ⟨RJ5, "length", "()I"⟩
abbrev cJ5_ensureCapacityInternal_d00df : ByteArray := prog_15_method_9_code
def yJ5_ensureCapacityInternal_d00df : MethodName := ⟨RJ5, "ensureCapacityInternal", "(I)V"⟩
abbrev cJ5_newCapacity_0f7a4 : ByteArray := prog_15_method_10_code
def yJ5_newCapacity_0f7a4 : MethodName := ⟨RJ5, "newCapacity", "(I)I"⟩
abbrev cJ5_inflate_da8c8 : ByteArray := prog_15_method_11_code
def yJ5_inflate_da8c8 : MethodName := ⟨RJ5, "inflate", "()V"⟩
abbrev cJ5_append_cf1ce : ByteArray := prog_15_method_22_code
def yJ5_append_cf1ce : MethodName := ⟨RJ5, "append", "(Ljava/lang/String;)Ljava/lang/AbstractStringBuilder;"⟩
abbrev cJ5_appendNull_278bc : ByteArray := prog_15_method_26_code
def yJ5_appendNull_278bc : MethodName := ⟨RJ5, "appendNull", "()Ljava/lang/AbstractStringBuilder;"⟩
abbrev cJ5_append_3fe6f : ByteArray := prog_15_method_31_code
def yJ5_append_3fe6f : MethodName := ⟨RJ5, "append", "(C)Ljava/lang/AbstractStringBuilder;"⟩
abbrev cJ5_append_c97b9 : ByteArray := prog_15_method_32_code
def yJ5_append_c97b9 : MethodName := ⟨RJ5, "append", "(I)Ljava/lang/AbstractStringBuilder;"⟩
abbrev cJ5_getValue_6d5f1 : ByteArray := prog_15_method_64_code
def yJ5_getValue_6d5f1 : MethodName := ⟨RJ5, "getValue", "()[B"⟩
abbrev cJ5_isLatin1_aae02 : ByteArray := prog_15_method_68_code
def yJ5_isLatin1_aae02 : MethodName := ⟨RJ5, "isLatin1", "()Z"⟩
abbrev cJ5_inflateIfNeededFor_a7421 : ByteArray := prog_15_method_71_code
def yJ5_inflateIfNeededFor_a7421 : MethodName := ⟨RJ5, "inflateIfNeededFor", "(Ljava/lang/String;)V"⟩
abbrev cJ5_putStringAt_47b60 : ByteArray := prog_15_method_73_code
def yJ5_putStringAt_47b60 : MethodName := ⟨RJ5, "putStringAt", "(ILjava/lang/String;)V"⟩
def RJx2cfe8 : String := "java/lang/Appendable"
def RJx00060 : String := "java/lang/ArrayIndexOutOfBoundsException"
abbrev cJx00060_init_a7421 : ByteArray := prog_18_method_2_code
def yJx00060_init_a7421 : MethodName := ⟨RJx00060, "<init>", "(Ljava/lang/String;)V"⟩
def RJx9f9b0 : String := "java/lang/CharSequence"
def RJx8e188 : String := "java/lang/Cloneable"
def RJxb160c : String := "java/lang/Comparable"
def RJ6 : String := "java/lang/Integer"
abbrev cJ6_getChars_ba4f3 : ByteArray := prog_26_method_12_code
def yJ6_getChars_ba4f3 : MethodName := ⟨RJ6, "getChars", "(II[B)I"⟩
abbrev cJ6_stringSize_0f7a4 : ByteArray := prog_26_method_13_code
def yJ6_stringSize_0f7a4 : MethodName := ⟨RJ6, "stringSize", "(I)I"⟩
abbrev cJ6_bitCount_0f7a4 : ByteArray := prog_26_method_49_code
def yJ6_bitCount_0f7a4 : MethodName := ⟨RJ6, "bitCount", "(I)I"⟩
def RJ9 : String := "java/lang/Math"
abbrev cJ9_max_7cf53 : ByteArray := prog_27_method_65_code
def yJ9_max_7cf53 : MethodName := ⟨RJ9, "max", "(II)I"⟩
abbrev cJ9_min_7cf53 : ByteArray := prog_27_method_69_code
def yJ9_min_7cf53 : MethodName := ⟨RJ9, "min", "(II)I"⟩
def RJxd2413 : String := "java/lang/Number"
def RJ0 : String := "java/lang/String"
def TJ0 : u_T := fun k => match k with
  | 0 => ("java/lang/String", "value", "[B", true)
  | 1 => ("java/lang/String", "coder", "B", true)
  | 2 => ("java/lang/String", "hash", "I", false)
  | _ => ("java/lang/String", "hashIsZero", "Z", false)
def tyJ0 : Nat → FieldType := fun k => match k with
  | 0 => .array .byte
  | 1 => .byte
  | 2 => .int
  | _ => .boolean
abbrev wsJ00 : List Cond := u_ws RJ0 TJ0 4
theorem nmJ0 : ∀ a, a < 4 → ∀ b, b < 4 → a ≠ b → (TJ0 a).2.1 ≠ (TJ0 b).2.1 := by decide +kernel
theorem tyJ0_ok : ∀ k, k < 4 → parseFieldDescriptor (TJ0 k).2.2.1 = some (tyJ0 k) := by decide +kernel
abbrev cJ0_init_81219 : ByteArray := prog_30_method_53_code
def yJ0_init_81219 : MethodName := ⟨RJ0, "<init>", "(Ljava/lang/StringBuilder;)V"⟩
abbrev cJ0_length_8abf5 : ByteArray := prog_30_method_54_code
def yJ0_length_8abf5 : MethodName := ⟨RJ0, "length", "()I"⟩
abbrev cJ0_charAt_5068e : ByteArray := prog_30_method_56_code
def yJ0_charAt_5068e : MethodName := ⟨RJ0, "charAt", "(I)C"⟩
abbrev cJ0_getBytes_840e7 : ByteArray := prog_30_method_147_code
def yJ0_getBytes_840e7 : MethodName := ⟨RJ0, "getBytes", "([BIB)V"⟩
abbrev cJ0_init_db425 : ByteArray := prog_30_method_150_code
def yJ0_init_db425 : MethodName := ⟨RJ0, "<init>", "(Ljava/lang/AbstractStringBuilder;Ljava/lang/Void;)V"⟩
abbrev cJ0_coder_7d493 : ByteArray := prog_30_method_152_code
def yJ0_coder_7d493 : MethodName := ⟨RJ0, "coder", "()B"⟩
abbrev cJ0_isLatin1_aae02 : ByteArray := prog_30_method_154_code
def yJ0_isLatin1_aae02 : MethodName := ⟨RJ0, "isLatin1", "()Z"⟩
abbrev cJ0_checkIndex_df160 : ByteArray := prog_30_method_155_code
def yJ0_checkIndex_df160 : MethodName := ⟨RJ0, "checkIndex", "(II)V"⟩
abbrev cJ0_checkBoundsOffCount_cabcc : ByteArray := prog_30_method_157_code
def yJ0_checkBoundsOffCount_cabcc : MethodName := ⟨RJ0, "checkBoundsOffCount", "(III)I"⟩
abbrev cJ0_checkBoundsBeginEnd_23922 : ByteArray := prog_30_method_158_code
def yJ0_checkBoundsBeginEnd_23922 : MethodName := ⟨RJ0, "checkBoundsBeginEnd", "(III)V"⟩
def RJ4 : String := "java/lang/StringBuilder"
abbrev cJ4_init_da8c8 : ByteArray := prog_31_method_1_code
def yJ4_init_da8c8 : MethodName := ⟨RJ4, "<init>", "()V"⟩
abbrev cJ4_append_15ec4 : ByteArray := prog_31_method_7_code
def yJ4_append_15ec4 : MethodName := ⟨RJ4, "append", "(Ljava/lang/String;)Ljava/lang/StringBuilder;"⟩
abbrev cJ4_append_cf468 : ByteArray := prog_31_method_14_code
def yJ4_append_cf468 : MethodName := ⟨RJ4, "append", "(C)Ljava/lang/StringBuilder;"⟩
abbrev cJ4_append_bf812 : ByteArray := prog_31_method_15_code
def yJ4_append_bf812 : MethodName := ⟨RJ4, "append", "(I)Ljava/lang/StringBuilder;"⟩
abbrev cJ4_toString_0e30d : ByteArray := prog_31_method_42_code
def yJ4_toString_0e30d : MethodName := ⟨RJ4, "toString", "()Ljava/lang/String;"⟩
abbrev cJ4_length_8abf5 : ByteArray := prog_31_method_93_code
def yJ4_length_8abf5 : MethodName := ⟨RJ4, "length", "()I"⟩
def RJ1 : String := "java/lang/StringLatin1"
abbrev cJ1_charAt_3b067 : ByteArray := prog_32_method_2_code
def yJ1_charAt_3b067 : MethodName := ⟨RJ1, "charAt", "([BI)C"⟩
abbrev cJ1_canEncode_fc78d : ByteArray := prog_32_method_3_code
def yJ1_canEncode_fc78d : MethodName := ⟨RJ1, "canEncode", "(C)Z"⟩
abbrev cJ1_inflate_0e8fd : ByteArray := prog_32_method_50_code
def yJ1_inflate_0e8fd : MethodName := ⟨RJ1, "inflate", "([BI[BII)V"⟩
def RJ2 : String := "java/lang/StringUTF16"
abbrev cJ2_newBytesFor_77867 : ByteArray := prog_33_method_2_code
def yJ2_newBytesFor_77867 : MethodName := ⟨RJ2, "newBytesFor", "(I)[B"⟩
abbrev cJ2_newBytesLength_0f7a4 : ByteArray := prog_33_method_3_code
def yJ2_newBytesLength_0f7a4 : MethodName := ⟨RJ2, "newBytesLength", "(I)I"⟩
abbrev cJ2_putChar_b72d1 : ByteArray := prog_33_method_4_code
def yJ2_putChar_b72d1 : MethodName := ⟨RJ2, "putChar", "([BII)V"⟩
abbrev cJ2_getChar_3b067 : ByteArray := prog_33_method_5_code
def yJ2_getChar_3b067 : MethodName := ⟨RJ2, "getChar", "([BI)C"⟩
abbrev cJ2_length_9d52b : ByteArray := prog_33_method_6_code
def yJ2_length_9d52b : MethodName := ⟨RJ2, "length", "([B)I"⟩
abbrev cJ2_coderFromArrayLen_85cad : ByteArray := prog_33_method_15_code
def yJ2_coderFromArrayLen_85cad : MethodName := ⟨RJ2, "coderFromArrayLen", "([BI)B"⟩
abbrev cJ2_compress_39247 : ByteArray := prog_33_method_17_code
def yJ2_compress_39247 : MethodName := ⟨RJ2, "compress", "([BII)[B"⟩
abbrev cJ2_compress_5af95 : ByteArray := prog_33_method_22_code
def yJ2_compress_5af95 : MethodName := ⟨RJ2, "compress", "([BI[BII)I"⟩
abbrev cJ2_putCharSB_b72d1 : ByteArray := prog_33_method_71_code
def yJ2_putCharSB_b72d1 : MethodName := ⟨RJ2, "putCharSB", "([BII)V"⟩
abbrev cJ2_getChars_46870 : ByteArray := prog_33_method_77_code
def yJ2_getChars_46870 : MethodName := ⟨RJ2, "getChars", "(III[B)I"⟩
abbrev cJ2_putCharsAt_cd4e5 : ByteArray := prog_33_method_81_code
def yJ2_putCharsAt_cd4e5 : MethodName := ⟨RJ2, "putCharsAt", "([BICCCC)I"⟩
abbrev cJ2_charAt_3b067 : ByteArray := prog_33_method_83_code
def yJ2_charAt_3b067 : MethodName := ⟨RJ2, "charAt", "([BI)C"⟩
abbrev cJ2_inflate_0e8fd : ByteArray := prog_33_method_86_code
def yJ2_inflate_0e8fd : MethodName := ⟨RJ2, "inflate", "([BI[BII)V"⟩
abbrev cJ2_getChars_ba4f3 : ByteArray := prog_33_method_89_code
def yJ2_getChars_ba4f3 : MethodName := ⟨RJ2, "getChars", "(II[B)I"⟩
abbrev cJ2_checkIndex_2214a : ByteArray := prog_33_method_91_code
def yJ2_checkIndex_2214a : MethodName := ⟨RJ2, "checkIndex", "(I[B)V"⟩
abbrev cJ2_checkBoundsBeginEnd_d044e : ByteArray := prog_33_method_93_code
def yJ2_checkBoundsBeginEnd_d044e : MethodName := ⟨RJ2, "checkBoundsBeginEnd", "(II[B)V"⟩
abbrev cJ2_checkBoundsOffCount_d044e : ByteArray := prog_33_method_94_code
def yJ2_checkBoundsOffCount_d044e : MethodName := ⟨RJ2, "checkBoundsOffCount", "(II[B)V"⟩
def RJ10 : String := "java/lang/System"
def RJxfd54e : String := "java/lang/constant/Constable"
def RJx3cf43 : String := "java/lang/constant/ConstantDesc"
def RJ7 : String := "java/util/Arrays"
abbrev cJ7_copyOf_9075b : ByteArray := prog_39_method_121_code
def yJ7_copyOf_9075b : MethodName := ⟨RJ7, "copyOf", "([BI)[B"⟩
abbrev cJ7_checkLength_df160 : ByteArray := prog_39_method_131_code
def yJ7_checkLength_df160 : MethodName := ⟨RJ7, "checkLength", "(II)V"⟩
abbrev cJ7_copyOfRange_39247 : ByteArray := prog_39_method_132_code
def yJ7_copyOfRange_39247 : MethodName := ⟨RJ7, "copyOfRange", "([BII)[B"⟩
abbrev cJ7_copyOfRangeByte_39247 : ByteArray := prog_39_method_133_code
def yJ7_copyOfRangeByte_39247 : MethodName := ⟨RJ7, "copyOfRangeByte", "([BII)[B"⟩
def RJ8 : String := "jdk/internal/util/ArraysSupport"
abbrev cJ8_newLength_cabcc : ByteArray := prog_41_method_27_code
def yJ8_newLength_cabcc : MethodName := ⟨RJ8, "newLength", "(III)I"⟩
abbrev cJ8_hugeLength_7cf53 : ByteArray := prog_41_method_28_code
def yJ8_hugeLength_7cf53 : MethodName := ⟨RJ8, "hugeLength", "(II)I"⟩
def RJ3 : String := "jdk/internal/util/Preconditions"
abbrev cJ3_checkIndex_8e157 : ByteArray := prog_42_method_11_code
def yJ3_checkIndex_8e157 : MethodName := ⟨RJ3, "checkIndex", "(IILjava/util/function/BiFunction;)I"⟩
abbrev cJ3_checkFromToIndex_8c36e : ByteArray := prog_42_method_12_code
def yJ3_checkFromToIndex_8c36e : MethodName := ⟨RJ3, "checkFromToIndex", "(IIILjava/util/function/BiFunction;)I"⟩
abbrev cJ3_checkFromIndexSize_8c36e : ByteArray := prog_42_method_13_code
def yJ3_checkFromIndexSize_8c36e : MethodName := ⟨RJ3, "checkFromIndexSize", "(IIILjava/util/function/BiFunction;)I"⟩
def RL : String := "FoldedArchiveLaw"
abbrev cL_cell : ByteArray := method_2_code
def yL_cell : MethodName := ⟨RL, "cell", "([II)I"⟩
abbrev cL_pick : ByteArray := method_3_code
def yL_pick : MethodName := ⟨RL, "pick", "([III)I"⟩
abbrev cL_addSection : ByteArray := method_4_code
def yL_addSection : MethodName := ⟨RL, "addSection", "(LFoldedArchive;)I"⟩
abbrev cL_pour : ByteArray := method_5_code
def yL_pour : MethodName := ⟨RL, "pour", "(LFoldedArchive;II)I"⟩
abbrev cL_tag : ByteArray := method_6_code
def yL_tag : MethodName := ⟨RL, "tag", "(LFoldedArchive;IC)I"⟩
abbrev cL_untag : ByteArray := method_7_code
def yL_untag : MethodName := ⟨RL, "untag", "(LFoldedArchive;IC)I"⟩
abbrev cL_water : ByteArray := method_8_code
def yL_water : MethodName := ⟨RL, "water", "(LFoldedArchive;I)I"⟩
abbrev cL_hasTerm : ByteArray := method_9_code
def yL_hasTerm : MethodName := ⟨RL, "hasTerm", "(LFoldedArchive;IC)I"⟩
abbrev cL_sectionsWith : ByteArray := method_10_code
def yL_sectionsWith : MethodName := ⟨RL, "sectionsWith", "(LFoldedArchive;C)I"⟩
abbrev cL_sectionByWater : ByteArray := method_11_code
def yL_sectionByWater : MethodName := ⟨RL, "sectionByWater", "(LFoldedArchive;I)I"⟩
abbrev cL_fold : ByteArray := method_12_code
def yL_fold : MethodName := ⟨RL, "fold", "(LFoldedArchive;I)I"⟩
abbrev cL_unfold : ByteArray := method_13_code
def yL_unfold : MethodName := ⟨RL, "unfold", "(LFoldedArchive;)I"⟩
abbrev cL_layerOf : ByteArray := method_14_code
def yL_layerOf : MethodName := ⟨RL, "layerOf", "(LFoldedArchive;I)I"⟩
abbrev cL_sectionIn : ByteArray := method_15_code
def yL_sectionIn : MethodName := ⟨RL, "sectionIn", "(LFoldedArchive;I)I"⟩
abbrev cL_canFold : ByteArray := method_16_code
def yL_canFold : MethodName := ⟨RL, "canFold", "(LFoldedArchive;I)I"⟩
abbrev cL_layPipe : ByteArray := method_17_code
def yL_layPipe : MethodName := ⟨RL, "layPipe", "(LFoldedArchive;III)I"⟩
abbrev cL_removePipe : ByteArray := method_18_code
def yL_removePipe : MethodName := ⟨RL, "removePipe", "(LFoldedArchive;I)I"⟩
abbrev cL_breakPipe : ByteArray := method_19_code
def yL_breakPipe : MethodName := ⟨RL, "breakPipe", "(LFoldedArchive;I)I"⟩
abbrev cL_mendPipe : ByteArray := method_20_code
def yL_mendPipe : MethodName := ⟨RL, "mendPipe", "(LFoldedArchive;I)I"⟩
abbrev cL_pipeFrom : ByteArray := method_21_code
def yL_pipeFrom : MethodName := ⟨RL, "pipeFrom", "(LFoldedArchive;I)I"⟩
abbrev cL_pipeTo : ByteArray := method_22_code
def yL_pipeTo : MethodName := ⟨RL, "pipeTo", "(LFoldedArchive;I)I"⟩
abbrev cL_capacity : ByteArray := method_23_code
def yL_capacity : MethodName := ⟨RL, "capacity", "(LFoldedArchive;I)I"⟩
abbrev cL_isBroken : ByteArray := method_24_code
def yL_isBroken : MethodName := ⟨RL, "isBroken", "(LFoldedArchive;I)I"⟩
abbrev cL_greatestFlow : ByteArray := method_25_code
def yL_greatestFlow : MethodName := ⟨RL, "greatestFlow", "(LFoldedArchive;)I"⟩
abbrev cL_smallestCut : ByteArray := method_26_code
def yL_smallestCut : MethodName := ⟨RL, "smallestCut", "(LFoldedArchive;)I"⟩
abbrev cL_lossOf : ByteArray := method_27_code
def yL_lossOf : MethodName := ⟨RL, "lossOf", "(LFoldedArchive;I)I"⟩
abbrev cL_drain : ByteArray := method_28_code
def yL_drain : MethodName := ⟨RL, "drain", "(LFoldedArchive;)I"⟩
abbrev cL_seep : ByteArray := method_29_code
def yL_seep : MethodName := ⟨RL, "seep", "(LFoldedArchive;)I"⟩
abbrev cL_meanWater : ByteArray := method_30_code
def yL_meanWater : MethodName := ⟨RL, "meanWater", "(LFoldedArchive;)D"⟩
abbrev cL_leakedShare : ByteArray := method_31_code
def yL_leakedShare : MethodName := ⟨RL, "leakedShare", "(LFoldedArchive;)F"⟩
abbrev cL_feed : ByteArray := method_32_code
def yL_feed : MethodName := ⟨RL, "feed", "(LFoldedArchive;C)I"⟩
abbrev cL_search : ByteArray := method_33_code
def yL_search : MethodName := ⟨RL, "search", "(LFoldedArchive;)I"⟩
abbrev cL_matches : ByteArray := method_34_code
def yL_matches : MethodName := ⟨RL, "matches", "(LFoldedArchive;I)I"⟩
abbrev cL_execute : ByteArray := method_35_code
def yL_execute : MethodName := ⟨RL, "execute", "(LFoldedArchive;)I"⟩
abbrev cL_denial : ByteArray := method_39_code
def yL_denial : MethodName := ⟨RL, "denial", "(LFoldedArchive;)I"⟩
abbrev cL_denialDetail : ByteArray := method_40_code
def yL_denialDetail : MethodName := ⟨RL, "denialDetail", "(LFoldedArchive;)I"⟩
abbrev cL_undo : ByteArray := method_42_code
def yL_undo : MethodName := ⟨RL, "undo", "(LFoldedArchive;)I"⟩
abbrev cL_restoreSnapshot : ByteArray := method_43_code
def yL_restoreSnapshot : MethodName := ⟨RL, "restoreSnapshot", "(LFoldedArchive;)I"⟩
abbrev cL_feeds : ByteArray := method_44_code
def yL_feeds : MethodName := ⟨RL, "feeds", "(LFoldedArchive;Ljava/lang/String;)V"⟩
abbrev cL_runs : ByteArray := method_45_code
def yL_runs : MethodName := ⟨RL, "runs", "(LFoldedArchive;Ljava/lang/String;)I"⟩
abbrev cL_finds : ByteArray := method_46_code
def yL_finds : MethodName := ⟨RL, "finds", "(LFoldedArchive;Ljava/lang/String;)I"⟩
abbrev cL_law : ByteArray := code
def yL_law : MethodName := ⟨RL, "law", "([I)Z"⟩
abbrev cL_over : ByteArray := method_50_code
def yL_over : MethodName := ⟨RL, "over", "(LFoldedArchive;)I"⟩
abbrev cL_does : ByteArray := method_51_code
def yL_does : MethodName := ⟨RL, "does", "([IIILFoldedArchive;III)I"⟩
abbrev cL_sum : ByteArray := method_52_code
def yL_sum : MethodName := ⟨RL, "sum", "(LFoldedArchive;)J"⟩
abbrev cL_isPile : ByteArray := method_53_code
def yL_isPile : MethodName := ⟨RL, "isPile", "(LFoldedArchive;)Z"⟩
abbrev cL_areFoldings : ByteArray := method_54_code
def yL_areFoldings : MethodName := ⟨RL, "areFoldings", "(LFoldedArchive;)Z"⟩
abbrev cL_isSearch : ByteArray := method_55_code
def yL_isSearch : MethodName := ⟨RL, "isSearch", "(LFoldedArchive;[II)Z"⟩
abbrev cL_isWhole : ByteArray := method_56_code
def yL_isWhole : MethodName := ⟨RL, "isWhole", "(LFoldedArchive;[IIZ)Z"⟩
abbrev cL_isKept : ByteArray := method_57_code
def yL_isKept : MethodName := ⟨RL, "isKept", "(LFoldedArchive;[JI)Z"⟩
end
section
/-! The store: an int for each field and each element of every cell; beside it the law's row of long numbers. A cell's shape stands in TT, by its place. -/
abbrev XW : Type := (Nat → Nat → Int32) × (Nat → Int64)
def wset (w : XW) (k j : Nat) (v : Int32) : XW := (fun a c => if a = k ∧ c = j then v else w.1 a c, w.2)
def wcpy (w : XW) (sk sp dk dp n : Nat) : XW := (fun a c => if a = dk ∧ dp ≤ c ∧ c < dp + n then w.1 sk (sp + (c - dp)) else w.1 a c, w.2)
abbrev Sh : Type := Nat × Nat × List (Option Nat)
def TT0 : List Sh := [(0, 10, [some 1, some 12, some 23, some 34, some 124, some 128, some 132, some 134, some 136, some 138, none, none, none, none, none]), (0, 8, [some 2, some 5, some 7]), (0, 9, [none, none, none, some 3, some 4]), (1, 7, []), (1, 7, []), (0, 4, [none, some 6]), (1, 7, []), (0, 5, [none, some 8, some 9, some 10, some 11]), (1, 10, []), (1, 10, []), (1, 10, []), (2, 10, []), (0, 8, [some 13, some 16, some 18]), (0, 9, [none, none, none, some 14, some 15]), (1, 7, []), (1, 7, []), (0, 4, [none, some 17]), (1, 7, []), (0, 5, [none, some 19, some 20, some 21, some 22]), (1, 10, []), (1, 10, []), (1, 10, []), (2, 10, []), (0, 8, [some 24, some 27, some 29]), (0, 9, [none, none, none, some 25, some 26]), (1, 7, []), (1, 7, []), (0, 4, [none, some 28]), (1, 7, []), (0, 5, [none, some 30, some 31, some 32, some 33]), (1, 10, []), (1, 10, []), (1, 10, []), (2, 10, []), (0, 3, [some 35, none, none]), (6, 8, [some 36, some 47, some 58, some 69, some 80, some 91, some 102, some 113]), (0, 8, [some 37, some 40, some 42]), (0, 9, [none, none, none, some 38, some 39])]
def TT1 : List Sh := [(1, 7, []), (1, 7, []), (0, 4, [none, some 41]), (1, 7, []), (0, 5, [none, some 43, some 44, some 45, some 46]), (1, 10, []), (1, 10, []), (1, 10, []), (2, 10, []), (0, 8, [some 48, some 51, some 53]), (0, 9, [none, none, none, some 49, some 50]), (1, 7, []), (1, 7, []), (0, 4, [none, some 52]), (1, 7, []), (0, 5, [none, some 54, some 55, some 56, some 57]), (1, 10, []), (1, 10, []), (1, 10, []), (2, 10, []), (0, 8, [some 59, some 62, some 64]), (0, 9, [none, none, none, some 60, some 61]), (1, 7, []), (1, 7, []), (0, 4, [none, some 63]), (1, 7, []), (0, 5, [none, some 65, some 66, some 67, some 68]), (1, 10, []), (1, 10, []), (1, 10, []), (2, 10, []), (0, 8, [some 70, some 73, some 75]), (0, 9, [none, none, none, some 71, some 72]), (1, 7, []), (1, 7, []), (0, 4, [none, some 74]), (1, 7, []), (0, 5, [none, some 76, some 77, some 78, some 79])]
def TT2 : List Sh := [(1, 10, []), (1, 10, []), (1, 10, []), (2, 10, []), (0, 8, [some 81, some 84, some 86]), (0, 9, [none, none, none, some 82, some 83]), (1, 7, []), (1, 7, []), (0, 4, [none, some 85]), (1, 7, []), (0, 5, [none, some 87, some 88, some 89, some 90]), (1, 10, []), (1, 10, []), (1, 10, []), (2, 10, []), (0, 8, [some 92, some 95, some 97]), (0, 9, [none, none, none, some 93, some 94]), (1, 7, []), (1, 7, []), (0, 4, [none, some 96]), (1, 7, []), (0, 5, [none, some 98, some 99, some 100, some 101]), (1, 10, []), (1, 10, []), (1, 10, []), (2, 10, []), (0, 8, [some 103, some 106, some 108]), (0, 9, [none, none, none, some 104, some 105]), (1, 7, []), (1, 7, []), (0, 4, [none, some 107]), (1, 7, []), (0, 5, [none, some 109, some 110, some 111, some 112]), (1, 10, []), (1, 10, []), (1, 10, []), (2, 10, []), (0, 8, [some 114, some 117, some 119])]
def TT3 : List Sh := [(0, 9, [none, none, none, some 115, some 116]), (1, 7, []), (1, 7, []), (0, 4, [none, some 118]), (1, 7, []), (0, 5, [none, some 120, some 121, some 122, some 123]), (1, 10, []), (1, 10, []), (1, 10, []), (2, 10, []), (0, 1, [some 125, some 126, some 127]), (1, 49, []), (1, 7, []), (1, 7, []), (0, 2, [some 129, some 131]), (0, 4, [none, some 130]), (1, 7, []), (1, 7, []), (0, 6, [some 133, none]), (3, 60, []), (0, 6, [some 135, none]), (3, 14, []), (0, 7, [some 137, none, none, none]), (1, 8, []), (0, 0, [some 139, some 140, none, none, none, none]), (1, 60, []), (1, 180, []), (4, 70, [])]
def TT : List Sh := TT0 ++ (TT1 ++ (TT2 ++ (TT3)))
def strTab : List (String × Nat × String × List Int32) := [("FoldedArchiveLaw", 287, "pour ", [112, 111, 117, 114, 32]), ("FoldedArchiveLaw", 296, " ", [32]), ("FoldedArchiveLaw", 298, ";fold ", [59, 102, 111, 108, 100, 32]), ("java/util/Arrays", 337, " > ", [32, 62, 32]), ("FoldedArchiveLaw", 304, ";tag ", [59, 116, 97, 103, 32]), ("FoldedArchiveLaw", 309, ";open", [59, 111, 112, 101, 110]), ("FoldedArchiveLaw", 311, ";", [59]), ("FoldedArchive$CommandReader", 59, "add", [97, 100, 100]), ("FoldedArchive$CommandReader", 61, "pour D N", [112, 111, 117, 114, 32, 68, 32, 78]), ("FoldedArchive$CommandReader", 63, "tag DT", [116, 97, 103, 32, 68, 84]), ("FoldedArchive$CommandReader", 65, "untag DT", [117, 110, 116, 97, 103, 32, 68, 84]), ("FoldedArchive$CommandReader", 67, "fold D", [102, 111, 108, 100, 32, 68]), ("FoldedArchive$CommandReader", 69, "open", [111, 112, 101, 110]), ("FoldedArchive$CommandReader", 71, "pipe D>D N", [112, 105, 112, 101, 32, 68, 62, 68, 32, 78]), ("FoldedArchive$CommandReader", 73, "cut D", [99, 117, 116, 32, 68]), ("FoldedArchive$CommandReader", 75, "break D", [98, 114, 101, 97, 107, 32, 68]), ("FoldedArchive$CommandReader", 77, "mend D", [109, 101, 110, 100, 32, 68]), ("FoldedArchive$CommandReader", 79, "drain", [100, 114, 97, 105, 110]), ("FoldedArchive$CommandReader", 81, "seep", [115, 101, 101, 112]), ("FoldedArchiveLaw", 342, "", []), ("FoldedArchiveLaw", 349, "+", [43]), ("FoldedArchiveLaw", 351, "-", [45]), ("FoldedArchiveLaw", 353, "-(", [45, 40]), ("FoldedArchiveLaw", 355, ")", [41]), ("FoldedArchiveLaw", 357, "(", [40]), ("FoldedArchiveLaw", 359, "+-", [43, 45])]
abbrev vwCl : List vw_C := [(RX0, TX0, 6), (RX1, TX1, 3), (RX2, TX2, 2), (RX3, TX3, 3), (RX4, TX4, 2), (RX5, TX5, 5), (RX6, TX6, 2), (RX7, TX7, 4), (RX8, TX8, 3), (RX9, TX9, 5), (RX10, TX10, 15)]
/-! ===== the shapes' cells ===== -/
def layF (b : Nat) (f : Nat → Int32) : Nat → List (Option Nat) → List Value
  | _, [] => []
  | j, none :: r => .int (f j) :: layF b f (j + 1) r
  | j, some t :: r => .ref (b + t) :: layF b f (j + 1) r
theorem layF_get (b : Nat) (f : Nat → Int32) : ∀ (fs : List (Option Nat)) (j0 j : Nat), (layF b f j0 fs)[j]? = (fs[j]?).map (fun x => match x with | none => .int (f (j0 + j)) | some t => .ref (b + t)) := by
  intro fs
  induction fs with
  | nil => intro j0 j; simp [layF]
  | cons x r ih =>
    intro j0 j
    cases x with
    | none =>
      cases j with
      | zero => simp [layF]
      | succ j => simp only [layF, List.getElem?_cons_succ, ih]; rw [show j0 + 1 + j = j0 + (j + 1) by omega]
    | some t =>
      cases j with
      | zero => simp [layF]
      | succ j => simp only [layF, List.getElem?_cons_succ, ih]; rw [show j0 + 1 + j = j0 + (j + 1) by omega]
theorem layF_len (b : Nat) (f : Nat → Int32) : ∀ (fs : List (Option Nat)) (j0 : Nat), (layF b f j0 fs).length = fs.length := by
  intro fs
  induction fs with
  | nil => intro j0; rfl
  | cons x r ih => intro j0; cases x <;> simp [layF, ih]
theorem layF_set (b : Nat) (f : Nat → Int32) (fs : List (Option Nat)) (j : Nat) (v : Int32) (h : fs[j]? = some none) : (layF b f 0 fs).set j (.int v) = layF b (fun c => if c = j then v else f c) 0 fs := by
  apply List.ext_getElem?
  intro i
  rw [layF_get, List.getElem?_set, layF_get, layF_len]
  have hl : j < fs.length := (List.getElem?_eq_some_iff.mp h).1
  by_cases hij : j = i
  · subst hij
    rw [if_pos rfl, if_pos hl, h]
    simp
  · rw [if_neg hij]
    cases hfi : fs[i]? with
    | none => rfl
    | some x =>
      cases x with
      | none => simp [Ne.symm hij]
      | some t => simp
/-- the launch; where the world begins; the array classes; the classes' numbers; the String constants and their bytes (at 26 the text that the law has made); the script: its place, its length, its ints; the text's letters -/
abbrev GC : Type := Launch × Nat × (Nat → ClassId) × va_G × (Nat → Nat) × (Nat → Nat) × Nat × Nat × (Nat → Int32) × List Int32
def layE (g : GC) (w : XW) (k : Nat) (q : Sh) : va_E := match q.1 with
  | 0 => .inr (q.2.1, layF g.2.1 (w.1 k) 0 q.2.2)
  | 1 => .inl (g.2.2.1 0, q.2.1, .inl (w.1 k))
  | 2 => .inl (g.2.2.1 1, q.2.1, .inl (w.1 k))
  | 3 => .inl (g.2.2.1 2, q.2.1, .inl (w.1 k))
  | 4 => .inl (g.2.2.1 3, q.2.1, .inr (.inl w.2))
  | _ => .inl (g.2.2.1 4, q.2.1, .inr (.inr (.inr (.inr (fun j => (q.2.2.getD j none).map (g.2.1 + ·))))))
theorem layE_same {g : GC} {w w' : XW} {k : Nat} {q : Sh} (h1 : w'.1 k = w.1 k) (h2 : w'.2 = w.2) : layE g w' k q = layE g w k q := by
  unfold layE
  rw [h1, h2]
theorem wset_ne {w : XW} {k j k' : Nat} {v : Int32} (h : k' ≠ k) : (wset w k j v).1 k' = w.1 k' := by
  funext c
  simp [wset, h]
theorem wset_eq {w : XW} {k j : Nat} {v : Int32} : (wset w k j v).1 k = fun c => if c = j then v else w.1 k c := by
  funext c
  simp [wset]
theorem wcpy_ne {w : XW} {sk sp dk dp n k' : Nat} (h : k' ≠ dk) : (wcpy w sk sp dk dp n).1 k' = w.1 k' := by
  funext c
  simp [wcpy, h]
theorem wcpy_eq {w : XW} {sk sp dk dp n : Nat} : (wcpy w sk sp dk dp n).1 dk = va_cpy (w.1 sk) (w.1 dk) sp dp n := by
  funext c
  simp [wcpy, va_cpy]
def tysL (g : GC) : List (ClassId × FieldType) := [(g.2.2.1 0, .int), (g.2.2.1 1, .boolean), (g.2.2.1 2, .char), (g.2.2.1 3, .long), (g.2.2.1 4, .object "FoldedArchive$State")]
/-! ===== the world: every cell of TT lies at its place ===== -/
def RW (g : GC) (w : XW) (H : Heap) : Prop := ∀ (k : Nat) (q : Sh), TT[k]? = some q → va_at g.2.2.2.1 vwCl (g.2.1 + k, layE g w k q) H
theorem RW.one {g : GC} {w : XW} {H : Heap} (h : RW g w H) {k : Nat} {q : Sh} (hk : TT[k]? = some q) : va_P g.2.2.2.1 vwCl [(g.2.1 + k, layE g w k q)] H := by
  intro i x hx
  have hz : i < 1 := (List.getElem?_eq_some_iff.mp hx).1
  rw [show i = 0 by omega] at hx
  cases hx
  exact h k q hk
theorem RW.put {g : GC} {w w' : XW} {H H1 : Heap} {k : Nat} {q : Sh} (h : RW g w H) (hk : TT[k]? = some q) (he : va_at g.2.2.2.1 vwCl (g.2.1 + k, layE g w' k q) H1) (oq : ∀ a : Nat, a ≠ g.2.1 + k → H1[a]? = H[a]?) (h1 : ∀ k', k' ≠ k → w'.1 k' = w.1 k') (h2 : w'.2 = w.2 ∨ ∀ (k' : Nat) (q' : Sh), k' ≠ k → TT[k']? = some q' → layE g w' k' q' = layE g w k' q') : RW g w' H1 := by
  intro k' q' hk'
  by_cases hkk : k' = k
  · subst hkk
    cases hk.symm.trans hk'
    exact he
  · have e : layE g w' k' q' = layE g w k' q' := by
      rcases h2 with h2 | h2
      · exact layE_same (h1 k' hkk) h2
      · exact h2 k' q' hkk hk'
    rw [e]
    exact (h k' q' hk').kept (oq _ (fun z => hkk (by simp only at z; omega)))
theorem RW.kept {g : GC} {w : XW} {H H1 : Heap} (h : RW g w H) (hq : ∀ a : Nat, a < H.size → H1[a]? = H[a]?) : RW g w H1 := fun k q hk => (h k q hk).kept (hq _ ((h k q hk).lt))
/-! ===== what lies below: statics of the throws, String constants ===== -/
def GW : List Cond := lw_tbl.filter goodWord
theorem GW_good {w : Cond} (h : w ∈ GW) : (w.onTables && w.keeps) = true ∨ ∃ ty, w = .arrayClass ty := good_of_word (List.mem_filter.mp h).2
theorem GW_of (i : Nat) {w : Cond} (h : lw_tbl[i]? = some w) (hg : goodWord w = true) : w ∈ GW := List.mem_filter.mpr ⟨List.mem_of_getElem? h, hg⟩
/-- where the world's cells lie -/
def TTr (g : GC) : Nat → Prop := fun q => g.2.1 ≤ q ∧ q < g.2.1 + TT.length
theorem TTr_of {g : GC} {k : Nat} {q : Sh} (h : TT[k]? = some q) : TTr g (g.2.1 + k) := ⟨Nat.le_add_right _ _, Nat.add_lt_add_left (List.getElem?_eq_some_iff.mp h).1 _⟩
/-- what a method has changed: old cells of the world alone -/
def VS (g : GC) (H0 H : Heap) (locs : List Loc) : Prop := H0.size ≤ H.size ∧ (∀ q : Nat, q < H0.size → ¬ TTr g q → H[q]? = H0[q]?) ∧ ∀ l ∈ locs, g.2.1 ≤ l.base
theorem VS.rf {g : GC} {H : Heap} : VS g H H [] := ⟨Nat.le_refl _, fun _ _ _ => rfl, fun _ h => absurd h List.not_mem_nil⟩
theorem VS.S {g : GC} {H0 H : Heap} {locs : List Loc} (h : VS g H0 H locs) : va_S (fun q => g.2.1 ≤ q) H0 H locs := ⟨h.1, fun q h1 h2 => h.2.1 q h1 (fun z => h2 z.1), h.2.2⟩
theorem VS.F {g : GC} {s t : State} {H : Heap} {locs : List Loc} (h : VS g s.heap H locs) (ht : t.heap = H) : va_F (TTr g) s t := ⟨by rw [ht]; exact h.1, fun q h1 h2 => by rw [ht]; exact h.2.1 q h1 h2⟩
theorem VS.put {g : GC} {H0 H H1 : Heap} {locs : List Loc} {k j : Nat} {q : Sh} (h : VS g H0 H locs) (hT : TT[k]? = some q) (e2 : H1.size = H.size) (e3 : ∀ a : Nat, a ≠ g.2.1 + k → H1[a]? = H[a]?) : VS g H0 H1 (locs ++ [⟨g.2.1 + k, j⟩]) :=
  ⟨by rw [e2]; exact h.1, fun a h1 h2 => by rw [e3 a (fun z => h2 (z ▸ TTr_of hT))]; exact h.2.1 a h1 h2, fun l hl => by
    rcases List.mem_append.mp hl with z | z
    · exact h.2.2 l z
    · rw [List.mem_singleton.mp z]; exact Nat.le_add_right _ _⟩
theorem VS.keep {g : GC} {s st₀ t T' : State} {H : Heap} {locs L : List Loc} (h0 : st₀.heap = H) (e1 : T'.heap = t.heap) (hS : VS g s.heap H locs) (hL : ∀ q ∈ L, g.2.1 ≤ q.base) (hF : va_F (TTr g) st₀ t) : VS g s.heap T'.heap (locs ++ L) := by
  obtain ⟨hz, hk⟩ := hF
  rw [h0] at hz hk
  refine ⟨Nat.le_trans hS.1 (by rw [e1]; exact hz), fun q h1 h2 => ?_, fun q hq => ?_⟩
  · rw [e1, hk q (Nat.lt_of_lt_of_le h1 hS.1) h2]; exact hS.2.1 q h1 h2
  · rcases List.mem_append.mp hq with h | h
    · exact hS.2.2 q h
    · exact hL q h
def strT (g : GC) (i : Nat) : Option (List Int32) := if i = 26 then (if g.2.2.2.2.2.2.2.2.2.length ≤ 100 then some g.2.2.2.2.2.2.2.2.2 else none) else (strTab[i]?).map fun q => q.2.2.2
def StrAt (g : GC) (i : Nat) (L : List Int32) (U : State) (H : Heap) : Prop := va_O "java/lang/String" (g.2.2.2.2.1 i) (TTr g) U H ∧ va_OF "java/lang/String" "coder" "B" (.int 0) (g.2.2.2.2.1 i) (TTr g) U H ∧ va_OF "java/lang/String" "value" "[B" (.ref (g.2.2.2.2.2.1 i)) (g.2.2.2.2.1 i) (TTr g) U H ∧ va_T .byte (g.2.2.2.2.2.1 i) L.length (fun j => .int (L.getD j 0)) (TTr g) U H
/-- Integer's two tables of digits -/
def DGs (g : GC) (U : State) (H : Heap) : Prop := ∃ (st d1 d2 : Nat) (cS D1 D2 : Cell), H[st]? = some cS ∧ H[d1]? = some D1 ∧ H[d2]? = some D2 ∧ st < g.2.1 ∧ d1 < g.2.1 ∧ d2 < g.2.1 ∧ (∀ r, r < 100 → D1.slots[r]? = some (.int (Int32.ofNat (48 + r % 10))) ∧ D2.slots[r]? = some (.int (Int32.ofNat (48 + r / 10)))) ∧
  ∀ V : State, U.vm.Alike V.vm → V.heap[st]? = some cS → V.heap[d1]? = some D1 → V.heap[d2]? = some D2 → SBG.Tbl V "DigitOnes" st d1 D1 ∧ SBG.Tbl V "DigitTens" st d2 D2
/-- COMPACT_STRINGS, as the library's builder wants it -/
def CMs (g : GC) (U : State) (H : Heap) : Prop := ∃ (st : Nat) (cS : Cell), H[st]? = some cS ∧ st < g.2.1 ∧ ∀ V : State, U.vm.Alike V.vm → V.heap[st]? = some cS → Jvm.Free.SB.CompactAt V st 1
def SFs (g : GC) (U : State) (H : Heap) : Prop :=
  vx_Zq Bundle.tN "UNASSIGNED_STACK" Bundle.steD (fun q => g.2.1 ≤ q) U H ∧ vx_Zq Bundle.tN "SUPPRESSED_SENTINEL" Bundle.listD (fun q => g.2.1 ≤ q) U H ∧
  (va_Z "java/lang/String" "COMPACT_STRINGS" "Z" (.int 1) (fun q => g.2.1 ≤ q) U H ∧ va_Zq "jdk/internal/util/Preconditions" "SIOOBE_FORMATTER" "Ljava/util/function/BiFunction;" (fun q => g.2.1 ≤ q) U H) ∧ va_T .int g.2.2.2.2.2.2.1 g.2.2.2.2.2.2.2.1 (fun j => .int (g.2.2.2.2.2.2.2.2.1 j)) (fun q => g.2.1 ≤ q) U H ∧
  (∀ (i : Nat) (L : List Int32), strT g i = some L → StrAt g i L U H) ∧ DGs g U H ∧ CMs g U H
theorem SFs.moved {g : GC} {u U : State} {H : Heap} (hvm : u.vm.Alike U.vm) (h : SFs g u H) : SFs g U H := by
  refine ⟨h.1.moved hvm, h.2.1.moved hvm, ⟨h.2.2.1.1.moved hvm, h.2.2.1.2.moved hvm⟩, h.2.2.2.1.moved hvm, fun i q hi => ⟨(h.2.2.2.2.1 i q hi).1.moved hvm, (h.2.2.2.2.1 i q hi).2.1.moved hvm, (h.2.2.2.2.1 i q hi).2.2.1.moved hvm, (h.2.2.2.2.1 i q hi).2.2.2.moved hvm⟩, ?_, ?_⟩
  · obtain ⟨st, d1, d2, cS, D1, D2, a1, a2, a3, a4, a5, a6, a7, a8⟩ := h.2.2.2.2.2.1
    exact ⟨st, d1, d2, cS, D1, D2, a1, a2, a3, a4, a5, a6, a7, fun V hV => a8 V (hvm.trans hV)⟩
  · obtain ⟨st, cS, a1, a2, a3⟩ := h.2.2.2.2.2.2
    exact ⟨st, cS, a1, a2, fun V hV => a3 V (hvm.trans hV)⟩
theorem SFs.kept {g : GC} {U : State} {H H1 : Heap} (h : SFs g U H) (hq0 : ∀ a : Nat, a < H.size → ¬ TTr g a → H1[a]? = H[a]?) : SFs g U H1 := by
  have hq : ∀ a : Nat, a < H.size → ¬ (g.2.1 ≤ a) → H1[a]? = H[a]? := fun a h1 h2 => hq0 a h1 (fun z => h2 z.1)
  have lt : ∀ {a : Nat} {c : Cell}, H[a]? = some c → a < H.size := fun hc => (Array.getElem?_eq_some_iff.mp hc).1
  refine ⟨h.1.kept hq, h.2.1.kept hq, ⟨h.2.2.1.1.kept hq, h.2.2.1.2.kept hq⟩, h.2.2.2.1.kept hq, fun i q hi => ⟨(h.2.2.2.2.1 i q hi).1.kept hq0, (h.2.2.2.2.1 i q hi).2.1.kept hq0, (h.2.2.2.2.1 i q hi).2.2.1.kept hq0, (h.2.2.2.2.1 i q hi).2.2.2.kept hq0⟩, ?_, ?_⟩
  · obtain ⟨st, d1, d2, cS, D1, D2, a1, a2, a3, a4, a5, a6, a7, a8⟩ := h.2.2.2.2.2.1
    exact ⟨st, d1, d2, cS, D1, D2, by rw [hq st (lt a1) (by omega)]; exact a1, by rw [hq d1 (lt a2) (by omega)]; exact a2, by rw [hq d2 (lt a3) (by omega)]; exact a3, a4, a5, a6, a7, a8⟩
  · obtain ⟨st, cS, a1, a2, a3⟩ := h.2.2.2.2.2.2
    exact ⟨st, cS, by rw [hq st (lt a1) (by omega)]; exact a1, a2, a3⟩
def ncTab : List (String × String) := [("java/lang/IllegalArgumentException", "java/lang/IndexOutOfBoundsException"), ("java/lang/UnsupportedOperationException", "java/lang/IndexOutOfBoundsException"), ("java/lang/UnsupportedOperationException", "java/lang/IllegalArgumentException"), ("java/util/NoSuchElementException", "java/lang/IndexOutOfBoundsException")]
def NGW : List Cond := [.castable "java/lang/IndexOutOfBoundsException" "java/lang/IndexOutOfBoundsException", .castable "java/lang/IllegalArgumentException" "java/lang/IllegalArgumentException", .castable "java/lang/UnsupportedOperationException" "java/lang/UnsupportedOperationException", .castable "java/util/NoSuchElementException" "java/util/NoSuchElementException", .castable "java/lang/ArithmeticException" "java/lang/ArithmeticException", .castable "java/lang/IllegalStateException" "java/lang/IllegalStateException", .declares ⟨"java/lang/RuntimeException", "<init>", "()V"⟩, .declares ⟨"java/lang/Exception", "<init>", "()V"⟩, .declares ⟨"java/lang/Throwable", "<init>", "()V"⟩]
theorem ng_castable {C T : String} {u U : State} {a a' : Array Value} (hvm : u.vm.Alike U.vm) (h : (Cond.castable C T).before a u = true) : (Cond.castable C T).before a' U = true := by
  simp only [Cond.before, Cond.holds, Cond.value, hvm.findClass, hvm.assignable] at h ⊢
  exact h
theorem ng_declares {x : MethodName} {u U : State} {a a' : Array Value} (hvm : u.vm.Alike U.vm) (h : (Cond.declares x).before a u = true) : (Cond.declares x).before a' U = true := by
  have e1 : U.methodNamed? x = u.methodNamed? x := State.methodNamed?_setVm hvm x
  have e2 : U.vm.method? = u.vm.method? := funext hvm.method?
  simp only [Cond.before, Cond.holds, Cond.value, e1, e2] at h ⊢
  exact h
theorem ng_moved {u U : State} {a a' : Array Value} (hvm : u.vm.Alike U.vm) {w : Cond} (hw : w ∈ NGW) (h : w.before a u = true) : w.before a' U = true := by
  simp only [NGW, List.mem_cons, List.not_mem_nil, or_false] at hw
  rcases hw with rfl | rfl | rfl | rfl | rfl | rfl | rfl | rfl | rfl
  · exact ng_castable hvm h
  · exact ng_castable hvm h
  · exact ng_castable hvm h
  · exact ng_castable hvm h
  · exact ng_castable hvm h
  · exact ng_castable hvm h
  · exact ng_declares hvm h
  · exact ng_declares hvm h
  · exact ng_declares hvm h
def STR (g : GC) (U : State) : Prop := (∀ w ∈ NGW, w.before #[] U = true) ∧ (∀ (i : Nat) (q : String × Nat × String × List Int32), strTab[i]? = some q → vk_R q.1 q.2.1 q.2.2.1 (g.2.2.2.2.1 i) U) ∧ ∀ q ∈ ncTab, va_Nc q.1 q.2 U
/-! ===== outcomes, contracts ===== -/
abbrev Out : Type := (Option Value ⊕ String) × XW
def PO (g : GC) (av : List Value) (w : XW) : Array Value → State → Prop := fun v U => v = av.toArray ∧ g.2.1 ≤ U.heap.size ∧ RW g w U.heap ∧ va_K g.2.2.2.1 vwCl (tysL g) U ∧ SFs g U U.heap ∧ STR g U
def QO (g : GC) (o : Out) : Array Value → State → Outcome → State → Prop := fun _ st oc t => (∃ v, o.1 = .inl v ∧ oc = .returned v) ∧ RW g o.2 t.heap ∧ va_F (TTr g) st t
def XO (g : GC) (o : Out) : String → State → State → Prop := fun E st t => o.1 = .inr E ∧ RW g o.2 t.heap ∧ va_F (TTr g) st t
def MM (g : GC) (hd : Cond) (y : MethodName) (rm : Room) (mc ms : Nat) (av : List Value) (w : XW) (o : Out) : Prop := vx_Met g.1 y (hd :: GW) rm (PO g av w) (QO g o) (XO g o) mc ms (fun q => g.2.1 ≤ q)
theorem PO_blind {g : GC} {av : List Value} {w : XW} : FrameBlind (PO g av w) := fun a U f mk q => ⟨q.1, q.2.1, q.2.2.1, va_K.moved (u := U) (U := U.calling f mk a) (Vm.Alike.refl U.vm) q.2.2.2.1, SFs.moved (u := U) (U := U.calling f mk a) (Vm.Alike.refl U.vm) q.2.2.2.2.1, fun w hw => ng_moved (u := U) (U := U.calling f mk a) (Vm.Alike.refl U.vm) hw (q.2.2.2.2.2.1 w hw), fun i x hx => vk_R.same (u := U) (U := U.calling f mk a) rfl (q.2.2.2.2.2.2.1 i x hx), fun x hx => va_Nc.moved (u := U) (U := U.calling f mk a) (Vm.Alike.refl U.vm) (q.2.2.2.2.2.2.2 x hx)⟩
/-- what holds of a method's frame all along -/
def FX (g : GC) (cc : ByteArray) (nL : Nat) (own : String) (rt : Option FieldType) (hh : List (Nat × Nat × Nat × Nat)) (p : Program) (s : State) (m : MethodId) (args : Array Value) (meth : Method) (c : Code) : Prop :=
  p.tables.exec = Jvm.exec ∧ c.code = cc ∧ c.maxLocals = nL ∧ s.vm.findClass own = some m.cls ∧ (∀ w ∈ GW, w.before args s = true) ∧ va_K g.2.2.2.1 vwCl (tysL g) s ∧ g.2.1 ≤ s.heap.size ∧ SFs g s s.heap ∧ STR g s ∧ meth.locks = false ∧ meth.sig.returnType = rt ∧ g.1.stackTraces = false ∧ c.exceptionTable.toList = tableOf hh
def VB (g : GC) (cc : ByteArray) (nL : Nat) (own : String) (rt : Option FieldType) (hh : List (Nat × Nat × Nat × Nat)) (R : Room) (mc ms : Nat) (o : Out) (kc ks pc : Nat) (lv : List (Nat × Value)) (st : List Value) (w : XW) : Prop :=
  ∀ (p : Program) (e : Env) (s : State) (m : MethodId) (args : Array Value) (below : List Frame) (meth : Method) (c : Code), FX g cc nL own rt hh p s m args meth c →
    ∀ (H : Heap) (locs : List Loc) (ls : Array Slot), RW g w H → VS g s.heap H locs → lv_has ls nL lv →
      W p g.1 e R s m args below meth c H locs kc ks (vx_MQ below (QO g o) (XO g o) args s mc ms (fun q => g.2.1 ≤ q)) (F0 m pc ls st)
def VE {ρ : Type} (g : GC) (cc : ByteArray) (nL : Nat) (own : String) (rt : Option FieldType) (hh : List (Nat × Nat × Nat × Nat)) (R : Room) (mc ms : Nat) (out : ρ → Out) (kc ks pc : Nat) (lv : List (Nat × Value)) (st : List Value) (w : XW) (E : Option ρ) : Prop :=
  ∀ r, E = some r → VB g cc nL own rt hh R mc ms (out r) kc ks pc lv st w
/-- an exception has come up at this place -/
def VX {ρ : Type} (g : GC) (cc : ByteArray) (nL : Nat) (own : String) (rt : Option FieldType) (hh : List (Nat × Nat × Nat × Nat)) (R : Room) (mc ms : Nat) (out : ρ → Out) (kc ks pc : Nat) (lv : List (Nat × Value)) (E0 : String) (w : XW) (E : Option ρ) : Prop :=
  ∀ r, E = some r → ∀ (p : Program) (e : Env) (s : State) (m : MethodId) (args : Array Value) (below : List Frame) (meth : Method) (c : Code), FX g cc nL own rt hh p s m args meth c →
    ∀ (H : Heap) (locs : List Loc) (ls : Array Slot) (rest : List Value) (q : Addr) (ce : Cell), RW g w H → VS g s.heap H locs → lv_has ls nL lv → H[q]? = some ce → ce.vm = .none → s.vm.findClass E0 = some ce.cls →
      vx_W p g.1 e R s m args below meth c H locs kc ks (vx_MQ below (QO g (out r)) (XO g (out r)) args s mc ms (fun q => g.2.1 ≤ q)) (F0 m pc ls rest) q
/-- the room of a level -/
def rmL (n mc ms : Nat) : Room := { frames := 16 + n, cells := mc, slots := ms, locals := 200 + 64 * n }
section CORE
variable {ρ : Type} {g : GC} {cc : ByteArray} {nL : Nat} {own : String} {rt : Option FieldType} {hh : List (Nat × Nat × Nat × Nat)} {R : Room} {mc ms : Nat} {out : ρ → Out} {kc ks pc : Nat} {lv : List (Nat × Value)} {rest : List Value} {w : XW} {E E1 E2 : Option ρ}
theorem VE.eq {st st' : List Value} (h : st = st') (k : VE g cc nL own rt hh R mc ms out kc ks pc lv st' w E) : VE g cc nL own rt hh R mc ms out kc ks pc lv st w E := h ▸ k
theorem v_none {st : List Value} : VE g cc nL own rt hh R mc ms out kc ks pc lv st w (none : Option ρ) := fun r hr => by cases hr
theorem v_guard {c : Prop} [Decidable c] {st : List Value} (k : c → VE g cc nL own rt hh R mc ms out kc ks pc lv st w E) : VE g cc nL own rt hh R mc ms out kc ks pc lv st w (if c then E else none) := by
  intro r hr
  by_cases h : c
  · rw [if_pos h] at hr
    exact k h r hr
  · rw [if_neg h] at hr
    cases hr
theorem v_widen {st : List Value} (kc' ks' : Nat) (h1 : kc ≤ kc') (h2 : ks ≤ ks') (k : VE g cc nL own rt hh R mc ms out kc' ks' pc lv st w E) : VE g cc nL own rt hh R mc ms out kc ks pc lv st w E :=
  fun r hr p e s m args below meth c F H locs ls hW hS hl => W.widen h1 h2 (k r hr p e s m args below meth c F H locs ls hW hS hl)
/-- fewer locals, in another order: by their places -/
theorem v_sub {st : List Value} {lv' : List (Nat × Value)} (is : List Nat) (h : lv_pick lv is = lv') (k : VE g cc nL own rt hh R mc ms out kc ks pc lv' st w E) : VE g cc nL own rt hh R mc ms out kc ks pc lv st w E :=
  fun r hr p e s m args below meth c F H locs ls hW hS hl => k r hr p e s m args below meth c F H locs ls hW hS (lv_sub hl is h)
theorem v_iconst {n : Int} {v : Int32} (hd : decode cc pc = .ok (.iconst n, 1)) (hv : Int32.ofInt n = v) (k : VE g cc nL own rt hh R mc ms out kc ks (pc + 1) lv (.int v :: rest) w E) : VE g cc nL own rt hh R mc ms out kc ks pc lv (rest) w E := fun r hr p e s m args below meth c F H locs ls hW hS hl => lv_iconst F.1 F.2.1 hd hv (k r hr p e s m args below meth c F H locs ls hW hS hl)
theorem v_bipush {n : Int} {v : Int32} (hd : decode cc pc = .ok (.bipush n, 2)) (hv : (Int8.ofInt n).toInt32 = v) (k : VE g cc nL own rt hh R mc ms out kc ks (pc + 2) lv (.int v :: rest) w E) : VE g cc nL own rt hh R mc ms out kc ks pc lv (rest) w E := fun r hr p e s m args below meth c F H locs ls hW hS hl => lv_bipush F.1 F.2.1 hd hv (k r hr p e s m args below meth c F H locs ls hW hS hl)
theorem v_sipush {n : Int} {v : Int32} (hd : decode cc pc = .ok (.sipush n, 3)) (hv : (Int16.ofInt n).toInt32 = v) (k : VE g cc nL own rt hh R mc ms out kc ks (pc + 3) lv (.int v :: rest) w E) : VE g cc nL own rt hh R mc ms out kc ks pc lv (rest) w E := fun r hr p e s m args below meth c F H locs ls hW hS hl => lv_sipush F.1 F.2.1 hd hv (k r hr p e s m args below meth c F H locs ls hW hS hl)
theorem v_lconst {n : Fin 2} {v : Int64} (hd : decode cc pc = .ok (.lconst n, 1)) (hv : Int64.ofNat (n : Nat) = v) (k : VE g cc nL own rt hh R mc ms out kc ks (pc + 1) lv (.long v :: rest) w E) : VE g cc nL own rt hh R mc ms out kc ks pc lv (rest) w E := fun r hr p e s m args below meth c F H locs ls hW hS hl => lv_lconst F.1 F.2.1 hd hv (k r hr p e s m args below meth c F H locs ls hW hS hl)
theorem v_null  (hd : decode cc pc = .ok (.aconst_null, 1)) (k : VE g cc nL own rt hh R mc ms out kc ks (pc + 1) lv (.null :: rest) w E) : VE g cc nL own rt hh R mc ms out kc ks pc lv (rest) w E := fun r hr p e s m args below meth c F H locs ls hW hS hl => lv_null F.1 F.2.1 hd (k r hr p e s m args below meth c F H locs ls hW hS hl)
theorem v_fconst0  (hd : decode cc pc = .ok (.fconst 0, 1)) (k : VE g cc nL own rt hh R mc ms out kc ks (pc + 1) lv (.float FP.fconst0 :: rest) w E) : VE g cc nL own rt hh R mc ms out kc ks pc lv (rest) w E := fun r hr p e s m args below meth c F H locs ls hW hS hl => lv_fconst0 F.1 F.2.1 hd (k r hr p e s m args below meth c F H locs ls hW hS hl)
theorem v_dconst0  (hd : decode cc pc = .ok (.dconst 0, 1)) (k : VE g cc nL own rt hh R mc ms out kc ks (pc + 1) lv (.double FP.dconst0 :: rest) w E) : VE g cc nL own rt hh R mc ms out kc ks pc lv (rest) w E := fun r hr p e s m args below meth c F H locs ls hW hS hl => lv_dconst0 F.1 F.2.1 hd (k r hr p e s m args below meth c F H locs ls hW hS hl)
theorem v_iload_n {j : Fin 4} {i : Nat} {x : Int32} (hd : decode cc pc = .ok (.iload_n j, 1)) (hi : (j : Nat) = i) (q : Nat) (hq : lv[q]? = some (i, .int x)) (k : VE g cc nL own rt hh R mc ms out kc ks (pc + 1) lv (.int x :: rest) w E) : VE g cc nL own rt hh R mc ms out kc ks pc lv (rest) w E := fun r hr p e s m args below meth c F H locs ls hW hS hl => lv_iload_n F.1 F.2.1 hd hi (lv_at hl q hq) (k r hr p e s m args below meth c F H locs ls hW hS hl)
theorem v_iload {i : Nat} {x : Int32} (hd : decode cc pc = .ok (.iload i, 2)) (q : Nat) (hq : lv[q]? = some (i, .int x)) (k : VE g cc nL own rt hh R mc ms out kc ks (pc + 2) lv (.int x :: rest) w E) : VE g cc nL own rt hh R mc ms out kc ks pc lv (rest) w E := fun r hr p e s m args below meth c F H locs ls hW hS hl => lv_iload F.1 F.2.1 hd (lv_at hl q hq) (k r hr p e s m args below meth c F H locs ls hW hS hl)
theorem v_aload_n {j : Fin 4} {i : Nat} {x : Nat} (hd : decode cc pc = .ok (.aload_n j, 1)) (hi : (j : Nat) = i) (q : Nat) (hq : lv[q]? = some (i, .ref x)) (k : VE g cc nL own rt hh R mc ms out kc ks (pc + 1) lv (.ref x :: rest) w E) : VE g cc nL own rt hh R mc ms out kc ks pc lv (rest) w E := fun r hr p e s m args below meth c F H locs ls hW hS hl => lv_aload_n F.1 F.2.1 hd hi (lv_at hl q hq) (k r hr p e s m args below meth c F H locs ls hW hS hl)
theorem v_aload {i : Nat} {x : Nat} (hd : decode cc pc = .ok (.aload i, 2)) (q : Nat) (hq : lv[q]? = some (i, .ref x)) (k : VE g cc nL own rt hh R mc ms out kc ks (pc + 2) lv (.ref x :: rest) w E) : VE g cc nL own rt hh R mc ms out kc ks pc lv (rest) w E := fun r hr p e s m args below meth c F H locs ls hW hS hl => lv_aload F.1 F.2.1 hd (lv_at hl q hq) (k r hr p e s m args below meth c F H locs ls hW hS hl)
theorem v_fload_n {j : Fin 4} {i : Nat} {x : UInt32} (hd : decode cc pc = .ok (.fload_n j, 1)) (hi : (j : Nat) = i) (q : Nat) (hq : lv[q]? = some (i, .float x)) (k : VE g cc nL own rt hh R mc ms out kc ks (pc + 1) lv (.float x :: rest) w E) : VE g cc nL own rt hh R mc ms out kc ks pc lv (rest) w E := fun r hr p e s m args below meth c F H locs ls hW hS hl => lv_fload_n F.1 F.2.1 hd hi (lv_at hl q hq) (k r hr p e s m args below meth c F H locs ls hW hS hl)
theorem v_fload {i : Nat} {x : UInt32} (hd : decode cc pc = .ok (.fload i, 2)) (q : Nat) (hq : lv[q]? = some (i, .float x)) (k : VE g cc nL own rt hh R mc ms out kc ks (pc + 2) lv (.float x :: rest) w E) : VE g cc nL own rt hh R mc ms out kc ks pc lv (rest) w E := fun r hr p e s m args below meth c F H locs ls hW hS hl => lv_fload F.1 F.2.1 hd (lv_at hl q hq) (k r hr p e s m args below meth c F H locs ls hW hS hl)
theorem v_dload_n {j : Fin 4} {i : Nat} {x : UInt64} (hd : decode cc pc = .ok (.dload_n j, 1)) (hi : (j : Nat) = i) (q : Nat) (hq : lv[q]? = some (i, .double x)) (k : VE g cc nL own rt hh R mc ms out kc ks (pc + 1) lv (.double x :: rest) w E) : VE g cc nL own rt hh R mc ms out kc ks pc lv (rest) w E := fun r hr p e s m args below meth c F H locs ls hW hS hl => lv_dload_n F.1 F.2.1 hd hi (lv_at hl q hq) (k r hr p e s m args below meth c F H locs ls hW hS hl)
theorem v_dload {i : Nat} {x : UInt64} (hd : decode cc pc = .ok (.dload i, 2)) (q : Nat) (hq : lv[q]? = some (i, .double x)) (k : VE g cc nL own rt hh R mc ms out kc ks (pc + 2) lv (.double x :: rest) w E) : VE g cc nL own rt hh R mc ms out kc ks pc lv (rest) w E := fun r hr p e s m args below meth c F H locs ls hW hS hl => lv_dload F.1 F.2.1 hd (lv_at hl q hq) (k r hr p e s m args below meth c F H locs ls hW hS hl)
theorem v_lload_n {j : Fin 4} {i : Nat} {x : Int64} (hd : decode cc pc = .ok (.lload_n j, 1)) (hi : (j : Nat) = i) (q : Nat) (hq : lv[q]? = some (i, .long x)) (k : VE g cc nL own rt hh R mc ms out kc ks (pc + 1) lv (.long x :: rest) w E) : VE g cc nL own rt hh R mc ms out kc ks pc lv (rest) w E := fun r hr p e s m args below meth c F H locs ls hW hS hl => lv_lload_n F.1 F.2.1 hd hi (lv_at hl q hq) (k r hr p e s m args below meth c F H locs ls hW hS hl)
theorem v_lload {i : Nat} {x : Int64} (hd : decode cc pc = .ok (.lload i, 2)) (q : Nat) (hq : lv[q]? = some (i, .long x)) (k : VE g cc nL own rt hh R mc ms out kc ks (pc + 2) lv (.long x :: rest) w E) : VE g cc nL own rt hh R mc ms out kc ks pc lv (rest) w E := fun r hr p e s m args below meth c F H locs ls hW hS hl => lv_lload F.1 F.2.1 hd (lv_at hl q hq) (k r hr p e s m args below meth c F H locs ls hW hS hl)
theorem v_aload_nN {j : Fin 4} {i : Nat} (hd : decode cc pc = .ok (.aload_n j, 1)) (hi : (j : Nat) = i) (q : Nat) (hq : lv[q]? = some (i, .null)) (k : VE g cc nL own rt hh R mc ms out kc ks (pc + 1) lv (.null :: rest) w E) : VE g cc nL own rt hh R mc ms out kc ks pc lv (rest) w E := fun r hr p e s m args below meth c F H locs ls hW hS hl => lv_aload_nN F.1 F.2.1 hd hi (lv_at hl q hq) (k r hr p e s m args below meth c F H locs ls hW hS hl)
theorem v_aloadN {i : Nat} (hd : decode cc pc = .ok (.aload i, 2)) (q : Nat) (hq : lv[q]? = some (i, .null)) (k : VE g cc nL own rt hh R mc ms out kc ks (pc + 2) lv (.null :: rest) w E) : VE g cc nL own rt hh R mc ms out kc ks pc lv (rest) w E := fun r hr p e s m args below meth c F H locs ls hW hS hl => lv_aloadN F.1 F.2.1 hd (lv_at hl q hq) (k r hr p e s m args below meth c F H locs ls hW hS hl)
theorem v_istore_n {j : Fin 4} {i : Nat} {x : Int32} {lv1 : List (Nat × Value)} (hd : decode cc pc = .ok (.istore_n j, 1)) (hi : (j : Nat) = i) (hn : i < nL) (hq : (i, Value.int x) :: lv.filter (fun q => !(q.1 == i) && !(q.1 + 1 == i && q.2.category == 2)) = lv1) (k : VE g cc nL own rt hh R mc ms out kc ks (pc + 1) lv1 rest w E) : VE g cc nL own rt hh R mc ms out kc ks pc lv (.int x :: rest) w E := fun r hr p e s m args below meth c F H locs ls hW hS hl => lv_istore_n F.1 F.2.1 hd hi hl hn hq (fun ls hl => k r hr p e s m args below meth c F H locs ls hW hS hl)
theorem v_istore {i : Nat} {x : Int32} {lv1 : List (Nat × Value)} (hd : decode cc pc = .ok (.istore i, 2)) (hn : i < nL) (hq : (i, Value.int x) :: lv.filter (fun q => !(q.1 == i) && !(q.1 + 1 == i && q.2.category == 2)) = lv1) (k : VE g cc nL own rt hh R mc ms out kc ks (pc + 2) lv1 rest w E) : VE g cc nL own rt hh R mc ms out kc ks pc lv (.int x :: rest) w E := fun r hr p e s m args below meth c F H locs ls hW hS hl => lv_istore F.1 F.2.1 hd hl hn hq (fun ls hl => k r hr p e s m args below meth c F H locs ls hW hS hl)
theorem v_astore_n {j : Fin 4} {i : Nat} {x : Nat} {lv1 : List (Nat × Value)} (hd : decode cc pc = .ok (.astore_n j, 1)) (hi : (j : Nat) = i) (hn : i < nL) (hq : (i, Value.ref x) :: lv.filter (fun q => !(q.1 == i) && !(q.1 + 1 == i && q.2.category == 2)) = lv1) (k : VE g cc nL own rt hh R mc ms out kc ks (pc + 1) lv1 rest w E) : VE g cc nL own rt hh R mc ms out kc ks pc lv (.ref x :: rest) w E := fun r hr p e s m args below meth c F H locs ls hW hS hl => lv_astore_n F.1 F.2.1 hd hi hl hn hq (fun ls hl => k r hr p e s m args below meth c F H locs ls hW hS hl)
theorem v_astore {i : Nat} {x : Nat} {lv1 : List (Nat × Value)} (hd : decode cc pc = .ok (.astore i, 2)) (hn : i < nL) (hq : (i, Value.ref x) :: lv.filter (fun q => !(q.1 == i) && !(q.1 + 1 == i && q.2.category == 2)) = lv1) (k : VE g cc nL own rt hh R mc ms out kc ks (pc + 2) lv1 rest w E) : VE g cc nL own rt hh R mc ms out kc ks pc lv (.ref x :: rest) w E := fun r hr p e s m args below meth c F H locs ls hW hS hl => lv_astore F.1 F.2.1 hd hl hn hq (fun ls hl => k r hr p e s m args below meth c F H locs ls hW hS hl)
theorem v_fstore_n {j : Fin 4} {i : Nat} {x : UInt32} {lv1 : List (Nat × Value)} (hd : decode cc pc = .ok (.fstore_n j, 1)) (hi : (j : Nat) = i) (hn : i < nL) (hq : (i, Value.float x) :: lv.filter (fun q => !(q.1 == i) && !(q.1 + 1 == i && q.2.category == 2)) = lv1) (k : VE g cc nL own rt hh R mc ms out kc ks (pc + 1) lv1 rest w E) : VE g cc nL own rt hh R mc ms out kc ks pc lv (.float x :: rest) w E := fun r hr p e s m args below meth c F H locs ls hW hS hl => lv_fstore_n F.1 F.2.1 hd hi hl hn hq (fun ls hl => k r hr p e s m args below meth c F H locs ls hW hS hl)
theorem v_fstore {i : Nat} {x : UInt32} {lv1 : List (Nat × Value)} (hd : decode cc pc = .ok (.fstore i, 2)) (hn : i < nL) (hq : (i, Value.float x) :: lv.filter (fun q => !(q.1 == i) && !(q.1 + 1 == i && q.2.category == 2)) = lv1) (k : VE g cc nL own rt hh R mc ms out kc ks (pc + 2) lv1 rest w E) : VE g cc nL own rt hh R mc ms out kc ks pc lv (.float x :: rest) w E := fun r hr p e s m args below meth c F H locs ls hW hS hl => lv_fstore F.1 F.2.1 hd hl hn hq (fun ls hl => k r hr p e s m args below meth c F H locs ls hW hS hl)
theorem v_dstore_n {j : Fin 4} {i : Nat} {x : UInt64} {lv1 : List (Nat × Value)} (hd : decode cc pc = .ok (.dstore_n j, 1)) (hi : (j : Nat) = i) (hn : i + 1 < nL) (hq : (i, Value.double x) :: lv.filter (fun q => !(q.1 == i) && (!(q.1 == i + 1) && !(q.1 + 1 == i && q.2.category == 2))) = lv1) (k : VE g cc nL own rt hh R mc ms out kc ks (pc + 1) lv1 rest w E) : VE g cc nL own rt hh R mc ms out kc ks pc lv (.double x :: rest) w E := fun r hr p e s m args below meth c F H locs ls hW hS hl => lv_dstore_n F.1 F.2.1 hd hi hl hn hq (fun ls hl => k r hr p e s m args below meth c F H locs ls hW hS hl)
theorem v_dstore {i : Nat} {x : UInt64} {lv1 : List (Nat × Value)} (hd : decode cc pc = .ok (.dstore i, 2)) (hn : i + 1 < nL) (hq : (i, Value.double x) :: lv.filter (fun q => !(q.1 == i) && (!(q.1 == i + 1) && !(q.1 + 1 == i && q.2.category == 2))) = lv1) (k : VE g cc nL own rt hh R mc ms out kc ks (pc + 2) lv1 rest w E) : VE g cc nL own rt hh R mc ms out kc ks pc lv (.double x :: rest) w E := fun r hr p e s m args below meth c F H locs ls hW hS hl => lv_dstore F.1 F.2.1 hd hl hn hq (fun ls hl => k r hr p e s m args below meth c F H locs ls hW hS hl)
theorem v_lstore_n {j : Fin 4} {i : Nat} {x : Int64} {lv1 : List (Nat × Value)} (hd : decode cc pc = .ok (.lstore_n j, 1)) (hi : (j : Nat) = i) (hn : i + 1 < nL) (hq : (i, Value.long x) :: lv.filter (fun q => !(q.1 == i) && (!(q.1 == i + 1) && !(q.1 + 1 == i && q.2.category == 2))) = lv1) (k : VE g cc nL own rt hh R mc ms out kc ks (pc + 1) lv1 rest w E) : VE g cc nL own rt hh R mc ms out kc ks pc lv (.long x :: rest) w E := fun r hr p e s m args below meth c F H locs ls hW hS hl => lv_lstore_n F.1 F.2.1 hd hi hl hn hq (fun ls hl => k r hr p e s m args below meth c F H locs ls hW hS hl)
theorem v_lstore {i : Nat} {x : Int64} {lv1 : List (Nat × Value)} (hd : decode cc pc = .ok (.lstore i, 2)) (hn : i + 1 < nL) (hq : (i, Value.long x) :: lv.filter (fun q => !(q.1 == i) && (!(q.1 == i + 1) && !(q.1 + 1 == i && q.2.category == 2))) = lv1) (k : VE g cc nL own rt hh R mc ms out kc ks (pc + 2) lv1 rest w E) : VE g cc nL own rt hh R mc ms out kc ks pc lv (.long x :: rest) w E := fun r hr p e s m args below meth c F H locs ls hW hS hl => lv_lstore F.1 F.2.1 hd hl hn hq (fun ls hl => k r hr p e s m args below meth c F H locs ls hW hS hl)
theorem v_astore_nN {j : Fin 4} {i : Nat} {lv1 : List (Nat × Value)} (hd : decode cc pc = .ok (.astore_n j, 1)) (hi : (j : Nat) = i) (hn : i < nL) (hq : (i, Value.null) :: lv.filter (fun q => !(q.1 == i) && !(q.1 + 1 == i && q.2.category == 2)) = lv1) (k : VE g cc nL own rt hh R mc ms out kc ks (pc + 1) lv1 rest w E) : VE g cc nL own rt hh R mc ms out kc ks pc lv (.null :: rest) w E := fun r hr p e s m args below meth c F H locs ls hW hS hl => lv_astore_nN F.1 F.2.1 hd hi hl hn hq (fun ls hl => k r hr p e s m args below meth c F H locs ls hW hS hl)
theorem v_iinc {i q : Nat} {n : Int} {x v : Int32} {lv1 : List (Nat × Value)} (hd : decode cc pc = .ok (.iinc i n, 3)) (hx : lv[q]? = some (i, .int x)) (hv : x + Int32.ofInt n = v) (hn : i < nL) (hq : (i, Value.int v) :: lv.filter (fun q => !(q.1 == i) && !(q.1 + 1 == i && q.2.category == 2)) = lv1) (k : VE g cc nL own rt hh R mc ms out kc ks (pc + 3) lv1 rest w E) : VE g cc nL own rt hh R mc ms out kc ks pc lv rest w E := fun r hr p e s m args below meth c F H locs ls hW hS hl => lv_iinc F.1 F.2.1 hd hl hx hv hn hq (fun ls hl => k r hr p e s m args below meth c F H locs ls hW hS hl)
theorem v_iadd {x y : Int32} (hd : decode cc pc = .ok (.iadd, 1)) (k : VE g cc nL own rt hh R mc ms out kc ks (pc + 1) lv (.int (x + y) :: rest) w E) : VE g cc nL own rt hh R mc ms out kc ks pc lv (.int y :: .int x :: rest) w E := fun r hr p e s m args below meth c F H locs ls hW hS hl => lv_iadd F.1 F.2.1 hd (k r hr p e s m args below meth c F H locs ls hW hS hl)
theorem v_isub {x y : Int32} (hd : decode cc pc = .ok (.isub, 1)) (k : VE g cc nL own rt hh R mc ms out kc ks (pc + 1) lv (.int (x - y) :: rest) w E) : VE g cc nL own rt hh R mc ms out kc ks pc lv (.int y :: .int x :: rest) w E := fun r hr p e s m args below meth c F H locs ls hW hS hl => lv_isub F.1 F.2.1 hd (k r hr p e s m args below meth c F H locs ls hW hS hl)
theorem v_imul {x y : Int32} (hd : decode cc pc = .ok (.imul, 1)) (k : VE g cc nL own rt hh R mc ms out kc ks (pc + 1) lv (.int (x * y) :: rest) w E) : VE g cc nL own rt hh R mc ms out kc ks pc lv (.int y :: .int x :: rest) w E := fun r hr p e s m args below meth c F H locs ls hW hS hl => lv_imul F.1 F.2.1 hd (k r hr p e s m args below meth c F H locs ls hW hS hl)
theorem v_iand {x y : Int32} (hd : decode cc pc = .ok (.iand, 1)) (k : VE g cc nL own rt hh R mc ms out kc ks (pc + 1) lv (.int (x &&& y) :: rest) w E) : VE g cc nL own rt hh R mc ms out kc ks pc lv (.int y :: .int x :: rest) w E := fun r hr p e s m args below meth c F H locs ls hW hS hl => lv_iand F.1 F.2.1 hd (k r hr p e s m args below meth c F H locs ls hW hS hl)
theorem v_ior {x y : Int32} (hd : decode cc pc = .ok (.ior, 1)) (k : VE g cc nL own rt hh R mc ms out kc ks (pc + 1) lv (.int (x ||| y) :: rest) w E) : VE g cc nL own rt hh R mc ms out kc ks pc lv (.int y :: .int x :: rest) w E := fun r hr p e s m args below meth c F H locs ls hW hS hl => lv_ior F.1 F.2.1 hd (k r hr p e s m args below meth c F H locs ls hW hS hl)
theorem v_ixor {x y : Int32} (hd : decode cc pc = .ok (.ixor, 1)) (k : VE g cc nL own rt hh R mc ms out kc ks (pc + 1) lv (.int (x ^^^ y) :: rest) w E) : VE g cc nL own rt hh R mc ms out kc ks pc lv (.int y :: .int x :: rest) w E := fun r hr p e s m args below meth c F H locs ls hW hS hl => lv_ixor F.1 F.2.1 hd (k r hr p e s m args below meth c F H locs ls hW hS hl)
theorem v_ishl {x y : Int32} (hd : decode cc pc = .ok (.ishl, 1)) (k : VE g cc nL own rt hh R mc ms out kc ks (pc + 1) lv (.int (x <<< (y &&& 31)) :: rest) w E) : VE g cc nL own rt hh R mc ms out kc ks pc lv (.int y :: .int x :: rest) w E := fun r hr p e s m args below meth c F H locs ls hW hS hl => lv_ishl F.1 F.2.1 hd (k r hr p e s m args below meth c F H locs ls hW hS hl)
theorem v_ishr {x y : Int32} (hd : decode cc pc = .ok (.ishr, 1)) (k : VE g cc nL own rt hh R mc ms out kc ks (pc + 1) lv (.int (x >>> (y &&& 31)) :: rest) w E) : VE g cc nL own rt hh R mc ms out kc ks pc lv (.int y :: .int x :: rest) w E := fun r hr p e s m args below meth c F H locs ls hW hS hl => lv_ishr F.1 F.2.1 hd (k r hr p e s m args below meth c F H locs ls hW hS hl)
theorem v_idiv {x y : Int32} (hd : decode cc pc = .ok (.idiv, 1)) (hne : ¬ y = 0) (k : VE g cc nL own rt hh R mc ms out kc ks (pc + 1) lv (.int (x / y) :: rest) w E) : VE g cc nL own rt hh R mc ms out kc ks pc lv (.int y :: .int x :: rest) w E := fun r hr p e s m args below meth c F H locs ls hW hS hl => lv_idiv F.1 F.2.1 hd hne (k r hr p e s m args below meth c F H locs ls hW hS hl)
theorem v_irem {x y : Int32} (hd : decode cc pc = .ok (.irem, 1)) (hne : ¬ y = 0) (k : VE g cc nL own rt hh R mc ms out kc ks (pc + 1) lv (.int (x - x / y * y) :: rest) w E) : VE g cc nL own rt hh R mc ms out kc ks pc lv (.int y :: .int x :: rest) w E := fun r hr p e s m args below meth c F H locs ls hW hS hl => lv_irem F.1 F.2.1 hd hne (k r hr p e s m args below meth c F H locs ls hW hS hl)
theorem v_ineg {x : Int32} (hd : decode cc pc = .ok (.ineg, 1)) (k : VE g cc nL own rt hh R mc ms out kc ks (pc + 1) lv (.int (-x) :: rest) w E) : VE g cc nL own rt hh R mc ms out kc ks pc lv (.int x :: rest) w E := fun r hr p e s m args below meth c F H locs ls hW hS hl => lv_ineg F.1 F.2.1 hd (k r hr p e s m args below meth c F H locs ls hW hS hl)
theorem v_i2l {x : Int32} (hd : decode cc pc = .ok (.i2l, 1)) (k : VE g cc nL own rt hh R mc ms out kc ks (pc + 1) lv (.long x.toInt64 :: rest) w E) : VE g cc nL own rt hh R mc ms out kc ks pc lv (.int x :: rest) w E := fun r hr p e s m args below meth c F H locs ls hW hS hl => lv_i2l F.1 F.2.1 hd rfl (k r hr p e s m args below meth c F H locs ls hW hS hl)
theorem v_i2c {x : Int32} (hd : decode cc pc = .ok (.i2c, 1)) (k : VE g cc nL own rt hh R mc ms out kc ks (pc + 1) lv (.int (x.toUInt32 % 65536).toInt32 :: rest) w E) : VE g cc nL own rt hh R mc ms out kc ks pc lv (.int x :: rest) w E := fun r hr p e s m args below meth c F H locs ls hW hS hl => lv_i2c F.1 F.2.1 hd rfl (k r hr p e s m args below meth c F H locs ls hW hS hl)
theorem v_i2f {x : Int32} (hd : decode cc pc = .ok (.i2f, 1)) (k : VE g cc nL own rt hh R mc ms out kc ks (pc + 1) lv (.float (FP.i2f x) :: rest) w E) : VE g cc nL own rt hh R mc ms out kc ks pc lv (.int x :: rest) w E := fun r hr p e s m args below meth c F H locs ls hW hS hl => lv_i2f F.1 F.2.1 hd (k r hr p e s m args below meth c F H locs ls hW hS hl)
theorem v_i2d {x : Int32} (hd : decode cc pc = .ok (.i2d, 1)) (k : VE g cc nL own rt hh R mc ms out kc ks (pc + 1) lv (.double (FP.i2d x) :: rest) w E) : VE g cc nL own rt hh R mc ms out kc ks pc lv (.int x :: rest) w E := fun r hr p e s m args below meth c F H locs ls hW hS hl => lv_i2d F.1 F.2.1 hd (k r hr p e s m args below meth c F H locs ls hW hS hl)
theorem v_fdiv {x y : UInt32} (hd : decode cc pc = .ok (.fdiv, 1)) (hne : vf_n32 (FP.fdiv x y)) (k : VE g cc nL own rt hh R mc ms out kc ks (pc + 1) lv (.float (FP.fdiv x y) :: rest) w E) : VE g cc nL own rt hh R mc ms out kc ks pc lv (.float y :: .float x :: rest) w E := fun r hr p e s m args below meth c F H locs ls hW hS hl => lv_fdiv F.1 F.2.1 hd hne (k r hr p e s m args below meth c F H locs ls hW hS hl)
theorem v_ddiv {x y : UInt64} (hd : decode cc pc = .ok (.ddiv, 1)) (hne : vf_n64 (FP.ddiv x y)) (k : VE g cc nL own rt hh R mc ms out kc ks (pc + 1) lv (.double (FP.ddiv x y) :: rest) w E) : VE g cc nL own rt hh R mc ms out kc ks pc lv (.double y :: .double x :: rest) w E := fun r hr p e s m args below meth c F H locs ls hW hS hl => lv_ddiv F.1 F.2.1 hd hne (k r hr p e s m args below meth c F H locs ls hW hS hl)
theorem v_f2d {x : UInt32} (hd : decode cc pc = .ok (.f2d, 1)) (hne : vf_n64 (FP.f2d x)) (k : VE g cc nL own rt hh R mc ms out kc ks (pc + 1) lv (.double (FP.f2d x) :: rest) w E) : VE g cc nL own rt hh R mc ms out kc ks pc lv (.float x :: rest) w E := fun r hr p e s m args below meth c F H locs ls hW hS hl => lv_f2d F.1 F.2.1 hd hne (k r hr p e s m args below meth c F H locs ls hW hS hl)
theorem v_fcmp {x y : UInt32} {op : CmpOp} (hd : decode cc pc = .ok (.fcmp op, 1)) (k : VE g cc nL own rt hh R mc ms out kc ks (pc + 1) lv (.int (Op.cmpValue (FP.fcmp x y) op) :: rest) w E) : VE g cc nL own rt hh R mc ms out kc ks pc lv (.float y :: .float x :: rest) w E := fun r hr p e s m args below meth c F H locs ls hW hS hl => lv_fcmp F.1 F.2.1 hd (k r hr p e s m args below meth c F H locs ls hW hS hl)
theorem v_dcmp {x y : UInt64} {op : CmpOp} (hd : decode cc pc = .ok (.dcmp op, 1)) (k : VE g cc nL own rt hh R mc ms out kc ks (pc + 1) lv (.int (Op.cmpValue (FP.dcmp x y) op) :: rest) w E) : VE g cc nL own rt hh R mc ms out kc ks pc lv (.double y :: .double x :: rest) w E := fun r hr p e s m args below meth c F H locs ls hW hS hl => lv_dcmp F.1 F.2.1 hd (k r hr p e s m args below meth c F H locs ls hW hS hl)
theorem v_ladd {x y : Int64} (hd : decode cc pc = .ok (.ladd, 1)) (k : VE g cc nL own rt hh R mc ms out kc ks (pc + 1) lv (.long (x + y) :: rest) w E) : VE g cc nL own rt hh R mc ms out kc ks pc lv (.long y :: .long x :: rest) w E := fun r hr p e s m args below meth c F H locs ls hW hS hl => lv_ladd F.1 F.2.1 hd (k r hr p e s m args below meth c F H locs ls hW hS hl)
theorem v_lmul {x y : Int64} (hd : decode cc pc = .ok (.lmul, 1)) (k : VE g cc nL own rt hh R mc ms out kc ks (pc + 1) lv (.long (x * y) :: rest) w E) : VE g cc nL own rt hh R mc ms out kc ks pc lv (.long y :: .long x :: rest) w E := fun r hr p e s m args below meth c F H locs ls hW hS hl => lv_lmul F.1 F.2.1 hd (k r hr p e s m args below meth c F H locs ls hW hS hl)
theorem v_lcmp {x y : Int64} (hd : decode cc pc = .ok (.lcmp, 1)) (k : VE g cc nL own rt hh R mc ms out kc ks (pc + 1) lv (.int (lg_cmp x y) :: rest) w E) : VE g cc nL own rt hh R mc ms out kc ks pc lv (.long y :: .long x :: rest) w E := fun r hr p e s m args below meth c F H locs ls hW hS hl => W.lcmp F.1 F.2.1 hd (k r hr p e s m args below meth c F H locs ls hW hS hl)
theorem v_dup {a : Value} (hd : decode cc pc = .ok (.dup, 1)) (ha : a.category = 1) (k : VE g cc nL own rt hh R mc ms out kc ks (pc + 1) lv (a :: a :: rest) w E) : VE g cc nL own rt hh R mc ms out kc ks pc lv (a :: rest) w E := fun r hr p e s m args below meth c F H locs ls hW hS hl => lv_dup F.1 F.2.1 hd ha (k r hr p e s m args below meth c F H locs ls hW hS hl)
theorem v_pop {a : Value} (hd : decode cc pc = .ok (.pop, 1)) (ha : a.category = 1) (k : VE g cc nL own rt hh R mc ms out kc ks (pc + 1) lv (rest) w E) : VE g cc nL own rt hh R mc ms out kc ks pc lv (a :: rest) w E := fun r hr p e s m args below meth c F H locs ls hW hS hl => lv_pop F.1 F.2.1 hd ha (k r hr p e s m args below meth c F H locs ls hW hS hl)
theorem v_dup2 {a b : Value} (hd : decode cc pc = .ok (.dup2, 1)) (ha : a.category = 1) (hb : b.category = 1) (k : VE g cc nL own rt hh R mc ms out kc ks (pc + 1) lv (a :: b :: a :: b :: rest) w E) : VE g cc nL own rt hh R mc ms out kc ks pc lv (a :: b :: rest) w E := fun r hr p e s m args below meth c F H locs ls hW hS hl => lv_dup2_11 F.1 F.2.1 hd ha hb (k r hr p e s m args below meth c F H locs ls hW hS hl)
theorem v_goto {off : Int} {tgt : Nat} (hd : decode cc pc = .ok (.goto off, 3)) (ht : (pc : Int) + off = (tgt : Int)) (k : VE g cc nL own rt hh R mc ms out kc ks tgt lv rest w E) : VE g cc nL own rt hh R mc ms out kc ks pc lv rest w E := fun r hr p e s m args below meth c F H locs ls hW hS hl => lv_goto F.1 F.2.1 hd ht (k r hr p e s m args below meth c F H locs ls hW hS hl)
theorem v_if_eq {x : Int32} {off : Int} {tgt : Nat} (hd : decode cc pc = .ok (.ifCond .eq off, 3)) (ht : (pc : Int) + off = (tgt : Int)) (kt : VE g cc nL own rt hh R mc ms out kc ks tgt lv rest w E1) (kf : VE g cc nL own rt hh R mc ms out kc ks (pc + 3) lv rest w E2) : VE g cc nL own rt hh R mc ms out kc ks pc lv (.int x :: rest) w (if x = 0 then E1 else E2) := fun r hr p e s m args below meth c F H locs ls hW hS hl => lv_if_eq F.1 F.2.1 hd ht (fun h => kt r (by rw [if_pos h] at hr; exact hr) p e s m args below meth c F H locs ls hW hS hl) (fun h => kf r (by rw [if_neg h] at hr; exact hr) p e s m args below meth c F H locs ls hW hS hl)
theorem v_if_eqT {x : Int32} {off : Int} {tgt : Nat} (hd : decode cc pc = .ok (.ifCond .eq off, 3)) (ht : (pc : Int) + off = (tgt : Int)) (hc : x = 0) (kt : VE g cc nL own rt hh R mc ms out kc ks tgt lv rest w E) : VE g cc nL own rt hh R mc ms out kc ks pc lv (.int x :: rest) w E := fun r hr p e s m args below meth c F H locs ls hW hS hl => lv_if_eq F.1 F.2.1 hd ht (fun _ => kt r hr p e s m args below meth c F H locs ls hW hS hl) (fun h => absurd hc h)
theorem v_if_eqF {x : Int32} {off : Int} {tgt : Nat} (hd : decode cc pc = .ok (.ifCond .eq off, 3)) (ht : (pc : Int) + off = (tgt : Int)) (hc : ¬ (x = 0)) (kf : VE g cc nL own rt hh R mc ms out kc ks (pc + 3) lv rest w E) : VE g cc nL own rt hh R mc ms out kc ks pc lv (.int x :: rest) w E := fun r hr p e s m args below meth c F H locs ls hW hS hl => lv_if_eq F.1 F.2.1 hd ht (fun h => absurd h hc) (fun _ => kf r hr p e s m args below meth c F H locs ls hW hS hl)
theorem v_icmp_eq {x y : Int32} {off : Int} {tgt : Nat} (hd : decode cc pc = .ok (.if_icmp .eq off, 3)) (ht : (pc : Int) + off = (tgt : Int)) (kt : VE g cc nL own rt hh R mc ms out kc ks tgt lv rest w E1) (kf : VE g cc nL own rt hh R mc ms out kc ks (pc + 3) lv rest w E2) : VE g cc nL own rt hh R mc ms out kc ks pc lv (.int y :: .int x :: rest) w (if x = y then E1 else E2) := fun r hr p e s m args below meth c F H locs ls hW hS hl => lv_icmp_eq F.1 F.2.1 hd ht (fun h => kt r (by rw [if_pos h] at hr; exact hr) p e s m args below meth c F H locs ls hW hS hl) (fun h => kf r (by rw [if_neg h] at hr; exact hr) p e s m args below meth c F H locs ls hW hS hl)
theorem v_icmp_eqT {x y : Int32} {off : Int} {tgt : Nat} (hd : decode cc pc = .ok (.if_icmp .eq off, 3)) (ht : (pc : Int) + off = (tgt : Int)) (hc : x = y) (kt : VE g cc nL own rt hh R mc ms out kc ks tgt lv rest w E) : VE g cc nL own rt hh R mc ms out kc ks pc lv (.int y :: .int x :: rest) w E := fun r hr p e s m args below meth c F H locs ls hW hS hl => lv_icmp_eq F.1 F.2.1 hd ht (fun _ => kt r hr p e s m args below meth c F H locs ls hW hS hl) (fun h => absurd hc h)
theorem v_icmp_eqF {x y : Int32} {off : Int} {tgt : Nat} (hd : decode cc pc = .ok (.if_icmp .eq off, 3)) (ht : (pc : Int) + off = (tgt : Int)) (hc : ¬ (x = y)) (kf : VE g cc nL own rt hh R mc ms out kc ks (pc + 3) lv rest w E) : VE g cc nL own rt hh R mc ms out kc ks pc lv (.int y :: .int x :: rest) w E := fun r hr p e s m args below meth c F H locs ls hW hS hl => lv_icmp_eq F.1 F.2.1 hd ht (fun h => absurd h hc) (fun _ => kf r hr p e s m args below meth c F H locs ls hW hS hl)
theorem v_if_ne {x : Int32} {off : Int} {tgt : Nat} (hd : decode cc pc = .ok (.ifCond .ne off, 3)) (ht : (pc : Int) + off = (tgt : Int)) (kt : VE g cc nL own rt hh R mc ms out kc ks tgt lv rest w E1) (kf : VE g cc nL own rt hh R mc ms out kc ks (pc + 3) lv rest w E2) : VE g cc nL own rt hh R mc ms out kc ks pc lv (.int x :: rest) w (if x = 0 then E2 else E1) := fun r hr p e s m args below meth c F H locs ls hW hS hl => lv_if_ne F.1 F.2.1 hd ht (fun h => kt r (by rw [if_neg h] at hr; exact hr) p e s m args below meth c F H locs ls hW hS hl) (fun h => kf r (by rw [if_pos h] at hr; exact hr) p e s m args below meth c F H locs ls hW hS hl)
theorem v_if_neT {x : Int32} {off : Int} {tgt : Nat} (hd : decode cc pc = .ok (.ifCond .ne off, 3)) (ht : (pc : Int) + off = (tgt : Int)) (hc : ¬ (x = 0)) (kt : VE g cc nL own rt hh R mc ms out kc ks tgt lv rest w E) : VE g cc nL own rt hh R mc ms out kc ks pc lv (.int x :: rest) w E := fun r hr p e s m args below meth c F H locs ls hW hS hl => lv_if_ne F.1 F.2.1 hd ht (fun _ => kt r hr p e s m args below meth c F H locs ls hW hS hl) (fun h => absurd h hc)
theorem v_if_neF {x : Int32} {off : Int} {tgt : Nat} (hd : decode cc pc = .ok (.ifCond .ne off, 3)) (ht : (pc : Int) + off = (tgt : Int)) (hc : x = 0) (kf : VE g cc nL own rt hh R mc ms out kc ks (pc + 3) lv rest w E) : VE g cc nL own rt hh R mc ms out kc ks pc lv (.int x :: rest) w E := fun r hr p e s m args below meth c F H locs ls hW hS hl => lv_if_ne F.1 F.2.1 hd ht (fun h => absurd hc h) (fun _ => kf r hr p e s m args below meth c F H locs ls hW hS hl)
theorem v_icmp_ne {x y : Int32} {off : Int} {tgt : Nat} (hd : decode cc pc = .ok (.if_icmp .ne off, 3)) (ht : (pc : Int) + off = (tgt : Int)) (kt : VE g cc nL own rt hh R mc ms out kc ks tgt lv rest w E1) (kf : VE g cc nL own rt hh R mc ms out kc ks (pc + 3) lv rest w E2) : VE g cc nL own rt hh R mc ms out kc ks pc lv (.int y :: .int x :: rest) w (if x = y then E2 else E1) := fun r hr p e s m args below meth c F H locs ls hW hS hl => lv_icmp_ne F.1 F.2.1 hd ht (fun h => kt r (by rw [if_neg h] at hr; exact hr) p e s m args below meth c F H locs ls hW hS hl) (fun h => kf r (by rw [if_pos h] at hr; exact hr) p e s m args below meth c F H locs ls hW hS hl)
theorem v_icmp_neT {x y : Int32} {off : Int} {tgt : Nat} (hd : decode cc pc = .ok (.if_icmp .ne off, 3)) (ht : (pc : Int) + off = (tgt : Int)) (hc : ¬ (x = y)) (kt : VE g cc nL own rt hh R mc ms out kc ks tgt lv rest w E) : VE g cc nL own rt hh R mc ms out kc ks pc lv (.int y :: .int x :: rest) w E := fun r hr p e s m args below meth c F H locs ls hW hS hl => lv_icmp_ne F.1 F.2.1 hd ht (fun _ => kt r hr p e s m args below meth c F H locs ls hW hS hl) (fun h => absurd h hc)
theorem v_icmp_neF {x y : Int32} {off : Int} {tgt : Nat} (hd : decode cc pc = .ok (.if_icmp .ne off, 3)) (ht : (pc : Int) + off = (tgt : Int)) (hc : x = y) (kf : VE g cc nL own rt hh R mc ms out kc ks (pc + 3) lv rest w E) : VE g cc nL own rt hh R mc ms out kc ks pc lv (.int y :: .int x :: rest) w E := fun r hr p e s m args below meth c F H locs ls hW hS hl => lv_icmp_ne F.1 F.2.1 hd ht (fun h => absurd hc h) (fun _ => kf r hr p e s m args below meth c F H locs ls hW hS hl)
theorem v_if_lt {x : Int32} {off : Int} {tgt : Nat} (hd : decode cc pc = .ok (.ifCond .lt off, 3)) (ht : (pc : Int) + off = (tgt : Int)) (kt : VE g cc nL own rt hh R mc ms out kc ks tgt lv rest w E1) (kf : VE g cc nL own rt hh R mc ms out kc ks (pc + 3) lv rest w E2) : VE g cc nL own rt hh R mc ms out kc ks pc lv (.int x :: rest) w (if x < 0 then E1 else E2) := fun r hr p e s m args below meth c F H locs ls hW hS hl => lv_if_lt F.1 F.2.1 hd ht (fun h => kt r (by rw [if_pos h] at hr; exact hr) p e s m args below meth c F H locs ls hW hS hl) (fun h => kf r (by rw [if_neg h] at hr; exact hr) p e s m args below meth c F H locs ls hW hS hl)
theorem v_if_ltT {x : Int32} {off : Int} {tgt : Nat} (hd : decode cc pc = .ok (.ifCond .lt off, 3)) (ht : (pc : Int) + off = (tgt : Int)) (hc : x < 0) (kt : VE g cc nL own rt hh R mc ms out kc ks tgt lv rest w E) : VE g cc nL own rt hh R mc ms out kc ks pc lv (.int x :: rest) w E := fun r hr p e s m args below meth c F H locs ls hW hS hl => lv_if_lt F.1 F.2.1 hd ht (fun _ => kt r hr p e s m args below meth c F H locs ls hW hS hl) (fun h => absurd hc h)
theorem v_if_ltF {x : Int32} {off : Int} {tgt : Nat} (hd : decode cc pc = .ok (.ifCond .lt off, 3)) (ht : (pc : Int) + off = (tgt : Int)) (hc : ¬ (x < 0)) (kf : VE g cc nL own rt hh R mc ms out kc ks (pc + 3) lv rest w E) : VE g cc nL own rt hh R mc ms out kc ks pc lv (.int x :: rest) w E := fun r hr p e s m args below meth c F H locs ls hW hS hl => lv_if_lt F.1 F.2.1 hd ht (fun h => absurd h hc) (fun _ => kf r hr p e s m args below meth c F H locs ls hW hS hl)
theorem v_icmp_lt {x y : Int32} {off : Int} {tgt : Nat} (hd : decode cc pc = .ok (.if_icmp .lt off, 3)) (ht : (pc : Int) + off = (tgt : Int)) (kt : VE g cc nL own rt hh R mc ms out kc ks tgt lv rest w E1) (kf : VE g cc nL own rt hh R mc ms out kc ks (pc + 3) lv rest w E2) : VE g cc nL own rt hh R mc ms out kc ks pc lv (.int y :: .int x :: rest) w (if x < y then E1 else E2) := fun r hr p e s m args below meth c F H locs ls hW hS hl => lv_icmp_lt F.1 F.2.1 hd ht (fun h => kt r (by rw [if_pos h] at hr; exact hr) p e s m args below meth c F H locs ls hW hS hl) (fun h => kf r (by rw [if_neg h] at hr; exact hr) p e s m args below meth c F H locs ls hW hS hl)
theorem v_icmp_ltT {x y : Int32} {off : Int} {tgt : Nat} (hd : decode cc pc = .ok (.if_icmp .lt off, 3)) (ht : (pc : Int) + off = (tgt : Int)) (hc : x < y) (kt : VE g cc nL own rt hh R mc ms out kc ks tgt lv rest w E) : VE g cc nL own rt hh R mc ms out kc ks pc lv (.int y :: .int x :: rest) w E := fun r hr p e s m args below meth c F H locs ls hW hS hl => lv_icmp_lt F.1 F.2.1 hd ht (fun _ => kt r hr p e s m args below meth c F H locs ls hW hS hl) (fun h => absurd hc h)
theorem v_icmp_ltF {x y : Int32} {off : Int} {tgt : Nat} (hd : decode cc pc = .ok (.if_icmp .lt off, 3)) (ht : (pc : Int) + off = (tgt : Int)) (hc : ¬ (x < y)) (kf : VE g cc nL own rt hh R mc ms out kc ks (pc + 3) lv rest w E) : VE g cc nL own rt hh R mc ms out kc ks pc lv (.int y :: .int x :: rest) w E := fun r hr p e s m args below meth c F H locs ls hW hS hl => lv_icmp_lt F.1 F.2.1 hd ht (fun h => absurd h hc) (fun _ => kf r hr p e s m args below meth c F H locs ls hW hS hl)
theorem v_if_ge {x : Int32} {off : Int} {tgt : Nat} (hd : decode cc pc = .ok (.ifCond .ge off, 3)) (ht : (pc : Int) + off = (tgt : Int)) (kt : VE g cc nL own rt hh R mc ms out kc ks tgt lv rest w E1) (kf : VE g cc nL own rt hh R mc ms out kc ks (pc + 3) lv rest w E2) : VE g cc nL own rt hh R mc ms out kc ks pc lv (.int x :: rest) w (if 0 ≤ x then E1 else E2) := fun r hr p e s m args below meth c F H locs ls hW hS hl => lv_if_ge F.1 F.2.1 hd ht (fun h => kt r (by rw [if_pos h] at hr; exact hr) p e s m args below meth c F H locs ls hW hS hl) (fun h => kf r (by rw [if_neg h] at hr; exact hr) p e s m args below meth c F H locs ls hW hS hl)
theorem v_if_geT {x : Int32} {off : Int} {tgt : Nat} (hd : decode cc pc = .ok (.ifCond .ge off, 3)) (ht : (pc : Int) + off = (tgt : Int)) (hc : 0 ≤ x) (kt : VE g cc nL own rt hh R mc ms out kc ks tgt lv rest w E) : VE g cc nL own rt hh R mc ms out kc ks pc lv (.int x :: rest) w E := fun r hr p e s m args below meth c F H locs ls hW hS hl => lv_if_ge F.1 F.2.1 hd ht (fun _ => kt r hr p e s m args below meth c F H locs ls hW hS hl) (fun h => absurd hc h)
theorem v_if_geF {x : Int32} {off : Int} {tgt : Nat} (hd : decode cc pc = .ok (.ifCond .ge off, 3)) (ht : (pc : Int) + off = (tgt : Int)) (hc : ¬ (0 ≤ x)) (kf : VE g cc nL own rt hh R mc ms out kc ks (pc + 3) lv rest w E) : VE g cc nL own rt hh R mc ms out kc ks pc lv (.int x :: rest) w E := fun r hr p e s m args below meth c F H locs ls hW hS hl => lv_if_ge F.1 F.2.1 hd ht (fun h => absurd h hc) (fun _ => kf r hr p e s m args below meth c F H locs ls hW hS hl)
theorem v_icmp_ge {x y : Int32} {off : Int} {tgt : Nat} (hd : decode cc pc = .ok (.if_icmp .ge off, 3)) (ht : (pc : Int) + off = (tgt : Int)) (kt : VE g cc nL own rt hh R mc ms out kc ks tgt lv rest w E1) (kf : VE g cc nL own rt hh R mc ms out kc ks (pc + 3) lv rest w E2) : VE g cc nL own rt hh R mc ms out kc ks pc lv (.int y :: .int x :: rest) w (if y ≤ x then E1 else E2) := fun r hr p e s m args below meth c F H locs ls hW hS hl => lv_icmp_ge F.1 F.2.1 hd ht (fun h => kt r (by rw [if_pos h] at hr; exact hr) p e s m args below meth c F H locs ls hW hS hl) (fun h => kf r (by rw [if_neg h] at hr; exact hr) p e s m args below meth c F H locs ls hW hS hl)
theorem v_icmp_geT {x y : Int32} {off : Int} {tgt : Nat} (hd : decode cc pc = .ok (.if_icmp .ge off, 3)) (ht : (pc : Int) + off = (tgt : Int)) (hc : y ≤ x) (kt : VE g cc nL own rt hh R mc ms out kc ks tgt lv rest w E) : VE g cc nL own rt hh R mc ms out kc ks pc lv (.int y :: .int x :: rest) w E := fun r hr p e s m args below meth c F H locs ls hW hS hl => lv_icmp_ge F.1 F.2.1 hd ht (fun _ => kt r hr p e s m args below meth c F H locs ls hW hS hl) (fun h => absurd hc h)
theorem v_icmp_geF {x y : Int32} {off : Int} {tgt : Nat} (hd : decode cc pc = .ok (.if_icmp .ge off, 3)) (ht : (pc : Int) + off = (tgt : Int)) (hc : ¬ (y ≤ x)) (kf : VE g cc nL own rt hh R mc ms out kc ks (pc + 3) lv rest w E) : VE g cc nL own rt hh R mc ms out kc ks pc lv (.int y :: .int x :: rest) w E := fun r hr p e s m args below meth c F H locs ls hW hS hl => lv_icmp_ge F.1 F.2.1 hd ht (fun h => absurd h hc) (fun _ => kf r hr p e s m args below meth c F H locs ls hW hS hl)
theorem v_if_gt {x : Int32} {off : Int} {tgt : Nat} (hd : decode cc pc = .ok (.ifCond .gt off, 3)) (ht : (pc : Int) + off = (tgt : Int)) (kt : VE g cc nL own rt hh R mc ms out kc ks tgt lv rest w E1) (kf : VE g cc nL own rt hh R mc ms out kc ks (pc + 3) lv rest w E2) : VE g cc nL own rt hh R mc ms out kc ks pc lv (.int x :: rest) w (if 0 < x then E1 else E2) := fun r hr p e s m args below meth c F H locs ls hW hS hl => lv_if_gt F.1 F.2.1 hd ht (fun h => kt r (by rw [if_pos h] at hr; exact hr) p e s m args below meth c F H locs ls hW hS hl) (fun h => kf r (by rw [if_neg h] at hr; exact hr) p e s m args below meth c F H locs ls hW hS hl)
theorem v_if_gtT {x : Int32} {off : Int} {tgt : Nat} (hd : decode cc pc = .ok (.ifCond .gt off, 3)) (ht : (pc : Int) + off = (tgt : Int)) (hc : 0 < x) (kt : VE g cc nL own rt hh R mc ms out kc ks tgt lv rest w E) : VE g cc nL own rt hh R mc ms out kc ks pc lv (.int x :: rest) w E := fun r hr p e s m args below meth c F H locs ls hW hS hl => lv_if_gt F.1 F.2.1 hd ht (fun _ => kt r hr p e s m args below meth c F H locs ls hW hS hl) (fun h => absurd hc h)
theorem v_if_gtF {x : Int32} {off : Int} {tgt : Nat} (hd : decode cc pc = .ok (.ifCond .gt off, 3)) (ht : (pc : Int) + off = (tgt : Int)) (hc : ¬ (0 < x)) (kf : VE g cc nL own rt hh R mc ms out kc ks (pc + 3) lv rest w E) : VE g cc nL own rt hh R mc ms out kc ks pc lv (.int x :: rest) w E := fun r hr p e s m args below meth c F H locs ls hW hS hl => lv_if_gt F.1 F.2.1 hd ht (fun h => absurd h hc) (fun _ => kf r hr p e s m args below meth c F H locs ls hW hS hl)
theorem v_icmp_gt {x y : Int32} {off : Int} {tgt : Nat} (hd : decode cc pc = .ok (.if_icmp .gt off, 3)) (ht : (pc : Int) + off = (tgt : Int)) (kt : VE g cc nL own rt hh R mc ms out kc ks tgt lv rest w E1) (kf : VE g cc nL own rt hh R mc ms out kc ks (pc + 3) lv rest w E2) : VE g cc nL own rt hh R mc ms out kc ks pc lv (.int y :: .int x :: rest) w (if y < x then E1 else E2) := fun r hr p e s m args below meth c F H locs ls hW hS hl => lv_icmp_gt F.1 F.2.1 hd ht (fun h => kt r (by rw [if_pos h] at hr; exact hr) p e s m args below meth c F H locs ls hW hS hl) (fun h => kf r (by rw [if_neg h] at hr; exact hr) p e s m args below meth c F H locs ls hW hS hl)
theorem v_icmp_gtT {x y : Int32} {off : Int} {tgt : Nat} (hd : decode cc pc = .ok (.if_icmp .gt off, 3)) (ht : (pc : Int) + off = (tgt : Int)) (hc : y < x) (kt : VE g cc nL own rt hh R mc ms out kc ks tgt lv rest w E) : VE g cc nL own rt hh R mc ms out kc ks pc lv (.int y :: .int x :: rest) w E := fun r hr p e s m args below meth c F H locs ls hW hS hl => lv_icmp_gt F.1 F.2.1 hd ht (fun _ => kt r hr p e s m args below meth c F H locs ls hW hS hl) (fun h => absurd hc h)
theorem v_icmp_gtF {x y : Int32} {off : Int} {tgt : Nat} (hd : decode cc pc = .ok (.if_icmp .gt off, 3)) (ht : (pc : Int) + off = (tgt : Int)) (hc : ¬ (y < x)) (kf : VE g cc nL own rt hh R mc ms out kc ks (pc + 3) lv rest w E) : VE g cc nL own rt hh R mc ms out kc ks pc lv (.int y :: .int x :: rest) w E := fun r hr p e s m args below meth c F H locs ls hW hS hl => lv_icmp_gt F.1 F.2.1 hd ht (fun h => absurd h hc) (fun _ => kf r hr p e s m args below meth c F H locs ls hW hS hl)
theorem v_if_le {x : Int32} {off : Int} {tgt : Nat} (hd : decode cc pc = .ok (.ifCond .le off, 3)) (ht : (pc : Int) + off = (tgt : Int)) (kt : VE g cc nL own rt hh R mc ms out kc ks tgt lv rest w E1) (kf : VE g cc nL own rt hh R mc ms out kc ks (pc + 3) lv rest w E2) : VE g cc nL own rt hh R mc ms out kc ks pc lv (.int x :: rest) w (if x ≤ 0 then E1 else E2) := fun r hr p e s m args below meth c F H locs ls hW hS hl => lv_if_le F.1 F.2.1 hd ht (fun h => kt r (by rw [if_pos h] at hr; exact hr) p e s m args below meth c F H locs ls hW hS hl) (fun h => kf r (by rw [if_neg h] at hr; exact hr) p e s m args below meth c F H locs ls hW hS hl)
theorem v_if_leT {x : Int32} {off : Int} {tgt : Nat} (hd : decode cc pc = .ok (.ifCond .le off, 3)) (ht : (pc : Int) + off = (tgt : Int)) (hc : x ≤ 0) (kt : VE g cc nL own rt hh R mc ms out kc ks tgt lv rest w E) : VE g cc nL own rt hh R mc ms out kc ks pc lv (.int x :: rest) w E := fun r hr p e s m args below meth c F H locs ls hW hS hl => lv_if_le F.1 F.2.1 hd ht (fun _ => kt r hr p e s m args below meth c F H locs ls hW hS hl) (fun h => absurd hc h)
theorem v_if_leF {x : Int32} {off : Int} {tgt : Nat} (hd : decode cc pc = .ok (.ifCond .le off, 3)) (ht : (pc : Int) + off = (tgt : Int)) (hc : ¬ (x ≤ 0)) (kf : VE g cc nL own rt hh R mc ms out kc ks (pc + 3) lv rest w E) : VE g cc nL own rt hh R mc ms out kc ks pc lv (.int x :: rest) w E := fun r hr p e s m args below meth c F H locs ls hW hS hl => lv_if_le F.1 F.2.1 hd ht (fun h => absurd h hc) (fun _ => kf r hr p e s m args below meth c F H locs ls hW hS hl)
theorem v_icmp_le {x y : Int32} {off : Int} {tgt : Nat} (hd : decode cc pc = .ok (.if_icmp .le off, 3)) (ht : (pc : Int) + off = (tgt : Int)) (kt : VE g cc nL own rt hh R mc ms out kc ks tgt lv rest w E1) (kf : VE g cc nL own rt hh R mc ms out kc ks (pc + 3) lv rest w E2) : VE g cc nL own rt hh R mc ms out kc ks pc lv (.int y :: .int x :: rest) w (if x ≤ y then E1 else E2) := fun r hr p e s m args below meth c F H locs ls hW hS hl => lv_icmp_le F.1 F.2.1 hd ht (fun h => kt r (by rw [if_pos h] at hr; exact hr) p e s m args below meth c F H locs ls hW hS hl) (fun h => kf r (by rw [if_neg h] at hr; exact hr) p e s m args below meth c F H locs ls hW hS hl)
theorem v_icmp_leT {x y : Int32} {off : Int} {tgt : Nat} (hd : decode cc pc = .ok (.if_icmp .le off, 3)) (ht : (pc : Int) + off = (tgt : Int)) (hc : x ≤ y) (kt : VE g cc nL own rt hh R mc ms out kc ks tgt lv rest w E) : VE g cc nL own rt hh R mc ms out kc ks pc lv (.int y :: .int x :: rest) w E := fun r hr p e s m args below meth c F H locs ls hW hS hl => lv_icmp_le F.1 F.2.1 hd ht (fun _ => kt r hr p e s m args below meth c F H locs ls hW hS hl) (fun h => absurd hc h)
theorem v_icmp_leF {x y : Int32} {off : Int} {tgt : Nat} (hd : decode cc pc = .ok (.if_icmp .le off, 3)) (ht : (pc : Int) + off = (tgt : Int)) (hc : ¬ (x ≤ y)) (kf : VE g cc nL own rt hh R mc ms out kc ks (pc + 3) lv rest w E) : VE g cc nL own rt hh R mc ms out kc ks pc lv (.int y :: .int x :: rest) w E := fun r hr p e s m args below meth c F H locs ls hW hS hl => lv_icmp_le F.1 F.2.1 hd ht (fun h => absurd h hc) (fun _ => kf r hr p e s m args below meth c F H locs ls hW hS hl)
theorem v_ifnull {x : Nat} {off : Int} (hd : decode cc pc = .ok (.ifnull off, 3)) (k : VE g cc nL own rt hh R mc ms out kc ks (pc + 3) lv rest w E) : VE g cc nL own rt hh R mc ms out kc ks pc lv (.ref x :: rest) w E := fun r hr p e s m args below meth c F H locs ls hW hS hl => lv_ifnull F.1 F.2.1 hd (k r hr p e s m args below meth c F H locs ls hW hS hl)
theorem v_ifnullN {off : Int} {tgt : Nat} (hd : decode cc pc = .ok (.ifnull off, 3)) (ht : (pc : Int) + off = (tgt : Int)) (k : VE g cc nL own rt hh R mc ms out kc ks tgt lv rest w E) : VE g cc nL own rt hh R mc ms out kc ks pc lv (.null :: rest) w E := fun r hr p e s m args below meth c F H locs ls hW hS hl => lv_ifnullN F.1 F.2.1 hd ht (k r hr p e s m args below meth c F H locs ls hW hS hl)
/-! fields -/
/-- a field's link: its class's number and place, with all that the tables say -/
def FL (own : String) (index ci j : Nat) (d : String) (fin : Bool) : Prop := ∃ (C : String) (T : u_T) (N : Nat) (ty : Nat → FieldType), vwCl[ci]? = some (C, T, N) ∧ (∀ w ∈ u_ws C T N, w ∈ GW) ∧ j < N ∧ Cond.fieldLink own index (T j).1 (T j).2.1 (T j).2.2.1 ∈ GW ∧ (∀ k, k < N → parseFieldDescriptor (T k).2.2.1 = some (ty k)) ∧ (∀ a, a < N → ∀ b, b < N → a ≠ b → (T a).2.1 ≠ (T b).2.1) ∧ (T j).2.2.1 = d ∧ (T j).2.2.2 = fin
theorem v_getI {index ci j k : Nat} {d : String} {fin : Bool} {fs : List (Option Nat)} (hL : FL own index ci j d fin) (hT : TT[k]? = some (0, ci, fs)) (hf : fs[j]? = some none) (hd : decode cc pc = .ok (.getfield index, 3))
    (kk : VE g cc nL own rt hh R mc ms out kc ks (pc + 3) lv (.int (w.1 k j) :: rest) w E) : VE g cc nL own rt hh R mc ms out kc ks pc lv (.ref (g.2.1 + k) :: rest) w E := by
  intro r hr p e s m args below meth c F H locs ls hW hS hl
  obtain ⟨C, T, N, ty, h1, h2, h3, h4, -⟩ := hL
  refine va_get (D := g.2.2.2.1) (cl := vwCl) (tys := tysL g) (ci := ci) (v := .int (w.1 k j)) F.1 F.2.1 F.2.2.2.2.1 h2 F.2.2.2.1 F.2.2.2.2.2.1 (hW.one hT) 0 rfl h1 j h3 (F.2.2.2.2.1 _ h4) (fun _ h9 => h9) ?_ hd (kk r hr p e s m args below meth c F H locs ls hW hS hl)
  show (layF g.2.1 (w.1 k) 0 fs)[j]? = _
  rw [layF_get, hf]
  simp
theorem v_getR {index ci j k t : Nat} {d : String} {fin : Bool} {fs : List (Option Nat)} (hL : FL own index ci j d fin) (hT : TT[k]? = some (0, ci, fs)) (hf : fs[j]? = some (some t)) (hd : decode cc pc = .ok (.getfield index, 3))
    (kk : VE g cc nL own rt hh R mc ms out kc ks (pc + 3) lv (.ref (g.2.1 + t) :: rest) w E) : VE g cc nL own rt hh R mc ms out kc ks pc lv (.ref (g.2.1 + k) :: rest) w E := by
  intro r hr p e s m args below meth c F H locs ls hW hS hl
  obtain ⟨C, T, N, ty, h1, h2, h3, h4, -⟩ := hL
  refine va_get (D := g.2.2.2.1) (cl := vwCl) (tys := tysL g) (ci := ci) (v := .ref (g.2.1 + t)) F.1 F.2.1 F.2.2.2.2.1 h2 F.2.2.2.1 F.2.2.2.2.2.1 (hW.one hT) 0 rfl h1 j h3 (F.2.2.2.2.1 _ h4) (fun _ h9 => h9) ?_ hd (kk r hr p e s m args below meth c F H locs ls hW hS hl)
  show (layF g.2.1 (w.1 k) 0 fs)[j]? = _
  rw [layF_get, hf]
  simp
theorem v_putI {index ci j k : Nat} {d : String} {ty0 : FieldType} {v : Int32} {fs : List (Option Nat)} (hL : FL own index ci j d false) (hT : TT[k]? = some (0, ci, fs)) (hf : fs[j]? = some none) (hty : parseFieldDescriptor d = some ty0) (hn : narrow ty0 (.int v) = .int v) (hfit : fits ty0 (.int v) = true) (hd : decode cc pc = .ok (.putfield index, 3))
    (kk : VE g cc nL own rt hh R mc ms out kc ks (pc + 3) lv rest (wset w k j v) E) : VE g cc nL own rt hh R mc ms out kc ks pc lv (.int v :: .ref (g.2.1 + k) :: rest) w E := by
  intro r hr p e s m args below meth c F H locs ls hW hS hl
  obtain ⟨C, T, N, ty, h1, h2, h3, h4, h5, h6, h7, h8⟩ := hL
  have hts := F.2.2.2.2.1
  have hK := F.2.2.2.2.2.1
  have hap := va_apart (own := own) hts h2 ty h5 h6 hK h1
  obtain ⟨r0, q0, cell, q1, q2, q3, q4⟩ := hW k _ hT
  have hr0 : r0 = (C, T, N) := Option.some.inj (q0.symm.trans h1)
  subst hr0
  obtain ⟨hSi, hfc, kC, hkC, hkind⟩ := hK.1 ci _ h1
  obtain ⟨cf, kf, fi, f, hi, hsl⟩ := hSi j h3
  have hlay := hts _ (h2 _ (u_in_lay h3))
  unfold u_lay at hlay
  rw [if_neg (by rw [h8]; decide)] at hlay
  have hst := (u_facts hfc hkC (u_lays hts h2 h3) hi).1
  have hS6 := u_store hfc hkC hkind hlay hi (by rw [h7]; exact hty) hn hfit
  refine W.putK F.1 F.2.1 (f := f) ⟨F.2.2.2.1, hts _ h4, ⟨_, _, _, hi⟩, hst⟩ (by rw [q2]; exact hS6) q1 q3 (by rw [hsl]; exact k2_hasslot (q4 j h3)) rfl rfl hd fun H' e1 e2 e3 => ?_
  rw [hsl] at e1 ⊢
  have hl2 : j < (layF g.2.1 (w.1 k) 0 fs).length := by rw [layF_len]; exact (List.getElem?_eq_some_iff.mp hf).1
  refine kk r hr p e s m args below meth c F H' _ ls ?_ (hS.put hT e2 e3) hl
  refine RW.put hW hT ?_ e3 (fun k' hk' => wset_ne hk') (Or.inl rfl)
  refine ⟨_, h1, ?_⟩
  have ev : layF g.2.1 ((wset w k j v).1 k) 0 fs = (layF g.2.1 (w.1 k) 0 fs).set j (.int v) := by
    rw [layF_set _ _ _ _ _ hf, wset_eq]
  rw [ev]
  exact t_OB.to (V := updV (vp_V (layF g.2.1 (w.1 k) 0 fs)) j (.int v)) ⟨_, e1, q2, q3, t_set q4 hap h3 _⟩ (fun i _ => vp_updV_set hl2 _ i)
/-! arrays -/
theorem v_ald_aux {kd : Nat} {n k : Nat} {fs : List (Option Nat)} {H : Heap} {s : State} {i : Int32} {ty : FieldType} (hW : RW g w H) (hK : va_K g.2.2.2.1 vwCl (tysL g) s) (hT : TT[k]? = some (kd, n, fs)) (hkd : kd = 1 ∨ kd = 2 ∨ kd = 3) (hty : (tysL g)[kd - 1]? = some (g.2.2.1 (kd - 1), ty)) :
    H[g.2.1 + k]? = some (vp_cell (g.2.2.1 (kd - 1)) (n, .inl (w.1 k))) ∧ s.isArrayOf (vp_cell (g.2.2.1 (kd - 1)) (n, .inl (w.1 k))) ty := by
  have h := hW k _ hT
  have h2 := (hK.2 _ _ hty).1 n (fun j => .int (w.1 k j))
  refine ⟨?_, h2⟩
  rcases hkd with rfl | rfl | rfl <;> exact h
theorem v_iald {n k : Nat} {fs : List (Option Nat)} {i : Int32} (hT : TT[k]? = some (1, n, fs)) (hin : vp_in i n) (hd : decode cc pc = .ok (.iaload, 1))
    (kk : VE g cc nL own rt hh R mc ms out kc ks (pc + 1) lv (.int (w.1 k i.toNatClampNeg) :: rest) w E) : VE g cc nL own rt hh R mc ms out kc ks pc lv (.int i :: .ref (g.2.1 + k) :: rest) w E := by
  intro r hr p e s m args below meth c F H locs ls hW hS hl
  exact va_iald (D := g.2.2.2.1) (cl := vwCl) (tys := tysL g) F.1 F.2.1 F.2.2.2.2.2.1 (hW.one hT) 0 0 rfl rfl hin hd (kk r hr p e s m args below meth c F H locs ls hW hS hl)
theorem v_zald {n k : Nat} {fs : List (Option Nat)} {i : Int32} (hT : TT[k]? = some (2, n, fs)) (hin : vp_in i n) (hd : decode cc pc = .ok (.baload, 1))
    (kk : VE g cc nL own rt hh R mc ms out kc ks (pc + 1) lv (.int (w.1 k i.toNatClampNeg) :: rest) w E) : VE g cc nL own rt hh R mc ms out kc ks pc lv (.int i :: .ref (g.2.1 + k) :: rest) w E := by
  intro r hr p e s m args below meth c F H locs ls hW hS hl
  exact va_zald (D := g.2.2.2.1) (cl := vwCl) (tys := tysL g) F.1 F.2.1 F.2.2.2.2.2.1 (hW.one hT) 0 1 rfl rfl hin hd (kk r hr p e s m args below meth c F H locs ls hW hS hl)
theorem v_cald {n k : Nat} {fs : List (Option Nat)} {i : Int32} (hT : TT[k]? = some (3, n, fs)) (hin : vp_in i n) (hd : decode cc pc = .ok (.caload, 1))
    (kk : VE g cc nL own rt hh R mc ms out kc ks (pc + 1) lv (.int (w.1 k i.toNatClampNeg) :: rest) w E) : VE g cc nL own rt hh R mc ms out kc ks pc lv (.int i :: .ref (g.2.1 + k) :: rest) w E := by
  intro r hr p e s m args below meth c F H locs ls hW hS hl
  exact va_cald (D := g.2.2.2.1) (cl := vwCl) (tys := tysL g) F.1 F.2.1 F.2.2.2.2.2.1 (hW.one hT) 0 2 rfl rfl hin hd (kk r hr p e s m args below meth c F H locs ls hW hS hl)
theorem v_ast_eq {cA : ClassId} {n i k : Nat} {x : Int32} : (vp_cell cA (n, .inl (w.1 k))).setSlot i (.int x) = vp_cell cA (n, .inl ((wset w k i x).1 k)) := by
  rw [vp_cell_i, vp_cell_i, arrV_store, wset_eq]
  congr 1
  funext q
  by_cases hq : q = i
  · simp [updV, hq]
  · simp [updV, hq]
theorem v_iast {n k : Nat} {fs : List (Option Nat)} {i x : Int32} (hT : TT[k]? = some (1, n, fs)) (hin : vp_in i n) (hd : decode cc pc = .ok (.iastore, 1))
    (kk : VE g cc nL own rt hh R mc ms out kc ks (pc + 1) lv rest (wset w k i.toNatClampNeg x) E) : VE g cc nL own rt hh R mc ms out kc ks pc lv (.int x :: .int i :: .ref (g.2.1 + k) :: rest) w E := by
  intro r hr p e s m args below meth c F H locs ls hW hS hl
  obtain ⟨h1, h2⟩ := v_ald_aux (i := i) (ty := .int) hW F.2.2.2.2.2.1 hT (Or.inl rfl) rfl
  refine W.iast F.1 F.2.1 h1 h2 (fun q => by cases q) (by show ¬ (i < 0 ∨ (arrV _ _ _).slots.size ≤ _); rw [arrV_size]; exact hin) rfl rfl hd fun H1 e1 z oq => ?_
  rw [v_ast_eq] at e1
  exact kk r hr p e s m args below meth c F H1 _ ls (RW.put hW hT e1 oq (fun k' hk' => wset_ne hk') (Or.inl rfl)) (hS.put hT z oq) hl
theorem v_zast {n k : Nat} {fs : List (Option Nat)} {i x : Int32} (hT : TT[k]? = some (2, n, fs)) (hin : vp_in i n) (hd : decode cc pc = .ok (.bastore, 1))
    (kk : VE g cc nL own rt hh R mc ms out kc ks (pc + 1) lv rest (wset w k i.toNatClampNeg (vp_nar .boolean x)) E) : VE g cc nL own rt hh R mc ms out kc ks pc lv (.int x :: .int i :: .ref (g.2.1 + k) :: rest) w E := by
  intro r hr p e s m args below meth c F H locs ls hW hS hl
  obtain ⟨h1, h2⟩ := v_ald_aux (i := i) (ty := .boolean) hW F.2.2.2.2.2.1 hT (Or.inr (Or.inl rfl)) rfl
  refine W.zast F.1 F.2.1 h1 h2 (fun q => by cases q) (by show ¬ (i < 0 ∨ (arrV _ _ _).slots.size ≤ _); rw [arrV_size]; exact hin) rfl rfl hd fun H1 e1 z oq => ?_
  rw [show narrow .boolean (.int x) = .int (vp_nar .boolean x) from rfl, v_ast_eq] at e1
  exact kk r hr p e s m args below meth c F H1 _ ls (RW.put hW hT e1 oq (fun k' hk' => wset_ne hk') (Or.inl rfl)) (hS.put hT z oq) hl
theorem v_cast {n k : Nat} {fs : List (Option Nat)} {i x : Int32} (hT : TT[k]? = some (3, n, fs)) (hin : vp_in i n) (hd : decode cc pc = .ok (.castore, 1))
    (kk : VE g cc nL own rt hh R mc ms out kc ks (pc + 1) lv rest (wset w k i.toNatClampNeg (vp_nar .char x)) E) : VE g cc nL own rt hh R mc ms out kc ks pc lv (.int x :: .int i :: .ref (g.2.1 + k) :: rest) w E := by
  intro r hr p e s m args below meth c F H locs ls hW hS hl
  obtain ⟨h1, h2⟩ := v_ald_aux (i := i) (ty := .char) hW F.2.2.2.2.2.1 hT (Or.inr (Or.inr rfl)) rfl
  refine W.cast F.1 F.2.1 h1 h2 (fun q => by cases q) (by show ¬ (i < 0 ∨ (arrV _ _ _).slots.size ≤ _); rw [arrV_size]; exact hin) rfl rfl hd fun H1 e1 z oq => ?_
  rw [show narrow .char (.int x) = .int (vp_nar .char x) from rfl, v_ast_eq] at e1
  exact kk r hr p e s m args below meth c F H1 _ ls (RW.put hW hT e1 oq (fun k' hk' => wset_ne hk') (Or.inl rfl)) (hS.put hT z oq) hl
theorem v_alen {kd n k : Nat} {fs : List (Option Nat)} {v : Int32} (hT : TT[k]? = some (kd, n, fs)) (hkd : kd = 1 ∨ kd = 3 ∨ kd = 6) (hv : Int32.ofNat n = v) (hd : decode cc pc = .ok (.arraylength, 1))
    (kk : VE g cc nL own rt hh R mc ms out kc ks (pc + 1) lv (.int v :: rest) w E) : VE g cc nL own rt hh R mc ms out kc ks pc lv (.ref (g.2.1 + k) :: rest) w E := by
  intro r hr p e s m args below meth c F H locs ls hW hS hl
  rcases hkd with rfl | rfl | rfl
  · exact va_alen (D := g.2.2.2.1) (cl := vwCl) (tys := tysL g) (x := (n, .inl (w.1 k))) F.1 F.2.1 F.2.2.2.2.2.1 (hW.one hT) 0 0 rfl rfl hv hd (kk r hr p e s m args below meth c F H locs ls hW hS hl)
  · exact va_alen (D := g.2.2.2.1) (cl := vwCl) (tys := tysL g) (x := (n, .inl (w.1 k))) F.1 F.2.1 F.2.2.2.2.2.1 (hW.one hT) 0 2 rfl rfl hv hd (kk r hr p e s m args below meth c F H locs ls hW hS hl)
  · exact va_alen (D := g.2.2.2.1) (cl := vwCl) (tys := tysL g) (x := (n, .inr (.inr (.inr (.inr (fun j => (fs.getD j none).map (g.2.1 + ·))))))) F.1 F.2.1 F.2.2.2.2.2.1 (hW.one hT) 0 4 rfl rfl hv hd (kk r hr p e s m args below meth c F H locs ls hW hS hl)
theorem v_aald {n k t : Nat} {fs : List (Option Nat)} {i : Int32} (hT : TT[k]? = some (6, n, fs)) (hin : vp_in i n) (ht : fs.getD i.toNatClampNeg none = some t) (hd : decode cc pc = .ok (.aaload, 1))
    (kk : VE g cc nL own rt hh R mc ms out kc ks (pc + 1) lv (.ref (g.2.1 + t) :: rest) w E) : VE g cc nL own rt hh R mc ms out kc ks pc lv (.int i :: .ref (g.2.1 + k) :: rest) w E := by
  intro r hr p e s m args below meth c F H locs ls hW hS hl
  refine va_aldq (D := g.2.2.2.1) (cl := vwCl) (tys := tysL g) (f := fun j => (fs.getD j none).map (g.2.1 + ·)) F.1 F.2.1 F.2.2.2.2.2.1 (hW.one hT) 0 4 rfl rfl hin hd ?_
  rw [ht]
  exact kk r hr p e s m args below meth c F H locs ls hW hS hl
/-- System.arraycopy between two int rows, or two boolean rows -/
theorem v_copy {kd k0 k1 n0 n1 index : Nat} {fs0 fs1 : List (Option Nat)} {ty : FieldType} {sp dp n : Int32} (hT0 : TT[k0]? = some (kd, n0, fs0)) (hT1 : TT[k1]? = some (kd, n1, fs1)) (hkd : kd = 1 ∨ kd = 2) (hty : (tysL g)[kd - 1]? = some (g.2.2.1 (kd - 1), ty)) (hprim : refKind ty = false)
    (hlink : Cond.methodLink own index arraycopyName ∈ GW) (hnat : Cond.native arraycopyName ∈ GW) (hstat : Cond.static arraycopyName ∈ GW) (hini : Cond.initialized "java/lang/System" ∈ GW)
    (h1 : ¬ sp < 0) (h2 : ¬ dp < 0) (h3 : ¬ n < 0) (h4 : sp.toNatClampNeg + n.toNatClampNeg ≤ n0) (h5 : dp.toNatClampNeg + n.toNatClampNeg ≤ n1) (hfit : ∀ i, i < n.toNatClampNeg → fits ty (.int (w.1 k0 (sp.toNatClampNeg + i))) = true)
    (hframes : 1 ≤ R.frames) (hlocals : (rest.map fun v => v.category).sum + (nativeFrameWords "java/lang/System" "arraycopy" 5 + 11) ≤ R.locals) (hd : decode cc pc = .ok (.invokestatic index, 3))
    (kk : VE g cc nL own rt hh R mc ms out kc ks (pc + 3) lv rest (wcpy w k0 sp.toNatClampNeg k1 dp.toNatClampNeg n.toNatClampNeg) E) : VE g cc nL own rt hh R mc ms out kc ks pc lv (.int n :: .int dp :: .ref (g.2.1 + k1) :: .int sp :: .ref (g.2.1 + k0) :: rest) w E := by
  intro r hr p e s m args below meth c F H locs ls hW hS hl
  have nn : ∀ z : Int32, ¬ z < 0 → z.toInt = (z.toNatClampNeg : Int) := by
    intro z hz
    have hz0 : (0 : Int) ≤ z.toInt := by
      have := Int32.not_lt.mp hz
      simpa using Int32.le_iff_toInt_le.mp this
    show z.toInt = ((z.toInt.toNat : Nat) : Int)
    omega
  have hts := F.2.2.2.2.1
  have hK := F.2.2.2.2.2.1
  have hkd3 : kd = 1 ∨ kd = 2 ∨ kd = 3 := by rcases hkd with h | h <;> simp [h]
  obtain ⟨hc0, ha0⟩ := v_ald_aux (i := sp) hW hK hT0 hkd3 hty
  obtain ⟨hc1, ha1⟩ := v_ald_aux (i := sp) hW hK hT1 hkd3 hty
  obtain ⟨c0, hc0e⟩ : ∃ z, z = g.2.2.1 (kd - 1) := ⟨_, rfl⟩
  rw [← hc0e] at hc0 ha0 hc1 ha1
  obtain ⟨-, q0, hk0, cm0, hkk0⟩ := ha0
  obtain ⟨-, q1, hk1, cm1, hkk1⟩ := ha1
  intro T hTh X
  obtain ⟨vm', X', step⟩ := X.arraycopy F.1 F.2.2.2.1 (hts _ hlink) (hts _ hnat) (hts _ hstat) (hts _ hini) (src := g.2.1 + k0) (dst := g.2.1 + k1) (cs := vp_cell c0 (n0, .inl (w.1 k0))) (cd := vp_cell c0 (n1, .inl (w.1 k1))) (srcPos := sp) (destPos := dp) (n := n) (by rw [hTh]; exact hc0) (by rw [hTh]; exact hc1)
    (fun _ h => by cases h) (fun _ h => by cases h) (fun h => by cases h) (fun h => by cases h) hk0 hk1 hkk0 hkk1 (by simp [hprim]) h1 h2 h3
    (by rw [nn sp h1, nn n h3]; show ¬ _ > ((arrV c0 n0 (fun j => .int (w.1 k0 j))).slots.size : Int); rw [arrV_size]; omega)
    (by rw [nn dp h2, nn n h3]; show ¬ _ > ((arrV c0 n1 (fun j => .int (w.1 k1 j))).slots.size : Int); rw [arrV_size]; omega)
    (fun vm₁ _ i hi => by
      have e : (vp_cell c0 (n0, .inl (w.1 k0))).slots.getD (sp.toNatClampNeg + i) .null = .int (w.1 k0 (sp.toNatClampNeg + i)) := by
        show (arrV c0 n0 (fun j => .int (w.1 k0 j))).slots.getD _ _ = _
        rw [Array.getD_eq_getD_getElem?, arrV_read _ _ (by omega)]
        rfl
      refine ⟨?_, ?_⟩
      · rw [e]
        exact hfit i hi
      · rw [e]
        exact trivial)
    (g := F0 m pc ls (.int n :: .int dp :: .ref (g.2.1 + k1) :: .int sp :: .ref (g.2.1 + k0) :: rest)) rfl (by rw [F.2.2.1]; exact hl.1) (rest := rest) rfl (by rw [F.2.1]; exact hd) hframes (by show 2 * 0 + _ + _ ≤ _; omega)
  have e1 : copied (vp_cell c0 (n0, .inl (w.1 k0))) (vp_cell c0 (n1, .inl (w.1 k1))) sp dp n = vp_cell c0 (n1, .inl (va_cpy (w.1 k0) (w.1 k1) sp.toNatClampNeg dp.toNatClampNeg n.toNatClampNeg)) := va_copied (fun z => .int z) c0 c0 (w.1 k0) (w.1 k1) h4
  rw [e1] at X' step
  have hlt : g.2.1 + k1 < H.size := (Array.getElem?_eq_some_iff.mp hc1).1
  have hheap : ((T.setVm vm').setCell (g.2.1 + k1) (vp_cell c0 (n1, .inl (va_cpy (w.1 k0) (w.1 k1) sp.toNatClampNeg dp.toNatClampNeg n.toNatClampNeg)))).heap = H.setIfInBounds (g.2.1 + k1) (vp_cell c0 (n1, .inl (va_cpy (w.1 k0) (w.1 k1) sp.toNatClampNeg dp.toNatClampNeg n.toNatClampNeg))) := by rw [← hTh]; rfl
  have oq : ∀ q : Nat, q ≠ g.2.1 + k1 → (H.setIfInBounds (g.2.1 + k1) (vp_cell c0 (n1, .inl (va_cpy (w.1 k0) (w.1 k1) sp.toNatClampNeg dp.toNatClampNeg n.toNatClampNeg))))[q]? = H[q]? := fun q hq => by simp [Array.getElem?_setIfInBounds, Ne.symm hq]
  have hat : (H.setIfInBounds (g.2.1 + k1) (vp_cell c0 (n1, .inl (va_cpy (w.1 k0) (w.1 k1) sp.toNatClampNeg dp.toNatClampNeg n.toNatClampNeg))))[g.2.1 + k1]? = some (vp_cell c0 (n1, .inl (va_cpy (w.1 k0) (w.1 k1) sp.toNatClampNeg dp.toNatClampNeg n.toNatClampNeg))) := by simp [Array.getElem?_setIfInBounds, hlt]
  obtain ⟨t, a1, b1⟩ := kk r hr p e s m args below meth c F _ _ ls (RW.put hW hT1 (by
      have hat2 := hat.trans (congrArg some (congrArg (fun z => vp_cell c0 (n1, .inl z)) (wcpy_eq (w := w) (sk := k0) (sp := sp.toNatClampNeg) (dk := k1) (dp := dp.toNatClampNeg) (n := n.toNatClampNeg)).symm))
      rcases hkd with rfl | rfl
      · subst hc0e; exact hat2
      · subst hc0e; exact hat2) oq (fun k' hk' => wcpy_ne hk') (Or.inl rfl)) ⟨by simp; exact hS.1, fun q g1 g2 => by
      rw [oq q (fun e => g2 (e ▸ TTr_of hT1))]
      exact hS.2.1 q g1 g2, fun q hq => by
      rcases List.mem_append.mp hq with h | h
      · exact hS.2.2 q h
      · obtain ⟨z, -, hz⟩ := List.mem_map.mp h
        rw [← hz]
        exact Nat.le_add_right _ _⟩ hl _ hheap X'
  exact ⟨t, step t a1, b1⟩
/-! ends -/
theorem v_end_aux {v : Option Value} {o : Out} {w0 : XW} {s t : State} {args : Array Value} {H : Heap} {locs : List Loc} (ho : o = (.inl v, w0)) (hW : RW g w0 H) (hS : VS g s.heap H locs) (ht : t.heap = H) : QO g o args s (.returned v) t := by
  subst ho
  exact ⟨⟨v, rfl, rfl⟩, by rw [ht]; exact hW, hS.F ht⟩
theorem v_iret {v : Int32} {r0 : ρ} (hd : decode cc pc = .ok (.ireturn, 1)) (hr : rt = some .int) (ho : out r0 = (.inl (some (.int v)), w)) (h1 : kc ≤ mc) (h2 : ks ≤ ms) : VE g cc nL own rt hh R mc ms out kc ks pc lv [.int v] w (some r0) := by
  intro r hr0 p e s m args below meth c F H locs ls hW hS hl
  cases hr0
  refine vx_ret (W.widen h1 h2 ?_)
  exact W.iret F.1 F.2.1 (F.2.2.2.2.2.2.2.2.2.2.1.trans hr) (fun t ht _ => v_end_aux ho hW hS ht) hS.2.2 hd F.2.2.2.2.2.2.2.2.2.1
theorem v_zret {v : Int32} {ty : FieldType} {r0 : ρ} (hd : decode cc pc = .ok (.ireturn, 1)) (hr : rt = some ty) (hn : narrow ty (.int v) = .int v) (ho : out r0 = (.inl (some (.int v)), w)) (h1 : kc ≤ mc) (h2 : ks ≤ ms) : VE g cc nL own rt hh R mc ms out kc ks pc lv [.int v] w (some r0) := by
  intro r hr0 p e s m args below meth c F H locs ls hW hS hl
  cases hr0
  refine vx_ret (W.widen h1 h2 ?_)
  exact W.zret F.1 F.2.1 (F.2.2.2.2.2.2.2.2.2.2.1.trans hr) hn (fun t ht _ => v_end_aux ho hW hS ht) hS.2.2 hd F.2.2.2.2.2.2.2.2.2.1
theorem v_vret {r0 : ρ} (hd : decode cc pc = .ok (.return_, 1)) (hr : rt = none) (ho : out r0 = (.inl none, w)) (h1 : kc ≤ mc) (h2 : ks ≤ ms) : VE g cc nL own rt hh R mc ms out kc ks pc lv [] w (some r0) := by
  intro r hr0 p e s m args below meth c F H locs ls hW hS hl
  cases hr0
  refine vx_ret (W.widen h1 h2 ?_)
  exact W.vret F.1 F.2.1 (F.2.2.2.2.2.2.2.2.2.2.1.trans hr) (fun t ht _ => v_end_aux ho hW hS ht) hS.2.2 hd F.2.2.2.2.2.2.2.2.2.1
theorem v_aret {v : Value} {ty : FieldType} {r0 : ρ} (hd : decode cc pc = .ok (.areturn, 1)) (hr : rt = some ty) (hrt : (∃ n, ty = .object n) ∨ ∃ t, ty = .array t) (hv : v = .null ∨ ∃ a, v = .ref a) (ho : out r0 = (.inl (some v), w)) (h1 : kc ≤ mc) (h2 : ks ≤ ms) : VE g cc nL own rt hh R mc ms out kc ks pc lv [v] w (some r0) := by
  intro r hr0 p e s m args below meth c F H locs ls hW hS hl
  cases hr0
  refine vx_ret (W.widen h1 h2 ?_)
  exact W.aret F.1 F.2.1 (F.2.2.2.2.2.2.2.2.2.2.1.trans hr) hrt hv (fun t ht _ => v_end_aux ho hW hS ht) hS.2.2 hd F.2.2.2.2.2.2.2.2.2.1
theorem v_dret {v : UInt64} {r0 : ρ} (hd : decode cc pc = .ok (.dreturn, 1)) (hr : rt = some .double) (ho : out r0 = (.inl (some (.double v)), w)) (h1 : kc ≤ mc) (h2 : ks ≤ ms) : VE g cc nL own rt hh R mc ms out kc ks pc lv [.double v] w (some r0) := by
  intro r hr0 p e s m args below meth c F H locs ls hW hS hl
  cases hr0
  refine vx_ret (W.widen h1 h2 ?_)
  exact W.dret F.1 F.2.1 (F.2.2.2.2.2.2.2.2.2.2.1.trans hr) (fun t ht _ => v_end_aux ho hW hS ht) hS.2.2 hd F.2.2.2.2.2.2.2.2.2.1
theorem v_fret {v : UInt32} {r0 : ρ} (hd : decode cc pc = .ok (.freturn, 1)) (hr : rt = some .float) (ho : out r0 = (.inl (some (.float v)), w)) (h1 : kc ≤ mc) (h2 : ks ≤ ms) : VE g cc nL own rt hh R mc ms out kc ks pc lv [.float v] w (some r0) := by
  intro r hr0 p e s m args below meth c F H locs ls hW hS hl
  cases hr0
  refine vx_ret (W.widen h1 h2 ?_)
  exact W.fret F.1 F.2.1 (F.2.2.2.2.2.2.2.2.2.2.1.trans hr) (fun t ht _ => v_end_aux ho hW hS ht) hS.2.2 hd F.2.2.2.2.2.2.2.2.2.1
/-- throw new E() -/
theorem v_throw {cls : String} {names : List String} {ik ic : Nat} {r0 : ρ} (hh0 : hh = []) (hcls : Bundle.fit cls = true) (hnames : ∀ n ∈ names, Bundle.fit n = true) (hk : Cond.classLink own ik cls ∈ GW) (hini : Cond.initialized cls ∈ GW) (hat : ∀ w ∈ vx_at0 own ic cls names, w ∈ GW ∨ w ∈ NGW)
    (hgood : ∀ w ∈ Cond.classLink own ik cls :: Cond.initialized cls :: vx_at0 own ic cls names, vx_ot w = true)
    (d0 : decode cc pc = .ok (.new ik, 3)) (d3 : decode cc (pc + 3) = .ok (.dup, 1)) (d4 : decode cc (pc + 4) = .ok (.invokespecial ic, 3)) (d7 : decode cc (pc + 7) = .ok (.athrow, 1))
    (hRframes : names.length + 3 < R.frames) (hRlocals : (rest.map fun v => v.category).sum + (13 * (names.length + 1) + 42) ≤ R.locals) (hRcells : kc + 1 ≤ R.cells) (hRslots : ks + 6 ≤ R.slots) (ho : out r0 = (.inr cls, w)) (h1 : kc + 1 ≤ mc) (h2 : ks + 6 ≤ ms) :
    VE g cc nL own rt hh R mc ms out kc ks pc lv rest w (some r0) := by
  intro r hr0 p e s m args below meth c F H locs ls hW hS hl
  cases hr0
  have hts := F.2.2.2.2.1
  have htab : c.exceptionTable.toList = tableOf hh := F.2.2.2.2.2.2.2.2.2.2.2.2
  rw [hh0] at htab
  refine vx_throw0 (A := fun q => g.2.1 ≤ q) F.1 F.2.1 F.2.2.2.2.2.2.2.2.2.2.2.1 F.2.2.2.1 hcls hnames (hts _ hk) (hts _ hini) (fun z hz => (hat z hz).elim (hts _) (fun h9 => ng_moved (u := s) (U := s) (Vm.Alike.refl s.vm) h9 (F.2.2.2.2.2.2.2.2.1.1 z h9))) hgood F.2.2.2.2.2.2.2.1.1 F.2.2.2.2.2.2.2.1.2.1 hS.S (by rw [F.2.2.1]; exact hl.1) d0 d3 d4 d7 (fun x hx => by rw [htab] at hx; cases hx) hRframes hRlocals hRcells hRslots F.2.2.2.2.2.2.2.2.2.1 ?_ hS.2.2 h1 h2
  intro t _ hz hq
  rw [ho]
  refine ⟨rfl, hW.kept hq, Nat.le_trans hS.1 hz, fun q g1 g2 => ?_⟩
  rw [hq q (Nat.lt_of_lt_of_le g1 hS.1)]
  exact hS.2.1 q g1 g2
/-! calls -/
theorem v_pre {av : List Value} {s U : State} {H : Heap} {locs : List Loc} {p : Program} {m : MethodId} {args : Array Value} {meth : Method} {c : Code} (F : FX g cc nL own rt hh p s m args meth c) (hW : RW g w H) (hS : VS g s.heap H locs) (hU : U.heap = H) (hX : s.WarmedH U.vm) : PO g av w av.toArray U :=
  ⟨rfl, by rw [hU]; exact Nat.le_trans F.2.2.2.2.2.2.1 hS.1, by rw [hU]; exact hW, va_K.moved hX.alike F.2.2.2.2.2.1, by rw [hU]; exact SFs.moved hX.alike (F.2.2.2.2.2.2.2.1.kept hS.2.1), fun w hw => ng_moved hX.alike hw (F.2.2.2.2.2.2.2.2.1.1 w hw), fun i x hx => vk_R.warm hX (F.2.2.2.2.2.2.2.2.1.2.1 i x hx), fun x hx => va_Nc.moved hX.alike (F.2.2.2.2.2.2.2.2.1.2.2 x hx)⟩
theorem v_run_aux {p : Program} {e : Env} {s : State} {m : MethodId} {args : Array Value} {below : List Frame} {meth : Method} {c : Code} {H : Heap} {locs : List Loc} {ls : Array Slot} {mcy msy : Nat} {st0 : List Value} {a : Array Value} {o : Out} {Q : State → Prop}
    (hr : vx_Run p g.1 e R s m args below meth c H locs kc ks mcy msy (F0 m pc ls st0) rest (QO g o a) (XO g o) (fun q => g.2.1 ≤ q)) (hS : VS g s.heap H locs)
    (kk : ∀ v w', o = (.inl v, w') → ∀ (H1 : Heap) (locs1 : List Loc), RW g w' H1 → VS g s.heap H1 locs1 → W p g.1 e R s m args below meth c H1 locs1 (kc + mcy) (ks + msy) Q (F0 m (pc + 3) ls (v.toList ++ rest)))
    (kx : ∀ E0 w', o = (.inr E0, w') → ∀ (H1 : Heap) (locs1 : List Loc) (q : Addr) (ce : Cell), RW g w' H1 → VS g s.heap H1 locs1 → H1[q]? = some ce → ce.vm = .none → s.vm.findClass E0 = some ce.cls → vx_W p g.1 e R s m args below meth c H1 locs1 (kc + mcy) (ks + msy) Q (F0 m pc ls rest) q) :
    W p g.1 e R s m args below meth c H locs kc ks Q (F0 m pc ls st0) := by
  obtain ⟨o1, w1⟩ := o
  intro T hT X
  rcases hr T hT X with ⟨v, st₀, t, T', L, h0, X', hL, e1, e2, ⟨⟨v', hv1, hv2⟩, hRW, hF⟩, st⟩ | ⟨q, st₀, t, T', L, E0, ce, h0, X', hL, e1, e2, ⟨hx1, hRW, hF⟩, hce, hcv, hcl, st⟩
  · cases hv2
    have k3 := VS.keep h0 e1 hS hL hF
    dsimp only at hv1
    subst hv1
    obtain ⟨t2, a1, b1⟩ := kk v w1 rfl T'.heap (locs ++ L) (by rw [e1]; exact hRW) k3 T' rfl X'
    exact ⟨t2, st t2 a1, b1⟩
  · have k3 := VS.keep h0 e1 hS hL hF
    dsimp only at hx1
    subst hx1
    obtain ⟨t2, a1, b1⟩ := kx E0 w1 rfl T'.heap (locs ++ L) q ce (by rw [e1]; exact hRW) k3 (by rw [e1]; exact hce) hcv hcl T' rfl X'
    exact ⟨t2, st.trans a1, b1⟩
/-- what the tables say of a virtual call -/
def CV (own : String) (index : Nat) (y : MethodName) (cy : ByteArray) (nLy : Nat) (ry : Option FieldType) (n : Nat) : Prop := Cond.methodLink own index y ∈ GW ∧ Cond.instanceMethod y ∈ GW ∧ Cond.selects y.cls y y ∈ GW ∧ Cond.initialized y.cls ∈ GW ∧ Cond.code y cy nLy ry ∈ GW ∧ (y.cls ≠ "java/lang/invoke/MethodHandle" ∧ y.cls ≠ "java/lang/invoke/VarHandle") ∧ (parseMethodDescriptor y.desc).map (fun d => d.parameters.length) = some n
def CS (own : String) (index : Nat) (y : MethodName) (cy : ByteArray) (nLy : Nat) (ry : Option FieldType) (n : Nat) : Prop := Cond.methodLink own index y ∈ GW ∧ Cond.static y ∈ GW ∧ Cond.initialized y.cls ∈ GW ∧ Cond.code y cy nLy ry ∈ GW ∧ (y.cls ≠ "java/lang/invoke/MethodHandle" ∧ y.cls ≠ "java/lang/invoke/VarHandle") ∧ (parseMethodDescriptor y.desc).map (fun d => d.parameters.length) = some n
theorem GW_pay {s : State} {args : Array Value} {hd : Cond} (hhd : hd ∈ GW) (hts : ∀ w ∈ GW, w.before args s = true) : ∀ w ∈ hd :: GW, ∀ (a' : Array Value) (U : State), s.WarmedH U.vm → w.before a' U = true := by
  refine pay_in hts (fun w hw => ?_)
  have h : w ∈ GW := by
    rcases List.mem_cons.mp hw with e | e
    · rw [e]; exact hhd
    · exact e
  exact ⟨h, GW_good h⟩
theorem v_len {y : MethodName} {n : Nat} (h : (parseMethodDescriptor y.desc).map (fun d => d.parameters.length) = some n) : ∀ sig, parseMethodDescriptor y.desc = some sig → n = sig.parameters.length := by
  intro sig h2
  rw [h2] at h
  exact (Option.some.inj h).symm
/-- the room of a callee, and what it may make -/
abbrev CR (R : Room) (nLy mcy msy : Nat) (rm : Room) (kc ks : Nat) : Prop := (rm.cells = mcy ∧ rm.slots = msy ∧ rm.frames + 1 ≤ R.frames ∧ 8 + (nLy + 11) + rm.locals ≤ R.locals) ∧ kc + mcy ≤ R.cells ∧ ks + msy ≤ R.slots
theorem v_runV {index nLy n mcy msy k ci N : Nat} {y : MethodName} {cy : ByteArray} {ry : Option FieldType} {rm : Room} {As : List Value} {fs : List (Option Nat)} {T : u_T} {o : Out} {p : Program} {e : Env} {s : State} {m : MethodId} {args : Array Value} {below : List Frame} {meth : Method} {c : Code} {H : Heap} {locs : List Loc} {ls : Array Slot}
    (F : FX g cc nL own rt hh p s m args meth c) (hc : CV own index y cy nLy ry n) (hM : MM g (.code y cy nLy ry) y rm mcy msy (.ref (g.2.1 + k) :: As) w o) (hT : TT[k]? = some (0, ci, fs)) (hC : vwCl[ci]? = some (y.cls, T, N)) (hn : As.length = n) (hst : (rest.map fun v => v.category).sum ≤ 8)
    (hd : decode cc pc = .ok (.invokevirtual index, 3)) (hR : CR R nLy mcy msy rm kc ks) (hW : RW g w H) (hS : VS g s.heap H locs) (hl : ls.size = nL) :
    vx_Run p g.1 e R s m args below meth c H locs kc ks mcy msy (F0 m pc ls (As.reverse ++ .ref (g.2.1 + k) :: rest)) rest (QO g o (Value.ref (g.2.1 + k) :: As).toArray) (XO g o) (fun q => g.2.1 ≤ q) := by
  have hts := F.2.2.2.2.1
  obtain ⟨c1, c2, c3, c4, c5, c6, c7⟩ := hc
  exact vx_runV (Ts := GW) (nL := nL) (C := y.cls) (n := n) (bytes := cy) (maxL := nLy) (ret := ry) ⟨F.1, F.2.1, F.2.2.1, F.2.2.2.1, hts⟩ hM
    ⟨⟨hR.1.1, hR.1.2.1, hR.1.2.2.1, hR.1.2.2.2, GW_pay c5 hts, List.mem_cons_self, hts _ c5, hts _ c4, c6, v_len c7, hts _ c1⟩, hts _ c2, hts _ c3⟩
    ⟨PO_blind, va_recv (q0 := 0) F.2.2.2.2.2.1 (hW.one hT) hC rfl, fun U hU hX => v_pre F hW hS hU hX⟩ rfl hn hl rfl (by show 2 * 0 + _ ≤ 8; omega) hd hR.2
theorem v_runS {index nLy n mcy msy : Nat} {y : MethodName} {cy : ByteArray} {ry : Option FieldType} {rm : Room} {As : List Value} {o : Out} {p : Program} {e : Env} {s : State} {m : MethodId} {args : Array Value} {below : List Frame} {meth : Method} {c : Code} {H : Heap} {locs : List Loc} {ls : Array Slot}
    (F : FX g cc nL own rt hh p s m args meth c) (hc : CS own index y cy nLy ry n) (hM : MM g (.code y cy nLy ry) y rm mcy msy As w o) (hn : As.length = n) (hst : (rest.map fun v => v.category).sum ≤ 8)
    (hd : decode cc pc = .ok (.invokestatic index, 3)) (hR : CR R nLy mcy msy rm kc ks) (hW : RW g w H) (hS : VS g s.heap H locs) (hl : ls.size = nL) :
    vx_Run p g.1 e R s m args below meth c H locs kc ks mcy msy (F0 m pc ls (As.reverse ++ rest)) rest (QO g o As.toArray) (XO g o) (fun q => g.2.1 ≤ q) := by
  have hts := F.2.2.2.2.1
  obtain ⟨c1, c2, c4, c5, c6, c7⟩ := hc
  exact vx_runS (Ts := GW) (nL := nL) (n := n) (bytes := cy) (maxL := nLy) (ret := ry) ⟨F.1, F.2.1, F.2.2.1, F.2.2.2.1, hts⟩ hM
    ⟨⟨hR.1.1, hR.1.2.1, hR.1.2.2.1, hR.1.2.2.2, GW_pay c5 hts, List.mem_cons_self, hts _ c5, hts _ c4, c6, v_len c7, hts _ c1⟩, hts _ c2⟩
    ⟨PO_blind, fun U hU hX => v_pre F hW hS hU hX⟩ rfl hn hl rfl (by show 2 * 0 + _ ≤ 8; omega) hd hR.2
/-- a virtual call whose callee is F: it returns v in the store w', or throws -/
theorem v_callV {ρF : Type} {Fy : Option ρF} {outF : ρF → Out} {K : ρF → Option ρ} {index nLy n mcy msy k ci N : Nat} {y : MethodName} {cy : ByteArray} {ry : Option FieldType} {rm : Room} {As st : List Value} {fs : List (Option Nat)} {T : u_T}
    (hc : CV own index y cy nLy ry n) (hM : ∀ q, Fy = some q → MM g (.code y cy nLy ry) y rm mcy msy (.ref (g.2.1 + k) :: As) w (outF q)) (hT : TT[k]? = some (0, ci, fs)) (hC : vwCl[ci]? = some (y.cls, T, N)) (hn : As.length = n) (hs : st = As.reverse ++ .ref (g.2.1 + k) :: rest) (hst : (rest.map fun v => v.category).sum ≤ 8)
    (hd : decode cc pc = .ok (.invokevirtual index, 3)) (hR : CR R nLy mcy msy rm kc ks)
    (kk : ∀ q v w', outF q = (.inl v, w') → VE g cc nL own rt hh R mc ms out (kc + mcy) (ks + msy) (pc + 3) lv (v.toList ++ rest) w' (K q))
    (kx : ∀ q E0 w', outF q = (.inr E0, w') → VX g cc nL own rt hh R mc ms out (kc + mcy) (ks + msy) pc lv E0 w' (K q)) :
    VE g cc nL own rt hh R mc ms out kc ks pc lv st w (Fy.bind K) := by
  intro r hr p e s m args below meth c F H locs ls hW hS hl
  cases hF : Fy with
  | none => rw [hF] at hr; cases hr
  | some q =>
    rw [hF] at hr
    have hr' : K q = some r := hr
    subst hs
    exact v_run_aux (v_runV F hc (hM q hF) hT hC hn hst hd hR hW hS hl.1) hS
      (fun v w' ho H1 locs1 hW1 hS1 => kk q v w' ho r hr' p e s m args below meth c F H1 locs1 ls hW1 hS1 hl)
      (fun E0 w' ho H1 locs1 a ce hW1 hS1 h1 h2 h3 => kx q E0 w' ho r hr' p e s m args below meth c F H1 locs1 ls rest a ce hW1 hS1 hl h1 h2 h3)
theorem v_callS {ρF : Type} {Fy : Option ρF} {outF : ρF → Out} {K : ρF → Option ρ} {index nLy n mcy msy : Nat} {y : MethodName} {cy : ByteArray} {ry : Option FieldType} {rm : Room} {As st : List Value}
    (hc : CS own index y cy nLy ry n) (hM : ∀ q, Fy = some q → MM g (.code y cy nLy ry) y rm mcy msy As w (outF q)) (hn : As.length = n) (hs : st = As.reverse ++ rest) (hst : (rest.map fun v => v.category).sum ≤ 8)
    (hd : decode cc pc = .ok (.invokestatic index, 3)) (hR : CR R nLy mcy msy rm kc ks)
    (kk : ∀ q v w', outF q = (.inl v, w') → VE g cc nL own rt hh R mc ms out (kc + mcy) (ks + msy) (pc + 3) lv (v.toList ++ rest) w' (K q))
    (kx : ∀ q E0 w', outF q = (.inr E0, w') → VX g cc nL own rt hh R mc ms out (kc + mcy) (ks + msy) pc lv E0 w' (K q)) :
    VE g cc nL own rt hh R mc ms out kc ks pc lv st w (Fy.bind K) := by
  intro r hr p e s m args below meth c F H locs ls hW hS hl
  cases hF : Fy with
  | none => rw [hF] at hr; cases hr
  | some q =>
    rw [hF] at hr
    have hr' : K q = some r := hr
    subst hs
    exact v_run_aux (v_runS F hc (hM q hF) hn hst hd hR hW hS hl.1) hS
      (fun v w' ho H1 locs1 hW1 hS1 => kk q v w' ho r hr' p e s m args below meth c F H1 locs1 ls hW1 hS1 hl)
      (fun E0 w' ho H1 locs1 a ce hW1 hS1 h1 h2 h3 => kx q E0 w' ho r hr' p e s m args below meth c F H1 locs1 ls rest a ce hW1 hS1 hl h1 h2 h3)
/-- not caught here -/
theorem v_out {E0 : String} {r0 : ρ} (hh0 : hh = []) (ho : out r0 = (.inr E0, w)) (h1 : kc ≤ mc) (h2 : ks ≤ ms) : VX g cc nL own rt hh R mc ms out kc ks pc lv E0 w (some r0) := by
  intro r hr0 p e s m args below meth c F H locs ls rest q ce hW hS hl hce hcv hcl
  cases hr0
  have htab : c.exceptionTable.toList = tableOf hh := F.2.2.2.2.2.2.2.2.2.2.2.2
  rw [hh0] at htab
  refine vx_out (fun x hx => by rw [htab] at hx; cases hx) F.2.2.2.2.2.2.2.2.2.1 hce hcv hcl (fun t ht _ => ?_) hS.2.2 h1 h2
  rw [ho]
  exact ⟨rfl, by rw [ht]; exact hW, hS.F ht⟩
/-! the kinds of outcome: an int, nothing, a reference or null, each perhaps an exception -/
abbrev oI (q : Int32 × XW) : Out := (.inl (some (.int q.1)), q.2)
abbrev oV (q : XW) : Out := (.inl none, q)
abbrev oD (q : UInt64 × XW) : Out := (.inl (some (.double q.1)), q.2)
abbrev oF (q : UInt32 × XW) : Out := (.inl (some (.float q.1)), q.2)
abbrev oQ (g : GC) (q : Option Nat × XW) : Out := (.inl (some (match q.1 with | none => .null | some t => .ref (g.2.1 + t))), q.2)
/-- a String constant, by its place in strTab -/
abbrev oS (g : GC) (q : Nat × XW) : Out := (.inl (some (.ref (g.2.2.2.2.1 q.1))), q.2)
abbrev oIX (q : (Int32 × XW) ⊕ (String × XW)) : Out := match q with | .inl q => oI q | .inr x => (.inr x.1, x.2)
abbrev oVX (q : XW ⊕ (String × XW)) : Out := match q with | .inl q => oV q | .inr x => (.inr x.1, x.2)
abbrev oDX (q : (UInt64 × XW) ⊕ (String × XW)) : Out := match q with | .inl q => oD q | .inr x => (.inr x.1, x.2)
abbrev oFX (q : (UInt32 × XW) ⊕ (String × XW)) : Out := match q with | .inl q => oF q | .inr x => (.inr x.1, x.2)
/-! go on behind a call -/
def bI {ρ : Type} (F : Option (Int32 × XW)) (K : Int32 → XW → Option ρ) : Option ρ := F.bind fun q => K q.1 q.2
def bD {ρ : Type} (F : Option (UInt64 × XW)) (K : UInt64 → XW → Option ρ) : Option ρ := F.bind fun q => K q.1 q.2
def bF {ρ : Type} (F : Option (UInt32 × XW)) (K : UInt32 → XW → Option ρ) : Option ρ := F.bind fun q => K q.1 q.2
def bV {ρ : Type} (F : Option XW) (K : XW → Option ρ) : Option ρ := F.bind fun q => K q
def bQ {ρ : Type} (F : Option (Option Nat × XW)) (K0 : XW → Option ρ) (K1 : Nat → XW → Option ρ) : Option ρ := F.bind fun q => match q.1 with | none => K0 q.2 | some t => K1 t q.2
def bS {ρ : Type} (F : Option (Nat × XW)) (K : Nat → XW → Option ρ) : Option ρ := F.bind fun q => K q.1 q.2
def bIX {β : Type} (F : Option ((Int32 × XW) ⊕ (String × XW))) (K : Int32 → XW → Option (β ⊕ (String × XW))) : Option (β ⊕ (String × XW)) := F.bind fun q => match q with | .inl a => K a.1 a.2 | .inr x => some (.inr x)
def bVX {β : Type} (F : Option (XW ⊕ (String × XW))) (K : XW → Option (β ⊕ (String × XW))) : Option (β ⊕ (String × XW)) := F.bind fun q => match q with | .inl a => K a | .inr x => some (.inr x)
/-- a guard, an index in its row -/
abbrev inB (i : Int32) (n : Nat) : Prop := ¬ (i < 0 ∨ n ≤ i.toNatClampNeg)
abbrev fitsZ (w : XW) (k n : Nat) : Prop := ∀ i, i < n → fits .boolean (.int (w.1 k ((0 : Int32).toNatClampNeg + i))) = true
section CALLS
variable {index nLy n mcy msy k ci N : Nat} {y : MethodName} {cy : ByteArray} {ry : Option FieldType} {rm : Room} {As st : List Value} {fs : List (Option Nat)} {T : u_T}
theorem v_callVi {Fy : Option (Int32 × XW)} {K : Int32 → XW → Option ρ} (hc : CV own index y cy nLy ry n) (hM : ∀ q, Fy = some q → MM g (.code y cy nLy ry) y rm mcy msy (.ref (g.2.1 + k) :: As) w (oI q)) (hT : TT[k]? = some (0, ci, fs)) (hC : vwCl[ci]? = some (y.cls, T, N)) (hn : As.length = n) (hs : st = As.reverse ++ .ref (g.2.1 + k) :: rest) (hst : (rest.map fun v => v.category).sum ≤ 8) (hd : decode cc pc = .ok (.invokevirtual index, 3)) (hR : CR R nLy mcy msy rm kc ks)
    (kk : ∀ x w', VE g cc nL own rt hh R mc ms out (kc + mcy) (ks + msy) (pc + 3) lv (.int x :: rest) w' (K x w')) : VE g cc nL own rt hh R mc ms out kc ks pc lv st w (bI Fy K) :=
  v_callV hc hM hT hC hn hs hst hd hR (fun q v w' h => by cases h; exact kk q.1 q.2) (fun q E0 w' h => by cases h)
theorem v_callVv {Fy : Option XW} {K : XW → Option ρ} (hc : CV own index y cy nLy ry n) (hM : ∀ q, Fy = some q → MM g (.code y cy nLy ry) y rm mcy msy (.ref (g.2.1 + k) :: As) w (oV q)) (hT : TT[k]? = some (0, ci, fs)) (hC : vwCl[ci]? = some (y.cls, T, N)) (hn : As.length = n) (hs : st = As.reverse ++ .ref (g.2.1 + k) :: rest) (hst : (rest.map fun v => v.category).sum ≤ 8) (hd : decode cc pc = .ok (.invokevirtual index, 3)) (hR : CR R nLy mcy msy rm kc ks)
    (kk : ∀ w', VE g cc nL own rt hh R mc ms out (kc + mcy) (ks + msy) (pc + 3) lv rest w' (K w')) : VE g cc nL own rt hh R mc ms out kc ks pc lv st w (bV Fy K) :=
  v_callV hc hM hT hC hn hs hst hd hR (fun q v w' h => by cases h; exact kk q) (fun q E0 w' h => by cases h)
theorem v_callVq {Fy : Option (Option Nat × XW)} {K0 : XW → Option ρ} {K1 : Nat → XW → Option ρ} (hc : CV own index y cy nLy ry n) (hM : ∀ q, Fy = some q → MM g (.code y cy nLy ry) y rm mcy msy (.ref (g.2.1 + k) :: As) w (oQ g q)) (hT : TT[k]? = some (0, ci, fs)) (hC : vwCl[ci]? = some (y.cls, T, N)) (hn : As.length = n) (hs : st = As.reverse ++ .ref (g.2.1 + k) :: rest) (hst : (rest.map fun v => v.category).sum ≤ 8) (hd : decode cc pc = .ok (.invokevirtual index, 3)) (hR : CR R nLy mcy msy rm kc ks)
    (k0 : ∀ w', VE g cc nL own rt hh R mc ms out (kc + mcy) (ks + msy) (pc + 3) lv (.null :: rest) w' (K0 w')) (k1 : ∀ t w', VE g cc nL own rt hh R mc ms out (kc + mcy) (ks + msy) (pc + 3) lv (.ref (g.2.1 + t) :: rest) w' (K1 t w')) : VE g cc nL own rt hh R mc ms out kc ks pc lv st w (bQ Fy K0 K1) :=
  v_callV hc hM hT hC hn hs hst hd hR (fun q v w' h => by
    obtain ⟨q1, q2⟩ := q
    cases q1 with
    | none => cases h; exact k0 q2
    | some t => cases h; exact k1 t q2) (fun q E0 w' h => by cases h)
theorem v_callVix {β : Type} {out : (β ⊕ (String × XW)) → Out} {Fy : Option ((Int32 × XW) ⊕ (String × XW))} {K : Int32 → XW → Option (β ⊕ (String × XW))} (hh0 : hh = []) (hox : ∀ x, out (.inr x) = (.inr x.1, x.2)) (h1 : kc + mcy ≤ mc) (h2 : ks + msy ≤ ms) (hc : CV own index y cy nLy ry n) (hM : ∀ q, Fy = some q → MM g (.code y cy nLy ry) y rm mcy msy (.ref (g.2.1 + k) :: As) w (oIX q)) (hT : TT[k]? = some (0, ci, fs)) (hC : vwCl[ci]? = some (y.cls, T, N)) (hn : As.length = n) (hs : st = As.reverse ++ .ref (g.2.1 + k) :: rest) (hst : (rest.map fun v => v.category).sum ≤ 8) (hd : decode cc pc = .ok (.invokevirtual index, 3)) (hR : CR R nLy mcy msy rm kc ks)
    (kk : ∀ x w', VE g cc nL own rt hh R mc ms out (kc + mcy) (ks + msy) (pc + 3) lv (.int x :: rest) w' (K x w')) : VE g cc nL own rt hh R mc ms out kc ks pc lv st w (bIX Fy K) :=
  v_callV hc hM hT hC hn hs hst hd hR (fun q v w' h => by
    cases q with
    | inl q => cases h; exact kk q.1 q.2
    | inr x => cases h) (fun q E0 w' h => by
    cases q with
    | inl q => cases h
    | inr x => cases h; exact v_out hh0 (hox x) h1 h2)
theorem v_callVvx {β : Type} {out : (β ⊕ (String × XW)) → Out} {Fy : Option (XW ⊕ (String × XW))} {K : XW → Option (β ⊕ (String × XW))} (hh0 : hh = []) (hox : ∀ x, out (.inr x) = (.inr x.1, x.2)) (h1 : kc + mcy ≤ mc) (h2 : ks + msy ≤ ms) (hc : CV own index y cy nLy ry n) (hM : ∀ q, Fy = some q → MM g (.code y cy nLy ry) y rm mcy msy (.ref (g.2.1 + k) :: As) w (oVX q)) (hT : TT[k]? = some (0, ci, fs)) (hC : vwCl[ci]? = some (y.cls, T, N)) (hn : As.length = n) (hs : st = As.reverse ++ .ref (g.2.1 + k) :: rest) (hst : (rest.map fun v => v.category).sum ≤ 8) (hd : decode cc pc = .ok (.invokevirtual index, 3)) (hR : CR R nLy mcy msy rm kc ks)
    (kk : ∀ w', VE g cc nL own rt hh R mc ms out (kc + mcy) (ks + msy) (pc + 3) lv rest w' (K w')) : VE g cc nL own rt hh R mc ms out kc ks pc lv st w (bVX Fy K) :=
  v_callV hc hM hT hC hn hs hst hd hR (fun q v w' h => by
    cases q with
    | inl q => cases h; exact kk _
    | inr x => cases h) (fun q E0 w' h => by
    cases q with
    | inl q => cases h
    | inr x => cases h; exact v_out hh0 (hox x) h1 h2)
theorem v_callSi {Fy : Option (Int32 × XW)} {K : Int32 → XW → Option ρ} (hc : CS own index y cy nLy ry n) (hM : ∀ q, Fy = some q → MM g (.code y cy nLy ry) y rm mcy msy As w (oI q)) (hn : As.length = n) (hs : st = As.reverse ++ rest) (hst : (rest.map fun v => v.category).sum ≤ 8) (hd : decode cc pc = .ok (.invokestatic index, 3)) (hR : CR R nLy mcy msy rm kc ks)
    (kk : ∀ x w', VE g cc nL own rt hh R mc ms out (kc + mcy) (ks + msy) (pc + 3) lv (.int x :: rest) w' (K x w')) : VE g cc nL own rt hh R mc ms out kc ks pc lv st w (bI Fy K) :=
  v_callS hc hM hn hs hst hd hR (fun q v w' h => by cases h; exact kk q.1 q.2) (fun q E0 w' h => by cases h)
theorem v_callSv {Fy : Option XW} {K : XW → Option ρ} (hc : CS own index y cy nLy ry n) (hM : ∀ q, Fy = some q → MM g (.code y cy nLy ry) y rm mcy msy As w (oV q)) (hn : As.length = n) (hs : st = As.reverse ++ rest) (hst : (rest.map fun v => v.category).sum ≤ 8) (hd : decode cc pc = .ok (.invokestatic index, 3)) (hR : CR R nLy mcy msy rm kc ks)
    (kk : ∀ w', VE g cc nL own rt hh R mc ms out (kc + mcy) (ks + msy) (pc + 3) lv rest w' (K w')) : VE g cc nL own rt hh R mc ms out kc ks pc lv st w (bV Fy K) :=
  v_callS hc hM hn hs hst hd hR (fun q v w' h => by cases h; exact kk q) (fun q E0 w' h => by cases h)
theorem v_callSs {Fy : Option (Nat × XW)} {K : Nat → XW → Option ρ} (hc : CS own index y cy nLy ry n) (hM : ∀ q, Fy = some q → MM g (.code y cy nLy ry) y rm mcy msy As w (oS g q)) (hn : As.length = n) (hs : st = As.reverse ++ rest) (hst : (rest.map fun v => v.category).sum ≤ 8) (hd : decode cc pc = .ok (.invokestatic index, 3)) (hR : CR R nLy mcy msy rm kc ks)
    (kk : ∀ x w', VE g cc nL own rt hh R mc ms out (kc + mcy) (ks + msy) (pc + 3) lv (.ref (g.2.2.2.2.1 x) :: rest) w' (K x w')) : VE g cc nL own rt hh R mc ms out kc ks pc lv st w (bS Fy K) :=
  v_callS hc hM hn hs hst hd hR (fun q v w' h => by cases h; exact kk q.1 q.2) (fun q E0 w' h => by cases h)
end CALLS
/-! constants, Strings, the script, the law's long and double -/
theorem v_ldc {index : Nat} {v : Int32} (hw : Cond.constant own index v ∈ GW) (hd : decode cc pc = .ok (.ldc index, 2)) (k : VE g cc nL own rt hh R mc ms out kc ks (pc + 2) lv (.int v :: rest) w E) : VE g cc nL own rt hh R mc ms out kc ks pc lv rest w E :=
  fun r hr p e s m args below meth c F H locs ls hW hS hl => lv_ldc F.1 F.2.1 F.2.2.2.1 (F.2.2.2.2.1 _ hw) hd (k r hr p e s m args below meth c F H locs ls hW hS hl)
theorem v_ldcw {index : Nat} {v : Int32} (hw : Cond.constant own index v ∈ GW) (hd : decode cc pc = .ok (.ldc_w index, 3)) (k : VE g cc nL own rt hh R mc ms out kc ks (pc + 3) lv (.int v :: rest) w E) : VE g cc nL own rt hh R mc ms out kc ks pc lv rest w E :=
  fun r hr p e s m args below meth c F H locs ls hW hS hl => lv_ldcw F.1 F.2.1 F.2.2.2.1 (F.2.2.2.2.1 _ hw) hd (k r hr p e s m args below meth c F H locs ls hW hS hl)
theorem v_ldcS {index i : Nat} {tx : String} {bs : List Int32} (hi : strTab[i]? = some (own, index, tx, bs)) (hd : decode cc pc = .ok (.ldc index, 2)) (k : VE g cc nL own rt hh R mc ms out kc ks (pc + 2) lv (.ref (g.2.2.2.2.1 i) :: rest) w E) : VE g cc nL own rt hh R mc ms out kc ks pc lv rest w E :=
  fun r hr p e s m args below meth c F H locs ls hW hS hl => va_ldcS F.1 F.2.1 F.2.2.2.1 (F.2.2.2.2.2.2.2.2.1.2.1 i _ hi) hd (k r hr p e s m args below meth c F H locs ls hW hS hl)
theorem v_ldcSw {index i : Nat} {tx : String} {bs : List Int32} (hi : strTab[i]? = some (own, index, tx, bs)) (hd : decode cc pc = .ok (.ldc_w index, 3)) (k : VE g cc nL own rt hh R mc ms out kc ks (pc + 3) lv (.ref (g.2.2.2.2.1 i) :: rest) w E) : VE g cc nL own rt hh R mc ms out kc ks pc lv rest w E := by
  intro r hr p e s m args below meth c F H locs ls hW hS hl T hT X
  obtain ⟨t, a1, b1⟩ := k r hr p e s m args below meth c F H locs ls hW hS hl T hT X
  have hz := F.2.2.2.2.2.2.2.2.1.2.1 i _ hi
  have hz0 : (Cond.stringRef own index tx).before args s = true := hz.1
  exact ⟨t, X.ldcStringW F.1 F.2.2.2.1 (text := tx) (a := g.2.2.2.2.1 i) hz.1 hz.2 (g := F0 m pc ls rest) rfl (by rw [F.2.1]; exact hd) t a1, b1⟩
theorem v_iushr {x y : Int32} (hd : decode cc pc = .ok (.iushr, 1)) (k : VE g cc nL own rt hh R mc ms out kc ks (pc + 1) lv (.int (x.toUInt32 >>> (y.toUInt32 &&& Int32.toUInt32 31)).toInt32 :: rest) w E) : VE g cc nL own rt hh R mc ms out kc ks pc lv (.int y :: .int x :: rest) w E :=
  fun r hr p e s m args below meth c F H locs ls hW hS hl => lv_iushr F.1 F.2.1 hd rfl (k r hr p e s m args below meth c F H locs ls hW hS hl)
theorem v_sld {i : Int32} (hin : vp_in i g.2.2.2.2.2.2.2.1) (hd : decode cc pc = .ok (.iaload, 1)) (k : VE g cc nL own rt hh R mc ms out kc ks (pc + 1) lv (.int (g.2.2.2.2.2.2.2.2.1 i.toNatClampNeg) :: rest) w E) : VE g cc nL own rt hh R mc ms out kc ks pc lv (.int i :: .ref g.2.2.2.2.2.2.1 :: rest) w E :=
  fun r hr p e s m args below meth c F H locs ls hW hS hl => va_ti F.1 F.2.1 F.2.2.2.2.2.2.2.1.2.2.2.1 hS.S hin rfl hd (k r hr p e s m args below meth c F H locs ls hW hS hl)
theorem v_slen (hd : decode cc pc = .ok (.arraylength, 1)) (k : VE g cc nL own rt hh R mc ms out kc ks (pc + 1) lv (.int (Int32.ofNat g.2.2.2.2.2.2.2.1) :: rest) w E) : VE g cc nL own rt hh R mc ms out kc ks pc lv (.ref g.2.2.2.2.2.2.1 :: rest) w E :=
  fun r hr p e s m args below meth c F H locs ls hW hS hl => va_tlen F.1 F.2.1 F.2.2.2.2.2.2.2.1.2.2.2.1 hS.S rfl hd (k r hr p e s m args below meth c F H locs ls hW hS hl)
theorem TT_4 : ∀ k q, TT[k]? = some q → k ≠ 141 → q.1 ≠ 4 := by
  have h : ∀ k, k < 142 → ∀ q ∈ TT[k]?, k ≠ 141 → q.1 ≠ 4 := by decide +kernel
  intro k q hk
  have hl : k < TT.length := (List.getElem?_eq_some_iff.mp hk).1
  exact h k (by have : TT.length = 142 := by decide +kernel
                omega) q hk
theorem TT_141 : TT[141]? = some (4, 70, []) := by decide +kernel
/-- the law's row of long numbers -/
def lset (w : XW) (j : Nat) (v : Int64) : XW := (w.1, fun c => if c = j then v else w.2 c)
theorem v_lastG {n : Nat} {i : Int32} {x : Int64} (hT : TT[141]? = some (4, n, [])) (hin : vp_in i n) (hd : decode cc pc = .ok (.lastore, 1)) (kk : VE g cc nL own rt hh R mc ms out kc ks (pc + 1) lv rest (lset w i.toNatClampNeg x) E) : VE g cc nL own rt hh R mc ms out kc ks pc lv (.long x :: .int i :: .ref (g.2.1 + 141) :: rest) w E := by
  intro r hr p e s m args below meth c F H locs ls hW hS hl
  have h1 := hW 141 _ hT
  have h2 := (F.2.2.2.2.2.1.2 3 _ rfl).1 n (fun j => .long (w.2 j))
  refine W.last F.1 F.2.1 h1 h2 (fun q => by cases q) (by show ¬ (i < 0 ∨ (arrV _ _ _).slots.size ≤ _); rw [arrV_size]; exact hin) rfl rfl hd fun H1 e1 z oq => ?_
  refine kk r hr p e s m args below meth c F H1 _ ls (RW.put hW hT ?_ oq (fun _ _ => rfl) (Or.inr fun k' q' hk' hq' => ?_)) (hS.put hT z oq) hl
  · show H1[_]? = some (vp_cell _ _)
    rw [e1, vp_cell_l, vp_cell_l, arrV_store]
    have ef : updV (fun j => Value.long (w.2 j)) i.toNatClampNeg (.long x) = fun j => Value.long ((lset w i.toNatClampNeg x).2 j) := by
      funext q
      unfold lset
      by_cases hq : q = i.toNatClampNeg
      · simp [updV, hq]
      · simp [updV, hq]
    rw [ef]
  · have q1 := TT_4 k' q' hq' hk'
    obtain ⟨a1, a2⟩ := q'
    unfold layE
    match a1, q1 with
    | 0, _ => rfl
    | 1, _ => rfl
    | 2, _ => rfl
    | 3, _ => rfl
    | 4, h => exact absurd rfl h
    | 5, _ => rfl
    | n + 6, _ => rfl
theorem v_last {i : Int32} {x : Int64} (hin : vp_in i 70) (hd : decode cc pc = .ok (.lastore, 1)) (kk : VE g cc nL own rt hh R mc ms out kc ks (pc + 1) lv rest (lset w i.toNatClampNeg x) E) : VE g cc nL own rt hh R mc ms out kc ks pc lv (.long x :: .int i :: .ref (g.2.1 + 141) :: rest) w E := v_lastG TT_141 hin hd kk
theorem v_lald {i : Int32} (hin : vp_in i 70) (hd : decode cc pc = .ok (.laload, 1)) (k : VE g cc nL own rt hh R mc ms out kc ks (pc + 1) lv (.long (w.2 i.toNatClampNeg) :: rest) w E) : VE g cc nL own rt hh R mc ms out kc ks pc lv (.int i :: .ref (g.2.1 + 141) :: rest) w E :=
  fun r hr p e s m args below meth c F H locs ls hW hS hl => va_lald (D := g.2.2.2.1) (cl := vwCl) (tys := tysL g) (f := w.2) F.1 F.2.1 F.2.2.2.2.2.1 (hW.one TT_141) 0 3 rfl rfl hin hd (k r hr p e s m args below meth c F H locs ls hW hS hl)
theorem v_lret {v : Int64} {r0 : ρ} (hd : decode cc pc = .ok (.lreturn, 1)) (hr : rt = some .long) (ho : out r0 = (.inl (some (.long v)), w)) (h1 : kc ≤ mc) (h2 : ks ≤ ms) : VE g cc nL own rt hh R mc ms out kc ks pc lv [.long v] w (some r0) := by
  intro r hr0 p e s m args below meth c F H locs ls hW hS hl
  cases hr0
  refine vx_ret (W.widen h1 h2 ?_)
  exact W.lret F.1 F.2.1 (F.2.2.2.2.2.2.2.2.2.2.1.trans hr) (fun t ht _ => v_end_aux ho hW hS ht) hS.2.2 hd F.2.2.2.2.2.2.2.2.2.1
theorem v_ldc2 {index : Nat} {v : Int64} (hw : Cond.constantLong own index v ∈ GW) (hd : decode cc pc = .ok (.ldc2_w index, 3)) (k : VE g cc nL own rt hh R mc ms out kc ks (pc + 3) lv (.long v :: rest) w E) : VE g cc nL own rt hh R mc ms out kc ks pc lv rest w E :=
  fun r hr p e s m args below meth c F H locs ls hW hS hl => lv_ldc2 F.1 F.2.1 F.2.2.2.1 (F.2.2.2.2.1 _ hw) hd (k r hr p e s m args below meth c F H locs ls hW hS hl)
theorem v_ldc2d {index : Nat} {v : UInt64} (hw : Cond.constantDouble own index v ∈ GW) (hd : decode cc pc = .ok (.ldc2_w index, 3)) (k : VE g cc nL own rt hh R mc ms out kc ks (pc + 3) lv (.double v :: rest) w E) : VE g cc nL own rt hh R mc ms out kc ks pc lv rest w E :=
  fun r hr p e s m args below meth c F H locs ls hW hS hl => lv_ldc2d F.1 F.2.1 F.2.2.2.1 (F.2.2.2.2.1 _ hw) hd (k r hr p e s m args below meth c F H locs ls hW hS hl)
theorem v_ldcf {index : Nat} {v : UInt32} (hw : Cond.constantFloat own index v ∈ GW) (hd : decode cc pc = .ok (.ldc index, 2)) (k : VE g cc nL own rt hh R mc ms out kc ks (pc + 2) lv (.float v :: rest) w E) : VE g cc nL own rt hh R mc ms out kc ks pc lv rest w E :=
  fun r hr p e s m args below meth c F H locs ls hW hS hl => lv_ldcf F.1 F.2.1 F.2.2.2.1 (F.2.2.2.2.1 _ hw) hd (k r hr p e s m args below meth c F H locs ls hW hS hl)
/-! Math.min, Math.max -/
theorem v_min {index : Nat} {x y : Int32} (h1 : Cond.methodLink own index Lib.Math.min.name ∈ GW) (h2 : Cond.static Lib.Math.min.name ∈ GW) (h3 : Cond.initialized "java/lang/Math" ∈ GW) (h4 : Cond.code Lib.Math.min.name Lib.Math.min.code 2 (some .int) ∈ GW) (hd : decode cc pc = .ok (.invokestatic index, 3)) (hf : 1 ≤ R.frames) (hlo : (rest.map fun v => v.category).sum + 13 ≤ R.locals) (hkc : kc ≤ R.cells) (hks : ks ≤ R.slots)
    (k : VE g cc nL own rt hh R mc ms out kc ks (pc + 3) lv (.int (if y < x then y else x) :: rest) w E) : VE g cc nL own rt hh R mc ms out kc ks pc lv (.int y :: .int x :: rest) w E :=
  fun r hr p e s m args below meth c F H locs ls hW hS hl => va_mmin F.1 F.2.1 (by rw [F.2.2.1]; exact hl.1.symm) F.2.2.2.1 (F.2.2.2.2.1 _ h1) (F.2.2.2.2.1 _ h2) (F.2.2.2.2.1 _ h3) (F.2.2.2.2.1 _ h4) hf hlo hkc hks hd (k r hr p e s m args below meth c F H locs ls hW hS hl)
theorem v_max {index : Nat} {x y : Int32} (h1 : Cond.methodLink own index Lib.Math.max.name ∈ GW) (h2 : Cond.static Lib.Math.max.name ∈ GW) (h3 : Cond.initialized "java/lang/Math" ∈ GW) (h4 : Cond.code Lib.Math.max.name Lib.Math.max.code 2 (some .int) ∈ GW) (hd : decode cc pc = .ok (.invokestatic index, 3)) (hf : 1 ≤ R.frames) (hlo : (rest.map fun v => v.category).sum + 13 ≤ R.locals) (hkc : kc ≤ R.cells) (hks : ks ≤ R.slots)
    (k : VE g cc nL own rt hh R mc ms out kc ks (pc + 3) lv (.int (if x < y then y else x) :: rest) w E) : VE g cc nL own rt hh R mc ms out kc ks pc lv (.int y :: .int x :: rest) w E :=
  fun r hr p e s m args below meth c F H locs ls hW hS hl => va_mmax F.1 F.2.1 (by rw [F.2.2.1]; exact hl.1.symm) F.2.2.2.1 (F.2.2.2.2.1 _ h1) (F.2.2.2.2.1 _ h2) (F.2.2.2.2.1 _ h3) (F.2.2.2.2.1 _ h4) hf hlo hkc hks hd (k r hr p e s m args below meth c F H locs ls hW hS hl)
/-! a method's contract out of its walk -/
theorem MM_of {y : MethodName} {av : List Value} {o : Out} (hl : g.1.stackTraces = false) (hy : plainName y.cls = true) (hcode : Cond.code y cc nL rt ∈ GW) (ho : y.cls = own) (hav : (lg_sl av).length ≤ nL)
    (body : VB g cc nL own rt [] R mc ms o 0 0 0 (lv_args 0 av) [] w) (hR : R.cells = mc ∧ R.slots = ms) : MM g (.code y cc nL rt) y R mc ms av w o := by
  refine vx_ofW (cc := cc) (maxL := nL) (ret := rt) hy rfl ?_
  intro p e s m args below meth c s₁ B hml htab hP
  obtain ⟨rfl, hb, hW, hK, hSF, hSTR⟩ := hP
  have hts := atoms_spec (ws := .code y cc nL rt :: GW) B.pre
  have hown : s.vm.findClass own = some m.cls := ho ▸ findClass_of_methodNamed B.named
  have F : FX g cc nL own rt [] p s m av.toArray meth c := ⟨B.exec, B.bytes, hml, hown, fun z hz => hts z (List.mem_cons_of_mem _ hz), hK, hb, hSF, hSTR, B.notSynchronized, B.returns, hl, by
    cases hct : c.exceptionTable.toList with
    | nil => rfl
    | cons x l => exact absurd (htab x (by rw [hct]; exact List.mem_cons_self)) id⟩
  rw [lg_entry_eq]
  exact body p e s m av.toArray below meth c F s.heap [] _ hW VS.rf (lv_entry av hav)
theorem v_split {c : Prop} [Decidable c] {st : List Value} (h1 : c → VE g cc nL own rt hh R mc ms out kc ks pc lv st w E1) (h2 : ¬ c → VE g cc nL own rt hh R mc ms out kc ks pc lv st w E2) : VE g cc nL own rt hh R mc ms out kc ks pc lv st w (if c then E1 else E2) := by
  intro r hr
  by_cases h : c
  · rw [if_pos h] at hr
    exact h1 h r hr
  · rw [if_neg h] at hr
    exact h2 h r hr
theorem v_tsIn {dflt lo hi : Int} {offs : Array Int} {len : Nat} {x : Int32} (v : Int32) {off : Int} {tgt : Nat} (hx : x = v) (hd : decode cc pc = .ok (.tableswitch dflt lo hi offs, len)) (h1 : ¬ v.toInt < lo) (h2 : ¬ hi < v.toInt) (ho : offs[(v.toInt - lo).toNat]? = some off) (ht : (pc : Int) + off = (tgt : Int)) (k : VE g cc nL own rt hh R mc ms out kc ks tgt lv rest w E) : VE g cc nL own rt hh R mc ms out kc ks pc lv (.int x :: rest) w E := by
  subst hx
  exact fun r hr p e s m args below meth c F H locs ls hW hS hl => lv_tableIn F.1 F.2.1 hd h1 h2 ho ht (k r hr p e s m args below meth c F H locs ls hW hS hl)
theorem v_tsOut {dflt lo hi : Int} {offs : Array Int} {len : Nat} {x : Int32} {tgt : Nat} (hd : decode cc pc = .ok (.tableswitch dflt lo hi offs, len)) (h : x.toInt < lo ∨ hi < x.toInt) (ht : (pc : Int) + dflt = (tgt : Int)) (k : VE g cc nL own rt hh R mc ms out kc ks tgt lv rest w E) : VE g cc nL own rt hh R mc ms out kc ks pc lv (.int x :: rest) w E :=
  fun r hr p e s m args below meth c F H locs ls hW hS hl => lv_tableOut F.1 F.2.1 hd h ht (k r hr p e s m args below meth c F H locs ls hW hS hl)
theorem v_tsNe {x : Int32} {z : Int} {v : Int32} (hv : v.toInt = z) (h : ¬ x = v) : x.toInt ≠ z := fun e => h (Int32.toInt_inj.mp (e.trans hv.symm))
theorem CR_rm {n n' nLy mc ms mcy msy kc ks : Nat} (h : n' < n) (hm : nLy ≤ 45) (hc : kc + mcy ≤ mc) (hs : ks + msy ≤ ms) : CR (rmL n mc ms) nLy mcy msy (rmL n' mcy msy) kc ks :=
  ⟨⟨rfl, rfl, by show 16 + n' + 1 ≤ 16 + n; omega, by show 8 + (nLy + 11) + (200 + 64 * n') ≤ 200 + 64 * n; omega⟩, hc, hs⟩
end CORE
end
section
def flC : Cond → List Cond
  | .and a b => flC a ++ flC b
  | .tt => []
  | c => [c]
theorem tb_0_0 : ((flC SB.SBInit.tab)[0]?.map (fun w => decide (w ∈ lw_tbl))) ≠ some false := by decide +kernel
theorem tb_0_1 : ((flC SB.SBInit.tab)[1]?.map (fun w => decide (w ∈ lw_tbl))) ≠ some false := by decide +kernel
theorem tb_0_2 : ((flC SB.SBInit.tab)[2]?.map (fun w => decide (w ∈ lw_tbl))) ≠ some false := by decide +kernel
theorem tb_0_3 : ((flC SB.SBInit.tab)[3]?.map (fun w => decide (w ∈ lw_tbl))) ≠ some false := by decide +kernel
theorem tb_0_4 : ((flC SB.SBInit.tab)[4]?.map (fun w => decide (w ∈ lw_tbl))) ≠ some false := by decide +kernel
theorem tb_0_5 : ((flC SB.SBInit.tab)[5]?.map (fun w => decide (w ∈ lw_tbl))) ≠ some false := by decide +kernel
theorem tb_0_6 : ((flC SB.SBInit.tab)[6]?.map (fun w => decide (w ∈ lw_tbl))) ≠ some false := by decide +kernel
theorem tb_0_7 : ((flC SB.SBInit.tab)[7]?.map (fun w => decide (w ∈ lw_tbl))) ≠ some false := by decide +kernel
theorem tb_0_8 : ((flC SB.SBInit.tab)[8]?.map (fun w => decide (w ∈ lw_tbl))) ≠ some false := by decide +kernel
theorem tb_0_9 : ((flC SB.SBInit.tab)[9]?.map (fun w => decide (w ∈ lw_tbl))) ≠ some false := by decide +kernel
theorem tb_0_10 : ((flC SB.SBInit.tab)[10]?.map (fun w => decide (w ∈ lw_tbl))) ≠ some false := by decide +kernel
theorem tb_0_11 : ((flC SB.SBInit.tab)[11]?.map (fun w => decide (w ∈ lw_tbl))) ≠ some false := by decide +kernel
theorem tb_0_12 : ((flC SB.SBInit.tab)[12]?.map (fun w => decide (w ∈ lw_tbl))) ≠ some false := by decide +kernel
theorem tb_0_13 : ((flC SB.SBInit.tab)[13]?.map (fun w => decide (w ∈ lw_tbl))) ≠ some false := by decide +kernel
theorem tb_0_14 : ((flC SB.SBInit.tab)[14]?.map (fun w => decide (w ∈ lw_tbl))) ≠ some false := by decide +kernel
theorem tb_0_15 : ((flC SB.SBInit.tab)[15]?.map (fun w => decide (w ∈ lw_tbl))) ≠ some false := by decide +kernel
theorem tb_0_16 : ((flC SB.SBInit.tab)[16]?.map (fun w => decide (w ∈ lw_tbl))) ≠ some false := by decide +kernel
theorem tb_0_17 : ((flC SB.SBInit.tab)[17]?.map (fun w => decide (w ∈ lw_tbl))) ≠ some false := by decide +kernel
theorem tb_0_18 : ((flC SB.SBInit.tab)[18]?.map (fun w => decide (w ∈ lw_tbl))) ≠ some false := by decide +kernel
theorem tb_0_19 : ((flC SB.SBInit.tab)[19]?.map (fun w => decide (w ∈ lw_tbl))) ≠ some false := by decide +kernel
theorem tb_0_20 : ((flC SB.SBInit.tab)[20]?.map (fun w => decide (w ∈ lw_tbl))) ≠ some false := by decide +kernel
theorem tb_0_21 : ((flC SB.SBInit.tab)[21]?.map (fun w => decide (w ∈ lw_tbl))) ≠ some false := by decide +kernel
theorem tb_0_22 : ((flC SB.SBInit.tab)[22]?.map (fun w => decide (w ∈ lw_tbl))) ≠ some false := by decide +kernel
theorem tb_0_23 : ((flC SB.SBInit.tab)[23]?.map (fun w => decide (w ∈ lw_tbl))) ≠ some false := by decide +kernel
theorem tb_0_24 : ((flC SB.SBInit.tab)[24]?.map (fun w => decide (w ∈ lw_tbl))) ≠ some false := by decide +kernel
theorem tb_0_25 : ((flC SB.SBInit.tab)[25]?.map (fun w => decide (w ∈ lw_tbl))) ≠ some false := by decide +kernel
theorem tb_0_26 : ((flC SB.SBInit.tab)[26]?.map (fun w => decide (w ∈ lw_tbl))) ≠ some false := by decide +kernel
theorem tb_0_27 : ((flC SB.SBInit.tab)[27]?.map (fun w => decide (w ∈ lw_tbl))) ≠ some false := by decide +kernel
theorem tb_0_28 : ((flC SB.SBInit.tab)[28]?.map (fun w => decide (w ∈ lw_tbl))) ≠ some false := by decide +kernel
theorem tb_0_29 : ((flC SB.SBInit.tab)[29]?.map (fun w => decide (w ∈ lw_tbl))) ≠ some false := by decide +kernel
theorem tb_0_30 : ((flC SB.SBInit.tab)[30]?.map (fun w => decide (w ∈ lw_tbl))) ≠ some false := by decide +kernel
theorem tb_0_31 : ((flC SB.SBInit.tab)[31]?.map (fun w => decide (w ∈ lw_tbl))) ≠ some false := by decide +kernel
theorem tb_0_32 : ((flC SB.SBInit.tab)[32]?.map (fun w => decide (w ∈ lw_tbl))) ≠ some false := by decide +kernel
theorem tb_0_33 : ((flC SB.SBInit.tab)[33]?.map (fun w => decide (w ∈ lw_tbl))) ≠ some false := by decide +kernel
theorem tb_0_34 : ((flC SB.SBInit.tab)[34]?.map (fun w => decide (w ∈ lw_tbl))) ≠ some false := by decide +kernel
theorem tb_0_35 : ((flC SB.SBInit.tab)[35]?.map (fun w => decide (w ∈ lw_tbl))) ≠ some false := by decide +kernel
theorem tb_0_36 : ((flC SB.SBInit.tab)[36]?.map (fun w => decide (w ∈ lw_tbl))) ≠ some false := by decide +kernel
theorem tb_0_37 : ((flC SB.SBInit.tab)[37]?.map (fun w => decide (w ∈ lw_tbl))) ≠ some false := by decide +kernel
theorem tb_0_38 : ((flC SB.SBInit.tab)[38]?.map (fun w => decide (w ∈ lw_tbl))) ≠ some false := by decide +kernel
theorem tb_0_39 : ((flC SB.SBInit.tab)[39]?.map (fun w => decide (w ∈ lw_tbl))) ≠ some false := by decide +kernel
theorem tb_0_40 : ((flC SB.SBInit.tab)[40]?.map (fun w => decide (w ∈ lw_tbl))) ≠ some false := by decide +kernel
theorem tb_0_41 : ((flC SB.SBInit.tab)[41]?.map (fun w => decide (w ∈ lw_tbl))) ≠ some false := by decide +kernel
theorem tb_0_42 : ((flC SB.SBInit.tab)[42]?.map (fun w => decide (w ∈ lw_tbl))) ≠ some false := by decide +kernel
theorem tb_0_43 : ((flC SB.SBInit.tab)[43]?.map (fun w => decide (w ∈ lw_tbl))) ≠ some false := by decide +kernel
theorem tb_0_44 : ((flC SB.SBInit.tab)[44]?.map (fun w => decide (w ∈ lw_tbl))) ≠ some false := by decide +kernel
theorem tb_0_45 : ((flC SB.SBInit.tab)[45]?.map (fun w => decide (w ∈ lw_tbl))) ≠ some false := by decide +kernel
theorem tb_0_46 : ((flC SB.SBInit.tab)[46]?.map (fun w => decide (w ∈ lw_tbl))) ≠ some false := by decide +kernel
theorem tb_0_47 : ((flC SB.SBInit.tab)[47]?.map (fun w => decide (w ∈ lw_tbl))) ≠ some false := by decide +kernel
theorem tb_0_48 : ((flC SB.SBInit.tab)[48]?.map (fun w => decide (w ∈ lw_tbl))) ≠ some false := by decide +kernel
theorem tb_0_49 : ((flC SB.SBInit.tab)[49]?.map (fun w => decide (w ∈ lw_tbl))) ≠ some false := by decide +kernel
theorem tb_0_50 : ((flC SB.SBInit.tab)[50]?.map (fun w => decide (w ∈ lw_tbl))) ≠ some false := by decide +kernel
theorem tb_0_51 : ((flC SB.SBInit.tab)[51]?.map (fun w => decide (w ∈ lw_tbl))) ≠ some false := by decide +kernel
theorem tb_0_52 : ((flC SB.SBInit.tab)[52]?.map (fun w => decide (w ∈ lw_tbl))) ≠ some false := by decide +kernel
theorem tb_0_53 : ((flC SB.SBInit.tab)[53]?.map (fun w => decide (w ∈ lw_tbl))) ≠ some false := by decide +kernel
theorem tb_0_54 : ((flC SB.SBInit.tab)[54]?.map (fun w => decide (w ∈ lw_tbl))) ≠ some false := by decide +kernel
theorem tb_0_55 : ((flC SB.SBInit.tab)[55]?.map (fun w => decide (w ∈ lw_tbl))) ≠ some false := by decide +kernel
theorem tb_0_56 : ((flC SB.SBInit.tab)[56]?.map (fun w => decide (w ∈ lw_tbl))) ≠ some false := by decide +kernel
theorem tb_0_57 : ((flC SB.SBInit.tab)[57]?.map (fun w => decide (w ∈ lw_tbl))) ≠ some false := by decide +kernel
theorem tb_0_58 : ((flC SB.SBInit.tab)[58]?.map (fun w => decide (w ∈ lw_tbl))) ≠ some false := by decide +kernel
theorem tb_0_59 : ((flC SB.SBInit.tab)[59]?.map (fun w => decide (w ∈ lw_tbl))) ≠ some false := by decide +kernel
theorem tb_1_0 : ((flC SB.SBAppendS.tab)[0]?.map (fun w => decide (w ∈ lw_tbl))) ≠ some false := by decide +kernel
theorem tb_1_1 : ((flC SB.SBAppendS.tab)[1]?.map (fun w => decide (w ∈ lw_tbl))) ≠ some false := by decide +kernel
theorem tb_1_2 : ((flC SB.SBAppendS.tab)[2]?.map (fun w => decide (w ∈ lw_tbl))) ≠ some false := by decide +kernel
theorem tb_1_3 : ((flC SB.SBAppendS.tab)[3]?.map (fun w => decide (w ∈ lw_tbl))) ≠ some false := by decide +kernel
theorem tb_1_4 : ((flC SB.SBAppendS.tab)[4]?.map (fun w => decide (w ∈ lw_tbl))) ≠ some false := by decide +kernel
theorem tb_1_5 : ((flC SB.SBAppendS.tab)[5]?.map (fun w => decide (w ∈ lw_tbl))) ≠ some false := by decide +kernel
theorem tb_1_6 : ((flC SB.SBAppendS.tab)[6]?.map (fun w => decide (w ∈ lw_tbl))) ≠ some false := by decide +kernel
theorem tb_1_7 : ((flC SB.SBAppendS.tab)[7]?.map (fun w => decide (w ∈ lw_tbl))) ≠ some false := by decide +kernel
theorem tb_1_8 : ((flC SB.SBAppendS.tab)[8]?.map (fun w => decide (w ∈ lw_tbl))) ≠ some false := by decide +kernel
theorem tb_1_9 : ((flC SB.SBAppendS.tab)[9]?.map (fun w => decide (w ∈ lw_tbl))) ≠ some false := by decide +kernel
theorem tb_1_10 : ((flC SB.SBAppendS.tab)[10]?.map (fun w => decide (w ∈ lw_tbl))) ≠ some false := by decide +kernel
theorem tb_1_11 : ((flC SB.SBAppendS.tab)[11]?.map (fun w => decide (w ∈ lw_tbl))) ≠ some false := by decide +kernel
theorem tb_1_12 : ((flC SB.SBAppendS.tab)[12]?.map (fun w => decide (w ∈ lw_tbl))) ≠ some false := by decide +kernel
theorem tb_1_13 : ((flC SB.SBAppendS.tab)[13]?.map (fun w => decide (w ∈ lw_tbl))) ≠ some false := by decide +kernel
theorem tb_1_14 : ((flC SB.SBAppendS.tab)[14]?.map (fun w => decide (w ∈ lw_tbl))) ≠ some false := by decide +kernel
theorem tb_1_15 : ((flC SB.SBAppendS.tab)[15]?.map (fun w => decide (w ∈ lw_tbl))) ≠ some false := by decide +kernel
theorem tb_1_16 : ((flC SB.SBAppendS.tab)[16]?.map (fun w => decide (w ∈ lw_tbl))) ≠ some false := by decide +kernel
theorem tb_1_17 : ((flC SB.SBAppendS.tab)[17]?.map (fun w => decide (w ∈ lw_tbl))) ≠ some false := by decide +kernel
theorem tb_1_18 : ((flC SB.SBAppendS.tab)[18]?.map (fun w => decide (w ∈ lw_tbl))) ≠ some false := by decide +kernel
theorem tb_1_19 : ((flC SB.SBAppendS.tab)[19]?.map (fun w => decide (w ∈ lw_tbl))) ≠ some false := by decide +kernel
theorem tb_1_20 : ((flC SB.SBAppendS.tab)[20]?.map (fun w => decide (w ∈ lw_tbl))) ≠ some false := by decide +kernel
theorem tb_1_21 : ((flC SB.SBAppendS.tab)[21]?.map (fun w => decide (w ∈ lw_tbl))) ≠ some false := by decide +kernel
theorem tb_1_22 : ((flC SB.SBAppendS.tab)[22]?.map (fun w => decide (w ∈ lw_tbl))) ≠ some false := by decide +kernel
theorem tb_1_23 : ((flC SB.SBAppendS.tab)[23]?.map (fun w => decide (w ∈ lw_tbl))) ≠ some false := by decide +kernel
theorem tb_1_24 : ((flC SB.SBAppendS.tab)[24]?.map (fun w => decide (w ∈ lw_tbl))) ≠ some false := by decide +kernel
theorem tb_1_25 : ((flC SB.SBAppendS.tab)[25]?.map (fun w => decide (w ∈ lw_tbl))) ≠ some false := by decide +kernel
theorem tb_1_26 : ((flC SB.SBAppendS.tab)[26]?.map (fun w => decide (w ∈ lw_tbl))) ≠ some false := by decide +kernel
theorem tb_1_27 : ((flC SB.SBAppendS.tab)[27]?.map (fun w => decide (w ∈ lw_tbl))) ≠ some false := by decide +kernel
theorem tb_1_28 : ((flC SB.SBAppendS.tab)[28]?.map (fun w => decide (w ∈ lw_tbl))) ≠ some false := by decide +kernel
theorem tb_1_29 : ((flC SB.SBAppendS.tab)[29]?.map (fun w => decide (w ∈ lw_tbl))) ≠ some false := by decide +kernel
theorem tb_1_30 : ((flC SB.SBAppendS.tab)[30]?.map (fun w => decide (w ∈ lw_tbl))) ≠ some false := by decide +kernel
theorem tb_1_31 : ((flC SB.SBAppendS.tab)[31]?.map (fun w => decide (w ∈ lw_tbl))) ≠ some false := by decide +kernel
theorem tb_1_32 : ((flC SB.SBAppendS.tab)[32]?.map (fun w => decide (w ∈ lw_tbl))) ≠ some false := by decide +kernel
theorem tb_1_33 : ((flC SB.SBAppendS.tab)[33]?.map (fun w => decide (w ∈ lw_tbl))) ≠ some false := by decide +kernel
theorem tb_1_34 : ((flC SB.SBAppendS.tab)[34]?.map (fun w => decide (w ∈ lw_tbl))) ≠ some false := by decide +kernel
theorem tb_1_35 : ((flC SB.SBAppendS.tab)[35]?.map (fun w => decide (w ∈ lw_tbl))) ≠ some false := by decide +kernel
theorem tb_1_36 : ((flC SB.SBAppendS.tab)[36]?.map (fun w => decide (w ∈ lw_tbl))) ≠ some false := by decide +kernel
theorem tb_1_37 : ((flC SB.SBAppendS.tab)[37]?.map (fun w => decide (w ∈ lw_tbl))) ≠ some false := by decide +kernel
theorem tb_1_38 : ((flC SB.SBAppendS.tab)[38]?.map (fun w => decide (w ∈ lw_tbl))) ≠ some false := by decide +kernel
theorem tb_1_39 : ((flC SB.SBAppendS.tab)[39]?.map (fun w => decide (w ∈ lw_tbl))) ≠ some false := by decide +kernel
theorem tb_1_40 : ((flC SB.SBAppendS.tab)[40]?.map (fun w => decide (w ∈ lw_tbl))) ≠ some false := by decide +kernel
theorem tb_1_41 : ((flC SB.SBAppendS.tab)[41]?.map (fun w => decide (w ∈ lw_tbl))) ≠ some false := by decide +kernel
theorem tb_1_42 : ((flC SB.SBAppendS.tab)[42]?.map (fun w => decide (w ∈ lw_tbl))) ≠ some false := by decide +kernel
theorem tb_1_43 : ((flC SB.SBAppendS.tab)[43]?.map (fun w => decide (w ∈ lw_tbl))) ≠ some false := by decide +kernel
theorem tb_1_44 : ((flC SB.SBAppendS.tab)[44]?.map (fun w => decide (w ∈ lw_tbl))) ≠ some false := by decide +kernel
theorem tb_1_45 : ((flC SB.SBAppendS.tab)[45]?.map (fun w => decide (w ∈ lw_tbl))) ≠ some false := by decide +kernel
theorem tb_1_46 : ((flC SB.SBAppendS.tab)[46]?.map (fun w => decide (w ∈ lw_tbl))) ≠ some false := by decide +kernel
theorem tb_1_47 : ((flC SB.SBAppendS.tab)[47]?.map (fun w => decide (w ∈ lw_tbl))) ≠ some false := by decide +kernel
theorem tb_1_48 : ((flC SB.SBAppendS.tab)[48]?.map (fun w => decide (w ∈ lw_tbl))) ≠ some false := by decide +kernel
theorem tb_1_49 : ((flC SB.SBAppendS.tab)[49]?.map (fun w => decide (w ∈ lw_tbl))) ≠ some false := by decide +kernel
theorem tb_1_50 : ((flC SB.SBAppendS.tab)[50]?.map (fun w => decide (w ∈ lw_tbl))) ≠ some false := by decide +kernel
theorem tb_1_51 : ((flC SB.SBAppendS.tab)[51]?.map (fun w => decide (w ∈ lw_tbl))) ≠ some false := by decide +kernel
theorem tb_1_52 : ((flC SB.SBAppendS.tab)[52]?.map (fun w => decide (w ∈ lw_tbl))) ≠ some false := by decide +kernel
theorem tb_1_53 : ((flC SB.SBAppendS.tab)[53]?.map (fun w => decide (w ∈ lw_tbl))) ≠ some false := by decide +kernel
theorem tb_1_54 : ((flC SB.SBAppendS.tab)[54]?.map (fun w => decide (w ∈ lw_tbl))) ≠ some false := by decide +kernel
theorem tb_1_55 : ((flC SB.SBAppendS.tab)[55]?.map (fun w => decide (w ∈ lw_tbl))) ≠ some false := by decide +kernel
theorem tb_1_56 : ((flC SB.SBAppendS.tab)[56]?.map (fun w => decide (w ∈ lw_tbl))) ≠ some false := by decide +kernel
theorem tb_1_57 : ((flC SB.SBAppendS.tab)[57]?.map (fun w => decide (w ∈ lw_tbl))) ≠ some false := by decide +kernel
theorem tb_1_58 : ((flC SB.SBAppendS.tab)[58]?.map (fun w => decide (w ∈ lw_tbl))) ≠ some false := by decide +kernel
theorem tb_1_59 : ((flC SB.SBAppendS.tab)[59]?.map (fun w => decide (w ∈ lw_tbl))) ≠ some false := by decide +kernel
theorem tb_2_0 : ((flC SB.SBAppendSG.tab)[0]?.map (fun w => decide (w ∈ lw_tbl))) ≠ some false := by decide +kernel
theorem tb_2_1 : ((flC SB.SBAppendSG.tab)[1]?.map (fun w => decide (w ∈ lw_tbl))) ≠ some false := by decide +kernel
theorem tb_2_2 : ((flC SB.SBAppendSG.tab)[2]?.map (fun w => decide (w ∈ lw_tbl))) ≠ some false := by decide +kernel
theorem tb_2_3 : ((flC SB.SBAppendSG.tab)[3]?.map (fun w => decide (w ∈ lw_tbl))) ≠ some false := by decide +kernel
theorem tb_2_4 : ((flC SB.SBAppendSG.tab)[4]?.map (fun w => decide (w ∈ lw_tbl))) ≠ some false := by decide +kernel
theorem tb_2_5 : ((flC SB.SBAppendSG.tab)[5]?.map (fun w => decide (w ∈ lw_tbl))) ≠ some false := by decide +kernel
theorem tb_2_6 : ((flC SB.SBAppendSG.tab)[6]?.map (fun w => decide (w ∈ lw_tbl))) ≠ some false := by decide +kernel
theorem tb_2_7 : ((flC SB.SBAppendSG.tab)[7]?.map (fun w => decide (w ∈ lw_tbl))) ≠ some false := by decide +kernel
theorem tb_2_8 : ((flC SB.SBAppendSG.tab)[8]?.map (fun w => decide (w ∈ lw_tbl))) ≠ some false := by decide +kernel
theorem tb_2_9 : ((flC SB.SBAppendSG.tab)[9]?.map (fun w => decide (w ∈ lw_tbl))) ≠ some false := by decide +kernel
theorem tb_2_10 : ((flC SB.SBAppendSG.tab)[10]?.map (fun w => decide (w ∈ lw_tbl))) ≠ some false := by decide +kernel
theorem tb_2_11 : ((flC SB.SBAppendSG.tab)[11]?.map (fun w => decide (w ∈ lw_tbl))) ≠ some false := by decide +kernel
theorem tb_2_12 : ((flC SB.SBAppendSG.tab)[12]?.map (fun w => decide (w ∈ lw_tbl))) ≠ some false := by decide +kernel
theorem tb_2_13 : ((flC SB.SBAppendSG.tab)[13]?.map (fun w => decide (w ∈ lw_tbl))) ≠ some false := by decide +kernel
theorem tb_2_14 : ((flC SB.SBAppendSG.tab)[14]?.map (fun w => decide (w ∈ lw_tbl))) ≠ some false := by decide +kernel
theorem tb_2_15 : ((flC SB.SBAppendSG.tab)[15]?.map (fun w => decide (w ∈ lw_tbl))) ≠ some false := by decide +kernel
theorem tb_2_16 : ((flC SB.SBAppendSG.tab)[16]?.map (fun w => decide (w ∈ lw_tbl))) ≠ some false := by decide +kernel
theorem tb_2_17 : ((flC SB.SBAppendSG.tab)[17]?.map (fun w => decide (w ∈ lw_tbl))) ≠ some false := by decide +kernel
theorem tb_2_18 : ((flC SB.SBAppendSG.tab)[18]?.map (fun w => decide (w ∈ lw_tbl))) ≠ some false := by decide +kernel
theorem tb_2_19 : ((flC SB.SBAppendSG.tab)[19]?.map (fun w => decide (w ∈ lw_tbl))) ≠ some false := by decide +kernel
theorem tb_2_20 : ((flC SB.SBAppendSG.tab)[20]?.map (fun w => decide (w ∈ lw_tbl))) ≠ some false := by decide +kernel
theorem tb_2_21 : ((flC SB.SBAppendSG.tab)[21]?.map (fun w => decide (w ∈ lw_tbl))) ≠ some false := by decide +kernel
theorem tb_2_22 : ((flC SB.SBAppendSG.tab)[22]?.map (fun w => decide (w ∈ lw_tbl))) ≠ some false := by decide +kernel
theorem tb_2_23 : ((flC SB.SBAppendSG.tab)[23]?.map (fun w => decide (w ∈ lw_tbl))) ≠ some false := by decide +kernel
theorem tb_2_24 : ((flC SB.SBAppendSG.tab)[24]?.map (fun w => decide (w ∈ lw_tbl))) ≠ some false := by decide +kernel
theorem tb_2_25 : ((flC SB.SBAppendSG.tab)[25]?.map (fun w => decide (w ∈ lw_tbl))) ≠ some false := by decide +kernel
theorem tb_2_26 : ((flC SB.SBAppendSG.tab)[26]?.map (fun w => decide (w ∈ lw_tbl))) ≠ some false := by decide +kernel
theorem tb_2_27 : ((flC SB.SBAppendSG.tab)[27]?.map (fun w => decide (w ∈ lw_tbl))) ≠ some false := by decide +kernel
theorem tb_2_28 : ((flC SB.SBAppendSG.tab)[28]?.map (fun w => decide (w ∈ lw_tbl))) ≠ some false := by decide +kernel
theorem tb_2_29 : ((flC SB.SBAppendSG.tab)[29]?.map (fun w => decide (w ∈ lw_tbl))) ≠ some false := by decide +kernel
theorem tb_2_30 : ((flC SB.SBAppendSG.tab)[30]?.map (fun w => decide (w ∈ lw_tbl))) ≠ some false := by decide +kernel
theorem tb_2_31 : ((flC SB.SBAppendSG.tab)[31]?.map (fun w => decide (w ∈ lw_tbl))) ≠ some false := by decide +kernel
theorem tb_2_32 : ((flC SB.SBAppendSG.tab)[32]?.map (fun w => decide (w ∈ lw_tbl))) ≠ some false := by decide +kernel
theorem tb_2_33 : ((flC SB.SBAppendSG.tab)[33]?.map (fun w => decide (w ∈ lw_tbl))) ≠ some false := by decide +kernel
theorem tb_2_34 : ((flC SB.SBAppendSG.tab)[34]?.map (fun w => decide (w ∈ lw_tbl))) ≠ some false := by decide +kernel
theorem tb_2_35 : ((flC SB.SBAppendSG.tab)[35]?.map (fun w => decide (w ∈ lw_tbl))) ≠ some false := by decide +kernel
theorem tb_2_36 : ((flC SB.SBAppendSG.tab)[36]?.map (fun w => decide (w ∈ lw_tbl))) ≠ some false := by decide +kernel
theorem tb_2_37 : ((flC SB.SBAppendSG.tab)[37]?.map (fun w => decide (w ∈ lw_tbl))) ≠ some false := by decide +kernel
theorem tb_2_38 : ((flC SB.SBAppendSG.tab)[38]?.map (fun w => decide (w ∈ lw_tbl))) ≠ some false := by decide +kernel
theorem tb_2_39 : ((flC SB.SBAppendSG.tab)[39]?.map (fun w => decide (w ∈ lw_tbl))) ≠ some false := by decide +kernel
theorem tb_2_40 : ((flC SB.SBAppendSG.tab)[40]?.map (fun w => decide (w ∈ lw_tbl))) ≠ some false := by decide +kernel
theorem tb_2_41 : ((flC SB.SBAppendSG.tab)[41]?.map (fun w => decide (w ∈ lw_tbl))) ≠ some false := by decide +kernel
theorem tb_2_42 : ((flC SB.SBAppendSG.tab)[42]?.map (fun w => decide (w ∈ lw_tbl))) ≠ some false := by decide +kernel
theorem tb_2_43 : ((flC SB.SBAppendSG.tab)[43]?.map (fun w => decide (w ∈ lw_tbl))) ≠ some false := by decide +kernel
theorem tb_2_44 : ((flC SB.SBAppendSG.tab)[44]?.map (fun w => decide (w ∈ lw_tbl))) ≠ some false := by decide +kernel
theorem tb_2_45 : ((flC SB.SBAppendSG.tab)[45]?.map (fun w => decide (w ∈ lw_tbl))) ≠ some false := by decide +kernel
theorem tb_2_46 : ((flC SB.SBAppendSG.tab)[46]?.map (fun w => decide (w ∈ lw_tbl))) ≠ some false := by decide +kernel
theorem tb_2_47 : ((flC SB.SBAppendSG.tab)[47]?.map (fun w => decide (w ∈ lw_tbl))) ≠ some false := by decide +kernel
theorem tb_2_48 : ((flC SB.SBAppendSG.tab)[48]?.map (fun w => decide (w ∈ lw_tbl))) ≠ some false := by decide +kernel
theorem tb_2_49 : ((flC SB.SBAppendSG.tab)[49]?.map (fun w => decide (w ∈ lw_tbl))) ≠ some false := by decide +kernel
theorem tb_2_50 : ((flC SB.SBAppendSG.tab)[50]?.map (fun w => decide (w ∈ lw_tbl))) ≠ some false := by decide +kernel
theorem tb_2_51 : ((flC SB.SBAppendSG.tab)[51]?.map (fun w => decide (w ∈ lw_tbl))) ≠ some false := by decide +kernel
theorem tb_2_52 : ((flC SB.SBAppendSG.tab)[52]?.map (fun w => decide (w ∈ lw_tbl))) ≠ some false := by decide +kernel
theorem tb_2_53 : ((flC SB.SBAppendSG.tab)[53]?.map (fun w => decide (w ∈ lw_tbl))) ≠ some false := by decide +kernel
theorem tb_2_54 : ((flC SB.SBAppendSG.tab)[54]?.map (fun w => decide (w ∈ lw_tbl))) ≠ some false := by decide +kernel
theorem tb_2_55 : ((flC SB.SBAppendSG.tab)[55]?.map (fun w => decide (w ∈ lw_tbl))) ≠ some false := by decide +kernel
theorem tb_2_56 : ((flC SB.SBAppendSG.tab)[56]?.map (fun w => decide (w ∈ lw_tbl))) ≠ some false := by decide +kernel
theorem tb_2_57 : ((flC SB.SBAppendSG.tab)[57]?.map (fun w => decide (w ∈ lw_tbl))) ≠ some false := by decide +kernel
theorem tb_2_58 : ((flC SB.SBAppendSG.tab)[58]?.map (fun w => decide (w ∈ lw_tbl))) ≠ some false := by decide +kernel
theorem tb_2_59 : ((flC SB.SBAppendSG.tab)[59]?.map (fun w => decide (w ∈ lw_tbl))) ≠ some false := by decide +kernel
theorem tb_3_0 : ((flC SB.SBAppendC.tab)[0]?.map (fun w => decide (w ∈ lw_tbl))) ≠ some false := by decide +kernel
theorem tb_3_1 : ((flC SB.SBAppendC.tab)[1]?.map (fun w => decide (w ∈ lw_tbl))) ≠ some false := by decide +kernel
theorem tb_3_2 : ((flC SB.SBAppendC.tab)[2]?.map (fun w => decide (w ∈ lw_tbl))) ≠ some false := by decide +kernel
theorem tb_3_3 : ((flC SB.SBAppendC.tab)[3]?.map (fun w => decide (w ∈ lw_tbl))) ≠ some false := by decide +kernel
theorem tb_3_4 : ((flC SB.SBAppendC.tab)[4]?.map (fun w => decide (w ∈ lw_tbl))) ≠ some false := by decide +kernel
theorem tb_3_5 : ((flC SB.SBAppendC.tab)[5]?.map (fun w => decide (w ∈ lw_tbl))) ≠ some false := by decide +kernel
theorem tb_3_6 : ((flC SB.SBAppendC.tab)[6]?.map (fun w => decide (w ∈ lw_tbl))) ≠ some false := by decide +kernel
theorem tb_3_7 : ((flC SB.SBAppendC.tab)[7]?.map (fun w => decide (w ∈ lw_tbl))) ≠ some false := by decide +kernel
theorem tb_3_8 : ((flC SB.SBAppendC.tab)[8]?.map (fun w => decide (w ∈ lw_tbl))) ≠ some false := by decide +kernel
theorem tb_3_9 : ((flC SB.SBAppendC.tab)[9]?.map (fun w => decide (w ∈ lw_tbl))) ≠ some false := by decide +kernel
theorem tb_3_10 : ((flC SB.SBAppendC.tab)[10]?.map (fun w => decide (w ∈ lw_tbl))) ≠ some false := by decide +kernel
theorem tb_3_11 : ((flC SB.SBAppendC.tab)[11]?.map (fun w => decide (w ∈ lw_tbl))) ≠ some false := by decide +kernel
theorem tb_3_12 : ((flC SB.SBAppendC.tab)[12]?.map (fun w => decide (w ∈ lw_tbl))) ≠ some false := by decide +kernel
theorem tb_3_13 : ((flC SB.SBAppendC.tab)[13]?.map (fun w => decide (w ∈ lw_tbl))) ≠ some false := by decide +kernel
theorem tb_3_14 : ((flC SB.SBAppendC.tab)[14]?.map (fun w => decide (w ∈ lw_tbl))) ≠ some false := by decide +kernel
theorem tb_3_15 : ((flC SB.SBAppendC.tab)[15]?.map (fun w => decide (w ∈ lw_tbl))) ≠ some false := by decide +kernel
theorem tb_3_16 : ((flC SB.SBAppendC.tab)[16]?.map (fun w => decide (w ∈ lw_tbl))) ≠ some false := by decide +kernel
theorem tb_3_17 : ((flC SB.SBAppendC.tab)[17]?.map (fun w => decide (w ∈ lw_tbl))) ≠ some false := by decide +kernel
theorem tb_3_18 : ((flC SB.SBAppendC.tab)[18]?.map (fun w => decide (w ∈ lw_tbl))) ≠ some false := by decide +kernel
theorem tb_3_19 : ((flC SB.SBAppendC.tab)[19]?.map (fun w => decide (w ∈ lw_tbl))) ≠ some false := by decide +kernel
theorem tb_3_20 : ((flC SB.SBAppendC.tab)[20]?.map (fun w => decide (w ∈ lw_tbl))) ≠ some false := by decide +kernel
theorem tb_3_21 : ((flC SB.SBAppendC.tab)[21]?.map (fun w => decide (w ∈ lw_tbl))) ≠ some false := by decide +kernel
theorem tb_3_22 : ((flC SB.SBAppendC.tab)[22]?.map (fun w => decide (w ∈ lw_tbl))) ≠ some false := by decide +kernel
theorem tb_3_23 : ((flC SB.SBAppendC.tab)[23]?.map (fun w => decide (w ∈ lw_tbl))) ≠ some false := by decide +kernel
theorem tb_3_24 : ((flC SB.SBAppendC.tab)[24]?.map (fun w => decide (w ∈ lw_tbl))) ≠ some false := by decide +kernel
theorem tb_3_25 : ((flC SB.SBAppendC.tab)[25]?.map (fun w => decide (w ∈ lw_tbl))) ≠ some false := by decide +kernel
theorem tb_3_26 : ((flC SB.SBAppendC.tab)[26]?.map (fun w => decide (w ∈ lw_tbl))) ≠ some false := by decide +kernel
theorem tb_3_27 : ((flC SB.SBAppendC.tab)[27]?.map (fun w => decide (w ∈ lw_tbl))) ≠ some false := by decide +kernel
theorem tb_3_28 : ((flC SB.SBAppendC.tab)[28]?.map (fun w => decide (w ∈ lw_tbl))) ≠ some false := by decide +kernel
theorem tb_3_29 : ((flC SB.SBAppendC.tab)[29]?.map (fun w => decide (w ∈ lw_tbl))) ≠ some false := by decide +kernel
theorem tb_3_30 : ((flC SB.SBAppendC.tab)[30]?.map (fun w => decide (w ∈ lw_tbl))) ≠ some false := by decide +kernel
theorem tb_3_31 : ((flC SB.SBAppendC.tab)[31]?.map (fun w => decide (w ∈ lw_tbl))) ≠ some false := by decide +kernel
theorem tb_3_32 : ((flC SB.SBAppendC.tab)[32]?.map (fun w => decide (w ∈ lw_tbl))) ≠ some false := by decide +kernel
theorem tb_3_33 : ((flC SB.SBAppendC.tab)[33]?.map (fun w => decide (w ∈ lw_tbl))) ≠ some false := by decide +kernel
theorem tb_3_34 : ((flC SB.SBAppendC.tab)[34]?.map (fun w => decide (w ∈ lw_tbl))) ≠ some false := by decide +kernel
theorem tb_3_35 : ((flC SB.SBAppendC.tab)[35]?.map (fun w => decide (w ∈ lw_tbl))) ≠ some false := by decide +kernel
theorem tb_3_36 : ((flC SB.SBAppendC.tab)[36]?.map (fun w => decide (w ∈ lw_tbl))) ≠ some false := by decide +kernel
theorem tb_3_37 : ((flC SB.SBAppendC.tab)[37]?.map (fun w => decide (w ∈ lw_tbl))) ≠ some false := by decide +kernel
theorem tb_3_38 : ((flC SB.SBAppendC.tab)[38]?.map (fun w => decide (w ∈ lw_tbl))) ≠ some false := by decide +kernel
theorem tb_3_39 : ((flC SB.SBAppendC.tab)[39]?.map (fun w => decide (w ∈ lw_tbl))) ≠ some false := by decide +kernel
theorem tb_3_40 : ((flC SB.SBAppendC.tab)[40]?.map (fun w => decide (w ∈ lw_tbl))) ≠ some false := by decide +kernel
theorem tb_3_41 : ((flC SB.SBAppendC.tab)[41]?.map (fun w => decide (w ∈ lw_tbl))) ≠ some false := by decide +kernel
theorem tb_3_42 : ((flC SB.SBAppendC.tab)[42]?.map (fun w => decide (w ∈ lw_tbl))) ≠ some false := by decide +kernel
theorem tb_3_43 : ((flC SB.SBAppendC.tab)[43]?.map (fun w => decide (w ∈ lw_tbl))) ≠ some false := by decide +kernel
theorem tb_3_44 : ((flC SB.SBAppendC.tab)[44]?.map (fun w => decide (w ∈ lw_tbl))) ≠ some false := by decide +kernel
theorem tb_3_45 : ((flC SB.SBAppendC.tab)[45]?.map (fun w => decide (w ∈ lw_tbl))) ≠ some false := by decide +kernel
theorem tb_3_46 : ((flC SB.SBAppendC.tab)[46]?.map (fun w => decide (w ∈ lw_tbl))) ≠ some false := by decide +kernel
theorem tb_3_47 : ((flC SB.SBAppendC.tab)[47]?.map (fun w => decide (w ∈ lw_tbl))) ≠ some false := by decide +kernel
theorem tb_3_48 : ((flC SB.SBAppendC.tab)[48]?.map (fun w => decide (w ∈ lw_tbl))) ≠ some false := by decide +kernel
theorem tb_3_49 : ((flC SB.SBAppendC.tab)[49]?.map (fun w => decide (w ∈ lw_tbl))) ≠ some false := by decide +kernel
theorem tb_3_50 : ((flC SB.SBAppendC.tab)[50]?.map (fun w => decide (w ∈ lw_tbl))) ≠ some false := by decide +kernel
theorem tb_3_51 : ((flC SB.SBAppendC.tab)[51]?.map (fun w => decide (w ∈ lw_tbl))) ≠ some false := by decide +kernel
theorem tb_3_52 : ((flC SB.SBAppendC.tab)[52]?.map (fun w => decide (w ∈ lw_tbl))) ≠ some false := by decide +kernel
theorem tb_3_53 : ((flC SB.SBAppendC.tab)[53]?.map (fun w => decide (w ∈ lw_tbl))) ≠ some false := by decide +kernel
theorem tb_3_54 : ((flC SB.SBAppendC.tab)[54]?.map (fun w => decide (w ∈ lw_tbl))) ≠ some false := by decide +kernel
theorem tb_3_55 : ((flC SB.SBAppendC.tab)[55]?.map (fun w => decide (w ∈ lw_tbl))) ≠ some false := by decide +kernel
theorem tb_3_56 : ((flC SB.SBAppendC.tab)[56]?.map (fun w => decide (w ∈ lw_tbl))) ≠ some false := by decide +kernel
theorem tb_3_57 : ((flC SB.SBAppendC.tab)[57]?.map (fun w => decide (w ∈ lw_tbl))) ≠ some false := by decide +kernel
theorem tb_3_58 : ((flC SB.SBAppendC.tab)[58]?.map (fun w => decide (w ∈ lw_tbl))) ≠ some false := by decide +kernel
theorem tb_3_59 : ((flC SB.SBAppendC.tab)[59]?.map (fun w => decide (w ∈ lw_tbl))) ≠ some false := by decide +kernel
theorem tb_4_0 : ((flC SB.SBAppendCG.tab)[0]?.map (fun w => decide (w ∈ lw_tbl))) ≠ some false := by decide +kernel
theorem tb_4_1 : ((flC SB.SBAppendCG.tab)[1]?.map (fun w => decide (w ∈ lw_tbl))) ≠ some false := by decide +kernel
theorem tb_4_2 : ((flC SB.SBAppendCG.tab)[2]?.map (fun w => decide (w ∈ lw_tbl))) ≠ some false := by decide +kernel
theorem tb_4_3 : ((flC SB.SBAppendCG.tab)[3]?.map (fun w => decide (w ∈ lw_tbl))) ≠ some false := by decide +kernel
theorem tb_4_4 : ((flC SB.SBAppendCG.tab)[4]?.map (fun w => decide (w ∈ lw_tbl))) ≠ some false := by decide +kernel
theorem tb_4_5 : ((flC SB.SBAppendCG.tab)[5]?.map (fun w => decide (w ∈ lw_tbl))) ≠ some false := by decide +kernel
theorem tb_4_6 : ((flC SB.SBAppendCG.tab)[6]?.map (fun w => decide (w ∈ lw_tbl))) ≠ some false := by decide +kernel
theorem tb_4_7 : ((flC SB.SBAppendCG.tab)[7]?.map (fun w => decide (w ∈ lw_tbl))) ≠ some false := by decide +kernel
theorem tb_4_8 : ((flC SB.SBAppendCG.tab)[8]?.map (fun w => decide (w ∈ lw_tbl))) ≠ some false := by decide +kernel
theorem tb_4_9 : ((flC SB.SBAppendCG.tab)[9]?.map (fun w => decide (w ∈ lw_tbl))) ≠ some false := by decide +kernel
theorem tb_4_10 : ((flC SB.SBAppendCG.tab)[10]?.map (fun w => decide (w ∈ lw_tbl))) ≠ some false := by decide +kernel
theorem tb_4_11 : ((flC SB.SBAppendCG.tab)[11]?.map (fun w => decide (w ∈ lw_tbl))) ≠ some false := by decide +kernel
theorem tb_4_12 : ((flC SB.SBAppendCG.tab)[12]?.map (fun w => decide (w ∈ lw_tbl))) ≠ some false := by decide +kernel
theorem tb_4_13 : ((flC SB.SBAppendCG.tab)[13]?.map (fun w => decide (w ∈ lw_tbl))) ≠ some false := by decide +kernel
theorem tb_4_14 : ((flC SB.SBAppendCG.tab)[14]?.map (fun w => decide (w ∈ lw_tbl))) ≠ some false := by decide +kernel
theorem tb_4_15 : ((flC SB.SBAppendCG.tab)[15]?.map (fun w => decide (w ∈ lw_tbl))) ≠ some false := by decide +kernel
theorem tb_4_16 : ((flC SB.SBAppendCG.tab)[16]?.map (fun w => decide (w ∈ lw_tbl))) ≠ some false := by decide +kernel
theorem tb_4_17 : ((flC SB.SBAppendCG.tab)[17]?.map (fun w => decide (w ∈ lw_tbl))) ≠ some false := by decide +kernel
theorem tb_4_18 : ((flC SB.SBAppendCG.tab)[18]?.map (fun w => decide (w ∈ lw_tbl))) ≠ some false := by decide +kernel
theorem tb_4_19 : ((flC SB.SBAppendCG.tab)[19]?.map (fun w => decide (w ∈ lw_tbl))) ≠ some false := by decide +kernel
theorem tb_4_20 : ((flC SB.SBAppendCG.tab)[20]?.map (fun w => decide (w ∈ lw_tbl))) ≠ some false := by decide +kernel
theorem tb_4_21 : ((flC SB.SBAppendCG.tab)[21]?.map (fun w => decide (w ∈ lw_tbl))) ≠ some false := by decide +kernel
theorem tb_4_22 : ((flC SB.SBAppendCG.tab)[22]?.map (fun w => decide (w ∈ lw_tbl))) ≠ some false := by decide +kernel
theorem tb_4_23 : ((flC SB.SBAppendCG.tab)[23]?.map (fun w => decide (w ∈ lw_tbl))) ≠ some false := by decide +kernel
theorem tb_4_24 : ((flC SB.SBAppendCG.tab)[24]?.map (fun w => decide (w ∈ lw_tbl))) ≠ some false := by decide +kernel
theorem tb_4_25 : ((flC SB.SBAppendCG.tab)[25]?.map (fun w => decide (w ∈ lw_tbl))) ≠ some false := by decide +kernel
theorem tb_4_26 : ((flC SB.SBAppendCG.tab)[26]?.map (fun w => decide (w ∈ lw_tbl))) ≠ some false := by decide +kernel
theorem tb_4_27 : ((flC SB.SBAppendCG.tab)[27]?.map (fun w => decide (w ∈ lw_tbl))) ≠ some false := by decide +kernel
theorem tb_4_28 : ((flC SB.SBAppendCG.tab)[28]?.map (fun w => decide (w ∈ lw_tbl))) ≠ some false := by decide +kernel
theorem tb_4_29 : ((flC SB.SBAppendCG.tab)[29]?.map (fun w => decide (w ∈ lw_tbl))) ≠ some false := by decide +kernel
theorem tb_4_30 : ((flC SB.SBAppendCG.tab)[30]?.map (fun w => decide (w ∈ lw_tbl))) ≠ some false := by decide +kernel
theorem tb_4_31 : ((flC SB.SBAppendCG.tab)[31]?.map (fun w => decide (w ∈ lw_tbl))) ≠ some false := by decide +kernel
theorem tb_4_32 : ((flC SB.SBAppendCG.tab)[32]?.map (fun w => decide (w ∈ lw_tbl))) ≠ some false := by decide +kernel
theorem tb_4_33 : ((flC SB.SBAppendCG.tab)[33]?.map (fun w => decide (w ∈ lw_tbl))) ≠ some false := by decide +kernel
theorem tb_4_34 : ((flC SB.SBAppendCG.tab)[34]?.map (fun w => decide (w ∈ lw_tbl))) ≠ some false := by decide +kernel
theorem tb_4_35 : ((flC SB.SBAppendCG.tab)[35]?.map (fun w => decide (w ∈ lw_tbl))) ≠ some false := by decide +kernel
theorem tb_4_36 : ((flC SB.SBAppendCG.tab)[36]?.map (fun w => decide (w ∈ lw_tbl))) ≠ some false := by decide +kernel
theorem tb_4_37 : ((flC SB.SBAppendCG.tab)[37]?.map (fun w => decide (w ∈ lw_tbl))) ≠ some false := by decide +kernel
theorem tb_4_38 : ((flC SB.SBAppendCG.tab)[38]?.map (fun w => decide (w ∈ lw_tbl))) ≠ some false := by decide +kernel
theorem tb_4_39 : ((flC SB.SBAppendCG.tab)[39]?.map (fun w => decide (w ∈ lw_tbl))) ≠ some false := by decide +kernel
theorem tb_4_40 : ((flC SB.SBAppendCG.tab)[40]?.map (fun w => decide (w ∈ lw_tbl))) ≠ some false := by decide +kernel
theorem tb_4_41 : ((flC SB.SBAppendCG.tab)[41]?.map (fun w => decide (w ∈ lw_tbl))) ≠ some false := by decide +kernel
theorem tb_4_42 : ((flC SB.SBAppendCG.tab)[42]?.map (fun w => decide (w ∈ lw_tbl))) ≠ some false := by decide +kernel
theorem tb_4_43 : ((flC SB.SBAppendCG.tab)[43]?.map (fun w => decide (w ∈ lw_tbl))) ≠ some false := by decide +kernel
theorem tb_4_44 : ((flC SB.SBAppendCG.tab)[44]?.map (fun w => decide (w ∈ lw_tbl))) ≠ some false := by decide +kernel
theorem tb_4_45 : ((flC SB.SBAppendCG.tab)[45]?.map (fun w => decide (w ∈ lw_tbl))) ≠ some false := by decide +kernel
theorem tb_4_46 : ((flC SB.SBAppendCG.tab)[46]?.map (fun w => decide (w ∈ lw_tbl))) ≠ some false := by decide +kernel
theorem tb_4_47 : ((flC SB.SBAppendCG.tab)[47]?.map (fun w => decide (w ∈ lw_tbl))) ≠ some false := by decide +kernel
theorem tb_4_48 : ((flC SB.SBAppendCG.tab)[48]?.map (fun w => decide (w ∈ lw_tbl))) ≠ some false := by decide +kernel
theorem tb_4_49 : ((flC SB.SBAppendCG.tab)[49]?.map (fun w => decide (w ∈ lw_tbl))) ≠ some false := by decide +kernel
theorem tb_4_50 : ((flC SB.SBAppendCG.tab)[50]?.map (fun w => decide (w ∈ lw_tbl))) ≠ some false := by decide +kernel
theorem tb_4_51 : ((flC SB.SBAppendCG.tab)[51]?.map (fun w => decide (w ∈ lw_tbl))) ≠ some false := by decide +kernel
theorem tb_4_52 : ((flC SB.SBAppendCG.tab)[52]?.map (fun w => decide (w ∈ lw_tbl))) ≠ some false := by decide +kernel
theorem tb_4_53 : ((flC SB.SBAppendCG.tab)[53]?.map (fun w => decide (w ∈ lw_tbl))) ≠ some false := by decide +kernel
theorem tb_4_54 : ((flC SB.SBAppendCG.tab)[54]?.map (fun w => decide (w ∈ lw_tbl))) ≠ some false := by decide +kernel
theorem tb_4_55 : ((flC SB.SBAppendCG.tab)[55]?.map (fun w => decide (w ∈ lw_tbl))) ≠ some false := by decide +kernel
theorem tb_4_56 : ((flC SB.SBAppendCG.tab)[56]?.map (fun w => decide (w ∈ lw_tbl))) ≠ some false := by decide +kernel
theorem tb_4_57 : ((flC SB.SBAppendCG.tab)[57]?.map (fun w => decide (w ∈ lw_tbl))) ≠ some false := by decide +kernel
theorem tb_4_58 : ((flC SB.SBAppendCG.tab)[58]?.map (fun w => decide (w ∈ lw_tbl))) ≠ some false := by decide +kernel
theorem tb_4_59 : ((flC SB.SBAppendCG.tab)[59]?.map (fun w => decide (w ∈ lw_tbl))) ≠ some false := by decide +kernel
theorem tb_5_0 : ((flC SBG.SbAppendI.tab)[0]?.map (fun w => decide (w ∈ lw_tbl))) ≠ some false := by decide +kernel
theorem tb_5_1 : ((flC SBG.SbAppendI.tab)[1]?.map (fun w => decide (w ∈ lw_tbl))) ≠ some false := by decide +kernel
theorem tb_5_2 : ((flC SBG.SbAppendI.tab)[2]?.map (fun w => decide (w ∈ lw_tbl))) ≠ some false := by decide +kernel
theorem tb_5_3 : ((flC SBG.SbAppendI.tab)[3]?.map (fun w => decide (w ∈ lw_tbl))) ≠ some false := by decide +kernel
theorem tb_5_4 : ((flC SBG.SbAppendI.tab)[4]?.map (fun w => decide (w ∈ lw_tbl))) ≠ some false := by decide +kernel
theorem tb_5_5 : ((flC SBG.SbAppendI.tab)[5]?.map (fun w => decide (w ∈ lw_tbl))) ≠ some false := by decide +kernel
theorem tb_5_6 : ((flC SBG.SbAppendI.tab)[6]?.map (fun w => decide (w ∈ lw_tbl))) ≠ some false := by decide +kernel
theorem tb_5_7 : ((flC SBG.SbAppendI.tab)[7]?.map (fun w => decide (w ∈ lw_tbl))) ≠ some false := by decide +kernel
theorem tb_5_8 : ((flC SBG.SbAppendI.tab)[8]?.map (fun w => decide (w ∈ lw_tbl))) ≠ some false := by decide +kernel
theorem tb_5_9 : ((flC SBG.SbAppendI.tab)[9]?.map (fun w => decide (w ∈ lw_tbl))) ≠ some false := by decide +kernel
theorem tb_5_10 : ((flC SBG.SbAppendI.tab)[10]?.map (fun w => decide (w ∈ lw_tbl))) ≠ some false := by decide +kernel
theorem tb_5_11 : ((flC SBG.SbAppendI.tab)[11]?.map (fun w => decide (w ∈ lw_tbl))) ≠ some false := by decide +kernel
theorem tb_5_12 : ((flC SBG.SbAppendI.tab)[12]?.map (fun w => decide (w ∈ lw_tbl))) ≠ some false := by decide +kernel
theorem tb_5_13 : ((flC SBG.SbAppendI.tab)[13]?.map (fun w => decide (w ∈ lw_tbl))) ≠ some false := by decide +kernel
theorem tb_5_14 : ((flC SBG.SbAppendI.tab)[14]?.map (fun w => decide (w ∈ lw_tbl))) ≠ some false := by decide +kernel
theorem tb_5_15 : ((flC SBG.SbAppendI.tab)[15]?.map (fun w => decide (w ∈ lw_tbl))) ≠ some false := by decide +kernel
theorem tb_5_16 : ((flC SBG.SbAppendI.tab)[16]?.map (fun w => decide (w ∈ lw_tbl))) ≠ some false := by decide +kernel
theorem tb_5_17 : ((flC SBG.SbAppendI.tab)[17]?.map (fun w => decide (w ∈ lw_tbl))) ≠ some false := by decide +kernel
theorem tb_5_18 : ((flC SBG.SbAppendI.tab)[18]?.map (fun w => decide (w ∈ lw_tbl))) ≠ some false := by decide +kernel
theorem tb_5_19 : ((flC SBG.SbAppendI.tab)[19]?.map (fun w => decide (w ∈ lw_tbl))) ≠ some false := by decide +kernel
theorem tb_5_20 : ((flC SBG.SbAppendI.tab)[20]?.map (fun w => decide (w ∈ lw_tbl))) ≠ some false := by decide +kernel
theorem tb_5_21 : ((flC SBG.SbAppendI.tab)[21]?.map (fun w => decide (w ∈ lw_tbl))) ≠ some false := by decide +kernel
theorem tb_5_22 : ((flC SBG.SbAppendI.tab)[22]?.map (fun w => decide (w ∈ lw_tbl))) ≠ some false := by decide +kernel
theorem tb_5_23 : ((flC SBG.SbAppendI.tab)[23]?.map (fun w => decide (w ∈ lw_tbl))) ≠ some false := by decide +kernel
theorem tb_5_24 : ((flC SBG.SbAppendI.tab)[24]?.map (fun w => decide (w ∈ lw_tbl))) ≠ some false := by decide +kernel
theorem tb_5_25 : ((flC SBG.SbAppendI.tab)[25]?.map (fun w => decide (w ∈ lw_tbl))) ≠ some false := by decide +kernel
theorem tb_5_26 : ((flC SBG.SbAppendI.tab)[26]?.map (fun w => decide (w ∈ lw_tbl))) ≠ some false := by decide +kernel
theorem tb_5_27 : ((flC SBG.SbAppendI.tab)[27]?.map (fun w => decide (w ∈ lw_tbl))) ≠ some false := by decide +kernel
theorem tb_5_28 : ((flC SBG.SbAppendI.tab)[28]?.map (fun w => decide (w ∈ lw_tbl))) ≠ some false := by decide +kernel
theorem tb_5_29 : ((flC SBG.SbAppendI.tab)[29]?.map (fun w => decide (w ∈ lw_tbl))) ≠ some false := by decide +kernel
theorem tb_5_30 : ((flC SBG.SbAppendI.tab)[30]?.map (fun w => decide (w ∈ lw_tbl))) ≠ some false := by decide +kernel
theorem tb_5_31 : ((flC SBG.SbAppendI.tab)[31]?.map (fun w => decide (w ∈ lw_tbl))) ≠ some false := by decide +kernel
theorem tb_5_32 : ((flC SBG.SbAppendI.tab)[32]?.map (fun w => decide (w ∈ lw_tbl))) ≠ some false := by decide +kernel
theorem tb_5_33 : ((flC SBG.SbAppendI.tab)[33]?.map (fun w => decide (w ∈ lw_tbl))) ≠ some false := by decide +kernel
theorem tb_5_34 : ((flC SBG.SbAppendI.tab)[34]?.map (fun w => decide (w ∈ lw_tbl))) ≠ some false := by decide +kernel
theorem tb_5_35 : ((flC SBG.SbAppendI.tab)[35]?.map (fun w => decide (w ∈ lw_tbl))) ≠ some false := by decide +kernel
theorem tb_5_36 : ((flC SBG.SbAppendI.tab)[36]?.map (fun w => decide (w ∈ lw_tbl))) ≠ some false := by decide +kernel
theorem tb_5_37 : ((flC SBG.SbAppendI.tab)[37]?.map (fun w => decide (w ∈ lw_tbl))) ≠ some false := by decide +kernel
theorem tb_5_38 : ((flC SBG.SbAppendI.tab)[38]?.map (fun w => decide (w ∈ lw_tbl))) ≠ some false := by decide +kernel
theorem tb_5_39 : ((flC SBG.SbAppendI.tab)[39]?.map (fun w => decide (w ∈ lw_tbl))) ≠ some false := by decide +kernel
theorem tb_5_40 : ((flC SBG.SbAppendI.tab)[40]?.map (fun w => decide (w ∈ lw_tbl))) ≠ some false := by decide +kernel
theorem tb_5_41 : ((flC SBG.SbAppendI.tab)[41]?.map (fun w => decide (w ∈ lw_tbl))) ≠ some false := by decide +kernel
theorem tb_5_42 : ((flC SBG.SbAppendI.tab)[42]?.map (fun w => decide (w ∈ lw_tbl))) ≠ some false := by decide +kernel
theorem tb_5_43 : ((flC SBG.SbAppendI.tab)[43]?.map (fun w => decide (w ∈ lw_tbl))) ≠ some false := by decide +kernel
theorem tb_5_44 : ((flC SBG.SbAppendI.tab)[44]?.map (fun w => decide (w ∈ lw_tbl))) ≠ some false := by decide +kernel
theorem tb_5_45 : ((flC SBG.SbAppendI.tab)[45]?.map (fun w => decide (w ∈ lw_tbl))) ≠ some false := by decide +kernel
theorem tb_5_46 : ((flC SBG.SbAppendI.tab)[46]?.map (fun w => decide (w ∈ lw_tbl))) ≠ some false := by decide +kernel
theorem tb_5_47 : ((flC SBG.SbAppendI.tab)[47]?.map (fun w => decide (w ∈ lw_tbl))) ≠ some false := by decide +kernel
theorem tb_5_48 : ((flC SBG.SbAppendI.tab)[48]?.map (fun w => decide (w ∈ lw_tbl))) ≠ some false := by decide +kernel
theorem tb_5_49 : ((flC SBG.SbAppendI.tab)[49]?.map (fun w => decide (w ∈ lw_tbl))) ≠ some false := by decide +kernel
theorem tb_5_50 : ((flC SBG.SbAppendI.tab)[50]?.map (fun w => decide (w ∈ lw_tbl))) ≠ some false := by decide +kernel
theorem tb_5_51 : ((flC SBG.SbAppendI.tab)[51]?.map (fun w => decide (w ∈ lw_tbl))) ≠ some false := by decide +kernel
theorem tb_5_52 : ((flC SBG.SbAppendI.tab)[52]?.map (fun w => decide (w ∈ lw_tbl))) ≠ some false := by decide +kernel
theorem tb_5_53 : ((flC SBG.SbAppendI.tab)[53]?.map (fun w => decide (w ∈ lw_tbl))) ≠ some false := by decide +kernel
theorem tb_5_54 : ((flC SBG.SbAppendI.tab)[54]?.map (fun w => decide (w ∈ lw_tbl))) ≠ some false := by decide +kernel
theorem tb_5_55 : ((flC SBG.SbAppendI.tab)[55]?.map (fun w => decide (w ∈ lw_tbl))) ≠ some false := by decide +kernel
theorem tb_5_56 : ((flC SBG.SbAppendI.tab)[56]?.map (fun w => decide (w ∈ lw_tbl))) ≠ some false := by decide +kernel
theorem tb_5_57 : ((flC SBG.SbAppendI.tab)[57]?.map (fun w => decide (w ∈ lw_tbl))) ≠ some false := by decide +kernel
theorem tb_5_58 : ((flC SBG.SbAppendI.tab)[58]?.map (fun w => decide (w ∈ lw_tbl))) ≠ some false := by decide +kernel
theorem tb_5_59 : ((flC SBG.SbAppendI.tab)[59]?.map (fun w => decide (w ∈ lw_tbl))) ≠ some false := by decide +kernel
theorem tb_6_0 : ((flC SB.SBToString.tab)[0]?.map (fun w => decide (w ∈ lw_tbl))) ≠ some false := by decide +kernel
theorem tb_6_1 : ((flC SB.SBToString.tab)[1]?.map (fun w => decide (w ∈ lw_tbl))) ≠ some false := by decide +kernel
theorem tb_6_2 : ((flC SB.SBToString.tab)[2]?.map (fun w => decide (w ∈ lw_tbl))) ≠ some false := by decide +kernel
theorem tb_6_3 : ((flC SB.SBToString.tab)[3]?.map (fun w => decide (w ∈ lw_tbl))) ≠ some false := by decide +kernel
theorem tb_6_4 : ((flC SB.SBToString.tab)[4]?.map (fun w => decide (w ∈ lw_tbl))) ≠ some false := by decide +kernel
theorem tb_6_5 : ((flC SB.SBToString.tab)[5]?.map (fun w => decide (w ∈ lw_tbl))) ≠ some false := by decide +kernel
theorem tb_6_6 : ((flC SB.SBToString.tab)[6]?.map (fun w => decide (w ∈ lw_tbl))) ≠ some false := by decide +kernel
theorem tb_6_7 : ((flC SB.SBToString.tab)[7]?.map (fun w => decide (w ∈ lw_tbl))) ≠ some false := by decide +kernel
theorem tb_6_8 : ((flC SB.SBToString.tab)[8]?.map (fun w => decide (w ∈ lw_tbl))) ≠ some false := by decide +kernel
theorem tb_6_9 : ((flC SB.SBToString.tab)[9]?.map (fun w => decide (w ∈ lw_tbl))) ≠ some false := by decide +kernel
theorem tb_6_10 : ((flC SB.SBToString.tab)[10]?.map (fun w => decide (w ∈ lw_tbl))) ≠ some false := by decide +kernel
theorem tb_6_11 : ((flC SB.SBToString.tab)[11]?.map (fun w => decide (w ∈ lw_tbl))) ≠ some false := by decide +kernel
theorem tb_6_12 : ((flC SB.SBToString.tab)[12]?.map (fun w => decide (w ∈ lw_tbl))) ≠ some false := by decide +kernel
theorem tb_6_13 : ((flC SB.SBToString.tab)[13]?.map (fun w => decide (w ∈ lw_tbl))) ≠ some false := by decide +kernel
theorem tb_6_14 : ((flC SB.SBToString.tab)[14]?.map (fun w => decide (w ∈ lw_tbl))) ≠ some false := by decide +kernel
theorem tb_6_15 : ((flC SB.SBToString.tab)[15]?.map (fun w => decide (w ∈ lw_tbl))) ≠ some false := by decide +kernel
theorem tb_6_16 : ((flC SB.SBToString.tab)[16]?.map (fun w => decide (w ∈ lw_tbl))) ≠ some false := by decide +kernel
theorem tb_6_17 : ((flC SB.SBToString.tab)[17]?.map (fun w => decide (w ∈ lw_tbl))) ≠ some false := by decide +kernel
theorem tb_6_18 : ((flC SB.SBToString.tab)[18]?.map (fun w => decide (w ∈ lw_tbl))) ≠ some false := by decide +kernel
theorem tb_6_19 : ((flC SB.SBToString.tab)[19]?.map (fun w => decide (w ∈ lw_tbl))) ≠ some false := by decide +kernel
theorem tb_6_20 : ((flC SB.SBToString.tab)[20]?.map (fun w => decide (w ∈ lw_tbl))) ≠ some false := by decide +kernel
theorem tb_6_21 : ((flC SB.SBToString.tab)[21]?.map (fun w => decide (w ∈ lw_tbl))) ≠ some false := by decide +kernel
theorem tb_6_22 : ((flC SB.SBToString.tab)[22]?.map (fun w => decide (w ∈ lw_tbl))) ≠ some false := by decide +kernel
theorem tb_6_23 : ((flC SB.SBToString.tab)[23]?.map (fun w => decide (w ∈ lw_tbl))) ≠ some false := by decide +kernel
theorem tb_6_24 : ((flC SB.SBToString.tab)[24]?.map (fun w => decide (w ∈ lw_tbl))) ≠ some false := by decide +kernel
theorem tb_6_25 : ((flC SB.SBToString.tab)[25]?.map (fun w => decide (w ∈ lw_tbl))) ≠ some false := by decide +kernel
theorem tb_6_26 : ((flC SB.SBToString.tab)[26]?.map (fun w => decide (w ∈ lw_tbl))) ≠ some false := by decide +kernel
theorem tb_6_27 : ((flC SB.SBToString.tab)[27]?.map (fun w => decide (w ∈ lw_tbl))) ≠ some false := by decide +kernel
theorem tb_6_28 : ((flC SB.SBToString.tab)[28]?.map (fun w => decide (w ∈ lw_tbl))) ≠ some false := by decide +kernel
theorem tb_6_29 : ((flC SB.SBToString.tab)[29]?.map (fun w => decide (w ∈ lw_tbl))) ≠ some false := by decide +kernel
theorem tb_6_30 : ((flC SB.SBToString.tab)[30]?.map (fun w => decide (w ∈ lw_tbl))) ≠ some false := by decide +kernel
theorem tb_6_31 : ((flC SB.SBToString.tab)[31]?.map (fun w => decide (w ∈ lw_tbl))) ≠ some false := by decide +kernel
theorem tb_6_32 : ((flC SB.SBToString.tab)[32]?.map (fun w => decide (w ∈ lw_tbl))) ≠ some false := by decide +kernel
theorem tb_6_33 : ((flC SB.SBToString.tab)[33]?.map (fun w => decide (w ∈ lw_tbl))) ≠ some false := by decide +kernel
theorem tb_6_34 : ((flC SB.SBToString.tab)[34]?.map (fun w => decide (w ∈ lw_tbl))) ≠ some false := by decide +kernel
theorem tb_6_35 : ((flC SB.SBToString.tab)[35]?.map (fun w => decide (w ∈ lw_tbl))) ≠ some false := by decide +kernel
theorem tb_6_36 : ((flC SB.SBToString.tab)[36]?.map (fun w => decide (w ∈ lw_tbl))) ≠ some false := by decide +kernel
theorem tb_6_37 : ((flC SB.SBToString.tab)[37]?.map (fun w => decide (w ∈ lw_tbl))) ≠ some false := by decide +kernel
theorem tb_6_38 : ((flC SB.SBToString.tab)[38]?.map (fun w => decide (w ∈ lw_tbl))) ≠ some false := by decide +kernel
theorem tb_6_39 : ((flC SB.SBToString.tab)[39]?.map (fun w => decide (w ∈ lw_tbl))) ≠ some false := by decide +kernel
theorem tb_6_40 : ((flC SB.SBToString.tab)[40]?.map (fun w => decide (w ∈ lw_tbl))) ≠ some false := by decide +kernel
theorem tb_6_41 : ((flC SB.SBToString.tab)[41]?.map (fun w => decide (w ∈ lw_tbl))) ≠ some false := by decide +kernel
theorem tb_6_42 : ((flC SB.SBToString.tab)[42]?.map (fun w => decide (w ∈ lw_tbl))) ≠ some false := by decide +kernel
theorem tb_6_43 : ((flC SB.SBToString.tab)[43]?.map (fun w => decide (w ∈ lw_tbl))) ≠ some false := by decide +kernel
theorem tb_6_44 : ((flC SB.SBToString.tab)[44]?.map (fun w => decide (w ∈ lw_tbl))) ≠ some false := by decide +kernel
theorem tb_6_45 : ((flC SB.SBToString.tab)[45]?.map (fun w => decide (w ∈ lw_tbl))) ≠ some false := by decide +kernel
theorem tb_6_46 : ((flC SB.SBToString.tab)[46]?.map (fun w => decide (w ∈ lw_tbl))) ≠ some false := by decide +kernel
theorem tb_6_47 : ((flC SB.SBToString.tab)[47]?.map (fun w => decide (w ∈ lw_tbl))) ≠ some false := by decide +kernel
theorem tb_6_48 : ((flC SB.SBToString.tab)[48]?.map (fun w => decide (w ∈ lw_tbl))) ≠ some false := by decide +kernel
theorem tb_6_49 : ((flC SB.SBToString.tab)[49]?.map (fun w => decide (w ∈ lw_tbl))) ≠ some false := by decide +kernel
theorem tb_6_50 : ((flC SB.SBToString.tab)[50]?.map (fun w => decide (w ∈ lw_tbl))) ≠ some false := by decide +kernel
theorem tb_6_51 : ((flC SB.SBToString.tab)[51]?.map (fun w => decide (w ∈ lw_tbl))) ≠ some false := by decide +kernel
theorem tb_6_52 : ((flC SB.SBToString.tab)[52]?.map (fun w => decide (w ∈ lw_tbl))) ≠ some false := by decide +kernel
theorem tb_6_53 : ((flC SB.SBToString.tab)[53]?.map (fun w => decide (w ∈ lw_tbl))) ≠ some false := by decide +kernel
theorem tb_6_54 : ((flC SB.SBToString.tab)[54]?.map (fun w => decide (w ∈ lw_tbl))) ≠ some false := by decide +kernel
theorem tb_6_55 : ((flC SB.SBToString.tab)[55]?.map (fun w => decide (w ∈ lw_tbl))) ≠ some false := by decide +kernel
theorem tb_6_56 : ((flC SB.SBToString.tab)[56]?.map (fun w => decide (w ∈ lw_tbl))) ≠ some false := by decide +kernel
theorem tb_6_57 : ((flC SB.SBToString.tab)[57]?.map (fun w => decide (w ∈ lw_tbl))) ≠ some false := by decide +kernel
theorem tb_6_58 : ((flC SB.SBToString.tab)[58]?.map (fun w => decide (w ∈ lw_tbl))) ≠ some false := by decide +kernel
theorem tb_6_59 : ((flC SB.SBToString.tab)[59]?.map (fun w => decide (w ∈ lw_tbl))) ≠ some false := by decide +kernel
theorem tb_7_0 : ((flC SB.SBToStringF.tab)[0]?.map (fun w => decide (w ∈ lw_tbl))) ≠ some false := by decide +kernel
theorem tb_7_1 : ((flC SB.SBToStringF.tab)[1]?.map (fun w => decide (w ∈ lw_tbl))) ≠ some false := by decide +kernel
theorem tb_7_2 : ((flC SB.SBToStringF.tab)[2]?.map (fun w => decide (w ∈ lw_tbl))) ≠ some false := by decide +kernel
theorem tb_7_3 : ((flC SB.SBToStringF.tab)[3]?.map (fun w => decide (w ∈ lw_tbl))) ≠ some false := by decide +kernel
theorem tb_7_4 : ((flC SB.SBToStringF.tab)[4]?.map (fun w => decide (w ∈ lw_tbl))) ≠ some false := by decide +kernel
theorem tb_7_5 : ((flC SB.SBToStringF.tab)[5]?.map (fun w => decide (w ∈ lw_tbl))) ≠ some false := by decide +kernel
theorem tb_7_6 : ((flC SB.SBToStringF.tab)[6]?.map (fun w => decide (w ∈ lw_tbl))) ≠ some false := by decide +kernel
theorem tb_7_7 : ((flC SB.SBToStringF.tab)[7]?.map (fun w => decide (w ∈ lw_tbl))) ≠ some false := by decide +kernel
theorem tb_7_8 : ((flC SB.SBToStringF.tab)[8]?.map (fun w => decide (w ∈ lw_tbl))) ≠ some false := by decide +kernel
theorem tb_7_9 : ((flC SB.SBToStringF.tab)[9]?.map (fun w => decide (w ∈ lw_tbl))) ≠ some false := by decide +kernel
theorem tb_7_10 : ((flC SB.SBToStringF.tab)[10]?.map (fun w => decide (w ∈ lw_tbl))) ≠ some false := by decide +kernel
theorem tb_7_11 : ((flC SB.SBToStringF.tab)[11]?.map (fun w => decide (w ∈ lw_tbl))) ≠ some false := by decide +kernel
theorem tb_7_12 : ((flC SB.SBToStringF.tab)[12]?.map (fun w => decide (w ∈ lw_tbl))) ≠ some false := by decide +kernel
theorem tb_7_13 : ((flC SB.SBToStringF.tab)[13]?.map (fun w => decide (w ∈ lw_tbl))) ≠ some false := by decide +kernel
theorem tb_7_14 : ((flC SB.SBToStringF.tab)[14]?.map (fun w => decide (w ∈ lw_tbl))) ≠ some false := by decide +kernel
theorem tb_7_15 : ((flC SB.SBToStringF.tab)[15]?.map (fun w => decide (w ∈ lw_tbl))) ≠ some false := by decide +kernel
theorem tb_7_16 : ((flC SB.SBToStringF.tab)[16]?.map (fun w => decide (w ∈ lw_tbl))) ≠ some false := by decide +kernel
theorem tb_7_17 : ((flC SB.SBToStringF.tab)[17]?.map (fun w => decide (w ∈ lw_tbl))) ≠ some false := by decide +kernel
theorem tb_7_18 : ((flC SB.SBToStringF.tab)[18]?.map (fun w => decide (w ∈ lw_tbl))) ≠ some false := by decide +kernel
theorem tb_7_19 : ((flC SB.SBToStringF.tab)[19]?.map (fun w => decide (w ∈ lw_tbl))) ≠ some false := by decide +kernel
theorem tb_7_20 : ((flC SB.SBToStringF.tab)[20]?.map (fun w => decide (w ∈ lw_tbl))) ≠ some false := by decide +kernel
theorem tb_7_21 : ((flC SB.SBToStringF.tab)[21]?.map (fun w => decide (w ∈ lw_tbl))) ≠ some false := by decide +kernel
theorem tb_7_22 : ((flC SB.SBToStringF.tab)[22]?.map (fun w => decide (w ∈ lw_tbl))) ≠ some false := by decide +kernel
theorem tb_7_23 : ((flC SB.SBToStringF.tab)[23]?.map (fun w => decide (w ∈ lw_tbl))) ≠ some false := by decide +kernel
theorem tb_7_24 : ((flC SB.SBToStringF.tab)[24]?.map (fun w => decide (w ∈ lw_tbl))) ≠ some false := by decide +kernel
theorem tb_7_25 : ((flC SB.SBToStringF.tab)[25]?.map (fun w => decide (w ∈ lw_tbl))) ≠ some false := by decide +kernel
theorem tb_7_26 : ((flC SB.SBToStringF.tab)[26]?.map (fun w => decide (w ∈ lw_tbl))) ≠ some false := by decide +kernel
theorem tb_7_27 : ((flC SB.SBToStringF.tab)[27]?.map (fun w => decide (w ∈ lw_tbl))) ≠ some false := by decide +kernel
theorem tb_7_28 : ((flC SB.SBToStringF.tab)[28]?.map (fun w => decide (w ∈ lw_tbl))) ≠ some false := by decide +kernel
theorem tb_7_29 : ((flC SB.SBToStringF.tab)[29]?.map (fun w => decide (w ∈ lw_tbl))) ≠ some false := by decide +kernel
theorem tb_7_30 : ((flC SB.SBToStringF.tab)[30]?.map (fun w => decide (w ∈ lw_tbl))) ≠ some false := by decide +kernel
theorem tb_7_31 : ((flC SB.SBToStringF.tab)[31]?.map (fun w => decide (w ∈ lw_tbl))) ≠ some false := by decide +kernel
theorem tb_7_32 : ((flC SB.SBToStringF.tab)[32]?.map (fun w => decide (w ∈ lw_tbl))) ≠ some false := by decide +kernel
theorem tb_7_33 : ((flC SB.SBToStringF.tab)[33]?.map (fun w => decide (w ∈ lw_tbl))) ≠ some false := by decide +kernel
theorem tb_7_34 : ((flC SB.SBToStringF.tab)[34]?.map (fun w => decide (w ∈ lw_tbl))) ≠ some false := by decide +kernel
theorem tb_7_35 : ((flC SB.SBToStringF.tab)[35]?.map (fun w => decide (w ∈ lw_tbl))) ≠ some false := by decide +kernel
theorem tb_7_36 : ((flC SB.SBToStringF.tab)[36]?.map (fun w => decide (w ∈ lw_tbl))) ≠ some false := by decide +kernel
theorem tb_7_37 : ((flC SB.SBToStringF.tab)[37]?.map (fun w => decide (w ∈ lw_tbl))) ≠ some false := by decide +kernel
theorem tb_7_38 : ((flC SB.SBToStringF.tab)[38]?.map (fun w => decide (w ∈ lw_tbl))) ≠ some false := by decide +kernel
theorem tb_7_39 : ((flC SB.SBToStringF.tab)[39]?.map (fun w => decide (w ∈ lw_tbl))) ≠ some false := by decide +kernel
theorem tb_7_40 : ((flC SB.SBToStringF.tab)[40]?.map (fun w => decide (w ∈ lw_tbl))) ≠ some false := by decide +kernel
theorem tb_7_41 : ((flC SB.SBToStringF.tab)[41]?.map (fun w => decide (w ∈ lw_tbl))) ≠ some false := by decide +kernel
theorem tb_7_42 : ((flC SB.SBToStringF.tab)[42]?.map (fun w => decide (w ∈ lw_tbl))) ≠ some false := by decide +kernel
theorem tb_7_43 : ((flC SB.SBToStringF.tab)[43]?.map (fun w => decide (w ∈ lw_tbl))) ≠ some false := by decide +kernel
theorem tb_7_44 : ((flC SB.SBToStringF.tab)[44]?.map (fun w => decide (w ∈ lw_tbl))) ≠ some false := by decide +kernel
theorem tb_7_45 : ((flC SB.SBToStringF.tab)[45]?.map (fun w => decide (w ∈ lw_tbl))) ≠ some false := by decide +kernel
theorem tb_7_46 : ((flC SB.SBToStringF.tab)[46]?.map (fun w => decide (w ∈ lw_tbl))) ≠ some false := by decide +kernel
theorem tb_7_47 : ((flC SB.SBToStringF.tab)[47]?.map (fun w => decide (w ∈ lw_tbl))) ≠ some false := by decide +kernel
theorem tb_7_48 : ((flC SB.SBToStringF.tab)[48]?.map (fun w => decide (w ∈ lw_tbl))) ≠ some false := by decide +kernel
theorem tb_7_49 : ((flC SB.SBToStringF.tab)[49]?.map (fun w => decide (w ∈ lw_tbl))) ≠ some false := by decide +kernel
theorem tb_7_50 : ((flC SB.SBToStringF.tab)[50]?.map (fun w => decide (w ∈ lw_tbl))) ≠ some false := by decide +kernel
theorem tb_7_51 : ((flC SB.SBToStringF.tab)[51]?.map (fun w => decide (w ∈ lw_tbl))) ≠ some false := by decide +kernel
theorem tb_7_52 : ((flC SB.SBToStringF.tab)[52]?.map (fun w => decide (w ∈ lw_tbl))) ≠ some false := by decide +kernel
theorem tb_7_53 : ((flC SB.SBToStringF.tab)[53]?.map (fun w => decide (w ∈ lw_tbl))) ≠ some false := by decide +kernel
theorem tb_7_54 : ((flC SB.SBToStringF.tab)[54]?.map (fun w => decide (w ∈ lw_tbl))) ≠ some false := by decide +kernel
theorem tb_7_55 : ((flC SB.SBToStringF.tab)[55]?.map (fun w => decide (w ∈ lw_tbl))) ≠ some false := by decide +kernel
theorem tb_7_56 : ((flC SB.SBToStringF.tab)[56]?.map (fun w => decide (w ∈ lw_tbl))) ≠ some false := by decide +kernel
theorem tb_7_57 : ((flC SB.SBToStringF.tab)[57]?.map (fun w => decide (w ∈ lw_tbl))) ≠ some false := by decide +kernel
theorem tb_7_58 : ((flC SB.SBToStringF.tab)[58]?.map (fun w => decide (w ∈ lw_tbl))) ≠ some false := by decide +kernel
theorem tb_7_59 : ((flC SB.SBToStringF.tab)[59]?.map (fun w => decide (w ∈ lw_tbl))) ≠ some false := by decide +kernel
end
