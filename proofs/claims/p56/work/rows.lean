section
-- ===== PART A: goes FIRST, ahead of the names: the tables' words, and 'selects' of the private methods out of them =====
/-- a private method of a class that the tables say can be made, by its rows of tables_1 -/
def lw_okq (q : MethodName × Nat) : Prop := (q.1.cls ≠ "java/lang/invoke/MethodHandle" ∧ q.1.cls ≠ "java/lang/invoke/VarHandle") ∧ Cond.instantiable q.1.cls q.2 ∈ tables_1 ∧ Cond.privateMethod q.1 ∈ tables_1 ∧ Cond.instanceMethod q.1 ∈ tables_1
theorem lw_p0 : lw_okq (⟨"java/lang/Throwable", "fillInStackTrace", "(I)Ljava/lang/Throwable;"⟩, 6) := ⟨⟨by decide +kernel, by decide +kernel⟩, List.mem_of_getElem? (i := 360) (by decide +kernel), List.mem_of_getElem? (i := 358) (by decide +kernel), List.mem_of_getElem? (i := 359) (by decide +kernel)⟩
theorem lw_p1 : lw_okq (⟨"FoldedArchive", "requireSection", "(I)V"⟩, 15) := ⟨⟨by decide +kernel, by decide +kernel⟩, List.mem_of_getElem? (i := 35) (by decide +kernel), List.mem_of_getElem? (i := 410) (by decide +kernel), List.mem_of_getElem? (i := 411) (by decide +kernel)⟩
theorem lw_p2 : lw_okq (⟨"FoldedArchive$Pile", "layerAfterInsert", "(II)I"⟩, 2) := ⟨⟨by decide +kernel, by decide +kernel⟩, List.mem_of_getElem? (i := 77) (by decide +kernel), List.mem_of_getElem? (i := 500) (by decide +kernel), List.mem_of_getElem? (i := 501) (by decide +kernel)⟩
theorem lw_p3 : lw_okq (⟨"FoldedArchive", "requirePipe", "(I)V"⟩, 15) := ⟨⟨by decide +kernel, by decide +kernel⟩, List.mem_of_getElem? (i := 35) (by decide +kernel), List.mem_of_getElem? (i := 519) (by decide +kernel), List.mem_of_getElem? (i := 520) (by decide +kernel)⟩
theorem lw_p4 : lw_okq (⟨"FoldedArchive", "obey", "(I)V"⟩, 15) := ⟨⟨by decide +kernel, by decide +kernel⟩, List.mem_of_getElem? (i := 35) (by decide +kernel), List.mem_of_getElem? (i := 555) (by decide +kernel), List.mem_of_getElem? (i := 556) (by decide +kernel)⟩
theorem lw_p5 : lw_okq (⟨"FoldedArchive", "recordDenial", "(III)V"⟩, 15) := ⟨⟨by decide +kernel, by decide +kernel⟩, List.mem_of_getElem? (i := 35) (by decide +kernel), List.mem_of_getElem? (i := 574) (by decide +kernel), List.mem_of_getElem? (i := 575) (by decide +kernel)⟩
theorem lw_p6 : lw_okq (⟨"FoldedArchive$FlowSearch", "openPipes", "(LFoldedArchive$Pipes;I)V"⟩, 3) := ⟨⟨by decide +kernel, by decide +kernel⟩, List.mem_of_getElem? (i := 152) (by decide +kernel), List.mem_of_getElem? (i := 597) (by decide +kernel), List.mem_of_getElem? (i := 598) (by decide +kernel)⟩
theorem lw_p7 : lw_okq (⟨"FoldedArchive$FlowSearch", "addSpare", "(III)V"⟩, 3) := ⟨⟨by decide +kernel, by decide +kernel⟩, List.mem_of_getElem? (i := 152) (by decide +kernel), List.mem_of_getElem? (i := 611) (by decide +kernel), List.mem_of_getElem? (i := 612) (by decide +kernel)⟩
theorem lw_p8 : lw_okq (⟨"FoldedArchive$FlowSearch", "reachesLast", "(I)Z"⟩, 3) := ⟨⟨by decide +kernel, by decide +kernel⟩, List.mem_of_getElem? (i := 152) (by decide +kernel), List.mem_of_getElem? (i := 618) (by decide +kernel), List.mem_of_getElem? (i := 619) (by decide +kernel)⟩
theorem lw_p9 : lw_okq (⟨"FoldedArchive$FlowSearch", "spareOf", "(II)I"⟩, 3) := ⟨⟨by decide +kernel, by decide +kernel⟩, List.mem_of_getElem? (i := 152) (by decide +kernel), List.mem_of_getElem? (i := 622) (by decide +kernel), List.mem_of_getElem? (i := 623) (by decide +kernel)⟩
theorem lw_p10 : lw_okq (⟨"FoldedArchive$FlowSearch", "previousOf", "(I)I"⟩, 3) := ⟨⟨by decide +kernel, by decide +kernel⟩, List.mem_of_getElem? (i := 152) (by decide +kernel), List.mem_of_getElem? (i := 626) (by decide +kernel), List.mem_of_getElem? (i := 627) (by decide +kernel)⟩
theorem lw_p11 : lw_okq (⟨"FoldedArchive$FlowSearch", "augment", "(I)I"⟩, 3) := ⟨⟨by decide +kernel, by decide +kernel⟩, List.mem_of_getElem? (i := 152) (by decide +kernel), List.mem_of_getElem? (i := 630) (by decide +kernel), List.mem_of_getElem? (i := 631) (by decide +kernel)⟩
theorem lw_p12 : lw_okq (⟨"FoldedArchive", "change", "(IIII)I"⟩, 15) := ⟨⟨by decide +kernel, by decide +kernel⟩, List.mem_of_getElem? (i := 35) (by decide +kernel), List.mem_of_getElem? (i := 670) (by decide +kernel), List.mem_of_getElem? (i := 671) (by decide +kernel)⟩
theorem lw_p13 : lw_okq (⟨"FoldedArchive$State", "judgePour", "(II)I"⟩, 3) := ⟨⟨by decide +kernel, by decide +kernel⟩, List.mem_of_getElem? (i := 43) (by decide +kernel), List.mem_of_getElem? (i := 678) (by decide +kernel), List.mem_of_getElem? (i := 679) (by decide +kernel)⟩
theorem lw_p14 : lw_okq (⟨"FoldedArchive$State", "judgeTerm", "(IIZ)I"⟩, 3) := ⟨⟨by decide +kernel, by decide +kernel⟩, List.mem_of_getElem? (i := 43) (by decide +kernel), List.mem_of_getElem? (i := 684) (by decide +kernel), List.mem_of_getElem? (i := 685) (by decide +kernel)⟩
theorem lw_p15 : lw_okq (⟨"FoldedArchive$State", "judgePipe", "(III)I"⟩, 3) := ⟨⟨by decide +kernel, by decide +kernel⟩, List.mem_of_getElem? (i := 43) (by decide +kernel), List.mem_of_getElem? (i := 710) (by decide +kernel), List.mem_of_getElem? (i := 711) (by decide +kernel)⟩
def lw_privs_1 : List (MethodName × Nat) := [(⟨"java/lang/Throwable", "fillInStackTrace", "(I)Ljava/lang/Throwable;"⟩, 6), (⟨"FoldedArchive", "requireSection", "(I)V"⟩, 15), (⟨"FoldedArchive$Pile", "layerAfterInsert", "(II)I"⟩, 2), (⟨"FoldedArchive", "requirePipe", "(I)V"⟩, 15), (⟨"FoldedArchive", "obey", "(I)V"⟩, 15), (⟨"FoldedArchive", "recordDenial", "(III)V"⟩, 15), (⟨"FoldedArchive$FlowSearch", "openPipes", "(LFoldedArchive$Pipes;I)V"⟩, 3), (⟨"FoldedArchive$FlowSearch", "addSpare", "(III)V"⟩, 3), (⟨"FoldedArchive$FlowSearch", "reachesLast", "(I)Z"⟩, 3), (⟨"FoldedArchive$FlowSearch", "spareOf", "(II)I"⟩, 3), (⟨"FoldedArchive$FlowSearch", "previousOf", "(I)I"⟩, 3), (⟨"FoldedArchive$FlowSearch", "augment", "(I)I"⟩, 3), (⟨"FoldedArchive", "change", "(IIII)I"⟩, 15), (⟨"FoldedArchive$State", "judgePour", "(II)I"⟩, 3), (⟨"FoldedArchive$State", "judgeTerm", "(IIZ)I"⟩, 3), (⟨"FoldedArchive$State", "judgePipe", "(III)I"⟩, 3)]
theorem lw_r1 : ∀ q ∈ lw_privs_1, lw_okq q := List.forall_mem_cons.mpr ⟨lw_p0, List.forall_mem_cons.mpr ⟨lw_p1, List.forall_mem_cons.mpr ⟨lw_p2, List.forall_mem_cons.mpr ⟨lw_p3, List.forall_mem_cons.mpr ⟨lw_p4, List.forall_mem_cons.mpr ⟨lw_p5, List.forall_mem_cons.mpr ⟨lw_p6, List.forall_mem_cons.mpr ⟨lw_p7, List.forall_mem_cons.mpr ⟨lw_p8, List.forall_mem_cons.mpr ⟨lw_p9, List.forall_mem_cons.mpr ⟨lw_p10, List.forall_mem_cons.mpr ⟨lw_p11, List.forall_mem_cons.mpr ⟨lw_p12, List.forall_mem_cons.mpr ⟨lw_p13, List.forall_mem_cons.mpr ⟨lw_p14, List.forall_mem_cons.mpr ⟨lw_p15, fun _ h => absurd h List.not_mem_nil⟩⟩⟩⟩⟩⟩⟩⟩⟩⟩⟩⟩⟩⟩⟩⟩
theorem lw_p16 : lw_okq (⟨"FoldedArchive$State", "judgeBroken", "(IZ)I"⟩, 3) := ⟨⟨by decide +kernel, by decide +kernel⟩, List.mem_of_getElem? (i := 43) (by decide +kernel), List.mem_of_getElem? (i := 715) (by decide +kernel), List.mem_of_getElem? (i := 716) (by decide +kernel)⟩
theorem lw_p17 : lw_okq (⟨"FoldedArchive$History", "stateAt", "(I)LFoldedArchive$State;"⟩, 3) := ⟨⟨by decide +kernel, by decide +kernel⟩, List.mem_of_getElem? (i := 132) (by decide +kernel), List.mem_of_getElem? (i := 726) (by decide +kernel), List.mem_of_getElem? (i := 727) (by decide +kernel)⟩
theorem lw_p18 : lw_okq (⟨"FoldedArchive$Strip", "add", "(II)V"⟩, 5) := ⟨⟨by decide +kernel, by decide +kernel⟩, List.mem_of_getElem? (i := 49) (by decide +kernel), List.mem_of_getElem? (i := 764) (by decide +kernel), List.mem_of_getElem? (i := 765) (by decide +kernel)⟩
theorem lw_p19 : lw_okq (⟨"FoldedArchive$State", "moveAlongPipes", "(I)I"⟩, 3) := ⟨⟨by decide +kernel, by decide +kernel⟩, List.mem_of_getElem? (i := 43) (by decide +kernel), List.mem_of_getElem? (i := 803) (by decide +kernel), List.mem_of_getElem? (i := 804) (by decide +kernel)⟩
theorem lw_p20 : lw_okq (⟨"FoldedArchive$State", "moveDownPile", "()I"⟩, 3) := ⟨⟨by decide +kernel, by decide +kernel⟩, List.mem_of_getElem? (i := 43) (by decide +kernel), List.mem_of_getElem? (i := 822) (by decide +kernel), List.mem_of_getElem? (i := 823) (by decide +kernel)⟩
theorem lw_p21 : lw_okq (⟨"FoldedArchive$CommandReader", "readCommand", "(LFoldedArchive$Row;I)V"⟩, 6) := ⟨⟨by decide +kernel, by decide +kernel⟩, List.mem_of_getElem? (i := 223) (by decide +kernel), List.mem_of_getElem? (i := 1233) (by decide +kernel), List.mem_of_getElem? (i := 1234) (by decide +kernel)⟩
theorem lw_p22 : lw_okq (⟨"FoldedArchive$CommandReader", "follows", "(LFoldedArchive$Row;ILjava/lang/String;)Z"⟩, 6) := ⟨⟨by decide +kernel, by decide +kernel⟩, List.mem_of_getElem? (i := 223) (by decide +kernel), List.mem_of_getElem? (i := 1252) (by decide +kernel), List.mem_of_getElem? (i := 1253) (by decide +kernel)⟩
theorem lw_p23 : lw_okq (⟨"FoldedArchive$CommandReader", "followsSign", "(LFoldedArchive$Row;C)Z"⟩, 6) := ⟨⟨by decide +kernel, by decide +kernel⟩, List.mem_of_getElem? (i := 223) (by decide +kernel), List.mem_of_getElem? (i := 1258) (by decide +kernel), List.mem_of_getElem? (i := 1259) (by decide +kernel)⟩
theorem lw_p24 : lw_okq (⟨"FoldedArchive$CommandReader", "takeOperand", "(I)V"⟩, 6) := ⟨⟨by decide +kernel, by decide +kernel⟩, List.mem_of_getElem? (i := 223) (by decide +kernel), List.mem_of_getElem? (i := 1273) (by decide +kernel), List.mem_of_getElem? (i := 1274) (by decide +kernel)⟩
theorem lw_p25 : lw_okq (⟨"FoldedArchive$CommandReader", "numberFrom", "(LFoldedArchive$Row;C)I"⟩, 6) := ⟨⟨by decide +kernel, by decide +kernel⟩, List.mem_of_getElem? (i := 223) (by decide +kernel), List.mem_of_getElem? (i := 1277) (by decide +kernel), List.mem_of_getElem? (i := 1278) (by decide +kernel)⟩
theorem lw_p26 : lw_okq (⟨"FoldedArchive$CommandReader", "append", "(I)V"⟩, 6) := ⟨⟨by decide +kernel, by decide +kernel⟩, List.mem_of_getElem? (i := 223) (by decide +kernel), List.mem_of_getElem? (i := 1281) (by decide +kernel), List.mem_of_getElem? (i := 1282) (by decide +kernel)⟩
theorem lw_p27 : lw_okq (⟨"FoldedArchive", "refuseFault", "(I)V"⟩, 15) := ⟨⟨by decide +kernel, by decide +kernel⟩, List.mem_of_getElem? (i := 35) (by decide +kernel), List.mem_of_getElem? (i := 1290) (by decide +kernel), List.mem_of_getElem? (i := 1291) (by decide +kernel)⟩
theorem lw_p28 : lw_okq (⟨"FoldedArchive", "runCommand", "(I)I"⟩, 15) := ⟨⟨by decide +kernel, by decide +kernel⟩, List.mem_of_getElem? (i := 35) (by decide +kernel), List.mem_of_getElem? (i := 1295) (by decide +kernel), List.mem_of_getElem? (i := 1296) (by decide +kernel)⟩
theorem lw_p29 : lw_okq (⟨"FoldedArchive", "requireTerm", "(I)V"⟩, 15) := ⟨⟨by decide +kernel, by decide +kernel⟩, List.mem_of_getElem? (i := 35) (by decide +kernel), List.mem_of_getElem? (i := 1327) (by decide +kernel), List.mem_of_getElem? (i := 1328) (by decide +kernel)⟩
theorem lw_p30 : lw_okq (⟨"FoldedArchive$Strip", "rankOf", "(I)I"⟩, 5) := ⟨⟨by decide +kernel, by decide +kernel⟩, List.mem_of_getElem? (i := 49) (by decide +kernel), List.mem_of_getElem? (i := 1365) (by decide +kernel), List.mem_of_getElem? (i := 1366) (by decide +kernel)⟩
theorem lw_p31 : lw_okq (⟨"FoldedArchive$Strip", "comesBefore", "(II)Z"⟩, 5) := ⟨⟨by decide +kernel, by decide +kernel⟩, List.mem_of_getElem? (i := 49) (by decide +kernel), List.mem_of_getElem? (i := 1369) (by decide +kernel), List.mem_of_getElem? (i := 1370) (by decide +kernel)⟩
def lw_privs_2 : List (MethodName × Nat) := [(⟨"FoldedArchive$State", "judgeBroken", "(IZ)I"⟩, 3), (⟨"FoldedArchive$History", "stateAt", "(I)LFoldedArchive$State;"⟩, 3), (⟨"FoldedArchive$Strip", "add", "(II)V"⟩, 5), (⟨"FoldedArchive$State", "moveAlongPipes", "(I)I"⟩, 3), (⟨"FoldedArchive$State", "moveDownPile", "()I"⟩, 3), (⟨"FoldedArchive$CommandReader", "readCommand", "(LFoldedArchive$Row;I)V"⟩, 6), (⟨"FoldedArchive$CommandReader", "follows", "(LFoldedArchive$Row;ILjava/lang/String;)Z"⟩, 6), (⟨"FoldedArchive$CommandReader", "followsSign", "(LFoldedArchive$Row;C)Z"⟩, 6), (⟨"FoldedArchive$CommandReader", "takeOperand", "(I)V"⟩, 6), (⟨"FoldedArchive$CommandReader", "numberFrom", "(LFoldedArchive$Row;C)I"⟩, 6), (⟨"FoldedArchive$CommandReader", "append", "(I)V"⟩, 6), (⟨"FoldedArchive", "refuseFault", "(I)V"⟩, 15), (⟨"FoldedArchive", "runCommand", "(I)I"⟩, 15), (⟨"FoldedArchive", "requireTerm", "(I)V"⟩, 15), (⟨"FoldedArchive$Strip", "rankOf", "(I)I"⟩, 5), (⟨"FoldedArchive$Strip", "comesBefore", "(II)Z"⟩, 5)]
theorem lw_r2 : ∀ q ∈ lw_privs_2, lw_okq q := List.forall_mem_cons.mpr ⟨lw_p16, List.forall_mem_cons.mpr ⟨lw_p17, List.forall_mem_cons.mpr ⟨lw_p18, List.forall_mem_cons.mpr ⟨lw_p19, List.forall_mem_cons.mpr ⟨lw_p20, List.forall_mem_cons.mpr ⟨lw_p21, List.forall_mem_cons.mpr ⟨lw_p22, List.forall_mem_cons.mpr ⟨lw_p23, List.forall_mem_cons.mpr ⟨lw_p24, List.forall_mem_cons.mpr ⟨lw_p25, List.forall_mem_cons.mpr ⟨lw_p26, List.forall_mem_cons.mpr ⟨lw_p27, List.forall_mem_cons.mpr ⟨lw_p28, List.forall_mem_cons.mpr ⟨lw_p29, List.forall_mem_cons.mpr ⟨lw_p30, List.forall_mem_cons.mpr ⟨lw_p31, fun _ h => absurd h List.not_mem_nil⟩⟩⟩⟩⟩⟩⟩⟩⟩⟩⟩⟩⟩⟩⟩⟩
theorem lw_p32 : lw_okq (⟨"FoldedArchive$SearchReader", "readSum", "(LFoldedArchive$Row;I)I"⟩, 4) := ⟨⟨by decide +kernel, by decide +kernel⟩, List.mem_of_getElem? (i := 203) (by decide +kernel), List.mem_of_getElem? (i := 1468) (by decide +kernel), List.mem_of_getElem? (i := 1469) (by decide +kernel)⟩
theorem lw_p33 : lw_okq (⟨"FoldedArchive$SearchReader", "readProduct", "(LFoldedArchive$Row;I)I"⟩, 4) := ⟨⟨by decide +kernel, by decide +kernel⟩, List.mem_of_getElem? (i := 203) (by decide +kernel), List.mem_of_getElem? (i := 1472) (by decide +kernel), List.mem_of_getElem? (i := 1473) (by decide +kernel)⟩
theorem lw_p34 : lw_okq (⟨"FoldedArchive$SearchReader", "readFactor", "(LFoldedArchive$Row;I)I"⟩, 4) := ⟨⟨by decide +kernel, by decide +kernel⟩, List.mem_of_getElem? (i := 203) (by decide +kernel), List.mem_of_getElem? (i := 1476) (by decide +kernel), List.mem_of_getElem? (i := 1477) (by decide +kernel)⟩
theorem lw_p35 : lw_okq (⟨"FoldedArchive$SearchReader", "readPlainFactor", "(LFoldedArchive$Row;I)I"⟩, 4) := ⟨⟨by decide +kernel, by decide +kernel⟩, List.mem_of_getElem? (i := 203) (by decide +kernel), List.mem_of_getElem? (i := 1481) (by decide +kernel), List.mem_of_getElem? (i := 1482) (by decide +kernel)⟩
theorem lw_p36 : lw_okq (⟨"FoldedArchive$SearchReader", "bearersOf", "(I)I"⟩, 4) := ⟨⟨by decide +kernel, by decide +kernel⟩, List.mem_of_getElem? (i := 203) (by decide +kernel), List.mem_of_getElem? (i := 1486) (by decide +kernel), List.mem_of_getElem? (i := 1487) (by decide +kernel)⟩
theorem lw_p37 : lw_okq (⟨"FoldedArchive$FoldingSearch", "foldRest", "(II)I"⟩, 2) := ⟨⟨by decide +kernel, by decide +kernel⟩, List.mem_of_getElem? (i := 168) (by decide +kernel), List.mem_of_getElem? (i := 1566) (by decide +kernel), List.mem_of_getElem? (i := 1567) (by decide +kernel)⟩
theorem lw_p38 : lw_okq (⟨"FoldedArchive$FoldingSearch", "foldInto", "(III)I"⟩, 2) := ⟨⟨by decide +kernel, by decide +kernel⟩, List.mem_of_getElem? (i := 168) (by decide +kernel), List.mem_of_getElem? (i := 1571) (by decide +kernel), List.mem_of_getElem? (i := 1572) (by decide +kernel)⟩
theorem lw_p39 : lw_okq (⟨"FoldedArchive$FoldingSearch", "placeRest", "(II)I"⟩, 2) := ⟨⟨by decide +kernel, by decide +kernel⟩, List.mem_of_getElem? (i := 168) (by decide +kernel), List.mem_of_getElem? (i := 1585) (by decide +kernel), List.mem_of_getElem? (i := 1586) (by decide +kernel)⟩
theorem lw_p40 : lw_okq (⟨"FoldedArchive$FoldingSearch", "isNextOfPile", "(II)Z"⟩, 2) := ⟨⟨by decide +kernel, by decide +kernel⟩, List.mem_of_getElem? (i := 168) (by decide +kernel), List.mem_of_getElem? (i := 1589) (by decide +kernel), List.mem_of_getElem? (i := 1590) (by decide +kernel)⟩
theorem lw_p41 : lw_okq (⟨"FoldedArchive$FoldingSearch", "goOnAbove", "(III)I"⟩, 2) := ⟨⟨by decide +kernel, by decide +kernel⟩, List.mem_of_getElem? (i := 168) (by decide +kernel), List.mem_of_getElem? (i := 1594) (by decide +kernel), List.mem_of_getElem? (i := 1595) (by decide +kernel)⟩
theorem lw_p42 : lw_okq (⟨"FoldedArchive$FoldingSearch", "spanCrosses", "(II)Z"⟩, 2) := ⟨⟨by decide +kernel, by decide +kernel⟩, List.mem_of_getElem? (i := 168) (by decide +kernel), List.mem_of_getElem? (i := 1598) (by decide +kernel), List.mem_of_getElem? (i := 1599) (by decide +kernel)⟩
theorem lw_p43 : lw_okq (⟨"FoldedArchive$FoldingSearch", "placeOf", "(II)I"⟩, 2) := ⟨⟨by decide +kernel, by decide +kernel⟩, List.mem_of_getElem? (i := 168) (by decide +kernel), List.mem_of_getElem? (i := 1602) (by decide +kernel), List.mem_of_getElem? (i := 1603) (by decide +kernel)⟩
def lw_privs_3 : List (MethodName × Nat) := [(⟨"FoldedArchive$SearchReader", "readSum", "(LFoldedArchive$Row;I)I"⟩, 4), (⟨"FoldedArchive$SearchReader", "readProduct", "(LFoldedArchive$Row;I)I"⟩, 4), (⟨"FoldedArchive$SearchReader", "readFactor", "(LFoldedArchive$Row;I)I"⟩, 4), (⟨"FoldedArchive$SearchReader", "readPlainFactor", "(LFoldedArchive$Row;I)I"⟩, 4), (⟨"FoldedArchive$SearchReader", "bearersOf", "(I)I"⟩, 4), (⟨"FoldedArchive$FoldingSearch", "foldRest", "(II)I"⟩, 2), (⟨"FoldedArchive$FoldingSearch", "foldInto", "(III)I"⟩, 2), (⟨"FoldedArchive$FoldingSearch", "placeRest", "(II)I"⟩, 2), (⟨"FoldedArchive$FoldingSearch", "isNextOfPile", "(II)Z"⟩, 2), (⟨"FoldedArchive$FoldingSearch", "goOnAbove", "(III)I"⟩, 2), (⟨"FoldedArchive$FoldingSearch", "spanCrosses", "(II)Z"⟩, 2), (⟨"FoldedArchive$FoldingSearch", "placeOf", "(II)I"⟩, 2)]
theorem lw_r3 : ∀ q ∈ lw_privs_3, lw_okq q := List.forall_mem_cons.mpr ⟨lw_p32, List.forall_mem_cons.mpr ⟨lw_p33, List.forall_mem_cons.mpr ⟨lw_p34, List.forall_mem_cons.mpr ⟨lw_p35, List.forall_mem_cons.mpr ⟨lw_p36, List.forall_mem_cons.mpr ⟨lw_p37, List.forall_mem_cons.mpr ⟨lw_p38, List.forall_mem_cons.mpr ⟨lw_p39, List.forall_mem_cons.mpr ⟨lw_p40, List.forall_mem_cons.mpr ⟨lw_p41, List.forall_mem_cons.mpr ⟨lw_p42, List.forall_mem_cons.mpr ⟨lw_p43, fun _ h => absurd h List.not_mem_nil⟩⟩⟩⟩⟩⟩⟩⟩⟩⟩⟩⟩
def lw_privs : List (MethodName × Nat) := lw_privs_1 ++ (lw_privs_2 ++ (lw_privs_3))
def lw_tbl : List Cond := k2_sels lw_privs ++ tables_1
theorem lw_privs_ok : ∀ q ∈ lw_privs, lw_okq q := by
  show ∀ q ∈ lw_privs_1 ++ (lw_privs_2 ++ (lw_privs_3)), lw_okq q
  exact List.forall_mem_append.mpr ⟨lw_r1, List.forall_mem_append.mpr ⟨lw_r2, lw_r3⟩⟩
/-- the streams that the claim lets the run draw from -/
abbrev lw_cs : List Choice := [Jvm.Choice.named "NaN.bits"]
theorem lw_bits : nanBits ∈ lw_cs := by first | decide | exact List.mem_cons_self | simp [lw_cs, nanBits]
end
section
/-! ===== BEGIN words of one list among another's, by their places ===== -/
theorem goodIn_r {big : List Cond} (ws : List Cond) (ps : List Nat) (hp : ws = ps.filterMap (fun i => big[i]?)) (h : ws.all goodWord = true) : GoodIn big ws := by
  intro w hw
  have h1 := List.all_eq_true.mp h w hw
  rw [hp] at hw
  obtain ⟨i, -, hi⟩ := List.mem_filterMap.mp hw
  have hm : w ∈ big := by first | exact List.mem_of_getElem? hi | exact List.getElem?_mem hi
  exact ⟨hm, good_of_word h1⟩
theorem goodIn_app {big a b : List Cond} (ha : GoodIn big a) (hb : GoodIn big b) : GoodIn big (a ++ b) := fun w h => (List.mem_append.mp h).elim (ha w) (hb w)
theorem goodIn_ca {big a b : List Cond} {c : Cond} (ha : GoodIn big (c :: a)) (hb : GoodIn big b) : GoodIn big (c :: (a ++ b)) := fun w h => (List.mem_cons.mp h).elim (fun e => ha w (List.mem_cons.mpr (Or.inl e))) (fun h => (List.mem_append.mp h).elim (fun h => ha w (List.mem_cons.mpr (Or.inr h))) (hb w))
theorem goodIn_sub {big ws : List Cond} (hm : ∀ w ∈ ws, w ∈ big) (h : ws.all goodWord = true) : GoodIn big ws := fun w hw => ⟨hm w hw, good_of_word (List.all_eq_true.mp h w hw)⟩
/-! ===== END ===== -/

/-! ===== BEGIN exceptions that leave a method, and their catching by the caller (launches without stack traces) ===== -/
section VXA
/-! The laws vx_back, vx_callV, vx_callS, vx_callSW, vx_throw0, vx_throwS follow proofs of the library, with one case more: JvmDerived/Free/Laws.lean (Back.of_free), Shelf42/LK1.lean (callV, callS), Shelf/KitTraced.lean (throwNew0V, throwNewS). -/
/-- where a method has thrown q: the class by its name, the cell, what was written, the world -/
def vx_T (XC : String → State → State → Prop) (st : State) (q : Addr) (t : State) (mc ms : Nat) (free : Addr → Prop) : Prop :=
  ∃ (E : String) (ce : Cell) (L : List Loc), XC E st t ∧ t.heap[q]? = some ce ∧ ce.vm = .none ∧ st.vm.findClass E = some ce.cls ∧ st.WarmedH t.vm ∧ st.sameButNew ({ t with vm := st.vm } : State) L mc ms ∧ ∀ z ∈ L, free z.base
def vx_Q (Qc : Array Value → State → Outcome → State → Prop) (XC : String → State → State → Prop) (mc ms : Nat) (free : Addr → Prop) : Array Value → State → Outcome → State → Prop := fun a st o t =>
  (Qc a st o t ∧ ∃ L, FrameEnd st o t L mc ms ∧ ∀ q ∈ L, free q.base) ∨ ∃ q, o = .threw q ∧ vx_T XC st q t mc ms free
/-- a callee that returns or throws -/
def vx_Met (l : Launch) (y : MethodName) (ws : List Cond) (rm : Room) (Pc : Array Value → State → Prop) (Qc : Array Value → State → Outcome → State → Prop) (XC : String → State → State → Prop) (mc ms : Nat) (free : Addr → Prop) : Prop :=
  MetFree l y (headSpec ws rm) Pc (fun _ _ _ _ _ => True) (vx_Q Qc XC mc ms free)
def vx_Post (XC : String → State → State → Prop) (mc ms : Nat) (free : Addr → Prop) : Pt → Array Value → Addr → Pt → Prop := fun A a q B =>
  ∃ (g : JFrame) (mk : MethodId) (t : State) (L : List Loc) (E : String) (ce : Cell), B.U.heap = t.heap ∧ B.U.vm = t.vm ∧ XC E (A.U.calling g mk a) t ∧ t.heap[q]? = some ce ∧ ce.vm = .none ∧ A.U.vm.findClass E = some ce.cls ∧ B.locs = A.locs ++ L ∧ (∀ z ∈ L, free z.base) ∧ B.cells = A.cells + mc ∧ B.slots = A.slots + ms
def vx_Back (l : Launch) (R : Room) (p : Program) (e : Env) (below : List Frame) (s : State) (sargs : Array Value) (y : MethodName) (len W9 : Nat)
    (Pre : Pt → Array Value → Prop) (Post : Pt → Array Value → Option Value → Pt → Prop) (PostX : Pt → Array Value → Addr → Pt → Prop) : Prop :=
  ∀ (m : MethodId) (meth : Method) (c : Code) (A : Pt) (g : JFrame) (ig : Instr) (mk : MethodId) (a : Array Value),
    Stand p l e R s m sargs below meth c A.U A.locs A.cells A.slots → g.method = m → g.locals.size = c.maxLocals → decode c.code g.pc = .ok (ig, len) →
    2 * g.monitorRoom + (g.stack.map fun v => v.category).sum ≤ W9 → A.U.methodNamed? y = some mk → Pre A a →
    (∃ (v : Option Value) (B : Pt), Stand p l e R s m sargs below meth c B.U B.locs B.cells B.slots ∧ Post A a v B ∧
      Steps p.tables e below (doInvoke e (A.U.setTop g) [] mk a).1 (B.U.setTop { g with pc := g.pc + len, stack := v.toList ++ g.stack })) ∨
    (∃ (q : Addr) (B : Pt), Stand p l e R s m sargs below meth c B.U B.locs B.cells B.slots ∧ PostX A a q B ∧
      Steps p.tables e below (doInvoke e (A.U.setTop g) [] mk a).1 ((B.U.setTop g).pushFrame (.throwing q)))
section Payer
variable {l : Launch} {R : Room} {p : Program} {e : Env} {below : List Frame} {s : State} {sargs : Array Value} {y : MethodName} {len W9 : Nat}
theorem vx_back {ws : List Cond} {rm : Room} {Pc : Array Value → State → Prop} {Qc : Array Value → State → Outcome → State → Prop} {XC : String → State → State → Prop} {mc ms : Nat} {free : Addr → Prop} {bytes : ByteArray} {maxL : Nat} {ret : Option FieldType}
    (hM : vx_Met l y ws rm Pc Qc XC mc ms free) (hblind : FrameBlind Pc) (hrc : rm.cells = mc) (hrs : rm.slots = ms)
    (hframes : rm.frames + 1 ≤ R.frames) (hlocals : W9 + (maxL + 11) + rm.locals ≤ R.locals)
    (hws : ∀ w ∈ ws, ∀ a' U, s.WarmedH U.vm → w.before a' U = true) (hcode : Cond.code y bytes maxL ret ∈ ws) (hinit : ∀ a' U, s.WarmedH U.vm → (Cond.initialized y.cls).before a' U = true) :
    vx_Back l R p e below s sargs y len W9 (PreOf R mc ms Pc) (PostOf Qc mc ms free) (vx_Post XC mc ms free) := by
  intro m meth c A g ig mk a X hg hsize hdg hW hn hp
  have h1 : (headSpec ws rm).pre.before a A.U = true := atoms_intro fun w hw => hws w hw _ _ X.warmed
  have h2 : (Cond.code y bytes maxL ret).before a A.U = true := hws _ hcode _ _ X.warmed
  have h3 : (Cond.initialized y.cls).before a A.U = true := hinit _ _ X.warmed
  have h4 : A.cells + (headSpec ws rm).room.cells ≤ R.cells := by rw [show (headSpec ws rm).room.cells = mc from hrc]; exact hp.1
  have h5 : A.slots + (headSpec ws rm).room.slots ≤ R.slots := by rw [show (headSpec ws rm).room.slots = ms from hrs]; exact hp.2.1
  have hPc : Pc a (A.U.calling g mk a) := hblind _ _ _ _ hp.2.2
  obtain ⟨U, Ls, c0, s0⟩ := A
  dsimp only [Pt.U, Pt.locs, Pt.cells, Pt.slots] at h1 h2 h3 h4 h5 X hn hPc ⊢
  obtain ⟨methY, cY, hmY, hcY, -, hlY, -, -, -, -⟩ := Cond.code_spec hn h2
  obtain ⟨kY, hkY, -⟩ := className_of_methodNamed hn
  have hinitY : kY.init = .initialized := Cond.initialized_spec (findClass_of_methodNamed hn) hkY h3
  have h : At U g.method c below := by rw [hg]; exact X.here
  have hlocals9 : W9 + (maxL + 11) + (headSpec ws rm).room.locals ≤ R.locals := hlocals
  have happ : (headSpec ws rm).appliesLoose y e.platform (U.calling g mk a) = true :=
    Spec.appliesLoose_calling (g := g) h hdg hn hkY hinitY
      (X.room_calling (g := g) (R' := (headSpec ws rm).room) hsize hmY hcY hframes (by rw [hlY]; omega) h4 h5) h1
  obtain ⟨mid, hmid⟩ := h.above
  have hfr : (U.setTop g).frames = (.java g :: mid) ++ below := by rw [State.frames_setTop' g h.top, hmid]; rfl
  obtain ⟨o, s₂, hsteps, -, hend, hq⟩ := Steps.callFree hM p X.admits X.cas X.clock (acts := []) hfr happ hPc trivial
  have hq' : vx_Q Qc XC mc ms free a (U.calling g mk a) o s₂ := hq
  rw [State.frames_setTop' g h.top] at hend
  obtain ⟨g₀, hg0⟩ := Option.isSome_iff_exists.mp h.top
  obtain ⟨r, hr⟩ := State.topJava?_eq_some.mp hg0
  have hr' : (({ U with heap := s₂.heap, slotsUsed := s₂.slotsUsed } : State).setVm s₂.vm).frames = .java g₀ :: r := hr
  rcases hq' with ⟨hqc, L, hfe, hL⟩ | ⟨q, rfl, E, ce, L, hx, hce, hcv, hcl, hW₂, hsm, hL⟩
  · obtain ⟨⟨v, rfl⟩, hW₂, e2, q2, q3, q4, q5, q6⟩ := id hfe
    have e3 : s₂ = ({ (U.calling g mk a).setFrames s₂.frames with heap := s₂.heap, slotsUsed := s₂.slotsUsed } : State).setVm s₂.vm := by
      have : s₂ = ({ s₂ with vm := (U.calling g mk a).vm } : State).setVm s₂.vm := rfl
      rw [e2] at this
      exact this
    obtain ⟨c₂, i₂, len₂, hc₂, hd₂, hf₂⟩ := hend
    have hW' : U.WarmedH s₂.vm := hW₂
    have hcc : c₂ = c := by
      have h1 : s₂.code? g.method = U.code? g.method := by
        rw [State.code?_eq, State.code?_eq, hW'.alike.method?]
      exact Option.some.inj (hc₂.symm.trans (h1.trans h.code))
    subst hcc
    have hlen : len₂ = len := by rw [hdg] at hd₂; cases hd₂; rfl
    subst hlen
    have hs₂ : s₂ = (({ U with heap := s₂.heap, slotsUsed := s₂.slotsUsed } : State).setVm s₂.vm).setTop { g with pc := g.pc + len₂, stack := v.toList ++ g.stack } := by
      refine e3.trans ?_
      rw [hf₂, State.calling_eq h.top, State.setFrames_setFrames, State.setTop_of_frames _ hr', hr]
      rfl
    have hsame : U.sameButNew ({ U with heap := s₂.heap, slotsUsed := s₂.slotsUsed } : State) L mc ms := by
      refine ⟨?_, q2, q3, q4, q5, q6⟩
      obtain ⟨t, ht, -⟩ := State.frames_cons hr
      show ({ U with heap := s₂.heap, slotsUsed := s₂.slotsUsed } : State) = { U.setFrames U.frames with heap := s₂.heap, slotsUsed := s₂.slotsUsed }
      rw [State.setFrames_self ht]
    subst hg
    refine Or.inl ⟨v, ⟨(({ U with heap := s₂.heap, slotsUsed := s₂.slotsUsed } : State).setVm s₂.vm), Ls ++ L, c0 + mc, s0 + ms⟩,
      ⟨X.admits, X.cas, X.clock, X.frames, X.room, X.hears, X.method, X.code, (X.here.setHeapUsed s₂.heap s₂.slotsUsed).setVm hW'.alike, X.tail, State.WarmedH.trans X.warmed hW', X.limits, X.bytes, X.same.trans (hsame.setVm s.vm)⟩,
      ⟨g, mk, s₂, L, rfl, rfl, hqc, rfl, hL, rfl, rfl⟩, ?_⟩
    show Steps p.tables e below _ ((({ U with heap := s₂.heap, slotsUsed := s₂.slotsUsed } : State).setVm s₂.vm).setTop { g with pc := g.pc + len₂, stack := v.toList ++ g.stack })
    rw [← hs₂]
    exact hsteps
  · obtain ⟨e2, q2, q3, q4, q5, q6⟩ := id hsm
    have e3 : s₂ = ({ (U.calling g mk a).setFrames s₂.frames with heap := s₂.heap, slotsUsed := s₂.slotsUsed } : State).setVm s₂.vm := by
      have : s₂ = ({ s₂ with vm := (U.calling g mk a).vm } : State).setVm s₂.vm := rfl
      rw [e2] at this
      exact this
    have hf₂ : s₂.frames = .throwing q :: .java g :: U.frames.tail := hend
    have hW' : U.WarmedH s₂.vm := hW₂
    have hs₂ : s₂ = ((({ U with heap := s₂.heap, slotsUsed := s₂.slotsUsed } : State).setVm s₂.vm).setTop g).pushFrame (.throwing q) := by
      refine e3.trans ?_
      rw [hf₂, State.calling_eq h.top, State.setFrames_setFrames, State.pushFrame, State.frames_setTop _ hr', State.setTop_of_frames _ hr', State.setFrames_setFrames, hr]
      rfl
    have hsame : U.sameButNew ({ U with heap := s₂.heap, slotsUsed := s₂.slotsUsed } : State) L mc ms := by
      refine ⟨?_, q2, q3, q4, q5, q6⟩
      obtain ⟨t, ht, -⟩ := State.frames_cons hr
      show ({ U with heap := s₂.heap, slotsUsed := s₂.slotsUsed } : State) = { U.setFrames U.frames with heap := s₂.heap, slotsUsed := s₂.slotsUsed }
      rw [State.setFrames_self ht]
    subst hg
    refine Or.inr ⟨q, ⟨(({ U with heap := s₂.heap, slotsUsed := s₂.slotsUsed } : State).setVm s₂.vm), Ls ++ L, c0 + mc, s0 + ms⟩,
      ⟨X.admits, X.cas, X.clock, X.frames, X.room, X.hears, X.method, X.code, (X.here.setHeapUsed s₂.heap s₂.slotsUsed).setVm hW'.alike, X.tail, State.WarmedH.trans X.warmed hW', X.limits, X.bytes, X.same.trans (hsame.setVm s.vm)⟩,
      ⟨g, mk, s₂, L, E, ce, rfl, rfl, hx, hce, hcv, hcl, rfl, hL, rfl, rfl⟩, ?_⟩
    show Steps p.tables e below _ (((({ U with heap := s₂.heap, slotsUsed := s₂.slotsUsed } : State).setVm s₂.vm).setTop g).pushFrame (.throwing q))
    rw [← hs₂]
    exact hsteps
end Payer
section Calls
variable {p : Program} {l : Launch} {e : Env} {R : Room} {s : State} {m : MethodId} {args : Array Value} {below : List Frame} {meth : Method} {c : Code} {T : State} {locs : List Loc} {cells slots : Nat}
theorem vx_callV (X : Stand p l e R s m args below meth c T locs cells slots) (hexec : p.tables.exec = Jvm.exec) {own C : String} {index : Nat} {y : MethodName} {bytes : ByteArray} {maxL : Nat} {ret : Option FieldType}
    (hown : s.vm.findClass own = some m.cls) (hlink : (Cond.methodLink own index y).before args s = true) (hinst : (Cond.instanceMethod y).before args s = true) (hsel : (Cond.selects C y y).before args s = true)
    (hcode : (Cond.code y bytes maxL ret).before args s = true) (hy : y.cls ≠ "java/lang/invoke/MethodHandle" ∧ y.cls ≠ "java/lang/invoke/VarHandle")
    {W9 : Nat} {Pre : Pt → Array Value → Prop} {Post : Pt → Array Value → Option Value → Pt → Prop} {PostX : Pt → Array Value → Addr → Pt → Prop} (hK : vx_Back l R p e below s args y 3 W9 Pre Post PostX)
    {b : Addr} {cellB : Cell} (hcell : T.heap[b]? = some cellB) (hobj : cellB.vm.isStatics = false) (hcls : s.vm.findClass C = some cellB.cls)
    {g : JFrame} (hg : g.method = m) (hsize : g.locals.size = c.maxLocals) {argsL rest : List Value} (hlen : ∀ sig, parseMethodDescriptor y.desc = some sig → argsL.length = sig.parameters.length)
    (hstack : g.stack = argsL.reverse ++ .ref b :: rest) (hW : 2 * g.monitorRoom + (rest.map fun v => v.category).sum ≤ W9) (hdg : decode c.code g.pc = .ok (.invokevirtual index, 3))
    (hpre : ∀ vm₁, s.WarmedH vm₁ → Pre ⟨T.setVm vm₁, locs, cells, slots⟩ (Value.ref b :: argsL).toArray) :
    (∃ (v : Option Value) (vm₁ : Vm) (B : Pt), s.WarmedH vm₁ ∧ Stand p l e R s m args below meth c B.U B.locs B.cells B.slots ∧ Post ⟨T.setVm vm₁, locs, cells, slots⟩ (Value.ref b :: argsL).toArray v B ∧
      ∀ target, Steps p.tables e below (B.U.setTop { g with pc := g.pc + 3, stack := v.toList ++ rest }) target → Steps p.tables e below (T.setTop g) target) ∨
    (∃ (q : Addr) (vm₁ : Vm) (B : Pt), s.WarmedH vm₁ ∧ Stand p l e R s m args below meth c B.U B.locs B.cells B.slots ∧ PostX ⟨T.setVm vm₁, locs, cells, slots⟩ (Value.ref b :: argsL).toArray q B ∧
      Steps p.tables e below (T.setTop g) ((B.U.setTop { g with stack := rest }).pushFrame (.throwing q))) := by
  obtain ⟨mk, methM, hnamed, hmethM, hstM, habM⟩ := Cond.instanceMethod_spec hinst
  obtain ⟨methM', cM, hmethM', -, -, -, -, -, -, hsigM⟩ := Cond.code_spec hnamed hcode
  cases hmethM.symm.trans hmethM'
  obtain ⟨c2, r2, m2, q1, q2, q3, q4, kP, hkP, hkPi⟩ := Cond.selects_spec hsel
  cases hcls.symm.trans q1
  cases (State.methodFound?_of_named hnamed hy).symm.trans q2
  cases hnamed.symm.trans q3
  have hselP : selectMethod e.platform s.vm cellB.cls mk = .method mk := by rw [Launch.admits_selectMethod X.admits]; exact q4
  obtain ⟨vm₁, X₁, hstep₁⟩ := X.invokevirtual hexec hown hlink hnamed hmethM hstM hkP hkPi hy (a := b) (cell := cellB) hcell
    (fun z h => by rw [h] at hobj; cases hobj) hselP hmethM habM hkP hkPi (g := g) hg (argsL := argsL) (rest := rest) (hlen _ hsigM) hstack hdg
  rcases hK m meth c ⟨T.setVm vm₁, locs, cells, slots⟩ { g with stack := rest } (.invokevirtual index) mk (Value.ref b :: argsL).toArray X₁ hg hsize hdg hW (X₁.named hnamed) (hpre vm₁ X₁.warmed) with ⟨v, B, X', hpost, hsteps⟩ | ⟨q, B, X', hpost, hsteps⟩
  · exact Or.inl ⟨v, vm₁, B, X₁.warmed, X', hpost, fun target h => hstep₁ _ fun acts => by rw [doInvoke_state]; exact hsteps.trans h⟩
  · exact Or.inr ⟨q, vm₁, B, X₁.warmed, X', hpost, hstep₁ _ fun acts => by rw [doInvoke_state]; exact hsteps⟩
theorem vx_callS (X : Stand p l e R s m args below meth c T locs cells slots) (hexec : p.tables.exec = Jvm.exec) {own : String} {index : Nat} {y : MethodName} {bytes : ByteArray} {maxL : Nat} {ret : Option FieldType}
    (hown : s.vm.findClass own = some m.cls) (hlink : (Cond.methodLink own index y).before args s = true) (hstat : (Cond.static y).before args s = true) (hinit : (Cond.initialized y.cls).before args s = true)
    (hcode : (Cond.code y bytes maxL ret).before args s = true) (hy : y.cls ≠ "java/lang/invoke/MethodHandle" ∧ y.cls ≠ "java/lang/invoke/VarHandle")
    {W9 : Nat} {Pre : Pt → Array Value → Prop} {Post : Pt → Array Value → Option Value → Pt → Prop} {PostX : Pt → Array Value → Addr → Pt → Prop} (hK : vx_Back l R p e below s args y 3 W9 Pre Post PostX)
    {g : JFrame} (hg : g.method = m) (hsize : g.locals.size = c.maxLocals) {argsL rest : List Value} (hlen : ∀ sig, parseMethodDescriptor y.desc = some sig → argsL.length = sig.parameters.length)
    (hstack : g.stack = argsL.reverse ++ rest) (hW : 2 * g.monitorRoom + (rest.map fun v => v.category).sum ≤ W9) (hdg : decode c.code g.pc = .ok (.invokestatic index, 3))
    (hpre : ∀ vm₁, s.WarmedH vm₁ → Pre ⟨T.setVm vm₁, locs, cells, slots⟩ argsL.toArray) :
    (∃ (v : Option Value) (vm₁ : Vm) (B : Pt), s.WarmedH vm₁ ∧ Stand p l e R s m args below meth c B.U B.locs B.cells B.slots ∧ Post ⟨T.setVm vm₁, locs, cells, slots⟩ argsL.toArray v B ∧
      ∀ target, Steps p.tables e below (B.U.setTop { g with pc := g.pc + 3, stack := v.toList ++ rest }) target → Steps p.tables e below (T.setTop g) target) ∨
    (∃ (q : Addr) (vm₁ : Vm) (B : Pt), s.WarmedH vm₁ ∧ Stand p l e R s m args below meth c B.U B.locs B.cells B.slots ∧ PostX ⟨T.setVm vm₁, locs, cells, slots⟩ argsL.toArray q B ∧
      Steps p.tables e below (T.setTop g) ((B.U.setTop { g with stack := rest }).pushFrame (.throwing q))) := by
  obtain ⟨mk, hnamed⟩ := Cond.code_named hcode
  obtain ⟨methM, cM, hmethM, -, -, -, -, -, -, hsigM⟩ := Cond.code_spec hnamed hcode
  have hstatic : methM.isStatic = true := Cond.static_spec hnamed hmethM hstat
  obtain ⟨kP, hkP, -⟩ := className_of_methodNamed hnamed
  have hinitP : kP.init = .initialized := Cond.initialized_spec (findClass_of_methodNamed hnamed) hkP hinit
  obtain ⟨vm₁, X₁, hstep₁⟩ := X.invokestatic hexec hown hlink hnamed hmethM hstatic hkP hinitP hy (g := g) hg (argsL := argsL) (rest := rest) (hlen _ hsigM) hstack hdg
  rcases hK m meth c ⟨T.setVm vm₁, locs, cells, slots⟩ { g with stack := rest } (.invokestatic index) mk argsL.toArray X₁ hg hsize hdg hW (X₁.named hnamed) (hpre vm₁ X₁.warmed) with ⟨v, B, X', hpost, hsteps⟩ | ⟨q, B, X', hpost, hsteps⟩
  · exact Or.inl ⟨v, vm₁, B, X₁.warmed, X', hpost, fun target h => hstep₁ _ fun acts => by rw [doInvoke_state]; exact hsteps.trans h⟩
  · exact Or.inr ⟨q, vm₁, B, X₁.warmed, X', hpost, hstep₁ _ fun acts => by rw [doInvoke_state]; exact hsteps⟩
end Calls
theorem vx_cls {s : State} {T : State} {vm₁ : Vm} {E : String} {k : ClassId} (hW : s.WarmedH vm₁) (h : (T.setVm vm₁).vm.findClass E = some k) : s.vm.findClass E = some k := by
  have h1 : vm₁.findClass E = some k := h
  rw [hW.alike.findClass] at h1
  exact h1
/-- the method's frame g, with q thrown over it -/
def vx_W (p : Program) (l : Launch) (e : Env) (R : Room) (s : State) (m : MethodId) (args : Array Value) (below : List Frame) (meth : Method) (c : Code) (H : Heap) (locs : List Loc) (cells slots : Nat) (Q : State → Prop) (g : JFrame) (q : Addr) : Prop :=
  ∀ T : State, T.heap = H → Stand p l e R s m args below meth c T locs cells slots → ∃ t, Steps p.tables e below ((T.setTop g).pushFrame (.throwing q)) t ∧ Q t
def vx_Run (p : Program) (l : Launch) (e : Env) (R : Room) (s : State) (m : MethodId) (args : Array Value) (below : List Frame) (meth : Method) (c : Code) (H : Heap) (locs : List Loc) (cells slots mc ms : Nat) (g : JFrame) (rest : List Value) (Qa : State → Outcome → State → Prop) (XC : String → State → State → Prop) (free : Addr → Prop) : Prop :=
  ∀ T : State, T.heap = H → Stand p l e R s m args below meth c T locs cells slots →
    (∃ (v : Option Value) (st₀ t T' : State) (L : List Loc), st₀.heap = H ∧ Stand p l e R s m args below meth c T' (locs ++ L) (cells + mc) (slots + ms) ∧ (∀ q ∈ L, free q.base) ∧ T'.heap = t.heap ∧ T'.vm = t.vm ∧ Qa st₀ (.returned v) t ∧
      Goes p e below T g T' { g with pc := g.pc + 3, stack := v.toList ++ rest }) ∨
    (∃ (q : Addr) (st₀ t T' : State) (L : List Loc) (E : String) (ce : Cell), st₀.heap = H ∧ Stand p l e R s m args below meth c T' (locs ++ L) (cells + mc) (slots + ms) ∧ (∀ z ∈ L, free z.base) ∧ T'.heap = t.heap ∧ T'.vm = t.vm ∧ XC E st₀ t ∧ t.heap[q]? = some ce ∧ ce.vm = .none ∧ s.vm.findClass E = some ce.cls ∧
      Steps p.tables e below (T.setTop g) ((T'.setTop { g with stack := rest }).pushFrame (.throwing q)))
def vx_X {S : Type} (px : S → Prop) (B : String → S → State → Prop) (A : Nat → Prop) : String → State → State → Prop := fun E st t => ∃ u : S, px u ∧ B E u t ∧ va_F A st t
section Runs
variable {p : Program} {l : Launch} {e : Env} {R : Room} {s : State} {m : MethodId} {args : Array Value} {below : List Frame} {meth : Method} {c : Code} {H : Heap} {locs : List Loc} {cells slots : Nat}
variable {y : MethodName} {bytes cc : ByteArray} {maxL nL mc ms n index : Nat} {ret : Option FieldType} {ws : List Cond} {rm : Room} {Pc : Array Value → State → Prop} {Qc : Array Value → State → Outcome → State → Prop} {XC : String → State → State → Prop} {free : Addr → Prop} {Ts : List Cond} {own C : String} {b : Addr} {As rest : List Value} {g : JFrame}
theorem vx_callBack (cb : CallB R s args own index y bytes maxL ret ws rm mc ms n) (hM : vx_Met l y ws rm Pc Qc XC mc ms free) (hbl : FrameBlind Pc) : vx_Back l R p e below s args y 3 8 (PreOf R mc ms Pc) (PostOf Qc mc ms free) (vx_Post XC mc ms free) := by
  obtain ⟨hrc, hrs, hfr, hlo, hws, hcw, -, hini, -⟩ := cb
  exact vx_back (bytes := bytes) (maxL := maxL) (ret := ret) hM hbl hrc hrs hfr hlo hws hcw (fun a' U hW => word_at hW (Or.inl (by first | rfl | simp [Cond.onTables, Cond.keeps, Cond.steady])) hini)
theorem vx_runV (S : CallFix p m c cc nL s args Ts own) (hM : vx_Met l y ws rm Pc Qc XC mc ms free) (cw : CallW R s args own C index y bytes maxL ret ws rm mc ms n) (hp : PreV s H C b Pc As)
    (hg : g.method = m) (hn : As.length = n) (hsize : g.locals.size = nL) (hstack : g.stack = As.reverse ++ .ref b :: rest) (hW : 2 * g.monitorRoom + (rest.map fun v => v.category).sum ≤ 8) (hdg : decode cc g.pc = .ok (.invokevirtual index, 3)) (hf : cells + mc ≤ R.cells ∧ slots + ms ≤ R.slots) :
    vx_Run p l e R s m args below meth c H locs cells slots mc ms g rest (Qc (Value.ref b :: As).toArray) XC free := by
  have hK : vx_Back l R p e below s args y 3 8 (PreOf R mc ms Pc) (PostOf Qc mc ms free) (vx_Post XC mc ms free) := vx_callBack cw.1 hM hp.1
  obtain ⟨⟨-, -, -, -, -, -, hcode, -, hy, hlen, hl⟩, hin, hse⟩ := cw
  obtain ⟨hx, hb, hml, ho, -⟩ := S
  obtain ⟨-, ⟨cellB, hcB, hoB, hclB⟩, hPc⟩ := hp
  intro T hT X
  rcases vx_callV X hx (C := C) (bytes := bytes) (maxL := maxL) (ret := ret) ho hl hin hse hcode hy hK (by rw [hT]; exact hcB) hoB hclB hg (hsize.trans hml.symm) (argsL := As) (rest := rest) (fun sig h => hn.trans (hlen sig h)) hstack hW (by rw [hb]; exact hdg)
    (fun vm₁ hW₁ => ⟨hf.1, hf.2, hPc (T.setVm vm₁) hT hW₁⟩) with ⟨v, vm₁, ⟨U', l2, c2, s2⟩, hW₁, X', ⟨g', mk, t, L, e1, e2, hq, h1, hL, h2, h3⟩, st⟩ | ⟨q, vm₁, ⟨U', l2, c2, s2⟩, hW₁, X', ⟨g', mk, t, L, E, ce, e1, e2, hq, hce, hcv, hcl, h1, hL, h2, h3⟩, st⟩
  · dsimp only [Pt.U, Pt.locs, Pt.cells, Pt.slots] at X' e1 e2 h1 h2 h3 st
    subst h1; subst h2; subst h3
    exact Or.inl ⟨v, (T.setVm vm₁).calling g' mk (Value.ref b :: As).toArray, t, U', L, hT, X', hL, e1, e2, hq, st⟩
  · dsimp only [Pt.U, Pt.locs, Pt.cells, Pt.slots] at X' e1 e2 h1 h2 h3 st hcl
    subst h1; subst h2; subst h3
    exact Or.inr ⟨q, (T.setVm vm₁).calling g' mk (Value.ref b :: As).toArray, t, U', L, E, ce, hT, X', hL, e1, e2, hq, hce, hcv, vx_cls hW₁ hcl, st⟩
theorem vx_runS (S : CallFix p m c cc nL s args Ts own) (hM : vx_Met l y ws rm Pc Qc XC mc ms free) (cw : CallB R s args own index y bytes maxL ret ws rm mc ms n ∧ (Cond.static y).before args s = true) (hp : PreS s H Pc As)
    (hg : g.method = m) (hn : As.length = n) (hsize : g.locals.size = nL) (hstack : g.stack = As.reverse ++ rest) (hW : 2 * g.monitorRoom + (rest.map fun v => v.category).sum ≤ 8) (hdg : decode cc g.pc = .ok (.invokestatic index, 3)) (hf : cells + mc ≤ R.cells ∧ slots + ms ≤ R.slots) :
    vx_Run p l e R s m args below meth c H locs cells slots mc ms g rest (Qc As.toArray) XC free := by
  have hK : vx_Back l R p e below s args y 3 8 (PreOf R mc ms Pc) (PostOf Qc mc ms free) (vx_Post XC mc ms free) := vx_callBack cw.1 hM hp.1
  obtain ⟨⟨-, -, -, -, -, -, hcode, hini, hy, hlen, hl⟩, hstt⟩ := cw
  obtain ⟨hx, hb, hml, ho, -⟩ := S
  intro T hT X
  rcases vx_callS X hx (bytes := bytes) (maxL := maxL) (ret := ret) ho hl hstt hini hcode hy hK hg (hsize.trans hml.symm) (argsL := As) (rest := rest) (fun sig h => hn.trans (hlen sig h)) hstack hW (by rw [hb]; exact hdg)
    (fun vm₁ hW₁ => ⟨hf.1, hf.2, hp.2 (T.setVm vm₁) hT hW₁⟩) with ⟨v, vm₁, ⟨U', l2, c2, s2⟩, hW₁, X', ⟨g', mk, t, L, e1, e2, hq, h1, hL, h2, h3⟩, st⟩ | ⟨q, vm₁, ⟨U', l2, c2, s2⟩, hW₁, X', ⟨g', mk, t, L, E, ce, e1, e2, hq, hce, hcv, hcl, h1, hL, h2, h3⟩, st⟩
  · dsimp only [Pt.U, Pt.locs, Pt.cells, Pt.slots] at X' e1 e2 h1 h2 h3 st
    subst h1; subst h2; subst h3
    exact Or.inl ⟨v, (T.setVm vm₁).calling g' mk As.toArray, t, U', L, hT, X', hL, e1, e2, hq, st⟩
  · dsimp only [Pt.U, Pt.locs, Pt.cells, Pt.slots] at X' e1 e2 h1 h2 h3 st hcl
    subst h1; subst h2; subst h3
    exact Or.inr ⟨q, (T.setVm vm₁).calling g' mk As.toArray, t, U', L, E, ce, hT, X', hL, e1, e2, hq, hce, hcv, vx_cls hW₁ hcl, st⟩
end Runs
section Rows
variable {p : Program} {l : Launch} {e : Env} {R : Room} {s : State} {m : MethodId} {args : Array Value} {below : List Frame} {meth : Method} {c : Code} {H : Heap} {locs : List Loc} {cells slots : Nat} {Q : State → Prop}
variable {mc ms : Nat} {free : Addr → Prop} {A0 A1 : Nat → Prop} {H0 : Heap} {a : Array Value} {pc : Nat} {ls : Array Slot} {st0 rest : List Value}
theorem vx_keep {st₀ t T' : State} {L : List Loc} (h0 : st₀.heap = H) (e1 : T'.heap = t.heap) (hS : va_S A0 H0 H locs) (hA : ∀ q, q < H.size → A1 q → A0 q) (hf : ∀ q, free q → A0 q) (hL : ∀ q ∈ L, free q.base) (hF : va_F A1 st₀ t) :
    H.size ≤ T'.heap.size ∧ (∀ q : Nat, q < H.size → ¬ A1 q → T'.heap[q]? = H[q]?) ∧ va_S A0 H0 T'.heap (locs ++ L) := by
  obtain ⟨hz, hk⟩ := hF
  rw [h0] at hz hk
  exact ⟨by rw [e1]; exact hz, fun q h1 h2 => by rw [e1]; exact hk q h1 h2,
    ⟨Nat.le_trans hS.1 (by rw [e1]; exact hz), fun q h1 h2 => by rw [e1, hk q (Nat.lt_of_lt_of_le h1 hS.1) (fun z => h2 (hA q (Nat.lt_of_lt_of_le h1 hS.1) z))]; exact hS.2.1 q h1 h2, fun q hq => by
      rcases List.mem_append.mp hq with h | h
      · exact hS.2.2 q h
      · exact hf _ (hL q h)⟩⟩
theorem vx_calli {S SX : Type} {post : Int32 → S → Prop} {px : SX → Prop} {B : S → State → Prop} {BX : String → SX → State → Prop} {AX : Nat → Prop} (hr : vx_Run p l e R s m args below meth c H locs cells slots mc ms (F0 m pc ls st0) rest (va_Qi post B A1 a) (vx_X px BX AX) free) (hS : va_S A0 H0 H locs) (hA : ∀ q, q < H.size → A1 q → A0 q) (hf : ∀ q, free q → A0 q) (hAX : ∀ q, q < H.size → AX q → A0 q)
    (kx : ∀ (E : String) (ce : Cell) (q9 : Addr) (u : SX) (t : State) (H1 : Heap) (locs1 : List Loc), t.heap = H1 → s.vm.Alike t.vm → px u → BX E u t → H.size ≤ H1.size → (∀ q : Nat, q < H.size → ¬ AX q → H1[q]? = H[q]?) → va_S A0 H0 H1 locs1 → H1[q9]? = some ce → ce.vm = .none → s.vm.findClass E = some ce.cls → vx_W p l e R s m args below meth c H1 locs1 (cells + mc) (slots + ms) Q (F0 m pc ls rest) q9)
    (kk : ∀ (r : Int32) (u : S) (t : State) (H1 : Heap) (locs1 : List Loc), t.heap = H1 → s.vm.Alike t.vm → post r u → B u t → H.size ≤ H1.size → (∀ q : Nat, q < H.size → ¬ A1 q → H1[q]? = H[q]?) → va_S A0 H0 H1 locs1 → W p l e R s m args below meth c H1 locs1 (cells + mc) (slots + ms) Q (F0 m (pc + 3) ls (.int r :: rest))) : W p l e R s m args below meth c H locs cells slots Q (F0 m pc ls st0) := by
  intro T hT X
  rcases hr T hT X with ⟨v, st₀, t, T', L, h0, X', hL, e1, e2, ⟨⟨r, u, hv, hp, hb⟩, hF⟩, st⟩ | ⟨q, st₀, t, T', L, E, ce, h0, X', hL, e1, e2, ⟨u, hp, hb, hF⟩, hce, hcv, hcl, st⟩
  · cases hv
    obtain ⟨k1, k2, k3⟩ := vx_keep h0 e1 hS hA hf hL hF
    obtain ⟨t2, a1, b1⟩ := kk r u t T'.heap (locs ++ L) e1.symm (by rw [← e2]; exact X'.warmed.alike) hp hb k1 k2 k3 T' rfl X'
    exact ⟨t2, st t2 a1, b1⟩
  · obtain ⟨k1, k2, k3⟩ := vx_keep h0 e1 hS hAX hf hL hF
    obtain ⟨t2, a1, b1⟩ := kx E ce q u t T'.heap (locs ++ L) e1.symm (by rw [← e2]; exact X'.warmed.alike) hp hb k1 k2 k3 (by rw [e1]; exact hce) hcv hcl T' rfl X'
    exact ⟨t2, st.trans a1, b1⟩
theorem vx_calll {S SX : Type} {post : Int64 → S → Prop} {px : SX → Prop} {B : S → State → Prop} {BX : String → SX → State → Prop} {AX : Nat → Prop} (hr : vx_Run p l e R s m args below meth c H locs cells slots mc ms (F0 m pc ls st0) rest (va_Ql post B A1 a) (vx_X px BX AX) free) (hS : va_S A0 H0 H locs) (hA : ∀ q, q < H.size → A1 q → A0 q) (hf : ∀ q, free q → A0 q) (hAX : ∀ q, q < H.size → AX q → A0 q)
    (kx : ∀ (E : String) (ce : Cell) (q9 : Addr) (u : SX) (t : State) (H1 : Heap) (locs1 : List Loc), t.heap = H1 → s.vm.Alike t.vm → px u → BX E u t → H.size ≤ H1.size → (∀ q : Nat, q < H.size → ¬ AX q → H1[q]? = H[q]?) → va_S A0 H0 H1 locs1 → H1[q9]? = some ce → ce.vm = .none → s.vm.findClass E = some ce.cls → vx_W p l e R s m args below meth c H1 locs1 (cells + mc) (slots + ms) Q (F0 m pc ls rest) q9)
    (kk : ∀ (r : Int64) (u : S) (t : State) (H1 : Heap) (locs1 : List Loc), t.heap = H1 → s.vm.Alike t.vm → post r u → B u t → H.size ≤ H1.size → (∀ q : Nat, q < H.size → ¬ A1 q → H1[q]? = H[q]?) → va_S A0 H0 H1 locs1 → W p l e R s m args below meth c H1 locs1 (cells + mc) (slots + ms) Q (F0 m (pc + 3) ls (.long r :: rest))) : W p l e R s m args below meth c H locs cells slots Q (F0 m pc ls st0) := by
  intro T hT X
  rcases hr T hT X with ⟨v, st₀, t, T', L, h0, X', hL, e1, e2, ⟨⟨r, u, hv, hp, hb⟩, hF⟩, st⟩ | ⟨q, st₀, t, T', L, E, ce, h0, X', hL, e1, e2, ⟨u, hp, hb, hF⟩, hce, hcv, hcl, st⟩
  · cases hv
    obtain ⟨k1, k2, k3⟩ := vx_keep h0 e1 hS hA hf hL hF
    obtain ⟨t2, a1, b1⟩ := kk r u t T'.heap (locs ++ L) e1.symm (by rw [← e2]; exact X'.warmed.alike) hp hb k1 k2 k3 T' rfl X'
    exact ⟨t2, st t2 a1, b1⟩
  · obtain ⟨k1, k2, k3⟩ := vx_keep h0 e1 hS hAX hf hL hF
    obtain ⟨t2, a1, b1⟩ := kx E ce q u t T'.heap (locs ++ L) e1.symm (by rw [← e2]; exact X'.warmed.alike) hp hb k1 k2 k3 (by rw [e1]; exact hce) hcv hcl T' rfl X'
    exact ⟨t2, st.trans a1, b1⟩
theorem vx_callf {S SX : Type} {post : UInt32 → S → Prop} {px : SX → Prop} {B : S → State → Prop} {BX : String → SX → State → Prop} {AX : Nat → Prop} (hr : vx_Run p l e R s m args below meth c H locs cells slots mc ms (F0 m pc ls st0) rest (va_Qf post B A1 a) (vx_X px BX AX) free) (hS : va_S A0 H0 H locs) (hA : ∀ q, q < H.size → A1 q → A0 q) (hf : ∀ q, free q → A0 q) (hAX : ∀ q, q < H.size → AX q → A0 q)
    (kx : ∀ (E : String) (ce : Cell) (q9 : Addr) (u : SX) (t : State) (H1 : Heap) (locs1 : List Loc), t.heap = H1 → s.vm.Alike t.vm → px u → BX E u t → H.size ≤ H1.size → (∀ q : Nat, q < H.size → ¬ AX q → H1[q]? = H[q]?) → va_S A0 H0 H1 locs1 → H1[q9]? = some ce → ce.vm = .none → s.vm.findClass E = some ce.cls → vx_W p l e R s m args below meth c H1 locs1 (cells + mc) (slots + ms) Q (F0 m pc ls rest) q9)
    (kk : ∀ (r : UInt32) (u : S) (t : State) (H1 : Heap) (locs1 : List Loc), t.heap = H1 → s.vm.Alike t.vm → post r u → B u t → H.size ≤ H1.size → (∀ q : Nat, q < H.size → ¬ A1 q → H1[q]? = H[q]?) → va_S A0 H0 H1 locs1 → W p l e R s m args below meth c H1 locs1 (cells + mc) (slots + ms) Q (F0 m (pc + 3) ls (.float r :: rest))) : W p l e R s m args below meth c H locs cells slots Q (F0 m pc ls st0) := by
  intro T hT X
  rcases hr T hT X with ⟨v, st₀, t, T', L, h0, X', hL, e1, e2, ⟨⟨r, u, hv, hp, hb⟩, hF⟩, st⟩ | ⟨q, st₀, t, T', L, E, ce, h0, X', hL, e1, e2, ⟨u, hp, hb, hF⟩, hce, hcv, hcl, st⟩
  · cases hv
    obtain ⟨k1, k2, k3⟩ := vx_keep h0 e1 hS hA hf hL hF
    obtain ⟨t2, a1, b1⟩ := kk r u t T'.heap (locs ++ L) e1.symm (by rw [← e2]; exact X'.warmed.alike) hp hb k1 k2 k3 T' rfl X'
    exact ⟨t2, st t2 a1, b1⟩
  · obtain ⟨k1, k2, k3⟩ := vx_keep h0 e1 hS hAX hf hL hF
    obtain ⟨t2, a1, b1⟩ := kx E ce q u t T'.heap (locs ++ L) e1.symm (by rw [← e2]; exact X'.warmed.alike) hp hb k1 k2 k3 (by rw [e1]; exact hce) hcv hcl T' rfl X'
    exact ⟨t2, st.trans a1, b1⟩
theorem vx_calld {S SX : Type} {post : UInt64 → S → Prop} {px : SX → Prop} {B : S → State → Prop} {BX : String → SX → State → Prop} {AX : Nat → Prop} (hr : vx_Run p l e R s m args below meth c H locs cells slots mc ms (F0 m pc ls st0) rest (va_Qd post B A1 a) (vx_X px BX AX) free) (hS : va_S A0 H0 H locs) (hA : ∀ q, q < H.size → A1 q → A0 q) (hf : ∀ q, free q → A0 q) (hAX : ∀ q, q < H.size → AX q → A0 q)
    (kx : ∀ (E : String) (ce : Cell) (q9 : Addr) (u : SX) (t : State) (H1 : Heap) (locs1 : List Loc), t.heap = H1 → s.vm.Alike t.vm → px u → BX E u t → H.size ≤ H1.size → (∀ q : Nat, q < H.size → ¬ AX q → H1[q]? = H[q]?) → va_S A0 H0 H1 locs1 → H1[q9]? = some ce → ce.vm = .none → s.vm.findClass E = some ce.cls → vx_W p l e R s m args below meth c H1 locs1 (cells + mc) (slots + ms) Q (F0 m pc ls rest) q9)
    (kk : ∀ (r : UInt64) (u : S) (t : State) (H1 : Heap) (locs1 : List Loc), t.heap = H1 → s.vm.Alike t.vm → post r u → B u t → H.size ≤ H1.size → (∀ q : Nat, q < H.size → ¬ A1 q → H1[q]? = H[q]?) → va_S A0 H0 H1 locs1 → W p l e R s m args below meth c H1 locs1 (cells + mc) (slots + ms) Q (F0 m (pc + 3) ls (.double r :: rest))) : W p l e R s m args below meth c H locs cells slots Q (F0 m pc ls st0) := by
  intro T hT X
  rcases hr T hT X with ⟨v, st₀, t, T', L, h0, X', hL, e1, e2, ⟨⟨r, u, hv, hp, hb⟩, hF⟩, st⟩ | ⟨q, st₀, t, T', L, E, ce, h0, X', hL, e1, e2, ⟨u, hp, hb, hF⟩, hce, hcv, hcl, st⟩
  · cases hv
    obtain ⟨k1, k2, k3⟩ := vx_keep h0 e1 hS hA hf hL hF
    obtain ⟨t2, a1, b1⟩ := kk r u t T'.heap (locs ++ L) e1.symm (by rw [← e2]; exact X'.warmed.alike) hp hb k1 k2 k3 T' rfl X'
    exact ⟨t2, st t2 a1, b1⟩
  · obtain ⟨k1, k2, k3⟩ := vx_keep h0 e1 hS hAX hf hL hF
    obtain ⟨t2, a1, b1⟩ := kx E ce q u t T'.heap (locs ++ L) e1.symm (by rw [← e2]; exact X'.warmed.alike) hp hb k1 k2 k3 (by rw [e1]; exact hce) hcv hcl T' rfl X'
    exact ⟨t2, st.trans a1, b1⟩
theorem vx_callv {S SX : Type} {post : S → Prop} {px : SX → Prop} {B : S → State → Prop} {BX : String → SX → State → Prop} {AX : Nat → Prop} (hr : vx_Run p l e R s m args below meth c H locs cells slots mc ms (F0 m pc ls st0) rest (va_Qv post B A1 a) (vx_X px BX AX) free) (hS : va_S A0 H0 H locs) (hA : ∀ q, q < H.size → A1 q → A0 q) (hf : ∀ q, free q → A0 q) (hAX : ∀ q, q < H.size → AX q → A0 q)
    (kx : ∀ (E : String) (ce : Cell) (q9 : Addr) (u : SX) (t : State) (H1 : Heap) (locs1 : List Loc), t.heap = H1 → s.vm.Alike t.vm → px u → BX E u t → H.size ≤ H1.size → (∀ q : Nat, q < H.size → ¬ AX q → H1[q]? = H[q]?) → va_S A0 H0 H1 locs1 → H1[q9]? = some ce → ce.vm = .none → s.vm.findClass E = some ce.cls → vx_W p l e R s m args below meth c H1 locs1 (cells + mc) (slots + ms) Q (F0 m pc ls rest) q9)
    (kk : ∀ (u : S) (t : State) (H1 : Heap) (locs1 : List Loc), t.heap = H1 → s.vm.Alike t.vm → post u → B u t → H.size ≤ H1.size → (∀ q : Nat, q < H.size → ¬ A1 q → H1[q]? = H[q]?) → va_S A0 H0 H1 locs1 → W p l e R s m args below meth c H1 locs1 (cells + mc) (slots + ms) Q (F0 m (pc + 3) ls (rest))) : W p l e R s m args below meth c H locs cells slots Q (F0 m pc ls st0) := by
  intro T hT X
  rcases hr T hT X with ⟨v, st₀, t, T', L, h0, X', hL, e1, e2, ⟨⟨u, hv, hp, hb⟩, hF⟩, st⟩ | ⟨q, st₀, t, T', L, E, ce, h0, X', hL, e1, e2, ⟨u, hp, hb, hF⟩, hce, hcv, hcl, st⟩
  · cases hv
    obtain ⟨k1, k2, k3⟩ := vx_keep h0 e1 hS hA hf hL hF
    obtain ⟨t2, a1, b1⟩ := kk u t T'.heap (locs ++ L) e1.symm (by rw [← e2]; exact X'.warmed.alike) hp hb k1 k2 k3 T' rfl X'
    exact ⟨t2, st t2 a1, b1⟩
  · obtain ⟨k1, k2, k3⟩ := vx_keep h0 e1 hS hAX hf hL hF
    obtain ⟨t2, a1, b1⟩ := kx E ce q u t T'.heap (locs ++ L) e1.symm (by rw [← e2]; exact X'.warmed.alike) hp hb k1 k2 k3 (by rw [e1]; exact hce) hcv hcl T' rfl X'
    exact ⟨t2, st.trans a1, b1⟩
/-- caught by the row x of this method's table; the rows ahead don't take it -/
theorem vx_catch {own name : String} {E : String} {ce : Cell} {q : Addr} (hown : s.vm.findClass own = some m.cls) (pre : List ExceptionTableEntry) (x : ExceptionTableEntry) (suf : List ExceptionTableEntry) (hsplit : c.exceptionTable.toList = pre ++ x :: suf)
    (hpass : ∀ z ∈ pre, covers z pc = false ∨ (z.catchType ≠ 0 ∧ ∃ nm : String, (Cond.classLink own z.catchType nm).before args s = true ∧ va_Nc E nm s)) (hx : covers x pc = true) (h0 : x.catchType ≠ 0)
    (hlink : (Cond.classLink own x.catchType name).before args s = true) (hcast : (Cond.castable E name).before args s = true) (hcell : H[q]? = some ce) (hv : ce.vm = .none) (hcl : s.vm.findClass E = some ce.cls)
    (kk : W p l e R s m args below meth c H locs cells slots Q (F0 m x.handlerPc ls [.ref q])) : vx_W p l e R s m args below meth c H locs cells slots Q (F0 m pc ls rest) q := by
  intro T hT X
  have hpl : e.platform.magicAccessors = ({} : Platform).magicAccessors := by rw [X.admits.platform]
  obtain ⟨c3, c4, hc3, hc4, hasg⟩ := Cond.castable_spec hcast
  cases Option.some.inj (hc3.symm.trans hcl)
  obtain ⟨c5, hc5, hcl5⟩ := Cond.classLink_spec hown hlink e.platform hpl
  cases Option.some.inj (hc4.symm.trans hc5)
  obtain ⟨vm', X', st⟩ := X.thenCaughtThrough q (g := F0 m pc ls rest) rfl (Steps.refl _) (by rw [hT]; exact hcell) (by rw [hv]; rfl) (by obtain ⟨k9, h9, -⟩ := Vm.findClass_spec hcl; exact ⟨k9, h9⟩) pre x suf hsplit
    (fun z hz => by
      rcases hpass z hz with h | ⟨hz0, nm, hl1, hn1⟩
      · exact Or.inl h
      · obtain ⟨c6, hc6, hcl6⟩ := Cond.classLink_spec hown hl1 e.platform hpl
        obtain ⟨a8, b8, h1, h2, h3⟩ := hn1
        cases Option.some.inj (h1.symm.trans hcl)
        cases Option.some.inj (h2.symm.trans hc6)
        exact Or.inr ⟨hz0, _, hcl6, h3⟩) hx (Or.inr ⟨h0, c4, hcl5, hasg⟩)
  obtain ⟨t, a1, b1⟩ := kk (T.setVm vm') hT X'
  exact ⟨t, st.trans a1, b1⟩
end Rows
section Ends
variable {p : Program} {l : Launch} {e : Env} {R : Room} {s : State} {m : MethodId} {args : Array Value} {below : List Frame} {meth : Method} {c : Code} {H : Heap} {locs : List Loc} {cells slots : Nat} {Q : State → Prop}
variable {mc ms : Nat} {free : Addr → Prop} {A0 A1 : Nat → Prop} {H0 : Heap} {a : Array Value} {ls : Array Slot} {st0 rest : List Value}
variable {Qc : Array Value → State → Outcome → State → Prop} {XC : String → State → State → Prop}
/-- what a body that may throw owes at its end -/
def vx_MQ (below : List Frame) (Qc : Array Value → State → Outcome → State → Prop) (XC : String → State → State → Prop) (a : Array Value) (s : State) (mc ms : Nat) (free : Addr → Prop) : State → Prop := fun t =>
  ∃ o, t.status = .running ∧ Ended t below o ∧ vx_Q Qc XC mc ms free a s o t
theorem vx_ret {g : JFrame} {mc ms : Nat} (k : W p l e R s m args below meth c H locs cells slots (MQ below Qc args s mc ms free) g) : W p l e R s m args below meth c H locs cells slots (vx_MQ below Qc XC args s mc ms free) g := by
  intro T hT X
  obtain ⟨t, a1, o, b1, b2, b3, b4⟩ := k T hT X
  exact ⟨t, a1, o, b1, b2, Or.inl ⟨b3, b4⟩⟩
/-- not caught here: it goes on to the caller -/
theorem vx_widen {g : JFrame} {q : Addr} {k n : Nat} (h1 : cells ≤ k) (h2 : slots ≤ n) (kk : vx_W p l e R s m args below meth c H locs k n Q g q) : vx_W p l e R s m args below meth c H locs cells slots Q g q := fun T hT X => kk T hT (stand_widen X h1 h2)
theorem vx_out {pc : Nat} {E : String} {ce : Cell} {q : Addr} {mc ms : Nat} (hout : ∀ x ∈ c.exceptionTable.toList, covers x pc = false) (hlocks : meth.locks = false) (hcell : H[q]? = some ce) (hv : ce.vm = .none) (hcl : s.vm.findClass E = some ce.cls)
    (hx : ∀ t : State, t.heap = H → s.vm.Alike t.vm → XC E s t) (hf : ∀ z ∈ locs, free z.base) (hc : cells ≤ mc) (hs : slots ≤ ms) :
    vx_W p l e R s m args below meth c H locs cells slots (vx_MQ below Qc XC args s mc ms free) (F0 m pc ls rest) q := by
  intro T hT X
  obtain ⟨st1, hrun, hend, hW, hsm⟩ := X.leaveThrown q (g := F0 m pc ls rest) rfl rfl rfl hout hlocks
  have hcell9 : (T.setFrames (.throwing q :: below)).heap[q]? = some ce := by
    show T.heap[q]? = some ce
    rw [hT]; exact hcell
  exact ⟨_, st1, .threw q, hrun, hend, Or.inr ⟨q, rfl, E, ce, locs, hx _ hT hW.alike, hcell9, hv, hcl, hW, hsm.mono hc hs, hf⟩⟩
theorem vx_frame {U : State} {k n : Nat} (h : s.sameButNew ({ U with vm := s.vm } : State) locs k n) : s.heap.size ≤ U.heap.size ∧ ∀ q : Nat, q < s.heap.size → (∀ z ∈ locs, z.base ≠ q) → U.heap[q]? = s.heap[q]? := by
  obtain ⟨-, h2, -, -, -, h6⟩ := h
  refine ⟨h2, fun q hq hz => ?_⟩
  obtain ⟨c9, e1, e2, e3, e4⟩ := h6 q _ (Array.getElem?_eq_getElem hq)
  have hs : c9.slots = (s.heap[q]).slots := Array.ext_getElem? fun i => e4 i fun hm => hz _ hm rfl
  have h9 : c9 = s.heap[q] := by
    rw [hs] at e2
    exact e2
  have e5 : U.heap[q]? = some c9 := e1
  rw [e5, h9, Array.getElem?_eq_getElem hq]
/-- the words of a throw but the four that speak of the heap -/
def vx_no (w : Cond) : Bool := decide (w ≠ .isRef (.static Bundle.tN "UNASSIGNED_STACK" Bundle.steD)) && decide (w ≠ .isRef (.static Bundle.tN "SUPPRESSED_SENTINEL" Bundle.listD)) && decide (w ≠ .laysStatic Bundle.tN "UNASSIGNED_STACK" Bundle.steD) && decide (w ≠ .laysStatic Bundle.tN "SUPPRESSED_SENTINEL" Bundle.listD)
def vx_at0 (own : String) (ic : Nat) (X : String) (names : List String) : List Cond := (Bundle.ownAtoms0 own ic X names).filter vx_no
def vx_atS (own : String) (ic : Nat) (X : String) (names : List String) : List Cond := (Bundle.ownAtoms own ic X names).filter vx_no
/-- a word that the tables alone decide, or a good one -/
def vx_ot (w : Cond) : Bool := w.onTables || goodWord w
theorem vx_ot_at {args a' : Array Value} {s U : State} {w : Cond} (hW : s.WarmedH U.vm) (hvm : s.vm = U.vm) (hg : vx_ot w = true) (h : w.before args s = true) : w.before a' U = true := by
  simp only [vx_ot, Bool.or_eq_true] at hg
  rcases hg with hg | hg
  · exact va_tabs hg hvm h
  · exact word_at hW (good_of_word hg) h
/-- a list's words: the good ones out of the method's own list, the others by premises of their own -/
theorem vx_hat {args : Array Value} {s : State} {L B : List Cond} (h1 : ∀ w ∈ L.filter goodWord, w.before args s = true) (h2 : ∀ w ∈ L.filter (fun w => !goodWord w), w ∈ B) (h3 : ∀ w ∈ B, w.before args s = true) : ∀ w ∈ L, w.before args s = true := by
  intro w hw
  by_cases g : goodWord w = true
  · exact h1 w (List.mem_filter.mpr ⟨hw, g⟩)
  · refine h3 w (h2 w (List.mem_filter.mpr ⟨hw, ?_⟩))
    show (!goodWord w) = true
    cases hgw : goodWord w
    · rfl
    · exact absurd hgw g
theorem vx_c {args : Array Value} {s : State} {w : Cond} {B : List Cond} (h : w.before args s = true) (t : ∀ w ∈ B, w.before args s = true) : ∀ w' ∈ w :: B, w'.before args s = true := fun w' h' => (List.mem_cons.mp h').elim (fun e => by rw [e]; exact h) (t w')
theorem vx_n {args : Array Value} {s : State} : ∀ w ∈ ([] : List Cond), w.before args s = true := fun _ h => nomatch h
theorem vx_own {args : Array Value} {s : State} {L : List Cond} (h1 : ∀ w ∈ L.filter vx_no, w.before args s = true)
    (hU : (Cond.isRef (.static Bundle.tN "UNASSIGNED_STACK" Bundle.steD)).before args s = true) (hN : (Cond.isRef (.static Bundle.tN "SUPPRESSED_SENTINEL" Bundle.listD)).before args s = true)
    (lU : (Cond.laysStatic Bundle.tN "UNASSIGNED_STACK" Bundle.steD).before args s = true) (lN : (Cond.laysStatic Bundle.tN "SUPPRESSED_SENTINEL" Bundle.listD).before args s = true) : ∀ w ∈ L, w.before args s = true := by
  intro w hw
  by_cases e1 : w = .isRef (.static Bundle.tN "UNASSIGNED_STACK" Bundle.steD)
  · rw [e1]; exact hU
  · by_cases e2 : w = .isRef (.static Bundle.tN "SUPPRESSED_SENTINEL" Bundle.listD)
    · rw [e2]; exact hN
    · by_cases e3 : w = .laysStatic Bundle.tN "UNASSIGNED_STACK" Bundle.steD
      · rw [e3]; exact lU
      · by_cases e4 : w = .laysStatic Bundle.tN "SUPPRESSED_SENTINEL" Bundle.listD
        · rw [e4]; exact lN
        · exact h1 w (List.mem_filter.mpr ⟨hw, by unfold vx_no; rw [decide_eq_true e1, decide_eq_true e2, decide_eq_true e3, decide_eq_true e4]; rfl⟩)
/-- where a static field lies, its class's statics cell in H -/
def vx_L (C n d : String) (A : Nat → Prop) (U : State) (H : Heap) : Prop := ∃ (c : ClassId) (k : Class) (i : Nat) (f : Field) (a : Nat) (cell : Cell), U.vm.findClass C = some c ∧ U.fieldFound? C n d = some (c, k, i, f) ∧ f.isStatic = true ∧ k.statics = some a ∧ H[a]? = some cell ∧ cell.vm.isStatics = true ∧ cell.cls = c ∧ f.slot < cell.slots.size ∧ k.staticTypes[f.slot]? = some f.type ∧ ¬ A a
theorem vx_L.moved {C n d : String} {A : Nat → Prop} {u U : State} {H : Heap} (hvm : u.vm.Alike U.vm) (h : vx_L C n d A u H) : vx_L C n d A U H := by
  obtain ⟨c, k, i, f, a, cell, h1, h2, h3, h4, h5, h6, h7, h8, h9, h10⟩ := h
  obtain ⟨k', hi', he⟩ := State.fieldFound?_setVm hvm h2
  exact ⟨c, k', i, f, a, cell, by rw [hvm.findClass]; exact h1, hi', h3, by rw [he]; exact h4, h5, h6, h7, h8, by rw [he]; exact h9, h10⟩
theorem vx_L.kept {C n d : String} {A : Nat → Prop} {U : State} {H H1 : Heap} (h : vx_L C n d A U H) (hq : ∀ a : Nat, a < H.size → ¬ A a → H1[a]? = H[a]?) : vx_L C n d A U H1 := by
  obtain ⟨c, k, i, f, a, cell, h1, h2, h3, h4, h5, h6, h7, h8, h9, h10⟩ := h
  exact ⟨c, k, i, f, a, cell, h1, h2, h3, h4, by rw [hq a (Array.getElem?_eq_some_iff.mp h5).1 h10]; exact h5, h6, h7, h8, h9, h10⟩
theorem vx_L.narrow {C n d : String} {A B : Nat → Prop} {U : State} {H : Heap} (h : vx_L C n d A U H) (hAB : ∀ q, B q → A q) : vx_L C n d B U H := by
  obtain ⟨c, k, i, f, a, cell, h1, h2, h3, h4, h5, h6, h7, h8, h9, h10⟩ := h
  exact ⟨c, k, i, f, a, cell, h1, h2, h3, h4, h5, h6, h7, h8, h9, fun z => h10 (hAB _ z)⟩
theorem vx_L.word {C n d : String} {A : Nat → Prop} {s : State} {args : Array Value} (h : vx_L C n d A s s.heap) : (Cond.laysStatic C n d).before args s = true := by
  obtain ⟨c, k, i, f, a, cell, h1, h2, h3, h4, h5, h6, h7, h8, h9, -⟩ := h
  show (Cond.laysStatic C n d).holds args s none s [] = true
  exact Cond.laysStatic_of h1 h2 h3 h4 h5 h6 h7 h8 h9
/-- .. and what it holds: null or some reference -/
def vx_Zq (C n d : String) (A : Nat → Prop) (U : State) (H : Heap) : Prop := va_Zq C n d A U H ∧ vx_L C n d A U H
theorem vx_Zq.moved {C n d : String} {A : Nat → Prop} {u U : State} {H : Heap} (hvm : u.vm.Alike U.vm) (h : vx_Zq C n d A u H) : vx_Zq C n d A U H := ⟨va_Zq.moved hvm h.1, vx_L.moved hvm h.2⟩
theorem vx_Zq.kept {C n d : String} {A : Nat → Prop} {U : State} {H H1 : Heap} (h : vx_Zq C n d A U H) (hq : ∀ a : Nat, a < H.size → ¬ A a → H1[a]? = H[a]?) : vx_Zq C n d A U H1 := ⟨va_Zq.kept h.1 hq, vx_L.kept h.2 hq⟩
theorem vx_Zq.narrow {C n d : String} {A B : Nat → Prop} {U : State} {H : Heap} (h : vx_Zq C n d A U H) (hAB : ∀ q, B q → A q) : vx_Zq C n d B U H := ⟨va_Zq.narrow h.1 hAB, vx_L.narrow h.2 hAB⟩
theorem vx_Zqof {args : Array Value} {s : State} {C n d : String} {A : Nat → Prop} (hl : (Cond.laysStatic C n d).before args s = true) (hini : (Cond.initialized C).before args s = true) (h : (Cond.isRef (.static C n d)).before args s = true) (hA : ∀ a : Nat, a < s.heap.size → ¬ A a) : vx_Zq C n d A s s.heap := by
  refine ⟨va_Zqof hl hini h hA, ?_⟩
  obtain ⟨c, k, i, f, a, cell, h1, h2, h3, h4, h5, h6, h7, h8, h9⟩ := Cond.laysStatic_spec hl
  exact ⟨c, k, i, f, a, cell, h1, h2, h3, h4, h5, h6, h7, h8, h9, hA a (Array.getElem?_eq_some_iff.mp h5).1⟩
theorem vx_isRef {C n d : String} {v : Value} {A : Nat → Prop} {s : State} {args : Array Value} (h : va_Z C n d v A s s.heap) (hv : v.isRef = true) : (Cond.isRef (.static C n d)).before args s = true := by
  obtain ⟨cf, kf, fi, f, a, cell, h1, h2, h3, h4, h5, h6, h7, -⟩ := h
  have he : (Term.static C n d).eval args s none [] s = some v := by
    simp [Term.eval, State.fieldNamed?, h1, h2, h4, h5, h6, h7]
  simp only [Cond.before, Cond.holds, Cond.value, he]
  cases v <;> simp_all [Value.isRef]
theorem vx_isRefq {C n d : String} {A : Nat → Prop} {s : State} {args : Array Value} (h : va_Zq C n d A s s.heap) : (Cond.isRef (.static C n d)).before args s = true := by
  rcases h with h | ⟨t, h⟩
  · exact vx_isRef h rfl
  · exact vx_isRef h rfl
/-- the same frame, seen from here: as if the method were called anew in this heap -/
theorem vx_rebase {T : State} (X : Stand p l e R s m args below meth c T locs cells slots) {R' : Room} (hf : R'.frames ≤ R.frames) (hl : R'.locals ≤ R.locals) (hc : cells + R'.cells ≤ R.cells) (hs : slots + R'.slots ≤ R.slots) :
    Stand p l e R' ((T.setVm s.vm).setFrames (.invoking m args :: below)) m args below meth c T [] 0 0 := by
  have htop : (T.setVm s.vm).topJava?.isSome := X.here.top
  have hF : ((T.setVm s.vm).setFrames (.invoking m args :: below)).frames = .invoking m args :: below := State.frames_setFrames _ (State.cur_lt_of_top htop)
  obtain ⟨g₀, hg0⟩ := Option.isSome_iff_exists.mp htop
  obtain ⟨r, hr⟩ := State.topJava?_eq_some.mp hg0
  have hl9 : e.platform.stackLimits (T.setVm s.vm).me = e.platform.stackLimits s.me := X.limits
  have hb9 : (T.setVm s.vm).me.stackBytes = s.me.stackBytes := X.bytes
  refine ⟨X.admits, X.cas, X.clock, hF, ?_, X.hears, X.method, X.code, X.here, X.tail, X.warmed, ?_, ?_, ?_⟩
  · have h := X.room
    have hU : ((T.setVm s.vm).setFrames (.invoking m args :: below)).localsInUse = s.localsInUse := by
      rw [State.localsInUse_invoking hF (meth := meth) (c := c) X.method X.code, State.localsInUse_invoking X.frames X.method X.code]
    simp only [State.hasRoom, Bool.and_eq_true, decide_eq_true_eq] at h ⊢
    obtain ⟨⟨⟨⟨h1, h2, h3, h4, h5, h6⟩, h7⟩, h8⟩, h9⟩ := h
    rw [X.frames, List.length_cons] at h2 h3
    have q1 := X.heapSize
    have q2 := X.used
    simp only [hF, hU, List.length_cons, State.stackLimits_setFrames, State.stackBytes_setFrames, hl9, hb9]
    refine ⟨⟨⟨⟨by omega, by omega, by omega, by omega, by omega, h6⟩, ?_⟩, ?_⟩, X.book⟩
    · show T.heap.size + R'.cells ≤ e.platform.maxCells
      omega
    · show T.slotsUsed + R'.slots ≤ e.platform.maxSlots
      omega
  · rw [State.stackLimits_setFrames]; rfl
  · rw [State.stackBytes_setFrames]; rfl
  · refine ⟨?_, Nat.le_refl _, Nat.le_refl _, ?_, ?_, fun a c9 h9 => ⟨c9, h9, rfl, rfl, fun _ _ => rfl⟩⟩
    · obtain ⟨t, ht, -⟩ := State.frames_cons hr
      show T.setVm s.vm = { ((T.setVm s.vm).setFrames (.invoking m args :: below)).setFrames (T.setVm s.vm).frames with heap := T.heap, slotsUsed := T.slotsUsed }
      rw [State.setFrames_setFrames, State.setFrames_self ht]
      rfl
    · show T.slotsUsed = T.slotsUsed + ((T.heap.toList.drop T.heap.size).map (·.slots.size)).sum
      rw [List.drop_eq_nil_of_le (Nat.le_of_eq Array.length_toList)]
      rfl
    · show ((T.heap.toList.drop T.heap.size).map (·.slots.size)).sum ≤ 0
      rw [List.drop_eq_nil_of_le (Nat.le_of_eq Array.length_toList)]
      exact Nat.le_refl _
/-- 'throw new E()': new; dup; invokespecial; athrow -/
theorem vx_throw0 {cc : ByteArray} {pc : Nat} (hexec : p.tables.exec = Jvm.exec) (hb : c.code = cc) (hl : l.stackTraces = false) {own cls : String} {names : List String} {ik ic mc ms : Nat} {A : Nat → Prop}
    (hown : s.vm.findClass own = some m.cls) (hcls : Bundle.fit cls = true) (hnames : ∀ n ∈ names, Bundle.fit n = true)
    (hk : (Cond.classLink own ik cls).before args s = true) (hini : (Cond.initialized cls).before args s = true) (hat : ∀ w ∈ vx_at0 own ic cls names, w.before args s = true)
    (hgood : ∀ w ∈ Cond.classLink own ik cls :: Cond.initialized cls :: vx_at0 own ic cls names, vx_ot w = true)
    (hU : vx_Zq Bundle.tN "UNASSIGNED_STACK" Bundle.steD A s s.heap) (hN : vx_Zq Bundle.tN "SUPPRESSED_SENTINEL" Bundle.listD A s s.heap) (hS : va_S A s.heap H locs) (hsize : ls.size = c.maxLocals)
    (d0 : decode cc pc = .ok (.new ik, 3)) (d3 : decode cc (pc + 3) = .ok (.dup, 1)) (d4 : decode cc (pc + 4) = .ok (.invokespecial ic, 3)) (d7 : decode cc (pc + 7) = .ok (.athrow, 1))
    (hout : ∀ x ∈ c.exceptionTable.toList, covers x (pc + 7) = false)
    (hRframes : names.length + 3 < R.frames) (hRlocals : (rest.map fun v => v.category).sum + (13 * (names.length + 1) + 42) ≤ R.locals) (hRcells : cells + 1 ≤ R.cells) (hRslots : slots + 6 ≤ R.slots) (hlocks : meth.locks = false)
    (hx : ∀ t : State, s.vm.Alike t.vm → H.size ≤ t.heap.size → (∀ q : Nat, q < H.size → t.heap[q]? = H[q]?) → XC cls s t)
    (hf : ∀ z ∈ locs, free z.base) (hc : cells + 1 ≤ mc) (hs : slots + 6 ≤ ms) :
    W p l e R s m args below meth c H locs cells slots (vx_MQ below Qc XC args s mc ms free) (F0 m pc ls rest) := by
  intro T hT X
  have htr : e.platform.stackTraces = false := (show e.platform.stackTraces = l.stackTraces by rw [X.admits.platform]).trans hl
  have Y := vx_rebase X (R' := { frames := R.frames, locals := R.locals, cells := 1, slots := 6 }) (Nat.le_refl _) (Nat.le_refl _) hRcells hRslots
  obtain ⟨s', hA⟩ : ∃ z, z = (T.setVm s.vm).setFrames (.invoking m args :: below) := ⟨_, rfl⟩
  rw [← hA] at Y
  have hvm : s'.vm = s.vm := by rw [hA]; rfl
  have hhp : s'.heap = H := by rw [hA]; exact hT
  have hW0 : s.WarmedH s'.vm := by rw [hvm]; exact State.WarmedH.refl s
  have hat' : ∀ w ∈ vx_at0 own ic cls names, w.before args s' = true := fun w hw => vx_ot_at hW0 hvm.symm (hgood w (List.mem_cons_of_mem _ (List.mem_cons_of_mem _ hw))) (hat w hw)
  have hk' : (Cond.classLink own ik cls).before args s' = true := vx_ot_at hW0 hvm.symm (hgood _ List.mem_cons_self) hk
  have hini' : (Cond.initialized cls).before args s' = true := vx_ot_at hW0 hvm.symm (hgood _ (List.mem_cons_of_mem _ List.mem_cons_self)) hini
  have hU' : vx_Zq Bundle.tN "UNASSIGNED_STACK" Bundle.steD A s' s'.heap := by rw [hhp]; exact vx_Zq.moved hW0.alike (hU.kept hS.2.1)
  have hN' : vx_Zq Bundle.tN "SUPPRESSED_SENTINEL" Bundle.listD A s' s'.heap := by rw [hhp]; exact vx_Zq.moved hW0.alike (hN.kept hS.2.1)
  have h : ∀ w ∈ Bundle.ownAtoms0 own ic cls names, w.before args s' = true := vx_own hat' (vx_isRefq hU'.1) (vx_isRefq hN'.1) hU'.2.word hN'.2.word
  have hown' : s'.vm.findClass own = some m.cls := by rw [hvm]; exact hown
  have hins : (Cond.instantiable cls 6).before args s' = true := h _ (by simp [Bundle.ownAtoms0])
  obtain ⟨vm₁, cX, kX, hfX, hkX, -, -, X₁, st1⟩ := Y.newCold hexec (own := own) (C := cls) (index := ik) (n := 6) hown' hk' hins hini'
    (g := F0 m pc ls rest) rfl (by rw [hb]; exact d0) (Nat.le_refl _) (Nat.le_refl _)
  generalize hT1 : (T.setVm vm₁).pushCell { cls := cX, slots := kX.instanceTypes.map defaultValue, vm := .none } = T1 at X₁ st1
  have hcat : (Value.ref T.heap.size).category = 1 := rfl
  have hcellA : T1.heap[T.heap.size]? = some (freshCell cX kX) := by rw [← hT1]; exact State.heap_pushCell_size _ _
  have d3' : decode c.code (pc + 3) = .ok (.dup, 1) := by rw [hb]; exact d3
  obtain ⟨U, hsteps, hrun, hend, hW, hsame, ce, hce, hO⟩ := X₁.ctorThrow0 hexec htr (own := own) (cls := cls) (names := names) (ic := ic) hown' hcls hnames h (fun x hx => nomatch hx) hfX hkX hcellA (by rw [hhp, hT]; exact Nat.le_refl _)
    (g := { method := m, pc := pc + 4, locals := ls, stack := .ref T.heap.size :: .ref T.heap.size :: rest, locked := none }) rfl hsize rfl rfl (rest := rest) rfl
    (by rw [hb]; exact d4) (by rw [hb]; exact d7) hout hRframes (by simp only [List.map_cons, List.sum_cons, hcat]; omega) hlocks
  obtain ⟨f1, f2⟩ := vx_frame hsame
  rw [hhp] at f1 f2
  have hWs : s.WarmedH U.vm := State.WarmedH.trans hW0 hW
  have hcl : s.vm.findClass cls = some ce.cls := by
    have h9 := hO.cls
    rw [hvm] at h9
    exact h9
  have hall : s.sameButNew ({ U with vm := s.vm } : State) locs mc ms := by
    subst hA
    obtain ⟨e1, e2⟩ := hsame
    rw [State.setFrames_setFrames] at e1
    have h2 : (T.setVm s.vm).sameButNew ({ U with vm := s.vm } : State) [] (0 + 1) (0 + 6) := ⟨e1, e2⟩
    have h3 := X.same.trans h2
    rw [List.append_nil] at h3
    exact h3.mono hc hs
  refine ⟨U, ?_, .threw T.heap.size, hrun, hend, Or.inr ⟨T.heap.size, rfl, cls, ce, locs, hx U hWs.alike f1 (fun q hq => f2 q hq (fun z hz => nomatch hz)), hce, hO.vm, hcl, hWs, hall, hf⟩⟩
  refine st1 _ ?_
  show Steps p.tables e below (T1.setTop { method := m, pc := pc + 3, locals := ls, stack := .ref T.heap.size :: rest, locked := none }) _
  jvm_step X₁.here [X₁.here.top, hexec, d3', Value.category]
  exact hsteps
/-- 'throw new E("text")': new; dup; ldc; invokespecial; athrow -/
theorem vx_throwS {cc : ByteArray} {pc : Nat} (hexec : p.tables.exec = Jvm.exec) (hb : c.code = cc) (hl : l.stackTraces = false) {own cls text : String} {names : List String} {ik is ic mc ms sa : Nat} {A : Nat → Prop}
    (hown : s.vm.findClass own = some m.cls) (hcls : Bundle.fit cls = true) (hnames : ∀ n ∈ names, Bundle.fit n = true)
    (hk : (Cond.classLink own ik cls).before args s = true) (hini : (Cond.initialized cls).before args s = true) (hstr : vk_R own is text sa s) (hat : ∀ w ∈ vx_atS own ic cls names, w.before args s = true)
    (hgood : ∀ w ∈ Cond.classLink own ik cls :: Cond.initialized cls :: vx_atS own ic cls names, vx_ot w = true)
    (hU : vx_Zq Bundle.tN "UNASSIGNED_STACK" Bundle.steD A s s.heap) (hN : vx_Zq Bundle.tN "SUPPRESSED_SENTINEL" Bundle.listD A s s.heap) (hS : va_S A s.heap H locs) (hsize : ls.size = c.maxLocals)
    (d0 : decode cc pc = .ok (.new ik, 3)) (d3 : decode cc (pc + 3) = .ok (.dup, 1)) (d4 : decode cc (pc + 4) = .ok (.ldc is, 2)) (d6 : decode cc (pc + 6) = .ok (.invokespecial ic, 3)) (d9 : decode cc (pc + 9) = .ok (.athrow, 1))
    (hout : ∀ x ∈ c.exceptionTable.toList, covers x (pc + 9) = false)
    (hRframes : names.length + 3 < R.frames) (hRlocals : (rest.map fun v => v.category).sum + (13 * (names.length + 1) + 43) ≤ R.locals) (hRcells : cells + 1 ≤ R.cells) (hRslots : slots + 6 ≤ R.slots) (hlocks : meth.locks = false)
    (hx : ∀ t : State, s.vm.Alike t.vm → H.size ≤ t.heap.size → (∀ q : Nat, q < H.size → t.heap[q]? = H[q]?) → XC cls s t)
    (hf : ∀ z ∈ locs, free z.base) (hc : cells + 1 ≤ mc) (hs : slots + 6 ≤ ms) :
    W p l e R s m args below meth c H locs cells slots (vx_MQ below Qc XC args s mc ms free) (F0 m pc ls rest) := by
  intro T hT X
  have htr : e.platform.stackTraces = false := (show e.platform.stackTraces = l.stackTraces by rw [X.admits.platform]).trans hl
  have Y := vx_rebase X (R' := { frames := R.frames, locals := R.locals, cells := 1, slots := 6 }) (Nat.le_refl _) (Nat.le_refl _) hRcells hRslots
  obtain ⟨s', hA⟩ : ∃ z, z = (T.setVm s.vm).setFrames (.invoking m args :: below) := ⟨_, rfl⟩
  rw [← hA] at Y
  have hvm : s'.vm = s.vm := by rw [hA]; rfl
  have hhp : s'.heap = H := by rw [hA]; exact hT
  have hW0 : s.WarmedH s'.vm := by rw [hvm]; exact State.WarmedH.refl s
  have hat' : ∀ w ∈ vx_atS own ic cls names, w.before args s' = true := fun w hw => vx_ot_at hW0 hvm.symm (hgood w (List.mem_cons_of_mem _ (List.mem_cons_of_mem _ hw))) (hat w hw)
  have hk' : (Cond.classLink own ik cls).before args s' = true := vx_ot_at hW0 hvm.symm (hgood _ List.mem_cons_self) hk
  have hini' : (Cond.initialized cls).before args s' = true := vx_ot_at hW0 hvm.symm (hgood _ (List.mem_cons_of_mem _ List.mem_cons_self)) hini
  have hU' : vx_Zq Bundle.tN "UNASSIGNED_STACK" Bundle.steD A s' s'.heap := by rw [hhp]; exact vx_Zq.moved hW0.alike (hU.kept hS.2.1)
  have hN' : vx_Zq Bundle.tN "SUPPRESSED_SENTINEL" Bundle.listD A s' s'.heap := by rw [hhp]; exact vx_Zq.moved hW0.alike (hN.kept hS.2.1)
  have h : ∀ w ∈ Bundle.ownAtoms own ic cls names, w.before args s' = true := vx_own hat' (vx_isRefq hU'.1) (vx_isRefq hN'.1) hU'.2.word hN'.2.word
  have hown' : s'.vm.findClass own = some m.cls := by rw [hvm]; exact hown
  have hins : (Cond.instantiable cls 6).before args s' = true := h _ (by simp [Bundle.ownAtoms])
  obtain ⟨vm₁, cX, kX, hfX, hkX, -, -, X₁, st1⟩ := Y.newCold hexec (own := own) (C := cls) (index := ik) (n := 6) hown' hk' hins hini'
    (g := F0 m pc ls rest) rfl (by rw [hb]; exact d0) (Nat.le_refl _) (Nat.le_refl _)
  generalize hT1 : (T.setVm vm₁).pushCell { cls := cX, slots := kX.instanceTypes.map defaultValue, vm := .none } = T1 at X₁ st1
  have hcat : (Value.ref T.heap.size).category = 1 := rfl
  have hcellA : T1.heap[T.heap.size]? = some (freshCell cX kX) := by rw [← hT1]; exact State.heap_pushCell_size _ _
  have d3' : decode c.code (pc + 3) = .ok (.dup, 1) := by rw [hb]; exact d3
  have d4' : decode c.code (pc + 4) = .ok (.ldc is, 2) := by rw [hb]; exact d4
  have hstr' : vk_R own is text sa s' := vk_R.warm hW0 hstr
  obtain ⟨U, hsteps, hrun, hend, hW, hsame, ce, hce, hO⟩ := X₁.ctorThrowS hexec htr (own := own) (cls := cls) (names := names) (ic := ic) hown' hcls hnames h (fun x hx => nomatch hx) hfX hkX hcellA (by rw [hhp, hT]; exact Nat.le_refl _) (msg := .ref sa) rfl
    (g := { method := m, pc := pc + 6, locals := ls, stack := .ref sa :: .ref T.heap.size :: .ref T.heap.size :: rest, locked := none }) rfl hsize rfl rfl (rest := rest) rfl
    (by rw [hb]; exact d6) (by rw [hb]; exact d9) hout hRframes (by simp only [List.map_cons, List.sum_cons, hcat]; omega) hlocks
  obtain ⟨f1, f2⟩ := vx_frame hsame
  rw [hhp] at f1 f2
  have hWs : s.WarmedH U.vm := State.WarmedH.trans hW0 hW
  have hcl : s.vm.findClass cls = some ce.cls := by
    have h9 := hO.cls
    rw [hvm] at h9
    exact h9
  have hall : s.sameButNew ({ U with vm := s.vm } : State) locs mc ms := by
    subst hA
    obtain ⟨e1, e2⟩ := hsame
    rw [State.setFrames_setFrames] at e1
    have h2 : (T.setVm s.vm).sameButNew ({ U with vm := s.vm } : State) [] (0 + 1) (0 + 6) := ⟨e1, e2⟩
    have h3 := X.same.trans h2
    rw [List.append_nil] at h3
    exact h3.mono hc hs
  refine ⟨U, ?_, .threw T.heap.size, hrun, hend, Or.inr ⟨T.heap.size, rfl, cls, ce, locs, hx U hWs.alike f1 (fun q hq => f2 q hq (fun z hz => nomatch hz)), hce, hO.vm, hcl, hWs, hall, hf⟩⟩
  refine st1 _ ?_
  show Steps p.tables e below (T1.setTop { method := m, pc := pc + 3, locals := ls, stack := .ref T.heap.size :: rest, locked := none }) _
  jvm_step X₁.here [X₁.here.top, hexec, d3', Value.category]
  exact X₁.ldcString hexec (own := own) (text := text) (index := is) (a := sa) hown' hstr'.1 hstr'.2
    (g := { method := m, pc := pc + 4, locals := ls, stack := .ref T.heap.size :: .ref T.heap.size :: rest, locked := none }) rfl d4' _ hsteps
/-- 'throw new E("text")', the text by a wide index -/
theorem vx_throwSW {cc : ByteArray} {pc : Nat} (hexec : p.tables.exec = Jvm.exec) (hb : c.code = cc) (hl : l.stackTraces = false) {own cls text : String} {names : List String} {ik is ic mc ms sa : Nat} {A : Nat → Prop}
    (hown : s.vm.findClass own = some m.cls) (hcls : Bundle.fit cls = true) (hnames : ∀ n ∈ names, Bundle.fit n = true)
    (hk : (Cond.classLink own ik cls).before args s = true) (hini : (Cond.initialized cls).before args s = true) (hstr : vk_R own is text sa s) (hat : ∀ w ∈ vx_atS own ic cls names, w.before args s = true)
    (hgood : ∀ w ∈ Cond.classLink own ik cls :: Cond.initialized cls :: vx_atS own ic cls names, vx_ot w = true)
    (hU : vx_Zq Bundle.tN "UNASSIGNED_STACK" Bundle.steD A s s.heap) (hN : vx_Zq Bundle.tN "SUPPRESSED_SENTINEL" Bundle.listD A s s.heap) (hS : va_S A s.heap H locs) (hsize : ls.size = c.maxLocals)
    (d0 : decode cc pc = .ok (.new ik, 3)) (d3 : decode cc (pc + 3) = .ok (.dup, 1)) (d4 : decode cc (pc + 4) = .ok (.ldc_w is, 3)) (d7 : decode cc (pc + 7) = .ok (.invokespecial ic, 3)) (d10 : decode cc (pc + 10) = .ok (.athrow, 1))
    (hout : ∀ x ∈ c.exceptionTable.toList, covers x (pc + 10) = false)
    (hRframes : names.length + 3 < R.frames) (hRlocals : (rest.map fun v => v.category).sum + (13 * (names.length + 1) + 43) ≤ R.locals) (hRcells : cells + 1 ≤ R.cells) (hRslots : slots + 6 ≤ R.slots) (hlocks : meth.locks = false)
    (hx : ∀ t : State, s.vm.Alike t.vm → H.size ≤ t.heap.size → (∀ q : Nat, q < H.size → t.heap[q]? = H[q]?) → XC cls s t)
    (hf : ∀ z ∈ locs, free z.base) (hc : cells + 1 ≤ mc) (hs : slots + 6 ≤ ms) :
    W p l e R s m args below meth c H locs cells slots (vx_MQ below Qc XC args s mc ms free) (F0 m pc ls rest) := by
  intro T hT X
  have htr : e.platform.stackTraces = false := (show e.platform.stackTraces = l.stackTraces by rw [X.admits.platform]).trans hl
  have Y := vx_rebase X (R' := { frames := R.frames, locals := R.locals, cells := 1, slots := 6 }) (Nat.le_refl _) (Nat.le_refl _) hRcells hRslots
  obtain ⟨s', hA⟩ : ∃ z, z = (T.setVm s.vm).setFrames (.invoking m args :: below) := ⟨_, rfl⟩
  rw [← hA] at Y
  have hvm : s'.vm = s.vm := by rw [hA]; rfl
  have hhp : s'.heap = H := by rw [hA]; exact hT
  have hW0 : s.WarmedH s'.vm := by rw [hvm]; exact State.WarmedH.refl s
  have hat' : ∀ w ∈ vx_atS own ic cls names, w.before args s' = true := fun w hw => vx_ot_at hW0 hvm.symm (hgood w (List.mem_cons_of_mem _ (List.mem_cons_of_mem _ hw))) (hat w hw)
  have hk' : (Cond.classLink own ik cls).before args s' = true := vx_ot_at hW0 hvm.symm (hgood _ List.mem_cons_self) hk
  have hini' : (Cond.initialized cls).before args s' = true := vx_ot_at hW0 hvm.symm (hgood _ (List.mem_cons_of_mem _ List.mem_cons_self)) hini
  have hU' : vx_Zq Bundle.tN "UNASSIGNED_STACK" Bundle.steD A s' s'.heap := by rw [hhp]; exact vx_Zq.moved hW0.alike (hU.kept hS.2.1)
  have hN' : vx_Zq Bundle.tN "SUPPRESSED_SENTINEL" Bundle.listD A s' s'.heap := by rw [hhp]; exact vx_Zq.moved hW0.alike (hN.kept hS.2.1)
  have h : ∀ w ∈ Bundle.ownAtoms own ic cls names, w.before args s' = true := vx_own hat' (vx_isRefq hU'.1) (vx_isRefq hN'.1) hU'.2.word hN'.2.word
  have hown' : s'.vm.findClass own = some m.cls := by rw [hvm]; exact hown
  have hins : (Cond.instantiable cls 6).before args s' = true := h _ (by simp [Bundle.ownAtoms])
  obtain ⟨vm₁, cX, kX, hfX, hkX, -, -, X₁, st1⟩ := Y.newCold hexec (own := own) (C := cls) (index := ik) (n := 6) hown' hk' hins hini'
    (g := F0 m pc ls rest) rfl (by rw [hb]; exact d0) (Nat.le_refl _) (Nat.le_refl _)
  generalize hT1 : (T.setVm vm₁).pushCell { cls := cX, slots := kX.instanceTypes.map defaultValue, vm := .none } = T1 at X₁ st1
  have hcat : (Value.ref T.heap.size).category = 1 := rfl
  have hcellA : T1.heap[T.heap.size]? = some (freshCell cX kX) := by rw [← hT1]; exact State.heap_pushCell_size _ _
  have d3' : decode c.code (pc + 3) = .ok (.dup, 1) := by rw [hb]; exact d3
  have d4' : decode c.code (pc + 4) = .ok (.ldc_w is, 3) := by rw [hb]; exact d4
  have hstr' : vk_R own is text sa s' := vk_R.warm hW0 hstr
  obtain ⟨U, hsteps, hrun, hend, hW, hsame, ce, hce, hO⟩ := X₁.ctorThrowS hexec htr (own := own) (cls := cls) (names := names) (ic := ic) hown' hcls hnames h (fun x hx => nomatch hx) hfX hkX hcellA (by rw [hhp, hT]; exact Nat.le_refl _) (msg := .ref sa) rfl
    (g := { method := m, pc := pc + 7, locals := ls, stack := .ref sa :: .ref T.heap.size :: .ref T.heap.size :: rest, locked := none }) rfl hsize rfl rfl (rest := rest) rfl
    (by rw [hb]; exact d7) (by rw [hb]; exact d10) hout hRframes (by simp only [List.map_cons, List.sum_cons, hcat]; omega) hlocks
  obtain ⟨f1, f2⟩ := vx_frame hsame
  rw [hhp] at f1 f2
  have hWs : s.WarmedH U.vm := State.WarmedH.trans hW0 hW
  have hcl : s.vm.findClass cls = some ce.cls := by
    have h9 := hO.cls
    rw [hvm] at h9
    exact h9
  have hall : s.sameButNew ({ U with vm := s.vm } : State) locs mc ms := by
    subst hA
    obtain ⟨e1, e2⟩ := hsame
    rw [State.setFrames_setFrames] at e1
    have h2 : (T.setVm s.vm).sameButNew ({ U with vm := s.vm } : State) [] (0 + 1) (0 + 6) := ⟨e1, e2⟩
    have h3 := X.same.trans h2
    rw [List.append_nil] at h3
    exact h3.mono hc hs
  refine ⟨U, ?_, .threw T.heap.size, hrun, hend, Or.inr ⟨T.heap.size, rfl, cls, ce, locs, hx U hWs.alike f1 (fun q hq => f2 q hq (fun z hz => nomatch hz)), hce, hO.vm, hcl, hWs, hall, hf⟩⟩
  refine st1 _ ?_
  show Steps p.tables e below (T1.setTop { method := m, pc := pc + 3, locals := ls, stack := .ref T.heap.size :: rest, locked := none }) _
  jvm_step X₁.here [X₁.here.top, hexec, d3', Value.category]
  exact X₁.ldcStringW hexec (own := own) (text := text) (index := is) (a := sa) hown' hstr'.1 hstr'.2
    (g := { method := m, pc := pc + 4, locals := ls, stack := .ref T.heap.size :: .ref T.heap.size :: rest, locked := none }) rfl d4' _ hsteps
end Ends
section Bodies
variable {l : Launch}
theorem vx_ofW {y : MethodName} {ws ws' : List Cond} {rm : Room} {Pc : Array Value → State → Prop} {Qc : Array Value → State → Outcome → State → Prop} {XC : String → State → State → Prop} {mc ms : Nat} {free : Addr → Prop} {cc : ByteArray} {maxL : Nat} {ret : Option FieldType}
    (hy : plainName y.cls = true) (hw : ws = Cond.code y cc maxL ret :: ws')
    (body : ∀ p e s m args below meth c s₁, BodyLoose p l y (headSpec ws rm) cc maxL ret e s m args below meth c s₁ → c.maxLocals = maxL → (∀ x ∈ c.exceptionTable.toList, False) → Pc args s →
      W p l e (headSpec ws rm).room s m args below meth c s.heap [] 0 0 (vx_MQ below Qc XC args s mc ms free) (entryFrame m args maxL)) : vx_Met l y ws rm Pc Qc XC mc ms free := by
  refine MetFree.of_bodyS (code := cc) (maxLocals := maxL) (ret := ret) hy ?_ ?_
  · intro args s m h hn
    obtain ⟨meth, c, h1, h2, h3, h4, h5, h6, -, -⟩ := Cond.code_spec hn (atoms_spec (ws := ws) h _ (by rw [hw]; exact List.mem_cons_self))
    exact ⟨meth, c, h1, h2, h3, h4, h5, h6⟩
  · intro p e s m args below meth c s₁ B hml hP _
    have hh0 : s₁.heap = s.heap := by rw [B.state]; rfl
    have ht : ∀ x ∈ c.exceptionTable.toList, False := by
      obtain ⟨meth9, c9, h1, h2, -, -, -, -, h7, -⟩ := Cond.code_spec B.named (atoms_spec (ws := ws) B.pre _ (by rw [hw]; exact List.mem_cons_self))
      cases Option.some.inj (h1.symm.trans B.method)
      cases Option.some.inj (h2.symm.trans (Stand.of_body B).code)
      intro x hx
      rw [Array.isEmpty_iff.mp h7] at hx
      cases hx
    obtain ⟨t, a1, o, b1, b2, b3⟩ := body p e s m args below meth c s₁ B hml ht hP s₁ hh0 (Stand.of_body B)
    exact ⟨t, o, a1, b1, b2, b3⟩
/-- the table of a body with handlers -/
theorem vx_table {p : Program} {x y : MethodName} {S : Spec} {cc bytes : ByteArray} {maxL maxL' : Nat} {ret ret' : Option FieldType} {e : Env} {s s₁ : State} {m : MethodId} {args : Array Value} {below : List Frame} {meth : Method} {c : Code} {hh : List (Nat × Nat × Nat × Nat)}
    (B : BodyLoose p l y S cc maxL ret e s m args below meth c s₁) (h : (Cond.codeWith y bytes maxL' ret' hh).before args s = true) : c.exceptionTable.toList = tableOf hh := by
  obtain ⟨m9, meth9, c9, hn9, h1, h2, -, -, h6, -⟩ := Cond.codeWith_spec h
  cases Option.some.inj (hn9.symm.trans B.named)
  cases Option.some.inj (h1.symm.trans B.method)
  cases Option.some.inj (h2.symm.trans (Stand.of_body B).code)
  rw [← h6, table_eq]
end Bodies
end VXA
/-! ===== END ===== -/
/-! ===== BEGIN a static call of a method with an exception table ===== -/
section VXS
variable {p : Program} {l : Launch} {e : Env} {R : Room} {s : State} {m : MethodId} {args : Array Value} {below : List Frame} {meth : Method} {c : Code} {T : State} {H : Heap} {locs : List Loc} {cells slots : Nat}
abbrev vx_CSW (R : Room) (s : State) (args : Array Value) (own : String) (index : Nat) (y : MethodName) (bytes : ByteArray) (maxL : Nat) (ret : Option FieldType) (hh : List (Nat × Nat × Nat × Nat)) (ws : List Cond) (rm : Room) (mc ms n : Nat) : Prop :=
  (rm.cells = mc ∧ rm.slots = ms ∧ rm.frames + 1 ≤ R.frames ∧ 8 + (maxL + 11) + rm.locals ≤ R.locals ∧ (∀ w ∈ ws, ∀ (a' : Array Value) (U : State), s.WarmedH U.vm → w.before a' U = true) ∧ Cond.codeWith y bytes maxL ret hh ∈ ws) ∧
  (Cond.codeWith y bytes maxL ret hh).before args s = true ∧ (Cond.initialized y.cls).before args s = true ∧ (y.cls ≠ "java/lang/invoke/MethodHandle" ∧ y.cls ≠ "java/lang/invoke/VarHandle") ∧
  (∀ sig, parseMethodDescriptor y.desc = some sig → n = sig.parameters.length) ∧ (Cond.methodLink own index y).before args s = true ∧ (Cond.static y).before args s = true
theorem vx_cwSW {own : String} {index maxL mc ms : Nat} {y : MethodName} {bytes : ByteArray} {ret : Option FieldType} {hh : List (Nat × Nat × Nat × Nat)} {Ts ws ws' : List Cond} {rm : Room} (n : Nat) (ht : ∀ w ∈ Ts, w.before args s = true) (hT : GoodIn Ts (va_wsS own index y ws)) (hw : ws = Cond.codeWith y bytes maxL ret hh :: ws') (hrc : rm.cells = mc) (hrs : rm.slots = ms)
    (hd : y.cls ≠ "java/lang/invoke/MethodHandle" ∧ y.cls ≠ "java/lang/invoke/VarHandle" ∧ (parseMethodDescriptor y.desc).map (fun d => d.parameters.length) = some n) (hR : rm.frames + 1 ≤ R.frames ∧ 8 + (maxL + 11) + rm.locals ≤ R.locals) :
    vx_CSW R s args own index y bytes maxL ret hh ws rm mc ms n := by
  have ok : ∀ w ∈ va_wsS own index y ws, w.before args s = true := fun w h => ht w (hT w h).1
  have hG : GoodIn Ts ws := fun w h => hT w (by unfold va_wsS; exact List.mem_append_right _ h)
  have hc : Cond.codeWith y bytes maxL ret hh ∈ ws := by rw [hw]; exact List.mem_cons_self
  refine ⟨⟨hrc, hrs, hR.1, hR.2, pay_in ht hG, hc⟩, ht _ (hG _ hc).1, ok _ (by simp [va_wsS]), ⟨hd.1, hd.2.1⟩, fun sig h => ?_, ok _ (by simp [va_wsS]), ok _ (by simp [va_wsS])⟩
  have h2 := hd.2.2
  rw [h] at h2
  exact (Option.some.inj h2).symm
theorem vx_callSW (X : Stand p l e R s m args below meth c T locs cells slots) (hexec : p.tables.exec = Jvm.exec) {own : String} {index : Nat} {y : MethodName} {bytes : ByteArray} {maxL : Nat} {ret : Option FieldType} {hh : List (Nat × Nat × Nat × Nat)}
    (hown : s.vm.findClass own = some m.cls) (hlink : (Cond.methodLink own index y).before args s = true) (hstat : (Cond.static y).before args s = true) (hinit : (Cond.initialized y.cls).before args s = true)
    (hcode : (Cond.codeWith y bytes maxL ret hh).before args s = true) (hy : y.cls ≠ "java/lang/invoke/MethodHandle" ∧ y.cls ≠ "java/lang/invoke/VarHandle")
    {W9 : Nat} {Pre : Pt → Array Value → Prop} {Post : Pt → Array Value → Option Value → Pt → Prop} (hK : Back l R p e below s args y 3 W9 Pre Post)
    {g : JFrame} (hg : g.method = m) (hsize : g.locals.size = c.maxLocals) {argsL rest : List Value} (hlen : ∀ sig, parseMethodDescriptor y.desc = some sig → argsL.length = sig.parameters.length)
    (hstack : g.stack = argsL.reverse ++ rest) (hW : 2 * g.monitorRoom + (rest.map fun v => v.category).sum ≤ W9) (hdg : decode c.code g.pc = .ok (.invokestatic index, 3))
    (hpre : ∀ vm₁, s.WarmedH vm₁ → Pre ⟨T.setVm vm₁, locs, cells, slots⟩ argsL.toArray) :
    ∃ (v : Option Value) (vm₁ : Vm) (B : Pt), s.WarmedH vm₁ ∧ Stand p l e R s m args below meth c B.U B.locs B.cells B.slots ∧ Post ⟨T.setVm vm₁, locs, cells, slots⟩ argsL.toArray v B ∧
      ∀ target, Steps p.tables e below (B.U.setTop { g with pc := g.pc + 3, stack := v.toList ++ rest }) target → Steps p.tables e below (T.setTop g) target := by
  obtain ⟨mk, methM, cM, hnamed, hmethM, -, -, -, -, -, -, hsigM⟩ := Cond.codeWith_spec hcode
  have hstatic : methM.isStatic = true := Cond.static_spec hnamed hmethM hstat
  obtain ⟨kP, hkP, -⟩ := className_of_methodNamed hnamed
  have hinitP : kP.init = .initialized := Cond.initialized_spec (findClass_of_methodNamed hnamed) hkP hinit
  obtain ⟨vm₁, X₁, hstep₁⟩ := X.invokestatic hexec hown hlink hnamed hmethM hstatic hkP hinitP hy (g := g) hg (argsL := argsL) (rest := rest) (hlen _ hsigM) hstack hdg
  obtain ⟨v, B, X', hpost, hsteps⟩ := hK m meth c ⟨T.setVm vm₁, locs, cells, slots⟩ { g with stack := rest } (.invokestatic index) mk argsL.toArray X₁ hg hsize hdg hW (X₁.named hnamed) (hpre vm₁ X₁.warmed)
  exact ⟨v, vm₁, B, X₁.warmed, X', hpost, fun target h => hstep₁ _ fun acts => by rw [doInvoke_state]; exact hsteps.trans h⟩
theorem vx_runSW {y : MethodName} {bytes cc : ByteArray} {maxL nL mc ms n index : Nat} {ret : Option FieldType} {hh : List (Nat × Nat × Nat × Nat)} {ws : List Cond} {rm : Room} {Pc : Array Value → State → Prop} {Qc : Array Value → State → Outcome → State → Prop} {free : Addr → Prop} {Ts : List Cond} {own : String} {As rest : List Value} {g : JFrame}
    (S : CallFix p m c cc nL s args Ts own) (hM : Met l y ws rm Pc Qc mc ms free) (cw : vx_CSW R s args own index y bytes maxL ret hh ws rm mc ms n) (hp : PreS s H Pc As)
    (hg : g.method = m) (hn : As.length = n) (hsize : g.locals.size = nL) (hstack : g.stack = As.reverse ++ rest) (hW : 2 * g.monitorRoom + (rest.map fun v => v.category).sum ≤ 8) (hdg : decode cc g.pc = .ok (.invokestatic index, 3)) (hf : cells + mc ≤ R.cells ∧ slots + ms ≤ R.slots) :
    va_Run p l e R s m args below meth c H locs cells slots mc ms g rest (Qc As.toArray) (free) := by
  obtain ⟨⟨hrc, hrs, hfr, hlo, hws, hcw⟩, hcode, hini, hy, hlen, hl, hstt⟩ := cw
  have hK : Back l R p e below s args y 3 8 (PreOf R mc ms Pc) (PostOf Qc mc ms free) := va_backW (hh := hh) (bytes := bytes) (maxL := maxL) (ret := ret) hM hp.1 hrc hrs hfr hlo hws hcw (fun a' U hW => word_at hW (Or.inl (by first | rfl | simp [Cond.onTables, Cond.keeps, Cond.steady])) hini)
  obtain ⟨hx, hb, hml, ho, -⟩ := S
  intro T hT X
  obtain ⟨v, vm₁, ⟨U', l2, c2, s2⟩, hW₁, X', ⟨g', mk, t, L, e1, e2, hq, h1, hL, h2, h3⟩, st⟩ := vx_callSW X hx (hh := hh) (bytes := bytes) (maxL := maxL) (ret := ret) ho hl hstt hini hcode hy hK hg (hsize.trans hml.symm) (argsL := As) (rest := rest) (fun sig h => hn.trans (hlen sig h)) hstack hW (by rw [hb]; exact hdg)
    (fun vm₁ hW₁ => ⟨hf.1, hf.2, hp.2 (T.setVm vm₁) hT hW₁⟩)
  dsimp only [Pt.U, Pt.locs, Pt.cells, Pt.slots] at X' e1 e2 h1 h2 h3 st
  subst h1; subst h2; subst h3
  exact ⟨v, (T.setVm vm₁).calling g' mk As.toArray, t, U', L, hT, X', hL, e1, e2, hq, st⟩
/-- not caught here, past rows that name other classes: it goes on to the caller -/
theorem vx_outP {p : Program} {l : Launch} {e : Env} {R : Room} {s : State} {m : MethodId} {args : Array Value} {below : List Frame} {meth : Method} {c : Code} {H : Heap} {locs : List Loc} {cells slots : Nat} {free : Addr → Prop} {ls : Array Slot} {rest : List Value} {Qc : Array Value → State → Outcome → State → Prop} {XC : String → State → State → Prop}
    {pc : Nat} {own E : String} {ce : Cell} {q : Addr} {mc ms : Nat} (hown : s.vm.findClass own = some m.cls) (hlocks : meth.locks = false)
    (hpass : ∀ z ∈ c.exceptionTable.toList, covers z pc = false ∨ (z.catchType ≠ 0 ∧ ∃ nm : String, (Cond.classLink own z.catchType nm).before args s = true ∧ va_Nc E nm s)) (hcell : H[q]? = some ce) (hv : ce.vm = .none) (hcl : s.vm.findClass E = some ce.cls)
    (hx : ∀ t : State, t.heap = H → s.vm.Alike t.vm → XC E s t) (hf : ∀ z ∈ locs, free z.base) (hc : cells ≤ mc) (hs : slots ≤ ms) :
    vx_W p l e R s m args below meth c H locs cells slots (vx_MQ below Qc XC args s mc ms free) (F0 m pc ls rest) q := by
  intro T hT X
  have hpl : e.platform.magicAccessors = ({} : Platform).magicAccessors := by rw [X.admits.platform]
  obtain ⟨vm', hW', X', st⟩ := X.outThrough hlocks q (g := F0 m pc ls rest) rfl rfl rfl (cell := ce) (by rw [hT]; exact hcell) (by rw [hv]; rfl)
    (by obtain ⟨k9, h9, -⟩ := Vm.findClass_spec hcl; exact ⟨k9, h9⟩) (fun z hz => by
      rcases hpass z hz with h | ⟨hz0, nm, hl1, hn1⟩
      · exact Or.inl h
      · obtain ⟨c6, hc6, hcl6⟩ := Cond.classLink_spec hown hl1 e.platform hpl
        obtain ⟨a8, b8, h1, h2, h3⟩ := hn1
        cases Option.some.inj (h1.symm.trans hcl)
        cases Option.some.inj (h2.symm.trans hc6)
        exact Or.inr ⟨hz0, _, hcl6, h3⟩)
  obtain ⟨g₀, hfr⟩ := X'.frames_eq
  have hcell9 : ((T.setVm vm').setFrames (.throwing q :: below)).heap[q]? = some ce := by
    show T.heap[q]? = some ce
    rw [hT]; exact hcell
  have hend : Ended ((T.setVm vm').setFrames (.throwing q :: below)) below (.threw q) := State.frames_setFrames _ (State.cur_lt_of_frames hfr)
  refine ⟨(T.setVm vm').setFrames (.throwing q :: below), ?_, .threw q, X'.here.running, hend, Or.inr ⟨q, rfl, E, ce, locs, hx _ hT (X'.ends _).1.alike, hcell9, hv, hcl, (X'.ends _).1, (X'.ends _).2.mono hc hs, hf⟩⟩
  rw [X.pushThrowing_eq]
  exact st
/-- a thing of a world lies in the heap -/
theorem vx_lt {D : va_G} {cl : List vw_C} {ws : va_W} {H1 : Heap} (h : va_P D cl ws H1) {k : Nat} {q : Nat × va_E} (hk : ws[k]? = some q) : q.1 < H1.size := (h k q hk).lt
end VXS
/-! ===== END ===== -/
/-! ===== BEGIN methods with a table of their own: called by a name, returning or throwing ===== -/
section VXH
/-! vx_backW, vx_callVX, vx_callSX, vx_callVW, vx_runVW, vx_runVX, vx_runSX, vx_ofWH follow the same proofs as their sisters above (Free/Laws.lean, Shelf42/LK1.lean); vx_outP calls Shelf42/NT130.lean (outThrough). -/
section
variable {l : Launch} {R : Room} {p : Program} {e : Env} {below : List Frame} {s : State} {sargs : Array Value} {y : MethodName} {len W9 : Nat}
theorem vx_backW {ws : List Cond} {rm : Room} {Pc : Array Value → State → Prop} {Qc : Array Value → State → Outcome → State → Prop} {XC : String → State → State → Prop} {mc ms : Nat} {free : Addr → Prop} {bytes : ByteArray} {maxL : Nat} {ret : Option FieldType} {hh : List (Nat × Nat × Nat × Nat)}
    (hM : vx_Met l y ws rm Pc Qc XC mc ms free) (hblind : FrameBlind Pc) (hrc : rm.cells = mc) (hrs : rm.slots = ms)
    (hframes : rm.frames + 1 ≤ R.frames) (hlocals : W9 + (maxL + 11) + rm.locals ≤ R.locals)
    (hws : ∀ w ∈ ws, ∀ a' U, s.WarmedH U.vm → w.before a' U = true) (hcode : Cond.codeWith y bytes maxL ret hh ∈ ws) (hinit : ∀ a' U, s.WarmedH U.vm → (Cond.initialized y.cls).before a' U = true) :
    vx_Back l R p e below s sargs y len W9 (PreOf R mc ms Pc) (PostOf Qc mc ms free) (vx_Post XC mc ms free) := by
  intro m meth c A g ig mk a X hg hsize hdg hW hn hp
  have h1 : (headSpec ws rm).pre.before a A.U = true := atoms_intro fun w hw => hws w hw _ _ X.warmed
  have h2 : (Cond.codeWith y bytes maxL ret hh).before a A.U = true := hws _ hcode _ _ X.warmed
  have h3 : (Cond.initialized y.cls).before a A.U = true := hinit _ _ X.warmed
  have h4 : A.cells + (headSpec ws rm).room.cells ≤ R.cells := by rw [show (headSpec ws rm).room.cells = mc from hrc]; exact hp.1
  have h5 : A.slots + (headSpec ws rm).room.slots ≤ R.slots := by rw [show (headSpec ws rm).room.slots = ms from hrs]; exact hp.2.1
  have hPc : Pc a (A.U.calling g mk a) := hblind _ _ _ _ hp.2.2
  obtain ⟨U, Ls, c0, s0⟩ := A
  dsimp only [Pt.U, Pt.locs, Pt.cells, Pt.slots] at h1 h2 h3 h4 h5 X hn hPc ⊢
  obtain ⟨m9, methY, cY, hn9, hmY, hcY, -, hlY, -⟩ := Cond.codeWith_spec h2
  cases Option.some.inj (hn9.symm.trans hn)
  obtain ⟨kY, hkY, -⟩ := className_of_methodNamed hn
  have hinitY : kY.init = .initialized := Cond.initialized_spec (findClass_of_methodNamed hn) hkY h3
  have h : At U g.method c below := by rw [hg]; exact X.here
  have hlocals9 : W9 + (maxL + 11) + (headSpec ws rm).room.locals ≤ R.locals := hlocals
  have happ : (headSpec ws rm).appliesLoose y e.platform (U.calling g mk a) = true :=
    Spec.appliesLoose_calling (g := g) h hdg hn hkY hinitY
      (X.room_calling (g := g) (R' := (headSpec ws rm).room) hsize hmY hcY hframes (by rw [hlY]; omega) h4 h5) h1
  obtain ⟨mid, hmid⟩ := h.above
  have hfr : (U.setTop g).frames = (.java g :: mid) ++ below := by rw [State.frames_setTop' g h.top, hmid]; rfl
  obtain ⟨o, s₂, hsteps, -, hend, hq⟩ := Steps.callFree hM p X.admits X.cas X.clock (acts := []) hfr happ hPc trivial
  have hq' : vx_Q Qc XC mc ms free a (U.calling g mk a) o s₂ := hq
  rw [State.frames_setTop' g h.top] at hend
  obtain ⟨g₀, hg0⟩ := Option.isSome_iff_exists.mp h.top
  obtain ⟨r, hr⟩ := State.topJava?_eq_some.mp hg0
  have hr' : (({ U with heap := s₂.heap, slotsUsed := s₂.slotsUsed } : State).setVm s₂.vm).frames = .java g₀ :: r := hr
  rcases hq' with ⟨hqc, L, hfe, hL⟩ | ⟨q, rfl, E, ce, L, hx, hce, hcv, hcl, hW₂, hsm, hL⟩
  · obtain ⟨⟨v, rfl⟩, hW₂, e2, q2, q3, q4, q5, q6⟩ := id hfe
    have e3 : s₂ = ({ (U.calling g mk a).setFrames s₂.frames with heap := s₂.heap, slotsUsed := s₂.slotsUsed } : State).setVm s₂.vm := by
      have : s₂ = ({ s₂ with vm := (U.calling g mk a).vm } : State).setVm s₂.vm := rfl
      rw [e2] at this
      exact this
    obtain ⟨c₂, i₂, len₂, hc₂, hd₂, hf₂⟩ := hend
    have hW' : U.WarmedH s₂.vm := hW₂
    have hcc : c₂ = c := by
      have h1 : s₂.code? g.method = U.code? g.method := by
        rw [State.code?_eq, State.code?_eq, hW'.alike.method?]
      exact Option.some.inj (hc₂.symm.trans (h1.trans h.code))
    subst hcc
    have hlen : len₂ = len := by rw [hdg] at hd₂; cases hd₂; rfl
    subst hlen
    have hs₂ : s₂ = (({ U with heap := s₂.heap, slotsUsed := s₂.slotsUsed } : State).setVm s₂.vm).setTop { g with pc := g.pc + len₂, stack := v.toList ++ g.stack } := by
      refine e3.trans ?_
      rw [hf₂, State.calling_eq h.top, State.setFrames_setFrames, State.setTop_of_frames _ hr', hr]
      rfl
    have hsame : U.sameButNew ({ U with heap := s₂.heap, slotsUsed := s₂.slotsUsed } : State) L mc ms := by
      refine ⟨?_, q2, q3, q4, q5, q6⟩
      obtain ⟨t, ht, -⟩ := State.frames_cons hr
      show ({ U with heap := s₂.heap, slotsUsed := s₂.slotsUsed } : State) = { U.setFrames U.frames with heap := s₂.heap, slotsUsed := s₂.slotsUsed }
      rw [State.setFrames_self ht]
    subst hg
    refine Or.inl ⟨v, ⟨(({ U with heap := s₂.heap, slotsUsed := s₂.slotsUsed } : State).setVm s₂.vm), Ls ++ L, c0 + mc, s0 + ms⟩,
      ⟨X.admits, X.cas, X.clock, X.frames, X.room, X.hears, X.method, X.code, (X.here.setHeapUsed s₂.heap s₂.slotsUsed).setVm hW'.alike, X.tail, State.WarmedH.trans X.warmed hW', X.limits, X.bytes, X.same.trans (hsame.setVm s.vm)⟩,
      ⟨g, mk, s₂, L, rfl, rfl, hqc, rfl, hL, rfl, rfl⟩, ?_⟩
    show Steps p.tables e below _ ((({ U with heap := s₂.heap, slotsUsed := s₂.slotsUsed } : State).setVm s₂.vm).setTop { g with pc := g.pc + len₂, stack := v.toList ++ g.stack })
    rw [← hs₂]
    exact hsteps
  · obtain ⟨e2, q2, q3, q4, q5, q6⟩ := id hsm
    have e3 : s₂ = ({ (U.calling g mk a).setFrames s₂.frames with heap := s₂.heap, slotsUsed := s₂.slotsUsed } : State).setVm s₂.vm := by
      have : s₂ = ({ s₂ with vm := (U.calling g mk a).vm } : State).setVm s₂.vm := rfl
      rw [e2] at this
      exact this
    have hf₂ : s₂.frames = .throwing q :: .java g :: U.frames.tail := hend
    have hW' : U.WarmedH s₂.vm := hW₂
    have hs₂ : s₂ = ((({ U with heap := s₂.heap, slotsUsed := s₂.slotsUsed } : State).setVm s₂.vm).setTop g).pushFrame (.throwing q) := by
      refine e3.trans ?_
      rw [hf₂, State.calling_eq h.top, State.setFrames_setFrames, State.pushFrame, State.frames_setTop _ hr', State.setTop_of_frames _ hr', State.setFrames_setFrames, hr]
      rfl
    have hsame : U.sameButNew ({ U with heap := s₂.heap, slotsUsed := s₂.slotsUsed } : State) L mc ms := by
      refine ⟨?_, q2, q3, q4, q5, q6⟩
      obtain ⟨t, ht, -⟩ := State.frames_cons hr
      show ({ U with heap := s₂.heap, slotsUsed := s₂.slotsUsed } : State) = { U.setFrames U.frames with heap := s₂.heap, slotsUsed := s₂.slotsUsed }
      rw [State.setFrames_self ht]
    subst hg
    refine Or.inr ⟨q, ⟨(({ U with heap := s₂.heap, slotsUsed := s₂.slotsUsed } : State).setVm s₂.vm), Ls ++ L, c0 + mc, s0 + ms⟩,
      ⟨X.admits, X.cas, X.clock, X.frames, X.room, X.hears, X.method, X.code, (X.here.setHeapUsed s₂.heap s₂.slotsUsed).setVm hW'.alike, X.tail, State.WarmedH.trans X.warmed hW', X.limits, X.bytes, X.same.trans (hsame.setVm s.vm)⟩,
      ⟨g, mk, s₂, L, E, ce, rfl, rfl, hx, hce, hcv, hcl, rfl, hL, rfl, rfl⟩, ?_⟩
    show Steps p.tables e below _ (((({ U with heap := s₂.heap, slotsUsed := s₂.slotsUsed } : State).setVm s₂.vm).setTop g).pushFrame (.throwing q))
    rw [← hs₂]
    exact hsteps
end
variable {p : Program} {l : Launch} {e : Env} {R : Room} {s : State} {m : MethodId} {args : Array Value} {below : List Frame} {meth : Method} {c : Code} {T : State} {H : Heap} {locs : List Loc} {cells slots : Nat}
theorem vx_callVX (X : Stand p l e R s m args below meth c T locs cells slots) (hexec : p.tables.exec = Jvm.exec) {own C : String} {index : Nat} {y : MethodName} {bytes : ByteArray} {maxL : Nat} {ret : Option FieldType} {hh : List (Nat × Nat × Nat × Nat)}
    (hown : s.vm.findClass own = some m.cls) (hlink : (Cond.methodLink own index y).before args s = true) (hinst : (Cond.instanceMethod y).before args s = true) (hsel : (Cond.selects C y y).before args s = true)
    (hcode : (Cond.codeWith y bytes maxL ret hh).before args s = true) (hy : y.cls ≠ "java/lang/invoke/MethodHandle" ∧ y.cls ≠ "java/lang/invoke/VarHandle")
    {W9 : Nat} {Pre : Pt → Array Value → Prop} {Post : Pt → Array Value → Option Value → Pt → Prop} {PostX : Pt → Array Value → Addr → Pt → Prop} (hK : vx_Back l R p e below s args y 3 W9 Pre Post PostX)
    {b : Addr} {cellB : Cell} (hcell : T.heap[b]? = some cellB) (hobj : cellB.vm.isStatics = false) (hcls : s.vm.findClass C = some cellB.cls)
    {g : JFrame} (hg : g.method = m) (hsize : g.locals.size = c.maxLocals) {argsL rest : List Value} (hlen : ∀ sig, parseMethodDescriptor y.desc = some sig → argsL.length = sig.parameters.length)
    (hstack : g.stack = argsL.reverse ++ .ref b :: rest) (hW : 2 * g.monitorRoom + (rest.map fun v => v.category).sum ≤ W9) (hdg : decode c.code g.pc = .ok (.invokevirtual index, 3))
    (hpre : ∀ vm₁, s.WarmedH vm₁ → Pre ⟨T.setVm vm₁, locs, cells, slots⟩ (Value.ref b :: argsL).toArray) :
    (∃ (v : Option Value) (vm₁ : Vm) (B : Pt), s.WarmedH vm₁ ∧ Stand p l e R s m args below meth c B.U B.locs B.cells B.slots ∧ Post ⟨T.setVm vm₁, locs, cells, slots⟩ (Value.ref b :: argsL).toArray v B ∧
      ∀ target, Steps p.tables e below (B.U.setTop { g with pc := g.pc + 3, stack := v.toList ++ rest }) target → Steps p.tables e below (T.setTop g) target) ∨
    (∃ (q : Addr) (vm₁ : Vm) (B : Pt), s.WarmedH vm₁ ∧ Stand p l e R s m args below meth c B.U B.locs B.cells B.slots ∧ PostX ⟨T.setVm vm₁, locs, cells, slots⟩ (Value.ref b :: argsL).toArray q B ∧
      Steps p.tables e below (T.setTop g) ((B.U.setTop { g with stack := rest }).pushFrame (.throwing q))) := by
  obtain ⟨mk, methM, hnamed, hmethM, hstM, habM⟩ := Cond.instanceMethod_spec hinst
  obtain ⟨m8, methM', cM, hn8, hmethM', -, -, -, -, -, -, hsigM⟩ := Cond.codeWith_spec hcode
  cases Option.some.inj (hn8.symm.trans hnamed)
  cases hmethM.symm.trans hmethM'
  obtain ⟨c2, r2, m2, q1, q2, q3, q4, kP, hkP, hkPi⟩ := Cond.selects_spec hsel
  cases hcls.symm.trans q1
  cases (State.methodFound?_of_named hnamed hy).symm.trans q2
  cases hnamed.symm.trans q3
  have hselP : selectMethod e.platform s.vm cellB.cls mk = .method mk := by rw [Launch.admits_selectMethod X.admits]; exact q4
  obtain ⟨vm₁, X₁, hstep₁⟩ := X.invokevirtual hexec hown hlink hnamed hmethM hstM hkP hkPi hy (a := b) (cell := cellB) hcell
    (fun z h => by rw [h] at hobj; cases hobj) hselP hmethM habM hkP hkPi (g := g) hg (argsL := argsL) (rest := rest) (hlen _ hsigM) hstack hdg
  rcases hK m meth c ⟨T.setVm vm₁, locs, cells, slots⟩ { g with stack := rest } (.invokevirtual index) mk (Value.ref b :: argsL).toArray X₁ hg hsize hdg hW (X₁.named hnamed) (hpre vm₁ X₁.warmed) with ⟨v, B, X', hpost, hsteps⟩ | ⟨q, B, X', hpost, hsteps⟩
  · exact Or.inl ⟨v, vm₁, B, X₁.warmed, X', hpost, fun target h => hstep₁ _ fun acts => by rw [doInvoke_state]; exact hsteps.trans h⟩
  · exact Or.inr ⟨q, vm₁, B, X₁.warmed, X', hpost, hstep₁ _ fun acts => by rw [doInvoke_state]; exact hsteps⟩
theorem vx_callSX (X : Stand p l e R s m args below meth c T locs cells slots) (hexec : p.tables.exec = Jvm.exec) {own : String} {index : Nat} {y : MethodName} {bytes : ByteArray} {maxL : Nat} {ret : Option FieldType} {hh : List (Nat × Nat × Nat × Nat)}
    (hown : s.vm.findClass own = some m.cls) (hlink : (Cond.methodLink own index y).before args s = true) (hstat : (Cond.static y).before args s = true) (hinit : (Cond.initialized y.cls).before args s = true)
    (hcode : (Cond.codeWith y bytes maxL ret hh).before args s = true) (hy : y.cls ≠ "java/lang/invoke/MethodHandle" ∧ y.cls ≠ "java/lang/invoke/VarHandle")
    {W9 : Nat} {Pre : Pt → Array Value → Prop} {Post : Pt → Array Value → Option Value → Pt → Prop} {PostX : Pt → Array Value → Addr → Pt → Prop} (hK : vx_Back l R p e below s args y 3 W9 Pre Post PostX)
    {g : JFrame} (hg : g.method = m) (hsize : g.locals.size = c.maxLocals) {argsL rest : List Value} (hlen : ∀ sig, parseMethodDescriptor y.desc = some sig → argsL.length = sig.parameters.length)
    (hstack : g.stack = argsL.reverse ++ rest) (hW : 2 * g.monitorRoom + (rest.map fun v => v.category).sum ≤ W9) (hdg : decode c.code g.pc = .ok (.invokestatic index, 3))
    (hpre : ∀ vm₁, s.WarmedH vm₁ → Pre ⟨T.setVm vm₁, locs, cells, slots⟩ argsL.toArray) :
    (∃ (v : Option Value) (vm₁ : Vm) (B : Pt), s.WarmedH vm₁ ∧ Stand p l e R s m args below meth c B.U B.locs B.cells B.slots ∧ Post ⟨T.setVm vm₁, locs, cells, slots⟩ argsL.toArray v B ∧
      ∀ target, Steps p.tables e below (B.U.setTop { g with pc := g.pc + 3, stack := v.toList ++ rest }) target → Steps p.tables e below (T.setTop g) target) ∨
    (∃ (q : Addr) (vm₁ : Vm) (B : Pt), s.WarmedH vm₁ ∧ Stand p l e R s m args below meth c B.U B.locs B.cells B.slots ∧ PostX ⟨T.setVm vm₁, locs, cells, slots⟩ argsL.toArray q B ∧
      Steps p.tables e below (T.setTop g) ((B.U.setTop { g with stack := rest }).pushFrame (.throwing q))) := by
  obtain ⟨mk, methM, cM, hnamed, hmethM, -, -, -, -, -, -, hsigM⟩ := Cond.codeWith_spec hcode
  have hstatic : methM.isStatic = true := Cond.static_spec hnamed hmethM hstat
  obtain ⟨kP, hkP, -⟩ := className_of_methodNamed hnamed
  have hinitP : kP.init = .initialized := Cond.initialized_spec (findClass_of_methodNamed hnamed) hkP hinit
  obtain ⟨vm₁, X₁, hstep₁⟩ := X.invokestatic hexec hown hlink hnamed hmethM hstatic hkP hinitP hy (g := g) hg (argsL := argsL) (rest := rest) (hlen _ hsigM) hstack hdg
  rcases hK m meth c ⟨T.setVm vm₁, locs, cells, slots⟩ { g with stack := rest } (.invokestatic index) mk argsL.toArray X₁ hg hsize hdg hW (X₁.named hnamed) (hpre vm₁ X₁.warmed) with ⟨v, B, X', hpost, hsteps⟩ | ⟨q, B, X', hpost, hsteps⟩
  · exact Or.inl ⟨v, vm₁, B, X₁.warmed, X', hpost, fun target h => hstep₁ _ fun acts => by rw [doInvoke_state]; exact hsteps.trans h⟩
  · exact Or.inr ⟨q, vm₁, B, X₁.warmed, X', hpost, hstep₁ _ fun acts => by rw [doInvoke_state]; exact hsteps⟩
theorem vx_callVW (X : Stand p l e R s m args below meth c T locs cells slots) (hexec : p.tables.exec = Jvm.exec) {own C : String} {index : Nat} {y : MethodName} {bytes : ByteArray} {maxL : Nat} {ret : Option FieldType} {hh : List (Nat × Nat × Nat × Nat)}
    (hown : s.vm.findClass own = some m.cls) (hlink : (Cond.methodLink own index y).before args s = true) (hinst : (Cond.instanceMethod y).before args s = true) (hsel : (Cond.selects C y y).before args s = true)
    (hcode : (Cond.codeWith y bytes maxL ret hh).before args s = true) (hy : y.cls ≠ "java/lang/invoke/MethodHandle" ∧ y.cls ≠ "java/lang/invoke/VarHandle")
    {W9 : Nat} {Pre : Pt → Array Value → Prop} {Post : Pt → Array Value → Option Value → Pt → Prop} (hK : Back l R p e below s args y 3 W9 Pre Post)
    {b : Addr} {cellB : Cell} (hcell : T.heap[b]? = some cellB) (hobj : cellB.vm.isStatics = false) (hcls : s.vm.findClass C = some cellB.cls)
    {g : JFrame} (hg : g.method = m) (hsize : g.locals.size = c.maxLocals) {argsL rest : List Value} (hlen : ∀ sig, parseMethodDescriptor y.desc = some sig → argsL.length = sig.parameters.length)
    (hstack : g.stack = argsL.reverse ++ .ref b :: rest) (hW : 2 * g.monitorRoom + (rest.map fun v => v.category).sum ≤ W9) (hdg : decode c.code g.pc = .ok (.invokevirtual index, 3))
    (hpre : ∀ vm₁, s.WarmedH vm₁ → Pre ⟨T.setVm vm₁, locs, cells, slots⟩ (Value.ref b :: argsL).toArray) :
    ∃ (v : Option Value) (vm₁ : Vm) (B : Pt), s.WarmedH vm₁ ∧ Stand p l e R s m args below meth c B.U B.locs B.cells B.slots ∧ Post ⟨T.setVm vm₁, locs, cells, slots⟩ (Value.ref b :: argsL).toArray v B ∧
      ∀ target, Steps p.tables e below (B.U.setTop { g with pc := g.pc + 3, stack := v.toList ++ rest }) target → Steps p.tables e below (T.setTop g) target := by
  obtain ⟨mk, methM, hnamed, hmethM, hstM, habM⟩ := Cond.instanceMethod_spec hinst
  obtain ⟨m8, methM', cM, hn8, hmethM', -, -, -, -, -, -, hsigM⟩ := Cond.codeWith_spec hcode
  cases Option.some.inj (hn8.symm.trans hnamed)
  cases hmethM.symm.trans hmethM'
  obtain ⟨c2, r2, m2, q1, q2, q3, q4, kP, hkP, hkPi⟩ := Cond.selects_spec hsel
  cases hcls.symm.trans q1
  cases (State.methodFound?_of_named hnamed hy).symm.trans q2
  cases hnamed.symm.trans q3
  have hselP : selectMethod e.platform s.vm cellB.cls mk = .method mk := by rw [Launch.admits_selectMethod X.admits]; exact q4
  obtain ⟨vm₁, X₁, hstep₁⟩ := X.invokevirtual hexec hown hlink hnamed hmethM hstM hkP hkPi hy (a := b) (cell := cellB) hcell
    (fun z h => by rw [h] at hobj; cases hobj) hselP hmethM habM hkP hkPi (g := g) hg (argsL := argsL) (rest := rest) (hlen _ hsigM) hstack hdg
  obtain ⟨v, B, X', hpost, hsteps⟩ := hK m meth c ⟨T.setVm vm₁, locs, cells, slots⟩ { g with stack := rest } (.invokevirtual index) mk (Value.ref b :: argsL).toArray X₁ hg hsize hdg hW (X₁.named hnamed) (hpre vm₁ X₁.warmed)
  exact ⟨v, vm₁, B, X₁.warmed, X', hpost, fun target h => hstep₁ _ fun acts => by rw [doInvoke_state]; exact hsteps.trans h⟩
abbrev vx_CVW (R : Room) (s : State) (args : Array Value) (own C : String) (index : Nat) (y : MethodName) (bytes : ByteArray) (maxL : Nat) (ret : Option FieldType) (hh : List (Nat × Nat × Nat × Nat)) (ws : List Cond) (rm : Room) (mc ms n : Nat) : Prop :=
  (rm.cells = mc ∧ rm.slots = ms ∧ rm.frames + 1 ≤ R.frames ∧ 8 + (maxL + 11) + rm.locals ≤ R.locals ∧ (∀ w ∈ ws, ∀ (a' : Array Value) (U : State), s.WarmedH U.vm → w.before a' U = true) ∧ Cond.codeWith y bytes maxL ret hh ∈ ws) ∧
  (Cond.codeWith y bytes maxL ret hh).before args s = true ∧ (Cond.initialized y.cls).before args s = true ∧ (y.cls ≠ "java/lang/invoke/MethodHandle" ∧ y.cls ≠ "java/lang/invoke/VarHandle") ∧
  (∀ sig, parseMethodDescriptor y.desc = some sig → n = sig.parameters.length) ∧ (Cond.methodLink own index y).before args s = true ∧ (Cond.instanceMethod y).before args s = true ∧ (Cond.selects C y y).before args s = true
theorem vx_cwVW {own C : String} {index maxL mc ms : Nat} {y : MethodName} {bytes : ByteArray} {ret : Option FieldType} {hh : List (Nat × Nat × Nat × Nat)} {Ts ws ws' : List Cond} {rm : Room} (n : Nat) (ht : ∀ w ∈ Ts, w.before args s = true) (hT : GoodIn Ts (wsV own index C y ws)) (hw : ws = Cond.codeWith y bytes maxL ret hh :: ws') (hrc : rm.cells = mc) (hrs : rm.slots = ms)
    (hd : y.cls = C ∧ y.cls ≠ "java/lang/invoke/MethodHandle" ∧ y.cls ≠ "java/lang/invoke/VarHandle" ∧ (parseMethodDescriptor y.desc).map (fun d => d.parameters.length) = some n) (hR : rm.frames + 1 ≤ R.frames ∧ 8 + (maxL + 11) + rm.locals ≤ R.locals) :
    vx_CVW R s args own C index y bytes maxL ret hh ws rm mc ms n := by
  obtain ⟨hC, hd⟩ := hd
  subst hC
  have ok : ∀ w ∈ wsV own index y.cls y ws, w.before args s = true := fun w h => ht w (hT w h).1
  have hG : GoodIn Ts ws := fun w h => hT w (by unfold wsV; exact List.mem_append_right _ h)
  have hc : Cond.codeWith y bytes maxL ret hh ∈ ws := by rw [hw]; exact List.mem_cons_self
  refine ⟨⟨hrc, hrs, hR.1, hR.2, pay_in ht hG, hc⟩, ht _ (hG _ hc).1, ok _ (by simp [wsV]), ⟨hd.1, hd.2.1⟩, fun sig h => ?_, ok _ (by simp [wsV]), ok _ (by simp [wsV]), ok _ (by simp [wsV])⟩
  have h2 := hd.2.2
  rw [h] at h2
  exact (Option.some.inj h2).symm
theorem vx_runVW {y : MethodName} {bytes cc : ByteArray} {maxL nL mc ms n index : Nat} {ret : Option FieldType} {hh : List (Nat × Nat × Nat × Nat)} {ws : List Cond} {rm : Room} {Pc : Array Value → State → Prop} {Qc : Array Value → State → Outcome → State → Prop} {free : Addr → Prop} {Ts : List Cond} {own C : String} {b : Addr} {As rest : List Value} {g : JFrame}
    (S : CallFix p m c cc nL s args Ts own) (hM : Met l y ws rm Pc Qc mc ms free) (cw : vx_CVW R s args own C index y bytes maxL ret hh ws rm mc ms n) (hp : PreV s H C b Pc As)
    (hg : g.method = m) (hn : As.length = n) (hsize : g.locals.size = nL) (hstack : g.stack = As.reverse ++ .ref b :: rest) (hW : 2 * g.monitorRoom + (rest.map fun v => v.category).sum ≤ 8) (hdg : decode cc g.pc = .ok (.invokevirtual index, 3)) (hf : cells + mc ≤ R.cells ∧ slots + ms ≤ R.slots) :
    va_Run p l e R s m args below meth c H locs cells slots mc ms g rest (Qc (Value.ref b :: As).toArray) free := by
  obtain ⟨⟨hrc, hrs, hfr, hlo, hws, hcw⟩, hcode, hini, hy, hlen, hl, hin, hse⟩ := cw
  have hK : Back l R p e below s args y 3 8 (PreOf R mc ms Pc) (PostOf Qc mc ms free) := va_backW (hh := hh) (bytes := bytes) (maxL := maxL) (ret := ret) hM hp.1 hrc hrs hfr hlo hws hcw (fun a' U hW => word_at hW (Or.inl (by first | rfl | simp [Cond.onTables, Cond.keeps, Cond.steady])) hini)
  obtain ⟨hx, hb, hml, ho, -⟩ := S
  obtain ⟨-, ⟨cellB, hcB, hoB, hclB⟩, hPc⟩ := hp
  intro T hT X
  obtain ⟨v, vm₁, ⟨U', l2, c2, s2⟩, hW₁, X', ⟨g', mk, t, L, e1, e2, hq, h1, hL, h2, h3⟩, st⟩ := vx_callVW X hx (C := C) (hh := hh) (bytes := bytes) (maxL := maxL) (ret := ret) ho hl hin hse hcode hy hK (by rw [hT]; exact hcB) hoB hclB hg (hsize.trans hml.symm) (argsL := As) (rest := rest) (fun sig h => hn.trans (hlen sig h)) hstack hW (by rw [hb]; exact hdg)
    (fun vm₁ hW₁ => ⟨hf.1, hf.2, hPc (T.setVm vm₁) hT hW₁⟩)
  dsimp only [Pt.U, Pt.locs, Pt.cells, Pt.slots] at X' e1 e2 h1 h2 h3 st
  subst h1; subst h2; subst h3
  exact ⟨v, (T.setVm vm₁).calling g' mk (Value.ref b :: As).toArray, t, U', L, hT, X', hL, e1, e2, hq, st⟩
section
variable {y : MethodName} {bytes cc : ByteArray} {maxL nL mc ms n index : Nat} {ret : Option FieldType} {ws : List Cond} {rm : Room} {Pc : Array Value → State → Prop} {Qc : Array Value → State → Outcome → State → Prop} {XC : String → State → State → Prop} {free : Addr → Prop} {Ts : List Cond} {own C : String} {b : Addr} {As rest : List Value} {g : JFrame}
theorem vx_runVX {hh : List (Nat × Nat × Nat × Nat)} (S : CallFix p m c cc nL s args Ts own) (hM : vx_Met l y ws rm Pc Qc XC mc ms free) (cw : vx_CVW R s args own C index y bytes maxL ret hh ws rm mc ms n) (hp : PreV s H C b Pc As)
    (hg : g.method = m) (hn : As.length = n) (hsize : g.locals.size = nL) (hstack : g.stack = As.reverse ++ .ref b :: rest) (hW : 2 * g.monitorRoom + (rest.map fun v => v.category).sum ≤ 8) (hdg : decode cc g.pc = .ok (.invokevirtual index, 3)) (hf : cells + mc ≤ R.cells ∧ slots + ms ≤ R.slots) :
    vx_Run p l e R s m args below meth c H locs cells slots mc ms g rest (Qc (Value.ref b :: As).toArray) XC free := by
  obtain ⟨⟨hrc, hrs, hfr, hlo, hws, hcw⟩, hcode, hini, hy, hlen, hl, hin, hse⟩ := cw
  have hK : vx_Back l R p e below s args y 3 8 (PreOf R mc ms Pc) (PostOf Qc mc ms free) (vx_Post XC mc ms free) := vx_backW (hh := hh) (bytes := bytes) (maxL := maxL) (ret := ret) hM hp.1 hrc hrs hfr hlo hws hcw (fun a' U hW => word_at hW (Or.inl (by first | rfl | simp [Cond.onTables, Cond.keeps, Cond.steady])) hini)
  obtain ⟨hx, hb, hml, ho, -⟩ := S
  obtain ⟨-, ⟨cellB, hcB, hoB, hclB⟩, hPc⟩ := hp
  intro T hT X
  rcases vx_callVX X hx (C := C) (hh := hh) (bytes := bytes) (maxL := maxL) (ret := ret) ho hl hin hse hcode hy hK (by rw [hT]; exact hcB) hoB hclB hg (hsize.trans hml.symm) (argsL := As) (rest := rest) (fun sig h => hn.trans (hlen sig h)) hstack hW (by rw [hb]; exact hdg)
    (fun vm₁ hW₁ => ⟨hf.1, hf.2, hPc (T.setVm vm₁) hT hW₁⟩) with ⟨v, vm₁, ⟨U', l2, c2, s2⟩, hW₁, X', ⟨g', mk, t, L, e1, e2, hq, h1, hL, h2, h3⟩, st⟩ | ⟨q, vm₁, ⟨U', l2, c2, s2⟩, hW₁, X', ⟨g', mk, t, L, E, ce, e1, e2, hq, hce, hcv, hcl, h1, hL, h2, h3⟩, st⟩
  · dsimp only [Pt.U, Pt.locs, Pt.cells, Pt.slots] at X' e1 e2 h1 h2 h3 st
    subst h1; subst h2; subst h3
    exact Or.inl ⟨v, (T.setVm vm₁).calling g' mk (Value.ref b :: As).toArray, t, U', L, hT, X', hL, e1, e2, hq, st⟩
  · dsimp only [Pt.U, Pt.locs, Pt.cells, Pt.slots] at X' e1 e2 h1 h2 h3 st hcl
    subst h1; subst h2; subst h3
    exact Or.inr ⟨q, (T.setVm vm₁).calling g' mk (Value.ref b :: As).toArray, t, U', L, E, ce, hT, X', hL, e1, e2, hq, hce, hcv, vx_cls hW₁ hcl, st⟩
theorem vx_runSX {hh : List (Nat × Nat × Nat × Nat)} (S : CallFix p m c cc nL s args Ts own) (hM : vx_Met l y ws rm Pc Qc XC mc ms free) (cw : vx_CSW R s args own index y bytes maxL ret hh ws rm mc ms n) (hp : PreS s H Pc As)
    (hg : g.method = m) (hn : As.length = n) (hsize : g.locals.size = nL) (hstack : g.stack = As.reverse ++ rest) (hW : 2 * g.monitorRoom + (rest.map fun v => v.category).sum ≤ 8) (hdg : decode cc g.pc = .ok (.invokestatic index, 3)) (hf : cells + mc ≤ R.cells ∧ slots + ms ≤ R.slots) :
    vx_Run p l e R s m args below meth c H locs cells slots mc ms g rest (Qc As.toArray) XC free := by
  obtain ⟨⟨hrc, hrs, hfr, hlo, hws, hcw⟩, hcode, hini, hy, hlen, hl, hstt⟩ := cw
  have hK : vx_Back l R p e below s args y 3 8 (PreOf R mc ms Pc) (PostOf Qc mc ms free) (vx_Post XC mc ms free) := vx_backW (hh := hh) (bytes := bytes) (maxL := maxL) (ret := ret) hM hp.1 hrc hrs hfr hlo hws hcw (fun a' U hW => word_at hW (Or.inl (by first | rfl | simp [Cond.onTables, Cond.keeps, Cond.steady])) hini)
  obtain ⟨hx, hb, hml, ho, -⟩ := S
  intro T hT X
  rcases vx_callSX X hx (hh := hh) (bytes := bytes) (maxL := maxL) (ret := ret) ho hl hstt hini hcode hy hK hg (hsize.trans hml.symm) (argsL := As) (rest := rest) (fun sig h => hn.trans (hlen sig h)) hstack hW (by rw [hb]; exact hdg)
    (fun vm₁ hW₁ => ⟨hf.1, hf.2, hp.2 (T.setVm vm₁) hT hW₁⟩) with ⟨v, vm₁, ⟨U', l2, c2, s2⟩, hW₁, X', ⟨g', mk, t, L, e1, e2, hq, h1, hL, h2, h3⟩, st⟩ | ⟨q, vm₁, ⟨U', l2, c2, s2⟩, hW₁, X', ⟨g', mk, t, L, E, ce, e1, e2, hq, hce, hcv, hcl, h1, hL, h2, h3⟩, st⟩
  · dsimp only [Pt.U, Pt.locs, Pt.cells, Pt.slots] at X' e1 e2 h1 h2 h3 st
    subst h1; subst h2; subst h3
    exact Or.inl ⟨v, (T.setVm vm₁).calling g' mk As.toArray, t, U', L, hT, X', hL, e1, e2, hq, st⟩
  · dsimp only [Pt.U, Pt.locs, Pt.cells, Pt.slots] at X' e1 e2 h1 h2 h3 st hcl
    subst h1; subst h2; subst h3
    exact Or.inr ⟨q, (T.setVm vm₁).calling g' mk As.toArray, t, U', L, E, ce, hT, X', hL, e1, e2, hq, hce, hcv, vx_cls hW₁ hcl, st⟩
end
end VXH
theorem vx_ofWH {l : Launch} {y : MethodName} {ws ws' : List Cond} {rm : Room} {Pc : Array Value → State → Prop} {Qc : Array Value → State → Outcome → State → Prop} {XC : String → State → State → Prop} {mc ms : Nat} {free : Addr → Prop} {cc : ByteArray} {maxL : Nat} {ret : Option FieldType} {hh : List (Nat × Nat × Nat × Nat)}
    (hy : plainName y.cls = true) (hw : ws = Cond.codeWith y cc maxL ret hh :: ws')
    (body : ∀ p e s m args below meth c s₁, BodyLoose p l y (headSpec ws rm) cc maxL ret e s m args below meth c s₁ → c.maxLocals = maxL → Pc args s →
      W p l e (headSpec ws rm).room s m args below meth c s.heap [] 0 0 (vx_MQ below Qc XC args s mc ms free) (entryFrame m args maxL)) : vx_Met l y ws rm Pc Qc XC mc ms free := by
  refine MetFree.of_bodyS (code := cc) (maxLocals := maxL) (ret := ret) hy ?_ ?_
  · intro args s m h hn
    obtain ⟨m9, meth, c, hn9, h1, h2, h3, h4, -, h5, h6, -⟩ := Cond.codeWith_spec (atoms_spec (ws := ws) h _ (by rw [hw]; exact List.mem_cons_self))
    cases hn.symm.trans hn9
    exact ⟨meth, c, h1, h2, h3, h4, h5, h6⟩
  · intro p e s m args below meth c s₁ B hml hP _
    have hh0 : s₁.heap = s.heap := by rw [B.state]; rfl
    obtain ⟨t, a1, o, b1, b2, b3⟩ := body p e s m args below meth c s₁ B hml hP s₁ hh0 (Stand.of_body B)
    exact ⟨t, o, a1, b1, b2, b3⟩
/-! ===== END ===== -/
end
section
def RX0 : String := "FoldedArchive$CommandReader"
def TX0 : u_T := fun k => match k with
  | 0 => ("FoldedArchive$CommandReader", "kinds", "[I", true)
  | 1 => ("FoldedArchive$CommandReader", "operands", "[I", true)
  | 2 => ("FoldedArchive$CommandReader", "count", "I", false)
  | 3 => ("FoldedArchive$CommandReader", "fault", "I", false)
  | 4 => ("FoldedArchive$CommandReader", "position", "I", false)
  | _ => ("FoldedArchive$CommandReader", "operandsRead", "I", false)
def tyX0 : Nat → FieldType := fun k => match k with
  | 0 => .array .int
  | 1 => .array .int
  | 2 => .int
  | 3 => .int
  | 4 => .int
  | _ => .int
abbrev wsX00 : List Cond := u_ws RX0 TX0 6
theorem nmX0 : ∀ a, a < 6 → ∀ b, b < 6 → a ≠ b → (TX0 a).2.1 ≠ (TX0 b).2.1 := by decide +kernel
theorem tyX0_ok : ∀ k, k < 6 → parseFieldDescriptor (TX0 k).2.2.1 = some (tyX0 k) := by decide +kernel
abbrev cX0_init : ByteArray := prog_2_method_1_code
def yX0_init : MethodName := ⟨RX0, "<init>", "()V"⟩
abbrev cX0_kindOf : ByteArray := prog_2_method_2_code
def yX0_kindOf : MethodName := ⟨RX0, "kindOf", "(I)I"⟩
abbrev cX0_operandOf : ByteArray := prog_2_method_3_code
def yX0_operandOf : MethodName := ⟨RX0, "operandOf", "(II)I"⟩
abbrev cX0_read : ByteArray := prog_2_method_4_code
def yX0_read : MethodName := ⟨RX0, "read", "(LFoldedArchive$Row;)V"⟩
abbrev cX0_readCommand : ByteArray := prog_2_method_5_code
def yX0_readCommand : MethodName := ⟨RX0, "readCommand", "(LFoldedArchive$Row;I)V"⟩
abbrev cX0_append : ByteArray := prog_2_method_6_code
def yX0_append : MethodName := ⟨RX0, "append", "(I)V"⟩
abbrev cX0_shapeOf : ByteArray := prog_2_method_7_code
def yX0_shapeOf : MethodName := ⟨RX0, "shapeOf", "(I)Ljava/lang/String;"⟩
abbrev cX0_follows : ByteArray := prog_2_method_8_code
def yX0_follows : MethodName := ⟨RX0, "follows", "(LFoldedArchive$Row;ILjava/lang/String;)Z"⟩
abbrev cX0_followsSign : ByteArray := prog_2_method_9_code
def yX0_followsSign : MethodName := ⟨RX0, "followsSign", "(LFoldedArchive$Row;C)Z"⟩
abbrev cX0_fits : ByteArray := prog_2_method_10_code
def yX0_fits : MethodName := ⟨RX0, "fits", "(CC)Z"⟩
abbrev cX0_numberFrom : ByteArray := prog_2_method_11_code
def yX0_numberFrom : MethodName := ⟨RX0, "numberFrom", "(LFoldedArchive$Row;C)I"⟩
abbrev cX0_takeOperand : ByteArray := prog_2_method_12_code
def yX0_takeOperand : MethodName := ⟨RX0, "takeOperand", "(I)V"⟩
abbrev cX0_isDigit : ByteArray := prog_2_method_13_code
def yX0_isDigit : MethodName := ⟨RX0, "isDigit", "(C)Z"⟩
def RX1 : String := "FoldedArchive$FlowSearch"
def TX1 : u_T := fun k => match k with
  | 0 => ("FoldedArchive$FlowSearch", "spare", "[I", true)
  | 1 => ("FoldedArchive$FlowSearch", "reachedFrom", "[I", true)
  | _ => ("FoldedArchive$FlowSearch", "queue", "[I", true)
def tyX1 : Nat → FieldType := fun k => match k with
  | 0 => .array .int
  | 1 => .array .int
  | _ => .array .int
abbrev wsX10 : List Cond := u_ws RX1 TX1 3
theorem nmX1 : ∀ a, a < 3 → ∀ b, b < 3 → a ≠ b → (TX1 a).2.1 ≠ (TX1 b).2.1 := by decide +kernel
theorem tyX1_ok : ∀ k, k < 3 → parseFieldDescriptor (TX1 k).2.2.1 = some (tyX1 k) := by decide +kernel
abbrev cX1_init : ByteArray := prog_3_method_1_code
def yX1_init : MethodName := ⟨RX1, "<init>", "()V"⟩
abbrev cX1_greatest : ByteArray := prog_3_method_2_code
def yX1_greatest : MethodName := ⟨RX1, "greatest", "(LFoldedArchive$Pipes;II)I"⟩
abbrev cX1_openPipes : ByteArray := prog_3_method_3_code
def yX1_openPipes : MethodName := ⟨RX1, "openPipes", "(LFoldedArchive$Pipes;I)V"⟩
abbrev cX1_inGrid : ByteArray := prog_3_method_4_code
def yX1_inGrid : MethodName := ⟨RX1, "inGrid", "(II)Z"⟩
abbrev cX1_addSpare : ByteArray := prog_3_method_5_code
def yX1_addSpare : MethodName := ⟨RX1, "addSpare", "(III)V"⟩
abbrev cX1_spareOf : ByteArray := prog_3_method_6_code
def yX1_spareOf : MethodName := ⟨RX1, "spareOf", "(II)I"⟩
abbrev cX1_reachesLast : ByteArray := prog_3_method_7_code
def yX1_reachesLast : MethodName := ⟨RX1, "reachesLast", "(I)Z"⟩
abbrev cX1_previousOf : ByteArray := prog_3_method_8_code
def yX1_previousOf : MethodName := ⟨RX1, "previousOf", "(I)I"⟩
abbrev cX1_augment : ByteArray := prog_3_method_9_code
def yX1_augment : MethodName := ⟨RX1, "augment", "(I)I"⟩
abbrev cX1_smallest : ByteArray := prog_3_method_10_code
def yX1_smallest : MethodName := ⟨RX1, "smallest", "(LFoldedArchive$Pipes;I)I"⟩
abbrev cX1_cutSize : ByteArray := prog_3_method_11_code
def yX1_cutSize : MethodName := ⟨RX1, "cutSize", "(LFoldedArchive$Pipes;I)I"⟩
abbrev cX1_contains : ByteArray := prog_3_method_12_code
def yX1_contains : MethodName := ⟨RX1, "contains", "(II)Z"⟩
def RX2 : String := "FoldedArchive$FoldingSearch"
def TX2 : u_T := fun k => match k with
  | 0 => ("FoldedArchive$FoldingSearch", "trial", "LFoldedArchive$Pile;", true)
  | _ => ("FoldedArchive$FoldingSearch", "placed", "[I", true)
def tyX2 : Nat → FieldType := fun k => match k with
  | 0 => .object "FoldedArchive$Pile"
  | _ => .array .int
abbrev wsX20 : List Cond := u_ws RX2 TX2 2
theorem nmX2 : ∀ a, a < 2 → ∀ b, b < 2 → a ≠ b → (TX2 a).2.1 ≠ (TX2 b).2.1 := by decide +kernel
theorem tyX2_ok : ∀ k, k < 2 → parseFieldDescriptor (TX2 k).2.2.1 = some (tyX2 k) := by decide +kernel
abbrev cX2_init : ByteArray := prog_4_method_1_code
def yX2_init : MethodName := ⟨RX2, "<init>", "()V"⟩
abbrev cX2_countByFolding : ByteArray := prog_4_method_2_code
def yX2_countByFolding : MethodName := ⟨RX2, "countByFolding", "(LFoldedArchive$Pile;I)I"⟩
abbrev cX2_foldRest : ByteArray := prog_4_method_3_code
def yX2_foldRest : MethodName := ⟨RX2, "foldRest", "(II)I"⟩
abbrev cX2_foldInto : ByteArray := prog_4_method_4_code
def yX2_foldInto : MethodName := ⟨RX2, "foldInto", "(III)I"⟩
abbrev cX2_countByOrders : ByteArray := prog_4_method_5_code
def yX2_countByOrders : MethodName := ⟨RX2, "countByOrders", "(LFoldedArchive$Pile;I)I"⟩
abbrev cX2_placeRest : ByteArray := prog_4_method_6_code
def yX2_placeRest : MethodName := ⟨RX2, "placeRest", "(II)I"⟩
abbrev cX2_goOnAbove : ByteArray := prog_4_method_7_code
def yX2_goOnAbove : MethodName := ⟨RX2, "goOnAbove", "(III)I"⟩
abbrev cX2_isNextOfPile : ByteArray := prog_4_method_8_code
def yX2_isNextOfPile : MethodName := ⟨RX2, "isNextOfPile", "(II)Z"⟩
abbrev cX2_placeOf : ByteArray := prog_4_method_9_code
def yX2_placeOf : MethodName := ⟨RX2, "placeOf", "(II)I"⟩
abbrev cX2_spanCrosses : ByteArray := prog_4_method_10_code
def yX2_spanCrosses : MethodName := ⟨RX2, "spanCrosses", "(II)Z"⟩
def RX3 : String := "FoldedArchive$History"
def TX3 : u_T := fun k => match k with
  | 0 => ("FoldedArchive$History", "kept", "[LFoldedArchive$State;", true)
  | 1 => ("FoldedArchive$History", "next", "I", false)
  | _ => ("FoldedArchive$History", "count", "I", false)
def tyX3 : Nat → FieldType := fun k => match k with
  | 0 => .array (.object "FoldedArchive$State")
  | 1 => .int
  | _ => .int
abbrev wsX30 : List Cond := u_ws RX3 TX3 3
theorem nmX3 : ∀ a, a < 3 → ∀ b, b < 3 → a ≠ b → (TX3 a).2.1 ≠ (TX3 b).2.1 := by decide +kernel
theorem tyX3_ok : ∀ k, k < 3 → parseFieldDescriptor (TX3 k).2.2.1 = some (tyX3 k) := by decide +kernel
abbrev cX3_init : ByteArray := prog_5_method_1_code
def yX3_init : MethodName := ⟨RX3, "<init>", "()V"⟩
abbrev cX3_stateAt : ByteArray := prog_5_method_2_code
def yX3_stateAt : MethodName := ⟨RX3, "stateAt", "(I)LFoldedArchive$State;"⟩
abbrev cX3_keep : ByteArray := prog_5_method_3_code
def yX3_keep : MethodName := ⟨RX3, "keep", "(LFoldedArchive$State;)V"⟩
abbrev cX3_takeBack : ByteArray := prog_5_method_4_code
def yX3_takeBack : MethodName := ⟨RX3, "takeBack", "(LFoldedArchive$State;)V"⟩
abbrev cX3_forget : ByteArray := prog_5_method_5_code
def yX3_forget : MethodName := ⟨RX3, "forget", "()V"⟩
def RX4 : String := "FoldedArchive$Pile"
def TX4 : u_T := fun k => match k with
  | 0 => ("FoldedArchive$Pile", "folded", "I", false)
  | _ => ("FoldedArchive$Pile", "layers", "[I", true)
def tyX4 : Nat → FieldType := fun k => match k with
  | 0 => .int
  | _ => .array .int
abbrev wsX40 : List Cond := u_ws RX4 TX4 2
theorem nmX4 : ∀ a, a < 2 → ∀ b, b < 2 → a ≠ b → (TX4 a).2.1 ≠ (TX4 b).2.1 := by decide +kernel
theorem tyX4_ok : ∀ k, k < 2 → parseFieldDescriptor (TX4 k).2.2.1 = some (tyX4 k) := by decide +kernel
abbrev cX4_init : ByteArray := prog_6_method_1_code
def yX4_init : MethodName := ⟨RX4, "<init>", "()V"⟩
abbrev cX4_copyFrom : ByteArray := prog_6_method_2_code
def yX4_copyFrom : MethodName := ⟨RX4, "copyFrom", "(LFoldedArchive$Pile;)V"⟩
abbrev cX4_layerHolding : ByteArray := prog_6_method_3_code
def yX4_layerHolding : MethodName := ⟨RX4, "layerHolding", "(I)I"⟩
abbrev cX4_sectionAt : ByteArray := prog_6_method_4_code
def yX4_sectionAt : MethodName := ⟨RX4, "sectionAt", "(I)I"⟩
abbrev cX4_spansCross : ByteArray := prog_6_method_5_code
def yX4_spansCross : MethodName := ⟨RX4, "spansCross", "(IIII)Z"⟩
abbrev cX4_layerAfterInsert : ByteArray := prog_6_method_6_code
def yX4_layerAfterInsert : MethodName := ⟨RX4, "layerAfterInsert", "(II)I"⟩
abbrev cX4_creaseCrossedAt : ByteArray := prog_6_method_7_code
def yX4_creaseCrossedAt : MethodName := ⟨RX4, "creaseCrossedAt", "(I)I"⟩
abbrev cX4_insert : ByteArray := prog_6_method_8_code
def yX4_insert : MethodName := ⟨RX4, "insert", "(I)I"⟩
abbrev cX4_removeLast : ByteArray := prog_6_method_9_code
def yX4_removeLast : MethodName := ⟨RX4, "removeLast", "()I"⟩
def RX5 : String := "FoldedArchive$Pipes"
def TX5 : u_T := fun k => match k with
  | 0 => ("FoldedArchive$Pipes", "count", "I", false)
  | 1 => ("FoldedArchive$Pipes", "starts", "[I", true)
  | 2 => ("FoldedArchive$Pipes", "ends", "[I", true)
  | 3 => ("FoldedArchive$Pipes", "widths", "[I", true)
  | _ => ("FoldedArchive$Pipes", "broken", "[Z", true)
def tyX5 : Nat → FieldType := fun k => match k with
  | 0 => .int
  | 1 => .array .int
  | 2 => .array .int
  | 3 => .array .int
  | _ => .array .boolean
abbrev wsX50 : List Cond := u_ws RX5 TX5 5
theorem nmX5 : ∀ a, a < 5 → ∀ b, b < 5 → a ≠ b → (TX5 a).2.1 ≠ (TX5 b).2.1 := by decide +kernel
theorem tyX5_ok : ∀ k, k < 5 → parseFieldDescriptor (TX5 k).2.2.1 = some (tyX5 k) := by decide +kernel
abbrev cX5_init : ByteArray := prog_7_method_1_code
def yX5_init : MethodName := ⟨RX5, "<init>", "()V"⟩
abbrev cX5_copyFrom : ByteArray := prog_7_method_2_code
def yX5_copyFrom : MethodName := ⟨RX5, "copyFrom", "(LFoldedArchive$Pipes;)V"⟩
abbrev cX5_has : ByteArray := prog_7_method_3_code
def yX5_has : MethodName := ⟨RX5, "has", "(I)Z"⟩
abbrev cX5_startOf : ByteArray := prog_7_method_4_code
def yX5_startOf : MethodName := ⟨RX5, "startOf", "(I)I"⟩
abbrev cX5_endOf : ByteArray := prog_7_method_5_code
def yX5_endOf : MethodName := ⟨RX5, "endOf", "(I)I"⟩
abbrev cX5_widthOf : ByteArray := prog_7_method_6_code
def yX5_widthOf : MethodName := ⟨RX5, "widthOf", "(I)I"⟩
abbrev cX5_brokenAt : ByteArray := prog_7_method_7_code
def yX5_brokenAt : MethodName := ⟨RX5, "brokenAt", "(I)Z"⟩
abbrev cX5_brokenCount : ByteArray := prog_7_method_8_code
def yX5_brokenCount : MethodName := ⟨RX5, "brokenCount", "()I"⟩
abbrev cX5_append : ByteArray := prog_7_method_9_code
def yX5_append : MethodName := ⟨RX5, "append", "(III)I"⟩
abbrev cX5_remove : ByteArray := prog_7_method_10_code
def yX5_remove : MethodName := ⟨RX5, "remove", "(I)I"⟩
abbrev cX5_setBroken : ByteArray := prog_7_method_11_code
def yX5_setBroken : MethodName := ⟨RX5, "setBroken", "(IZ)I"⟩
def RX6 : String := "FoldedArchive$Row"
def TX6 : u_T := fun k => match k with
  | 0 => ("FoldedArchive$Row", "signs", "[C", true)
  | _ => ("FoldedArchive$Row", "length", "I", false)
def tyX6 : Nat → FieldType := fun k => match k with
  | 0 => .array .char
  | _ => .int
abbrev wsX60 : List Cond := u_ws RX6 TX6 2
theorem nmX6 : ∀ a, a < 2 → ∀ b, b < 2 → a ≠ b → (TX6 a).2.1 ≠ (TX6 b).2.1 := by decide +kernel
theorem tyX6_ok : ∀ k, k < 2 → parseFieldDescriptor (TX6 k).2.2.1 = some (tyX6 k) := by decide +kernel
abbrev cX6_init : ByteArray := prog_8_method_1_code
def yX6_init : MethodName := ⟨RX6, "<init>", "(I)V"⟩
abbrev cX6_isFull : ByteArray := prog_8_method_2_code
def yX6_isFull : MethodName := ⟨RX6, "isFull", "()Z"⟩
abbrev cX6_put : ByteArray := prog_8_method_3_code
def yX6_put : MethodName := ⟨RX6, "put", "(C)V"⟩
abbrev cX6_at : ByteArray := prog_8_method_5_code
def yX6_at : MethodName := ⟨RX6, "at", "(I)C"⟩
abbrev cX6_empty : ByteArray := prog_8_method_6_code
def yX6_empty : MethodName := ⟨RX6, "empty", "()V"⟩
def RX7 : String := "FoldedArchive$SearchReader"
def TX7 : u_T := fun k => match k with
  | 0 => ("FoldedArchive$SearchReader", "bearers", "[I", true)
  | 1 => ("FoldedArchive$SearchReader", "everything", "I", false)
  | 2 => ("FoldedArchive$SearchReader", "position", "I", false)
  | _ => ("FoldedArchive$SearchReader", "fault", "I", false)
def tyX7 : Nat → FieldType := fun k => match k with
  | 0 => .array .int
  | 1 => .int
  | 2 => .int
  | _ => .int
abbrev wsX70 : List Cond := u_ws RX7 TX7 4
theorem nmX7 : ∀ a, a < 4 → ∀ b, b < 4 → a ≠ b → (TX7 a).2.1 ≠ (TX7 b).2.1 := by decide +kernel
theorem tyX7_ok : ∀ k, k < 4 → parseFieldDescriptor (TX7 k).2.2.1 = some (tyX7 k) := by decide +kernel
abbrev cX7_init : ByteArray := prog_9_method_1_code
def yX7_init : MethodName := ⟨RX7, "<init>", "()V"⟩
abbrev cX7_askForAll : ByteArray := prog_9_method_2_code
def yX7_askForAll : MethodName := ⟨RX7, "askForAll", "(LFoldedArchive$Strip;)V"⟩
abbrev cX7_askForOne : ByteArray := prog_9_method_3_code
def yX7_askForOne : MethodName := ⟨RX7, "askForOne", "(LFoldedArchive$Strip;I)V"⟩
abbrev cX7_read : ByteArray := prog_9_method_4_code
def yX7_read : MethodName := ⟨RX7, "read", "(LFoldedArchive$Row;)I"⟩
abbrev cX7_readSum : ByteArray := prog_9_method_5_code
def yX7_readSum : MethodName := ⟨RX7, "readSum", "(LFoldedArchive$Row;I)I"⟩
abbrev cX7_readProduct : ByteArray := prog_9_method_6_code
def yX7_readProduct : MethodName := ⟨RX7, "readProduct", "(LFoldedArchive$Row;I)I"⟩
abbrev cX7_startsFactor : ByteArray := prog_9_method_7_code
def yX7_startsFactor : MethodName := ⟨RX7, "startsFactor", "(C)Z"⟩
abbrev cX7_readFactor : ByteArray := prog_9_method_8_code
def yX7_readFactor : MethodName := ⟨RX7, "readFactor", "(LFoldedArchive$Row;I)I"⟩
abbrev cX7_readPlainFactor : ByteArray := prog_9_method_9_code
def yX7_readPlainFactor : MethodName := ⟨RX7, "readPlainFactor", "(LFoldedArchive$Row;I)I"⟩
abbrev cX7_bearersOf : ByteArray := prog_9_method_10_code
def yX7_bearersOf : MethodName := ⟨RX7, "bearersOf", "(I)I"⟩
def RX8 : String := "FoldedArchive$State"
def TX8 : u_T := fun k => match k with
  | 0 => ("FoldedArchive$State", "strip", "LFoldedArchive$Strip;", true)
  | 1 => ("FoldedArchive$State", "pile", "LFoldedArchive$Pile;", true)
  | _ => ("FoldedArchive$State", "pipes", "LFoldedArchive$Pipes;", true)
def tyX8 : Nat → FieldType := fun k => match k with
  | 0 => .object "FoldedArchive$Strip"
  | 1 => .object "FoldedArchive$Pile"
  | _ => .object "FoldedArchive$Pipes"
abbrev wsX80 : List Cond := u_ws RX8 TX8 3
theorem nmX8 : ∀ a, a < 3 → ∀ b, b < 3 → a ≠ b → (TX8 a).2.1 ≠ (TX8 b).2.1 := by decide +kernel
theorem tyX8_ok : ∀ k, k < 3 → parseFieldDescriptor (TX8 k).2.2.1 = some (tyX8 k) := by decide +kernel
abbrev cX8_init : ByteArray := prog_10_method_1_code
def yX8_init : MethodName := ⟨RX8, "<init>", "()V"⟩
abbrev cX8_copyFrom : ByteArray := prog_10_method_2_code
def yX8_copyFrom : MethodName := ⟨RX8, "copyFrom", "(LFoldedArchive$State;)V"⟩
abbrev cX8_judge : ByteArray := prog_10_method_3_code
def yX8_judge : MethodName := ⟨RX8, "judge", "(IIII)I"⟩
abbrev cX8_denied : ByteArray := prog_10_method_4_code
def yX8_denied : MethodName := ⟨RX8, "denied", "(II)I"⟩
abbrev cX8_judgePour : ByteArray := prog_10_method_5_code
def yX8_judgePour : MethodName := ⟨RX8, "judgePour", "(II)I"⟩
abbrev cX8_judgeTerm : ByteArray := prog_10_method_6_code
def yX8_judgeTerm : MethodName := ⟨RX8, "judgeTerm", "(IIZ)I"⟩
abbrev cX8_judgeFold : ByteArray := prog_10_method_7_code
def yX8_judgeFold : MethodName := ⟨RX8, "judgeFold", "(I)I"⟩
abbrev cX8_judgePipe : ByteArray := prog_10_method_8_code
def yX8_judgePipe : MethodName := ⟨RX8, "judgePipe", "(III)I"⟩
abbrev cX8_judgeBroken : ByteArray := prog_10_method_9_code
def yX8_judgeBroken : MethodName := ⟨RX8, "judgeBroken", "(IZ)I"⟩
abbrev cX8_judgeEnds : ByteArray := prog_10_method_10_code
def yX8_judgeEnds : MethodName := ⟨RX8, "judgeEnds", "()I"⟩
abbrev cX8_apply : ByteArray := prog_10_method_11_code
def yX8_apply : MethodName := ⟨RX8, "apply", "(IIIILFoldedArchive$FlowSearch;)I"⟩
abbrev cX8_moveAlongPipes : ByteArray := prog_10_method_12_code
def yX8_moveAlongPipes : MethodName := ⟨RX8, "moveAlongPipes", "(I)I"⟩
abbrev cX8_moveDownPile : ByteArray := prog_10_method_13_code
def yX8_moveDownPile : MethodName := ⟨RX8, "moveDownPile", "()I"⟩
def RX9 : String := "FoldedArchive$Strip"
def TX9 : u_T := fun k => match k with
  | 0 => ("FoldedArchive$Strip", "count", "I", false)
  | 1 => ("FoldedArchive$Strip", "pouredUnits", "I", false)
  | 2 => ("FoldedArchive$Strip", "leakedUnits", "I", false)
  | 3 => ("FoldedArchive$Strip", "water", "[I", true)
  | _ => ("FoldedArchive$Strip", "terms", "[I", true)
def tyX9 : Nat → FieldType := fun k => match k with
  | 0 => .int
  | 1 => .int
  | 2 => .int
  | 3 => .array .int
  | _ => .array .int
abbrev wsX90 : List Cond := u_ws RX9 TX9 5
theorem nmX9 : ∀ a, a < 5 → ∀ b, b < 5 → a ≠ b → (TX9 a).2.1 ≠ (TX9 b).2.1 := by decide +kernel
theorem tyX9_ok : ∀ k, k < 5 → parseFieldDescriptor (TX9 k).2.2.1 = some (tyX9 k) := by decide +kernel
abbrev cX9_init : ByteArray := prog_11_method_1_code
def yX9_init : MethodName := ⟨RX9, "<init>", "()V"⟩
abbrev cX9_copyFrom : ByteArray := prog_11_method_2_code
def yX9_copyFrom : MethodName := ⟨RX9, "copyFrom", "(LFoldedArchive$Strip;)V"⟩
abbrev cX9_isTerm : ByteArray := prog_11_method_3_code
def yX9_isTerm : MethodName := ⟨RX9, "isTerm", "(I)Z"⟩
abbrev cX9_bitOf : ByteArray := prog_11_method_4_code
def yX9_bitOf : MethodName := ⟨RX9, "bitOf", "(I)I"⟩
abbrev cX9_has : ByteArray := prog_11_method_5_code
def yX9_has : MethodName := ⟨RX9, "has", "(I)Z"⟩
abbrev cX9_append : ByteArray := prog_11_method_6_code
def yX9_append : MethodName := ⟨RX9, "append", "()I"⟩
abbrev cX9_waterOf : ByteArray := prog_11_method_7_code
def yX9_waterOf : MethodName := ⟨RX9, "waterOf", "(I)I"⟩
abbrev cX9_termCountOf : ByteArray := prog_11_method_8_code
def yX9_termCountOf : MethodName := ⟨RX9, "termCountOf", "(I)I"⟩
abbrev cX9_bears : ByteArray := prog_11_method_9_code
def yX9_bears : MethodName := ⟨RX9, "bears", "(II)Z"⟩
abbrev cX9_bearersOf : ByteArray := prog_11_method_10_code
def yX9_bearersOf : MethodName := ⟨RX9, "bearersOf", "(I)I"⟩
abbrev cX9_giveTerm : ByteArray := prog_11_method_11_code
def yX9_giveTerm : MethodName := ⟨RX9, "giveTerm", "(II)I"⟩
abbrev cX9_takeTerm : ByteArray := prog_11_method_12_code
def yX9_takeTerm : MethodName := ⟨RX9, "takeTerm", "(II)I"⟩
abbrev cX9_receivePoured : ByteArray := prog_11_method_13_code
def yX9_receivePoured : MethodName := ⟨RX9, "receivePoured", "(II)I"⟩
abbrev cX9_give : ByteArray := prog_11_method_14_code
def yX9_give : MethodName := ⟨RX9, "give", "(II)V"⟩
abbrev cX9_add : ByteArray := prog_11_method_15_code
def yX9_add : MethodName := ⟨RX9, "add", "(II)V"⟩
abbrev cX9_receive : ByteArray := prog_11_method_16_code
def yX9_receive : MethodName := ⟨RX9, "receive", "(II)I"⟩
abbrev cX9_leak : ByteArray := prog_11_method_17_code
def yX9_leak : MethodName := ⟨RX9, "leak", "(I)V"⟩
abbrev cX9_waterSum : ByteArray := prog_11_method_18_code
def yX9_waterSum : MethodName := ⟨RX9, "waterSum", "()I"⟩
abbrev cX9_comesBefore : ByteArray := prog_11_method_19_code
def yX9_comesBefore : MethodName := ⟨RX9, "comesBefore", "(II)Z"⟩
abbrev cX9_rankOf : ByteArray := prog_11_method_20_code
def yX9_rankOf : MethodName := ⟨RX9, "rankOf", "(I)I"⟩
abbrev cX9_sectionAtRank : ByteArray := prog_11_method_21_code
def yX9_sectionAtRank : MethodName := ⟨RX9, "sectionAtRank", "(I)I"⟩
def RX10 : String := "FoldedArchive"
def TX10 : u_T := fun k => match k with
  | 0 => ("FoldedArchive", "state", "LFoldedArchive$State;", true)
  | 1 => ("FoldedArchive", "beforeText", "LFoldedArchive$State;", true)
  | 2 => ("FoldedArchive", "snapshot", "LFoldedArchive$State;", true)
  | 3 => ("FoldedArchive", "history", "LFoldedArchive$History;", true)
  | 4 => ("FoldedArchive", "flows", "LFoldedArchive$FlowSearch;", true)
  | 5 => ("FoldedArchive", "foldings", "LFoldedArchive$FoldingSearch;", true)
  | 6 => ("FoldedArchive", "text", "LFoldedArchive$Row;", true)
  | 7 => ("FoldedArchive", "line", "LFoldedArchive$Row;", true)
  | 8 => ("FoldedArchive", "searches", "LFoldedArchive$SearchReader;", true)
  | 9 => ("FoldedArchive", "commands", "LFoldedArchive$CommandReader;", true)
  | 10 => ("FoldedArchive", "snapshotSaved", "Z", false)
  | 11 => ("FoldedArchive", "keptFault", "I", false)
  | 12 => ("FoldedArchive", "deniedNumber", "I", false)
  | 13 => ("FoldedArchive", "deniedDetail", "I", false)
  | _ => ("FoldedArchive", "deniedCause", "I", false)
def tyX10 : Nat → FieldType := fun k => match k with
  | 0 => .object "FoldedArchive$State"
  | 1 => .object "FoldedArchive$State"
  | 2 => .object "FoldedArchive$State"
  | 3 => .object "FoldedArchive$History"
  | 4 => .object "FoldedArchive$FlowSearch"
  | 5 => .object "FoldedArchive$FoldingSearch"
  | 6 => .object "FoldedArchive$Row"
  | 7 => .object "FoldedArchive$Row"
  | 8 => .object "FoldedArchive$SearchReader"
  | 9 => .object "FoldedArchive$CommandReader"
  | 10 => .boolean
  | 11 => .int
  | 12 => .int
  | 13 => .int
  | _ => .int
abbrev wsX100 : List Cond := u_ws RX10 TX10 15
theorem nmX10 : ∀ a, a < 15 → ∀ b, b < 15 → a ≠ b → (TX10 a).2.1 ≠ (TX10 b).2.1 := by decide +kernel
theorem tyX10_ok : ∀ k, k < 15 → parseFieldDescriptor (TX10 k).2.2.1 = some (tyX10 k) := by decide +kernel
abbrev cX10_init : ByteArray := prog_1_method_1_code
def yX10_init : MethodName := ⟨RX10, "<init>", "()V"⟩
abbrev cX10_addSection : ByteArray := prog_1_method_2_code
def yX10_addSection : MethodName := ⟨RX10, "addSection", "()I"⟩
abbrev cX10_pour : ByteArray := prog_1_method_3_code
def yX10_pour : MethodName := ⟨RX10, "pour", "(II)I"⟩
abbrev cX10_tag : ByteArray := prog_1_method_4_code
def yX10_tag : MethodName := ⟨RX10, "tag", "(IC)I"⟩
abbrev cX10_untag : ByteArray := prog_1_method_5_code
def yX10_untag : MethodName := ⟨RX10, "untag", "(IC)I"⟩
abbrev cX10_sectionCount : ByteArray := prog_1_method_6_code
def yX10_sectionCount : MethodName := ⟨RX10, "sectionCount", "()I"⟩
abbrev cX10_water : ByteArray := prog_1_method_7_code
def yX10_water : MethodName := ⟨RX10, "water", "(I)I"⟩
abbrev cX10_hasTerm : ByteArray := prog_1_method_8_code
def yX10_hasTerm : MethodName := ⟨RX10, "hasTerm", "(IC)Z"⟩
abbrev cX10_sectionsWith : ByteArray := prog_1_method_9_code
def yX10_sectionsWith : MethodName := ⟨RX10, "sectionsWith", "(C)I"⟩
abbrev cX10_sectionByWater : ByteArray := prog_1_method_10_code
def yX10_sectionByWater : MethodName := ⟨RX10, "sectionByWater", "(I)I"⟩
abbrev cX10_fold : ByteArray := prog_1_method_11_code
def yX10_fold : MethodName := ⟨RX10, "fold", "(I)I"⟩
abbrev cX10_unfold : ByteArray := prog_1_method_12_code
def yX10_unfold : MethodName := ⟨RX10, "unfold", "()I"⟩
abbrev cX10_foldedCount : ByteArray := prog_1_method_13_code
def yX10_foldedCount : MethodName := ⟨RX10, "foldedCount", "()I"⟩
abbrev cX10_layerOf : ByteArray := prog_1_method_14_code
def yX10_layerOf : MethodName := ⟨RX10, "layerOf", "(I)I"⟩
abbrev cX10_sectionIn : ByteArray := prog_1_method_15_code
def yX10_sectionIn : MethodName := ⟨RX10, "sectionIn", "(I)I"⟩
abbrev cX10_canFold : ByteArray := prog_1_method_16_code
def yX10_canFold : MethodName := ⟨RX10, "canFold", "(I)Z"⟩
abbrev cX10_completions : ByteArray := prog_1_method_17_code
def yX10_completions : MethodName := ⟨RX10, "completions", "()I"⟩
abbrev cX10_completionsByOrders : ByteArray := prog_1_method_18_code
def yX10_completionsByOrders : MethodName := ⟨RX10, "completionsByOrders", "()I"⟩
abbrev cX10_layPipe : ByteArray := prog_1_method_19_code
def yX10_layPipe : MethodName := ⟨RX10, "layPipe", "(III)I"⟩
abbrev cX10_removePipe : ByteArray := prog_1_method_20_code
def yX10_removePipe : MethodName := ⟨RX10, "removePipe", "(I)I"⟩
abbrev cX10_breakPipe : ByteArray := prog_1_method_21_code
def yX10_breakPipe : MethodName := ⟨RX10, "breakPipe", "(I)I"⟩
abbrev cX10_mendPipe : ByteArray := prog_1_method_22_code
def yX10_mendPipe : MethodName := ⟨RX10, "mendPipe", "(I)I"⟩
abbrev cX10_pipeCount : ByteArray := prog_1_method_23_code
def yX10_pipeCount : MethodName := ⟨RX10, "pipeCount", "()I"⟩
abbrev cX10_pipeFrom : ByteArray := prog_1_method_24_code
def yX10_pipeFrom : MethodName := ⟨RX10, "pipeFrom", "(I)I"⟩
abbrev cX10_pipeTo : ByteArray := prog_1_method_25_code
def yX10_pipeTo : MethodName := ⟨RX10, "pipeTo", "(I)I"⟩
abbrev cX10_capacity : ByteArray := prog_1_method_26_code
def yX10_capacity : MethodName := ⟨RX10, "capacity", "(I)I"⟩
abbrev cX10_isBroken : ByteArray := prog_1_method_27_code
def yX10_isBroken : MethodName := ⟨RX10, "isBroken", "(I)Z"⟩
abbrev cX10_greatestFlow : ByteArray := prog_1_method_28_code
def yX10_greatestFlow : MethodName := ⟨RX10, "greatestFlow", "()I"⟩
abbrev cX10_smallestCut : ByteArray := prog_1_method_29_code
def yX10_smallestCut : MethodName := ⟨RX10, "smallestCut", "()I"⟩
abbrev cX10_lossOf : ByteArray := prog_1_method_30_code
def yX10_lossOf : MethodName := ⟨RX10, "lossOf", "(I)I"⟩
abbrev cX10_drain : ByteArray := prog_1_method_31_code
def yX10_drain : MethodName := ⟨RX10, "drain", "()I"⟩
abbrev cX10_seep : ByteArray := prog_1_method_32_code
def yX10_seep : MethodName := ⟨RX10, "seep", "()I"⟩
abbrev cX10_totalWater : ByteArray := prog_1_method_33_code
def yX10_totalWater : MethodName := ⟨RX10, "totalWater", "()I"⟩
abbrev cX10_totalWaterByAccounts : ByteArray := prog_1_method_34_code
def yX10_totalWaterByAccounts : MethodName := ⟨RX10, "totalWaterByAccounts", "()I"⟩
abbrev cX10_poured : ByteArray := prog_1_method_35_code
def yX10_poured : MethodName := ⟨RX10, "poured", "()I"⟩
abbrev cX10_leaked : ByteArray := prog_1_method_36_code
def yX10_leaked : MethodName := ⟨RX10, "leaked", "()I"⟩
abbrev cX10_meanWater : ByteArray := prog_1_method_37_code
def yX10_meanWater : MethodName := ⟨RX10, "meanWater", "()D"⟩
abbrev cX10_leakedShare : ByteArray := prog_1_method_38_code
def yX10_leakedShare : MethodName := ⟨RX10, "leakedShare", "()F"⟩
abbrev cX10_feed : ByteArray := prog_1_method_39_code
def yX10_feed : MethodName := ⟨RX10, "feed", "(C)I"⟩
abbrev cX10_clearText : ByteArray := prog_1_method_40_code
def yX10_clearText : MethodName := ⟨RX10, "clearText", "()I"⟩
abbrev cX10_search : ByteArray := prog_1_method_41_code
def yX10_search : MethodName := ⟨RX10, "search", "()I"⟩
abbrev cX10_matches : ByteArray := prog_1_method_42_code
def yX10_matches : MethodName := ⟨RX10, "matches", "(I)Z"⟩
abbrev cX10_execute : ByteArray := prog_1_method_43_code
def yX10_execute : MethodName := ⟨RX10, "execute", "()I"⟩
abbrev cX10_denial : ByteArray := prog_1_method_48_code
def yX10_denial : MethodName := ⟨RX10, "denial", "()I"⟩
abbrev cX10_denialDetail : ByteArray := prog_1_method_49_code
def yX10_denialDetail : MethodName := ⟨RX10, "denialDetail", "()I"⟩
abbrev cX10_undo : ByteArray := prog_1_method_51_code
def yX10_undo : MethodName := ⟨RX10, "undo", "()I"⟩
abbrev cX10_undoCount : ByteArray := prog_1_method_52_code
def yX10_undoCount : MethodName := ⟨RX10, "undoCount", "()I"⟩
abbrev cX10_saveSnapshot : ByteArray := prog_1_method_53_code
def yX10_saveSnapshot : MethodName := ⟨RX10, "saveSnapshot", "()I"⟩
abbrev cX10_restoreSnapshot : ByteArray := prog_1_method_54_code
def yX10_restoreSnapshot : MethodName := ⟨RX10, "restoreSnapshot", "()I"⟩
abbrev cX10_change : ByteArray := prog_1_method_55_code
def yX10_change : MethodName := ⟨RX10, "change", "(IIII)I"⟩
abbrev cX10_runCommand : ByteArray := prog_1_method_56_code
def yX10_runCommand : MethodName := ⟨RX10, "runCommand", "(I)I"⟩
abbrev cX10_obey : ByteArray := prog_1_method_57_code
def yX10_obey : MethodName := ⟨RX10, "obey", "(I)V"⟩
abbrev cX10_causeOf : ByteArray := prog_1_method_58_code
def yX10_causeOf : MethodName := ⟨RX10, "causeOf", "(I)I"⟩
abbrev cX10_recordDenial : ByteArray := prog_1_method_59_code
def yX10_recordDenial : MethodName := ⟨RX10, "recordDenial", "(III)V"⟩
abbrev cX10_requireSection : ByteArray := prog_1_method_60_code
def yX10_requireSection : MethodName := ⟨RX10, "requireSection", "(I)V"⟩
abbrev cX10_requirePipe : ByteArray := prog_1_method_61_code
def yX10_requirePipe : MethodName := ⟨RX10, "requirePipe", "(I)V"⟩
abbrev cX10_requireTerm : ByteArray := prog_1_method_62_code
def yX10_requireTerm : MethodName := ⟨RX10, "requireTerm", "(I)V"⟩
abbrev cX10_refuseFault : ByteArray := prog_1_method_63_code
def yX10_refuseFault : MethodName := ⟨RX10, "refuseFault", "(I)V"⟩
def RX11 : String := "FoldedArchiveModel"
def TX11 : u_T := fun k => match k with
  | _ => ("", "", "", false)
def tyX11 : Nat → FieldType := fun k => match k with
  | _ => .int
abbrev wsX110 : List Cond := u_ws RX11 TX11 0
theorem nmX11 : ∀ a, a < 0 → ∀ b, b < 0 → a ≠ b → (TX11 a).2.1 ≠ (TX11 b).2.1 := by decide +kernel
theorem tyX11_ok : ∀ k, k < 0 → parseFieldDescriptor (TX11 k).2.2.1 = some (tyX11 k) := by decide +kernel
def RJx145de : String := "java/io/Serializable"
def RJ5 : String := "java/lang/AbstractStringBuilder"
abbrev cJ5_init_d00df : ByteArray := prog_15_method_2_code
def yJ5_init_d00df : MethodName := ⟨RJ5, "<init>", "(I)V"⟩
abbrev cJ5_length_8abf5 : ByteArray := prog_15_method_6_code
def yJ5_length_8abf5 : MethodName := ⟨RJ5, "length", "()I"⟩
abbrev cJ5_ensureCapacityInternal_d00df : ByteArray := prog_15_method_9_code
def yJ5_ensureCapacityInternal_d00df : MethodName := ⟨RJ5, "ensureCapacityInternal", "(I)V"⟩
abbrev cJ5_newCapacity_0f7a4 : ByteArray := prog_15_method_10_code
def yJ5_newCapacity_0f7a4 : MethodName := ⟨RJ5, "newCapacity", "(I)I"⟩
abbrev cJ5_inflate_da8c8 : ByteArray := prog_15_method_11_code
def yJ5_inflate_da8c8 : MethodName := ⟨RJ5, "inflate", "()V"⟩
abbrev cJ5_append_cf1ce : ByteArray := prog_15_method_22_code
def yJ5_append_cf1ce : MethodName := ⟨RJ5, "append", "(Ljava/lang/String;)Ljava/lang/AbstractStringBuilder;"⟩
abbrev cJ5_appendNull_278bc : ByteArray := prog_15_method_26_code
def yJ5_appendNull_278bc : MethodName := ⟨RJ5, "appendNull", "()Ljava/lang/AbstractStringBuilder;"⟩
abbrev cJ5_append_3fe6f : ByteArray := prog_15_method_31_code
def yJ5_append_3fe6f : MethodName := ⟨RJ5, "append", "(C)Ljava/lang/AbstractStringBuilder;"⟩
abbrev cJ5_append_c97b9 : ByteArray := prog_15_method_32_code
def yJ5_append_c97b9 : MethodName := ⟨RJ5, "append", "(I)Ljava/lang/AbstractStringBuilder;"⟩
abbrev cJ5_getValue_6d5f1 : ByteArray := prog_15_method_64_code
def yJ5_getValue_6d5f1 : MethodName := ⟨RJ5, "getValue", "()[B"⟩
abbrev cJ5_isLatin1_aae02 : ByteArray := prog_15_method_68_code
def yJ5_isLatin1_aae02 : MethodName := ⟨RJ5, "isLatin1", "()Z"⟩
abbrev cJ5_inflateIfNeededFor_a7421 : ByteArray := prog_15_method_71_code
def yJ5_inflateIfNeededFor_a7421 : MethodName := ⟨RJ5, "inflateIfNeededFor", "(Ljava/lang/String;)V"⟩
abbrev cJ5_putStringAt_47b60 : ByteArray := prog_15_method_73_code
def yJ5_putStringAt_47b60 : MethodName := ⟨RJ5, "putStringAt", "(ILjava/lang/String;)V"⟩
def RJx2cfe8 : String := "java/lang/Appendable"
def RJx00060 : String := "java/lang/ArrayIndexOutOfBoundsException"
abbrev cJx00060_init_a7421 : ByteArray := prog_18_method_2_code
def yJx00060_init_a7421 : MethodName := ⟨RJx00060, "<init>", "(Ljava/lang/String;)V"⟩
def RJx9f9b0 : String := "java/lang/CharSequence"
def RJx8e188 : String := "java/lang/Cloneable"
def RJxb160c : String := "java/lang/Comparable"
def RJ6 : String := "java/lang/Integer"
abbrev cJ6_getChars_ba4f3 : ByteArray := prog_26_method_12_code
def yJ6_getChars_ba4f3 : MethodName := ⟨RJ6, "getChars", "(II[B)I"⟩
abbrev cJ6_stringSize_0f7a4 : ByteArray := prog_26_method_13_code
def yJ6_stringSize_0f7a4 : MethodName := ⟨RJ6, "stringSize", "(I)I"⟩
abbrev cJ6_bitCount_0f7a4 : ByteArray := prog_26_method_49_code
def yJ6_bitCount_0f7a4 : MethodName := ⟨RJ6, "bitCount", "(I)I"⟩
def RJ9 : String := "java/lang/Math"
abbrev cJ9_max_7cf53 : ByteArray := prog_27_method_65_code
def yJ9_max_7cf53 : MethodName := ⟨RJ9, "max", "(II)I"⟩
abbrev cJ9_min_7cf53 : ByteArray := prog_27_method_69_code
def yJ9_min_7cf53 : MethodName := ⟨RJ9, "min", "(II)I"⟩
def RJxd2413 : String := "java/lang/Number"
def RJ0 : String := "java/lang/String"
def TJ0 : u_T := fun k => match k with
  | 0 => ("java/lang/String", "value", "[B", true)
  | 1 => ("java/lang/String", "coder", "B", true)
  | 2 => ("java/lang/String", "hash", "I", false)
  | _ => ("java/lang/String", "hashIsZero", "Z", false)
def tyJ0 : Nat → FieldType := fun k => match k with
  | 0 => .array .byte
  | 1 => .byte
  | 2 => .int
  | _ => .boolean
abbrev wsJ00 : List Cond := u_ws RJ0 TJ0 4
theorem nmJ0 : ∀ a, a < 4 → ∀ b, b < 4 → a ≠ b → (TJ0 a).2.1 ≠ (TJ0 b).2.1 := by decide +kernel
theorem tyJ0_ok : ∀ k, k < 4 → parseFieldDescriptor (TJ0 k).2.2.1 = some (tyJ0 k) := by decide +kernel
abbrev cJ0_init_81219 : ByteArray := prog_30_method_53_code
def yJ0_init_81219 : MethodName := ⟨RJ0, "<init>", "(Ljava/lang/StringBuilder;)V"⟩
abbrev cJ0_length_8abf5 : ByteArray := prog_30_method_54_code
def yJ0_length_8abf5 : MethodName := ⟨RJ0, "length", "()I"⟩
abbrev cJ0_charAt_5068e : ByteArray := prog_30_method_56_code
def yJ0_charAt_5068e : MethodName := ⟨RJ0, "charAt", "(I)C"⟩
abbrev cJ0_getBytes_840e7 : ByteArray := prog_30_method_147_code
def yJ0_getBytes_840e7 : MethodName := ⟨RJ0, "getBytes", "([BIB)V"⟩
abbrev cJ0_init_db425 : ByteArray := prog_30_method_150_code
def yJ0_init_db425 : MethodName := ⟨RJ0, "<init>", "(Ljava/lang/AbstractStringBuilder;Ljava/lang/Void;)V"⟩
abbrev cJ0_coder_7d493 : ByteArray := prog_30_method_152_code
def yJ0_coder_7d493 : MethodName := ⟨RJ0, "coder", "()B"⟩
abbrev cJ0_isLatin1_aae02 : ByteArray := prog_30_method_154_code
def yJ0_isLatin1_aae02 : MethodName := ⟨RJ0, "isLatin1", "()Z"⟩
abbrev cJ0_checkIndex_df160 : ByteArray := prog_30_method_155_code
def yJ0_checkIndex_df160 : MethodName := ⟨RJ0, "checkIndex", "(II)V"⟩
abbrev cJ0_checkBoundsOffCount_cabcc : ByteArray := prog_30_method_157_code
def yJ0_checkBoundsOffCount_cabcc : MethodName := ⟨RJ0, "checkBoundsOffCount", "(III)I"⟩
abbrev cJ0_checkBoundsBeginEnd_23922 : ByteArray := prog_30_method_158_code
def yJ0_checkBoundsBeginEnd_23922 : MethodName := ⟨RJ0, "checkBoundsBeginEnd", "(III)V"⟩
def RJ4 : String := "java/lang/StringBuilder"
def TJ4 : u_T := fun k => match k with
  | 0 => ("java/lang/AbstractStringBuilder", "value", "[B", false)
  | 1 => ("java/lang/AbstractStringBuilder", "coder", "B", false)
  | 2 => ("java/lang/AbstractStringBuilder", "maybeLatin1", "Z", false)
  | _ => ("java/lang/AbstractStringBuilder", "count", "I", false)
def tyJ4 : Nat → FieldType := fun k => match k with
  | 0 => .array .byte
  | 1 => .byte
  | 2 => .boolean
  | _ => .int
abbrev wsJ40 : List Cond := u_ws RJ4 TJ4 4
theorem nmJ4 : ∀ a, a < 4 → ∀ b, b < 4 → a ≠ b → (TJ4 a).2.1 ≠ (TJ4 b).2.1 := by decide +kernel
theorem tyJ4_ok : ∀ k, k < 4 → parseFieldDescriptor (TJ4 k).2.2.1 = some (tyJ4 k) := by decide +kernel
abbrev cJ4_init_da8c8 : ByteArray := prog_31_method_1_code
def yJ4_init_da8c8 : MethodName := ⟨RJ4, "<init>", "()V"⟩
abbrev cJ4_append_15ec4 : ByteArray := prog_31_method_7_code
def yJ4_append_15ec4 : MethodName := ⟨RJ4, "append", "(Ljava/lang/String;)Ljava/lang/StringBuilder;"⟩
abbrev cJ4_append_cf468 : ByteArray := prog_31_method_14_code
def yJ4_append_cf468 : MethodName := ⟨RJ4, "append", "(C)Ljava/lang/StringBuilder;"⟩
abbrev cJ4_append_bf812 : ByteArray := prog_31_method_15_code
def yJ4_append_bf812 : MethodName := ⟨RJ4, "append", "(I)Ljava/lang/StringBuilder;"⟩
abbrev cJ4_toString_0e30d : ByteArray := prog_31_method_42_code
def yJ4_toString_0e30d : MethodName := ⟨RJ4, "toString", "()Ljava/lang/String;"⟩
abbrev cJ4_length_8abf5 : ByteArray := prog_31_method_93_code
def yJ4_length_8abf5 : MethodName := ⟨RJ4, "length", "()I"⟩
def RJ1 : String := "java/lang/StringLatin1"
abbrev cJ1_charAt_3b067 : ByteArray := prog_32_method_2_code
def yJ1_charAt_3b067 : MethodName := ⟨RJ1, "charAt", "([BI)C"⟩
abbrev cJ1_canEncode_fc78d : ByteArray := prog_32_method_3_code
def yJ1_canEncode_fc78d : MethodName := ⟨RJ1, "canEncode", "(C)Z"⟩
abbrev cJ1_inflate_0e8fd : ByteArray := prog_32_method_50_code
def yJ1_inflate_0e8fd : MethodName := ⟨RJ1, "inflate", "([BI[BII)V"⟩
def RJ2 : String := "java/lang/StringUTF16"
abbrev cJ2_newBytesFor_77867 : ByteArray := prog_33_method_2_code
def yJ2_newBytesFor_77867 : MethodName := ⟨RJ2, "newBytesFor", "(I)[B"⟩
abbrev cJ2_newBytesLength_0f7a4 : ByteArray := prog_33_method_3_code
def yJ2_newBytesLength_0f7a4 : MethodName := ⟨RJ2, "newBytesLength", "(I)I"⟩
abbrev cJ2_putChar_b72d1 : ByteArray := prog_33_method_4_code
def yJ2_putChar_b72d1 : MethodName := ⟨RJ2, "putChar", "([BII)V"⟩
abbrev cJ2_getChar_3b067 : ByteArray := prog_33_method_5_code
def yJ2_getChar_3b067 : MethodName := ⟨RJ2, "getChar", "([BI)C"⟩
abbrev cJ2_length_9d52b : ByteArray := prog_33_method_6_code
def yJ2_length_9d52b : MethodName := ⟨RJ2, "length", "([B)I"⟩
abbrev cJ2_coderFromArrayLen_85cad : ByteArray := prog_33_method_15_code
def yJ2_coderFromArrayLen_85cad : MethodName := ⟨RJ2, "coderFromArrayLen", "([BI)B"⟩
abbrev cJ2_compress_39247 : ByteArray := prog_33_method_17_code
def yJ2_compress_39247 : MethodName := ⟨RJ2, "compress", "([BII)[B"⟩
abbrev cJ2_compress_5af95 : ByteArray := prog_33_method_22_code
def yJ2_compress_5af95 : MethodName := ⟨RJ2, "compress", "([BI[BII)I"⟩
abbrev cJ2_putCharSB_b72d1 : ByteArray := prog_33_method_71_code
def yJ2_putCharSB_b72d1 : MethodName := ⟨RJ2, "putCharSB", "([BII)V"⟩
abbrev cJ2_getChars_46870 : ByteArray := prog_33_method_77_code
def yJ2_getChars_46870 : MethodName := ⟨RJ2, "getChars", "(III[B)I"⟩
abbrev cJ2_putCharsAt_cd4e5 : ByteArray := prog_33_method_81_code
def yJ2_putCharsAt_cd4e5 : MethodName := ⟨RJ2, "putCharsAt", "([BICCCC)I"⟩
abbrev cJ2_charAt_3b067 : ByteArray := prog_33_method_83_code
def yJ2_charAt_3b067 : MethodName := ⟨RJ2, "charAt", "([BI)C"⟩
abbrev cJ2_inflate_0e8fd : ByteArray := prog_33_method_86_code
def yJ2_inflate_0e8fd : MethodName := ⟨RJ2, "inflate", "([BI[BII)V"⟩
abbrev cJ2_getChars_ba4f3 : ByteArray := prog_33_method_89_code
def yJ2_getChars_ba4f3 : MethodName := ⟨RJ2, "getChars", "(II[B)I"⟩
abbrev cJ2_checkIndex_2214a : ByteArray := prog_33_method_91_code
def yJ2_checkIndex_2214a : MethodName := ⟨RJ2, "checkIndex", "(I[B)V"⟩
abbrev cJ2_checkBoundsBeginEnd_d044e : ByteArray := prog_33_method_93_code
def yJ2_checkBoundsBeginEnd_d044e : MethodName := ⟨RJ2, "checkBoundsBeginEnd", "(II[B)V"⟩
abbrev cJ2_checkBoundsOffCount_d044e : ByteArray := prog_33_method_94_code
def yJ2_checkBoundsOffCount_d044e : MethodName := ⟨RJ2, "checkBoundsOffCount", "(II[B)V"⟩
def RJ10 : String := "java/lang/System"
def RJxfd54e : String := "java/lang/constant/Constable"
def RJx3cf43 : String := "java/lang/constant/ConstantDesc"
def RJ7 : String := "java/util/Arrays"
abbrev cJ7_copyOf_9075b : ByteArray := prog_39_method_121_code
def yJ7_copyOf_9075b : MethodName := ⟨RJ7, "copyOf", "([BI)[B"⟩
abbrev cJ7_checkLength_df160 : ByteArray := prog_39_method_131_code
def yJ7_checkLength_df160 : MethodName := ⟨RJ7, "checkLength", "(II)V"⟩
abbrev cJ7_copyOfRange_39247 : ByteArray := prog_39_method_132_code
def yJ7_copyOfRange_39247 : MethodName := ⟨RJ7, "copyOfRange", "([BII)[B"⟩
abbrev cJ7_copyOfRangeByte_39247 : ByteArray := prog_39_method_133_code
def yJ7_copyOfRangeByte_39247 : MethodName := ⟨RJ7, "copyOfRangeByte", "([BII)[B"⟩
def RJ8 : String := "jdk/internal/util/ArraysSupport"
abbrev cJ8_newLength_cabcc : ByteArray := prog_41_method_27_code
def yJ8_newLength_cabcc : MethodName := ⟨RJ8, "newLength", "(III)I"⟩
abbrev cJ8_hugeLength_7cf53 : ByteArray := prog_41_method_28_code
def yJ8_hugeLength_7cf53 : MethodName := ⟨RJ8, "hugeLength", "(II)I"⟩
def RJ3 : String := "jdk/internal/util/Preconditions"
abbrev cJ3_checkIndex_8e157 : ByteArray := prog_42_method_11_code
def yJ3_checkIndex_8e157 : MethodName := ⟨RJ3, "checkIndex", "(IILjava/util/function/BiFunction;)I"⟩
abbrev cJ3_checkFromToIndex_8c36e : ByteArray := prog_42_method_12_code
def yJ3_checkFromToIndex_8c36e : MethodName := ⟨RJ3, "checkFromToIndex", "(IIILjava/util/function/BiFunction;)I"⟩
abbrev cJ3_checkFromIndexSize_8c36e : ByteArray := prog_42_method_13_code
def yJ3_checkFromIndexSize_8c36e : MethodName := ⟨RJ3, "checkFromIndexSize", "(IIILjava/util/function/BiFunction;)I"⟩
def RL : String := "FoldedArchiveLaw"
abbrev cL_cell : ByteArray := method_2_code
def yL_cell : MethodName := ⟨RL, "cell", "([II)I"⟩
abbrev cL_pick : ByteArray := method_3_code
def yL_pick : MethodName := ⟨RL, "pick", "([III)I"⟩
abbrev cL_addSection : ByteArray := method_4_code
def yL_addSection : MethodName := ⟨RL, "addSection", "(LFoldedArchive;)I"⟩
abbrev cL_pour : ByteArray := method_5_code
def yL_pour : MethodName := ⟨RL, "pour", "(LFoldedArchive;II)I"⟩
abbrev cL_tag : ByteArray := method_6_code
def yL_tag : MethodName := ⟨RL, "tag", "(LFoldedArchive;IC)I"⟩
abbrev cL_untag : ByteArray := method_7_code
def yL_untag : MethodName := ⟨RL, "untag", "(LFoldedArchive;IC)I"⟩
abbrev cL_water : ByteArray := method_8_code
def yL_water : MethodName := ⟨RL, "water", "(LFoldedArchive;I)I"⟩
abbrev cL_hasTerm : ByteArray := method_9_code
def yL_hasTerm : MethodName := ⟨RL, "hasTerm", "(LFoldedArchive;IC)I"⟩
abbrev cL_sectionsWith : ByteArray := method_10_code
def yL_sectionsWith : MethodName := ⟨RL, "sectionsWith", "(LFoldedArchive;C)I"⟩
abbrev cL_sectionByWater : ByteArray := method_11_code
def yL_sectionByWater : MethodName := ⟨RL, "sectionByWater", "(LFoldedArchive;I)I"⟩
abbrev cL_fold : ByteArray := method_12_code
def yL_fold : MethodName := ⟨RL, "fold", "(LFoldedArchive;I)I"⟩
abbrev cL_unfold : ByteArray := method_13_code
def yL_unfold : MethodName := ⟨RL, "unfold", "(LFoldedArchive;)I"⟩
abbrev cL_layerOf : ByteArray := method_14_code
def yL_layerOf : MethodName := ⟨RL, "layerOf", "(LFoldedArchive;I)I"⟩
abbrev cL_sectionIn : ByteArray := method_15_code
def yL_sectionIn : MethodName := ⟨RL, "sectionIn", "(LFoldedArchive;I)I"⟩
abbrev cL_canFold : ByteArray := method_16_code
def yL_canFold : MethodName := ⟨RL, "canFold", "(LFoldedArchive;I)I"⟩
abbrev cL_layPipe : ByteArray := method_17_code
def yL_layPipe : MethodName := ⟨RL, "layPipe", "(LFoldedArchive;III)I"⟩
abbrev cL_removePipe : ByteArray := method_18_code
def yL_removePipe : MethodName := ⟨RL, "removePipe", "(LFoldedArchive;I)I"⟩
abbrev cL_breakPipe : ByteArray := method_19_code
def yL_breakPipe : MethodName := ⟨RL, "breakPipe", "(LFoldedArchive;I)I"⟩
abbrev cL_mendPipe : ByteArray := method_20_code
def yL_mendPipe : MethodName := ⟨RL, "mendPipe", "(LFoldedArchive;I)I"⟩
abbrev cL_pipeFrom : ByteArray := method_21_code
def yL_pipeFrom : MethodName := ⟨RL, "pipeFrom", "(LFoldedArchive;I)I"⟩
abbrev cL_pipeTo : ByteArray := method_22_code
def yL_pipeTo : MethodName := ⟨RL, "pipeTo", "(LFoldedArchive;I)I"⟩
abbrev cL_capacity : ByteArray := method_23_code
def yL_capacity : MethodName := ⟨RL, "capacity", "(LFoldedArchive;I)I"⟩
abbrev cL_isBroken : ByteArray := method_24_code
def yL_isBroken : MethodName := ⟨RL, "isBroken", "(LFoldedArchive;I)I"⟩
abbrev cL_greatestFlow : ByteArray := method_25_code
def yL_greatestFlow : MethodName := ⟨RL, "greatestFlow", "(LFoldedArchive;)I"⟩
abbrev cL_smallestCut : ByteArray := method_26_code
def yL_smallestCut : MethodName := ⟨RL, "smallestCut", "(LFoldedArchive;)I"⟩
abbrev cL_lossOf : ByteArray := method_27_code
def yL_lossOf : MethodName := ⟨RL, "lossOf", "(LFoldedArchive;I)I"⟩
abbrev cL_drain : ByteArray := method_28_code
def yL_drain : MethodName := ⟨RL, "drain", "(LFoldedArchive;)I"⟩
abbrev cL_seep : ByteArray := method_29_code
def yL_seep : MethodName := ⟨RL, "seep", "(LFoldedArchive;)I"⟩
abbrev cL_meanWater : ByteArray := method_30_code
def yL_meanWater : MethodName := ⟨RL, "meanWater", "(LFoldedArchive;)D"⟩
abbrev cL_leakedShare : ByteArray := method_31_code
def yL_leakedShare : MethodName := ⟨RL, "leakedShare", "(LFoldedArchive;)F"⟩
abbrev cL_feed : ByteArray := method_32_code
def yL_feed : MethodName := ⟨RL, "feed", "(LFoldedArchive;C)I"⟩
abbrev cL_search : ByteArray := method_33_code
def yL_search : MethodName := ⟨RL, "search", "(LFoldedArchive;)I"⟩
abbrev cL_matches : ByteArray := method_34_code
def yL_matches : MethodName := ⟨RL, "matches", "(LFoldedArchive;I)I"⟩
abbrev cL_execute : ByteArray := method_35_code
def yL_execute : MethodName := ⟨RL, "execute", "(LFoldedArchive;)I"⟩
abbrev cL_denial : ByteArray := method_39_code
def yL_denial : MethodName := ⟨RL, "denial", "(LFoldedArchive;)I"⟩
abbrev cL_denialDetail : ByteArray := method_40_code
def yL_denialDetail : MethodName := ⟨RL, "denialDetail", "(LFoldedArchive;)I"⟩
abbrev cL_undo : ByteArray := method_42_code
def yL_undo : MethodName := ⟨RL, "undo", "(LFoldedArchive;)I"⟩
abbrev cL_restoreSnapshot : ByteArray := method_43_code
def yL_restoreSnapshot : MethodName := ⟨RL, "restoreSnapshot", "(LFoldedArchive;)I"⟩
abbrev cL_feeds : ByteArray := method_44_code
def yL_feeds : MethodName := ⟨RL, "feeds", "(LFoldedArchive;Ljava/lang/String;)V"⟩
abbrev cL_runs : ByteArray := method_45_code
def yL_runs : MethodName := ⟨RL, "runs", "(LFoldedArchive;Ljava/lang/String;)I"⟩
abbrev cL_finds : ByteArray := method_46_code
def yL_finds : MethodName := ⟨RL, "finds", "(LFoldedArchive;Ljava/lang/String;)I"⟩
abbrev cL_law : ByteArray := code
def yL_law : MethodName := ⟨RL, "law", "([I)Z"⟩
abbrev cL_over : ByteArray := method_50_code
def yL_over : MethodName := ⟨RL, "over", "(LFoldedArchive;)I"⟩
abbrev cL_does : ByteArray := method_51_code
def yL_does : MethodName := ⟨RL, "does", "([IIILFoldedArchive;III)I"⟩
abbrev cL_sum : ByteArray := method_52_code
def yL_sum : MethodName := ⟨RL, "sum", "(LFoldedArchive;)J"⟩
abbrev cL_isPile : ByteArray := method_53_code
def yL_isPile : MethodName := ⟨RL, "isPile", "(LFoldedArchive;)Z"⟩
abbrev cL_areFoldings : ByteArray := method_54_code
def yL_areFoldings : MethodName := ⟨RL, "areFoldings", "(LFoldedArchive;)Z"⟩
abbrev cL_isSearch : ByteArray := method_55_code
def yL_isSearch : MethodName := ⟨RL, "isSearch", "(LFoldedArchive;[II)Z"⟩
abbrev cL_isWhole : ByteArray := method_56_code
def yL_isWhole : MethodName := ⟨RL, "isWhole", "(LFoldedArchive;[IIZ)Z"⟩
abbrev cL_isKept : ByteArray := method_57_code
def yL_isKept : MethodName := ⟨RL, "isKept", "(LFoldedArchive;[JI)Z"⟩
end
section
/-! The store: an int for each field and each element of every cell; beside it the law's row of long numbers. A cell's shape stands in TT, by its place. -/
abbrev XW : Type := (Nat → Nat → Int32) × (Nat → Int64)
def wset (w : XW) (k j : Nat) (v : Int32) : XW := (fun a c => if a = k ∧ c = j then v else w.1 a c, w.2)
def wcpy (w : XW) (sk sp dk dp n : Nat) : XW := (fun a c => if a = dk ∧ dp ≤ c ∧ c < dp + n then w.1 sk (sp + (c - dp)) else w.1 a c, w.2)
abbrev Sh : Type := Nat × Nat × List (Option Nat)
def TT0 : List Sh := [(0, 10, [some 1, some 12, some 23, some 34, some 124, some 128, some 132, some 134, some 136, some 138, none, none, none, none, none]), (0, 8, [some 2, some 5, some 7]), (0, 9, [none, none, none, some 3, some 4]), (1, 7, []), (1, 7, []), (0, 4, [none, some 6]), (1, 7, []), (0, 5, [none, some 8, some 9, some 10, some 11]), (1, 10, []), (1, 10, []), (1, 10, []), (2, 10, []), (0, 8, [some 13, some 16, some 18]), (0, 9, [none, none, none, some 14, some 15]), (1, 7, []), (1, 7, []), (0, 4, [none, some 17]), (1, 7, []), (0, 5, [none, some 19, some 20, some 21, some 22]), (1, 10, []), (1, 10, []), (1, 10, []), (2, 10, []), (0, 8, [some 24, some 27, some 29]), (0, 9, [none, none, none, some 25, some 26]), (1, 7, []), (1, 7, []), (0, 4, [none, some 28]), (1, 7, []), (0, 5, [none, some 30, some 31, some 32, some 33]), (1, 10, []), (1, 10, []), (1, 10, []), (2, 10, []), (0, 3, [some 35, none, none]), (6, 8, [some 36, some 47, some 58, some 69, some 80, some 91, some 102, some 113]), (0, 8, [some 37, some 40, some 42]), (0, 9, [none, none, none, some 38, some 39])]
def TT1 : List Sh := [(1, 7, []), (1, 7, []), (0, 4, [none, some 41]), (1, 7, []), (0, 5, [none, some 43, some 44, some 45, some 46]), (1, 10, []), (1, 10, []), (1, 10, []), (2, 10, []), (0, 8, [some 48, some 51, some 53]), (0, 9, [none, none, none, some 49, some 50]), (1, 7, []), (1, 7, []), (0, 4, [none, some 52]), (1, 7, []), (0, 5, [none, some 54, some 55, some 56, some 57]), (1, 10, []), (1, 10, []), (1, 10, []), (2, 10, []), (0, 8, [some 59, some 62, some 64]), (0, 9, [none, none, none, some 60, some 61]), (1, 7, []), (1, 7, []), (0, 4, [none, some 63]), (1, 7, []), (0, 5, [none, some 65, some 66, some 67, some 68]), (1, 10, []), (1, 10, []), (1, 10, []), (2, 10, []), (0, 8, [some 70, some 73, some 75]), (0, 9, [none, none, none, some 71, some 72]), (1, 7, []), (1, 7, []), (0, 4, [none, some 74]), (1, 7, []), (0, 5, [none, some 76, some 77, some 78, some 79])]
def TT2 : List Sh := [(1, 10, []), (1, 10, []), (1, 10, []), (2, 10, []), (0, 8, [some 81, some 84, some 86]), (0, 9, [none, none, none, some 82, some 83]), (1, 7, []), (1, 7, []), (0, 4, [none, some 85]), (1, 7, []), (0, 5, [none, some 87, some 88, some 89, some 90]), (1, 10, []), (1, 10, []), (1, 10, []), (2, 10, []), (0, 8, [some 92, some 95, some 97]), (0, 9, [none, none, none, some 93, some 94]), (1, 7, []), (1, 7, []), (0, 4, [none, some 96]), (1, 7, []), (0, 5, [none, some 98, some 99, some 100, some 101]), (1, 10, []), (1, 10, []), (1, 10, []), (2, 10, []), (0, 8, [some 103, some 106, some 108]), (0, 9, [none, none, none, some 104, some 105]), (1, 7, []), (1, 7, []), (0, 4, [none, some 107]), (1, 7, []), (0, 5, [none, some 109, some 110, some 111, some 112]), (1, 10, []), (1, 10, []), (1, 10, []), (2, 10, []), (0, 8, [some 114, some 117, some 119])]
def TT3 : List Sh := [(0, 9, [none, none, none, some 115, some 116]), (1, 7, []), (1, 7, []), (0, 4, [none, some 118]), (1, 7, []), (0, 5, [none, some 120, some 121, some 122, some 123]), (1, 10, []), (1, 10, []), (1, 10, []), (2, 10, []), (0, 1, [some 125, some 126, some 127]), (1, 49, []), (1, 7, []), (1, 7, []), (0, 2, [some 129, some 131]), (0, 4, [none, some 130]), (1, 7, []), (1, 7, []), (0, 6, [some 133, none]), (3, 60, []), (0, 6, [some 135, none]), (3, 14, []), (0, 7, [some 137, none, none, none]), (1, 8, []), (0, 0, [some 139, some 140, none, none, none, none]), (1, 60, []), (1, 180, []), (4, 70, [])]
def TT : List Sh := TT0 ++ (TT1 ++ (TT2 ++ (TT3)))
def strTab : List (String × Nat × String × List Int32) := [("FoldedArchiveLaw", 287, "pour ", [112, 111, 117, 114, 32]), ("FoldedArchiveLaw", 296, " ", [32]), ("FoldedArchiveLaw", 298, ";fold ", [59, 102, 111, 108, 100, 32]), ("java/util/Arrays", 337, " > ", [32, 62, 32]), ("FoldedArchiveLaw", 304, ";tag ", [59, 116, 97, 103, 32]), ("FoldedArchiveLaw", 309, ";open", [59, 111, 112, 101, 110]), ("FoldedArchiveLaw", 311, ";", [59]), ("FoldedArchive$CommandReader", 59, "add", [97, 100, 100]), ("FoldedArchive$CommandReader", 61, "pour D N", [112, 111, 117, 114, 32, 68, 32, 78]), ("FoldedArchive$CommandReader", 63, "tag DT", [116, 97, 103, 32, 68, 84]), ("FoldedArchive$CommandReader", 65, "untag DT", [117, 110, 116, 97, 103, 32, 68, 84]), ("FoldedArchive$CommandReader", 67, "fold D", [102, 111, 108, 100, 32, 68]), ("FoldedArchive$CommandReader", 69, "open", [111, 112, 101, 110]), ("FoldedArchive$CommandReader", 71, "pipe D>D N", [112, 105, 112, 101, 32, 68, 62, 68, 32, 78]), ("FoldedArchive$CommandReader", 73, "cut D", [99, 117, 116, 32, 68]), ("FoldedArchive$CommandReader", 75, "break D", [98, 114, 101, 97, 107, 32, 68]), ("FoldedArchive$CommandReader", 77, "mend D", [109, 101, 110, 100, 32, 68]), ("FoldedArchive$CommandReader", 79, "drain", [100, 114, 97, 105, 110]), ("FoldedArchive$CommandReader", 81, "seep", [115, 101, 101, 112]), ("FoldedArchiveLaw", 342, "", []), ("FoldedArchiveLaw", 349, "+", [43]), ("FoldedArchiveLaw", 351, "-", [45]), ("FoldedArchiveLaw", 353, "-(", [45, 40]), ("FoldedArchiveLaw", 355, ")", [41]), ("FoldedArchiveLaw", 357, "(", [40]), ("FoldedArchiveLaw", 359, "+-", [43, 45])]
abbrev vwCl : List vw_C := [(RX0, TX0, 6), (RX1, TX1, 3), (RX2, TX2, 2), (RX3, TX3, 3), (RX4, TX4, 2), (RX5, TX5, 5), (RX6, TX6, 2), (RX7, TX7, 4), (RX8, TX8, 3), (RX9, TX9, 5), (RX10, TX10, 15), (RJ4, TJ4, 4), (RJ0, TJ0, 4)]
/-! ===== the shapes' cells ===== -/
def layF (b : Nat) (f : Nat → Int32) : Nat → List (Option Nat) → List Value
  | _, [] => []
  | j, none :: r => .int (f j) :: layF b f (j + 1) r
  | j, some t :: r => .ref (b + t) :: layF b f (j + 1) r
theorem layF_get (b : Nat) (f : Nat → Int32) : ∀ (fs : List (Option Nat)) (j0 j : Nat), (layF b f j0 fs)[j]? = (fs[j]?).map (fun x => match x with | none => .int (f (j0 + j)) | some t => .ref (b + t)) := by
  intro fs
  induction fs with
  | nil => intro j0 j; simp [layF]
  | cons x r ih =>
    intro j0 j
    cases x with
    | none =>
      cases j with
      | zero => simp [layF]
      | succ j => simp only [layF, List.getElem?_cons_succ, ih]; rw [show j0 + 1 + j = j0 + (j + 1) by omega]
    | some t =>
      cases j with
      | zero => simp [layF]
      | succ j => simp only [layF, List.getElem?_cons_succ, ih]; rw [show j0 + 1 + j = j0 + (j + 1) by omega]
theorem layF_len (b : Nat) (f : Nat → Int32) : ∀ (fs : List (Option Nat)) (j0 : Nat), (layF b f j0 fs).length = fs.length := by
  intro fs
  induction fs with
  | nil => intro j0; rfl
  | cons x r ih => intro j0; cases x <;> simp [layF, ih]
theorem layF_set (b : Nat) (f : Nat → Int32) (fs : List (Option Nat)) (j : Nat) (v : Int32) (h : fs[j]? = some none) : (layF b f 0 fs).set j (.int v) = layF b (fun c => if c = j then v else f c) 0 fs := by
  apply List.ext_getElem?
  intro i
  rw [layF_get, List.getElem?_set, layF_get, layF_len]
  have hl : j < fs.length := (List.getElem?_eq_some_iff.mp h).1
  by_cases hij : j = i
  · subst hij
    rw [if_pos rfl, if_pos hl, h]
    simp
  · rw [if_neg hij]
    cases hfi : fs[i]? with
    | none => rfl
    | some x =>
      cases x with
      | none => simp [Ne.symm hij]
      | some t => simp
/-- the launch; where the world begins; the array classes; the classes' numbers; the String constants and their bytes (at 26 the text that the law has made); the script: its place, its length, its ints; the text's letters -/
abbrev GC : Type := Launch × Nat × (Nat → ClassId) × va_G × (Nat → Nat) × (Nat → Nat) × Nat × Nat × (Nat → Int32) × List Int32
def layE (g : GC) (w : XW) (k : Nat) (q : Sh) : va_E := match q.1 with
  | 0 => .inr (q.2.1, layF g.2.1 (w.1 k) 0 q.2.2)
  | 1 => .inl (g.2.2.1 0, q.2.1, .inl (w.1 k))
  | 2 => .inl (g.2.2.1 1, q.2.1, .inl (w.1 k))
  | 3 => .inl (g.2.2.1 2, q.2.1, .inl (w.1 k))
  | 4 => .inl (g.2.2.1 3, q.2.1, .inr (.inl w.2))
  | _ => .inl (g.2.2.1 4, q.2.1, .inr (.inr (.inr (.inr (fun j => (q.2.2.getD j none).map (g.2.1 + ·))))))
theorem layE_same {g : GC} {w w' : XW} {k : Nat} {q : Sh} (h1 : w'.1 k = w.1 k) (h2 : w'.2 = w.2) : layE g w' k q = layE g w k q := by
  unfold layE
  rw [h1, h2]
theorem wset_ne {w : XW} {k j k' : Nat} {v : Int32} (h : k' ≠ k) : (wset w k j v).1 k' = w.1 k' := by
  funext c
  simp [wset, h]
theorem wset_eq {w : XW} {k j : Nat} {v : Int32} : (wset w k j v).1 k = fun c => if c = j then v else w.1 k c := by
  funext c
  simp [wset]
theorem wcpy_ne {w : XW} {sk sp dk dp n k' : Nat} (h : k' ≠ dk) : (wcpy w sk sp dk dp n).1 k' = w.1 k' := by
  funext c
  simp [wcpy, h]
theorem wcpy_eq {w : XW} {sk sp dk dp n : Nat} : (wcpy w sk sp dk dp n).1 dk = va_cpy (w.1 sk) (w.1 dk) sp dp n := by
  funext c
  simp [wcpy, va_cpy]
def tysL (g : GC) : List (ClassId × FieldType) := [(g.2.2.1 0, .int), (g.2.2.1 1, .boolean), (g.2.2.1 2, .char), (g.2.2.1 3, .long), (g.2.2.1 4, .object "FoldedArchive$State"), (g.2.2.1 5, .byte)]
/-! ===== the world: every cell of TT lies at its place ===== -/
def RW (g : GC) (w : XW) (H : Heap) : Prop := ∀ (k : Nat) (q : Sh), TT[k]? = some q → va_at g.2.2.2.1 vwCl (g.2.1 + k, layE g w k q) H
theorem RW.one {g : GC} {w : XW} {H : Heap} (h : RW g w H) {k : Nat} {q : Sh} (hk : TT[k]? = some q) : va_P g.2.2.2.1 vwCl [(g.2.1 + k, layE g w k q)] H := by
  intro i x hx
  have hz : i < 1 := (List.getElem?_eq_some_iff.mp hx).1
  rw [show i = 0 by omega] at hx
  cases hx
  exact h k q hk
theorem RW.put {g : GC} {w w' : XW} {H H1 : Heap} {k : Nat} {q : Sh} (h : RW g w H) (hk : TT[k]? = some q) (he : va_at g.2.2.2.1 vwCl (g.2.1 + k, layE g w' k q) H1) (oq : ∀ a : Nat, a ≠ g.2.1 + k → H1[a]? = H[a]?) (h1 : ∀ k', k' ≠ k → w'.1 k' = w.1 k') (h2 : w'.2 = w.2 ∨ ∀ (k' : Nat) (q' : Sh), k' ≠ k → TT[k']? = some q' → layE g w' k' q' = layE g w k' q') : RW g w' H1 := by
  intro k' q' hk'
  by_cases hkk : k' = k
  · subst hkk
    cases hk.symm.trans hk'
    exact he
  · have e : layE g w' k' q' = layE g w k' q' := by
      rcases h2 with h2 | h2
      · exact layE_same (h1 k' hkk) h2
      · exact h2 k' q' hkk hk'
    rw [e]
    exact (h k' q' hk').kept (oq _ (fun z => hkk (by simp only at z; omega)))
theorem RW.kept {g : GC} {w : XW} {H H1 : Heap} (h : RW g w H) (hq : ∀ a : Nat, a < H.size → H1[a]? = H[a]?) : RW g w H1 := fun k q hk => (h k q hk).kept (hq _ ((h k q hk).lt))
/-! ===== what lies below: statics of the throws, String constants ===== -/
/-- the builder's private methods that are called on it -/
def sbPv : List MethodName := [yJ5_ensureCapacityInternal_d00df, yJ5_putStringAt_47b60, yJ5_inflateIfNeededFor_a7421]
def GW : List Cond := (lw_tbl ++ sbPv.map fun y => Cond.selects RJ4 y y).filter goodWord
theorem GW_good {w : Cond} (h : w ∈ GW) : (w.onTables && w.keeps) = true ∨ ∃ ty, w = .arrayClass ty := good_of_word (List.mem_filter.mp h).2
theorem GW_of (i : Nat) {w : Cond} (h : lw_tbl[i]? = some w) (hg : goodWord w = true) : w ∈ GW := List.mem_filter.mpr ⟨List.mem_append_left _ (List.mem_of_getElem? h), hg⟩
theorem GW_sp (i : Nat) {y : MethodName} (h : sbPv[i]? = some y) : Cond.selects RJ4 y y ∈ GW := List.mem_filter.mpr ⟨List.mem_append_right _ (List.mem_map.mpr ⟨y, List.mem_of_getElem? h, rfl⟩), rfl⟩
/-- where the world's cells lie -/
def TTr (g : GC) : Nat → Prop := fun q => g.2.1 ≤ q ∧ q < g.2.1 + TT.length
theorem TTr_of {g : GC} {k : Nat} {q : Sh} (h : TT[k]? = some q) : TTr g (g.2.1 + k) := ⟨Nat.le_add_right _ _, Nat.add_lt_add_left (List.getElem?_eq_some_iff.mp h).1 _⟩
/-- what a method has changed: old cells of the world alone -/
def VS (g : GC) (H0 H : Heap) (locs : List Loc) : Prop := H0.size ≤ H.size ∧ (∀ q : Nat, q < H0.size → ¬ TTr g q → H[q]? = H0[q]?) ∧ ∀ l ∈ locs, g.2.1 ≤ l.base
theorem VS.rf {g : GC} {H : Heap} : VS g H H [] := ⟨Nat.le_refl _, fun _ _ _ => rfl, fun _ h => absurd h List.not_mem_nil⟩
theorem VS.S {g : GC} {H0 H : Heap} {locs : List Loc} (h : VS g H0 H locs) : va_S (fun q => g.2.1 ≤ q) H0 H locs := ⟨h.1, fun q h1 h2 => h.2.1 q h1 (fun z => h2 z.1), h.2.2⟩
theorem VS.F {g : GC} {s t : State} {H : Heap} {locs : List Loc} (h : VS g s.heap H locs) (ht : t.heap = H) : va_F (TTr g) s t := ⟨by rw [ht]; exact h.1, fun q h1 h2 => by rw [ht]; exact h.2.1 q h1 h2⟩
theorem VS.put {g : GC} {H0 H H1 : Heap} {locs : List Loc} {k j : Nat} {q : Sh} (h : VS g H0 H locs) (hT : TT[k]? = some q) (e2 : H1.size = H.size) (e3 : ∀ a : Nat, a ≠ g.2.1 + k → H1[a]? = H[a]?) : VS g H0 H1 (locs ++ [⟨g.2.1 + k, j⟩]) :=
  ⟨by rw [e2]; exact h.1, fun a h1 h2 => by rw [e3 a (fun z => h2 (z ▸ TTr_of hT))]; exact h.2.1 a h1 h2, fun l hl => by
    rcases List.mem_append.mp hl with z | z
    · exact h.2.2 l z
    · rw [List.mem_singleton.mp z]; exact Nat.le_add_right _ _⟩
theorem VS.keep {g : GC} {s st₀ t T' : State} {H : Heap} {locs L : List Loc} (h0 : st₀.heap = H) (e1 : T'.heap = t.heap) (hS : VS g s.heap H locs) (hL : ∀ q ∈ L, g.2.1 ≤ q.base) (hF : va_F (TTr g) st₀ t) : VS g s.heap T'.heap (locs ++ L) := by
  obtain ⟨hz, hk⟩ := hF
  rw [h0] at hz hk
  refine ⟨Nat.le_trans hS.1 (by rw [e1]; exact hz), fun q h1 h2 => ?_, fun q hq => ?_⟩
  · rw [e1, hk q (Nat.lt_of_lt_of_le h1 hS.1) h2]; exact hS.2.1 q h1 h2
  · rcases List.mem_append.mp hq with h | h
    · exact hS.2.2 q h
    · exact hL q h
def strT (g : GC) (i : Nat) : Option (List Int32) := if i = 26 then (if g.2.2.2.2.2.2.2.2.2.length ≤ 100 then some g.2.2.2.2.2.2.2.2.2 else none) else (strTab[i]?).map fun q => q.2.2.2
def StrAt (g : GC) (i : Nat) (L : List Int32) (U : State) (H : Heap) : Prop := va_O "java/lang/String" (g.2.2.2.2.1 i) (TTr g) U H ∧ va_OF "java/lang/String" "coder" "B" (.int 0) (g.2.2.2.2.1 i) (TTr g) U H ∧ va_OF "java/lang/String" "value" "[B" (.ref (g.2.2.2.2.2.1 i)) (g.2.2.2.2.1 i) (TTr g) U H ∧ va_T .byte (g.2.2.2.2.2.1 i) L.length (fun j => .int (L.getD j 0)) (TTr g) U H
/-- Integer's two tables of digits -/
def DGa (A : Nat → Prop) (U : State) (H : Heap) : Prop := (∃ d : Nat, va_Z "java/lang/Integer" "DigitOnes" "[B" (.ref d) A U H ∧ va_T .byte d 100 (fun r => .int (Int32.ofNat (48 + r % 10))) A U H) ∧ ∃ d : Nat, va_Z "java/lang/Integer" "DigitTens" "[B" (.ref d) A U H ∧ va_T .byte d 100 (fun r => .int (Int32.ofNat (48 + r / 10))) A U H
theorem DGa.moved {A : Nat → Prop} {u U : State} {H : Heap} (hvm : u.vm.Alike U.vm) (h : DGa A u H) : DGa A U H := by
  obtain ⟨⟨d, h1, h2⟩, e, h3, h4⟩ := h
  exact ⟨⟨d, h1.moved hvm, h2.moved hvm⟩, e, h3.moved hvm, h4.moved hvm⟩
theorem DGa.kept {A : Nat → Prop} {U : State} {H H1 : Heap} (h : DGa A U H) (hq : ∀ a : Nat, a < H.size → ¬ A a → H1[a]? = H[a]?) : DGa A U H1 := by
  obtain ⟨⟨d, h1, h2⟩, e, h3, h4⟩ := h
  exact ⟨⟨d, h1.kept hq, h2.kept hq⟩, e, h3.kept hq, h4.kept hq⟩
theorem DGa.narrow {A B : Nat → Prop} {U : State} {H : Heap} (h : DGa A U H) (hAB : ∀ q, B q → A q) : DGa B U H := by
  obtain ⟨⟨d, h1, h2⟩, e, h3, h4⟩ := h
  exact ⟨⟨d, h1.narrow hAB, h2.narrow hAB⟩, e, h3.narrow hAB, h4.narrow hAB⟩
def SFs (g : GC) (U : State) (H : Heap) : Prop :=
  vx_Zq Bundle.tN "UNASSIGNED_STACK" Bundle.steD (fun q => g.2.1 ≤ q) U H ∧ vx_Zq Bundle.tN "SUPPRESSED_SENTINEL" Bundle.listD (fun q => g.2.1 ≤ q) U H ∧
  (va_Z "java/lang/String" "COMPACT_STRINGS" "Z" (.int 1) (fun q => g.2.1 ≤ q) U H ∧ va_Zq "jdk/internal/util/Preconditions" "SIOOBE_FORMATTER" "Ljava/util/function/BiFunction;" (fun q => g.2.1 ≤ q) U H) ∧ va_T .int g.2.2.2.2.2.2.1 g.2.2.2.2.2.2.2.1 (fun j => .int (g.2.2.2.2.2.2.2.2.1 j)) (fun q => g.2.1 ≤ q) U H ∧
  (∀ (i : Nat) (L : List Int32), strT g i = some L → StrAt g i L U H) ∧ DGa (fun q => g.2.1 ≤ q) U H
theorem SFs.moved {g : GC} {u U : State} {H : Heap} (hvm : u.vm.Alike U.vm) (h : SFs g u H) : SFs g U H :=
  ⟨h.1.moved hvm, h.2.1.moved hvm, ⟨h.2.2.1.1.moved hvm, h.2.2.1.2.moved hvm⟩, h.2.2.2.1.moved hvm, fun i q hi => ⟨(h.2.2.2.2.1 i q hi).1.moved hvm, (h.2.2.2.2.1 i q hi).2.1.moved hvm, (h.2.2.2.2.1 i q hi).2.2.1.moved hvm, (h.2.2.2.2.1 i q hi).2.2.2.moved hvm⟩, h.2.2.2.2.2.moved hvm⟩
theorem SFs.kept {g : GC} {U : State} {H H1 : Heap} (h : SFs g U H) (hq0 : ∀ a : Nat, a < H.size → ¬ TTr g a → H1[a]? = H[a]?) : SFs g U H1 :=
  have hq : ∀ a : Nat, a < H.size → ¬ (g.2.1 ≤ a) → H1[a]? = H[a]? := fun a h1 h2 => hq0 a h1 (fun z => h2 z.1)
  ⟨h.1.kept hq, h.2.1.kept hq, ⟨h.2.2.1.1.kept hq, h.2.2.1.2.kept hq⟩, h.2.2.2.1.kept hq, fun i q hi => ⟨(h.2.2.2.2.1 i q hi).1.kept hq0, (h.2.2.2.2.1 i q hi).2.1.kept hq0, (h.2.2.2.2.1 i q hi).2.2.1.kept hq0, (h.2.2.2.2.1 i q hi).2.2.2.kept hq0⟩, h.2.2.2.2.2.kept hq⟩
def ncTab : List (String × String) := [("java/lang/IllegalArgumentException", "java/lang/IndexOutOfBoundsException"), ("java/lang/UnsupportedOperationException", "java/lang/IndexOutOfBoundsException"), ("java/lang/UnsupportedOperationException", "java/lang/IllegalArgumentException"), ("java/util/NoSuchElementException", "java/lang/IndexOutOfBoundsException")]
def NGW : List Cond := [.castable "[B" "java/lang/Cloneable", .castable "java/lang/IndexOutOfBoundsException" "java/lang/IndexOutOfBoundsException", .castable "java/lang/IllegalArgumentException" "java/lang/IllegalArgumentException", .castable "java/lang/UnsupportedOperationException" "java/lang/UnsupportedOperationException", .castable "java/util/NoSuchElementException" "java/util/NoSuchElementException", .castable "java/lang/ArithmeticException" "java/lang/ArithmeticException", .castable "java/lang/IllegalStateException" "java/lang/IllegalStateException", .declares ⟨"java/lang/RuntimeException", "<init>", "()V"⟩, .declares ⟨"java/lang/Exception", "<init>", "()V"⟩, .declares ⟨"java/lang/Throwable", "<init>", "()V"⟩]
theorem ng_castable {C T : String} {u U : State} {a a' : Array Value} (hvm : u.vm.Alike U.vm) (h : (Cond.castable C T).before a u = true) : (Cond.castable C T).before a' U = true := by
  simp only [Cond.before, Cond.holds, Cond.value, hvm.findClass, hvm.assignable] at h ⊢
  exact h
theorem ng_declares {x : MethodName} {u U : State} {a a' : Array Value} (hvm : u.vm.Alike U.vm) (h : (Cond.declares x).before a u = true) : (Cond.declares x).before a' U = true := by
  have e1 : U.methodNamed? x = u.methodNamed? x := State.methodNamed?_setVm hvm x
  have e2 : U.vm.method? = u.vm.method? := funext hvm.method?
  simp only [Cond.before, Cond.holds, Cond.value, e1, e2] at h ⊢
  exact h
theorem ng_moved {u U : State} {a a' : Array Value} (hvm : u.vm.Alike U.vm) {w : Cond} (hw : w ∈ NGW) (h : w.before a u = true) : w.before a' U = true := by
  simp only [NGW, List.mem_cons, List.not_mem_nil, or_false] at hw
  rcases hw with rfl | rfl | rfl | rfl | rfl | rfl | rfl | rfl | rfl | rfl
  · exact ng_castable hvm h
  · exact ng_castable hvm h
  · exact ng_castable hvm h
  · exact ng_castable hvm h
  · exact ng_castable hvm h
  · exact ng_castable hvm h
  · exact ng_castable hvm h
  · exact ng_declares hvm h
  · exact ng_declares hvm h
  · exact ng_declares hvm h
def STR (g : GC) (U : State) : Prop := (∀ w ∈ NGW, w.before #[] U = true) ∧ (∀ (i : Nat) (q : String × Nat × String × List Int32), strTab[i]? = some q → vk_R q.1 q.2.1 q.2.2.1 (g.2.2.2.2.1 i) U) ∧ ∀ q ∈ ncTab, va_Nc q.1 q.2 U
/-! ===== outcomes, contracts ===== -/
abbrev Out : Type := (Option Value ⊕ String) × XW
def PO (g : GC) (av : List Value) (w : XW) : Array Value → State → Prop := fun v U => v = av.toArray ∧ g.2.1 ≤ U.heap.size ∧ RW g w U.heap ∧ va_K g.2.2.2.1 vwCl (tysL g) U ∧ SFs g U U.heap ∧ STR g U
def QO (g : GC) (o : Out) : Array Value → State → Outcome → State → Prop := fun _ st oc t => (∃ v, o.1 = .inl v ∧ oc = .returned v) ∧ RW g o.2 t.heap ∧ va_F (TTr g) st t
def XO (g : GC) (o : Out) : String → State → State → Prop := fun E st t => o.1 = .inr E ∧ RW g o.2 t.heap ∧ va_F (TTr g) st t
def MM (g : GC) (hd : Cond) (y : MethodName) (rm : Room) (mc ms : Nat) (av : List Value) (w : XW) (o : Out) : Prop := vx_Met g.1 y (hd :: GW) rm (PO g av w) (QO g o) (XO g o) mc ms (fun q => g.2.1 ≤ q)
theorem PO_blind {g : GC} {av : List Value} {w : XW} : FrameBlind (PO g av w) := fun a U f mk q => ⟨q.1, q.2.1, q.2.2.1, va_K.moved (u := U) (U := U.calling f mk a) (Vm.Alike.refl U.vm) q.2.2.2.1, SFs.moved (u := U) (U := U.calling f mk a) (Vm.Alike.refl U.vm) q.2.2.2.2.1, fun w hw => ng_moved (u := U) (U := U.calling f mk a) (Vm.Alike.refl U.vm) hw (q.2.2.2.2.2.1 w hw), fun i x hx => vk_R.same (u := U) (U := U.calling f mk a) rfl (q.2.2.2.2.2.2.1 i x hx), fun x hx => va_Nc.moved (u := U) (U := U.calling f mk a) (Vm.Alike.refl U.vm) (q.2.2.2.2.2.2.2 x hx)⟩
/-- what holds of a method's frame all along -/
def FX (g : GC) (cc : ByteArray) (nL : Nat) (own : String) (rt : Option FieldType) (hh : List (Nat × Nat × Nat × Nat)) (p : Program) (s : State) (m : MethodId) (args : Array Value) (meth : Method) (c : Code) : Prop :=
  p.tables.exec = Jvm.exec ∧ c.code = cc ∧ c.maxLocals = nL ∧ s.vm.findClass own = some m.cls ∧ (∀ w ∈ GW, w.before args s = true) ∧ va_K g.2.2.2.1 vwCl (tysL g) s ∧ g.2.1 ≤ s.heap.size ∧ SFs g s s.heap ∧ STR g s ∧ meth.locks = false ∧ meth.sig.returnType = rt ∧ g.1.stackTraces = false ∧ c.exceptionTable.toList = tableOf hh
def VB (g : GC) (cc : ByteArray) (nL : Nat) (own : String) (rt : Option FieldType) (hh : List (Nat × Nat × Nat × Nat)) (R : Room) (mc ms : Nat) (o : Out) (kc ks pc : Nat) (lv : List (Nat × Value)) (st : List Value) (w : XW) : Prop :=
  ∀ (p : Program) (e : Env) (s : State) (m : MethodId) (args : Array Value) (below : List Frame) (meth : Method) (c : Code), FX g cc nL own rt hh p s m args meth c →
    ∀ (H : Heap) (locs : List Loc) (ls : Array Slot), RW g w H → VS g s.heap H locs → lv_has ls nL lv →
      W p g.1 e R s m args below meth c H locs kc ks (vx_MQ below (QO g o) (XO g o) args s mc ms (fun q => g.2.1 ≤ q)) (F0 m pc ls st)
def VE {ρ : Type} (g : GC) (cc : ByteArray) (nL : Nat) (own : String) (rt : Option FieldType) (hh : List (Nat × Nat × Nat × Nat)) (R : Room) (mc ms : Nat) (out : ρ → Out) (kc ks pc : Nat) (lv : List (Nat × Value)) (st : List Value) (w : XW) (E : Option ρ) : Prop :=
  ∀ r, E = some r → VB g cc nL own rt hh R mc ms (out r) kc ks pc lv st w
/-- an exception has come up at this place -/
def VX {ρ : Type} (g : GC) (cc : ByteArray) (nL : Nat) (own : String) (rt : Option FieldType) (hh : List (Nat × Nat × Nat × Nat)) (R : Room) (mc ms : Nat) (out : ρ → Out) (kc ks pc : Nat) (lv : List (Nat × Value)) (E0 : String) (w : XW) (E : Option ρ) : Prop :=
  ∀ r, E = some r → ∀ (p : Program) (e : Env) (s : State) (m : MethodId) (args : Array Value) (below : List Frame) (meth : Method) (c : Code), FX g cc nL own rt hh p s m args meth c →
    ∀ (H : Heap) (locs : List Loc) (ls : Array Slot) (rest : List Value) (q : Addr) (ce : Cell), RW g w H → VS g s.heap H locs → lv_has ls nL lv → H[q]? = some ce → ce.vm = .none → s.vm.findClass E0 = some ce.cls →
      vx_W p g.1 e R s m args below meth c H locs kc ks (vx_MQ below (QO g (out r)) (XO g (out r)) args s mc ms (fun q => g.2.1 ≤ q)) (F0 m pc ls rest) q
/-- the room of a level -/
def rmL (n mc ms : Nat) : Room := { frames := 16 + n, cells := mc, slots := ms, locals := 200 + 64 * n }
section CORE
variable {ρ : Type} {g : GC} {cc : ByteArray} {nL : Nat} {own : String} {rt : Option FieldType} {hh : List (Nat × Nat × Nat × Nat)} {R : Room} {mc ms : Nat} {out : ρ → Out} {kc ks pc : Nat} {lv : List (Nat × Value)} {rest : List Value} {w : XW} {E E1 E2 : Option ρ}
theorem VE.eq {st st' : List Value} (h : st = st') (k : VE g cc nL own rt hh R mc ms out kc ks pc lv st' w E) : VE g cc nL own rt hh R mc ms out kc ks pc lv st w E := h ▸ k
theorem v_none {st : List Value} : VE g cc nL own rt hh R mc ms out kc ks pc lv st w (none : Option ρ) := fun r hr => by cases hr
theorem v_guard {c : Prop} [Decidable c] {st : List Value} (k : c → VE g cc nL own rt hh R mc ms out kc ks pc lv st w E) : VE g cc nL own rt hh R mc ms out kc ks pc lv st w (if c then E else none) := by
  intro r hr
  by_cases h : c
  · rw [if_pos h] at hr
    exact k h r hr
  · rw [if_neg h] at hr
    cases hr
theorem v_widen {st : List Value} (kc' ks' : Nat) (h1 : kc ≤ kc') (h2 : ks ≤ ks') (k : VE g cc nL own rt hh R mc ms out kc' ks' pc lv st w E) : VE g cc nL own rt hh R mc ms out kc ks pc lv st w E :=
  fun r hr p e s m args below meth c F H locs ls hW hS hl => W.widen h1 h2 (k r hr p e s m args below meth c F H locs ls hW hS hl)
/-- fewer locals, in another order: by their places -/
theorem v_sub {st : List Value} {lv' : List (Nat × Value)} (is : List Nat) (h : lv_pick lv is = lv') (k : VE g cc nL own rt hh R mc ms out kc ks pc lv' st w E) : VE g cc nL own rt hh R mc ms out kc ks pc lv st w E :=
  fun r hr p e s m args below meth c F H locs ls hW hS hl => k r hr p e s m args below meth c F H locs ls hW hS (lv_sub hl is h)
theorem v_iconst {n : Int} {v : Int32} (hd : decode cc pc = .ok (.iconst n, 1)) (hv : Int32.ofInt n = v) (k : VE g cc nL own rt hh R mc ms out kc ks (pc + 1) lv (.int v :: rest) w E) : VE g cc nL own rt hh R mc ms out kc ks pc lv (rest) w E := fun r hr p e s m args below meth c F H locs ls hW hS hl => lv_iconst F.1 F.2.1 hd hv (k r hr p e s m args below meth c F H locs ls hW hS hl)
theorem v_bipush {n : Int} {v : Int32} (hd : decode cc pc = .ok (.bipush n, 2)) (hv : (Int8.ofInt n).toInt32 = v) (k : VE g cc nL own rt hh R mc ms out kc ks (pc + 2) lv (.int v :: rest) w E) : VE g cc nL own rt hh R mc ms out kc ks pc lv (rest) w E := fun r hr p e s m args below meth c F H locs ls hW hS hl => lv_bipush F.1 F.2.1 hd hv (k r hr p e s m args below meth c F H locs ls hW hS hl)
theorem v_sipush {n : Int} {v : Int32} (hd : decode cc pc = .ok (.sipush n, 3)) (hv : (Int16.ofInt n).toInt32 = v) (k : VE g cc nL own rt hh R mc ms out kc ks (pc + 3) lv (.int v :: rest) w E) : VE g cc nL own rt hh R mc ms out kc ks pc lv (rest) w E := fun r hr p e s m args below meth c F H locs ls hW hS hl => lv_sipush F.1 F.2.1 hd hv (k r hr p e s m args below meth c F H locs ls hW hS hl)
theorem v_lconst {n : Fin 2} {v : Int64} (hd : decode cc pc = .ok (.lconst n, 1)) (hv : Int64.ofNat (n : Nat) = v) (k : VE g cc nL own rt hh R mc ms out kc ks (pc + 1) lv (.long v :: rest) w E) : VE g cc nL own rt hh R mc ms out kc ks pc lv (rest) w E := fun r hr p e s m args below meth c F H locs ls hW hS hl => lv_lconst F.1 F.2.1 hd hv (k r hr p e s m args below meth c F H locs ls hW hS hl)
theorem v_null  (hd : decode cc pc = .ok (.aconst_null, 1)) (k : VE g cc nL own rt hh R mc ms out kc ks (pc + 1) lv (.null :: rest) w E) : VE g cc nL own rt hh R mc ms out kc ks pc lv (rest) w E := fun r hr p e s m args below meth c F H locs ls hW hS hl => lv_null F.1 F.2.1 hd (k r hr p e s m args below meth c F H locs ls hW hS hl)
theorem v_fconst0  (hd : decode cc pc = .ok (.fconst 0, 1)) (k : VE g cc nL own rt hh R mc ms out kc ks (pc + 1) lv (.float FP.fconst0 :: rest) w E) : VE g cc nL own rt hh R mc ms out kc ks pc lv (rest) w E := fun r hr p e s m args below meth c F H locs ls hW hS hl => lv_fconst0 F.1 F.2.1 hd (k r hr p e s m args below meth c F H locs ls hW hS hl)
theorem v_dconst0  (hd : decode cc pc = .ok (.dconst 0, 1)) (k : VE g cc nL own rt hh R mc ms out kc ks (pc + 1) lv (.double FP.dconst0 :: rest) w E) : VE g cc nL own rt hh R mc ms out kc ks pc lv (rest) w E := fun r hr p e s m args below meth c F H locs ls hW hS hl => lv_dconst0 F.1 F.2.1 hd (k r hr p e s m args below meth c F H locs ls hW hS hl)
theorem v_iload_n {j : Fin 4} {i : Nat} {x : Int32} (hd : decode cc pc = .ok (.iload_n j, 1)) (hi : (j : Nat) = i) (q : Nat) (hq : lv[q]? = some (i, .int x)) (k : VE g cc nL own rt hh R mc ms out kc ks (pc + 1) lv (.int x :: rest) w E) : VE g cc nL own rt hh R mc ms out kc ks pc lv (rest) w E := fun r hr p e s m args below meth c F H locs ls hW hS hl => lv_iload_n F.1 F.2.1 hd hi (lv_at hl q hq) (k r hr p e s m args below meth c F H locs ls hW hS hl)
theorem v_iload {i : Nat} {x : Int32} (hd : decode cc pc = .ok (.iload i, 2)) (q : Nat) (hq : lv[q]? = some (i, .int x)) (k : VE g cc nL own rt hh R mc ms out kc ks (pc + 2) lv (.int x :: rest) w E) : VE g cc nL own rt hh R mc ms out kc ks pc lv (rest) w E := fun r hr p e s m args below meth c F H locs ls hW hS hl => lv_iload F.1 F.2.1 hd (lv_at hl q hq) (k r hr p e s m args below meth c F H locs ls hW hS hl)
theorem v_aload_n {j : Fin 4} {i : Nat} {x : Nat} (hd : decode cc pc = .ok (.aload_n j, 1)) (hi : (j : Nat) = i) (q : Nat) (hq : lv[q]? = some (i, .ref x)) (k : VE g cc nL own rt hh R mc ms out kc ks (pc + 1) lv (.ref x :: rest) w E) : VE g cc nL own rt hh R mc ms out kc ks pc lv (rest) w E := fun r hr p e s m args below meth c F H locs ls hW hS hl => lv_aload_n F.1 F.2.1 hd hi (lv_at hl q hq) (k r hr p e s m args below meth c F H locs ls hW hS hl)
theorem v_aload {i : Nat} {x : Nat} (hd : decode cc pc = .ok (.aload i, 2)) (q : Nat) (hq : lv[q]? = some (i, .ref x)) (k : VE g cc nL own rt hh R mc ms out kc ks (pc + 2) lv (.ref x :: rest) w E) : VE g cc nL own rt hh R mc ms out kc ks pc lv (rest) w E := fun r hr p e s m args below meth c F H locs ls hW hS hl => lv_aload F.1 F.2.1 hd (lv_at hl q hq) (k r hr p e s m args below meth c F H locs ls hW hS hl)
theorem v_fload_n {j : Fin 4} {i : Nat} {x : UInt32} (hd : decode cc pc = .ok (.fload_n j, 1)) (hi : (j : Nat) = i) (q : Nat) (hq : lv[q]? = some (i, .float x)) (k : VE g cc nL own rt hh R mc ms out kc ks (pc + 1) lv (.float x :: rest) w E) : VE g cc nL own rt hh R mc ms out kc ks pc lv (rest) w E := fun r hr p e s m args below meth c F H locs ls hW hS hl => lv_fload_n F.1 F.2.1 hd hi (lv_at hl q hq) (k r hr p e s m args below meth c F H locs ls hW hS hl)
theorem v_fload {i : Nat} {x : UInt32} (hd : decode cc pc = .ok (.fload i, 2)) (q : Nat) (hq : lv[q]? = some (i, .float x)) (k : VE g cc nL own rt hh R mc ms out kc ks (pc + 2) lv (.float x :: rest) w E) : VE g cc nL own rt hh R mc ms out kc ks pc lv (rest) w E := fun r hr p e s m args below meth c F H locs ls hW hS hl => lv_fload F.1 F.2.1 hd (lv_at hl q hq) (k r hr p e s m args below meth c F H locs ls hW hS hl)
theorem v_dload_n {j : Fin 4} {i : Nat} {x : UInt64} (hd : decode cc pc = .ok (.dload_n j, 1)) (hi : (j : Nat) = i) (q : Nat) (hq : lv[q]? = some (i, .double x)) (k : VE g cc nL own rt hh R mc ms out kc ks (pc + 1) lv (.double x :: rest) w E) : VE g cc nL own rt hh R mc ms out kc ks pc lv (rest) w E := fun r hr p e s m args below meth c F H locs ls hW hS hl => lv_dload_n F.1 F.2.1 hd hi (lv_at hl q hq) (k r hr p e s m args below meth c F H locs ls hW hS hl)
theorem v_dload {i : Nat} {x : UInt64} (hd : decode cc pc = .ok (.dload i, 2)) (q : Nat) (hq : lv[q]? = some (i, .double x)) (k : VE g cc nL own rt hh R mc ms out kc ks (pc + 2) lv (.double x :: rest) w E) : VE g cc nL own rt hh R mc ms out kc ks pc lv (rest) w E := fun r hr p e s m args below meth c F H locs ls hW hS hl => lv_dload F.1 F.2.1 hd (lv_at hl q hq) (k r hr p e s m args below meth c F H locs ls hW hS hl)
theorem v_lload_n {j : Fin 4} {i : Nat} {x : Int64} (hd : decode cc pc = .ok (.lload_n j, 1)) (hi : (j : Nat) = i) (q : Nat) (hq : lv[q]? = some (i, .long x)) (k : VE g cc nL own rt hh R mc ms out kc ks (pc + 1) lv (.long x :: rest) w E) : VE g cc nL own rt hh R mc ms out kc ks pc lv (rest) w E := fun r hr p e s m args below meth c F H locs ls hW hS hl => lv_lload_n F.1 F.2.1 hd hi (lv_at hl q hq) (k r hr p e s m args below meth c F H locs ls hW hS hl)
theorem v_lload {i : Nat} {x : Int64} (hd : decode cc pc = .ok (.lload i, 2)) (q : Nat) (hq : lv[q]? = some (i, .long x)) (k : VE g cc nL own rt hh R mc ms out kc ks (pc + 2) lv (.long x :: rest) w E) : VE g cc nL own rt hh R mc ms out kc ks pc lv (rest) w E := fun r hr p e s m args below meth c F H locs ls hW hS hl => lv_lload F.1 F.2.1 hd (lv_at hl q hq) (k r hr p e s m args below meth c F H locs ls hW hS hl)
theorem v_aload_nN {j : Fin 4} {i : Nat} (hd : decode cc pc = .ok (.aload_n j, 1)) (hi : (j : Nat) = i) (q : Nat) (hq : lv[q]? = some (i, .null)) (k : VE g cc nL own rt hh R mc ms out kc ks (pc + 1) lv (.null :: rest) w E) : VE g cc nL own rt hh R mc ms out kc ks pc lv (rest) w E := fun r hr p e s m args below meth c F H locs ls hW hS hl => lv_aload_nN F.1 F.2.1 hd hi (lv_at hl q hq) (k r hr p e s m args below meth c F H locs ls hW hS hl)
theorem v_aloadN {i : Nat} (hd : decode cc pc = .ok (.aload i, 2)) (q : Nat) (hq : lv[q]? = some (i, .null)) (k : VE g cc nL own rt hh R mc ms out kc ks (pc + 2) lv (.null :: rest) w E) : VE g cc nL own rt hh R mc ms out kc ks pc lv (rest) w E := fun r hr p e s m args below meth c F H locs ls hW hS hl => lv_aloadN F.1 F.2.1 hd (lv_at hl q hq) (k r hr p e s m args below meth c F H locs ls hW hS hl)
theorem v_istore_n {j : Fin 4} {i : Nat} {x : Int32} {lv1 : List (Nat × Value)} (hd : decode cc pc = .ok (.istore_n j, 1)) (hi : (j : Nat) = i) (hn : i < nL) (hq : (i, Value.int x) :: lv.filter (fun q => !(q.1 == i) && !(q.1 + 1 == i && q.2.category == 2)) = lv1) (k : VE g cc nL own rt hh R mc ms out kc ks (pc + 1) lv1 rest w E) : VE g cc nL own rt hh R mc ms out kc ks pc lv (.int x :: rest) w E := fun r hr p e s m args below meth c F H locs ls hW hS hl => lv_istore_n F.1 F.2.1 hd hi hl hn hq (fun ls hl => k r hr p e s m args below meth c F H locs ls hW hS hl)
theorem v_istore {i : Nat} {x : Int32} {lv1 : List (Nat × Value)} (hd : decode cc pc = .ok (.istore i, 2)) (hn : i < nL) (hq : (i, Value.int x) :: lv.filter (fun q => !(q.1 == i) && !(q.1 + 1 == i && q.2.category == 2)) = lv1) (k : VE g cc nL own rt hh R mc ms out kc ks (pc + 2) lv1 rest w E) : VE g cc nL own rt hh R mc ms out kc ks pc lv (.int x :: rest) w E := fun r hr p e s m args below meth c F H locs ls hW hS hl => lv_istore F.1 F.2.1 hd hl hn hq (fun ls hl => k r hr p e s m args below meth c F H locs ls hW hS hl)
theorem v_astore_n {j : Fin 4} {i : Nat} {x : Nat} {lv1 : List (Nat × Value)} (hd : decode cc pc = .ok (.astore_n j, 1)) (hi : (j : Nat) = i) (hn : i < nL) (hq : (i, Value.ref x) :: lv.filter (fun q => !(q.1 == i) && !(q.1 + 1 == i && q.2.category == 2)) = lv1) (k : VE g cc nL own rt hh R mc ms out kc ks (pc + 1) lv1 rest w E) : VE g cc nL own rt hh R mc ms out kc ks pc lv (.ref x :: rest) w E := fun r hr p e s m args below meth c F H locs ls hW hS hl => lv_astore_n F.1 F.2.1 hd hi hl hn hq (fun ls hl => k r hr p e s m args below meth c F H locs ls hW hS hl)
theorem v_astore {i : Nat} {x : Nat} {lv1 : List (Nat × Value)} (hd : decode cc pc = .ok (.astore i, 2)) (hn : i < nL) (hq : (i, Value.ref x) :: lv.filter (fun q => !(q.1 == i) && !(q.1 + 1 == i && q.2.category == 2)) = lv1) (k : VE g cc nL own rt hh R mc ms out kc ks (pc + 2) lv1 rest w E) : VE g cc nL own rt hh R mc ms out kc ks pc lv (.ref x :: rest) w E := fun r hr p e s m args below meth c F H locs ls hW hS hl => lv_astore F.1 F.2.1 hd hl hn hq (fun ls hl => k r hr p e s m args below meth c F H locs ls hW hS hl)
theorem v_fstore_n {j : Fin 4} {i : Nat} {x : UInt32} {lv1 : List (Nat × Value)} (hd : decode cc pc = .ok (.fstore_n j, 1)) (hi : (j : Nat) = i) (hn : i < nL) (hq : (i, Value.float x) :: lv.filter (fun q => !(q.1 == i) && !(q.1 + 1 == i && q.2.category == 2)) = lv1) (k : VE g cc nL own rt hh R mc ms out kc ks (pc + 1) lv1 rest w E) : VE g cc nL own rt hh R mc ms out kc ks pc lv (.float x :: rest) w E := fun r hr p e s m args below meth c F H locs ls hW hS hl => lv_fstore_n F.1 F.2.1 hd hi hl hn hq (fun ls hl => k r hr p e s m args below meth c F H locs ls hW hS hl)
theorem v_fstore {i : Nat} {x : UInt32} {lv1 : List (Nat × Value)} (hd : decode cc pc = .ok (.fstore i, 2)) (hn : i < nL) (hq : (i, Value.float x) :: lv.filter (fun q => !(q.1 == i) && !(q.1 + 1 == i && q.2.category == 2)) = lv1) (k : VE g cc nL own rt hh R mc ms out kc ks (pc + 2) lv1 rest w E) : VE g cc nL own rt hh R mc ms out kc ks pc lv (.float x :: rest) w E := fun r hr p e s m args below meth c F H locs ls hW hS hl => lv_fstore F.1 F.2.1 hd hl hn hq (fun ls hl => k r hr p e s m args below meth c F H locs ls hW hS hl)
theorem v_dstore_n {j : Fin 4} {i : Nat} {x : UInt64} {lv1 : List (Nat × Value)} (hd : decode cc pc = .ok (.dstore_n j, 1)) (hi : (j : Nat) = i) (hn : i + 1 < nL) (hq : (i, Value.double x) :: lv.filter (fun q => !(q.1 == i) && (!(q.1 == i + 1) && !(q.1 + 1 == i && q.2.category == 2))) = lv1) (k : VE g cc nL own rt hh R mc ms out kc ks (pc + 1) lv1 rest w E) : VE g cc nL own rt hh R mc ms out kc ks pc lv (.double x :: rest) w E := fun r hr p e s m args below meth c F H locs ls hW hS hl => lv_dstore_n F.1 F.2.1 hd hi hl hn hq (fun ls hl => k r hr p e s m args below meth c F H locs ls hW hS hl)
theorem v_dstore {i : Nat} {x : UInt64} {lv1 : List (Nat × Value)} (hd : decode cc pc = .ok (.dstore i, 2)) (hn : i + 1 < nL) (hq : (i, Value.double x) :: lv.filter (fun q => !(q.1 == i) && (!(q.1 == i + 1) && !(q.1 + 1 == i && q.2.category == 2))) = lv1) (k : VE g cc nL own rt hh R mc ms out kc ks (pc + 2) lv1 rest w E) : VE g cc nL own rt hh R mc ms out kc ks pc lv (.double x :: rest) w E := fun r hr p e s m args below meth c F H locs ls hW hS hl => lv_dstore F.1 F.2.1 hd hl hn hq (fun ls hl => k r hr p e s m args below meth c F H locs ls hW hS hl)
theorem v_lstore_n {j : Fin 4} {i : Nat} {x : Int64} {lv1 : List (Nat × Value)} (hd : decode cc pc = .ok (.lstore_n j, 1)) (hi : (j : Nat) = i) (hn : i + 1 < nL) (hq : (i, Value.long x) :: lv.filter (fun q => !(q.1 == i) && (!(q.1 == i + 1) && !(q.1 + 1 == i && q.2.category == 2))) = lv1) (k : VE g cc nL own rt hh R mc ms out kc ks (pc + 1) lv1 rest w E) : VE g cc nL own rt hh R mc ms out kc ks pc lv (.long x :: rest) w E := fun r hr p e s m args below meth c F H locs ls hW hS hl => lv_lstore_n F.1 F.2.1 hd hi hl hn hq (fun ls hl => k r hr p e s m args below meth c F H locs ls hW hS hl)
theorem v_lstore {i : Nat} {x : Int64} {lv1 : List (Nat × Value)} (hd : decode cc pc = .ok (.lstore i, 2)) (hn : i + 1 < nL) (hq : (i, Value.long x) :: lv.filter (fun q => !(q.1 == i) && (!(q.1 == i + 1) && !(q.1 + 1 == i && q.2.category == 2))) = lv1) (k : VE g cc nL own rt hh R mc ms out kc ks (pc + 2) lv1 rest w E) : VE g cc nL own rt hh R mc ms out kc ks pc lv (.long x :: rest) w E := fun r hr p e s m args below meth c F H locs ls hW hS hl => lv_lstore F.1 F.2.1 hd hl hn hq (fun ls hl => k r hr p e s m args below meth c F H locs ls hW hS hl)
theorem v_astore_nN {j : Fin 4} {i : Nat} {lv1 : List (Nat × Value)} (hd : decode cc pc = .ok (.astore_n j, 1)) (hi : (j : Nat) = i) (hn : i < nL) (hq : (i, Value.null) :: lv.filter (fun q => !(q.1 == i) && !(q.1 + 1 == i && q.2.category == 2)) = lv1) (k : VE g cc nL own rt hh R mc ms out kc ks (pc + 1) lv1 rest w E) : VE g cc nL own rt hh R mc ms out kc ks pc lv (.null :: rest) w E := fun r hr p e s m args below meth c F H locs ls hW hS hl => lv_astore_nN F.1 F.2.1 hd hi hl hn hq (fun ls hl => k r hr p e s m args below meth c F H locs ls hW hS hl)
theorem v_iinc {i q : Nat} {n : Int} {x v : Int32} {lv1 : List (Nat × Value)} (hd : decode cc pc = .ok (.iinc i n, 3)) (hx : lv[q]? = some (i, .int x)) (hv : x + Int32.ofInt n = v) (hn : i < nL) (hq : (i, Value.int v) :: lv.filter (fun q => !(q.1 == i) && !(q.1 + 1 == i && q.2.category == 2)) = lv1) (k : VE g cc nL own rt hh R mc ms out kc ks (pc + 3) lv1 rest w E) : VE g cc nL own rt hh R mc ms out kc ks pc lv rest w E := fun r hr p e s m args below meth c F H locs ls hW hS hl => lv_iinc F.1 F.2.1 hd hl hx hv hn hq (fun ls hl => k r hr p e s m args below meth c F H locs ls hW hS hl)
theorem v_iadd {x y : Int32} (hd : decode cc pc = .ok (.iadd, 1)) (k : VE g cc nL own rt hh R mc ms out kc ks (pc + 1) lv (.int (x + y) :: rest) w E) : VE g cc nL own rt hh R mc ms out kc ks pc lv (.int y :: .int x :: rest) w E := fun r hr p e s m args below meth c F H locs ls hW hS hl => lv_iadd F.1 F.2.1 hd (k r hr p e s m args below meth c F H locs ls hW hS hl)
theorem v_isub {x y : Int32} (hd : decode cc pc = .ok (.isub, 1)) (k : VE g cc nL own rt hh R mc ms out kc ks (pc + 1) lv (.int (x - y) :: rest) w E) : VE g cc nL own rt hh R mc ms out kc ks pc lv (.int y :: .int x :: rest) w E := fun r hr p e s m args below meth c F H locs ls hW hS hl => lv_isub F.1 F.2.1 hd (k r hr p e s m args below meth c F H locs ls hW hS hl)
theorem v_imul {x y : Int32} (hd : decode cc pc = .ok (.imul, 1)) (k : VE g cc nL own rt hh R mc ms out kc ks (pc + 1) lv (.int (x * y) :: rest) w E) : VE g cc nL own rt hh R mc ms out kc ks pc lv (.int y :: .int x :: rest) w E := fun r hr p e s m args below meth c F H locs ls hW hS hl => lv_imul F.1 F.2.1 hd (k r hr p e s m args below meth c F H locs ls hW hS hl)
theorem v_iand {x y : Int32} (hd : decode cc pc = .ok (.iand, 1)) (k : VE g cc nL own rt hh R mc ms out kc ks (pc + 1) lv (.int (x &&& y) :: rest) w E) : VE g cc nL own rt hh R mc ms out kc ks pc lv (.int y :: .int x :: rest) w E := fun r hr p e s m args below meth c F H locs ls hW hS hl => lv_iand F.1 F.2.1 hd (k r hr p e s m args below meth c F H locs ls hW hS hl)
theorem v_ior {x y : Int32} (hd : decode cc pc = .ok (.ior, 1)) (k : VE g cc nL own rt hh R mc ms out kc ks (pc + 1) lv (.int (x ||| y) :: rest) w E) : VE g cc nL own rt hh R mc ms out kc ks pc lv (.int y :: .int x :: rest) w E := fun r hr p e s m args below meth c F H locs ls hW hS hl => lv_ior F.1 F.2.1 hd (k r hr p e s m args below meth c F H locs ls hW hS hl)
theorem v_ixor {x y : Int32} (hd : decode cc pc = .ok (.ixor, 1)) (k : VE g cc nL own rt hh R mc ms out kc ks (pc + 1) lv (.int (x ^^^ y) :: rest) w E) : VE g cc nL own rt hh R mc ms out kc ks pc lv (.int y :: .int x :: rest) w E := fun r hr p e s m args below meth c F H locs ls hW hS hl => lv_ixor F.1 F.2.1 hd (k r hr p e s m args below meth c F H locs ls hW hS hl)
theorem v_ishl {x y : Int32} (hd : decode cc pc = .ok (.ishl, 1)) (k : VE g cc nL own rt hh R mc ms out kc ks (pc + 1) lv (.int (x <<< (y &&& 31)) :: rest) w E) : VE g cc nL own rt hh R mc ms out kc ks pc lv (.int y :: .int x :: rest) w E := fun r hr p e s m args below meth c F H locs ls hW hS hl => lv_ishl F.1 F.2.1 hd (k r hr p e s m args below meth c F H locs ls hW hS hl)
theorem v_ishr {x y : Int32} (hd : decode cc pc = .ok (.ishr, 1)) (k : VE g cc nL own rt hh R mc ms out kc ks (pc + 1) lv (.int (x >>> (y &&& 31)) :: rest) w E) : VE g cc nL own rt hh R mc ms out kc ks pc lv (.int y :: .int x :: rest) w E := fun r hr p e s m args below meth c F H locs ls hW hS hl => lv_ishr F.1 F.2.1 hd (k r hr p e s m args below meth c F H locs ls hW hS hl)
theorem v_idiv {x y : Int32} (hd : decode cc pc = .ok (.idiv, 1)) (hne : ¬ y = 0) (k : VE g cc nL own rt hh R mc ms out kc ks (pc + 1) lv (.int (x / y) :: rest) w E) : VE g cc nL own rt hh R mc ms out kc ks pc lv (.int y :: .int x :: rest) w E := fun r hr p e s m args below meth c F H locs ls hW hS hl => lv_idiv F.1 F.2.1 hd hne (k r hr p e s m args below meth c F H locs ls hW hS hl)
theorem v_irem {x y : Int32} (hd : decode cc pc = .ok (.irem, 1)) (hne : ¬ y = 0) (k : VE g cc nL own rt hh R mc ms out kc ks (pc + 1) lv (.int (x - x / y * y) :: rest) w E) : VE g cc nL own rt hh R mc ms out kc ks pc lv (.int y :: .int x :: rest) w E := fun r hr p e s m args below meth c F H locs ls hW hS hl => lv_irem F.1 F.2.1 hd hne (k r hr p e s m args below meth c F H locs ls hW hS hl)
theorem v_ineg {x : Int32} (hd : decode cc pc = .ok (.ineg, 1)) (k : VE g cc nL own rt hh R mc ms out kc ks (pc + 1) lv (.int (-x) :: rest) w E) : VE g cc nL own rt hh R mc ms out kc ks pc lv (.int x :: rest) w E := fun r hr p e s m args below meth c F H locs ls hW hS hl => lv_ineg F.1 F.2.1 hd (k r hr p e s m args below meth c F H locs ls hW hS hl)
theorem v_i2l {x : Int32} (hd : decode cc pc = .ok (.i2l, 1)) (k : VE g cc nL own rt hh R mc ms out kc ks (pc + 1) lv (.long x.toInt64 :: rest) w E) : VE g cc nL own rt hh R mc ms out kc ks pc lv (.int x :: rest) w E := fun r hr p e s m args below meth c F H locs ls hW hS hl => lv_i2l F.1 F.2.1 hd rfl (k r hr p e s m args below meth c F H locs ls hW hS hl)
theorem v_i2c {x : Int32} (hd : decode cc pc = .ok (.i2c, 1)) (k : VE g cc nL own rt hh R mc ms out kc ks (pc + 1) lv (.int (x.toUInt32 % 65536).toInt32 :: rest) w E) : VE g cc nL own rt hh R mc ms out kc ks pc lv (.int x :: rest) w E := fun r hr p e s m args below meth c F H locs ls hW hS hl => lv_i2c F.1 F.2.1 hd rfl (k r hr p e s m args below meth c F H locs ls hW hS hl)
theorem v_i2f {x : Int32} (hd : decode cc pc = .ok (.i2f, 1)) (k : VE g cc nL own rt hh R mc ms out kc ks (pc + 1) lv (.float (FP.i2f x) :: rest) w E) : VE g cc nL own rt hh R mc ms out kc ks pc lv (.int x :: rest) w E := fun r hr p e s m args below meth c F H locs ls hW hS hl => lv_i2f F.1 F.2.1 hd (k r hr p e s m args below meth c F H locs ls hW hS hl)
theorem v_i2d {x : Int32} (hd : decode cc pc = .ok (.i2d, 1)) (k : VE g cc nL own rt hh R mc ms out kc ks (pc + 1) lv (.double (FP.i2d x) :: rest) w E) : VE g cc nL own rt hh R mc ms out kc ks pc lv (.int x :: rest) w E := fun r hr p e s m args below meth c F H locs ls hW hS hl => lv_i2d F.1 F.2.1 hd (k r hr p e s m args below meth c F H locs ls hW hS hl)
theorem v_fdiv {x y : UInt32} (hd : decode cc pc = .ok (.fdiv, 1)) (hne : vf_n32 (FP.fdiv x y)) (k : VE g cc nL own rt hh R mc ms out kc ks (pc + 1) lv (.float (FP.fdiv x y) :: rest) w E) : VE g cc nL own rt hh R mc ms out kc ks pc lv (.float y :: .float x :: rest) w E := fun r hr p e s m args below meth c F H locs ls hW hS hl => lv_fdiv F.1 F.2.1 hd hne (k r hr p e s m args below meth c F H locs ls hW hS hl)
theorem v_ddiv {x y : UInt64} (hd : decode cc pc = .ok (.ddiv, 1)) (hne : vf_n64 (FP.ddiv x y)) (k : VE g cc nL own rt hh R mc ms out kc ks (pc + 1) lv (.double (FP.ddiv x y) :: rest) w E) : VE g cc nL own rt hh R mc ms out kc ks pc lv (.double y :: .double x :: rest) w E := fun r hr p e s m args below meth c F H locs ls hW hS hl => lv_ddiv F.1 F.2.1 hd hne (k r hr p e s m args below meth c F H locs ls hW hS hl)
theorem v_f2d {x : UInt32} (hd : decode cc pc = .ok (.f2d, 1)) (hne : vf_n64 (FP.f2d x)) (k : VE g cc nL own rt hh R mc ms out kc ks (pc + 1) lv (.double (FP.f2d x) :: rest) w E) : VE g cc nL own rt hh R mc ms out kc ks pc lv (.float x :: rest) w E := fun r hr p e s m args below meth c F H locs ls hW hS hl => lv_f2d F.1 F.2.1 hd hne (k r hr p e s m args below meth c F H locs ls hW hS hl)
theorem v_fcmp {x y : UInt32} {op : CmpOp} (hd : decode cc pc = .ok (.fcmp op, 1)) (k : VE g cc nL own rt hh R mc ms out kc ks (pc + 1) lv (.int (Op.cmpValue (FP.fcmp x y) op) :: rest) w E) : VE g cc nL own rt hh R mc ms out kc ks pc lv (.float y :: .float x :: rest) w E := fun r hr p e s m args below meth c F H locs ls hW hS hl => lv_fcmp F.1 F.2.1 hd (k r hr p e s m args below meth c F H locs ls hW hS hl)
theorem v_dcmp {x y : UInt64} {op : CmpOp} (hd : decode cc pc = .ok (.dcmp op, 1)) (k : VE g cc nL own rt hh R mc ms out kc ks (pc + 1) lv (.int (Op.cmpValue (FP.dcmp x y) op) :: rest) w E) : VE g cc nL own rt hh R mc ms out kc ks pc lv (.double y :: .double x :: rest) w E := fun r hr p e s m args below meth c F H locs ls hW hS hl => lv_dcmp F.1 F.2.1 hd (k r hr p e s m args below meth c F H locs ls hW hS hl)
theorem v_ladd {x y : Int64} (hd : decode cc pc = .ok (.ladd, 1)) (k : VE g cc nL own rt hh R mc ms out kc ks (pc + 1) lv (.long (x + y) :: rest) w E) : VE g cc nL own rt hh R mc ms out kc ks pc lv (.long y :: .long x :: rest) w E := fun r hr p e s m args below meth c F H locs ls hW hS hl => lv_ladd F.1 F.2.1 hd (k r hr p e s m args below meth c F H locs ls hW hS hl)
theorem v_lmul {x y : Int64} (hd : decode cc pc = .ok (.lmul, 1)) (k : VE g cc nL own rt hh R mc ms out kc ks (pc + 1) lv (.long (x * y) :: rest) w E) : VE g cc nL own rt hh R mc ms out kc ks pc lv (.long y :: .long x :: rest) w E := fun r hr p e s m args below meth c F H locs ls hW hS hl => lv_lmul F.1 F.2.1 hd (k r hr p e s m args below meth c F H locs ls hW hS hl)
theorem v_lcmp {x y : Int64} (hd : decode cc pc = .ok (.lcmp, 1)) (k : VE g cc nL own rt hh R mc ms out kc ks (pc + 1) lv (.int (lg_cmp x y) :: rest) w E) : VE g cc nL own rt hh R mc ms out kc ks pc lv (.long y :: .long x :: rest) w E := fun r hr p e s m args below meth c F H locs ls hW hS hl => W.lcmp F.1 F.2.1 hd (k r hr p e s m args below meth c F H locs ls hW hS hl)
theorem v_dup {a : Value} (hd : decode cc pc = .ok (.dup, 1)) (ha : a.category = 1) (k : VE g cc nL own rt hh R mc ms out kc ks (pc + 1) lv (a :: a :: rest) w E) : VE g cc nL own rt hh R mc ms out kc ks pc lv (a :: rest) w E := fun r hr p e s m args below meth c F H locs ls hW hS hl => lv_dup F.1 F.2.1 hd ha (k r hr p e s m args below meth c F H locs ls hW hS hl)
theorem v_pop {a : Value} (hd : decode cc pc = .ok (.pop, 1)) (ha : a.category = 1) (k : VE g cc nL own rt hh R mc ms out kc ks (pc + 1) lv (rest) w E) : VE g cc nL own rt hh R mc ms out kc ks pc lv (a :: rest) w E := fun r hr p e s m args below meth c F H locs ls hW hS hl => lv_pop F.1 F.2.1 hd ha (k r hr p e s m args below meth c F H locs ls hW hS hl)
theorem v_dup2 {a b : Value} (hd : decode cc pc = .ok (.dup2, 1)) (ha : a.category = 1) (hb : b.category = 1) (k : VE g cc nL own rt hh R mc ms out kc ks (pc + 1) lv (a :: b :: a :: b :: rest) w E) : VE g cc nL own rt hh R mc ms out kc ks pc lv (a :: b :: rest) w E := fun r hr p e s m args below meth c F H locs ls hW hS hl => lv_dup2_11 F.1 F.2.1 hd ha hb (k r hr p e s m args below meth c F H locs ls hW hS hl)
theorem v_goto {off : Int} {tgt : Nat} (hd : decode cc pc = .ok (.goto off, 3)) (ht : (pc : Int) + off = (tgt : Int)) (k : VE g cc nL own rt hh R mc ms out kc ks tgt lv rest w E) : VE g cc nL own rt hh R mc ms out kc ks pc lv rest w E := fun r hr p e s m args below meth c F H locs ls hW hS hl => lv_goto F.1 F.2.1 hd ht (k r hr p e s m args below meth c F H locs ls hW hS hl)
theorem v_if_eq {x : Int32} {off : Int} {tgt : Nat} (hd : decode cc pc = .ok (.ifCond .eq off, 3)) (ht : (pc : Int) + off = (tgt : Int)) (kt : VE g cc nL own rt hh R mc ms out kc ks tgt lv rest w E1) (kf : VE g cc nL own rt hh R mc ms out kc ks (pc + 3) lv rest w E2) : VE g cc nL own rt hh R mc ms out kc ks pc lv (.int x :: rest) w (if x = 0 then E1 else E2) := fun r hr p e s m args below meth c F H locs ls hW hS hl => lv_if_eq F.1 F.2.1 hd ht (fun h => kt r (by rw [if_pos h] at hr; exact hr) p e s m args below meth c F H locs ls hW hS hl) (fun h => kf r (by rw [if_neg h] at hr; exact hr) p e s m args below meth c F H locs ls hW hS hl)
theorem v_if_eqT {x : Int32} {off : Int} {tgt : Nat} (hd : decode cc pc = .ok (.ifCond .eq off, 3)) (ht : (pc : Int) + off = (tgt : Int)) (hc : x = 0) (kt : VE g cc nL own rt hh R mc ms out kc ks tgt lv rest w E) : VE g cc nL own rt hh R mc ms out kc ks pc lv (.int x :: rest) w E := fun r hr p e s m args below meth c F H locs ls hW hS hl => lv_if_eq F.1 F.2.1 hd ht (fun _ => kt r hr p e s m args below meth c F H locs ls hW hS hl) (fun h => absurd hc h)
theorem v_if_eqF {x : Int32} {off : Int} {tgt : Nat} (hd : decode cc pc = .ok (.ifCond .eq off, 3)) (ht : (pc : Int) + off = (tgt : Int)) (hc : ¬ (x = 0)) (kf : VE g cc nL own rt hh R mc ms out kc ks (pc + 3) lv rest w E) : VE g cc nL own rt hh R mc ms out kc ks pc lv (.int x :: rest) w E := fun r hr p e s m args below meth c F H locs ls hW hS hl => lv_if_eq F.1 F.2.1 hd ht (fun h => absurd h hc) (fun _ => kf r hr p e s m args below meth c F H locs ls hW hS hl)
theorem v_icmp_eq {x y : Int32} {off : Int} {tgt : Nat} (hd : decode cc pc = .ok (.if_icmp .eq off, 3)) (ht : (pc : Int) + off = (tgt : Int)) (kt : VE g cc nL own rt hh R mc ms out kc ks tgt lv rest w E1) (kf : VE g cc nL own rt hh R mc ms out kc ks (pc + 3) lv rest w E2) : VE g cc nL own rt hh R mc ms out kc ks pc lv (.int y :: .int x :: rest) w (if x = y then E1 else E2) := fun r hr p e s m args below meth c F H locs ls hW hS hl => lv_icmp_eq F.1 F.2.1 hd ht (fun h => kt r (by rw [if_pos h] at hr; exact hr) p e s m args below meth c F H locs ls hW hS hl) (fun h => kf r (by rw [if_neg h] at hr; exact hr) p e s m args below meth c F H locs ls hW hS hl)
theorem v_icmp_eqT {x y : Int32} {off : Int} {tgt : Nat} (hd : decode cc pc = .ok (.if_icmp .eq off, 3)) (ht : (pc : Int) + off = (tgt : Int)) (hc : x = y) (kt : VE g cc nL own rt hh R mc ms out kc ks tgt lv rest w E) : VE g cc nL own rt hh R mc ms out kc ks pc lv (.int y :: .int x :: rest) w E := fun r hr p e s m args below meth c F H locs ls hW hS hl => lv_icmp_eq F.1 F.2.1 hd ht (fun _ => kt r hr p e s m args below meth c F H locs ls hW hS hl) (fun h => absurd hc h)
theorem v_icmp_eqF {x y : Int32} {off : Int} {tgt : Nat} (hd : decode cc pc = .ok (.if_icmp .eq off, 3)) (ht : (pc : Int) + off = (tgt : Int)) (hc : ¬ (x = y)) (kf : VE g cc nL own rt hh R mc ms out kc ks (pc + 3) lv rest w E) : VE g cc nL own rt hh R mc ms out kc ks pc lv (.int y :: .int x :: rest) w E := fun r hr p e s m args below meth c F H locs ls hW hS hl => lv_icmp_eq F.1 F.2.1 hd ht (fun h => absurd h hc) (fun _ => kf r hr p e s m args below meth c F H locs ls hW hS hl)
theorem v_if_ne {x : Int32} {off : Int} {tgt : Nat} (hd : decode cc pc = .ok (.ifCond .ne off, 3)) (ht : (pc : Int) + off = (tgt : Int)) (kt : VE g cc nL own rt hh R mc ms out kc ks tgt lv rest w E1) (kf : VE g cc nL own rt hh R mc ms out kc ks (pc + 3) lv rest w E2) : VE g cc nL own rt hh R mc ms out kc ks pc lv (.int x :: rest) w (if x = 0 then E2 else E1) := fun r hr p e s m args below meth c F H locs ls hW hS hl => lv_if_ne F.1 F.2.1 hd ht (fun h => kt r (by rw [if_neg h] at hr; exact hr) p e s m args below meth c F H locs ls hW hS hl) (fun h => kf r (by rw [if_pos h] at hr; exact hr) p e s m args below meth c F H locs ls hW hS hl)
theorem v_if_neT {x : Int32} {off : Int} {tgt : Nat} (hd : decode cc pc = .ok (.ifCond .ne off, 3)) (ht : (pc : Int) + off = (tgt : Int)) (hc : ¬ (x = 0)) (kt : VE g cc nL own rt hh R mc ms out kc ks tgt lv rest w E) : VE g cc nL own rt hh R mc ms out kc ks pc lv (.int x :: rest) w E := fun r hr p e s m args below meth c F H locs ls hW hS hl => lv_if_ne F.1 F.2.1 hd ht (fun _ => kt r hr p e s m args below meth c F H locs ls hW hS hl) (fun h => absurd h hc)
theorem v_if_neF {x : Int32} {off : Int} {tgt : Nat} (hd : decode cc pc = .ok (.ifCond .ne off, 3)) (ht : (pc : Int) + off = (tgt : Int)) (hc : x = 0) (kf : VE g cc nL own rt hh R mc ms out kc ks (pc + 3) lv rest w E) : VE g cc nL own rt hh R mc ms out kc ks pc lv (.int x :: rest) w E := fun r hr p e s m args below meth c F H locs ls hW hS hl => lv_if_ne F.1 F.2.1 hd ht (fun h => absurd hc h) (fun _ => kf r hr p e s m args below meth c F H locs ls hW hS hl)
theorem v_icmp_ne {x y : Int32} {off : Int} {tgt : Nat} (hd : decode cc pc = .ok (.if_icmp .ne off, 3)) (ht : (pc : Int) + off = (tgt : Int)) (kt : VE g cc nL own rt hh R mc ms out kc ks tgt lv rest w E1) (kf : VE g cc nL own rt hh R mc ms out kc ks (pc + 3) lv rest w E2) : VE g cc nL own rt hh R mc ms out kc ks pc lv (.int y :: .int x :: rest) w (if x = y then E2 else E1) := fun r hr p e s m args below meth c F H locs ls hW hS hl => lv_icmp_ne F.1 F.2.1 hd ht (fun h => kt r (by rw [if_neg h] at hr; exact hr) p e s m args below meth c F H locs ls hW hS hl) (fun h => kf r (by rw [if_pos h] at hr; exact hr) p e s m args below meth c F H locs ls hW hS hl)
theorem v_icmp_neT {x y : Int32} {off : Int} {tgt : Nat} (hd : decode cc pc = .ok (.if_icmp .ne off, 3)) (ht : (pc : Int) + off = (tgt : Int)) (hc : ¬ (x = y)) (kt : VE g cc nL own rt hh R mc ms out kc ks tgt lv rest w E) : VE g cc nL own rt hh R mc ms out kc ks pc lv (.int y :: .int x :: rest) w E := fun r hr p e s m args below meth c F H locs ls hW hS hl => lv_icmp_ne F.1 F.2.1 hd ht (fun _ => kt r hr p e s m args below meth c F H locs ls hW hS hl) (fun h => absurd h hc)
theorem v_icmp_neF {x y : Int32} {off : Int} {tgt : Nat} (hd : decode cc pc = .ok (.if_icmp .ne off, 3)) (ht : (pc : Int) + off = (tgt : Int)) (hc : x = y) (kf : VE g cc nL own rt hh R mc ms out kc ks (pc + 3) lv rest w E) : VE g cc nL own rt hh R mc ms out kc ks pc lv (.int y :: .int x :: rest) w E := fun r hr p e s m args below meth c F H locs ls hW hS hl => lv_icmp_ne F.1 F.2.1 hd ht (fun h => absurd hc h) (fun _ => kf r hr p e s m args below meth c F H locs ls hW hS hl)
theorem v_if_lt {x : Int32} {off : Int} {tgt : Nat} (hd : decode cc pc = .ok (.ifCond .lt off, 3)) (ht : (pc : Int) + off = (tgt : Int)) (kt : VE g cc nL own rt hh R mc ms out kc ks tgt lv rest w E1) (kf : VE g cc nL own rt hh R mc ms out kc ks (pc + 3) lv rest w E2) : VE g cc nL own rt hh R mc ms out kc ks pc lv (.int x :: rest) w (if x < 0 then E1 else E2) := fun r hr p e s m args below meth c F H locs ls hW hS hl => lv_if_lt F.1 F.2.1 hd ht (fun h => kt r (by rw [if_pos h] at hr; exact hr) p e s m args below meth c F H locs ls hW hS hl) (fun h => kf r (by rw [if_neg h] at hr; exact hr) p e s m args below meth c F H locs ls hW hS hl)
theorem v_if_ltT {x : Int32} {off : Int} {tgt : Nat} (hd : decode cc pc = .ok (.ifCond .lt off, 3)) (ht : (pc : Int) + off = (tgt : Int)) (hc : x < 0) (kt : VE g cc nL own rt hh R mc ms out kc ks tgt lv rest w E) : VE g cc nL own rt hh R mc ms out kc ks pc lv (.int x :: rest) w E := fun r hr p e s m args below meth c F H locs ls hW hS hl => lv_if_lt F.1 F.2.1 hd ht (fun _ => kt r hr p e s m args below meth c F H locs ls hW hS hl) (fun h => absurd hc h)
theorem v_if_ltF {x : Int32} {off : Int} {tgt : Nat} (hd : decode cc pc = .ok (.ifCond .lt off, 3)) (ht : (pc : Int) + off = (tgt : Int)) (hc : ¬ (x < 0)) (kf : VE g cc nL own rt hh R mc ms out kc ks (pc + 3) lv rest w E) : VE g cc nL own rt hh R mc ms out kc ks pc lv (.int x :: rest) w E := fun r hr p e s m args below meth c F H locs ls hW hS hl => lv_if_lt F.1 F.2.1 hd ht (fun h => absurd h hc) (fun _ => kf r hr p e s m args below meth c F H locs ls hW hS hl)
theorem v_icmp_lt {x y : Int32} {off : Int} {tgt : Nat} (hd : decode cc pc = .ok (.if_icmp .lt off, 3)) (ht : (pc : Int) + off = (tgt : Int)) (kt : VE g cc nL own rt hh R mc ms out kc ks tgt lv rest w E1) (kf : VE g cc nL own rt hh R mc ms out kc ks (pc + 3) lv rest w E2) : VE g cc nL own rt hh R mc ms out kc ks pc lv (.int y :: .int x :: rest) w (if x < y then E1 else E2) := fun r hr p e s m args below meth c F H locs ls hW hS hl => lv_icmp_lt F.1 F.2.1 hd ht (fun h => kt r (by rw [if_pos h] at hr; exact hr) p e s m args below meth c F H locs ls hW hS hl) (fun h => kf r (by rw [if_neg h] at hr; exact hr) p e s m args below meth c F H locs ls hW hS hl)
theorem v_icmp_ltT {x y : Int32} {off : Int} {tgt : Nat} (hd : decode cc pc = .ok (.if_icmp .lt off, 3)) (ht : (pc : Int) + off = (tgt : Int)) (hc : x < y) (kt : VE g cc nL own rt hh R mc ms out kc ks tgt lv rest w E) : VE g cc nL own rt hh R mc ms out kc ks pc lv (.int y :: .int x :: rest) w E := fun r hr p e s m args below meth c F H locs ls hW hS hl => lv_icmp_lt F.1 F.2.1 hd ht (fun _ => kt r hr p e s m args below meth c F H locs ls hW hS hl) (fun h => absurd hc h)
theorem v_icmp_ltF {x y : Int32} {off : Int} {tgt : Nat} (hd : decode cc pc = .ok (.if_icmp .lt off, 3)) (ht : (pc : Int) + off = (tgt : Int)) (hc : ¬ (x < y)) (kf : VE g cc nL own rt hh R mc ms out kc ks (pc + 3) lv rest w E) : VE g cc nL own rt hh R mc ms out kc ks pc lv (.int y :: .int x :: rest) w E := fun r hr p e s m args below meth c F H locs ls hW hS hl => lv_icmp_lt F.1 F.2.1 hd ht (fun h => absurd h hc) (fun _ => kf r hr p e s m args below meth c F H locs ls hW hS hl)
theorem v_if_ge {x : Int32} {off : Int} {tgt : Nat} (hd : decode cc pc = .ok (.ifCond .ge off, 3)) (ht : (pc : Int) + off = (tgt : Int)) (kt : VE g cc nL own rt hh R mc ms out kc ks tgt lv rest w E1) (kf : VE g cc nL own rt hh R mc ms out kc ks (pc + 3) lv rest w E2) : VE g cc nL own rt hh R mc ms out kc ks pc lv (.int x :: rest) w (if 0 ≤ x then E1 else E2) := fun r hr p e s m args below meth c F H locs ls hW hS hl => lv_if_ge F.1 F.2.1 hd ht (fun h => kt r (by rw [if_pos h] at hr; exact hr) p e s m args below meth c F H locs ls hW hS hl) (fun h => kf r (by rw [if_neg h] at hr; exact hr) p e s m args below meth c F H locs ls hW hS hl)
theorem v_if_geT {x : Int32} {off : Int} {tgt : Nat} (hd : decode cc pc = .ok (.ifCond .ge off, 3)) (ht : (pc : Int) + off = (tgt : Int)) (hc : 0 ≤ x) (kt : VE g cc nL own rt hh R mc ms out kc ks tgt lv rest w E) : VE g cc nL own rt hh R mc ms out kc ks pc lv (.int x :: rest) w E := fun r hr p e s m args below meth c F H locs ls hW hS hl => lv_if_ge F.1 F.2.1 hd ht (fun _ => kt r hr p e s m args below meth c F H locs ls hW hS hl) (fun h => absurd hc h)
theorem v_if_geF {x : Int32} {off : Int} {tgt : Nat} (hd : decode cc pc = .ok (.ifCond .ge off, 3)) (ht : (pc : Int) + off = (tgt : Int)) (hc : ¬ (0 ≤ x)) (kf : VE g cc nL own rt hh R mc ms out kc ks (pc + 3) lv rest w E) : VE g cc nL own rt hh R mc ms out kc ks pc lv (.int x :: rest) w E := fun r hr p e s m args below meth c F H locs ls hW hS hl => lv_if_ge F.1 F.2.1 hd ht (fun h => absurd h hc) (fun _ => kf r hr p e s m args below meth c F H locs ls hW hS hl)
theorem v_icmp_ge {x y : Int32} {off : Int} {tgt : Nat} (hd : decode cc pc = .ok (.if_icmp .ge off, 3)) (ht : (pc : Int) + off = (tgt : Int)) (kt : VE g cc nL own rt hh R mc ms out kc ks tgt lv rest w E1) (kf : VE g cc nL own rt hh R mc ms out kc ks (pc + 3) lv rest w E2) : VE g cc nL own rt hh R mc ms out kc ks pc lv (.int y :: .int x :: rest) w (if y ≤ x then E1 else E2) := fun r hr p e s m args below meth c F H locs ls hW hS hl => lv_icmp_ge F.1 F.2.1 hd ht (fun h => kt r (by rw [if_pos h] at hr; exact hr) p e s m args below meth c F H locs ls hW hS hl) (fun h => kf r (by rw [if_neg h] at hr; exact hr) p e s m args below meth c F H locs ls hW hS hl)
theorem v_icmp_geT {x y : Int32} {off : Int} {tgt : Nat} (hd : decode cc pc = .ok (.if_icmp .ge off, 3)) (ht : (pc : Int) + off = (tgt : Int)) (hc : y ≤ x) (kt : VE g cc nL own rt hh R mc ms out kc ks tgt lv rest w E) : VE g cc nL own rt hh R mc ms out kc ks pc lv (.int y :: .int x :: rest) w E := fun r hr p e s m args below meth c F H locs ls hW hS hl => lv_icmp_ge F.1 F.2.1 hd ht (fun _ => kt r hr p e s m args below meth c F H locs ls hW hS hl) (fun h => absurd hc h)
theorem v_icmp_geF {x y : Int32} {off : Int} {tgt : Nat} (hd : decode cc pc = .ok (.if_icmp .ge off, 3)) (ht : (pc : Int) + off = (tgt : Int)) (hc : ¬ (y ≤ x)) (kf : VE g cc nL own rt hh R mc ms out kc ks (pc + 3) lv rest w E) : VE g cc nL own rt hh R mc ms out kc ks pc lv (.int y :: .int x :: rest) w E := fun r hr p e s m args below meth c F H locs ls hW hS hl => lv_icmp_ge F.1 F.2.1 hd ht (fun h => absurd h hc) (fun _ => kf r hr p e s m args below meth c F H locs ls hW hS hl)
theorem v_if_gt {x : Int32} {off : Int} {tgt : Nat} (hd : decode cc pc = .ok (.ifCond .gt off, 3)) (ht : (pc : Int) + off = (tgt : Int)) (kt : VE g cc nL own rt hh R mc ms out kc ks tgt lv rest w E1) (kf : VE g cc nL own rt hh R mc ms out kc ks (pc + 3) lv rest w E2) : VE g cc nL own rt hh R mc ms out kc ks pc lv (.int x :: rest) w (if 0 < x then E1 else E2) := fun r hr p e s m args below meth c F H locs ls hW hS hl => lv_if_gt F.1 F.2.1 hd ht (fun h => kt r (by rw [if_pos h] at hr; exact hr) p e s m args below meth c F H locs ls hW hS hl) (fun h => kf r (by rw [if_neg h] at hr; exact hr) p e s m args below meth c F H locs ls hW hS hl)
theorem v_if_gtT {x : Int32} {off : Int} {tgt : Nat} (hd : decode cc pc = .ok (.ifCond .gt off, 3)) (ht : (pc : Int) + off = (tgt : Int)) (hc : 0 < x) (kt : VE g cc nL own rt hh R mc ms out kc ks tgt lv rest w E) : VE g cc nL own rt hh R mc ms out kc ks pc lv (.int x :: rest) w E := fun r hr p e s m args below meth c F H locs ls hW hS hl => lv_if_gt F.1 F.2.1 hd ht (fun _ => kt r hr p e s m args below meth c F H locs ls hW hS hl) (fun h => absurd hc h)
theorem v_if_gtF {x : Int32} {off : Int} {tgt : Nat} (hd : decode cc pc = .ok (.ifCond .gt off, 3)) (ht : (pc : Int) + off = (tgt : Int)) (hc : ¬ (0 < x)) (kf : VE g cc nL own rt hh R mc ms out kc ks (pc + 3) lv rest w E) : VE g cc nL own rt hh R mc ms out kc ks pc lv (.int x :: rest) w E := fun r hr p e s m args below meth c F H locs ls hW hS hl => lv_if_gt F.1 F.2.1 hd ht (fun h => absurd h hc) (fun _ => kf r hr p e s m args below meth c F H locs ls hW hS hl)
theorem v_icmp_gt {x y : Int32} {off : Int} {tgt : Nat} (hd : decode cc pc = .ok (.if_icmp .gt off, 3)) (ht : (pc : Int) + off = (tgt : Int)) (kt : VE g cc nL own rt hh R mc ms out kc ks tgt lv rest w E1) (kf : VE g cc nL own rt hh R mc ms out kc ks (pc + 3) lv rest w E2) : VE g cc nL own rt hh R mc ms out kc ks pc lv (.int y :: .int x :: rest) w (if y < x then E1 else E2) := fun r hr p e s m args below meth c F H locs ls hW hS hl => lv_icmp_gt F.1 F.2.1 hd ht (fun h => kt r (by rw [if_pos h] at hr; exact hr) p e s m args below meth c F H locs ls hW hS hl) (fun h => kf r (by rw [if_neg h] at hr; exact hr) p e s m args below meth c F H locs ls hW hS hl)
theorem v_icmp_gtT {x y : Int32} {off : Int} {tgt : Nat} (hd : decode cc pc = .ok (.if_icmp .gt off, 3)) (ht : (pc : Int) + off = (tgt : Int)) (hc : y < x) (kt : VE g cc nL own rt hh R mc ms out kc ks tgt lv rest w E) : VE g cc nL own rt hh R mc ms out kc ks pc lv (.int y :: .int x :: rest) w E := fun r hr p e s m args below meth c F H locs ls hW hS hl => lv_icmp_gt F.1 F.2.1 hd ht (fun _ => kt r hr p e s m args below meth c F H locs ls hW hS hl) (fun h => absurd hc h)
theorem v_icmp_gtF {x y : Int32} {off : Int} {tgt : Nat} (hd : decode cc pc = .ok (.if_icmp .gt off, 3)) (ht : (pc : Int) + off = (tgt : Int)) (hc : ¬ (y < x)) (kf : VE g cc nL own rt hh R mc ms out kc ks (pc + 3) lv rest w E) : VE g cc nL own rt hh R mc ms out kc ks pc lv (.int y :: .int x :: rest) w E := fun r hr p e s m args below meth c F H locs ls hW hS hl => lv_icmp_gt F.1 F.2.1 hd ht (fun h => absurd h hc) (fun _ => kf r hr p e s m args below meth c F H locs ls hW hS hl)
theorem v_if_le {x : Int32} {off : Int} {tgt : Nat} (hd : decode cc pc = .ok (.ifCond .le off, 3)) (ht : (pc : Int) + off = (tgt : Int)) (kt : VE g cc nL own rt hh R mc ms out kc ks tgt lv rest w E1) (kf : VE g cc nL own rt hh R mc ms out kc ks (pc + 3) lv rest w E2) : VE g cc nL own rt hh R mc ms out kc ks pc lv (.int x :: rest) w (if x ≤ 0 then E1 else E2) := fun r hr p e s m args below meth c F H locs ls hW hS hl => lv_if_le F.1 F.2.1 hd ht (fun h => kt r (by rw [if_pos h] at hr; exact hr) p e s m args below meth c F H locs ls hW hS hl) (fun h => kf r (by rw [if_neg h] at hr; exact hr) p e s m args below meth c F H locs ls hW hS hl)
theorem v_if_leT {x : Int32} {off : Int} {tgt : Nat} (hd : decode cc pc = .ok (.ifCond .le off, 3)) (ht : (pc : Int) + off = (tgt : Int)) (hc : x ≤ 0) (kt : VE g cc nL own rt hh R mc ms out kc ks tgt lv rest w E) : VE g cc nL own rt hh R mc ms out kc ks pc lv (.int x :: rest) w E := fun r hr p e s m args below meth c F H locs ls hW hS hl => lv_if_le F.1 F.2.1 hd ht (fun _ => kt r hr p e s m args below meth c F H locs ls hW hS hl) (fun h => absurd hc h)
theorem v_if_leF {x : Int32} {off : Int} {tgt : Nat} (hd : decode cc pc = .ok (.ifCond .le off, 3)) (ht : (pc : Int) + off = (tgt : Int)) (hc : ¬ (x ≤ 0)) (kf : VE g cc nL own rt hh R mc ms out kc ks (pc + 3) lv rest w E) : VE g cc nL own rt hh R mc ms out kc ks pc lv (.int x :: rest) w E := fun r hr p e s m args below meth c F H locs ls hW hS hl => lv_if_le F.1 F.2.1 hd ht (fun h => absurd h hc) (fun _ => kf r hr p e s m args below meth c F H locs ls hW hS hl)
theorem v_icmp_le {x y : Int32} {off : Int} {tgt : Nat} (hd : decode cc pc = .ok (.if_icmp .le off, 3)) (ht : (pc : Int) + off = (tgt : Int)) (kt : VE g cc nL own rt hh R mc ms out kc ks tgt lv rest w E1) (kf : VE g cc nL own rt hh R mc ms out kc ks (pc + 3) lv rest w E2) : VE g cc nL own rt hh R mc ms out kc ks pc lv (.int y :: .int x :: rest) w (if x ≤ y then E1 else E2) := fun r hr p e s m args below meth c F H locs ls hW hS hl => lv_icmp_le F.1 F.2.1 hd ht (fun h => kt r (by rw [if_pos h] at hr; exact hr) p e s m args below meth c F H locs ls hW hS hl) (fun h => kf r (by rw [if_neg h] at hr; exact hr) p e s m args below meth c F H locs ls hW hS hl)
theorem v_icmp_leT {x y : Int32} {off : Int} {tgt : Nat} (hd : decode cc pc = .ok (.if_icmp .le off, 3)) (ht : (pc : Int) + off = (tgt : Int)) (hc : x ≤ y) (kt : VE g cc nL own rt hh R mc ms out kc ks tgt lv rest w E) : VE g cc nL own rt hh R mc ms out kc ks pc lv (.int y :: .int x :: rest) w E := fun r hr p e s m args below meth c F H locs ls hW hS hl => lv_icmp_le F.1 F.2.1 hd ht (fun _ => kt r hr p e s m args below meth c F H locs ls hW hS hl) (fun h => absurd hc h)
theorem v_icmp_leF {x y : Int32} {off : Int} {tgt : Nat} (hd : decode cc pc = .ok (.if_icmp .le off, 3)) (ht : (pc : Int) + off = (tgt : Int)) (hc : ¬ (x ≤ y)) (kf : VE g cc nL own rt hh R mc ms out kc ks (pc + 3) lv rest w E) : VE g cc nL own rt hh R mc ms out kc ks pc lv (.int y :: .int x :: rest) w E := fun r hr p e s m args below meth c F H locs ls hW hS hl => lv_icmp_le F.1 F.2.1 hd ht (fun h => absurd h hc) (fun _ => kf r hr p e s m args below meth c F H locs ls hW hS hl)
theorem v_ifnull {x : Nat} {off : Int} (hd : decode cc pc = .ok (.ifnull off, 3)) (k : VE g cc nL own rt hh R mc ms out kc ks (pc + 3) lv rest w E) : VE g cc nL own rt hh R mc ms out kc ks pc lv (.ref x :: rest) w E := fun r hr p e s m args below meth c F H locs ls hW hS hl => lv_ifnull F.1 F.2.1 hd (k r hr p e s m args below meth c F H locs ls hW hS hl)
theorem v_ifnullN {off : Int} {tgt : Nat} (hd : decode cc pc = .ok (.ifnull off, 3)) (ht : (pc : Int) + off = (tgt : Int)) (k : VE g cc nL own rt hh R mc ms out kc ks tgt lv rest w E) : VE g cc nL own rt hh R mc ms out kc ks pc lv (.null :: rest) w E := fun r hr p e s m args below meth c F H locs ls hW hS hl => lv_ifnullN F.1 F.2.1 hd ht (k r hr p e s m args below meth c F H locs ls hW hS hl)
/-! fields -/
/-- a field's link: its class's number and place, with all that the tables say -/
def FL (own : String) (index ci j : Nat) (d : String) (fin : Bool) : Prop := ∃ (C : String) (T : u_T) (N : Nat) (ty : Nat → FieldType), vwCl[ci]? = some (C, T, N) ∧ (∀ w ∈ u_ws C T N, w ∈ GW) ∧ j < N ∧ Cond.fieldLink own index (T j).1 (T j).2.1 (T j).2.2.1 ∈ GW ∧ (∀ k, k < N → parseFieldDescriptor (T k).2.2.1 = some (ty k)) ∧ (∀ a, a < N → ∀ b, b < N → a ≠ b → (T a).2.1 ≠ (T b).2.1) ∧ (T j).2.2.1 = d ∧ (T j).2.2.2 = fin
theorem v_getI {index ci j k : Nat} {d : String} {fin : Bool} {fs : List (Option Nat)} (hL : FL own index ci j d fin) (hT : TT[k]? = some (0, ci, fs)) (hf : fs[j]? = some none) (hd : decode cc pc = .ok (.getfield index, 3))
    (kk : VE g cc nL own rt hh R mc ms out kc ks (pc + 3) lv (.int (w.1 k j) :: rest) w E) : VE g cc nL own rt hh R mc ms out kc ks pc lv (.ref (g.2.1 + k) :: rest) w E := by
  intro r hr p e s m args below meth c F H locs ls hW hS hl
  obtain ⟨C, T, N, ty, h1, h2, h3, h4, -⟩ := hL
  refine va_get (D := g.2.2.2.1) (cl := vwCl) (tys := tysL g) (ci := ci) (v := .int (w.1 k j)) F.1 F.2.1 F.2.2.2.2.1 h2 F.2.2.2.1 F.2.2.2.2.2.1 (hW.one hT) 0 rfl h1 j h3 (F.2.2.2.2.1 _ h4) (fun _ h9 => h9) ?_ hd (kk r hr p e s m args below meth c F H locs ls hW hS hl)
  show (layF g.2.1 (w.1 k) 0 fs)[j]? = _
  rw [layF_get, hf]
  simp
theorem v_getR {index ci j k t : Nat} {d : String} {fin : Bool} {fs : List (Option Nat)} (hL : FL own index ci j d fin) (hT : TT[k]? = some (0, ci, fs)) (hf : fs[j]? = some (some t)) (hd : decode cc pc = .ok (.getfield index, 3))
    (kk : VE g cc nL own rt hh R mc ms out kc ks (pc + 3) lv (.ref (g.2.1 + t) :: rest) w E) : VE g cc nL own rt hh R mc ms out kc ks pc lv (.ref (g.2.1 + k) :: rest) w E := by
  intro r hr p e s m args below meth c F H locs ls hW hS hl
  obtain ⟨C, T, N, ty, h1, h2, h3, h4, -⟩ := hL
  refine va_get (D := g.2.2.2.1) (cl := vwCl) (tys := tysL g) (ci := ci) (v := .ref (g.2.1 + t)) F.1 F.2.1 F.2.2.2.2.1 h2 F.2.2.2.1 F.2.2.2.2.2.1 (hW.one hT) 0 rfl h1 j h3 (F.2.2.2.2.1 _ h4) (fun _ h9 => h9) ?_ hd (kk r hr p e s m args below meth c F H locs ls hW hS hl)
  show (layF g.2.1 (w.1 k) 0 fs)[j]? = _
  rw [layF_get, hf]
  simp
theorem v_putI {index ci j k : Nat} {d : String} {ty0 : FieldType} {v : Int32} {fs : List (Option Nat)} (hL : FL own index ci j d false) (hT : TT[k]? = some (0, ci, fs)) (hf : fs[j]? = some none) (hty : parseFieldDescriptor d = some ty0) (hn : narrow ty0 (.int v) = .int v) (hfit : fits ty0 (.int v) = true) (hd : decode cc pc = .ok (.putfield index, 3))
    (kk : VE g cc nL own rt hh R mc ms out kc ks (pc + 3) lv rest (wset w k j v) E) : VE g cc nL own rt hh R mc ms out kc ks pc lv (.int v :: .ref (g.2.1 + k) :: rest) w E := by
  intro r hr p e s m args below meth c F H locs ls hW hS hl
  obtain ⟨C, T, N, ty, h1, h2, h3, h4, h5, h6, h7, h8⟩ := hL
  have hts := F.2.2.2.2.1
  have hK := F.2.2.2.2.2.1
  have hap := va_apart (own := own) hts h2 ty h5 h6 hK h1
  obtain ⟨r0, q0, cell, q1, q2, q3, q4⟩ := hW k _ hT
  have hr0 : r0 = (C, T, N) := Option.some.inj (q0.symm.trans h1)
  subst hr0
  obtain ⟨hSi, hfc, kC, hkC, hkind⟩ := hK.1 ci _ h1
  obtain ⟨cf, kf, fi, f, hi, hsl⟩ := hSi j h3
  have hlay := hts _ (h2 _ (u_in_lay h3))
  unfold u_lay at hlay
  rw [if_neg (by rw [h8]; decide)] at hlay
  have hst := (u_facts hfc hkC (u_lays hts h2 h3) hi).1
  have hS6 := u_store hfc hkC hkind hlay hi (by rw [h7]; exact hty) hn hfit
  refine W.putK F.1 F.2.1 (f := f) ⟨F.2.2.2.1, hts _ h4, ⟨_, _, _, hi⟩, hst⟩ (by rw [q2]; exact hS6) q1 q3 (by rw [hsl]; exact k2_hasslot (q4 j h3)) rfl rfl hd fun H' e1 e2 e3 => ?_
  rw [hsl] at e1 ⊢
  have hl2 : j < (layF g.2.1 (w.1 k) 0 fs).length := by rw [layF_len]; exact (List.getElem?_eq_some_iff.mp hf).1
  refine kk r hr p e s m args below meth c F H' _ ls ?_ (hS.put hT e2 e3) hl
  refine RW.put hW hT ?_ e3 (fun k' hk' => wset_ne hk') (Or.inl rfl)
  refine ⟨_, h1, ?_⟩
  have ev : layF g.2.1 ((wset w k j v).1 k) 0 fs = (layF g.2.1 (w.1 k) 0 fs).set j (.int v) := by
    rw [layF_set _ _ _ _ _ hf, wset_eq]
  rw [ev]
  exact t_OB.to (V := updV (vp_V (layF g.2.1 (w.1 k) 0 fs)) j (.int v)) ⟨_, e1, q2, q3, t_set q4 hap h3 _⟩ (fun i _ => vp_updV_set hl2 _ i)
/-! arrays -/
theorem v_ald_aux {kd : Nat} {n k : Nat} {fs : List (Option Nat)} {H : Heap} {s : State} {i : Int32} {ty : FieldType} (hW : RW g w H) (hK : va_K g.2.2.2.1 vwCl (tysL g) s) (hT : TT[k]? = some (kd, n, fs)) (hkd : kd = 1 ∨ kd = 2 ∨ kd = 3) (hty : (tysL g)[kd - 1]? = some (g.2.2.1 (kd - 1), ty)) :
    H[g.2.1 + k]? = some (vp_cell (g.2.2.1 (kd - 1)) (n, .inl (w.1 k))) ∧ s.isArrayOf (vp_cell (g.2.2.1 (kd - 1)) (n, .inl (w.1 k))) ty := by
  have h := hW k _ hT
  have h2 := (hK.2 _ _ hty).1 n (fun j => .int (w.1 k j))
  refine ⟨?_, h2⟩
  rcases hkd with rfl | rfl | rfl <;> exact h
theorem v_iald {n k : Nat} {fs : List (Option Nat)} {i : Int32} (hT : TT[k]? = some (1, n, fs)) (hin : vp_in i n) (hd : decode cc pc = .ok (.iaload, 1))
    (kk : VE g cc nL own rt hh R mc ms out kc ks (pc + 1) lv (.int (w.1 k i.toNatClampNeg) :: rest) w E) : VE g cc nL own rt hh R mc ms out kc ks pc lv (.int i :: .ref (g.2.1 + k) :: rest) w E := by
  intro r hr p e s m args below meth c F H locs ls hW hS hl
  exact va_iald (D := g.2.2.2.1) (cl := vwCl) (tys := tysL g) F.1 F.2.1 F.2.2.2.2.2.1 (hW.one hT) 0 0 rfl rfl hin hd (kk r hr p e s m args below meth c F H locs ls hW hS hl)
theorem v_zald {n k : Nat} {fs : List (Option Nat)} {i : Int32} (hT : TT[k]? = some (2, n, fs)) (hin : vp_in i n) (hd : decode cc pc = .ok (.baload, 1))
    (kk : VE g cc nL own rt hh R mc ms out kc ks (pc + 1) lv (.int (w.1 k i.toNatClampNeg) :: rest) w E) : VE g cc nL own rt hh R mc ms out kc ks pc lv (.int i :: .ref (g.2.1 + k) :: rest) w E := by
  intro r hr p e s m args below meth c F H locs ls hW hS hl
  exact va_zald (D := g.2.2.2.1) (cl := vwCl) (tys := tysL g) F.1 F.2.1 F.2.2.2.2.2.1 (hW.one hT) 0 1 rfl rfl hin hd (kk r hr p e s m args below meth c F H locs ls hW hS hl)
theorem v_cald {n k : Nat} {fs : List (Option Nat)} {i : Int32} (hT : TT[k]? = some (3, n, fs)) (hin : vp_in i n) (hd : decode cc pc = .ok (.caload, 1))
    (kk : VE g cc nL own rt hh R mc ms out kc ks (pc + 1) lv (.int (w.1 k i.toNatClampNeg) :: rest) w E) : VE g cc nL own rt hh R mc ms out kc ks pc lv (.int i :: .ref (g.2.1 + k) :: rest) w E := by
  intro r hr p e s m args below meth c F H locs ls hW hS hl
  exact va_cald (D := g.2.2.2.1) (cl := vwCl) (tys := tysL g) F.1 F.2.1 F.2.2.2.2.2.1 (hW.one hT) 0 2 rfl rfl hin hd (kk r hr p e s m args below meth c F H locs ls hW hS hl)
theorem v_ast_eq {cA : ClassId} {n i k : Nat} {x : Int32} : (vp_cell cA (n, .inl (w.1 k))).setSlot i (.int x) = vp_cell cA (n, .inl ((wset w k i x).1 k)) := by
  rw [vp_cell_i, vp_cell_i, arrV_store, wset_eq]
  congr 1
  funext q
  by_cases hq : q = i
  · simp [updV, hq]
  · simp [updV, hq]
theorem v_iast {n k : Nat} {fs : List (Option Nat)} {i x : Int32} (hT : TT[k]? = some (1, n, fs)) (hin : vp_in i n) (hd : decode cc pc = .ok (.iastore, 1))
    (kk : VE g cc nL own rt hh R mc ms out kc ks (pc + 1) lv rest (wset w k i.toNatClampNeg x) E) : VE g cc nL own rt hh R mc ms out kc ks pc lv (.int x :: .int i :: .ref (g.2.1 + k) :: rest) w E := by
  intro r hr p e s m args below meth c F H locs ls hW hS hl
  obtain ⟨h1, h2⟩ := v_ald_aux (i := i) (ty := .int) hW F.2.2.2.2.2.1 hT (Or.inl rfl) rfl
  refine W.iast F.1 F.2.1 h1 h2 (fun q => by cases q) (by show ¬ (i < 0 ∨ (arrV _ _ _).slots.size ≤ _); rw [arrV_size]; exact hin) rfl rfl hd fun H1 e1 z oq => ?_
  rw [v_ast_eq] at e1
  exact kk r hr p e s m args below meth c F H1 _ ls (RW.put hW hT e1 oq (fun k' hk' => wset_ne hk') (Or.inl rfl)) (hS.put hT z oq) hl
theorem v_zast {n k : Nat} {fs : List (Option Nat)} {i x : Int32} (hT : TT[k]? = some (2, n, fs)) (hin : vp_in i n) (hd : decode cc pc = .ok (.bastore, 1))
    (kk : VE g cc nL own rt hh R mc ms out kc ks (pc + 1) lv rest (wset w k i.toNatClampNeg (vp_nar .boolean x)) E) : VE g cc nL own rt hh R mc ms out kc ks pc lv (.int x :: .int i :: .ref (g.2.1 + k) :: rest) w E := by
  intro r hr p e s m args below meth c F H locs ls hW hS hl
  obtain ⟨h1, h2⟩ := v_ald_aux (i := i) (ty := .boolean) hW F.2.2.2.2.2.1 hT (Or.inr (Or.inl rfl)) rfl
  refine W.zast F.1 F.2.1 h1 h2 (fun q => by cases q) (by show ¬ (i < 0 ∨ (arrV _ _ _).slots.size ≤ _); rw [arrV_size]; exact hin) rfl rfl hd fun H1 e1 z oq => ?_
  rw [show narrow .boolean (.int x) = .int (vp_nar .boolean x) from rfl, v_ast_eq] at e1
  exact kk r hr p e s m args below meth c F H1 _ ls (RW.put hW hT e1 oq (fun k' hk' => wset_ne hk') (Or.inl rfl)) (hS.put hT z oq) hl
theorem v_cast {n k : Nat} {fs : List (Option Nat)} {i x : Int32} (hT : TT[k]? = some (3, n, fs)) (hin : vp_in i n) (hd : decode cc pc = .ok (.castore, 1))
    (kk : VE g cc nL own rt hh R mc ms out kc ks (pc + 1) lv rest (wset w k i.toNatClampNeg (vp_nar .char x)) E) : VE g cc nL own rt hh R mc ms out kc ks pc lv (.int x :: .int i :: .ref (g.2.1 + k) :: rest) w E := by
  intro r hr p e s m args below meth c F H locs ls hW hS hl
  obtain ⟨h1, h2⟩ := v_ald_aux (i := i) (ty := .char) hW F.2.2.2.2.2.1 hT (Or.inr (Or.inr rfl)) rfl
  refine W.cast F.1 F.2.1 h1 h2 (fun q => by cases q) (by show ¬ (i < 0 ∨ (arrV _ _ _).slots.size ≤ _); rw [arrV_size]; exact hin) rfl rfl hd fun H1 e1 z oq => ?_
  rw [show narrow .char (.int x) = .int (vp_nar .char x) from rfl, v_ast_eq] at e1
  exact kk r hr p e s m args below meth c F H1 _ ls (RW.put hW hT e1 oq (fun k' hk' => wset_ne hk') (Or.inl rfl)) (hS.put hT z oq) hl
theorem v_alen {kd n k : Nat} {fs : List (Option Nat)} {v : Int32} (hT : TT[k]? = some (kd, n, fs)) (hkd : kd = 1 ∨ kd = 3 ∨ kd = 6) (hv : Int32.ofNat n = v) (hd : decode cc pc = .ok (.arraylength, 1))
    (kk : VE g cc nL own rt hh R mc ms out kc ks (pc + 1) lv (.int v :: rest) w E) : VE g cc nL own rt hh R mc ms out kc ks pc lv (.ref (g.2.1 + k) :: rest) w E := by
  intro r hr p e s m args below meth c F H locs ls hW hS hl
  rcases hkd with rfl | rfl | rfl
  · exact va_alen (D := g.2.2.2.1) (cl := vwCl) (tys := tysL g) (x := (n, .inl (w.1 k))) F.1 F.2.1 F.2.2.2.2.2.1 (hW.one hT) 0 0 rfl rfl hv hd (kk r hr p e s m args below meth c F H locs ls hW hS hl)
  · exact va_alen (D := g.2.2.2.1) (cl := vwCl) (tys := tysL g) (x := (n, .inl (w.1 k))) F.1 F.2.1 F.2.2.2.2.2.1 (hW.one hT) 0 2 rfl rfl hv hd (kk r hr p e s m args below meth c F H locs ls hW hS hl)
  · exact va_alen (D := g.2.2.2.1) (cl := vwCl) (tys := tysL g) (x := (n, .inr (.inr (.inr (.inr (fun j => (fs.getD j none).map (g.2.1 + ·))))))) F.1 F.2.1 F.2.2.2.2.2.1 (hW.one hT) 0 4 rfl rfl hv hd (kk r hr p e s m args below meth c F H locs ls hW hS hl)
theorem v_aald {n k t : Nat} {fs : List (Option Nat)} {i : Int32} (hT : TT[k]? = some (6, n, fs)) (hin : vp_in i n) (ht : fs.getD i.toNatClampNeg none = some t) (hd : decode cc pc = .ok (.aaload, 1))
    (kk : VE g cc nL own rt hh R mc ms out kc ks (pc + 1) lv (.ref (g.2.1 + t) :: rest) w E) : VE g cc nL own rt hh R mc ms out kc ks pc lv (.int i :: .ref (g.2.1 + k) :: rest) w E := by
  intro r hr p e s m args below meth c F H locs ls hW hS hl
  refine va_aldq (D := g.2.2.2.1) (cl := vwCl) (tys := tysL g) (f := fun j => (fs.getD j none).map (g.2.1 + ·)) F.1 F.2.1 F.2.2.2.2.2.1 (hW.one hT) 0 4 rfl rfl hin hd ?_
  rw [ht]
  exact kk r hr p e s m args below meth c F H locs ls hW hS hl
/-- System.arraycopy between two int rows, or two boolean rows -/
theorem v_copy {kd k0 k1 n0 n1 index : Nat} {fs0 fs1 : List (Option Nat)} {ty : FieldType} {sp dp n : Int32} (hT0 : TT[k0]? = some (kd, n0, fs0)) (hT1 : TT[k1]? = some (kd, n1, fs1)) (hkd : kd = 1 ∨ kd = 2) (hty : (tysL g)[kd - 1]? = some (g.2.2.1 (kd - 1), ty)) (hprim : refKind ty = false)
    (hlink : Cond.methodLink own index arraycopyName ∈ GW) (hnat : Cond.native arraycopyName ∈ GW) (hstat : Cond.static arraycopyName ∈ GW) (hini : Cond.initialized "java/lang/System" ∈ GW)
    (h1 : ¬ sp < 0) (h2 : ¬ dp < 0) (h3 : ¬ n < 0) (h4 : sp.toNatClampNeg + n.toNatClampNeg ≤ n0) (h5 : dp.toNatClampNeg + n.toNatClampNeg ≤ n1) (hfit : ∀ i, i < n.toNatClampNeg → fits ty (.int (w.1 k0 (sp.toNatClampNeg + i))) = true)
    (hframes : 1 ≤ R.frames) (hlocals : (rest.map fun v => v.category).sum + (nativeFrameWords "java/lang/System" "arraycopy" 5 + 11) ≤ R.locals) (hd : decode cc pc = .ok (.invokestatic index, 3))
    (kk : VE g cc nL own rt hh R mc ms out kc ks (pc + 3) lv rest (wcpy w k0 sp.toNatClampNeg k1 dp.toNatClampNeg n.toNatClampNeg) E) : VE g cc nL own rt hh R mc ms out kc ks pc lv (.int n :: .int dp :: .ref (g.2.1 + k1) :: .int sp :: .ref (g.2.1 + k0) :: rest) w E := by
  intro r hr p e s m args below meth c F H locs ls hW hS hl
  have nn : ∀ z : Int32, ¬ z < 0 → z.toInt = (z.toNatClampNeg : Int) := by
    intro z hz
    have hz0 : (0 : Int) ≤ z.toInt := by
      have := Int32.not_lt.mp hz
      simpa using Int32.le_iff_toInt_le.mp this
    show z.toInt = ((z.toInt.toNat : Nat) : Int)
    omega
  have hts := F.2.2.2.2.1
  have hK := F.2.2.2.2.2.1
  have hkd3 : kd = 1 ∨ kd = 2 ∨ kd = 3 := by rcases hkd with h | h <;> simp [h]
  obtain ⟨hc0, ha0⟩ := v_ald_aux (i := sp) hW hK hT0 hkd3 hty
  obtain ⟨hc1, ha1⟩ := v_ald_aux (i := sp) hW hK hT1 hkd3 hty
  obtain ⟨c0, hc0e⟩ : ∃ z, z = g.2.2.1 (kd - 1) := ⟨_, rfl⟩
  rw [← hc0e] at hc0 ha0 hc1 ha1
  obtain ⟨-, q0, hk0, cm0, hkk0⟩ := ha0
  obtain ⟨-, q1, hk1, cm1, hkk1⟩ := ha1
  intro T hTh X
  obtain ⟨vm', X', step⟩ := X.arraycopy F.1 F.2.2.2.1 (hts _ hlink) (hts _ hnat) (hts _ hstat) (hts _ hini) (src := g.2.1 + k0) (dst := g.2.1 + k1) (cs := vp_cell c0 (n0, .inl (w.1 k0))) (cd := vp_cell c0 (n1, .inl (w.1 k1))) (srcPos := sp) (destPos := dp) (n := n) (by rw [hTh]; exact hc0) (by rw [hTh]; exact hc1)
    (fun _ h => by cases h) (fun _ h => by cases h) (fun h => by cases h) (fun h => by cases h) hk0 hk1 hkk0 hkk1 (by simp [hprim]) h1 h2 h3
    (by rw [nn sp h1, nn n h3]; show ¬ _ > ((arrV c0 n0 (fun j => .int (w.1 k0 j))).slots.size : Int); rw [arrV_size]; omega)
    (by rw [nn dp h2, nn n h3]; show ¬ _ > ((arrV c0 n1 (fun j => .int (w.1 k1 j))).slots.size : Int); rw [arrV_size]; omega)
    (fun vm₁ _ i hi => by
      have e : (vp_cell c0 (n0, .inl (w.1 k0))).slots.getD (sp.toNatClampNeg + i) .null = .int (w.1 k0 (sp.toNatClampNeg + i)) := by
        show (arrV c0 n0 (fun j => .int (w.1 k0 j))).slots.getD _ _ = _
        rw [Array.getD_eq_getD_getElem?, arrV_read _ _ (by omega)]
        rfl
      refine ⟨?_, ?_⟩
      · rw [e]
        exact hfit i hi
      · rw [e]
        exact trivial)
    (g := F0 m pc ls (.int n :: .int dp :: .ref (g.2.1 + k1) :: .int sp :: .ref (g.2.1 + k0) :: rest)) rfl (by rw [F.2.2.1]; exact hl.1) (rest := rest) rfl (by rw [F.2.1]; exact hd) hframes (by show 2 * 0 + _ + _ ≤ _; omega)
  have e1 : copied (vp_cell c0 (n0, .inl (w.1 k0))) (vp_cell c0 (n1, .inl (w.1 k1))) sp dp n = vp_cell c0 (n1, .inl (va_cpy (w.1 k0) (w.1 k1) sp.toNatClampNeg dp.toNatClampNeg n.toNatClampNeg)) := va_copied (fun z => .int z) c0 c0 (w.1 k0) (w.1 k1) h4
  rw [e1] at X' step
  have hlt : g.2.1 + k1 < H.size := (Array.getElem?_eq_some_iff.mp hc1).1
  have hheap : ((T.setVm vm').setCell (g.2.1 + k1) (vp_cell c0 (n1, .inl (va_cpy (w.1 k0) (w.1 k1) sp.toNatClampNeg dp.toNatClampNeg n.toNatClampNeg)))).heap = H.setIfInBounds (g.2.1 + k1) (vp_cell c0 (n1, .inl (va_cpy (w.1 k0) (w.1 k1) sp.toNatClampNeg dp.toNatClampNeg n.toNatClampNeg))) := by rw [← hTh]; rfl
  have oq : ∀ q : Nat, q ≠ g.2.1 + k1 → (H.setIfInBounds (g.2.1 + k1) (vp_cell c0 (n1, .inl (va_cpy (w.1 k0) (w.1 k1) sp.toNatClampNeg dp.toNatClampNeg n.toNatClampNeg))))[q]? = H[q]? := fun q hq => by simp [Array.getElem?_setIfInBounds, Ne.symm hq]
  have hat : (H.setIfInBounds (g.2.1 + k1) (vp_cell c0 (n1, .inl (va_cpy (w.1 k0) (w.1 k1) sp.toNatClampNeg dp.toNatClampNeg n.toNatClampNeg))))[g.2.1 + k1]? = some (vp_cell c0 (n1, .inl (va_cpy (w.1 k0) (w.1 k1) sp.toNatClampNeg dp.toNatClampNeg n.toNatClampNeg))) := by simp [Array.getElem?_setIfInBounds, hlt]
  obtain ⟨t, a1, b1⟩ := kk r hr p e s m args below meth c F _ _ ls (RW.put hW hT1 (by
      have hat2 := hat.trans (congrArg some (congrArg (fun z => vp_cell c0 (n1, .inl z)) (wcpy_eq (w := w) (sk := k0) (sp := sp.toNatClampNeg) (dk := k1) (dp := dp.toNatClampNeg) (n := n.toNatClampNeg)).symm))
      rcases hkd with rfl | rfl
      · subst hc0e; exact hat2
      · subst hc0e; exact hat2) oq (fun k' hk' => wcpy_ne hk') (Or.inl rfl)) ⟨by simp; exact hS.1, fun q g1 g2 => by
      rw [oq q (fun e => g2 (e ▸ TTr_of hT1))]
      exact hS.2.1 q g1 g2, fun q hq => by
      rcases List.mem_append.mp hq with h | h
      · exact hS.2.2 q h
      · obtain ⟨z, -, hz⟩ := List.mem_map.mp h
        rw [← hz]
        exact Nat.le_add_right _ _⟩ hl _ hheap X'
  exact ⟨t, step t a1, b1⟩
/-! ends -/
theorem v_end_aux {v : Option Value} {o : Out} {w0 : XW} {s t : State} {args : Array Value} {H : Heap} {locs : List Loc} (ho : o = (.inl v, w0)) (hW : RW g w0 H) (hS : VS g s.heap H locs) (ht : t.heap = H) : QO g o args s (.returned v) t := by
  subst ho
  exact ⟨⟨v, rfl, rfl⟩, by rw [ht]; exact hW, hS.F ht⟩
theorem v_iret {v : Int32} {r0 : ρ} (hd : decode cc pc = .ok (.ireturn, 1)) (hr : rt = some .int) (ho : out r0 = (.inl (some (.int v)), w)) (h1 : kc ≤ mc) (h2 : ks ≤ ms) : VE g cc nL own rt hh R mc ms out kc ks pc lv [.int v] w (some r0) := by
  intro r hr0 p e s m args below meth c F H locs ls hW hS hl
  cases hr0
  refine vx_ret (W.widen h1 h2 ?_)
  exact W.iret F.1 F.2.1 (F.2.2.2.2.2.2.2.2.2.2.1.trans hr) (fun t ht _ => v_end_aux ho hW hS ht) hS.2.2 hd F.2.2.2.2.2.2.2.2.2.1
theorem v_zret {v : Int32} {ty : FieldType} {r0 : ρ} (hd : decode cc pc = .ok (.ireturn, 1)) (hr : rt = some ty) (hn : narrow ty (.int v) = .int v) (ho : out r0 = (.inl (some (.int v)), w)) (h1 : kc ≤ mc) (h2 : ks ≤ ms) : VE g cc nL own rt hh R mc ms out kc ks pc lv [.int v] w (some r0) := by
  intro r hr0 p e s m args below meth c F H locs ls hW hS hl
  cases hr0
  refine vx_ret (W.widen h1 h2 ?_)
  exact W.zret F.1 F.2.1 (F.2.2.2.2.2.2.2.2.2.2.1.trans hr) hn (fun t ht _ => v_end_aux ho hW hS ht) hS.2.2 hd F.2.2.2.2.2.2.2.2.2.1
theorem v_vret {r0 : ρ} (hd : decode cc pc = .ok (.return_, 1)) (hr : rt = none) (ho : out r0 = (.inl none, w)) (h1 : kc ≤ mc) (h2 : ks ≤ ms) : VE g cc nL own rt hh R mc ms out kc ks pc lv [] w (some r0) := by
  intro r hr0 p e s m args below meth c F H locs ls hW hS hl
  cases hr0
  refine vx_ret (W.widen h1 h2 ?_)
  exact W.vret F.1 F.2.1 (F.2.2.2.2.2.2.2.2.2.2.1.trans hr) (fun t ht _ => v_end_aux ho hW hS ht) hS.2.2 hd F.2.2.2.2.2.2.2.2.2.1
theorem v_aret {v : Value} {ty : FieldType} {r0 : ρ} (hd : decode cc pc = .ok (.areturn, 1)) (hr : rt = some ty) (hrt : (∃ n, ty = .object n) ∨ ∃ t, ty = .array t) (hv : v = .null ∨ ∃ a, v = .ref a) (ho : out r0 = (.inl (some v), w)) (h1 : kc ≤ mc) (h2 : ks ≤ ms) : VE g cc nL own rt hh R mc ms out kc ks pc lv [v] w (some r0) := by
  intro r hr0 p e s m args below meth c F H locs ls hW hS hl
  cases hr0
  refine vx_ret (W.widen h1 h2 ?_)
  exact W.aret F.1 F.2.1 (F.2.2.2.2.2.2.2.2.2.2.1.trans hr) hrt hv (fun t ht _ => v_end_aux ho hW hS ht) hS.2.2 hd F.2.2.2.2.2.2.2.2.2.1
theorem v_dret {v : UInt64} {r0 : ρ} (hd : decode cc pc = .ok (.dreturn, 1)) (hr : rt = some .double) (ho : out r0 = (.inl (some (.double v)), w)) (h1 : kc ≤ mc) (h2 : ks ≤ ms) : VE g cc nL own rt hh R mc ms out kc ks pc lv [.double v] w (some r0) := by
  intro r hr0 p e s m args below meth c F H locs ls hW hS hl
  cases hr0
  refine vx_ret (W.widen h1 h2 ?_)
  exact W.dret F.1 F.2.1 (F.2.2.2.2.2.2.2.2.2.2.1.trans hr) (fun t ht _ => v_end_aux ho hW hS ht) hS.2.2 hd F.2.2.2.2.2.2.2.2.2.1
theorem v_fret {v : UInt32} {r0 : ρ} (hd : decode cc pc = .ok (.freturn, 1)) (hr : rt = some .float) (ho : out r0 = (.inl (some (.float v)), w)) (h1 : kc ≤ mc) (h2 : ks ≤ ms) : VE g cc nL own rt hh R mc ms out kc ks pc lv [.float v] w (some r0) := by
  intro r hr0 p e s m args below meth c F H locs ls hW hS hl
  cases hr0
  refine vx_ret (W.widen h1 h2 ?_)
  exact W.fret F.1 F.2.1 (F.2.2.2.2.2.2.2.2.2.2.1.trans hr) (fun t ht _ => v_end_aux ho hW hS ht) hS.2.2 hd F.2.2.2.2.2.2.2.2.2.1
/-- throw new E() -/
theorem v_throw {cls : String} {names : List String} {ik ic : Nat} {r0 : ρ} (hh0 : hh = []) (hcls : Bundle.fit cls = true) (hnames : ∀ n ∈ names, Bundle.fit n = true) (hk : Cond.classLink own ik cls ∈ GW) (hini : Cond.initialized cls ∈ GW) (hat : ∀ w ∈ vx_at0 own ic cls names, w ∈ GW ∨ w ∈ NGW)
    (hgood : ∀ w ∈ Cond.classLink own ik cls :: Cond.initialized cls :: vx_at0 own ic cls names, vx_ot w = true)
    (d0 : decode cc pc = .ok (.new ik, 3)) (d3 : decode cc (pc + 3) = .ok (.dup, 1)) (d4 : decode cc (pc + 4) = .ok (.invokespecial ic, 3)) (d7 : decode cc (pc + 7) = .ok (.athrow, 1))
    (hRframes : names.length + 3 < R.frames) (hRlocals : (rest.map fun v => v.category).sum + (13 * (names.length + 1) + 42) ≤ R.locals) (hRcells : kc + 1 ≤ R.cells) (hRslots : ks + 6 ≤ R.slots) (ho : out r0 = (.inr cls, w)) (h1 : kc + 1 ≤ mc) (h2 : ks + 6 ≤ ms) :
    VE g cc nL own rt hh R mc ms out kc ks pc lv rest w (some r0) := by
  intro r hr0 p e s m args below meth c F H locs ls hW hS hl
  cases hr0
  have hts := F.2.2.2.2.1
  have htab : c.exceptionTable.toList = tableOf hh := F.2.2.2.2.2.2.2.2.2.2.2.2
  rw [hh0] at htab
  refine vx_throw0 (A := fun q => g.2.1 ≤ q) F.1 F.2.1 F.2.2.2.2.2.2.2.2.2.2.2.1 F.2.2.2.1 hcls hnames (hts _ hk) (hts _ hini) (fun z hz => (hat z hz).elim (hts _) (fun h9 => ng_moved (u := s) (U := s) (Vm.Alike.refl s.vm) h9 (F.2.2.2.2.2.2.2.2.1.1 z h9))) hgood F.2.2.2.2.2.2.2.1.1 F.2.2.2.2.2.2.2.1.2.1 hS.S (by rw [F.2.2.1]; exact hl.1) d0 d3 d4 d7 (fun x hx => by rw [htab] at hx; cases hx) hRframes hRlocals hRcells hRslots F.2.2.2.2.2.2.2.2.2.1 ?_ hS.2.2 h1 h2
  intro t _ hz hq
  rw [ho]
  refine ⟨rfl, hW.kept hq, Nat.le_trans hS.1 hz, fun q g1 g2 => ?_⟩
  rw [hq q (Nat.lt_of_lt_of_le g1 hS.1)]
  exact hS.2.1 q g1 g2
/-! calls -/
theorem v_pre {av : List Value} {s U : State} {H : Heap} {locs : List Loc} {p : Program} {m : MethodId} {args : Array Value} {meth : Method} {c : Code} (F : FX g cc nL own rt hh p s m args meth c) (hW : RW g w H) (hS : VS g s.heap H locs) (hU : U.heap = H) (hX : s.WarmedH U.vm) : PO g av w av.toArray U :=
  ⟨rfl, by rw [hU]; exact Nat.le_trans F.2.2.2.2.2.2.1 hS.1, by rw [hU]; exact hW, va_K.moved hX.alike F.2.2.2.2.2.1, by rw [hU]; exact SFs.moved hX.alike (F.2.2.2.2.2.2.2.1.kept hS.2.1), fun w hw => ng_moved hX.alike hw (F.2.2.2.2.2.2.2.2.1.1 w hw), fun i x hx => vk_R.warm hX (F.2.2.2.2.2.2.2.2.1.2.1 i x hx), fun x hx => va_Nc.moved hX.alike (F.2.2.2.2.2.2.2.2.1.2.2 x hx)⟩
theorem v_run_aux {p : Program} {e : Env} {s : State} {m : MethodId} {args : Array Value} {below : List Frame} {meth : Method} {c : Code} {H : Heap} {locs : List Loc} {ls : Array Slot} {mcy msy : Nat} {st0 : List Value} {a : Array Value} {o : Out} {Q : State → Prop}
    (hr : vx_Run p g.1 e R s m args below meth c H locs kc ks mcy msy (F0 m pc ls st0) rest (QO g o a) (XO g o) (fun q => g.2.1 ≤ q)) (hS : VS g s.heap H locs)
    (kk : ∀ v w', o = (.inl v, w') → ∀ (H1 : Heap) (locs1 : List Loc), RW g w' H1 → VS g s.heap H1 locs1 → W p g.1 e R s m args below meth c H1 locs1 (kc + mcy) (ks + msy) Q (F0 m (pc + 3) ls (v.toList ++ rest)))
    (kx : ∀ E0 w', o = (.inr E0, w') → ∀ (H1 : Heap) (locs1 : List Loc) (q : Addr) (ce : Cell), RW g w' H1 → VS g s.heap H1 locs1 → H1[q]? = some ce → ce.vm = .none → s.vm.findClass E0 = some ce.cls → vx_W p g.1 e R s m args below meth c H1 locs1 (kc + mcy) (ks + msy) Q (F0 m pc ls rest) q) :
    W p g.1 e R s m args below meth c H locs kc ks Q (F0 m pc ls st0) := by
  obtain ⟨o1, w1⟩ := o
  intro T hT X
  rcases hr T hT X with ⟨v, st₀, t, T', L, h0, X', hL, e1, e2, ⟨⟨v', hv1, hv2⟩, hRW, hF⟩, st⟩ | ⟨q, st₀, t, T', L, E0, ce, h0, X', hL, e1, e2, ⟨hx1, hRW, hF⟩, hce, hcv, hcl, st⟩
  · cases hv2
    have k3 := VS.keep h0 e1 hS hL hF
    dsimp only at hv1
    subst hv1
    obtain ⟨t2, a1, b1⟩ := kk v w1 rfl T'.heap (locs ++ L) (by rw [e1]; exact hRW) k3 T' rfl X'
    exact ⟨t2, st t2 a1, b1⟩
  · have k3 := VS.keep h0 e1 hS hL hF
    dsimp only at hx1
    subst hx1
    obtain ⟨t2, a1, b1⟩ := kx E0 w1 rfl T'.heap (locs ++ L) q ce (by rw [e1]; exact hRW) k3 (by rw [e1]; exact hce) hcv hcl T' rfl X'
    exact ⟨t2, st.trans a1, b1⟩
/-- what the tables say of a virtual call -/
def CV (own : String) (index : Nat) (y : MethodName) (cy : ByteArray) (nLy : Nat) (ry : Option FieldType) (n : Nat) : Prop := Cond.methodLink own index y ∈ GW ∧ Cond.instanceMethod y ∈ GW ∧ Cond.selects y.cls y y ∈ GW ∧ Cond.initialized y.cls ∈ GW ∧ Cond.code y cy nLy ry ∈ GW ∧ (y.cls ≠ "java/lang/invoke/MethodHandle" ∧ y.cls ≠ "java/lang/invoke/VarHandle") ∧ (parseMethodDescriptor y.desc).map (fun d => d.parameters.length) = some n
def CS (own : String) (index : Nat) (y : MethodName) (cy : ByteArray) (nLy : Nat) (ry : Option FieldType) (n : Nat) : Prop := Cond.methodLink own index y ∈ GW ∧ Cond.static y ∈ GW ∧ Cond.initialized y.cls ∈ GW ∧ Cond.code y cy nLy ry ∈ GW ∧ (y.cls ≠ "java/lang/invoke/MethodHandle" ∧ y.cls ≠ "java/lang/invoke/VarHandle") ∧ (parseMethodDescriptor y.desc).map (fun d => d.parameters.length) = some n
theorem GW_pay {s : State} {args : Array Value} {hd : Cond} (hhd : hd ∈ GW) (hts : ∀ w ∈ GW, w.before args s = true) : ∀ w ∈ hd :: GW, ∀ (a' : Array Value) (U : State), s.WarmedH U.vm → w.before a' U = true := by
  refine pay_in hts (fun w hw => ?_)
  have h : w ∈ GW := by
    rcases List.mem_cons.mp hw with e | e
    · rw [e]; exact hhd
    · exact e
  exact ⟨h, GW_good h⟩
theorem v_len {y : MethodName} {n : Nat} (h : (parseMethodDescriptor y.desc).map (fun d => d.parameters.length) = some n) : ∀ sig, parseMethodDescriptor y.desc = some sig → n = sig.parameters.length := by
  intro sig h2
  rw [h2] at h
  exact (Option.some.inj h).symm
/-- the room of a callee, and what it may make -/
abbrev CR (R : Room) (nLy mcy msy : Nat) (rm : Room) (kc ks : Nat) : Prop := (rm.cells = mcy ∧ rm.slots = msy ∧ rm.frames + 1 ≤ R.frames ∧ 8 + (nLy + 11) + rm.locals ≤ R.locals) ∧ kc + mcy ≤ R.cells ∧ ks + msy ≤ R.slots
theorem v_runV {index nLy n mcy msy k ci N : Nat} {y : MethodName} {cy : ByteArray} {ry : Option FieldType} {rm : Room} {As : List Value} {fs : List (Option Nat)} {T : u_T} {o : Out} {p : Program} {e : Env} {s : State} {m : MethodId} {args : Array Value} {below : List Frame} {meth : Method} {c : Code} {H : Heap} {locs : List Loc} {ls : Array Slot}
    (F : FX g cc nL own rt hh p s m args meth c) (hc : CV own index y cy nLy ry n) (hM : MM g (.code y cy nLy ry) y rm mcy msy (.ref (g.2.1 + k) :: As) w o) (hT : TT[k]? = some (0, ci, fs)) (hC : vwCl[ci]? = some (y.cls, T, N)) (hn : As.length = n) (hst : (rest.map fun v => v.category).sum ≤ 8)
    (hd : decode cc pc = .ok (.invokevirtual index, 3)) (hR : CR R nLy mcy msy rm kc ks) (hW : RW g w H) (hS : VS g s.heap H locs) (hl : ls.size = nL) :
    vx_Run p g.1 e R s m args below meth c H locs kc ks mcy msy (F0 m pc ls (As.reverse ++ .ref (g.2.1 + k) :: rest)) rest (QO g o (Value.ref (g.2.1 + k) :: As).toArray) (XO g o) (fun q => g.2.1 ≤ q) := by
  have hts := F.2.2.2.2.1
  obtain ⟨c1, c2, c3, c4, c5, c6, c7⟩ := hc
  exact vx_runV (Ts := GW) (nL := nL) (C := y.cls) (n := n) (bytes := cy) (maxL := nLy) (ret := ry) ⟨F.1, F.2.1, F.2.2.1, F.2.2.2.1, hts⟩ hM
    ⟨⟨hR.1.1, hR.1.2.1, hR.1.2.2.1, hR.1.2.2.2, GW_pay c5 hts, List.mem_cons_self, hts _ c5, hts _ c4, c6, v_len c7, hts _ c1⟩, hts _ c2, hts _ c3⟩
    ⟨PO_blind, va_recv (q0 := 0) F.2.2.2.2.2.1 (hW.one hT) hC rfl, fun U hU hX => v_pre F hW hS hU hX⟩ rfl hn hl rfl (by show 2 * 0 + _ ≤ 8; omega) hd hR.2
theorem v_runS {index nLy n mcy msy : Nat} {y : MethodName} {cy : ByteArray} {ry : Option FieldType} {rm : Room} {As : List Value} {o : Out} {p : Program} {e : Env} {s : State} {m : MethodId} {args : Array Value} {below : List Frame} {meth : Method} {c : Code} {H : Heap} {locs : List Loc} {ls : Array Slot}
    (F : FX g cc nL own rt hh p s m args meth c) (hc : CS own index y cy nLy ry n) (hM : MM g (.code y cy nLy ry) y rm mcy msy As w o) (hn : As.length = n) (hst : (rest.map fun v => v.category).sum ≤ 8)
    (hd : decode cc pc = .ok (.invokestatic index, 3)) (hR : CR R nLy mcy msy rm kc ks) (hW : RW g w H) (hS : VS g s.heap H locs) (hl : ls.size = nL) :
    vx_Run p g.1 e R s m args below meth c H locs kc ks mcy msy (F0 m pc ls (As.reverse ++ rest)) rest (QO g o As.toArray) (XO g o) (fun q => g.2.1 ≤ q) := by
  have hts := F.2.2.2.2.1
  obtain ⟨c1, c2, c4, c5, c6, c7⟩ := hc
  exact vx_runS (Ts := GW) (nL := nL) (n := n) (bytes := cy) (maxL := nLy) (ret := ry) ⟨F.1, F.2.1, F.2.2.1, F.2.2.2.1, hts⟩ hM
    ⟨⟨hR.1.1, hR.1.2.1, hR.1.2.2.1, hR.1.2.2.2, GW_pay c5 hts, List.mem_cons_self, hts _ c5, hts _ c4, c6, v_len c7, hts _ c1⟩, hts _ c2⟩
    ⟨PO_blind, fun U hU hX => v_pre F hW hS hU hX⟩ rfl hn hl rfl (by show 2 * 0 + _ ≤ 8; omega) hd hR.2
/-- a virtual call whose callee is F: it returns v in the store w', or throws -/
theorem v_callV {ρF : Type} {Fy : Option ρF} {outF : ρF → Out} {K : ρF → Option ρ} {index nLy n mcy msy k ci N : Nat} {y : MethodName} {cy : ByteArray} {ry : Option FieldType} {rm : Room} {As st : List Value} {fs : List (Option Nat)} {T : u_T}
    (hc : CV own index y cy nLy ry n) (hM : ∀ q, Fy = some q → MM g (.code y cy nLy ry) y rm mcy msy (.ref (g.2.1 + k) :: As) w (outF q)) (hT : TT[k]? = some (0, ci, fs)) (hC : vwCl[ci]? = some (y.cls, T, N)) (hn : As.length = n) (hs : st = As.reverse ++ .ref (g.2.1 + k) :: rest) (hst : (rest.map fun v => v.category).sum ≤ 8)
    (hd : decode cc pc = .ok (.invokevirtual index, 3)) (hR : CR R nLy mcy msy rm kc ks)
    (kk : ∀ q v w', outF q = (.inl v, w') → VE g cc nL own rt hh R mc ms out (kc + mcy) (ks + msy) (pc + 3) lv (v.toList ++ rest) w' (K q))
    (kx : ∀ q E0 w', outF q = (.inr E0, w') → VX g cc nL own rt hh R mc ms out (kc + mcy) (ks + msy) pc lv E0 w' (K q)) :
    VE g cc nL own rt hh R mc ms out kc ks pc lv st w (Fy.bind K) := by
  intro r hr p e s m args below meth c F H locs ls hW hS hl
  cases hF : Fy with
  | none => rw [hF] at hr; cases hr
  | some q =>
    rw [hF] at hr
    have hr' : K q = some r := hr
    subst hs
    exact v_run_aux (v_runV F hc (hM q hF) hT hC hn hst hd hR hW hS hl.1) hS
      (fun v w' ho H1 locs1 hW1 hS1 => kk q v w' ho r hr' p e s m args below meth c F H1 locs1 ls hW1 hS1 hl)
      (fun E0 w' ho H1 locs1 a ce hW1 hS1 h1 h2 h3 => kx q E0 w' ho r hr' p e s m args below meth c F H1 locs1 ls rest a ce hW1 hS1 hl h1 h2 h3)
theorem v_callS {ρF : Type} {Fy : Option ρF} {outF : ρF → Out} {K : ρF → Option ρ} {index nLy n mcy msy : Nat} {y : MethodName} {cy : ByteArray} {ry : Option FieldType} {rm : Room} {As st : List Value}
    (hc : CS own index y cy nLy ry n) (hM : ∀ q, Fy = some q → MM g (.code y cy nLy ry) y rm mcy msy As w (outF q)) (hn : As.length = n) (hs : st = As.reverse ++ rest) (hst : (rest.map fun v => v.category).sum ≤ 8)
    (hd : decode cc pc = .ok (.invokestatic index, 3)) (hR : CR R nLy mcy msy rm kc ks)
    (kk : ∀ q v w', outF q = (.inl v, w') → VE g cc nL own rt hh R mc ms out (kc + mcy) (ks + msy) (pc + 3) lv (v.toList ++ rest) w' (K q))
    (kx : ∀ q E0 w', outF q = (.inr E0, w') → VX g cc nL own rt hh R mc ms out (kc + mcy) (ks + msy) pc lv E0 w' (K q)) :
    VE g cc nL own rt hh R mc ms out kc ks pc lv st w (Fy.bind K) := by
  intro r hr p e s m args below meth c F H locs ls hW hS hl
  cases hF : Fy with
  | none => rw [hF] at hr; cases hr
  | some q =>
    rw [hF] at hr
    have hr' : K q = some r := hr
    subst hs
    exact v_run_aux (v_runS F hc (hM q hF) hn hst hd hR hW hS hl.1) hS
      (fun v w' ho H1 locs1 hW1 hS1 => kk q v w' ho r hr' p e s m args below meth c F H1 locs1 ls hW1 hS1 hl)
      (fun E0 w' ho H1 locs1 a ce hW1 hS1 h1 h2 h3 => kx q E0 w' ho r hr' p e s m args below meth c F H1 locs1 ls rest a ce hW1 hS1 hl h1 h2 h3)
/-- not caught here -/
theorem v_out {E0 : String} {r0 : ρ} (hh0 : hh = []) (ho : out r0 = (.inr E0, w)) (h1 : kc ≤ mc) (h2 : ks ≤ ms) : VX g cc nL own rt hh R mc ms out kc ks pc lv E0 w (some r0) := by
  intro r hr0 p e s m args below meth c F H locs ls rest q ce hW hS hl hce hcv hcl
  cases hr0
  have htab : c.exceptionTable.toList = tableOf hh := F.2.2.2.2.2.2.2.2.2.2.2.2
  rw [hh0] at htab
  refine vx_out (fun x hx => by rw [htab] at hx; cases hx) F.2.2.2.2.2.2.2.2.2.1 hce hcv hcl (fun t ht _ => ?_) hS.2.2 h1 h2
  rw [ho]
  exact ⟨rfl, by rw [ht]; exact hW, hS.F ht⟩
/-! the kinds of outcome: an int, nothing, a reference or null, each perhaps an exception -/
abbrev oI (q : Int32 × XW) : Out := (.inl (some (.int q.1)), q.2)
abbrev oV (q : XW) : Out := (.inl none, q)
abbrev oD (q : UInt64 × XW) : Out := (.inl (some (.double q.1)), q.2)
abbrev oF (q : UInt32 × XW) : Out := (.inl (some (.float q.1)), q.2)
abbrev oQ (g : GC) (q : Option Nat × XW) : Out := (.inl (some (match q.1 with | none => .null | some t => .ref (g.2.1 + t))), q.2)
/-- a String constant, by its place in strTab -/
abbrev oS (g : GC) (q : Nat × XW) : Out := (.inl (some (.ref (g.2.2.2.2.1 q.1))), q.2)
abbrev oIX (q : (Int32 × XW) ⊕ (String × XW)) : Out := match q with | .inl q => oI q | .inr x => (.inr x.1, x.2)
abbrev oVX (q : XW ⊕ (String × XW)) : Out := match q with | .inl q => oV q | .inr x => (.inr x.1, x.2)
abbrev oDX (q : (UInt64 × XW) ⊕ (String × XW)) : Out := match q with | .inl q => oD q | .inr x => (.inr x.1, x.2)
abbrev oFX (q : (UInt32 × XW) ⊕ (String × XW)) : Out := match q with | .inl q => oF q | .inr x => (.inr x.1, x.2)
/-! go on behind a call -/
def bI {ρ : Type} (F : Option (Int32 × XW)) (K : Int32 → XW → Option ρ) : Option ρ := F.bind fun q => K q.1 q.2
def bD {ρ : Type} (F : Option (UInt64 × XW)) (K : UInt64 → XW → Option ρ) : Option ρ := F.bind fun q => K q.1 q.2
def bF {ρ : Type} (F : Option (UInt32 × XW)) (K : UInt32 → XW → Option ρ) : Option ρ := F.bind fun q => K q.1 q.2
def bV {ρ : Type} (F : Option XW) (K : XW → Option ρ) : Option ρ := F.bind fun q => K q
def bQ {ρ : Type} (F : Option (Option Nat × XW)) (K0 : XW → Option ρ) (K1 : Nat → XW → Option ρ) : Option ρ := F.bind fun q => match q.1 with | none => K0 q.2 | some t => K1 t q.2
def bS {ρ : Type} (F : Option (Nat × XW)) (K : Nat → XW → Option ρ) : Option ρ := F.bind fun q => K q.1 q.2
def bIX {β : Type} (F : Option ((Int32 × XW) ⊕ (String × XW))) (K : Int32 → XW → Option (β ⊕ (String × XW))) : Option (β ⊕ (String × XW)) := F.bind fun q => match q with | .inl a => K a.1 a.2 | .inr x => some (.inr x)
def bVX {β : Type} (F : Option (XW ⊕ (String × XW))) (K : XW → Option (β ⊕ (String × XW))) : Option (β ⊕ (String × XW)) := F.bind fun q => match q with | .inl a => K a | .inr x => some (.inr x)
/-- a guard, an index in its row -/
abbrev inB (i : Int32) (n : Nat) : Prop := ¬ (i < 0 ∨ n ≤ i.toNatClampNeg)
abbrev fitsZ (w : XW) (k n : Nat) : Prop := ∀ i, i < n → fits .boolean (.int (w.1 k ((0 : Int32).toNatClampNeg + i))) = true
section CALLS
variable {index nLy n mcy msy k ci N : Nat} {y : MethodName} {cy : ByteArray} {ry : Option FieldType} {rm : Room} {As st : List Value} {fs : List (Option Nat)} {T : u_T}
theorem v_callVi {Fy : Option (Int32 × XW)} {K : Int32 → XW → Option ρ} (hc : CV own index y cy nLy ry n) (hM : ∀ q, Fy = some q → MM g (.code y cy nLy ry) y rm mcy msy (.ref (g.2.1 + k) :: As) w (oI q)) (hT : TT[k]? = some (0, ci, fs)) (hC : vwCl[ci]? = some (y.cls, T, N)) (hn : As.length = n) (hs : st = As.reverse ++ .ref (g.2.1 + k) :: rest) (hst : (rest.map fun v => v.category).sum ≤ 8) (hd : decode cc pc = .ok (.invokevirtual index, 3)) (hR : CR R nLy mcy msy rm kc ks)
    (kk : ∀ x w', VE g cc nL own rt hh R mc ms out (kc + mcy) (ks + msy) (pc + 3) lv (.int x :: rest) w' (K x w')) : VE g cc nL own rt hh R mc ms out kc ks pc lv st w (bI Fy K) :=
  v_callV hc hM hT hC hn hs hst hd hR (fun q v w' h => by cases h; exact kk q.1 q.2) (fun q E0 w' h => by cases h)
theorem v_callVv {Fy : Option XW} {K : XW → Option ρ} (hc : CV own index y cy nLy ry n) (hM : ∀ q, Fy = some q → MM g (.code y cy nLy ry) y rm mcy msy (.ref (g.2.1 + k) :: As) w (oV q)) (hT : TT[k]? = some (0, ci, fs)) (hC : vwCl[ci]? = some (y.cls, T, N)) (hn : As.length = n) (hs : st = As.reverse ++ .ref (g.2.1 + k) :: rest) (hst : (rest.map fun v => v.category).sum ≤ 8) (hd : decode cc pc = .ok (.invokevirtual index, 3)) (hR : CR R nLy mcy msy rm kc ks)
    (kk : ∀ w', VE g cc nL own rt hh R mc ms out (kc + mcy) (ks + msy) (pc + 3) lv rest w' (K w')) : VE g cc nL own rt hh R mc ms out kc ks pc lv st w (bV Fy K) :=
  v_callV hc hM hT hC hn hs hst hd hR (fun q v w' h => by cases h; exact kk q) (fun q E0 w' h => by cases h)
theorem v_callVq {Fy : Option (Option Nat × XW)} {K0 : XW → Option ρ} {K1 : Nat → XW → Option ρ} (hc : CV own index y cy nLy ry n) (hM : ∀ q, Fy = some q → MM g (.code y cy nLy ry) y rm mcy msy (.ref (g.2.1 + k) :: As) w (oQ g q)) (hT : TT[k]? = some (0, ci, fs)) (hC : vwCl[ci]? = some (y.cls, T, N)) (hn : As.length = n) (hs : st = As.reverse ++ .ref (g.2.1 + k) :: rest) (hst : (rest.map fun v => v.category).sum ≤ 8) (hd : decode cc pc = .ok (.invokevirtual index, 3)) (hR : CR R nLy mcy msy rm kc ks)
    (k0 : ∀ w', VE g cc nL own rt hh R mc ms out (kc + mcy) (ks + msy) (pc + 3) lv (.null :: rest) w' (K0 w')) (k1 : ∀ t w', VE g cc nL own rt hh R mc ms out (kc + mcy) (ks + msy) (pc + 3) lv (.ref (g.2.1 + t) :: rest) w' (K1 t w')) : VE g cc nL own rt hh R mc ms out kc ks pc lv st w (bQ Fy K0 K1) :=
  v_callV hc hM hT hC hn hs hst hd hR (fun q v w' h => by
    obtain ⟨q1, q2⟩ := q
    cases q1 with
    | none => cases h; exact k0 q2
    | some t => cases h; exact k1 t q2) (fun q E0 w' h => by cases h)
theorem v_callVix {β : Type} {out : (β ⊕ (String × XW)) → Out} {Fy : Option ((Int32 × XW) ⊕ (String × XW))} {K : Int32 → XW → Option (β ⊕ (String × XW))} (hh0 : hh = []) (hox : ∀ x, out (.inr x) = (.inr x.1, x.2)) (h1 : kc + mcy ≤ mc) (h2 : ks + msy ≤ ms) (hc : CV own index y cy nLy ry n) (hM : ∀ q, Fy = some q → MM g (.code y cy nLy ry) y rm mcy msy (.ref (g.2.1 + k) :: As) w (oIX q)) (hT : TT[k]? = some (0, ci, fs)) (hC : vwCl[ci]? = some (y.cls, T, N)) (hn : As.length = n) (hs : st = As.reverse ++ .ref (g.2.1 + k) :: rest) (hst : (rest.map fun v => v.category).sum ≤ 8) (hd : decode cc pc = .ok (.invokevirtual index, 3)) (hR : CR R nLy mcy msy rm kc ks)
    (kk : ∀ x w', VE g cc nL own rt hh R mc ms out (kc + mcy) (ks + msy) (pc + 3) lv (.int x :: rest) w' (K x w')) : VE g cc nL own rt hh R mc ms out kc ks pc lv st w (bIX Fy K) :=
  v_callV hc hM hT hC hn hs hst hd hR (fun q v w' h => by
    cases q with
    | inl q => cases h; exact kk q.1 q.2
    | inr x => cases h) (fun q E0 w' h => by
    cases q with
    | inl q => cases h
    | inr x => cases h; exact v_out hh0 (hox x) h1 h2)
theorem v_callVvx {β : Type} {out : (β ⊕ (String × XW)) → Out} {Fy : Option (XW ⊕ (String × XW))} {K : XW → Option (β ⊕ (String × XW))} (hh0 : hh = []) (hox : ∀ x, out (.inr x) = (.inr x.1, x.2)) (h1 : kc + mcy ≤ mc) (h2 : ks + msy ≤ ms) (hc : CV own index y cy nLy ry n) (hM : ∀ q, Fy = some q → MM g (.code y cy nLy ry) y rm mcy msy (.ref (g.2.1 + k) :: As) w (oVX q)) (hT : TT[k]? = some (0, ci, fs)) (hC : vwCl[ci]? = some (y.cls, T, N)) (hn : As.length = n) (hs : st = As.reverse ++ .ref (g.2.1 + k) :: rest) (hst : (rest.map fun v => v.category).sum ≤ 8) (hd : decode cc pc = .ok (.invokevirtual index, 3)) (hR : CR R nLy mcy msy rm kc ks)
    (kk : ∀ w', VE g cc nL own rt hh R mc ms out (kc + mcy) (ks + msy) (pc + 3) lv rest w' (K w')) : VE g cc nL own rt hh R mc ms out kc ks pc lv st w (bVX Fy K) :=
  v_callV hc hM hT hC hn hs hst hd hR (fun q v w' h => by
    cases q with
    | inl q => cases h; exact kk _
    | inr x => cases h) (fun q E0 w' h => by
    cases q with
    | inl q => cases h
    | inr x => cases h; exact v_out hh0 (hox x) h1 h2)
theorem v_callSi {Fy : Option (Int32 × XW)} {K : Int32 → XW → Option ρ} (hc : CS own index y cy nLy ry n) (hM : ∀ q, Fy = some q → MM g (.code y cy nLy ry) y rm mcy msy As w (oI q)) (hn : As.length = n) (hs : st = As.reverse ++ rest) (hst : (rest.map fun v => v.category).sum ≤ 8) (hd : decode cc pc = .ok (.invokestatic index, 3)) (hR : CR R nLy mcy msy rm kc ks)
    (kk : ∀ x w', VE g cc nL own rt hh R mc ms out (kc + mcy) (ks + msy) (pc + 3) lv (.int x :: rest) w' (K x w')) : VE g cc nL own rt hh R mc ms out kc ks pc lv st w (bI Fy K) :=
  v_callS hc hM hn hs hst hd hR (fun q v w' h => by cases h; exact kk q.1 q.2) (fun q E0 w' h => by cases h)
theorem v_callSv {Fy : Option XW} {K : XW → Option ρ} (hc : CS own index y cy nLy ry n) (hM : ∀ q, Fy = some q → MM g (.code y cy nLy ry) y rm mcy msy As w (oV q)) (hn : As.length = n) (hs : st = As.reverse ++ rest) (hst : (rest.map fun v => v.category).sum ≤ 8) (hd : decode cc pc = .ok (.invokestatic index, 3)) (hR : CR R nLy mcy msy rm kc ks)
    (kk : ∀ w', VE g cc nL own rt hh R mc ms out (kc + mcy) (ks + msy) (pc + 3) lv rest w' (K w')) : VE g cc nL own rt hh R mc ms out kc ks pc lv st w (bV Fy K) :=
  v_callS hc hM hn hs hst hd hR (fun q v w' h => by cases h; exact kk q) (fun q E0 w' h => by cases h)
theorem v_callSs {Fy : Option (Nat × XW)} {K : Nat → XW → Option ρ} (hc : CS own index y cy nLy ry n) (hM : ∀ q, Fy = some q → MM g (.code y cy nLy ry) y rm mcy msy As w (oS g q)) (hn : As.length = n) (hs : st = As.reverse ++ rest) (hst : (rest.map fun v => v.category).sum ≤ 8) (hd : decode cc pc = .ok (.invokestatic index, 3)) (hR : CR R nLy mcy msy rm kc ks)
    (kk : ∀ x w', VE g cc nL own rt hh R mc ms out (kc + mcy) (ks + msy) (pc + 3) lv (.ref (g.2.2.2.2.1 x) :: rest) w' (K x w')) : VE g cc nL own rt hh R mc ms out kc ks pc lv st w (bS Fy K) :=
  v_callS hc hM hn hs hst hd hR (fun q v w' h => by cases h; exact kk q.1 q.2) (fun q E0 w' h => by cases h)
end CALLS
/-! constants, Strings, the script, the law's long and double -/
theorem v_ldc {index : Nat} {v : Int32} (hw : Cond.constant own index v ∈ GW) (hd : decode cc pc = .ok (.ldc index, 2)) (k : VE g cc nL own rt hh R mc ms out kc ks (pc + 2) lv (.int v :: rest) w E) : VE g cc nL own rt hh R mc ms out kc ks pc lv rest w E :=
  fun r hr p e s m args below meth c F H locs ls hW hS hl => lv_ldc F.1 F.2.1 F.2.2.2.1 (F.2.2.2.2.1 _ hw) hd (k r hr p e s m args below meth c F H locs ls hW hS hl)
theorem v_ldcw {index : Nat} {v : Int32} (hw : Cond.constant own index v ∈ GW) (hd : decode cc pc = .ok (.ldc_w index, 3)) (k : VE g cc nL own rt hh R mc ms out kc ks (pc + 3) lv (.int v :: rest) w E) : VE g cc nL own rt hh R mc ms out kc ks pc lv rest w E :=
  fun r hr p e s m args below meth c F H locs ls hW hS hl => lv_ldcw F.1 F.2.1 F.2.2.2.1 (F.2.2.2.2.1 _ hw) hd (k r hr p e s m args below meth c F H locs ls hW hS hl)
theorem v_ldcS {index i : Nat} {tx : String} {bs : List Int32} (hi : strTab[i]? = some (own, index, tx, bs)) (hd : decode cc pc = .ok (.ldc index, 2)) (k : VE g cc nL own rt hh R mc ms out kc ks (pc + 2) lv (.ref (g.2.2.2.2.1 i) :: rest) w E) : VE g cc nL own rt hh R mc ms out kc ks pc lv rest w E :=
  fun r hr p e s m args below meth c F H locs ls hW hS hl => va_ldcS F.1 F.2.1 F.2.2.2.1 (F.2.2.2.2.2.2.2.2.1.2.1 i _ hi) hd (k r hr p e s m args below meth c F H locs ls hW hS hl)
theorem v_ldcSw {index i : Nat} {tx : String} {bs : List Int32} (hi : strTab[i]? = some (own, index, tx, bs)) (hd : decode cc pc = .ok (.ldc_w index, 3)) (k : VE g cc nL own rt hh R mc ms out kc ks (pc + 3) lv (.ref (g.2.2.2.2.1 i) :: rest) w E) : VE g cc nL own rt hh R mc ms out kc ks pc lv rest w E := by
  intro r hr p e s m args below meth c F H locs ls hW hS hl T hT X
  obtain ⟨t, a1, b1⟩ := k r hr p e s m args below meth c F H locs ls hW hS hl T hT X
  have hz := F.2.2.2.2.2.2.2.2.1.2.1 i _ hi
  have hz0 : (Cond.stringRef own index tx).before args s = true := hz.1
  exact ⟨t, X.ldcStringW F.1 F.2.2.2.1 (text := tx) (a := g.2.2.2.2.1 i) hz.1 hz.2 (g := F0 m pc ls rest) rfl (by rw [F.2.1]; exact hd) t a1, b1⟩
theorem v_iushr {x y : Int32} (hd : decode cc pc = .ok (.iushr, 1)) (k : VE g cc nL own rt hh R mc ms out kc ks (pc + 1) lv (.int (x.toUInt32 >>> (y.toUInt32 &&& Int32.toUInt32 31)).toInt32 :: rest) w E) : VE g cc nL own rt hh R mc ms out kc ks pc lv (.int y :: .int x :: rest) w E :=
  fun r hr p e s m args below meth c F H locs ls hW hS hl => lv_iushr F.1 F.2.1 hd rfl (k r hr p e s m args below meth c F H locs ls hW hS hl)
theorem v_sld {i : Int32} (hin : vp_in i g.2.2.2.2.2.2.2.1) (hd : decode cc pc = .ok (.iaload, 1)) (k : VE g cc nL own rt hh R mc ms out kc ks (pc + 1) lv (.int (g.2.2.2.2.2.2.2.2.1 i.toNatClampNeg) :: rest) w E) : VE g cc nL own rt hh R mc ms out kc ks pc lv (.int i :: .ref g.2.2.2.2.2.2.1 :: rest) w E :=
  fun r hr p e s m args below meth c F H locs ls hW hS hl => va_ti F.1 F.2.1 F.2.2.2.2.2.2.2.1.2.2.2.1 hS.S hin rfl hd (k r hr p e s m args below meth c F H locs ls hW hS hl)
theorem v_slen (hd : decode cc pc = .ok (.arraylength, 1)) (k : VE g cc nL own rt hh R mc ms out kc ks (pc + 1) lv (.int (Int32.ofNat g.2.2.2.2.2.2.2.1) :: rest) w E) : VE g cc nL own rt hh R mc ms out kc ks pc lv (.ref g.2.2.2.2.2.2.1 :: rest) w E :=
  fun r hr p e s m args below meth c F H locs ls hW hS hl => va_tlen F.1 F.2.1 F.2.2.2.2.2.2.2.1.2.2.2.1 hS.S rfl hd (k r hr p e s m args below meth c F H locs ls hW hS hl)
theorem TT_4 : ∀ k q, TT[k]? = some q → k ≠ 141 → q.1 ≠ 4 := by
  have h : ∀ k, k < 142 → ∀ q ∈ TT[k]?, k ≠ 141 → q.1 ≠ 4 := by decide +kernel
  intro k q hk
  have hl : k < TT.length := (List.getElem?_eq_some_iff.mp hk).1
  exact h k (by have : TT.length = 142 := by decide +kernel
                omega) q hk
theorem TT_141 : TT[141]? = some (4, 70, []) := by decide +kernel
/-- the law's row of long numbers -/
def lset (w : XW) (j : Nat) (v : Int64) : XW := (w.1, fun c => if c = j then v else w.2 c)
theorem v_lastG {n : Nat} {i : Int32} {x : Int64} (hT : TT[141]? = some (4, n, [])) (hin : vp_in i n) (hd : decode cc pc = .ok (.lastore, 1)) (kk : VE g cc nL own rt hh R mc ms out kc ks (pc + 1) lv rest (lset w i.toNatClampNeg x) E) : VE g cc nL own rt hh R mc ms out kc ks pc lv (.long x :: .int i :: .ref (g.2.1 + 141) :: rest) w E := by
  intro r hr p e s m args below meth c F H locs ls hW hS hl
  have h1 := hW 141 _ hT
  have h2 := (F.2.2.2.2.2.1.2 3 _ rfl).1 n (fun j => .long (w.2 j))
  refine W.last F.1 F.2.1 h1 h2 (fun q => by cases q) (by show ¬ (i < 0 ∨ (arrV _ _ _).slots.size ≤ _); rw [arrV_size]; exact hin) rfl rfl hd fun H1 e1 z oq => ?_
  refine kk r hr p e s m args below meth c F H1 _ ls (RW.put hW hT ?_ oq (fun _ _ => rfl) (Or.inr fun k' q' hk' hq' => ?_)) (hS.put hT z oq) hl
  · show H1[_]? = some (vp_cell _ _)
    rw [e1, vp_cell_l, vp_cell_l, arrV_store]
    have ef : updV (fun j => Value.long (w.2 j)) i.toNatClampNeg (.long x) = fun j => Value.long ((lset w i.toNatClampNeg x).2 j) := by
      funext q
      unfold lset
      by_cases hq : q = i.toNatClampNeg
      · simp [updV, hq]
      · simp [updV, hq]
    rw [ef]
  · have q1 := TT_4 k' q' hq' hk'
    obtain ⟨a1, a2⟩ := q'
    unfold layE
    match a1, q1 with
    | 0, _ => rfl
    | 1, _ => rfl
    | 2, _ => rfl
    | 3, _ => rfl
    | 4, h => exact absurd rfl h
    | 5, _ => rfl
    | n + 6, _ => rfl
theorem v_last {i : Int32} {x : Int64} (hin : vp_in i 70) (hd : decode cc pc = .ok (.lastore, 1)) (kk : VE g cc nL own rt hh R mc ms out kc ks (pc + 1) lv rest (lset w i.toNatClampNeg x) E) : VE g cc nL own rt hh R mc ms out kc ks pc lv (.long x :: .int i :: .ref (g.2.1 + 141) :: rest) w E := v_lastG TT_141 hin hd kk
theorem v_lald {i : Int32} (hin : vp_in i 70) (hd : decode cc pc = .ok (.laload, 1)) (k : VE g cc nL own rt hh R mc ms out kc ks (pc + 1) lv (.long (w.2 i.toNatClampNeg) :: rest) w E) : VE g cc nL own rt hh R mc ms out kc ks pc lv (.int i :: .ref (g.2.1 + 141) :: rest) w E :=
  fun r hr p e s m args below meth c F H locs ls hW hS hl => va_lald (D := g.2.2.2.1) (cl := vwCl) (tys := tysL g) (f := w.2) F.1 F.2.1 F.2.2.2.2.2.1 (hW.one TT_141) 0 3 rfl rfl hin hd (k r hr p e s m args below meth c F H locs ls hW hS hl)
theorem v_lret {v : Int64} {r0 : ρ} (hd : decode cc pc = .ok (.lreturn, 1)) (hr : rt = some .long) (ho : out r0 = (.inl (some (.long v)), w)) (h1 : kc ≤ mc) (h2 : ks ≤ ms) : VE g cc nL own rt hh R mc ms out kc ks pc lv [.long v] w (some r0) := by
  intro r hr0 p e s m args below meth c F H locs ls hW hS hl
  cases hr0
  refine vx_ret (W.widen h1 h2 ?_)
  exact W.lret F.1 F.2.1 (F.2.2.2.2.2.2.2.2.2.2.1.trans hr) (fun t ht _ => v_end_aux ho hW hS ht) hS.2.2 hd F.2.2.2.2.2.2.2.2.2.1
theorem v_ldc2 {index : Nat} {v : Int64} (hw : Cond.constantLong own index v ∈ GW) (hd : decode cc pc = .ok (.ldc2_w index, 3)) (k : VE g cc nL own rt hh R mc ms out kc ks (pc + 3) lv (.long v :: rest) w E) : VE g cc nL own rt hh R mc ms out kc ks pc lv rest w E :=
  fun r hr p e s m args below meth c F H locs ls hW hS hl => lv_ldc2 F.1 F.2.1 F.2.2.2.1 (F.2.2.2.2.1 _ hw) hd (k r hr p e s m args below meth c F H locs ls hW hS hl)
theorem v_ldc2d {index : Nat} {v : UInt64} (hw : Cond.constantDouble own index v ∈ GW) (hd : decode cc pc = .ok (.ldc2_w index, 3)) (k : VE g cc nL own rt hh R mc ms out kc ks (pc + 3) lv (.double v :: rest) w E) : VE g cc nL own rt hh R mc ms out kc ks pc lv rest w E :=
  fun r hr p e s m args below meth c F H locs ls hW hS hl => lv_ldc2d F.1 F.2.1 F.2.2.2.1 (F.2.2.2.2.1 _ hw) hd (k r hr p e s m args below meth c F H locs ls hW hS hl)
theorem v_ldcf {index : Nat} {v : UInt32} (hw : Cond.constantFloat own index v ∈ GW) (hd : decode cc pc = .ok (.ldc index, 2)) (k : VE g cc nL own rt hh R mc ms out kc ks (pc + 2) lv (.float v :: rest) w E) : VE g cc nL own rt hh R mc ms out kc ks pc lv rest w E :=
  fun r hr p e s m args below meth c F H locs ls hW hS hl => lv_ldcf F.1 F.2.1 F.2.2.2.1 (F.2.2.2.2.1 _ hw) hd (k r hr p e s m args below meth c F H locs ls hW hS hl)
/-! Math.min, Math.max -/
theorem v_min {index : Nat} {x y : Int32} (h1 : Cond.methodLink own index Lib.Math.min.name ∈ GW) (h2 : Cond.static Lib.Math.min.name ∈ GW) (h3 : Cond.initialized "java/lang/Math" ∈ GW) (h4 : Cond.code Lib.Math.min.name Lib.Math.min.code 2 (some .int) ∈ GW) (hd : decode cc pc = .ok (.invokestatic index, 3)) (hf : 1 ≤ R.frames) (hlo : (rest.map fun v => v.category).sum + 13 ≤ R.locals) (hkc : kc ≤ R.cells) (hks : ks ≤ R.slots)
    (k : VE g cc nL own rt hh R mc ms out kc ks (pc + 3) lv (.int (if y < x then y else x) :: rest) w E) : VE g cc nL own rt hh R mc ms out kc ks pc lv (.int y :: .int x :: rest) w E :=
  fun r hr p e s m args below meth c F H locs ls hW hS hl => va_mmin F.1 F.2.1 (by rw [F.2.2.1]; exact hl.1.symm) F.2.2.2.1 (F.2.2.2.2.1 _ h1) (F.2.2.2.2.1 _ h2) (F.2.2.2.2.1 _ h3) (F.2.2.2.2.1 _ h4) hf hlo hkc hks hd (k r hr p e s m args below meth c F H locs ls hW hS hl)
theorem v_max {index : Nat} {x y : Int32} (h1 : Cond.methodLink own index Lib.Math.max.name ∈ GW) (h2 : Cond.static Lib.Math.max.name ∈ GW) (h3 : Cond.initialized "java/lang/Math" ∈ GW) (h4 : Cond.code Lib.Math.max.name Lib.Math.max.code 2 (some .int) ∈ GW) (hd : decode cc pc = .ok (.invokestatic index, 3)) (hf : 1 ≤ R.frames) (hlo : (rest.map fun v => v.category).sum + 13 ≤ R.locals) (hkc : kc ≤ R.cells) (hks : ks ≤ R.slots)
    (k : VE g cc nL own rt hh R mc ms out kc ks (pc + 3) lv (.int (if x < y then y else x) :: rest) w E) : VE g cc nL own rt hh R mc ms out kc ks pc lv (.int y :: .int x :: rest) w E :=
  fun r hr p e s m args below meth c F H locs ls hW hS hl => va_mmax F.1 F.2.1 (by rw [F.2.2.1]; exact hl.1.symm) F.2.2.2.1 (F.2.2.2.2.1 _ h1) (F.2.2.2.2.1 _ h2) (F.2.2.2.2.1 _ h3) (F.2.2.2.2.1 _ h4) hf hlo hkc hks hd (k r hr p e s m args below meth c F H locs ls hW hS hl)
/-! a method's contract out of its walk -/
theorem MM_of {y : MethodName} {av : List Value} {o : Out} (hl : g.1.stackTraces = false) (hy : plainName y.cls = true) (hcode : Cond.code y cc nL rt ∈ GW) (ho : y.cls = own) (hav : (lg_sl av).length ≤ nL)
    (body : VB g cc nL own rt [] R mc ms o 0 0 0 (lv_args 0 av) [] w) (hR : R.cells = mc ∧ R.slots = ms) : MM g (.code y cc nL rt) y R mc ms av w o := by
  refine vx_ofW (cc := cc) (maxL := nL) (ret := rt) hy rfl ?_
  intro p e s m args below meth c s₁ B hml htab hP
  obtain ⟨rfl, hb, hW, hK, hSF, hSTR⟩ := hP
  have hts := atoms_spec (ws := .code y cc nL rt :: GW) B.pre
  have hown : s.vm.findClass own = some m.cls := ho ▸ findClass_of_methodNamed B.named
  have F : FX g cc nL own rt [] p s m av.toArray meth c := ⟨B.exec, B.bytes, hml, hown, fun z hz => hts z (List.mem_cons_of_mem _ hz), hK, hb, hSF, hSTR, B.notSynchronized, B.returns, hl, by
    cases hct : c.exceptionTable.toList with
    | nil => rfl
    | cons x l => exact absurd (htab x (by rw [hct]; exact List.mem_cons_self)) id⟩
  rw [lg_entry_eq]
  exact body p e s m av.toArray below meth c F s.heap [] _ hW VS.rf (lv_entry av hav)
theorem v_split {c : Prop} [Decidable c] {st : List Value} (h1 : c → VE g cc nL own rt hh R mc ms out kc ks pc lv st w E1) (h2 : ¬ c → VE g cc nL own rt hh R mc ms out kc ks pc lv st w E2) : VE g cc nL own rt hh R mc ms out kc ks pc lv st w (if c then E1 else E2) := by
  intro r hr
  by_cases h : c
  · rw [if_pos h] at hr
    exact h1 h r hr
  · rw [if_neg h] at hr
    exact h2 h r hr
theorem v_tsIn {dflt lo hi : Int} {offs : Array Int} {len : Nat} {x : Int32} (v : Int32) {off : Int} {tgt : Nat} (hx : x = v) (hd : decode cc pc = .ok (.tableswitch dflt lo hi offs, len)) (h1 : ¬ v.toInt < lo) (h2 : ¬ hi < v.toInt) (ho : offs[(v.toInt - lo).toNat]? = some off) (ht : (pc : Int) + off = (tgt : Int)) (k : VE g cc nL own rt hh R mc ms out kc ks tgt lv rest w E) : VE g cc nL own rt hh R mc ms out kc ks pc lv (.int x :: rest) w E := by
  subst hx
  exact fun r hr p e s m args below meth c F H locs ls hW hS hl => lv_tableIn F.1 F.2.1 hd h1 h2 ho ht (k r hr p e s m args below meth c F H locs ls hW hS hl)
theorem v_tsOut {dflt lo hi : Int} {offs : Array Int} {len : Nat} {x : Int32} {tgt : Nat} (hd : decode cc pc = .ok (.tableswitch dflt lo hi offs, len)) (h : x.toInt < lo ∨ hi < x.toInt) (ht : (pc : Int) + dflt = (tgt : Int)) (k : VE g cc nL own rt hh R mc ms out kc ks tgt lv rest w E) : VE g cc nL own rt hh R mc ms out kc ks pc lv (.int x :: rest) w E :=
  fun r hr p e s m args below meth c F H locs ls hW hS hl => lv_tableOut F.1 F.2.1 hd h ht (k r hr p e s m args below meth c F H locs ls hW hS hl)
theorem v_tsNe {x : Int32} {z : Int} {v : Int32} (hv : v.toInt = z) (h : ¬ x = v) : x.toInt ≠ z := fun e => h (Int32.toInt_inj.mp (e.trans hv.symm))
theorem CR_rm {n n' nLy mc ms mcy msy kc ks : Nat} (h : n' < n) (hm : nLy ≤ 45) (hc : kc + mcy ≤ mc) (hs : ks + msy ≤ ms) : CR (rmL n mc ms) nLy mcy msy (rmL n' mcy msy) kc ks :=
  ⟨⟨rfl, rfl, by show 16 + n' + 1 ≤ 16 + n; omega, by show 8 + (nLy + 11) + (200 + 64 * n') ≤ 200 + 64 * n; omega⟩, hc, hs⟩
end CORE
end
section
/-! methods with handlers: what is thrown is caught by a row of the table -/
/-- the script, the text: what the law's methods read beside the store -/
abbrev scG (g : GC) : Nat × (Nat → Int32) := (g.2.2.2.2.2.2.2.1, g.2.2.2.2.2.2.2.2.1)
abbrev txG (g : GC) : List Int32 := g.2.2.2.2.2.2.2.2.2
/-- the letters of a number below a hundred -/
def dgL (v : Int32) : List Int32 := if v < 10 then [48 + v] else [48 + v / 10, 48 + (v - v / 10 * 10)]
def bL {ρ : Type} (F : Option (Int64 × XW)) (K : Int64 → XW → Option ρ) : Option ρ := F.bind fun q => K q.1 q.2
def oL : Int64 × XW → Out := fun q => (.inl (some (.long q.1)), q.2)
theorem CR_k1 {n mc ms kc : Nat} (h : kc ≤ mc) : kc ≤ (rmL n mc ms).cells := h
theorem CR_l1 {kc : Nat} (h : kc ≤ 600390) : kc ≤ room_1.cells := h
theorem CR_l2 {ks : Nat} (h : ks ≤ 7286520) : ks ≤ room_1.slots := h
theorem CR_k2 {n mc ms ks : Nat} (h : ks ≤ ms) : ks ≤ (rmL n mc ms).slots := h
def bCI {ρ : Type} (F : Option ((Int32 × XW) ⊕ (String × XW))) (K : Int32 → XW → Option ρ) (KX : String → XW → Option ρ) : Option ρ := F.bind fun q => match q with | .inl a => K a.1 a.2 | .inr x => KX x.1 x.2
def bCD {ρ : Type} (F : Option ((UInt64 × XW) ⊕ (String × XW))) (K : UInt64 → XW → Option ρ) (KX : String → XW → Option ρ) : Option ρ := F.bind fun q => match q with | .inl a => K a.1 a.2 | .inr x => KX x.1 x.2
def bCF {ρ : Type} (F : Option ((UInt32 × XW) ⊕ (String × XW))) (K : UInt32 → XW → Option ρ) (KX : String → XW → Option ρ) : Option ρ := F.bind fun q => match q with | .inl a => K a.1 a.2 | .inr x => KX x.1 x.2
def CSH (own : String) (index : Nat) (y : MethodName) (cy : ByteArray) (nLy : Nat) (ry : Option FieldType) (hy : List (Nat × Nat × Nat × Nat)) (n : Nat) : Prop := Cond.methodLink own index y ∈ GW ∧ Cond.static y ∈ GW ∧ Cond.initialized y.cls ∈ GW ∧ Cond.codeWith y cy nLy ry hy ∈ GW ∧ (y.cls ≠ "java/lang/invoke/MethodHandle" ∧ y.cls ≠ "java/lang/invoke/VarHandle") ∧ (parseMethodDescriptor y.desc).map (fun d => d.parameters.length) = some n
section WRAP
variable {ρ : Type} {g : GC} {cc : ByteArray} {nL : Nat} {own : String} {rt : Option FieldType} {hh : List (Nat × Nat × Nat × Nat)} {R : Room} {mc ms : Nat} {out : ρ → Out} {kc ks pc : Nat} {lv : List (Nat × Value)} {rest st : List Value} {w : XW} {E E1 E2 : Option ρ}
variable {index nLy n mcy msy k ci N : Nat} {y : MethodName} {cy : ByteArray} {ry : Option FieldType} {rm : Room} {As : List Value} {fs : List (Option Nat)} {T : u_T}
theorem v_callVic {Fy : Option ((Int32 × XW) ⊕ (String × XW))} {K : Int32 → XW → Option ρ} {KX : String → XW → Option ρ} (hc : CV own index y cy nLy ry n) (hM : ∀ q, Fy = some q → MM g (.code y cy nLy ry) y rm mcy msy (.ref (g.2.1 + k) :: As) w (oIX q)) (hT : TT[k]? = some (0, ci, fs)) (hC : vwCl[ci]? = some (y.cls, T, N)) (hn : As.length = n) (hs : st = As.reverse ++ .ref (g.2.1 + k) :: rest) (hst : (rest.map fun v => v.category).sum ≤ 8) (hd : decode cc pc = .ok (.invokevirtual index, 3)) (hR : CR R nLy mcy msy rm kc ks)
    (kk : ∀ x w', VE g cc nL own rt hh R mc ms out (kc + mcy) (ks + msy) (pc + 3) lv (.int x :: rest) w' (K x w')) (kx : ∀ e w', VX g cc nL own rt hh R mc ms out (kc + mcy) (ks + msy) pc lv e w' (KX e w')) : VE g cc nL own rt hh R mc ms out kc ks pc lv st w (bCI Fy K KX) :=
  v_callV hc hM hT hC hn hs hst hd hR (fun q v w' h => by
    cases q with
    | inl q => cases h; exact kk _ _
    | inr x => cases h) (fun q E0 w' h => by
    cases q with
    | inl q => cases h
    | inr x => cases h; exact kx _ _)
theorem v_callVdc {Fy : Option ((UInt64 × XW) ⊕ (String × XW))} {K : UInt64 → XW → Option ρ} {KX : String → XW → Option ρ} (hc : CV own index y cy nLy ry n) (hM : ∀ q, Fy = some q → MM g (.code y cy nLy ry) y rm mcy msy (.ref (g.2.1 + k) :: As) w (oDX q)) (hT : TT[k]? = some (0, ci, fs)) (hC : vwCl[ci]? = some (y.cls, T, N)) (hn : As.length = n) (hs : st = As.reverse ++ .ref (g.2.1 + k) :: rest) (hst : (rest.map fun v => v.category).sum ≤ 8) (hd : decode cc pc = .ok (.invokevirtual index, 3)) (hR : CR R nLy mcy msy rm kc ks)
    (kk : ∀ x w', VE g cc nL own rt hh R mc ms out (kc + mcy) (ks + msy) (pc + 3) lv (.double x :: rest) w' (K x w')) (kx : ∀ e w', VX g cc nL own rt hh R mc ms out (kc + mcy) (ks + msy) pc lv e w' (KX e w')) : VE g cc nL own rt hh R mc ms out kc ks pc lv st w (bCD Fy K KX) :=
  v_callV hc hM hT hC hn hs hst hd hR (fun q v w' h => by
    cases q with
    | inl q => cases h; exact kk _ _
    | inr x => cases h) (fun q E0 w' h => by
    cases q with
    | inl q => cases h
    | inr x => cases h; exact kx _ _)
theorem v_callVfc {Fy : Option ((UInt32 × XW) ⊕ (String × XW))} {K : UInt32 → XW → Option ρ} {KX : String → XW → Option ρ} (hc : CV own index y cy nLy ry n) (hM : ∀ q, Fy = some q → MM g (.code y cy nLy ry) y rm mcy msy (.ref (g.2.1 + k) :: As) w (oFX q)) (hT : TT[k]? = some (0, ci, fs)) (hC : vwCl[ci]? = some (y.cls, T, N)) (hn : As.length = n) (hs : st = As.reverse ++ .ref (g.2.1 + k) :: rest) (hst : (rest.map fun v => v.category).sum ≤ 8) (hd : decode cc pc = .ok (.invokevirtual index, 3)) (hR : CR R nLy mcy msy rm kc ks)
    (kk : ∀ x w', VE g cc nL own rt hh R mc ms out (kc + mcy) (ks + msy) (pc + 3) lv (.float x :: rest) w' (K x w')) (kx : ∀ e w', VX g cc nL own rt hh R mc ms out (kc + mcy) (ks + msy) pc lv e w' (KX e w')) : VE g cc nL own rt hh R mc ms out kc ks pc lv st w (bCF Fy K KX) :=
  v_callV hc hM hT hC hn hs hst hd hR (fun q v w' h => by
    cases q with
    | inl q => cases h; exact kk _ _
    | inr x => cases h) (fun q E0 w' h => by
    cases q with
    | inl q => cases h
    | inr x => cases h; exact kx _ _)
theorem v_callVd {Fy : Option (UInt64 × XW)} {K : UInt64 → XW → Option ρ} (hc : CV own index y cy nLy ry n) (hM : ∀ q, Fy = some q → MM g (.code y cy nLy ry) y rm mcy msy (.ref (g.2.1 + k) :: As) w (oD q)) (hT : TT[k]? = some (0, ci, fs)) (hC : vwCl[ci]? = some (y.cls, T, N)) (hn : As.length = n) (hs : st = As.reverse ++ .ref (g.2.1 + k) :: rest) (hst : (rest.map fun v => v.category).sum ≤ 8) (hd : decode cc pc = .ok (.invokevirtual index, 3)) (hR : CR R nLy mcy msy rm kc ks)
    (kk : ∀ x w', VE g cc nL own rt hh R mc ms out (kc + mcy) (ks + msy) (pc + 3) lv (.double x :: rest) w' (K x w')) : VE g cc nL own rt hh R mc ms out kc ks pc lv st w (bD Fy K) :=
  v_callV hc hM hT hC hn hs hst hd hR (fun q v w' h => by cases h; exact kk q.1 q.2) (fun q E0 w' h => by cases h)
theorem v_callVf {Fy : Option (UInt32 × XW)} {K : UInt32 → XW → Option ρ} (hc : CV own index y cy nLy ry n) (hM : ∀ q, Fy = some q → MM g (.code y cy nLy ry) y rm mcy msy (.ref (g.2.1 + k) :: As) w (oF q)) (hT : TT[k]? = some (0, ci, fs)) (hC : vwCl[ci]? = some (y.cls, T, N)) (hn : As.length = n) (hs : st = As.reverse ++ .ref (g.2.1 + k) :: rest) (hst : (rest.map fun v => v.category).sum ≤ 8) (hd : decode cc pc = .ok (.invokevirtual index, 3)) (hR : CR R nLy mcy msy rm kc ks)
    (kk : ∀ x w', VE g cc nL own rt hh R mc ms out (kc + mcy) (ks + msy) (pc + 3) lv (.float x :: rest) w' (K x w')) : VE g cc nL own rt hh R mc ms out kc ks pc lv st w (bF Fy K) :=
  v_callV hc hM hT hC hn hs hst hd hR (fun q v w' h => by cases h; exact kk q.1 q.2) (fun q E0 w' h => by cases h)
theorem v_callSl {Fy : Option (Int64 × XW)} {K : Int64 → XW → Option ρ} (hc : CS own index y cy nLy ry n) (hM : ∀ q, Fy = some q → MM g (.code y cy nLy ry) y rm mcy msy As w (oL q)) (hn : As.length = n) (hs : st = As.reverse ++ rest) (hst : (rest.map fun v => v.category).sum ≤ 8) (hd : decode cc pc = .ok (.invokestatic index, 3)) (hR : CR R nLy mcy msy rm kc ks)
    (kk : ∀ x w', VE g cc nL own rt hh R mc ms out (kc + mcy) (ks + msy) (pc + 3) lv (.long x :: rest) w' (K x w')) : VE g cc nL own rt hh R mc ms out kc ks pc lv st w (bL Fy K) :=
  v_callS hc hM hn hs hst hd hR (fun q v w' h => by cases h; exact kk q.1 q.2) (fun q E0 w' h => by cases h)
/-- a static call of a method with handlers -/
theorem v_callSh {Fy : Option (Int32 × XW)} {K : Int32 → XW → Option ρ} {hy : List (Nat × Nat × Nat × Nat)} (hc : CSH own index y cy nLy ry hy n) (hM : ∀ q, Fy = some q → MM g (.codeWith y cy nLy ry hy) y rm mcy msy As w (oI q)) (hn : As.length = n) (hs : st = As.reverse ++ rest) (hst : (rest.map fun v => v.category).sum ≤ 8) (hd : decode cc pc = .ok (.invokestatic index, 3)) (hR : CR R nLy mcy msy rm kc ks)
    (kk : ∀ x w', VE g cc nL own rt hh R mc ms out (kc + mcy) (ks + msy) (pc + 3) lv (.int x :: rest) w' (K x w')) : VE g cc nL own rt hh R mc ms out kc ks pc lv st w (bI Fy K) := by
  intro r hr p e s m args below meth c F H locs ls hW hS hl
  cases hF : Fy with
  | none => rw [hF] at hr; cases hr
  | some q =>
    rw [hF] at hr
    have hr' : K q.1 q.2 = some r := hr
    subst hs
    have hts := F.2.2.2.2.1
    obtain ⟨c1, c2, c4, c5, c6, c7⟩ := hc
    refine v_run_aux (o := oI q) (vx_runSX (hh := hy) (Ts := GW) (nL := nL) (n := n) (bytes := cy) (maxL := nLy) (ret := ry) ⟨F.1, F.2.1, F.2.2.1, F.2.2.2.1, hts⟩ (hM q hF)
      ⟨⟨hR.1.1, hR.1.2.1, hR.1.2.2.1, hR.1.2.2.2, GW_pay c5 hts, List.mem_cons_self⟩, hts _ c5, hts _ c4, c6, v_len c7, hts _ c1, hts _ c2⟩
      ⟨PO_blind, fun U hU hX => v_pre F hW hS hU hX⟩ rfl hn hl.1 rfl (by show 2 * 0 + _ ≤ 8; omega) hd hR.2) hS ?_ ?_
    · intro v w' ho H1 locs1 hW1 hS1
      cases ho
      exact kk q.1 q.2 r hr' p e s m args below meth c F H1 locs1 ls hW1 hS1 hl
    · intro E0 w' ho
      cases ho
theorem v_callShd {Fy : Option (UInt64 × XW)} {K : UInt64 → XW → Option ρ} {hy : List (Nat × Nat × Nat × Nat)} (hc : CSH own index y cy nLy ry hy n) (hM : ∀ q, Fy = some q → MM g (.codeWith y cy nLy ry hy) y rm mcy msy As w (oD q)) (hn : As.length = n) (hs : st = As.reverse ++ rest) (hst : (rest.map fun v => v.category).sum ≤ 8) (hd : decode cc pc = .ok (.invokestatic index, 3)) (hR : CR R nLy mcy msy rm kc ks)
    (kk : ∀ x w', VE g cc nL own rt hh R mc ms out (kc + mcy) (ks + msy) (pc + 3) lv (.double x :: rest) w' (K x w')) : VE g cc nL own rt hh R mc ms out kc ks pc lv st w (bD Fy K) := by
  intro r hr p e s m args below meth c F H locs ls hW hS hl
  cases hF : Fy with
  | none => rw [hF] at hr; cases hr
  | some q =>
    rw [hF] at hr
    have hr' : K q.1 q.2 = some r := hr
    subst hs
    have hts := F.2.2.2.2.1
    obtain ⟨c1, c2, c4, c5, c6, c7⟩ := hc
    refine v_run_aux (o := oD q) (vx_runSX (hh := hy) (Ts := GW) (nL := nL) (n := n) (bytes := cy) (maxL := nLy) (ret := ry) ⟨F.1, F.2.1, F.2.2.1, F.2.2.2.1, hts⟩ (hM q hF)
      ⟨⟨hR.1.1, hR.1.2.1, hR.1.2.2.1, hR.1.2.2.2, GW_pay c5 hts, List.mem_cons_self⟩, hts _ c5, hts _ c4, c6, v_len c7, hts _ c1, hts _ c2⟩
      ⟨PO_blind, fun U hU hX => v_pre F hW hS hU hX⟩ rfl hn hl.1 rfl (by show 2 * 0 + _ ≤ 8; omega) hd hR.2) hS ?_ ?_
    · intro v w' ho H1 locs1 hW1 hS1
      cases ho
      exact kk q.1 q.2 r hr' p e s m args below meth c F H1 locs1 ls hW1 hS1 hl
    · intro E0 w' ho
      cases ho
theorem v_callShf {Fy : Option (UInt32 × XW)} {K : UInt32 → XW → Option ρ} {hy : List (Nat × Nat × Nat × Nat)} (hc : CSH own index y cy nLy ry hy n) (hM : ∀ q, Fy = some q → MM g (.codeWith y cy nLy ry hy) y rm mcy msy As w (oF q)) (hn : As.length = n) (hs : st = As.reverse ++ rest) (hst : (rest.map fun v => v.category).sum ≤ 8) (hd : decode cc pc = .ok (.invokestatic index, 3)) (hR : CR R nLy mcy msy rm kc ks)
    (kk : ∀ x w', VE g cc nL own rt hh R mc ms out (kc + mcy) (ks + msy) (pc + 3) lv (.float x :: rest) w' (K x w')) : VE g cc nL own rt hh R mc ms out kc ks pc lv st w (bF Fy K) := by
  intro r hr p e s m args below meth c F H locs ls hW hS hl
  cases hF : Fy with
  | none => rw [hF] at hr; cases hr
  | some q =>
    rw [hF] at hr
    have hr' : K q.1 q.2 = some r := hr
    subst hs
    have hts := F.2.2.2.2.1
    obtain ⟨c1, c2, c4, c5, c6, c7⟩ := hc
    refine v_run_aux (o := oF q) (vx_runSX (hh := hy) (Ts := GW) (nL := nL) (n := n) (bytes := cy) (maxL := nLy) (ret := ry) ⟨F.1, F.2.1, F.2.2.1, F.2.2.2.1, hts⟩ (hM q hF)
      ⟨⟨hR.1.1, hR.1.2.1, hR.1.2.2.1, hR.1.2.2.2, GW_pay c5 hts, List.mem_cons_self⟩, hts _ c5, hts _ c4, c6, v_len c7, hts _ c1, hts _ c2⟩
      ⟨PO_blind, fun U hU hX => v_pre F hW hS hU hX⟩ rfl hn hl.1 rfl (by show 2 * 0 + _ ≤ 8; omega) hd hR.2) hS ?_ ?_
    · intro v w' ho H1 locs1 hW1 hS1
      cases ho
      exact kk q.1 q.2 r hr' p e s m args below meth c F H1 locs1 ls hW1 hS1 hl
    · intro E0 w' ho
      cases ho
theorem v_xnone {e : String} : VX g cc nL own rt hh R mc ms out kc ks pc lv e w (none : Option ρ) := fun r hr => by cases hr
theorem v_xsplit {e a : String} (h1 : VX g cc nL own rt hh R mc ms out kc ks pc lv a w E1) (h2 : VX g cc nL own rt hh R mc ms out kc ks pc lv e w E2) : VX g cc nL own rt hh R mc ms out kc ks pc lv e w (if e = a then E1 else E2) := by
  intro r hr
  by_cases h : e = a
  · rw [if_pos h] at hr
    subst h
    exact h1 r hr
  · rw [if_neg h] at hr
    exact h2 r hr
theorem v_catch {a : String} (pre : List (Nat × Nat × Nat × Nat)) (x : Nat × Nat × Nat × Nat) (suf : List (Nat × Nat × Nat × Nat)) (hs : hh = pre ++ x :: suf) (hpass : ∀ z ∈ pre, z.2.2.2 ≠ 0 ∧ ∃ nm : String, Cond.classLink own z.2.2.2 nm ∈ GW ∧ (a, nm) ∈ ncTab)
    (hx : covers ⟨x.1, x.2.1, x.2.2.1, x.2.2.2⟩ pc = true) (h0 : x.2.2.2 ≠ 0) (hlink : Cond.classLink own x.2.2.2 a ∈ GW) (hcast : Cond.castable a a ∈ NGW) (kk : ∀ q : Nat, VE g cc nL own rt hh R mc ms out kc ks x.2.2.1 lv [.ref q] w E) : VX g cc nL own rt hh R mc ms out kc ks pc lv a w E := by
  intro r hr p e s m args below meth c F H locs ls rest q ce hW hS hl hce hcv hcl
  have hts := F.2.2.2.2.1
  have htab : c.exceptionTable.toList = tableOf hh := F.2.2.2.2.2.2.2.2.2.2.2.2
  have htab2 : c.exceptionTable.toList = tableOf pre ++ ⟨x.1, x.2.1, x.2.2.1, x.2.2.2⟩ :: tableOf suf := by
    rw [htab, hs]
    simp [tableOf]
  refine vx_catch (name := a) F.2.2.2.1 (tableOf pre) _ (tableOf suf) htab2 ?_ hx h0 (hts _ hlink) (ng_moved (u := s) (U := s) (a := #[]) (a' := args) (Vm.Alike.refl s.vm) hcast (F.2.2.2.2.2.2.2.2.1.1 _ hcast)) hce hcv hcl (kk q r hr p e s m args below meth c F H locs ls hW hS hl)
  intro z hz
  unfold tableOf at hz
  obtain ⟨z', hz', rfl⟩ := List.mem_map.mp hz
  obtain ⟨h1, nm, h2, h3⟩ := hpass z' hz'
  exact Or.inr ⟨h1, nm, hts _ h2, F.2.2.2.2.2.2.2.2.1.2.2 _ h3⟩
theorem MM_ofH {y : MethodName} {av : List Value} {o : Out} (hl : g.1.stackTraces = false) (hy : plainName y.cls = true) (hcode : Cond.codeWith y cc nL rt hh ∈ GW) (ho : y.cls = own) (hav : (lg_sl av).length ≤ nL)
    (body : VB g cc nL own rt hh R mc ms o 0 0 0 (lv_args 0 av) [] w) (hR : R.cells = mc ∧ R.slots = ms) : MM g (.codeWith y cc nL rt hh) y R mc ms av w o := by
  refine vx_ofWH (cc := cc) (maxL := nL) (ret := rt) (hh := hh) hy rfl ?_
  intro p e s m args below meth c s₁ B hml hP
  obtain ⟨rfl, hb, hW, hK, hSF, hSTR⟩ := hP
  have hts := atoms_spec (ws := .codeWith y cc nL rt hh :: GW) B.pre
  have hown : s.vm.findClass own = some m.cls := ho ▸ findClass_of_methodNamed B.named
  have F : FX g cc nL own rt hh p s m av.toArray meth c := ⟨B.exec, B.bytes, hml, hown, fun z hz => hts z (List.mem_cons_of_mem _ hz), hK, hb, hSF, hSTR, B.notSynchronized, B.returns, hl, vx_table (x := y) B (hts _ List.mem_cons_self)⟩
  rw [lg_entry_eq]
  exact body p e s m av.toArray below meth c F s.heap [] _ hW VS.rf (lv_entry av hav)
theorem CR_law {n' nLy mcy msy kc ks : Nat} (h : n' ≤ 1000) (hm : nLy ≤ 45) (hc : kc + mcy ≤ 600390) (hs : ks + msy ≤ 7286520) : CR room_1 nLy mcy msy (rmL n' mcy msy) kc ks :=
  ⟨⟨rfl, rfl, by show 16 + n' + 1 ≤ 2048; omega, by show 8 + (nLy + 11) + (200 + 64 * n') ≤ 94400; omega⟩, hc, hs⟩
end WRAP
end
section
/-! words of the tables, by their places; what they say of fields and calls; shapes by number -/
def exN : List String := ["java/lang/RuntimeException", "java/lang/Exception"]
theorem exN_ok : ∀ n ∈ exN, Bundle.fit n = true := by decide
theorem GW_all (ws : List Cond) (h : ws.all (fun w => (decide (w ∈ lw_tbl) && goodWord w) || decide (w ∈ NGW)) = true) : ∀ w ∈ ws, w ∈ GW ∨ w ∈ NGW := fun w hw => by
  have h2 := List.all_eq_true.mp h w hw
  simp only [Bool.or_eq_true, Bool.and_eq_true, decide_eq_true_eq] at h2
  rcases h2 with h2 | h2
  · exact Or.inl (List.mem_filter.mpr ⟨List.mem_append_left _ h2.1, h2.2⟩)
  · exact Or.inr h2
theorem GW_s1 {w : Cond} (h : w ∈ lw_tbl) (hg : goodWord w = true) : w ∈ GW := List.mem_filter.mpr ⟨List.mem_append_left _ h, hg⟩
theorem GW_t1 (i : Nat) {w : Cond} (h : tables_1_1[i]? = some w) (hg : goodWord w = true) : w ∈ GW := GW_s1 (List.mem_append_right _ (List.mem_append_left _ (List.mem_of_getElem? h))) hg
theorem GW_t2 (i : Nat) {w : Cond} (h : tables_1_2[i]? = some w) (hg : goodWord w = true) : w ∈ GW := GW_s1 (List.mem_append_right _ (List.mem_append_right _ (List.mem_append_left _ (List.mem_of_getElem? h)))) hg
theorem GW_t3 (i : Nat) {w : Cond} (h : tables_1_3[i]? = some w) (hg : goodWord w = true) : w ∈ GW := GW_s1 (List.mem_append_right _ (List.mem_append_right _ (List.mem_append_right _ (List.mem_append_left _ (List.mem_of_getElem? h))))) hg
theorem GW_t4 (i : Nat) {w : Cond} (h : tables_1_4[i]? = some w) (hg : goodWord w = true) : w ∈ GW := GW_s1 (List.mem_append_right _ (List.mem_append_right _ (List.mem_append_right _ (List.mem_append_right _ (List.mem_append_left _ (List.mem_of_getElem? h)))))) hg
theorem GW_t5 (i : Nat) {w : Cond} (h : tables_1_5[i]? = some w) (hg : goodWord w = true) : w ∈ GW := GW_s1 (List.mem_append_right _ (List.mem_append_right _ (List.mem_append_right _ (List.mem_append_right _ (List.mem_append_right _ (List.mem_append_left _ (List.mem_of_getElem? h))))))) hg
theorem GW_t6 (i : Nat) {w : Cond} (h : tables_1_6[i]? = some w) (hg : goodWord w = true) : w ∈ GW := GW_s1 (List.mem_append_right _ (List.mem_append_right _ (List.mem_append_right _ (List.mem_append_right _ (List.mem_append_right _ (List.mem_append_right _ (List.mem_append_left _ (List.mem_of_getElem? h)))))))) hg
theorem GW_t7 (i : Nat) {w : Cond} (h : tables_1_7[i]? = some w) (hg : goodWord w = true) : w ∈ GW := GW_s1 (List.mem_append_right _ (List.mem_append_right _ (List.mem_append_right _ (List.mem_append_right _ (List.mem_append_right _ (List.mem_append_right _ (List.mem_append_right _ (List.mem_of_getElem? h)))))))) hg
theorem GW_pr (i : Nat) {q : MethodName × Nat} (h : lw_privs[i]? = some q) : Cond.selects q.1.cls q.1 q.1 ∈ GW := GW_s1 (List.mem_append_left _ (List.mem_map.mpr ⟨q, List.mem_of_getElem? h, rfl⟩)) rfl
def rowN (k : Nat) : Nat := (TT.getD (k + 1) (0, 0, [])).2.1
def isX9 (k : Nat) : Prop := TT[k]? = some (0, 9, [none, none, none, some (k + 1), some (k + 2)]) ∧ TT[k + 1]? = some (1, 7, []) ∧ TT[k + 2]? = some (1, 7, [])
def isX4 (k : Nat) : Prop := TT[k]? = some (0, 4, [none, some (k + 1)]) ∧ TT[k + 1]? = some (1, 7, [])
def isX5 (k : Nat) : Prop := TT[k]? = some (0, 5, [none, some (k + 1), some (k + 2), some (k + 3), some (k + 4)]) ∧ TT[k + 1]? = some (1, 10, []) ∧ TT[k + 2]? = some (1, 10, []) ∧ TT[k + 3]? = some (1, 10, []) ∧ TT[k + 4]? = some (2, 10, [])
def isX6 (k : Nat) : Prop := TT[k]? = some (0, 6, [some (k + 1), none]) ∧ TT[k + 1]? = some (3, rowN k, [])
def isX8 (k : Nat) : Prop := TT[k]? = some (0, 8, [some (k + 1), some (k + 4), some (k + 6)]) ∧ isX9 (k + 1) ∧ isX4 (k + 4) ∧ isX5 (k + 6)
theorem CR_t1 (n a b : Nat) : exN.length + 3 < (rmL n a b).frames := by show 2 + 3 < 16 + n; omega
theorem CR_t2 {rest : List Value} (h : (rest.map fun v => v.category).sum ≤ 8) (n a b : Nat) : (rest.map fun v => v.category).sum + (13 * (exN.length + 1) + 42) ≤ (rmL n a b).locals := by show _ + (13 * (2 + 1) + 42) ≤ 200 + 64 * n; omega
theorem CR_f1 (n a b : Nat) : 1 ≤ (rmL n a b).frames := by show 1 ≤ 16 + n; omega
theorem CR_f2 {rest : List Value} (h : (rest.map fun v => v.category).sum ≤ 8) (n a b : Nat) : (rest.map fun v => v.category).sum + 13 ≤ (rmL n a b).locals := by show _ + 13 ≤ 200 + 64 * n; omega
theorem CR_f3 {rest : List Value} (h : (rest.map fun v => v.category).sum ≤ 8) (n a b : Nat) : (rest.map fun v => v.category).sum + (nativeFrameWords "java/lang/System" "arraycopy" 5 + 11) ≤ (rmL n a b).locals := by
  have : nativeFrameWords "java/lang/System" "arraycopy" 5 ≤ 100 := by decide
  show _ + (nativeFrameWords "java/lang/System" "arraycopy" 5 + 11) ≤ 200 + 64 * n
  omega
abbrev okF64 (x : UInt64) : Prop := (x &&& 9223372036854775807 ≤ 9218868437227405312)
abbrev okF32 (x : UInt32) : Prop := (x &&& 2147483647 ≤ 2139095040)
theorem okF64_ok {x : UInt64} (h : okF64 x) : vf_n64 x := by simpa [vf_n64] using h
theorem okF32_ok {x : UInt32} (h : okF32 x) : vf_n32 x := by simpa [vf_n32] using h
theorem nar_ok {x : Int32} (h : vp_nar .boolean x = x) : narrow .boolean (.int x) = .int x := congrArg Value.int h
theorem narB_ok {x : Int32} (h : vp_nar .boolean x = x) : narrow .boolean (.int x) = .int x := congrArg Value.int h
theorem narC_ok {x : Int32} (h : vp_nar .char x = x) : narrow .char (.int x) = .int x := congrArg Value.int h
theorem aald8 {i : Int32} (h : inB i 8) : [some 36, some 47, some 58, some 69, some 80, some 91, some 102, some 113].getD i.toNatClampNeg none = some (36 + 11 * i.toNatClampNeg) := by
  have h8 : i.toNatClampNeg < 8 := by
    rcases Nat.lt_or_ge i.toNatClampNeg 8 with q | q
    · exact q
    · exact absurd (Or.inr q) h
  generalize i.toNatClampNeg = j at h8
  match j, h8 with
  | 0, _ => rfl
  | 1, _ => rfl
  | 2, _ => rfl
  | 3, _ => rfl
  | 4, _ => rfl
  | 5, _ => rfl
  | 6, _ => rfl
  | 7, _ => rfl
abbrev stOK (t : Nat) : Prop := t = 36 ∨ t = 47 ∨ t = 58 ∨ t = 69 ∨ t = 80 ∨ t = 91 ∨ t = 102 ∨ t = 113
theorem gw_274 : Cond.fieldLink "FoldedArchive$CommandReader" 18 "FoldedArchive$CommandReader" "count" "I" ∈ GW := GW_t1 230 rfl rfl
theorem gw_280 : Cond.laysFinal "FoldedArchive$CommandReader" "FoldedArchive$CommandReader" "kinds" "[I" ∈ GW := GW_t1 236 rfl rfl
theorem gw_282 : Cond.laysFinal "FoldedArchive$CommandReader" "FoldedArchive$CommandReader" "operands" "[I" ∈ GW := GW_t1 238 rfl rfl
theorem gw_284 : Cond.lays "FoldedArchive$CommandReader" "FoldedArchive$CommandReader" "count" "I" ∈ GW := GW_t2 0 rfl rfl
theorem gw_286 : Cond.lays "FoldedArchive$CommandReader" "FoldedArchive$CommandReader" "fault" "I" ∈ GW := GW_t2 2 rfl rfl
theorem gw_288 : Cond.lays "FoldedArchive$CommandReader" "FoldedArchive$CommandReader" "position" "I" ∈ GW := GW_t2 4 rfl rfl
theorem gw_290 : Cond.lays "FoldedArchive$CommandReader" "FoldedArchive$CommandReader" "operandsRead" "I" ∈ GW := GW_t2 6 rfl rfl
theorem inG_X0 : ∀ w ∈ u_ws RX0 TX0 6, w ∈ GW := by
  have e : u_ws RX0 TX0 6 = [u_lay RX0 TX0 0, u_lay RX0 TX0 1, u_lay RX0 TX0 2, u_lay RX0 TX0 3, u_lay RX0 TX0 4, u_lay RX0 TX0 5] := rfl
  rw [e]
  exact List.forall_mem_cons.mpr ⟨gw_280, List.forall_mem_cons.mpr ⟨gw_282, List.forall_mem_cons.mpr ⟨gw_284, List.forall_mem_cons.mpr ⟨gw_286, List.forall_mem_cons.mpr ⟨gw_288, List.forall_mem_cons.mpr ⟨gw_290, fun _ h => absurd h List.not_mem_nil⟩⟩⟩⟩⟩⟩
theorem fl_X0_18 : FL RX0 18 0 2 "I" false := ⟨RX0, TX0, 6, tyX0, rfl, inG_X0, by decide, gw_274, tyX0_ok, nmX0, rfl, rfl⟩
theorem tt_138 : TT[138]? = some (0, 0, [some 139, some 140, none, none, none, none]) := by decide +kernel
theorem gw_272 : Cond.fieldLink "FoldedArchive$CommandReader" 9 "FoldedArchive$CommandReader" "kinds" "[I" ∈ GW := GW_t1 228 rfl rfl
theorem fl_X0_9 : FL RX0 9 0 0 "[I" true := ⟨RX0, TX0, 6, tyX0, rfl, inG_X0, by decide, gw_272, tyX0_ok, nmX0, rfl, rfl⟩
theorem tt_139 : TT[139]? = some (1, 60, []) := by decide +kernel
theorem gw_1345 : Cond.code yX0_kindOf cX0_kindOf 2 (some .int) ∈ GW := GW_t6 101 rfl rfl
theorem gw_273 : Cond.fieldLink "FoldedArchive$CommandReader" 15 "FoldedArchive$CommandReader" "operands" "[I" ∈ GW := GW_t1 229 rfl rfl
theorem fl_X0_15 : FL RX0 15 0 1 "[I" true := ⟨RX0, TX0, 6, tyX0, rfl, inG_X0, by decide, gw_273, tyX0_ok, nmX0, rfl, rfl⟩
theorem tt_140 : TT[140]? = some (1, 180, []) := by decide +kernel
theorem gw_1349 : Cond.code yX0_operandOf cX0_operandOf 4 (some .int) ∈ GW := GW_t6 105 rfl rfl
theorem gw_1282 : Cond.code yX0_shapeOf cX0_shapeOf 1 (some (.object "java/lang/String")) ∈ GW := GW_t6 38 rfl rfl
theorem gw_236 : Cond.fieldLink "FoldedArchive$Row" 21 "FoldedArchive$Row" "length" "I" ∈ GW := GW_t1 192 rfl rfl
theorem gw_240 : Cond.laysFinal "FoldedArchive$Row" "FoldedArchive$Row" "signs" "[C" ∈ GW := GW_t1 196 rfl rfl
theorem gw_242 : Cond.lays "FoldedArchive$Row" "FoldedArchive$Row" "length" "I" ∈ GW := GW_t1 198 rfl rfl
theorem inG_X6 : ∀ w ∈ u_ws RX6 TX6 2, w ∈ GW := by
  have e : u_ws RX6 TX6 2 = [u_lay RX6 TX6 0, u_lay RX6 TX6 1] := rfl
  rw [e]
  exact List.forall_mem_cons.mpr ⟨gw_240, List.forall_mem_cons.mpr ⟨gw_242, fun _ h => absurd h List.not_mem_nil⟩⟩
theorem fl_X6_21 : FL RX6 21 6 1 "I" false := ⟨RX6, TX6, 2, tyX6, rfl, inG_X6, by decide, gw_236, tyX6_ok, nmX6, rfl, rfl⟩
theorem gw_235 : Cond.fieldLink "FoldedArchive$Row" 15 "FoldedArchive$Row" "signs" "[C" ∈ GW := GW_t1 191 rfl rfl
theorem fl_X6_15 : FL RX6 15 6 0 "[C" true := ⟨RX6, TX6, 2, tyX6, rfl, inG_X6, by decide, gw_235, tyX6_ok, nmX6, rfl, rfl⟩
theorem gw_1308 : Cond.code yX6_at cX6_at 2 (some .char) ∈ GW := GW_t6 64 rfl rfl
theorem gw_1314 : Cond.code yX0_isDigit cX0_isDigit 1 (some .boolean) ∈ GW := GW_t6 70 rfl rfl
theorem gw_733 : Cond.code yX9_isTerm cX9_isTerm 1 (some .boolean) ∈ GW := GW_t3 209 rfl rfl
theorem gw_1312 : Cond.methodLink "FoldedArchive$CommandReader" 109 yX0_isDigit ∈ GW := GW_t6 68 rfl rfl
theorem gw_1313 : Cond.static yX0_isDigit ∈ GW := GW_t6 69 rfl rfl
theorem gw_56 : Cond.initialized "FoldedArchive$CommandReader" ∈ GW := GW_t1 12 rfl rfl
theorem cs_X0_109 : CS RX0 109 yX0_isDigit cX0_isDigit 1 (some .boolean) 1 := ⟨gw_1312, gw_1313, gw_56, gw_1314, by decide +kernel, by decide +kernel⟩
theorem gw_1315 : Cond.methodLink "FoldedArchive$CommandReader" 113 yX9_isTerm ∈ GW := GW_t6 71 rfl rfl
theorem gw_732 : Cond.static yX9_isTerm ∈ GW := GW_t3 208 rfl rfl
theorem gw_47 : Cond.initialized "FoldedArchive$Strip" ∈ GW := GW_t1 3 rfl rfl
theorem cs_X0_113 : CS RX0 113 yX9_isTerm cX9_isTerm 1 (some .boolean) 1 := ⟨gw_1315, gw_732, gw_47, gw_733, by decide +kernel, by decide +kernel⟩
theorem gw_1311 : Cond.code yX0_fits cX0_fits 2 (some .boolean) ∈ GW := GW_t6 67 rfl rfl
theorem gw_279 : Cond.fieldLink "FoldedArchive$CommandReader" 83 "FoldedArchive$CommandReader" "operandsRead" "I" ∈ GW := GW_t1 235 rfl rfl
theorem fl_X0_83 : FL RX0 83 0 5 "I" false := ⟨RX0, TX0, 6, tyX0, rfl, inG_X0, by decide, gw_279, tyX0_ok, nmX0, rfl, rfl⟩
theorem gw_1319 : Cond.code yX0_takeOperand cX0_takeOperand 3 none ∈ GW := GW_t6 75 rfl rfl
theorem gw_278 : Cond.fieldLink "FoldedArchive$CommandReader" 29 "FoldedArchive$CommandReader" "position" "I" ∈ GW := GW_t1 234 rfl rfl
theorem fl_X0_29 : FL RX0 29 0 4 "I" false := ⟨RX0, TX0, 6, tyX0, rfl, inG_X0, by decide, gw_278, tyX0_ok, nmX0, rfl, rfl⟩
theorem gw_1305 : Cond.methodLink "FoldedArchive$CommandReader" 37 yX6_at ∈ GW := GW_t6 61 rfl rfl
theorem gw_1306 : Cond.instanceMethod yX6_at ∈ GW := GW_t6 62 rfl rfl
theorem gw_1307 : Cond.selects yX6_at.cls yX6_at yX6_at ∈ GW := GW_t6 63 rfl rfl
theorem gw_53 : Cond.initialized "FoldedArchive$Row" ∈ GW := GW_t1 9 rfl rfl
theorem cv_X0_37 : CV RX0 37 yX6_at cX6_at 2 (some .char) 1 := ⟨gw_1305, gw_1306, gw_1307, gw_53, gw_1308, by decide +kernel, by decide +kernel⟩
theorem tt_132 : TT[132]? = some (0, 6, [some 133, none]) := by decide +kernel
theorem tt_133 : TT[133]? = some (3, 60, []) := by decide +kernel
theorem is6_132 : isX6 132 := ⟨tt_132, tt_133⟩
theorem gw_1323 : Cond.code yX0_numberFrom cX0_numberFrom 4 (some .int) ∈ GW := GW_t6 79 rfl rfl
theorem gw_1309 : Cond.methodLink "FoldedArchive$CommandReader" 98 yX0_fits ∈ GW := GW_t6 65 rfl rfl
theorem gw_1310 : Cond.static yX0_fits ∈ GW := GW_t6 66 rfl rfl
theorem cs_X0_98 : CS RX0 98 yX0_fits cX0_fits 2 (some .boolean) 2 := ⟨gw_1309, gw_1310, gw_56, gw_1311, by decide +kernel, by decide +kernel⟩
theorem gw_1320 : Cond.methodLink "FoldedArchive$CommandReader" 105 yX0_numberFrom ∈ GW := GW_t6 76 rfl rfl
theorem gw_1322 : Cond.instanceMethod yX0_numberFrom ∈ GW := GW_t6 78 rfl rfl
theorem gw_25 : Cond.selects yX0_numberFrom.cls yX0_numberFrom yX0_numberFrom ∈ GW := GW_pr 25 (q := (yX0_numberFrom, 6)) rfl
theorem cv_X0_105 : CV RX0 105 yX0_numberFrom cX0_numberFrom 4 (some .int) 2 := ⟨gw_1320, gw_1322, gw_25, gw_56, gw_1323, by decide +kernel, by decide +kernel⟩
theorem gw_1316 : Cond.methodLink "FoldedArchive$CommandReader" 102 yX0_takeOperand ∈ GW := GW_t6 72 rfl rfl
theorem gw_1318 : Cond.instanceMethod yX0_takeOperand ∈ GW := GW_t6 74 rfl rfl
theorem gw_24 : Cond.selects yX0_takeOperand.cls yX0_takeOperand yX0_takeOperand ∈ GW := GW_pr 24 (q := (yX0_takeOperand, 6)) rfl
theorem cv_X0_102 : CV RX0 102 yX0_takeOperand cX0_takeOperand 3 none 1 := ⟨gw_1316, gw_1318, gw_24, gw_56, gw_1319, by decide +kernel, by decide +kernel⟩
theorem gw_1304 : Cond.code yX0_followsSign cX0_followsSign 4 (some .boolean) ∈ GW := GW_t6 60 rfl rfl
theorem gw_1299 : Cond.methodLink "FoldedArchive$CommandReader" 86 yJ0_length_8abf5 ∈ GW := GW_t6 55 rfl rfl
theorem gw_1052 : Cond.instanceMethod yJ0_length_8abf5 ∈ GW := GW_t5 48 rfl rfl
theorem gw_1053 : Cond.selects yJ0_length_8abf5.cls yJ0_length_8abf5 yJ0_length_8abf5 ∈ GW := GW_t5 49 rfl rfl
theorem gw_62 : Cond.initialized "java/lang/String" ∈ GW := GW_t1 18 rfl rfl
theorem gw_1054 : Cond.code yJ0_length_8abf5 cJ0_length_8abf5 1 (some .int) ∈ GW := GW_t5 50 rfl rfl
theorem cv_X0_86 : CV RX0 86 yJ0_length_8abf5 cJ0_length_8abf5 1 (some .int) 0 := ⟨gw_1299, gw_1052, gw_1053, gw_62, gw_1054, by decide +kernel, by decide +kernel⟩
theorem gw_1300 : Cond.methodLink "FoldedArchive$CommandReader" 91 yJ0_charAt_5068e ∈ GW := GW_t6 56 rfl rfl
theorem gw_1220 : Cond.instanceMethod yJ0_charAt_5068e ∈ GW := GW_t5 216 rfl rfl
theorem gw_1221 : Cond.selects yJ0_charAt_5068e.cls yJ0_charAt_5068e yJ0_charAt_5068e ∈ GW := GW_t5 217 rfl rfl
theorem gw_1222 : Cond.code yJ0_charAt_5068e cJ0_charAt_5068e 2 (some .char) ∈ GW := GW_t5 218 rfl rfl
theorem cv_X0_91 : CV RX0 91 yJ0_charAt_5068e cJ0_charAt_5068e 2 (some .char) 1 := ⟨gw_1300, gw_1220, gw_1221, gw_62, gw_1222, by decide +kernel, by decide +kernel⟩
theorem gw_1301 : Cond.methodLink "FoldedArchive$CommandReader" 94 yX0_followsSign ∈ GW := GW_t6 57 rfl rfl
theorem gw_1303 : Cond.instanceMethod yX0_followsSign ∈ GW := GW_t6 59 rfl rfl
theorem gw_23 : Cond.selects yX0_followsSign.cls yX0_followsSign yX0_followsSign ∈ GW := GW_pr 23 (q := (yX0_followsSign, 6)) rfl
theorem cv_X0_94 : CV RX0 94 yX0_followsSign cX0_followsSign 4 (some .boolean) 2 := ⟨gw_1301, gw_1303, gw_23, gw_56, gw_1304, by decide +kernel, by decide +kernel⟩
theorem gw_1298 : Cond.code yX0_follows cX0_follows 5 (some .boolean) ∈ GW := GW_t6 54 rfl rfl
theorem gw_1327 : Cond.code yX0_append cX0_append 2 none ∈ GW := GW_t6 83 rfl rfl
theorem gw_276 : Cond.fieldLink "FoldedArchive$CommandReader" 22 "FoldedArchive$CommandReader" "fault" "I" ∈ GW := GW_t1 232 rfl rfl
theorem fl_X0_22 : FL RX0 22 0 3 "I" false := ⟨RX0, TX0, 6, tyX0, rfl, inG_X0, by decide, gw_276, tyX0_ok, nmX0, rfl, rfl⟩
theorem gw_1280 : Cond.methodLink "FoldedArchive$CommandReader" 41 yX0_shapeOf ∈ GW := GW_t6 36 rfl rfl
theorem gw_1281 : Cond.static yX0_shapeOf ∈ GW := GW_t6 37 rfl rfl
theorem cs_X0_41 : CS RX0 41 yX0_shapeOf cX0_shapeOf 1 (some (.object "java/lang/String")) 1 := ⟨gw_1280, gw_1281, gw_56, gw_1282, by decide +kernel, by decide +kernel⟩
theorem gw_1295 : Cond.methodLink "FoldedArchive$CommandReader" 45 yX0_follows ∈ GW := GW_t6 51 rfl rfl
theorem gw_1297 : Cond.instanceMethod yX0_follows ∈ GW := GW_t6 53 rfl rfl
theorem gw_22 : Cond.selects yX0_follows.cls yX0_follows yX0_follows ∈ GW := GW_pr 22 (q := (yX0_follows, 6)) rfl
theorem cv_X0_45 : CV RX0 45 yX0_follows cX0_follows 5 (some .boolean) 3 := ⟨gw_1295, gw_1297, gw_22, gw_56, gw_1298, by decide +kernel, by decide +kernel⟩
theorem gw_1328 : Cond.methodLink "FoldedArchive$CommandReader" 53 Lib.Math.max.name ∈ GW := GW_t6 84 rfl rfl
theorem gw_233 : Cond.static Lib.Math.max.name ∈ GW := GW_t1 189 rfl rfl
theorem gw_54 : Cond.initialized "java/lang/Math" ∈ GW := GW_t1 10 rfl rfl
theorem gw_234 : Cond.code Lib.Math.max.name Lib.Math.max.code 2 (some .int) ∈ GW := GW_t1 190 rfl rfl
theorem gw_1324 : Cond.methodLink "FoldedArchive$CommandReader" 49 yX0_append ∈ GW := GW_t6 80 rfl rfl
theorem gw_1326 : Cond.instanceMethod yX0_append ∈ GW := GW_t6 82 rfl rfl
theorem gw_26 : Cond.selects yX0_append.cls yX0_append yX0_append ∈ GW := GW_pr 26 (q := (yX0_append, 6)) rfl
theorem cv_X0_49 : CV RX0 49 yX0_append cX0_append 2 none 1 := ⟨gw_1324, gw_1326, gw_26, gw_56, gw_1327, by decide +kernel, by decide +kernel⟩
theorem gw_1279 : Cond.code yX0_readCommand cX0_readCommand 5 none ∈ GW := GW_t6 35 rfl rfl
theorem gw_1276 : Cond.methodLink "FoldedArchive$CommandReader" 25 yX0_readCommand ∈ GW := GW_t6 32 rfl rfl
theorem gw_1278 : Cond.instanceMethod yX0_readCommand ∈ GW := GW_t6 34 rfl rfl
theorem gw_21 : Cond.selects yX0_readCommand.cls yX0_readCommand yX0_readCommand ∈ GW := GW_pr 21 (q := (yX0_readCommand, 6)) rfl
theorem cv_X0_25 : CV RX0 25 yX0_readCommand cX0_readCommand 5 none 2 := ⟨gw_1276, gw_1278, gw_21, gw_56, gw_1279, by decide +kernel, by decide +kernel⟩
theorem gw_238 : Cond.fieldLink "FoldedArchive$CommandReader" 32 "FoldedArchive$Row" "length" "I" ∈ GW := GW_t1 194 rfl rfl
theorem fl_X0_32 : FL RX0 32 6 1 "I" false := ⟨RX6, TX6, 2, tyX6, rfl, inG_X6, by decide, gw_238, tyX6_ok, nmX6, rfl, rfl⟩
theorem gw_1275 : Cond.code yX0_read cX0_read 4 none ∈ GW := GW_t6 31 rfl rfl
theorem gw_142 : Cond.fieldLink "FoldedArchive$Pipes" 25 "FoldedArchive$Pipes" "count" "I" ∈ GW := GW_t1 98 rfl rfl
theorem gw_150 : Cond.lays "FoldedArchive$Pipes" "FoldedArchive$Pipes" "count" "I" ∈ GW := GW_t1 106 rfl rfl
theorem gw_152 : Cond.laysFinal "FoldedArchive$Pipes" "FoldedArchive$Pipes" "starts" "[I" ∈ GW := GW_t1 108 rfl rfl
theorem gw_154 : Cond.laysFinal "FoldedArchive$Pipes" "FoldedArchive$Pipes" "ends" "[I" ∈ GW := GW_t1 110 rfl rfl
theorem gw_156 : Cond.laysFinal "FoldedArchive$Pipes" "FoldedArchive$Pipes" "widths" "[I" ∈ GW := GW_t1 112 rfl rfl
theorem gw_158 : Cond.laysFinal "FoldedArchive$Pipes" "FoldedArchive$Pipes" "broken" "[Z" ∈ GW := GW_t1 114 rfl rfl
theorem inG_X5 : ∀ w ∈ u_ws RX5 TX5 5, w ∈ GW := by
  have e : u_ws RX5 TX5 5 = [u_lay RX5 TX5 0, u_lay RX5 TX5 1, u_lay RX5 TX5 2, u_lay RX5 TX5 3, u_lay RX5 TX5 4] := rfl
  rw [e]
  exact List.forall_mem_cons.mpr ⟨gw_150, List.forall_mem_cons.mpr ⟨gw_152, List.forall_mem_cons.mpr ⟨gw_154, List.forall_mem_cons.mpr ⟨gw_156, List.forall_mem_cons.mpr ⟨gw_158, fun _ h => absurd h List.not_mem_nil⟩⟩⟩⟩⟩
theorem fl_X5_25 : FL RX5 25 5 0 "I" false := ⟨RX5, TX5, 5, tyX5, rfl, inG_X5, by decide, gw_142, tyX5_ok, nmX5, rfl, rfl⟩
theorem gw_569 : Cond.code yX5_has cX5_has 2 (some .boolean) ∈ GW := GW_t3 45 rfl rfl
theorem gw_574 : Cond.methodLink "FoldedArchive$Pipes" 35 yX5_has ∈ GW := GW_t3 50 rfl rfl
theorem gw_567 : Cond.instanceMethod yX5_has ∈ GW := GW_t3 43 rfl rfl
theorem gw_568 : Cond.selects yX5_has.cls yX5_has yX5_has ∈ GW := GW_t3 44 rfl rfl
theorem gw_49 : Cond.initialized "FoldedArchive$Pipes" ∈ GW := GW_t1 5 rfl rfl
theorem cv_X5_35 : CV RX5 35 yX5_has cX5_has 2 (some .boolean) 1 := ⟨gw_574, gw_567, gw_568, gw_49, gw_569, by decide +kernel, by decide +kernel⟩
theorem gw_149 : Cond.fieldLink "FoldedArchive$Pipes" 21 "FoldedArchive$Pipes" "broken" "[Z" ∈ GW := GW_t1 105 rfl rfl
theorem fl_X5_21 : FL RX5 21 5 4 "[Z" true := ⟨RX5, TX5, 5, tyX5, rfl, inG_X5, by decide, gw_149, tyX5_ok, nmX5, rfl, rfl⟩
theorem gw_585 : Cond.code yX5_brokenAt cX5_brokenAt 2 (some .boolean) ∈ GW := GW_t3 61 rfl rfl
theorem gw_146 : Cond.fieldLink "FoldedArchive$Pipes" 9 "FoldedArchive$Pipes" "starts" "[I" ∈ GW := GW_t1 102 rfl rfl
theorem fl_X5_9 : FL RX5 9 5 1 "[I" true := ⟨RX5, TX5, 5, tyX5, rfl, inG_X5, by decide, gw_146, tyX5_ok, nmX5, rfl, rfl⟩
theorem gw_648 : Cond.code yX5_startOf cX5_startOf 2 (some .int) ∈ GW := GW_t3 124 rfl rfl
theorem gw_147 : Cond.fieldLink "FoldedArchive$Pipes" 15 "FoldedArchive$Pipes" "ends" "[I" ∈ GW := GW_t1 103 rfl rfl
theorem fl_X5_15 : FL RX5 15 5 2 "[I" true := ⟨RX5, TX5, 5, tyX5, rfl, inG_X5, by decide, gw_147, tyX5_ok, nmX5, rfl, rfl⟩
theorem gw_652 : Cond.code yX5_endOf cX5_endOf 2 (some .int) ∈ GW := GW_t3 128 rfl rfl
theorem gw_148 : Cond.fieldLink "FoldedArchive$Pipes" 18 "FoldedArchive$Pipes" "widths" "[I" ∈ GW := GW_t1 104 rfl rfl
theorem fl_X5_18 : FL RX5 18 5 3 "[I" true := ⟨RX5, TX5, 5, tyX5, rfl, inG_X5, by decide, gw_148, tyX5_ok, nmX5, rfl, rfl⟩
theorem gw_573 : Cond.code yX5_widthOf cX5_widthOf 2 (some .int) ∈ GW := GW_t3 49 rfl rfl
theorem gw_660 : Cond.code yX1_inGrid cX1_inGrid 2 (some .boolean) ∈ GW := GW_t3 136 rfl rfl
theorem gw_658 : Cond.methodLink "FoldedArchive$FlowSearch" 55 yX1_inGrid ∈ GW := GW_t3 134 rfl rfl
theorem gw_659 : Cond.static yX1_inGrid ∈ GW := GW_t3 135 rfl rfl
theorem gw_51 : Cond.initialized "FoldedArchive$FlowSearch" ∈ GW := GW_t1 7 rfl rfl
theorem cs_X1_55 : CS RX1 55 yX1_inGrid cX1_inGrid 2 (some .boolean) 2 := ⟨gw_658, gw_659, gw_51, gw_660, by decide +kernel, by decide +kernel⟩
theorem gw_201 : Cond.fieldLink "FoldedArchive$FlowSearch" 9 "FoldedArchive$FlowSearch" "spare" "[I" ∈ GW := GW_t1 157 rfl rfl
theorem gw_204 : Cond.laysFinal "FoldedArchive$FlowSearch" "FoldedArchive$FlowSearch" "spare" "[I" ∈ GW := GW_t1 160 rfl rfl
theorem gw_206 : Cond.laysFinal "FoldedArchive$FlowSearch" "FoldedArchive$FlowSearch" "reachedFrom" "[I" ∈ GW := GW_t1 162 rfl rfl
theorem gw_208 : Cond.laysFinal "FoldedArchive$FlowSearch" "FoldedArchive$FlowSearch" "queue" "[I" ∈ GW := GW_t1 164 rfl rfl
theorem inG_X1 : ∀ w ∈ u_ws RX1 TX1 3, w ∈ GW := by
  have e : u_ws RX1 TX1 3 = [u_lay RX1 TX1 0, u_lay RX1 TX1 1, u_lay RX1 TX1 2] := rfl
  rw [e]
  exact List.forall_mem_cons.mpr ⟨gw_204, List.forall_mem_cons.mpr ⟨gw_206, List.forall_mem_cons.mpr ⟨gw_208, fun _ h => absurd h List.not_mem_nil⟩⟩⟩
theorem fl_X1_9 : FL RX1 9 1 0 "[I" true := ⟨RX1, TX1, 3, tyX1, rfl, inG_X1, by decide, gw_201, tyX1_ok, nmX1, rfl, rfl⟩
theorem tt_124 : TT[124]? = some (0, 1, [some 125, some 126, some 127]) := by decide +kernel
theorem tt_125 : TT[125]? = some (1, 49, []) := by decide +kernel
theorem gw_657 : Cond.code yX1_addSpare cX1_addSpare 4 none ∈ GW := GW_t3 133 rfl rfl
theorem gw_143 : Cond.fieldLink "FoldedArchive$FlowSearch" 33 "FoldedArchive$Pipes" "count" "I" ∈ GW := GW_t1 99 rfl rfl
theorem fl_X1_33 : FL RX1 33 5 0 "I" false := ⟨RX5, TX5, 5, tyX5, rfl, inG_X5, by decide, gw_143, tyX5_ok, nmX5, rfl, rfl⟩
theorem gw_644 : Cond.methodLink "FoldedArchive$FlowSearch" 39 yX5_brokenAt ∈ GW := GW_t3 120 rfl rfl
theorem gw_583 : Cond.instanceMethod yX5_brokenAt ∈ GW := GW_t3 59 rfl rfl
theorem gw_584 : Cond.selects yX5_brokenAt.cls yX5_brokenAt yX5_brokenAt ∈ GW := GW_t3 60 rfl rfl
theorem cv_X1_39 : CV RX1 39 yX5_brokenAt cX5_brokenAt 2 (some .boolean) 1 := ⟨gw_644, gw_583, gw_584, gw_49, gw_585, by decide +kernel, by decide +kernel⟩
theorem gw_645 : Cond.methodLink "FoldedArchive$FlowSearch" 42 yX5_startOf ∈ GW := GW_t3 121 rfl rfl
theorem gw_646 : Cond.instanceMethod yX5_startOf ∈ GW := GW_t3 122 rfl rfl
theorem gw_647 : Cond.selects yX5_startOf.cls yX5_startOf yX5_startOf ∈ GW := GW_t3 123 rfl rfl
theorem cv_X1_42 : CV RX1 42 yX5_startOf cX5_startOf 2 (some .int) 1 := ⟨gw_645, gw_646, gw_647, gw_49, gw_648, by decide +kernel, by decide +kernel⟩
theorem gw_649 : Cond.methodLink "FoldedArchive$FlowSearch" 45 yX5_endOf ∈ GW := GW_t3 125 rfl rfl
theorem gw_650 : Cond.instanceMethod yX5_endOf ∈ GW := GW_t3 126 rfl rfl
theorem gw_651 : Cond.selects yX5_endOf.cls yX5_endOf yX5_endOf ∈ GW := GW_t3 127 rfl rfl
theorem cv_X1_45 : CV RX1 45 yX5_endOf cX5_endOf 2 (some .int) 1 := ⟨gw_649, gw_650, gw_651, gw_49, gw_652, by decide +kernel, by decide +kernel⟩
theorem gw_653 : Cond.methodLink "FoldedArchive$FlowSearch" 48 yX5_widthOf ∈ GW := GW_t3 129 rfl rfl
theorem gw_571 : Cond.instanceMethod yX5_widthOf ∈ GW := GW_t3 47 rfl rfl
theorem gw_572 : Cond.selects yX5_widthOf.cls yX5_widthOf yX5_widthOf ∈ GW := GW_t3 48 rfl rfl
theorem cv_X1_48 : CV RX1 48 yX5_widthOf cX5_widthOf 2 (some .int) 1 := ⟨gw_653, gw_571, gw_572, gw_49, gw_573, by decide +kernel, by decide +kernel⟩
theorem gw_654 : Cond.methodLink "FoldedArchive$FlowSearch" 51 yX1_addSpare ∈ GW := GW_t3 130 rfl rfl
theorem gw_656 : Cond.instanceMethod yX1_addSpare ∈ GW := GW_t3 132 rfl rfl
theorem gw_7 : Cond.selects yX1_addSpare.cls yX1_addSpare yX1_addSpare ∈ GW := GW_pr 7 (q := (yX1_addSpare, 3)) rfl
theorem cv_X1_51 : CV RX1 51 yX1_addSpare cX1_addSpare 4 none 3 := ⟨gw_654, gw_656, gw_7, gw_51, gw_657, by decide +kernel, by decide +kernel⟩
theorem gw_643 : Cond.code yX1_openPipes cX1_openPipes 4 none ∈ GW := GW_t3 119 rfl rfl
theorem gw_668 : Cond.code yX1_spareOf cX1_spareOf 3 (some .int) ∈ GW := GW_t3 144 rfl rfl
theorem gw_202 : Cond.fieldLink "FoldedArchive$FlowSearch" 15 "FoldedArchive$FlowSearch" "reachedFrom" "[I" ∈ GW := GW_t1 158 rfl rfl
theorem fl_X1_15 : FL RX1 15 1 1 "[I" true := ⟨RX1, TX1, 3, tyX1, rfl, inG_X1, by decide, gw_202, tyX1_ok, nmX1, rfl, rfl⟩
theorem tt_126 : TT[126]? = some (1, 7, []) := by decide +kernel
theorem gw_672 : Cond.code yX1_previousOf cX1_previousOf 2 (some .int) ∈ GW := GW_t3 148 rfl rfl
theorem gw_203 : Cond.fieldLink "FoldedArchive$FlowSearch" 18 "FoldedArchive$FlowSearch" "queue" "[I" ∈ GW := GW_t1 159 rfl rfl
theorem fl_X1_18 : FL RX1 18 1 2 "[I" true := ⟨RX1, TX1, 3, tyX1, rfl, inG_X1, by decide, gw_203, tyX1_ok, nmX1, rfl, rfl⟩
theorem tt_127 : TT[127]? = some (1, 7, []) := by decide +kernel
theorem gw_669 : Cond.methodLink "FoldedArchive$FlowSearch" 63 yX1_previousOf ∈ GW := GW_t3 145 rfl rfl
theorem gw_671 : Cond.instanceMethod yX1_previousOf ∈ GW := GW_t3 147 rfl rfl
theorem gw_10 : Cond.selects yX1_previousOf.cls yX1_previousOf yX1_previousOf ∈ GW := GW_pr 10 (q := (yX1_previousOf, 3)) rfl
theorem cv_X1_63 : CV RX1 63 yX1_previousOf cX1_previousOf 2 (some .int) 1 := ⟨gw_669, gw_671, gw_10, gw_51, gw_672, by decide +kernel, by decide +kernel⟩
theorem gw_665 : Cond.methodLink "FoldedArchive$FlowSearch" 59 yX1_spareOf ∈ GW := GW_t3 141 rfl rfl
theorem gw_667 : Cond.instanceMethod yX1_spareOf ∈ GW := GW_t3 143 rfl rfl
theorem gw_9 : Cond.selects yX1_spareOf.cls yX1_spareOf yX1_spareOf ∈ GW := GW_pr 9 (q := (yX1_spareOf, 3)) rfl
theorem cv_X1_59 : CV RX1 59 yX1_spareOf cX1_spareOf 3 (some .int) 2 := ⟨gw_665, gw_667, gw_9, gw_51, gw_668, by decide +kernel, by decide +kernel⟩
theorem gw_664 : Cond.code yX1_reachesLast cX1_reachesLast 6 (some .boolean) ∈ GW := GW_t3 140 rfl rfl
theorem gw_677 : Cond.methodLink "FoldedArchive$FlowSearch" 66 Lib.Math.min.name ∈ GW := GW_t3 153 rfl rfl
theorem gw_552 : Cond.static Lib.Math.min.name ∈ GW := GW_t3 28 rfl rfl
theorem gw_553 : Cond.code Lib.Math.min.name Lib.Math.min.code 2 (some .int) ∈ GW := GW_t3 29 rfl rfl
theorem gw_676 : Cond.code yX1_augment cX1_augment 6 (some .int) ∈ GW := GW_t3 152 rfl rfl
theorem gw_640 : Cond.methodLink "FoldedArchive$FlowSearch" 21 yX1_openPipes ∈ GW := GW_t3 116 rfl rfl
theorem gw_642 : Cond.instanceMethod yX1_openPipes ∈ GW := GW_t3 118 rfl rfl
theorem gw_6 : Cond.selects yX1_openPipes.cls yX1_openPipes yX1_openPipes ∈ GW := GW_pr 6 (q := (yX1_openPipes, 3)) rfl
theorem cv_X1_21 : CV RX1 21 yX1_openPipes cX1_openPipes 4 none 2 := ⟨gw_640, gw_642, gw_6, gw_51, gw_643, by decide +kernel, by decide +kernel⟩
theorem gw_661 : Cond.methodLink "FoldedArchive$FlowSearch" 25 yX1_reachesLast ∈ GW := GW_t3 137 rfl rfl
theorem gw_663 : Cond.instanceMethod yX1_reachesLast ∈ GW := GW_t3 139 rfl rfl
theorem gw_8 : Cond.selects yX1_reachesLast.cls yX1_reachesLast yX1_reachesLast ∈ GW := GW_pr 8 (q := (yX1_reachesLast, 3)) rfl
theorem cv_X1_25 : CV RX1 25 yX1_reachesLast cX1_reachesLast 6 (some .boolean) 1 := ⟨gw_661, gw_663, gw_8, gw_51, gw_664, by decide +kernel, by decide +kernel⟩
theorem gw_673 : Cond.methodLink "FoldedArchive$FlowSearch" 29 yX1_augment ∈ GW := GW_t3 149 rfl rfl
theorem gw_675 : Cond.instanceMethod yX1_augment ∈ GW := GW_t3 151 rfl rfl
theorem gw_11 : Cond.selects yX1_augment.cls yX1_augment yX1_augment ∈ GW := GW_pr 11 (q := (yX1_augment, 3)) rfl
theorem cv_X1_29 : CV RX1 29 yX1_augment cX1_augment 6 (some .int) 1 := ⟨gw_673, gw_675, gw_11, gw_51, gw_676, by decide +kernel, by decide +kernel⟩
theorem gw_639 : Cond.code yX1_greatest cX1_greatest 6 (some .int) ∈ GW := GW_t3 115 rfl rfl
theorem gw_1433 : Cond.code yX1_contains cX1_contains 2 (some .boolean) ∈ GW := GW_t6 189 rfl rfl
theorem gw_1431 : Cond.methodLink "FoldedArchive$FlowSearch" 75 yX1_contains ∈ GW := GW_t6 187 rfl rfl
theorem gw_1432 : Cond.static yX1_contains ∈ GW := GW_t6 188 rfl rfl
theorem cs_X1_75 : CS RX1 75 yX1_contains cX1_contains 2 (some .boolean) 2 := ⟨gw_1431, gw_1432, gw_51, gw_1433, by decide +kernel, by decide +kernel⟩
theorem gw_1430 : Cond.code yX1_cutSize cX1_cutSize 5 (some .int) ∈ GW := GW_t6 186 rfl rfl
theorem gw_1428 : Cond.methodLink "FoldedArchive$FlowSearch" 71 yX1_cutSize ∈ GW := GW_t6 184 rfl rfl
theorem gw_1429 : Cond.static yX1_cutSize ∈ GW := GW_t6 185 rfl rfl
theorem cs_X1_71 : CS RX1 71 yX1_cutSize cX1_cutSize 5 (some .int) 2 := ⟨gw_1428, gw_1429, gw_51, gw_1430, by decide +kernel, by decide +kernel⟩
theorem gw_1427 : Cond.code yX1_smallest cX1_smallest 5 (some .int) ∈ GW := GW_t6 183 rfl rfl
theorem gw_126 : Cond.fieldLink "FoldedArchive$Pile" 15 "FoldedArchive$Pile" "folded" "I" ∈ GW := GW_t1 82 rfl rfl
theorem gw_131 : Cond.lays "FoldedArchive$Pile" "FoldedArchive$Pile" "folded" "I" ∈ GW := GW_t1 87 rfl rfl
theorem gw_133 : Cond.laysFinal "FoldedArchive$Pile" "FoldedArchive$Pile" "layers" "[I" ∈ GW := GW_t1 89 rfl rfl
theorem inG_X4 : ∀ w ∈ u_ws RX4 TX4 2, w ∈ GW := by
  have e : u_ws RX4 TX4 2 = [u_lay RX4 TX4 0, u_lay RX4 TX4 1] := rfl
  rw [e]
  exact List.forall_mem_cons.mpr ⟨gw_131, List.forall_mem_cons.mpr ⟨gw_133, fun _ h => absurd h List.not_mem_nil⟩⟩
theorem fl_X4_15 : FL RX4 15 4 0 "I" false := ⟨RX4, TX4, 2, tyX4, rfl, inG_X4, by decide, gw_126, tyX4_ok, nmX4, rfl, rfl⟩
theorem gw_130 : Cond.fieldLink "FoldedArchive$Pile" 9 "FoldedArchive$Pile" "layers" "[I" ∈ GW := GW_t1 86 rfl rfl
theorem fl_X4_9 : FL RX4 9 4 1 "[I" true := ⟨RX4, TX4, 2, tyX4, rfl, inG_X4, by decide, gw_130, tyX4_ok, nmX4, rfl, rfl⟩
theorem gw_788 : Cond.methodLink "FoldedArchive$Pile" 19 arraycopyName ∈ GW := GW_t4 24 rfl rfl
theorem gw_783 : Cond.native arraycopyName ∈ GW := GW_t4 19 rfl rfl
theorem gw_782 : Cond.static arraycopyName ∈ GW := GW_t4 18 rfl rfl
theorem gw_68 : Cond.initialized "java/lang/System" ∈ GW := GW_t1 24 rfl rfl
theorem gw_787 : Cond.code yX4_copyFrom cX4_copyFrom 2 none ∈ GW := GW_t4 23 rfl rfl
theorem gw_498 : Cond.code yX4_layerHolding cX4_layerHolding 2 (some .int) ∈ GW := GW_t2 214 rfl rfl
theorem gw_547 : Cond.methodLink "FoldedArchive$Pile" 34 yX4_layerHolding ∈ GW := GW_t3 23 rfl rfl
theorem gw_496 : Cond.instanceMethod yX4_layerHolding ∈ GW := GW_t2 212 rfl rfl
theorem gw_497 : Cond.selects yX4_layerHolding.cls yX4_layerHolding yX4_layerHolding ∈ GW := GW_t2 213 rfl rfl
theorem gw_48 : Cond.initialized "FoldedArchive$Pile" ∈ GW := GW_t1 4 rfl rfl
theorem cv_X4_34 : CV RX4 34 yX4_layerHolding cX4_layerHolding 2 (some .int) 1 := ⟨gw_547, gw_496, gw_497, gw_48, gw_498, by decide +kernel, by decide +kernel⟩
theorem gw_546 : Cond.code yX4_layerAfterInsert cX4_layerAfterInsert 4 (some .int) ∈ GW := GW_t3 22 rfl rfl
theorem gw_551 : Cond.methodLink "FoldedArchive$Pile" 25 Lib.Math.min.name ∈ GW := GW_t3 27 rfl rfl
theorem gw_554 : Cond.methodLink "FoldedArchive$Pile" 31 Lib.Math.max.name ∈ GW := GW_t3 30 rfl rfl
theorem gw_550 : Cond.code yX4_spansCross cX4_spansCross 8 (some .boolean) ∈ GW := GW_t3 26 rfl rfl
theorem gw_543 : Cond.methodLink "FoldedArchive$Pile" 38 yX4_layerAfterInsert ∈ GW := GW_t3 19 rfl rfl
theorem gw_545 : Cond.instanceMethod yX4_layerAfterInsert ∈ GW := GW_t3 21 rfl rfl
theorem gw_2 : Cond.selects yX4_layerAfterInsert.cls yX4_layerAfterInsert yX4_layerAfterInsert ∈ GW := GW_pr 2 (q := (yX4_layerAfterInsert, 2)) rfl
theorem cv_X4_38 : CV RX4 38 yX4_layerAfterInsert cX4_layerAfterInsert 4 (some .int) 2 := ⟨gw_543, gw_545, gw_2, gw_48, gw_546, by decide +kernel, by decide +kernel⟩
theorem gw_548 : Cond.methodLink "FoldedArchive$Pile" 41 yX4_spansCross ∈ GW := GW_t3 24 rfl rfl
theorem gw_549 : Cond.static yX4_spansCross ∈ GW := GW_t3 25 rfl rfl
theorem cs_X4_41 : CS RX4 41 yX4_spansCross cX4_spansCross 8 (some .boolean) 4 := ⟨gw_548, gw_549, gw_48, gw_550, by decide +kernel, by decide +kernel⟩
theorem gw_542 : Cond.code yX4_creaseCrossedAt cX4_creaseCrossedAt 7 (some .int) ∈ GW := GW_t3 18 rfl rfl
theorem gw_824 : Cond.code yX4_insert cX4_insert 3 (some .int) ∈ GW := GW_t4 60 rfl rfl
theorem gw_828 : Cond.code yX4_removeLast cX4_removeLast 3 (some .int) ∈ GW := GW_t4 64 rfl rfl
theorem gw_219 : Cond.fieldLink "FoldedArchive$FoldingSearch" 12 "FoldedArchive$FoldingSearch" "trial" "LFoldedArchive$Pile;" ∈ GW := GW_t1 175 rfl rfl
theorem gw_221 : Cond.laysFinal "FoldedArchive$FoldingSearch" "FoldedArchive$FoldingSearch" "trial" "LFoldedArchive$Pile;" ∈ GW := GW_t1 177 rfl rfl
theorem gw_223 : Cond.laysFinal "FoldedArchive$FoldingSearch" "FoldedArchive$FoldingSearch" "placed" "[I" ∈ GW := GW_t1 179 rfl rfl
theorem inG_X2 : ∀ w ∈ u_ws RX2 TX2 2, w ∈ GW := by
  have e : u_ws RX2 TX2 2 = [u_lay RX2 TX2 0, u_lay RX2 TX2 1] := rfl
  rw [e]
  exact List.forall_mem_cons.mpr ⟨gw_221, List.forall_mem_cons.mpr ⟨gw_223, fun _ h => absurd h List.not_mem_nil⟩⟩
theorem fl_X2_12 : FL RX2 12 2 0 "LFoldedArchive$Pile;" true := ⟨RX2, TX2, 2, tyX2, rfl, inG_X2, by decide, gw_219, tyX2_ok, nmX2, rfl, rfl⟩
theorem tt_128 : TT[128]? = some (0, 2, [some 129, some 131]) := by decide +kernel
theorem gw_1618 : Cond.methodLink "FoldedArchive$FoldingSearch" 47 yX4_insert ∈ GW := GW_t7 134 rfl rfl
theorem gw_822 : Cond.instanceMethod yX4_insert ∈ GW := GW_t4 58 rfl rfl
theorem gw_823 : Cond.selects yX4_insert.cls yX4_insert yX4_insert ∈ GW := GW_t4 59 rfl rfl
theorem cv_X2_47 : CV RX2 47 yX4_insert cX4_insert 3 (some .int) 1 := ⟨gw_1618, gw_822, gw_823, gw_48, gw_824, by decide +kernel, by decide +kernel⟩
theorem tt_129 : TT[129]? = some (0, 4, [none, some 130]) := by decide +kernel
theorem tt_130 : TT[130]? = some (1, 7, []) := by decide +kernel
theorem is4_129 : isX4 129 := ⟨tt_129, tt_130⟩
theorem gw_1609 : Cond.methodLink "FoldedArchive$FoldingSearch" 36 yX2_foldRest ∈ GW := GW_t7 125 rfl rfl
theorem gw_1611 : Cond.instanceMethod yX2_foldRest ∈ GW := GW_t7 127 rfl rfl
theorem gw_37 : Cond.selects yX2_foldRest.cls yX2_foldRest yX2_foldRest ∈ GW := GW_pr 37 (q := (yX2_foldRest, 2)) rfl
theorem gw_52 : Cond.initialized "FoldedArchive$FoldingSearch" ∈ GW := GW_t1 8 rfl rfl
theorem gw_1612 : Cond.code yX2_foldRest cX2_foldRest 5 (some .int) ∈ GW := GW_t7 128 rfl rfl
theorem cv_X2_36 : CV RX2 36 yX2_foldRest cX2_foldRest 5 (some .int) 2 := ⟨gw_1609, gw_1611, gw_37, gw_52, gw_1612, by decide +kernel, by decide +kernel⟩
theorem gw_1619 : Cond.methodLink "FoldedArchive$FoldingSearch" 50 yX4_removeLast ∈ GW := GW_t7 135 rfl rfl
theorem gw_826 : Cond.instanceMethod yX4_removeLast ∈ GW := GW_t4 62 rfl rfl
theorem gw_827 : Cond.selects yX4_removeLast.cls yX4_removeLast yX4_removeLast ∈ GW := GW_t4 63 rfl rfl
theorem cv_X2_50 : CV RX2 50 yX4_removeLast cX4_removeLast 3 (some .int) 0 := ⟨gw_1619, gw_826, gw_827, gw_48, gw_828, by decide +kernel, by decide +kernel⟩
theorem gw_1617 : Cond.code yX2_foldInto cX2_foldInto 5 (some .int) ∈ GW := GW_t7 133 rfl rfl
theorem gw_1613 : Cond.methodLink "FoldedArchive$FoldingSearch" 39 yX4_creaseCrossedAt ∈ GW := GW_t7 129 rfl rfl
theorem gw_540 : Cond.instanceMethod yX4_creaseCrossedAt ∈ GW := GW_t3 16 rfl rfl
theorem gw_541 : Cond.selects yX4_creaseCrossedAt.cls yX4_creaseCrossedAt yX4_creaseCrossedAt ∈ GW := GW_t3 17 rfl rfl
theorem cv_X2_39 : CV RX2 39 yX4_creaseCrossedAt cX4_creaseCrossedAt 7 (some .int) 1 := ⟨gw_1613, gw_540, gw_541, gw_48, gw_542, by decide +kernel, by decide +kernel⟩
theorem gw_1614 : Cond.methodLink "FoldedArchive$FoldingSearch" 43 yX2_foldInto ∈ GW := GW_t7 130 rfl rfl
theorem gw_1616 : Cond.instanceMethod yX2_foldInto ∈ GW := GW_t7 132 rfl rfl
theorem gw_38 : Cond.selects yX2_foldInto.cls yX2_foldInto yX2_foldInto ∈ GW := GW_pr 38 (q := (yX2_foldInto, 2)) rfl
theorem cv_X2_43 : CV RX2 43 yX2_foldInto cX2_foldInto 5 (some .int) 3 := ⟨gw_1614, gw_1616, gw_38, gw_52, gw_1617, by decide +kernel, by decide +kernel⟩
theorem gw_1607 : Cond.methodLink "FoldedArchive$FoldingSearch" 22 yX4_copyFrom ∈ GW := GW_t7 123 rfl rfl
theorem gw_785 : Cond.instanceMethod yX4_copyFrom ∈ GW := GW_t4 21 rfl rfl
theorem gw_786 : Cond.selects yX4_copyFrom.cls yX4_copyFrom yX4_copyFrom ∈ GW := GW_t4 22 rfl rfl
theorem cv_X2_22 : CV RX2 22 yX4_copyFrom cX4_copyFrom 2 none 1 := ⟨gw_1607, gw_785, gw_786, gw_48, gw_787, by decide +kernel, by decide +kernel⟩
theorem gw_127 : Cond.fieldLink "FoldedArchive$FoldingSearch" 26 "FoldedArchive$Pile" "folded" "I" ∈ GW := GW_t1 83 rfl rfl
theorem fl_X2_26 : FL RX2 26 4 0 "I" false := ⟨RX4, TX4, 2, tyX4, rfl, inG_X4, by decide, gw_127, tyX4_ok, nmX4, rfl, rfl⟩
theorem gw_1608 : Cond.methodLink "FoldedArchive$FoldingSearch" 30 Lib.Math.min.name ∈ GW := GW_t7 124 rfl rfl
theorem gw_1606 : Cond.code yX2_countByFolding cX2_countByFolding 3 (some .int) ∈ GW := GW_t7 122 rfl rfl
theorem gw_1636 : Cond.methodLink "FoldedArchive$FoldingSearch" 67 yX4_layerHolding ∈ GW := GW_t7 152 rfl rfl
theorem cv_X2_67 : CV RX2 67 yX4_layerHolding cX4_layerHolding 2 (some .int) 1 := ⟨gw_1636, gw_496, gw_497, gw_48, gw_498, by decide +kernel, by decide +kernel⟩
theorem gw_220 : Cond.fieldLink "FoldedArchive$FoldingSearch" 18 "FoldedArchive$FoldingSearch" "placed" "[I" ∈ GW := GW_t1 176 rfl rfl
theorem fl_X2_18 : FL RX2 18 2 1 "[I" true := ⟨RX2, TX2, 2, tyX2, rfl, inG_X2, by decide, gw_220, tyX2_ok, nmX2, rfl, rfl⟩
theorem tt_131 : TT[131]? = some (1, 7, []) := by decide +kernel
theorem gw_1635 : Cond.code yX2_isNextOfPile cX2_isNextOfPile 5 (some .boolean) ∈ GW := GW_t7 151 rfl rfl
theorem gw_1648 : Cond.code yX2_placeOf cX2_placeOf 3 (some .int) ∈ GW := GW_t7 164 rfl rfl
theorem gw_1645 : Cond.methodLink "FoldedArchive$FoldingSearch" 70 yX2_placeOf ∈ GW := GW_t7 161 rfl rfl
theorem gw_1647 : Cond.instanceMethod yX2_placeOf ∈ GW := GW_t7 163 rfl rfl
theorem gw_43 : Cond.selects yX2_placeOf.cls yX2_placeOf yX2_placeOf ∈ GW := GW_pr 43 (q := (yX2_placeOf, 2)) rfl
theorem cv_X2_70 : CV RX2 70 yX2_placeOf cX2_placeOf 3 (some .int) 2 := ⟨gw_1645, gw_1647, gw_43, gw_52, gw_1648, by decide +kernel, by decide +kernel⟩
theorem gw_1649 : Cond.methodLink "FoldedArchive$FoldingSearch" 73 yX4_spansCross ∈ GW := GW_t7 165 rfl rfl
theorem cs_X2_73 : CS RX2 73 yX4_spansCross cX4_spansCross 8 (some .boolean) 4 := ⟨gw_1649, gw_549, gw_48, gw_550, by decide +kernel, by decide +kernel⟩
theorem gw_1644 : Cond.code yX2_spanCrosses cX2_spanCrosses 7 (some .boolean) ∈ GW := GW_t7 160 rfl rfl
theorem gw_1641 : Cond.methodLink "FoldedArchive$FoldingSearch" 64 yX2_spanCrosses ∈ GW := GW_t7 157 rfl rfl
theorem gw_1643 : Cond.instanceMethod yX2_spanCrosses ∈ GW := GW_t7 159 rfl rfl
theorem gw_42 : Cond.selects yX2_spanCrosses.cls yX2_spanCrosses yX2_spanCrosses ∈ GW := GW_pr 42 (q := (yX2_spanCrosses, 2)) rfl
theorem cv_X2_64 : CV RX2 64 yX2_spanCrosses cX2_spanCrosses 7 (some .boolean) 2 := ⟨gw_1641, gw_1643, gw_42, gw_52, gw_1644, by decide +kernel, by decide +kernel⟩
theorem gw_1628 : Cond.methodLink "FoldedArchive$FoldingSearch" 54 yX2_placeRest ∈ GW := GW_t7 144 rfl rfl
theorem gw_1630 : Cond.instanceMethod yX2_placeRest ∈ GW := GW_t7 146 rfl rfl
theorem gw_39 : Cond.selects yX2_placeRest.cls yX2_placeRest yX2_placeRest ∈ GW := GW_pr 39 (q := (yX2_placeRest, 2)) rfl
theorem gw_1631 : Cond.code yX2_placeRest cX2_placeRest 5 (some .int) ∈ GW := GW_t7 147 rfl rfl
theorem cv_X2_54 : CV RX2 54 yX2_placeRest cX2_placeRest 5 (some .int) 2 := ⟨gw_1628, gw_1630, gw_39, gw_52, gw_1631, by decide +kernel, by decide +kernel⟩
theorem gw_1640 : Cond.code yX2_goOnAbove cX2_goOnAbove 5 (some .int) ∈ GW := GW_t7 156 rfl rfl
theorem gw_1632 : Cond.methodLink "FoldedArchive$FoldingSearch" 57 yX2_isNextOfPile ∈ GW := GW_t7 148 rfl rfl
theorem gw_1634 : Cond.instanceMethod yX2_isNextOfPile ∈ GW := GW_t7 150 rfl rfl
theorem gw_40 : Cond.selects yX2_isNextOfPile.cls yX2_isNextOfPile yX2_isNextOfPile ∈ GW := GW_pr 40 (q := (yX2_isNextOfPile, 2)) rfl
theorem cv_X2_57 : CV RX2 57 yX2_isNextOfPile cX2_isNextOfPile 5 (some .boolean) 2 := ⟨gw_1632, gw_1634, gw_40, gw_52, gw_1635, by decide +kernel, by decide +kernel⟩
theorem gw_1637 : Cond.methodLink "FoldedArchive$FoldingSearch" 61 yX2_goOnAbove ∈ GW := GW_t7 153 rfl rfl
theorem gw_1639 : Cond.instanceMethod yX2_goOnAbove ∈ GW := GW_t7 155 rfl rfl
theorem gw_41 : Cond.selects yX2_goOnAbove.cls yX2_goOnAbove yX2_goOnAbove ∈ GW := GW_pr 41 (q := (yX2_goOnAbove, 2)) rfl
theorem cv_X2_61 : CV RX2 61 yX2_goOnAbove cX2_goOnAbove 5 (some .int) 3 := ⟨gw_1637, gw_1639, gw_41, gw_52, gw_1640, by decide +kernel, by decide +kernel⟩
theorem gw_1627 : Cond.code yX2_countByOrders cX2_countByOrders 5 (some .int) ∈ GW := GW_t7 143 rfl rfl
theorem gw_184 : Cond.fieldLink "FoldedArchive$History" 11 "FoldedArchive$History" "kept" "[LFoldedArchive$State;" ∈ GW := GW_t1 140 rfl rfl
theorem gw_188 : Cond.laysFinal "FoldedArchive$History" "FoldedArchive$History" "kept" "[LFoldedArchive$State;" ∈ GW := GW_t1 144 rfl rfl
theorem gw_190 : Cond.lays "FoldedArchive$History" "FoldedArchive$History" "next" "I" ∈ GW := GW_t1 146 rfl rfl
theorem gw_192 : Cond.lays "FoldedArchive$History" "FoldedArchive$History" "count" "I" ∈ GW := GW_t1 148 rfl rfl
theorem inG_X3 : ∀ w ∈ u_ws RX3 TX3 3, w ∈ GW := by
  have e : u_ws RX3 TX3 3 = [u_lay RX3 TX3 0, u_lay RX3 TX3 1, u_lay RX3 TX3 2] := rfl
  rw [e]
  exact List.forall_mem_cons.mpr ⟨gw_188, List.forall_mem_cons.mpr ⟨gw_190, List.forall_mem_cons.mpr ⟨gw_192, fun _ h => absurd h List.not_mem_nil⟩⟩⟩
theorem fl_X3_11 : FL RX3 11 3 0 "[LFoldedArchive$State;" true := ⟨RX3, TX3, 3, tyX3, rfl, inG_X3, by decide, gw_184, tyX3_ok, nmX3, rfl, rfl⟩
theorem tt_34 : TT[34]? = some (0, 3, [some 35, none, none]) := by decide +kernel
theorem tt_35 : TT[35]? = some (6, 8, [some 36, some 47, some 58, some 69, some 80, some 91, some 102, some 113]) := by decide +kernel
theorem gw_772 : Cond.code yX3_stateAt cX3_stateAt 2 (some (.object "FoldedArchive$State")) ∈ GW := GW_t4 8 rfl rfl
theorem gw_98 : Cond.fieldLink "FoldedArchive$Strip" 18 "FoldedArchive$Strip" "count" "I" ∈ GW := GW_t1 54 rfl rfl
theorem gw_108 : Cond.lays "FoldedArchive$Strip" "FoldedArchive$Strip" "count" "I" ∈ GW := GW_t1 64 rfl rfl
theorem gw_110 : Cond.lays "FoldedArchive$Strip" "FoldedArchive$Strip" "pouredUnits" "I" ∈ GW := GW_t1 66 rfl rfl
theorem gw_112 : Cond.lays "FoldedArchive$Strip" "FoldedArchive$Strip" "leakedUnits" "I" ∈ GW := GW_t1 68 rfl rfl
theorem gw_114 : Cond.laysFinal "FoldedArchive$Strip" "FoldedArchive$Strip" "water" "[I" ∈ GW := GW_t1 70 rfl rfl
theorem gw_116 : Cond.laysFinal "FoldedArchive$Strip" "FoldedArchive$Strip" "terms" "[I" ∈ GW := GW_t1 72 rfl rfl
theorem inG_X9 : ∀ w ∈ u_ws RX9 TX9 5, w ∈ GW := by
  have e : u_ws RX9 TX9 5 = [u_lay RX9 TX9 0, u_lay RX9 TX9 1, u_lay RX9 TX9 2, u_lay RX9 TX9 3, u_lay RX9 TX9 4] := rfl
  rw [e]
  exact List.forall_mem_cons.mpr ⟨gw_108, List.forall_mem_cons.mpr ⟨gw_110, List.forall_mem_cons.mpr ⟨gw_112, List.forall_mem_cons.mpr ⟨gw_114, List.forall_mem_cons.mpr ⟨gw_116, fun _ h => absurd h List.not_mem_nil⟩⟩⟩⟩⟩
theorem fl_X9_18 : FL RX9 18 9 0 "I" false := ⟨RX9, TX9, 5, tyX9, rfl, inG_X9, by decide, gw_98, tyX9_ok, nmX9, rfl, rfl⟩
theorem gw_102 : Cond.fieldLink "FoldedArchive$Strip" 22 "FoldedArchive$Strip" "pouredUnits" "I" ∈ GW := GW_t1 58 rfl rfl
theorem fl_X9_22 : FL RX9 22 9 1 "I" false := ⟨RX9, TX9, 5, tyX9, rfl, inG_X9, by decide, gw_102, tyX9_ok, nmX9, rfl, rfl⟩
theorem gw_104 : Cond.fieldLink "FoldedArchive$Strip" 25 "FoldedArchive$Strip" "leakedUnits" "I" ∈ GW := GW_t1 60 rfl rfl
theorem fl_X9_25 : FL RX9 25 9 2 "I" false := ⟨RX9, TX9, 5, tyX9, rfl, inG_X9, by decide, gw_104, tyX9_ok, nmX9, rfl, rfl⟩
theorem gw_106 : Cond.fieldLink "FoldedArchive$Strip" 9 "FoldedArchive$Strip" "water" "[I" ∈ GW := GW_t1 62 rfl rfl
theorem fl_X9_9 : FL RX9 9 9 3 "[I" true := ⟨RX9, TX9, 5, tyX9, rfl, inG_X9, by decide, gw_106, tyX9_ok, nmX9, rfl, rfl⟩
theorem gw_781 : Cond.methodLink "FoldedArchive$Strip" 28 arraycopyName ∈ GW := GW_t4 17 rfl rfl
theorem gw_107 : Cond.fieldLink "FoldedArchive$Strip" 15 "FoldedArchive$Strip" "terms" "[I" ∈ GW := GW_t1 63 rfl rfl
theorem fl_X9_15 : FL RX9 15 9 4 "[I" true := ⟨RX9, TX9, 5, tyX9, rfl, inG_X9, by decide, gw_107, tyX9_ok, nmX9, rfl, rfl⟩
theorem gw_780 : Cond.code yX9_copyFrom cX9_copyFrom 2 none ∈ GW := GW_t4 16 rfl rfl
theorem gw_793 : Cond.methodLink "FoldedArchive$Pipes" 29 arraycopyName ∈ GW := GW_t4 29 rfl rfl
theorem gw_792 : Cond.code yX5_copyFrom cX5_copyFrom 3 none ∈ GW := GW_t4 28 rfl rfl
theorem gw_162 : Cond.fieldLink "FoldedArchive$State" 12 "FoldedArchive$State" "strip" "LFoldedArchive$Strip;" ∈ GW := GW_t1 118 rfl rfl
theorem gw_168 : Cond.laysFinal "FoldedArchive$State" "FoldedArchive$State" "strip" "LFoldedArchive$Strip;" ∈ GW := GW_t1 124 rfl rfl
theorem gw_170 : Cond.laysFinal "FoldedArchive$State" "FoldedArchive$State" "pile" "LFoldedArchive$Pile;" ∈ GW := GW_t1 126 rfl rfl
theorem gw_172 : Cond.laysFinal "FoldedArchive$State" "FoldedArchive$State" "pipes" "LFoldedArchive$Pipes;" ∈ GW := GW_t1 128 rfl rfl
theorem inG_X8 : ∀ w ∈ u_ws RX8 TX8 3, w ∈ GW := by
  have e : u_ws RX8 TX8 3 = [u_lay RX8 TX8 0, u_lay RX8 TX8 1, u_lay RX8 TX8 2] := rfl
  rw [e]
  exact List.forall_mem_cons.mpr ⟨gw_168, List.forall_mem_cons.mpr ⟨gw_170, List.forall_mem_cons.mpr ⟨gw_172, fun _ h => absurd h List.not_mem_nil⟩⟩⟩
theorem fl_X8_12 : FL RX8 12 8 0 "LFoldedArchive$Strip;" true := ⟨RX8, TX8, 3, tyX8, rfl, inG_X8, by decide, gw_162, tyX8_ok, nmX8, rfl, rfl⟩
theorem gw_777 : Cond.methodLink "FoldedArchive$State" 32 yX9_copyFrom ∈ GW := GW_t4 13 rfl rfl
theorem gw_778 : Cond.instanceMethod yX9_copyFrom ∈ GW := GW_t4 14 rfl rfl
theorem gw_779 : Cond.selects yX9_copyFrom.cls yX9_copyFrom yX9_copyFrom ∈ GW := GW_t4 15 rfl rfl
theorem cv_X8_32 : CV RX8 32 yX9_copyFrom cX9_copyFrom 2 none 1 := ⟨gw_777, gw_778, gw_779, gw_47, gw_780, by decide +kernel, by decide +kernel⟩
theorem gw_164 : Cond.fieldLink "FoldedArchive$State" 21 "FoldedArchive$State" "pile" "LFoldedArchive$Pile;" ∈ GW := GW_t1 120 rfl rfl
theorem fl_X8_21 : FL RX8 21 8 1 "LFoldedArchive$Pile;" true := ⟨RX8, TX8, 3, tyX8, rfl, inG_X8, by decide, gw_164, tyX8_ok, nmX8, rfl, rfl⟩
theorem gw_784 : Cond.methodLink "FoldedArchive$State" 36 yX4_copyFrom ∈ GW := GW_t4 20 rfl rfl
theorem cv_X8_36 : CV RX8 36 yX4_copyFrom cX4_copyFrom 2 none 1 := ⟨gw_784, gw_785, gw_786, gw_48, gw_787, by decide +kernel, by decide +kernel⟩
theorem gw_166 : Cond.fieldLink "FoldedArchive$State" 28 "FoldedArchive$State" "pipes" "LFoldedArchive$Pipes;" ∈ GW := GW_t1 122 rfl rfl
theorem fl_X8_28 : FL RX8 28 8 2 "LFoldedArchive$Pipes;" true := ⟨RX8, TX8, 3, tyX8, rfl, inG_X8, by decide, gw_166, tyX8_ok, nmX8, rfl, rfl⟩
theorem gw_789 : Cond.methodLink "FoldedArchive$State" 39 yX5_copyFrom ∈ GW := GW_t4 25 rfl rfl
theorem gw_790 : Cond.instanceMethod yX5_copyFrom ∈ GW := GW_t4 26 rfl rfl
theorem gw_791 : Cond.selects yX5_copyFrom.cls yX5_copyFrom yX5_copyFrom ∈ GW := GW_t4 27 rfl rfl
theorem cv_X8_39 : CV RX8 39 yX5_copyFrom cX5_copyFrom 3 none 1 := ⟨gw_789, gw_790, gw_791, gw_49, gw_792, by decide +kernel, by decide +kernel⟩
theorem gw_776 : Cond.code yX8_copyFrom cX8_copyFrom 2 none ∈ GW := GW_t4 12 rfl rfl
theorem gw_185 : Cond.fieldLink "FoldedArchive$History" 18 "FoldedArchive$History" "next" "I" ∈ GW := GW_t1 141 rfl rfl
theorem fl_X3_18 : FL RX3 18 3 1 "I" false := ⟨RX3, TX3, 3, tyX3, rfl, inG_X3, by decide, gw_185, tyX3_ok, nmX3, rfl, rfl⟩
theorem gw_769 : Cond.methodLink "FoldedArchive$History" 22 yX3_stateAt ∈ GW := GW_t4 5 rfl rfl
theorem gw_771 : Cond.instanceMethod yX3_stateAt ∈ GW := GW_t4 7 rfl rfl
theorem gw_17 : Cond.selects yX3_stateAt.cls yX3_stateAt yX3_stateAt ∈ GW := GW_pr 17 (q := (yX3_stateAt, 3)) rfl
theorem gw_50 : Cond.initialized "FoldedArchive$History" ∈ GW := GW_t1 6 rfl rfl
theorem cv_X3_22 : CV RX3 22 yX3_stateAt cX3_stateAt 2 (some (.object "FoldedArchive$State")) 1 := ⟨gw_769, gw_771, gw_17, gw_50, gw_772, by decide +kernel, by decide +kernel⟩
theorem gw_186 : Cond.fieldLink "FoldedArchive$History" 30 "FoldedArchive$History" "count" "I" ∈ GW := GW_t1 142 rfl rfl
theorem fl_X3_30 : FL RX3 30 3 2 "I" false := ⟨RX3, TX3, 3, tyX3, rfl, inG_X3, by decide, gw_186, tyX3_ok, nmX3, rfl, rfl⟩
theorem gw_794 : Cond.methodLink "FoldedArchive$History" 33 Lib.Math.min.name ∈ GW := GW_t4 30 rfl rfl
theorem gw_773 : Cond.methodLink "FoldedArchive$History" 26 yX8_copyFrom ∈ GW := GW_t4 9 rfl rfl
theorem gw_774 : Cond.instanceMethod yX8_copyFrom ∈ GW := GW_t4 10 rfl rfl
theorem gw_775 : Cond.selects yX8_copyFrom.cls yX8_copyFrom yX8_copyFrom ∈ GW := GW_t4 11 rfl rfl
theorem gw_46 : Cond.initialized "FoldedArchive$State" ∈ GW := GW_t1 2 rfl rfl
theorem cv_X3_26 : CV RX3 26 yX8_copyFrom cX8_copyFrom 2 none 1 := ⟨gw_773, gw_774, gw_775, gw_46, gw_776, by decide +kernel, by decide +kernel⟩
theorem gw_768 : Cond.code yX3_keep cX3_keep 3 none ∈ GW := GW_t4 4 rfl rfl
theorem gw_1584 : Cond.code yX3_takeBack cX3_takeBack 3 none ∈ GW := GW_t7 100 rfl rfl
theorem gw_1595 : Cond.code yX3_forget cX3_forget 1 none ∈ GW := GW_t7 111 rfl rfl
theorem gw_524 : Cond.code yX4_sectionAt cX4_sectionAt 3 (some .int) ∈ GW := GW_t3 0 rfl rfl
theorem gw_844 : Cond.code yX5_brokenCount cX5_brokenCount 3 (some .int) ∈ GW := GW_t4 80 rfl rfl
theorem gw_832 : Cond.code yX5_append cX5_append 4 (some .int) ∈ GW := GW_t4 68 rfl rfl
theorem gw_836 : Cond.code yX5_remove cX5_remove 3 (some .int) ∈ GW := GW_t4 72 rfl rfl
theorem gw_841 : Cond.methodLink "FoldedArchive$Pipes" 39 yX5_brokenCount ∈ GW := GW_t4 77 rfl rfl
theorem gw_842 : Cond.instanceMethod yX5_brokenCount ∈ GW := GW_t4 78 rfl rfl
theorem gw_843 : Cond.selects yX5_brokenCount.cls yX5_brokenCount yX5_brokenCount ∈ GW := GW_t4 79 rfl rfl
theorem cv_X5_39 : CV RX5 39 yX5_brokenCount cX5_brokenCount 3 (some .int) 0 := ⟨gw_841, gw_842, gw_843, gw_49, gw_844, by decide +kernel, by decide +kernel⟩
theorem gw_840 : Cond.code yX5_setBroken cX5_setBroken 3 (some .int) ∈ GW := GW_t4 76 rfl rfl
theorem gw_1245 : Cond.code yX6_isFull cX6_isFull 1 (some .boolean) ∈ GW := GW_t6 1 rfl rfl
theorem gw_1264 : Cond.code yX6_put cX6_put 2 none ∈ GW := GW_t6 20 rfl rfl
theorem gw_1332 : Cond.code yX6_empty cX6_empty 1 none ∈ GW := GW_t6 88 rfl rfl
theorem gw_460 : Cond.code yX9_has cX9_has 2 (some .boolean) ∈ GW := GW_t2 176 rfl rfl
theorem gw_741 : Cond.methodLink "FoldedArchive$Strip" 34 yX9_isTerm ∈ GW := GW_t3 217 rfl rfl
theorem cs_X9_34 : CS RX9 34 yX9_isTerm cX9_isTerm 1 (some .boolean) 1 := ⟨gw_741, gw_732, gw_47, gw_733, by decide +kernel, by decide +kernel⟩
theorem gw_740 : Cond.code yX9_bitOf cX9_bitOf 1 (some .int) ∈ GW := GW_t3 216 rfl rfl
theorem gw_486 : Cond.methodLink "FoldedArchive$Strip" 38 yX9_has ∈ GW := GW_t2 202 rfl rfl
theorem gw_458 : Cond.instanceMethod yX9_has ∈ GW := GW_t2 174 rfl rfl
theorem gw_459 : Cond.selects yX9_has.cls yX9_has yX9_has ∈ GW := GW_t2 175 rfl rfl
theorem cv_X9_38 : CV RX9 38 yX9_has cX9_has 2 (some .boolean) 1 := ⟨gw_486, gw_458, gw_459, gw_47, gw_460, by decide +kernel, by decide +kernel⟩
theorem gw_738 : Cond.methodLink "FoldedArchive$Strip" 47 yX9_bitOf ∈ GW := GW_t3 214 rfl rfl
theorem gw_739 : Cond.static yX9_bitOf ∈ GW := GW_t3 215 rfl rfl
theorem cs_X9_47 : CS RX9 47 yX9_bitOf cX9_bitOf 1 (some .int) 1 := ⟨gw_738, gw_739, gw_47, gw_740, by decide +kernel, by decide +kernel⟩
theorem gw_737 : Cond.code yX9_bears cX9_bears 3 (some .boolean) ∈ GW := GW_t3 213 rfl rfl
theorem gw_1506 : Cond.methodLink "FoldedArchive$Strip" 50 yX9_bears ∈ GW := GW_t7 22 rfl rfl
theorem gw_735 : Cond.instanceMethod yX9_bears ∈ GW := GW_t3 211 rfl rfl
theorem gw_736 : Cond.selects yX9_bears.cls yX9_bears yX9_bears ∈ GW := GW_t3 212 rfl rfl
theorem cv_X9_50 : CV RX9 50 yX9_bears cX9_bears 3 (some .boolean) 2 := ⟨gw_1506, gw_735, gw_736, gw_47, gw_737, by decide +kernel, by decide +kernel⟩
theorem gw_1505 : Cond.code yX9_bearersOf cX9_bearersOf 4 (some .int) ∈ GW := GW_t7 21 rfl rfl
theorem gw_99 : Cond.fieldLink "FoldedArchive$SearchReader" 15 "FoldedArchive$Strip" "count" "I" ∈ GW := GW_t1 55 rfl rfl
theorem fl_X7_15 : FL RX7 15 9 0 "I" false := ⟨RX9, TX9, 5, tyX9, rfl, inG_X9, by decide, gw_99, tyX9_ok, nmX9, rfl, rfl⟩
theorem gw_253 : Cond.fieldLink "FoldedArchive$SearchReader" 21 "FoldedArchive$SearchReader" "everything" "I" ∈ GW := GW_t1 209 rfl rfl
theorem gw_257 : Cond.laysFinal "FoldedArchive$SearchReader" "FoldedArchive$SearchReader" "bearers" "[I" ∈ GW := GW_t1 213 rfl rfl
theorem gw_259 : Cond.lays "FoldedArchive$SearchReader" "FoldedArchive$SearchReader" "everything" "I" ∈ GW := GW_t1 215 rfl rfl
theorem gw_261 : Cond.lays "FoldedArchive$SearchReader" "FoldedArchive$SearchReader" "position" "I" ∈ GW := GW_t1 217 rfl rfl
theorem gw_263 : Cond.lays "FoldedArchive$SearchReader" "FoldedArchive$SearchReader" "fault" "I" ∈ GW := GW_t1 219 rfl rfl
theorem inG_X7 : ∀ w ∈ u_ws RX7 TX7 4, w ∈ GW := by
  have e : u_ws RX7 TX7 4 = [u_lay RX7 TX7 0, u_lay RX7 TX7 1, u_lay RX7 TX7 2, u_lay RX7 TX7 3] := rfl
  rw [e]
  exact List.forall_mem_cons.mpr ⟨gw_257, List.forall_mem_cons.mpr ⟨gw_259, List.forall_mem_cons.mpr ⟨gw_261, List.forall_mem_cons.mpr ⟨gw_263, fun _ h => absurd h List.not_mem_nil⟩⟩⟩⟩
theorem fl_X7_21 : FL RX7 21 7 1 "I" false := ⟨RX7, TX7, 4, tyX7, rfl, inG_X7, by decide, gw_253, tyX7_ok, nmX7, rfl, rfl⟩
theorem tt_136 : TT[136]? = some (0, 7, [some 137, none, none, none]) := by decide +kernel
theorem gw_252 : Cond.fieldLink "FoldedArchive$SearchReader" 9 "FoldedArchive$SearchReader" "bearers" "[I" ∈ GW := GW_t1 208 rfl rfl
theorem fl_X7_9 : FL RX7 9 7 0 "[I" true := ⟨RX7, TX7, 4, tyX7, rfl, inG_X7, by decide, gw_252, tyX7_ok, nmX7, rfl, rfl⟩
theorem gw_1502 : Cond.methodLink "FoldedArchive$SearchReader" 24 yX9_bearersOf ∈ GW := GW_t7 18 rfl rfl
theorem gw_1503 : Cond.instanceMethod yX9_bearersOf ∈ GW := GW_t7 19 rfl rfl
theorem gw_1504 : Cond.selects yX9_bearersOf.cls yX9_bearersOf yX9_bearersOf ∈ GW := GW_t7 20 rfl rfl
theorem cv_X7_24 : CV RX7 24 yX9_bearersOf cX9_bearersOf 4 (some .int) 1 := ⟨gw_1502, gw_1503, gw_1504, gw_47, gw_1505, by decide +kernel, by decide +kernel⟩
theorem tt_137 : TT[137]? = some (1, 8, []) := by decide +kernel
theorem gw_1501 : Cond.code yX7_askForAll cX7_askForAll 3 none ∈ GW := GW_t7 17 rfl rfl
theorem gw_1566 : Cond.methodLink "FoldedArchive$SearchReader" 28 yX9_bears ∈ GW := GW_t7 82 rfl rfl
theorem cv_X7_28 : CV RX7 28 yX9_bears cX9_bears 3 (some .boolean) 2 := ⟨gw_1566, gw_735, gw_736, gw_47, gw_737, by decide +kernel, by decide +kernel⟩
theorem gw_1565 : Cond.code yX7_askForOne cX7_askForOne 4 none ∈ GW := GW_t7 81 rfl rfl
theorem gw_1532 : Cond.code yX7_bearersOf cX7_bearersOf 3 (some .int) ∈ GW := GW_t7 48 rfl rfl
theorem gw_254 : Cond.fieldLink "FoldedArchive$SearchReader" 32 "FoldedArchive$SearchReader" "position" "I" ∈ GW := GW_t1 210 rfl rfl
theorem fl_X7_32 : FL RX7 32 7 2 "I" false := ⟨RX7, TX7, 4, tyX7, rfl, inG_X7, by decide, gw_254, tyX7_ok, nmX7, rfl, rfl⟩
theorem gw_1523 : Cond.methodLink "FoldedArchive$SearchReader" 50 yX6_at ∈ GW := GW_t7 39 rfl rfl
theorem cv_X7_50 : CV RX7 50 yX6_at cX6_at 2 (some .char) 1 := ⟨gw_1523, gw_1306, gw_1307, gw_53, gw_1308, by decide +kernel, by decide +kernel⟩
theorem gw_1528 : Cond.methodLink "FoldedArchive$SearchReader" 61 yX9_isTerm ∈ GW := GW_t7 44 rfl rfl
theorem cs_X7_61 : CS RX7 61 yX9_isTerm cX9_isTerm 1 (some .boolean) 1 := ⟨gw_1528, gw_732, gw_47, gw_733, by decide +kernel, by decide +kernel⟩
theorem gw_255 : Cond.fieldLink "FoldedArchive$SearchReader" 35 "FoldedArchive$SearchReader" "fault" "I" ∈ GW := GW_t1 211 rfl rfl
theorem fl_X7_35 : FL RX7 35 7 3 "I" false := ⟨RX7, TX7, 4, tyX7, rfl, inG_X7, by decide, gw_255, tyX7_ok, nmX7, rfl, rfl⟩
theorem gw_1511 : Cond.methodLink "FoldedArchive$SearchReader" 38 yX7_readSum ∈ GW := GW_t7 27 rfl rfl
theorem gw_1513 : Cond.instanceMethod yX7_readSum ∈ GW := GW_t7 29 rfl rfl
theorem gw_32 : Cond.selects yX7_readSum.cls yX7_readSum yX7_readSum ∈ GW := GW_pr 32 (q := (yX7_readSum, 4)) rfl
theorem gw_55 : Cond.initialized "FoldedArchive$SearchReader" ∈ GW := GW_t1 11 rfl rfl
theorem gw_1514 : Cond.code yX7_readSum cX7_readSum 5 (some .int) ∈ GW := GW_t7 30 rfl rfl
theorem cv_X7_38 : CV RX7 38 yX7_readSum cX7_readSum 5 (some .int) 2 := ⟨gw_1511, gw_1513, gw_32, gw_55, gw_1514, by decide +kernel, by decide +kernel⟩
theorem gw_1529 : Cond.methodLink "FoldedArchive$SearchReader" 68 yX7_bearersOf ∈ GW := GW_t7 45 rfl rfl
theorem gw_1531 : Cond.instanceMethod yX7_bearersOf ∈ GW := GW_t7 47 rfl rfl
theorem gw_36 : Cond.selects yX7_bearersOf.cls yX7_bearersOf yX7_bearersOf ∈ GW := GW_pr 36 (q := (yX7_bearersOf, 4)) rfl
theorem cv_X7_68 : CV RX7 68 yX7_bearersOf cX7_bearersOf 3 (some .int) 1 := ⟨gw_1529, gw_1531, gw_36, gw_55, gw_1532, by decide +kernel, by decide +kernel⟩
theorem gw_1527 : Cond.code yX7_readPlainFactor cX7_readPlainFactor 5 (some .int) ∈ GW := GW_t7 43 rfl rfl
theorem gw_1524 : Cond.methodLink "FoldedArchive$SearchReader" 65 yX7_readPlainFactor ∈ GW := GW_t7 40 rfl rfl
theorem gw_1526 : Cond.instanceMethod yX7_readPlainFactor ∈ GW := GW_t7 42 rfl rfl
theorem gw_35 : Cond.selects yX7_readPlainFactor.cls yX7_readPlainFactor yX7_readPlainFactor ∈ GW := GW_pr 35 (q := (yX7_readPlainFactor, 4)) rfl
theorem cv_X7_65 : CV RX7 65 yX7_readPlainFactor cX7_readPlainFactor 5 (some .int) 2 := ⟨gw_1524, gw_1526, gw_35, gw_55, gw_1527, by decide +kernel, by decide +kernel⟩
theorem gw_1522 : Cond.code yX7_readFactor cX7_readFactor 5 (some .int) ∈ GW := GW_t7 38 rfl rfl
theorem gw_1535 : Cond.code yX7_startsFactor cX7_startsFactor 1 (some .boolean) ∈ GW := GW_t7 51 rfl rfl
theorem gw_1519 : Cond.methodLink "FoldedArchive$SearchReader" 54 yX7_readFactor ∈ GW := GW_t7 35 rfl rfl
theorem gw_1521 : Cond.instanceMethod yX7_readFactor ∈ GW := GW_t7 37 rfl rfl
theorem gw_34 : Cond.selects yX7_readFactor.cls yX7_readFactor yX7_readFactor ∈ GW := GW_pr 34 (q := (yX7_readFactor, 4)) rfl
theorem cv_X7_54 : CV RX7 54 yX7_readFactor cX7_readFactor 5 (some .int) 2 := ⟨gw_1519, gw_1521, gw_34, gw_55, gw_1522, by decide +kernel, by decide +kernel⟩
theorem gw_1533 : Cond.methodLink "FoldedArchive$SearchReader" 57 yX7_startsFactor ∈ GW := GW_t7 49 rfl rfl
theorem gw_1534 : Cond.static yX7_startsFactor ∈ GW := GW_t7 50 rfl rfl
theorem cs_X7_57 : CS RX7 57 yX7_startsFactor cX7_startsFactor 1 (some .boolean) 1 := ⟨gw_1533, gw_1534, gw_55, gw_1535, by decide +kernel, by decide +kernel⟩
theorem gw_1518 : Cond.code yX7_readProduct cX7_readProduct 5 (some .int) ∈ GW := GW_t7 34 rfl rfl
theorem gw_1515 : Cond.methodLink "FoldedArchive$SearchReader" 47 yX7_readProduct ∈ GW := GW_t7 31 rfl rfl
theorem gw_1517 : Cond.instanceMethod yX7_readProduct ∈ GW := GW_t7 33 rfl rfl
theorem gw_33 : Cond.selects yX7_readProduct.cls yX7_readProduct yX7_readProduct ∈ GW := GW_pr 33 (q := (yX7_readProduct, 4)) rfl
theorem cv_X7_47 : CV RX7 47 yX7_readProduct cX7_readProduct 5 (some .int) 2 := ⟨gw_1515, gw_1517, gw_33, gw_55, gw_1518, by decide +kernel, by decide +kernel⟩
theorem gw_237 : Cond.fieldLink "FoldedArchive$SearchReader" 42 "FoldedArchive$Row" "length" "I" ∈ GW := GW_t1 193 rfl rfl
theorem fl_X7_42 : FL RX7 42 6 1 "I" false := ⟨RX6, TX6, 2, tyX6, rfl, inG_X6, by decide, gw_237, tyX6_ok, nmX6, rfl, rfl⟩
theorem gw_1510 : Cond.code yX7_read cX7_read 3 (some .int) ∈ GW := GW_t7 26 rfl rfl
theorem gw_538 : Cond.code yX8_denied cX8_denied 2 (some .int) ∈ GW := GW_t3 14 rfl rfl
theorem gw_485 : Cond.code yX9_waterOf cX9_waterOf 2 (some .int) ∈ GW := GW_t2 201 rfl rfl
theorem gw_725 : Cond.methodLink "FoldedArchive$State" 80 yX9_has ∈ GW := GW_t3 201 rfl rfl
theorem cv_X8_80 : CV RX8 80 yX9_has cX9_has 2 (some .boolean) 1 := ⟨gw_725, gw_458, gw_459, gw_47, gw_460, by decide +kernel, by decide +kernel⟩
theorem gw_726 : Cond.methodLink "FoldedArchive$State" 81 yX9_waterOf ∈ GW := GW_t3 202 rfl rfl
theorem gw_483 : Cond.instanceMethod yX9_waterOf ∈ GW := GW_t2 199 rfl rfl
theorem gw_484 : Cond.selects yX9_waterOf.cls yX9_waterOf yX9_waterOf ∈ GW := GW_t2 200 rfl rfl
theorem cv_X8_81 : CV RX8 81 yX9_waterOf cX9_waterOf 2 (some .int) 1 := ⟨gw_726, gw_483, gw_484, gw_47, gw_485, by decide +kernel, by decide +kernel⟩
theorem gw_536 : Cond.methodLink "FoldedArchive$State" 46 yX8_denied ∈ GW := GW_t3 12 rfl rfl
theorem gw_537 : Cond.static yX8_denied ∈ GW := GW_t3 13 rfl rfl
theorem cs_X8_46 : CS RX8 46 yX8_denied cX8_denied 2 (some .int) 2 := ⟨gw_536, gw_537, gw_46, gw_538, by decide +kernel, by decide +kernel⟩
theorem gw_724 : Cond.code yX8_judgePour cX8_judgePour 3 (some .int) ∈ GW := GW_t3 200 rfl rfl
theorem gw_749 : Cond.constant "java/lang/Integer" 265 1431655765 ∈ GW := GW_t3 225 rfl rfl
theorem gw_750 : Cond.constant "java/lang/Integer" 266 858993459 ∈ GW := GW_t3 226 rfl rfl
theorem gw_751 : Cond.constant "java/lang/Integer" 267 252645135 ∈ GW := GW_t3 227 rfl rfl
theorem gw_748 : Cond.code yJ6_bitCount_0f7a4 cJ6_bitCount_0f7a4 1 (some .int) ∈ GW := GW_t3 224 rfl rfl
theorem gw_746 : Cond.methodLink "FoldedArchive$Strip" 41 yJ6_bitCount_0f7a4 ∈ GW := GW_t3 222 rfl rfl
theorem gw_747 : Cond.static yJ6_bitCount_0f7a4 ∈ GW := GW_t3 223 rfl rfl
theorem gw_67 : Cond.initialized "java/lang/Integer" ∈ GW := GW_t1 23 rfl rfl
theorem cs_X9_41 : CS RX9 41 yJ6_bitCount_0f7a4 cJ6_bitCount_0f7a4 1 (some .int) 1 := ⟨gw_746, gw_747, gw_67, gw_748, by decide +kernel, by decide +kernel⟩
theorem gw_745 : Cond.code yX9_termCountOf cX9_termCountOf 2 (some .int) ∈ GW := GW_t3 221 rfl rfl
theorem gw_731 : Cond.methodLink "FoldedArchive$State" 84 yX9_isTerm ∈ GW := GW_t3 207 rfl rfl
theorem cs_X8_84 : CS RX8 84 yX9_isTerm cX9_isTerm 1 (some .boolean) 1 := ⟨gw_731, gw_732, gw_47, gw_733, by decide +kernel, by decide +kernel⟩
theorem gw_734 : Cond.methodLink "FoldedArchive$State" 87 yX9_bears ∈ GW := GW_t3 210 rfl rfl
theorem cv_X8_87 : CV RX8 87 yX9_bears cX9_bears 3 (some .boolean) 2 := ⟨gw_734, gw_735, gw_736, gw_47, gw_737, by decide +kernel, by decide +kernel⟩
theorem gw_742 : Cond.methodLink "FoldedArchive$State" 91 yX9_termCountOf ∈ GW := GW_t3 218 rfl rfl
theorem gw_743 : Cond.instanceMethod yX9_termCountOf ∈ GW := GW_t3 219 rfl rfl
theorem gw_744 : Cond.selects yX9_termCountOf.cls yX9_termCountOf yX9_termCountOf ∈ GW := GW_t3 220 rfl rfl
theorem cv_X8_91 : CV RX8 91 yX9_termCountOf cX9_termCountOf 2 (some .int) 1 := ⟨gw_742, gw_743, gw_744, gw_47, gw_745, by decide +kernel, by decide +kernel⟩
theorem gw_730 : Cond.code yX8_judgeTerm cX8_judgeTerm 4 (some .int) ∈ GW := GW_t3 206 rfl rfl
theorem gw_128 : Cond.fieldLink "FoldedArchive$State" 77 "FoldedArchive$Pile" "folded" "I" ∈ GW := GW_t1 84 rfl rfl
theorem fl_X8_77 : FL RX8 77 4 0 "I" false := ⟨RX4, TX4, 2, tyX4, rfl, inG_X4, by decide, gw_128, tyX4_ok, nmX4, rfl, rfl⟩
theorem gw_100 : Cond.fieldLink "FoldedArchive$State" 42 "FoldedArchive$Strip" "count" "I" ∈ GW := GW_t1 56 rfl rfl
theorem fl_X8_42 : FL RX8 42 9 0 "I" false := ⟨RX9, TX9, 5, tyX9, rfl, inG_X9, by decide, gw_100, tyX9_ok, nmX9, rfl, rfl⟩
theorem gw_539 : Cond.methodLink "FoldedArchive$State" 94 yX4_creaseCrossedAt ∈ GW := GW_t3 15 rfl rfl
theorem cv_X8_94 : CV RX8 94 yX4_creaseCrossedAt cX4_creaseCrossedAt 7 (some .int) 1 := ⟨gw_539, gw_540, gw_541, gw_48, gw_542, by decide +kernel, by decide +kernel⟩
theorem gw_535 : Cond.code yX8_judgeFold cX8_judgeFold 3 (some .int) ∈ GW := GW_t3 11 rfl rfl
theorem gw_144 : Cond.fieldLink "FoldedArchive$State" 97 "FoldedArchive$Pipes" "count" "I" ∈ GW := GW_t1 100 rfl rfl
theorem fl_X8_97 : FL RX8 97 5 0 "I" false := ⟨RX5, TX5, 5, tyX5, rfl, inG_X5, by decide, gw_144, tyX5_ok, nmX5, rfl, rfl⟩
theorem gw_756 : Cond.code yX8_judgePipe cX8_judgePipe 4 (some .int) ∈ GW := GW_t3 232 rfl rfl
theorem gw_757 : Cond.methodLink "FoldedArchive$State" 65 yX5_has ∈ GW := GW_t3 233 rfl rfl
theorem cv_X8_65 : CV RX8 65 yX5_has cX5_has 2 (some .boolean) 1 := ⟨gw_757, gw_567, gw_568, gw_49, gw_569, by decide +kernel, by decide +kernel⟩
theorem gw_762 : Cond.methodLink "FoldedArchive$State" 98 yX5_brokenAt ∈ GW := GW_t3 238 rfl rfl
theorem cv_X8_98 : CV RX8 98 yX5_brokenAt cX5_brokenAt 2 (some .boolean) 1 := ⟨gw_762, gw_583, gw_584, gw_49, gw_585, by decide +kernel, by decide +kernel⟩
theorem gw_763 : Cond.methodLink "FoldedArchive$State" 101 yX5_widthOf ∈ GW := GW_t3 239 rfl rfl
theorem cv_X8_101 : CV RX8 101 yX5_widthOf cX5_widthOf 2 (some .int) 1 := ⟨gw_763, gw_571, gw_572, gw_49, gw_573, by decide +kernel, by decide +kernel⟩
theorem gw_761 : Cond.code yX8_judgeBroken cX8_judgeBroken 3 (some .int) ∈ GW := GW_t3 237 rfl rfl
theorem gw_597 : Cond.code yX8_judgeEnds cX8_judgeEnds 1 (some .int) ∈ GW := GW_t3 73 rfl rfl
theorem gw_721 : Cond.methodLink "FoldedArchive$State" 50 yX8_judgePour ∈ GW := GW_t3 197 rfl rfl
theorem gw_723 : Cond.instanceMethod yX8_judgePour ∈ GW := GW_t3 199 rfl rfl
theorem gw_13 : Cond.selects yX8_judgePour.cls yX8_judgePour yX8_judgePour ∈ GW := GW_pr 13 (q := (yX8_judgePour, 3)) rfl
theorem cv_X8_50 : CV RX8 50 yX8_judgePour cX8_judgePour 3 (some .int) 2 := ⟨gw_721, gw_723, gw_13, gw_46, gw_724, by decide +kernel, by decide +kernel⟩
theorem gw_727 : Cond.methodLink "FoldedArchive$State" 53 yX8_judgeTerm ∈ GW := GW_t3 203 rfl rfl
theorem gw_729 : Cond.instanceMethod yX8_judgeTerm ∈ GW := GW_t3 205 rfl rfl
theorem gw_14 : Cond.selects yX8_judgeTerm.cls yX8_judgeTerm yX8_judgeTerm ∈ GW := GW_pr 14 (q := (yX8_judgeTerm, 3)) rfl
theorem cv_X8_53 : CV RX8 53 yX8_judgeTerm cX8_judgeTerm 4 (some .int) 3 := ⟨gw_727, gw_729, gw_14, gw_46, gw_730, by decide +kernel, by decide +kernel⟩
theorem gw_752 : Cond.methodLink "FoldedArchive$State" 57 yX8_judgeFold ∈ GW := GW_t3 228 rfl rfl
theorem gw_533 : Cond.instanceMethod yX8_judgeFold ∈ GW := GW_t3 9 rfl rfl
theorem gw_534 : Cond.selects yX8_judgeFold.cls yX8_judgeFold yX8_judgeFold ∈ GW := GW_t3 10 rfl rfl
theorem cv_X8_57 : CV RX8 57 yX8_judgeFold cX8_judgeFold 3 (some .int) 1 := ⟨gw_752, gw_533, gw_534, gw_46, gw_535, by decide +kernel, by decide +kernel⟩
theorem gw_753 : Cond.methodLink "FoldedArchive$State" 61 yX8_judgePipe ∈ GW := GW_t3 229 rfl rfl
theorem gw_755 : Cond.instanceMethod yX8_judgePipe ∈ GW := GW_t3 231 rfl rfl
theorem gw_15 : Cond.selects yX8_judgePipe.cls yX8_judgePipe yX8_judgePipe ∈ GW := GW_pr 15 (q := (yX8_judgePipe, 3)) rfl
theorem cv_X8_61 : CV RX8 61 yX8_judgePipe cX8_judgePipe 4 (some .int) 3 := ⟨gw_753, gw_755, gw_15, gw_46, gw_756, by decide +kernel, by decide +kernel⟩
theorem gw_758 : Cond.methodLink "FoldedArchive$State" 69 yX8_judgeBroken ∈ GW := GW_t3 234 rfl rfl
theorem gw_760 : Cond.instanceMethod yX8_judgeBroken ∈ GW := GW_t3 236 rfl rfl
theorem gw_16 : Cond.selects yX8_judgeBroken.cls yX8_judgeBroken yX8_judgeBroken ∈ GW := GW_pr 16 (q := (yX8_judgeBroken, 3)) rfl
theorem cv_X8_69 : CV RX8 69 yX8_judgeBroken cX8_judgeBroken 3 (some .int) 2 := ⟨gw_758, gw_760, gw_16, gw_46, gw_761, by decide +kernel, by decide +kernel⟩
theorem gw_764 : Cond.methodLink "FoldedArchive$State" 73 yX8_judgeEnds ∈ GW := GW_t4 0 rfl rfl
theorem gw_595 : Cond.instanceMethod yX8_judgeEnds ∈ GW := GW_t3 71 rfl rfl
theorem gw_596 : Cond.selects yX8_judgeEnds.cls yX8_judgeEnds yX8_judgeEnds ∈ GW := GW_t3 72 rfl rfl
theorem cv_X8_73 : CV RX8 73 yX8_judgeEnds cX8_judgeEnds 1 (some .int) 0 := ⟨gw_764, gw_595, gw_596, gw_46, gw_597, by decide +kernel, by decide +kernel⟩
theorem gw_720 : Cond.code yX8_judge cX8_judge 5 (some .int) ∈ GW := GW_t3 196 rfl rfl
theorem gw_802 : Cond.code yX9_append cX9_append 1 (some .int) ∈ GW := GW_t4 38 rfl rfl
theorem gw_810 : Cond.code yX9_add cX9_add 3 none ∈ GW := GW_t4 46 rfl rfl
theorem gw_807 : Cond.methodLink "FoldedArchive$Strip" 57 yX9_add ∈ GW := GW_t4 43 rfl rfl
theorem gw_809 : Cond.instanceMethod yX9_add ∈ GW := GW_t4 45 rfl rfl
theorem gw_18 : Cond.selects yX9_add.cls yX9_add yX9_add ∈ GW := GW_pr 18 (q := (yX9_add, 5)) rfl
theorem cv_X9_57 : CV RX9 57 yX9_add cX9_add 3 none 2 := ⟨gw_807, gw_809, gw_18, gw_47, gw_810, by decide +kernel, by decide +kernel⟩
theorem gw_811 : Cond.methodLink "FoldedArchive$Strip" 61 yX9_waterOf ∈ GW := GW_t4 47 rfl rfl
theorem cv_X9_61 : CV RX9 61 yX9_waterOf cX9_waterOf 2 (some .int) 1 := ⟨gw_811, gw_483, gw_484, gw_47, gw_485, by decide +kernel, by decide +kernel⟩
theorem gw_806 : Cond.code yX9_receivePoured cX9_receivePoured 3 (some .int) ∈ GW := GW_t4 42 rfl rfl
theorem gw_816 : Cond.methodLink "FoldedArchive$Strip" 54 yX9_termCountOf ∈ GW := GW_t4 52 rfl rfl
theorem cv_X9_54 : CV RX9 54 yX9_termCountOf cX9_termCountOf 2 (some .int) 1 := ⟨gw_816, gw_743, gw_744, gw_47, gw_745, by decide +kernel, by decide +kernel⟩
theorem gw_815 : Cond.code yX9_giveTerm cX9_giveTerm 3 (some .int) ∈ GW := GW_t4 51 rfl rfl
theorem gw_820 : Cond.code yX9_takeTerm cX9_takeTerm 3 (some .int) ∈ GW := GW_t4 56 rfl rfl
theorem gw_855 : Cond.code yX9_give cX9_give 3 none ∈ GW := GW_t4 91 rfl rfl
theorem gw_860 : Cond.methodLink "FoldedArchive$Strip" 64 Lib.Math.min.name ∈ GW := GW_t4 96 rfl rfl
theorem gw_859 : Cond.code yX9_receive cX9_receive 4 (some .int) ∈ GW := GW_t4 95 rfl rfl
theorem gw_864 : Cond.code yX9_leak cX9_leak 2 none ∈ GW := GW_t4 100 rfl rfl
theorem gw_850 : Cond.methodLink "FoldedArchive$State" 142 Lib.Math.min.name ∈ GW := GW_t4 86 rfl rfl
theorem gw_851 : Cond.methodLink "FoldedArchive$State" 147 yX5_brokenCount ∈ GW := GW_t4 87 rfl rfl
theorem cv_X8_147 : CV RX8 147 yX5_brokenCount cX5_brokenCount 3 (some .int) 0 := ⟨gw_851, gw_842, gw_843, gw_49, gw_844, by decide +kernel, by decide +kernel⟩
theorem gw_852 : Cond.methodLink "FoldedArchive$State" 150 yX9_give ∈ GW := GW_t4 88 rfl rfl
theorem gw_853 : Cond.instanceMethod yX9_give ∈ GW := GW_t4 89 rfl rfl
theorem gw_854 : Cond.selects yX9_give.cls yX9_give yX9_give ∈ GW := GW_t4 90 rfl rfl
theorem cv_X8_150 : CV RX8 150 yX9_give cX9_give 3 none 2 := ⟨gw_852, gw_853, gw_854, gw_47, gw_855, by decide +kernel, by decide +kernel⟩
theorem gw_856 : Cond.methodLink "FoldedArchive$State" 154 yX9_receive ∈ GW := GW_t4 92 rfl rfl
theorem gw_857 : Cond.instanceMethod yX9_receive ∈ GW := GW_t4 93 rfl rfl
theorem gw_858 : Cond.selects yX9_receive.cls yX9_receive yX9_receive ∈ GW := GW_t4 94 rfl rfl
theorem cv_X8_154 : CV RX8 154 yX9_receive cX9_receive 4 (some .int) 2 := ⟨gw_856, gw_857, gw_858, gw_47, gw_859, by decide +kernel, by decide +kernel⟩
theorem gw_861 : Cond.methodLink "FoldedArchive$State" 157 yX9_leak ∈ GW := GW_t4 97 rfl rfl
theorem gw_862 : Cond.instanceMethod yX9_leak ∈ GW := GW_t4 98 rfl rfl
theorem gw_863 : Cond.selects yX9_leak.cls yX9_leak yX9_leak ∈ GW := GW_t4 99 rfl rfl
theorem cv_X8_157 : CV RX8 157 yX9_leak cX9_leak 2 none 1 := ⟨gw_861, gw_862, gw_863, gw_47, gw_864, by decide +kernel, by decide +kernel⟩
theorem gw_849 : Cond.code yX8_moveAlongPipes cX8_moveAlongPipes 4 (some .int) ∈ GW := GW_t4 85 rfl rfl
theorem gw_869 : Cond.methodLink "FoldedArchive$State" 161 yX4_sectionAt ∈ GW := GW_t4 105 rfl rfl
theorem gw_522 : Cond.instanceMethod yX4_sectionAt ∈ GW := GW_t2 238 rfl rfl
theorem gw_523 : Cond.selects yX4_sectionAt.cls yX4_sectionAt yX4_sectionAt ∈ GW := GW_t2 239 rfl rfl
theorem cv_X8_161 : CV RX8 161 yX4_sectionAt cX4_sectionAt 3 (some .int) 1 := ⟨gw_869, gw_522, gw_523, gw_48, gw_524, by decide +kernel, by decide +kernel⟩
theorem gw_868 : Cond.code yX8_moveDownPile cX8_moveDownPile 5 (some .int) ∈ GW := GW_t4 104 rfl rfl
theorem gw_799 : Cond.methodLink "FoldedArchive$State" 104 yX9_append ∈ GW := GW_t4 35 rfl rfl
theorem gw_800 : Cond.instanceMethod yX9_append ∈ GW := GW_t4 36 rfl rfl
theorem gw_801 : Cond.selects yX9_append.cls yX9_append yX9_append ∈ GW := GW_t4 37 rfl rfl
theorem cv_X8_104 : CV RX8 104 yX9_append cX9_append 1 (some .int) 0 := ⟨gw_799, gw_800, gw_801, gw_47, gw_802, by decide +kernel, by decide +kernel⟩
theorem gw_803 : Cond.methodLink "FoldedArchive$State" 107 yX9_receivePoured ∈ GW := GW_t4 39 rfl rfl
theorem gw_804 : Cond.instanceMethod yX9_receivePoured ∈ GW := GW_t4 40 rfl rfl
theorem gw_805 : Cond.selects yX9_receivePoured.cls yX9_receivePoured yX9_receivePoured ∈ GW := GW_t4 41 rfl rfl
theorem cv_X8_107 : CV RX8 107 yX9_receivePoured cX9_receivePoured 3 (some .int) 2 := ⟨gw_803, gw_804, gw_805, gw_47, gw_806, by decide +kernel, by decide +kernel⟩
theorem gw_812 : Cond.methodLink "FoldedArchive$State" 110 yX9_giveTerm ∈ GW := GW_t4 48 rfl rfl
theorem gw_813 : Cond.instanceMethod yX9_giveTerm ∈ GW := GW_t4 49 rfl rfl
theorem gw_814 : Cond.selects yX9_giveTerm.cls yX9_giveTerm yX9_giveTerm ∈ GW := GW_t4 50 rfl rfl
theorem cv_X8_110 : CV RX8 110 yX9_giveTerm cX9_giveTerm 3 (some .int) 2 := ⟨gw_812, gw_813, gw_814, gw_47, gw_815, by decide +kernel, by decide +kernel⟩
theorem gw_817 : Cond.methodLink "FoldedArchive$State" 113 yX9_takeTerm ∈ GW := GW_t4 53 rfl rfl
theorem gw_818 : Cond.instanceMethod yX9_takeTerm ∈ GW := GW_t4 54 rfl rfl
theorem gw_819 : Cond.selects yX9_takeTerm.cls yX9_takeTerm yX9_takeTerm ∈ GW := GW_t4 55 rfl rfl
theorem cv_X8_113 : CV RX8 113 yX9_takeTerm cX9_takeTerm 3 (some .int) 2 := ⟨gw_817, gw_818, gw_819, gw_47, gw_820, by decide +kernel, by decide +kernel⟩
theorem gw_821 : Cond.methodLink "FoldedArchive$State" 116 yX4_insert ∈ GW := GW_t4 57 rfl rfl
theorem cv_X8_116 : CV RX8 116 yX4_insert cX4_insert 3 (some .int) 1 := ⟨gw_821, gw_822, gw_823, gw_48, gw_824, by decide +kernel, by decide +kernel⟩
theorem gw_825 : Cond.methodLink "FoldedArchive$State" 119 yX4_removeLast ∈ GW := GW_t4 61 rfl rfl
theorem cv_X8_119 : CV RX8 119 yX4_removeLast cX4_removeLast 3 (some .int) 0 := ⟨gw_825, gw_826, gw_827, gw_48, gw_828, by decide +kernel, by decide +kernel⟩
theorem gw_829 : Cond.methodLink "FoldedArchive$State" 122 yX5_append ∈ GW := GW_t4 65 rfl rfl
theorem gw_830 : Cond.instanceMethod yX5_append ∈ GW := GW_t4 66 rfl rfl
theorem gw_831 : Cond.selects yX5_append.cls yX5_append yX5_append ∈ GW := GW_t4 67 rfl rfl
theorem cv_X8_122 : CV RX8 122 yX5_append cX5_append 4 (some .int) 3 := ⟨gw_829, gw_830, gw_831, gw_49, gw_832, by decide +kernel, by decide +kernel⟩
theorem gw_833 : Cond.methodLink "FoldedArchive$State" 124 yX5_remove ∈ GW := GW_t4 69 rfl rfl
theorem gw_834 : Cond.instanceMethod yX5_remove ∈ GW := GW_t4 70 rfl rfl
theorem gw_835 : Cond.selects yX5_remove.cls yX5_remove yX5_remove ∈ GW := GW_t4 71 rfl rfl
theorem cv_X8_124 : CV RX8 124 yX5_remove cX5_remove 3 (some .int) 1 := ⟨gw_833, gw_834, gw_835, gw_49, gw_836, by decide +kernel, by decide +kernel⟩
theorem gw_837 : Cond.methodLink "FoldedArchive$State" 127 yX5_setBroken ∈ GW := GW_t4 73 rfl rfl
theorem gw_838 : Cond.instanceMethod yX5_setBroken ∈ GW := GW_t4 74 rfl rfl
theorem gw_839 : Cond.selects yX5_setBroken.cls yX5_setBroken yX5_setBroken ∈ GW := GW_t4 75 rfl rfl
theorem cv_X8_127 : CV RX8 127 yX5_setBroken cX5_setBroken 3 (some .int) 2 := ⟨gw_837, gw_838, gw_839, gw_49, gw_840, by decide +kernel, by decide +kernel⟩
theorem gw_845 : Cond.methodLink "FoldedArchive$State" 130 yX1_greatest ∈ GW := GW_t4 81 rfl rfl
theorem gw_637 : Cond.instanceMethod yX1_greatest ∈ GW := GW_t3 113 rfl rfl
theorem gw_638 : Cond.selects yX1_greatest.cls yX1_greatest yX1_greatest ∈ GW := GW_t3 114 rfl rfl
theorem cv_X8_130 : CV RX8 130 yX1_greatest cX1_greatest 6 (some .int) 3 := ⟨gw_845, gw_637, gw_638, gw_51, gw_639, by decide +kernel, by decide +kernel⟩
theorem gw_846 : Cond.methodLink "FoldedArchive$State" 136 yX8_moveAlongPipes ∈ GW := GW_t4 82 rfl rfl
theorem gw_848 : Cond.instanceMethod yX8_moveAlongPipes ∈ GW := GW_t4 84 rfl rfl
theorem gw_19 : Cond.selects yX8_moveAlongPipes.cls yX8_moveAlongPipes yX8_moveAlongPipes ∈ GW := GW_pr 19 (q := (yX8_moveAlongPipes, 3)) rfl
theorem cv_X8_136 : CV RX8 136 yX8_moveAlongPipes cX8_moveAlongPipes 4 (some .int) 1 := ⟨gw_846, gw_848, gw_19, gw_46, gw_849, by decide +kernel, by decide +kernel⟩
theorem gw_865 : Cond.methodLink "FoldedArchive$State" 139 yX8_moveDownPile ∈ GW := GW_t4 101 rfl rfl
theorem gw_867 : Cond.instanceMethod yX8_moveDownPile ∈ GW := GW_t4 103 rfl rfl
theorem gw_20 : Cond.selects yX8_moveDownPile.cls yX8_moveDownPile yX8_moveDownPile ∈ GW := GW_pr 20 (q := (yX8_moveDownPile, 3)) rfl
theorem cv_X8_139 : CV RX8 139 yX8_moveDownPile cX8_moveDownPile 5 (some .int) 0 := ⟨gw_865, gw_867, gw_20, gw_46, gw_868, by decide +kernel, by decide +kernel⟩
theorem gw_798 : Cond.code yX8_apply cX8_apply 6 (some .int) ∈ GW := GW_t4 34 rfl rfl
theorem gw_1441 : Cond.code yX9_waterSum cX9_waterSum 3 (some .int) ∈ GW := GW_t6 197 rfl rfl
theorem gw_1415 : Cond.code yX9_comesBefore cX9_comesBefore 3 (some .boolean) ∈ GW := GW_t6 171 rfl rfl
theorem gw_1412 : Cond.methodLink "FoldedArchive$Strip" 70 yX9_comesBefore ∈ GW := GW_t6 168 rfl rfl
theorem gw_1414 : Cond.instanceMethod yX9_comesBefore ∈ GW := GW_t6 170 rfl rfl
theorem gw_31 : Cond.selects yX9_comesBefore.cls yX9_comesBefore yX9_comesBefore ∈ GW := GW_pr 31 (q := (yX9_comesBefore, 5)) rfl
theorem cv_X9_70 : CV RX9 70 yX9_comesBefore cX9_comesBefore 3 (some .boolean) 2 := ⟨gw_1412, gw_1414, gw_31, gw_47, gw_1415, by decide +kernel, by decide +kernel⟩
theorem gw_1411 : Cond.code yX9_rankOf cX9_rankOf 4 (some .int) ∈ GW := GW_t6 167 rfl rfl
theorem gw_1408 : Cond.methodLink "FoldedArchive$Strip" 73 yX9_rankOf ∈ GW := GW_t6 164 rfl rfl
theorem gw_1410 : Cond.instanceMethod yX9_rankOf ∈ GW := GW_t6 166 rfl rfl
theorem gw_30 : Cond.selects yX9_rankOf.cls yX9_rankOf yX9_rankOf ∈ GW := GW_pr 30 (q := (yX9_rankOf, 5)) rfl
theorem cv_X9_73 : CV RX9 73 yX9_rankOf cX9_rankOf 4 (some .int) 1 := ⟨gw_1408, gw_1410, gw_30, gw_47, gw_1411, by decide +kernel, by decide +kernel⟩
theorem gw_1407 : Cond.code yX9_sectionAtRank cX9_sectionAtRank 3 (some .int) ∈ GW := GW_t6 163 rfl rfl
theorem gw_305 : Cond.fieldLink "FoldedArchive" 77 "FoldedArchive" "deniedNumber" "I" ∈ GW := GW_t2 21 rfl rfl
theorem gw_308 : Cond.laysFinal "FoldedArchive" "FoldedArchive" "state" "LFoldedArchive$State;" ∈ GW := GW_t2 24 rfl rfl
theorem gw_310 : Cond.laysFinal "FoldedArchive" "FoldedArchive" "beforeText" "LFoldedArchive$State;" ∈ GW := GW_t2 26 rfl rfl
theorem gw_312 : Cond.laysFinal "FoldedArchive" "FoldedArchive" "snapshot" "LFoldedArchive$State;" ∈ GW := GW_t2 28 rfl rfl
theorem gw_314 : Cond.laysFinal "FoldedArchive" "FoldedArchive" "history" "LFoldedArchive$History;" ∈ GW := GW_t2 30 rfl rfl
theorem gw_316 : Cond.laysFinal "FoldedArchive" "FoldedArchive" "flows" "LFoldedArchive$FlowSearch;" ∈ GW := GW_t2 32 rfl rfl
theorem gw_318 : Cond.laysFinal "FoldedArchive" "FoldedArchive" "foldings" "LFoldedArchive$FoldingSearch;" ∈ GW := GW_t2 34 rfl rfl
theorem gw_320 : Cond.laysFinal "FoldedArchive" "FoldedArchive" "text" "LFoldedArchive$Row;" ∈ GW := GW_t2 36 rfl rfl
theorem gw_322 : Cond.laysFinal "FoldedArchive" "FoldedArchive" "line" "LFoldedArchive$Row;" ∈ GW := GW_t2 38 rfl rfl
theorem gw_324 : Cond.laysFinal "FoldedArchive" "FoldedArchive" "searches" "LFoldedArchive$SearchReader;" ∈ GW := GW_t2 40 rfl rfl
theorem gw_326 : Cond.laysFinal "FoldedArchive" "FoldedArchive" "commands" "LFoldedArchive$CommandReader;" ∈ GW := GW_t2 42 rfl rfl
theorem gw_328 : Cond.lays "FoldedArchive" "FoldedArchive" "snapshotSaved" "Z" ∈ GW := GW_t2 44 rfl rfl
theorem gw_330 : Cond.lays "FoldedArchive" "FoldedArchive" "keptFault" "I" ∈ GW := GW_t2 46 rfl rfl
theorem gw_332 : Cond.lays "FoldedArchive" "FoldedArchive" "deniedNumber" "I" ∈ GW := GW_t2 48 rfl rfl
theorem gw_334 : Cond.lays "FoldedArchive" "FoldedArchive" "deniedDetail" "I" ∈ GW := GW_t2 50 rfl rfl
theorem gw_336 : Cond.lays "FoldedArchive" "FoldedArchive" "deniedCause" "I" ∈ GW := GW_t2 52 rfl rfl
theorem inG_X10 : ∀ w ∈ u_ws RX10 TX10 15, w ∈ GW := by
  have e : u_ws RX10 TX10 15 = [u_lay RX10 TX10 0, u_lay RX10 TX10 1, u_lay RX10 TX10 2, u_lay RX10 TX10 3, u_lay RX10 TX10 4, u_lay RX10 TX10 5, u_lay RX10 TX10 6, u_lay RX10 TX10 7, u_lay RX10 TX10 8, u_lay RX10 TX10 9, u_lay RX10 TX10 10, u_lay RX10 TX10 11, u_lay RX10 TX10 12, u_lay RX10 TX10 13, u_lay RX10 TX10 14] := rfl
  rw [e]
  exact List.forall_mem_cons.mpr ⟨gw_308, List.forall_mem_cons.mpr ⟨gw_310, List.forall_mem_cons.mpr ⟨gw_312, List.forall_mem_cons.mpr ⟨gw_314, List.forall_mem_cons.mpr ⟨gw_316, List.forall_mem_cons.mpr ⟨gw_318, List.forall_mem_cons.mpr ⟨gw_320, List.forall_mem_cons.mpr ⟨gw_322, List.forall_mem_cons.mpr ⟨gw_324, List.forall_mem_cons.mpr ⟨gw_326, List.forall_mem_cons.mpr ⟨gw_328, List.forall_mem_cons.mpr ⟨gw_330, List.forall_mem_cons.mpr ⟨gw_332, List.forall_mem_cons.mpr ⟨gw_334, List.forall_mem_cons.mpr ⟨gw_336, fun _ h => absurd h List.not_mem_nil⟩⟩⟩⟩⟩⟩⟩⟩⟩⟩⟩⟩⟩⟩⟩
theorem fl_X10_77 : FL RX10 77 10 12 "I" false := ⟨RX10, TX10, 15, tyX10, rfl, inG_X10, by decide, gw_305, tyX10_ok, nmX10, rfl, rfl⟩
theorem tt_0 : TT[0]? = some (0, 10, [some 1, some 12, some 23, some 34, some 124, some 128, some 132, some 134, some 136, some 138, none, none, none, none, none]) := by decide +kernel
theorem gw_306 : Cond.fieldLink "FoldedArchive" 80 "FoldedArchive" "deniedDetail" "I" ∈ GW := GW_t2 22 rfl rfl
theorem fl_X10_80 : FL RX10 80 10 13 "I" false := ⟨RX10, TX10, 15, tyX10, rfl, inG_X10, by decide, gw_306, tyX10_ok, nmX10, rfl, rfl⟩
theorem gw_307 : Cond.fieldLink "FoldedArchive" 83 "FoldedArchive" "deniedCause" "I" ∈ GW := GW_t2 23 rfl rfl
theorem fl_X10_83 : FL RX10 83 10 14 "I" false := ⟨RX10, TX10, 15, tyX10, rfl, inG_X10, by decide, gw_307, tyX10_ok, nmX10, rfl, rfl⟩
theorem gw_620 : Cond.code yX10_recordDenial cX10_recordDenial 4 none ∈ GW := GW_t3 96 rfl rfl
theorem gw_617 : Cond.methodLink "FoldedArchive" 255 yX10_recordDenial ∈ GW := GW_t3 93 rfl rfl
theorem gw_619 : Cond.instanceMethod yX10_recordDenial ∈ GW := GW_t3 95 rfl rfl
theorem gw_5 : Cond.selects yX10_recordDenial.cls yX10_recordDenial yX10_recordDenial ∈ GW := GW_pr 5 (q := (yX10_recordDenial, 15)) rfl
theorem gw_45 : Cond.initialized "FoldedArchive" ∈ GW := GW_t1 1 rfl rfl
theorem cv_X10_255 : CV RX10 255 yX10_recordDenial cX10_recordDenial 4 none 3 := ⟨gw_617, gw_619, gw_5, gw_45, gw_620, by decide +kernel, by decide +kernel⟩
theorem gw_621 : Cond.classLink "FoldedArchive" 259 "java/lang/UnsupportedOperationException" ∈ GW := GW_t3 97 rfl rfl
theorem gw_65 : Cond.initialized "java/lang/UnsupportedOperationException" ∈ GW := GW_t1 21 rfl rfl
theorem xg_X10_259 : ∀ w ∈ vx_at0 RX10 261 "java/lang/UnsupportedOperationException" exN, w ∈ GW ∨ w ∈ NGW := GW_all _ (by decide +kernel)
theorem xo_X10_259 : ∀ w ∈ Cond.classLink RX10 259 "java/lang/UnsupportedOperationException" :: Cond.initialized "java/lang/UnsupportedOperationException" :: vx_at0 RX10 261 "java/lang/UnsupportedOperationException" exN, vx_ot w = true := List.all_eq_true.mp (by decide +kernel)
theorem gw_602 : Cond.classLink "FoldedArchive" 293 "java/lang/IllegalArgumentException" ∈ GW := GW_t3 78 rfl rfl
theorem gw_64 : Cond.initialized "java/lang/IllegalArgumentException" ∈ GW := GW_t1 20 rfl rfl
theorem xg_X10_293 : ∀ w ∈ vx_at0 RX10 295 "java/lang/IllegalArgumentException" exN, w ∈ GW ∨ w ∈ NGW := GW_all _ (by decide +kernel)
theorem xo_X10_293 : ∀ w ∈ Cond.classLink RX10 293 "java/lang/IllegalArgumentException" :: Cond.initialized "java/lang/IllegalArgumentException" :: vx_at0 RX10 295 "java/lang/IllegalArgumentException" exN, vx_ot w = true := List.all_eq_true.mp (by decide +kernel)
theorem gw_461 : Cond.classLink "FoldedArchive" 142 "java/lang/IndexOutOfBoundsException" ∈ GW := GW_t2 177 rfl rfl
theorem gw_60 : Cond.initialized "java/lang/IndexOutOfBoundsException" ∈ GW := GW_t1 16 rfl rfl
theorem xg_X10_142 : ∀ w ∈ vx_at0 RX10 144 "java/lang/IndexOutOfBoundsException" exN, w ∈ GW ∨ w ∈ NGW := GW_all _ (by decide +kernel)
theorem xo_X10_142 : ∀ w ∈ Cond.classLink RX10 142 "java/lang/IndexOutOfBoundsException" :: Cond.initialized "java/lang/IndexOutOfBoundsException" :: vx_at0 RX10 144 "java/lang/IndexOutOfBoundsException" exN, vx_ot w = true := List.all_eq_true.mp (by decide +kernel)
theorem gw_601 : Cond.code yX10_obey cX10_obey 2 none ∈ GW := GW_t3 77 rfl rfl
theorem gw_293 : Cond.fieldLink "FoldedArchive" 10 "FoldedArchive" "state" "LFoldedArchive$State;" ∈ GW := GW_t2 9 rfl rfl
theorem fl_X10_10 : FL RX10 10 10 0 "LFoldedArchive$State;" true := ⟨RX10, TX10, 15, tyX10, rfl, inG_X10, by decide, gw_293, tyX10_ok, nmX10, rfl, rfl⟩
theorem gw_717 : Cond.methodLink "FoldedArchive" 279 yX8_judge ∈ GW := GW_t3 193 rfl rfl
theorem gw_718 : Cond.instanceMethod yX8_judge ∈ GW := GW_t3 194 rfl rfl
theorem gw_719 : Cond.selects yX8_judge.cls yX8_judge yX8_judge ∈ GW := GW_t3 195 rfl rfl
theorem cv_X10_279 : CV RX10 279 yX8_judge cX8_judge 5 (some .int) 4 := ⟨gw_717, gw_718, gw_719, gw_46, gw_720, by decide +kernel, by decide +kernel⟩
theorem tt_1 : TT[1]? = some (0, 8, [some 2, some 5, some 7]) := by decide +kernel
theorem tt_2 : TT[2]? = some (0, 9, [none, none, none, some 3, some 4]) := by decide +kernel
theorem tt_3 : TT[3]? = some (1, 7, []) := by decide +kernel
theorem tt_4 : TT[4]? = some (1, 7, []) := by decide +kernel
theorem is9_2 : isX9 2 := ⟨tt_2, tt_3, tt_4⟩
theorem tt_5 : TT[5]? = some (0, 4, [none, some 6]) := by decide +kernel
theorem tt_6 : TT[6]? = some (1, 7, []) := by decide +kernel
theorem is4_5 : isX4 5 := ⟨tt_5, tt_6⟩
theorem tt_7 : TT[7]? = some (0, 5, [none, some 8, some 9, some 10, some 11]) := by decide +kernel
theorem tt_8 : TT[8]? = some (1, 10, []) := by decide +kernel
theorem tt_9 : TT[9]? = some (1, 10, []) := by decide +kernel
theorem tt_10 : TT[10]? = some (1, 10, []) := by decide +kernel
theorem tt_11 : TT[11]? = some (2, 10, []) := by decide +kernel
theorem is5_7 : isX5 7 := ⟨tt_7, tt_8, tt_9, tt_10, tt_11⟩
theorem is8_1 : isX8 1 := ⟨tt_1, is9_2, is4_5, is5_7⟩
theorem gw_598 : Cond.methodLink "FoldedArchive" 182 yX10_obey ∈ GW := GW_t3 74 rfl rfl
theorem gw_600 : Cond.instanceMethod yX10_obey ∈ GW := GW_t3 76 rfl rfl
theorem gw_4 : Cond.selects yX10_obey.cls yX10_obey yX10_obey ∈ GW := GW_pr 4 (q := (yX10_obey, 15)) rfl
theorem cv_X10_182 : CV RX10 182 yX10_obey cX10_obey 2 none 1 := ⟨gw_598, gw_600, gw_4, gw_45, gw_601, by decide +kernel, by decide +kernel⟩
theorem gw_296 : Cond.fieldLink "FoldedArchive" 25 "FoldedArchive" "history" "LFoldedArchive$History;" ∈ GW := GW_t2 12 rfl rfl
theorem fl_X10_25 : FL RX10 25 10 3 "LFoldedArchive$History;" true := ⟨RX10, TX10, 15, tyX10, rfl, inG_X10, by decide, gw_296, tyX10_ok, nmX10, rfl, rfl⟩
theorem gw_765 : Cond.methodLink "FoldedArchive" 262 yX3_keep ∈ GW := GW_t4 1 rfl rfl
theorem gw_766 : Cond.instanceMethod yX3_keep ∈ GW := GW_t4 2 rfl rfl
theorem gw_767 : Cond.selects yX3_keep.cls yX3_keep yX3_keep ∈ GW := GW_t4 3 rfl rfl
theorem cv_X10_262 : CV RX10 262 yX3_keep cX3_keep 3 none 1 := ⟨gw_765, gw_766, gw_767, gw_50, gw_768, by decide +kernel, by decide +kernel⟩
theorem gw_297 : Cond.fieldLink "FoldedArchive" 32 "FoldedArchive" "flows" "LFoldedArchive$FlowSearch;" ∈ GW := GW_t2 13 rfl rfl
theorem fl_X10_32 : FL RX10 32 10 4 "LFoldedArchive$FlowSearch;" true := ⟨RX10, TX10, 15, tyX10, rfl, inG_X10, by decide, gw_297, tyX10_ok, nmX10, rfl, rfl⟩
theorem gw_795 : Cond.methodLink "FoldedArchive" 282 yX8_apply ∈ GW := GW_t4 31 rfl rfl
theorem gw_796 : Cond.instanceMethod yX8_apply ∈ GW := GW_t4 32 rfl rfl
theorem gw_797 : Cond.selects yX8_apply.cls yX8_apply yX8_apply ∈ GW := GW_t4 33 rfl rfl
theorem cv_X10_282 : CV RX10 282 yX8_apply cX8_apply 6 (some .int) 5 := ⟨gw_795, gw_796, gw_797, gw_46, gw_798, by decide +kernel, by decide +kernel⟩
theorem gw_716 : Cond.code yX10_change cX10_change 5 (some .int) ∈ GW := GW_t3 192 rfl rfl
theorem gw_713 : Cond.methodLink "FoldedArchive" 86 yX10_change ∈ GW := GW_t3 189 rfl rfl
theorem gw_715 : Cond.instanceMethod yX10_change ∈ GW := GW_t3 191 rfl rfl
theorem gw_12 : Cond.selects yX10_change.cls yX10_change yX10_change ∈ GW := GW_pr 12 (q := (yX10_change, 15)) rfl
theorem cv_X10_86 : CV RX10 86 yX10_change cX10_change 5 (some .int) 4 := ⟨gw_713, gw_715, gw_12, gw_45, gw_716, by decide +kernel, by decide +kernel⟩
theorem gw_712 : Cond.code yX10_addSection cX10_addSection 1 (some .int) ∈ GW := GW_t3 188 rfl rfl
theorem gw_877 : Cond.code yX10_pour cX10_pour 3 (some .int) ∈ GW := GW_t4 113 rfl rfl
theorem gw_884 : Cond.code yX10_tag cX10_tag 3 (some .int) ∈ GW := GW_t4 120 rfl rfl
theorem gw_891 : Cond.code yX10_untag cX10_untag 3 (some .int) ∈ GW := GW_t4 127 rfl rfl
theorem gw_163 : Cond.fieldLink "FoldedArchive" 90 "FoldedArchive$State" "strip" "LFoldedArchive$Strip;" ∈ GW := GW_t1 119 rfl rfl
theorem fl_X10_90 : FL RX10 90 8 0 "LFoldedArchive$Strip;" true := ⟨RX8, TX8, 3, tyX8, rfl, inG_X8, by decide, gw_163, tyX8_ok, nmX8, rfl, rfl⟩
theorem gw_101 : Cond.fieldLink "FoldedArchive" 94 "FoldedArchive$Strip" "count" "I" ∈ GW := GW_t1 57 rfl rfl
theorem fl_X10_94 : FL RX10 94 9 0 "I" false := ⟨RX9, TX9, 5, tyX9, rfl, inG_X9, by decide, gw_101, tyX9_ok, nmX9, rfl, rfl⟩
theorem gw_342 : Cond.code yX10_sectionCount cX10_sectionCount 1 (some .int) ∈ GW := GW_t2 58 rfl rfl
theorem gw_457 : Cond.methodLink "FoldedArchive" 296 yX9_has ∈ GW := GW_t2 173 rfl rfl
theorem cv_X10_296 : CV RX10 296 yX9_has cX9_has 2 (some .boolean) 1 := ⟨gw_457, gw_458, gw_459, gw_47, gw_460, by decide +kernel, by decide +kernel⟩
theorem gw_456 : Cond.code yX10_requireSection cX10_requireSection 2 none ∈ GW := GW_t2 172 rfl rfl
theorem gw_453 : Cond.methodLink "FoldedArchive" 99 yX10_requireSection ∈ GW := GW_t2 169 rfl rfl
theorem gw_455 : Cond.instanceMethod yX10_requireSection ∈ GW := GW_t2 171 rfl rfl
theorem gw_1 : Cond.selects yX10_requireSection.cls yX10_requireSection yX10_requireSection ∈ GW := GW_pr 1 (q := (yX10_requireSection, 15)) rfl
theorem cv_X10_99 : CV RX10 99 yX10_requireSection cX10_requireSection 2 none 1 := ⟨gw_453, gw_455, gw_1, gw_45, gw_456, by decide +kernel, by decide +kernel⟩
theorem gw_482 : Cond.methodLink "FoldedArchive" 102 yX9_waterOf ∈ GW := GW_t2 198 rfl rfl
theorem cv_X10_102 : CV RX10 102 yX9_waterOf cX9_waterOf 2 (some .int) 1 := ⟨gw_482, gw_483, gw_484, gw_47, gw_485, by decide +kernel, by decide +kernel⟩
theorem gw_452 : Cond.code yX10_water cX10_water 2 (some .int) ∈ GW := GW_t2 168 rfl rfl
theorem gw_1374 : Cond.methodLink "FoldedArchive" 300 yX9_isTerm ∈ GW := GW_t6 130 rfl rfl
theorem cs_X10_300 : CS RX10 300 yX9_isTerm cX9_isTerm 1 (some .boolean) 1 := ⟨gw_1374, gw_732, gw_47, gw_733, by decide +kernel, by decide +kernel⟩
theorem gw_1373 : Cond.code yX10_requireTerm cX10_requireTerm 2 none ∈ GW := GW_t6 129 rfl rfl
theorem gw_1370 : Cond.methodLink "FoldedArchive" 106 yX10_requireTerm ∈ GW := GW_t6 126 rfl rfl
theorem gw_1372 : Cond.instanceMethod yX10_requireTerm ∈ GW := GW_t6 128 rfl rfl
theorem gw_29 : Cond.selects yX10_requireTerm.cls yX10_requireTerm yX10_requireTerm ∈ GW := GW_pr 29 (q := (yX10_requireTerm, 15)) rfl
theorem cv_X10_106 : CV RX10 106 yX10_requireTerm cX10_requireTerm 2 none 1 := ⟨gw_1370, gw_1372, gw_29, gw_45, gw_1373, by decide +kernel, by decide +kernel⟩
theorem gw_1375 : Cond.methodLink "FoldedArchive" 109 yX9_bears ∈ GW := GW_t6 131 rfl rfl
theorem cv_X10_109 : CV RX10 109 yX9_bears cX9_bears 3 (some .boolean) 2 := ⟨gw_1375, gw_735, gw_736, gw_47, gw_737, by decide +kernel, by decide +kernel⟩
theorem gw_1369 : Cond.code yX10_hasTerm cX10_hasTerm 3 (some .boolean) ∈ GW := GW_t6 125 rfl rfl
theorem gw_1548 : Cond.methodLink "FoldedArchive" 113 yX9_bearersOf ∈ GW := GW_t7 64 rfl rfl
theorem cv_X10_113 : CV RX10 113 yX9_bearersOf cX9_bearersOf 4 (some .int) 1 := ⟨gw_1548, gw_1503, gw_1504, gw_47, gw_1505, by decide +kernel, by decide +kernel⟩
theorem gw_1536 : Cond.methodLink "FoldedArchive" 116 yJ6_bitCount_0f7a4 ∈ GW := GW_t7 52 rfl rfl
theorem cs_X10_116 : CS RX10 116 yJ6_bitCount_0f7a4 cJ6_bitCount_0f7a4 1 (some .int) 1 := ⟨gw_1536, gw_747, gw_67, gw_748, by decide +kernel, by decide +kernel⟩
theorem gw_1547 : Cond.code yX10_sectionsWith cX10_sectionsWith 2 (some .int) ∈ GW := GW_t7 63 rfl rfl
theorem gw_1404 : Cond.methodLink "FoldedArchive" 121 yX9_sectionAtRank ∈ GW := GW_t6 160 rfl rfl
theorem gw_1405 : Cond.instanceMethod yX9_sectionAtRank ∈ GW := GW_t6 161 rfl rfl
theorem gw_1406 : Cond.selects yX9_sectionAtRank.cls yX9_sectionAtRank yX9_sectionAtRank ∈ GW := GW_t6 162 rfl rfl
theorem cv_X10_121 : CV RX10 121 yX9_sectionAtRank cX9_sectionAtRank 3 (some .int) 1 := ⟨gw_1404, gw_1405, gw_1406, gw_47, gw_1407, by decide +kernel, by decide +kernel⟩
theorem gw_499 : Cond.classLink "FoldedArchive" 124 "java/util/NoSuchElementException" ∈ GW := GW_t2 215 rfl rfl
theorem gw_63 : Cond.initialized "java/util/NoSuchElementException" ∈ GW := GW_t1 19 rfl rfl
theorem xg_X10_124 : ∀ w ∈ vx_at0 RX10 126 "java/util/NoSuchElementException" exN, w ∈ GW ∨ w ∈ NGW := GW_all _ (by decide +kernel)
theorem xo_X10_124 : ∀ w ∈ Cond.classLink RX10 124 "java/util/NoSuchElementException" :: Cond.initialized "java/util/NoSuchElementException" :: vx_at0 RX10 126 "java/util/NoSuchElementException" exN, vx_ot w = true := List.all_eq_true.mp (by decide +kernel)
theorem gw_1403 : Cond.code yX10_sectionByWater cX10_sectionByWater 3 (some .int) ∈ GW := GW_t6 159 rfl rfl
theorem gw_898 : Cond.code yX10_fold cX10_fold 2 (some .int) ∈ GW := GW_t4 134 rfl rfl
theorem gw_905 : Cond.code yX10_unfold cX10_unfold 1 (some .int) ∈ GW := GW_t4 141 rfl rfl
theorem gw_165 : Cond.fieldLink "FoldedArchive" 127 "FoldedArchive$State" "pile" "LFoldedArchive$Pile;" ∈ GW := GW_t1 121 rfl rfl
theorem fl_X10_127 : FL RX10 127 8 1 "LFoldedArchive$Pile;" true := ⟨RX8, TX8, 3, tyX8, rfl, inG_X8, by decide, gw_165, tyX8_ok, nmX8, rfl, rfl⟩
theorem gw_129 : Cond.fieldLink "FoldedArchive" 131 "FoldedArchive$Pile" "folded" "I" ∈ GW := GW_t1 85 rfl rfl
theorem fl_X10_131 : FL RX10 131 4 0 "I" false := ⟨RX4, TX4, 2, tyX4, rfl, inG_X4, by decide, gw_129, tyX4_ok, nmX4, rfl, rfl⟩
theorem gw_346 : Cond.code yX10_foldedCount cX10_foldedCount 1 (some .int) ∈ GW := GW_t2 62 rfl rfl
theorem gw_495 : Cond.methodLink "FoldedArchive" 136 yX4_layerHolding ∈ GW := GW_t2 211 rfl rfl
theorem cv_X10_136 : CV RX10 136 yX4_layerHolding cX4_layerHolding 2 (some .int) 1 := ⟨gw_495, gw_496, gw_497, gw_48, gw_498, by decide +kernel, by decide +kernel⟩
theorem gw_494 : Cond.code yX10_layerOf cX10_layerOf 3 (some .int) ∈ GW := GW_t2 210 rfl rfl
theorem gw_521 : Cond.methodLink "FoldedArchive" 139 yX4_sectionAt ∈ GW := GW_t2 237 rfl rfl
theorem cv_X10_139 : CV RX10 139 yX4_sectionAt cX4_sectionAt 3 (some .int) 1 := ⟨gw_521, gw_522, gw_523, gw_48, gw_524, by decide +kernel, by decide +kernel⟩
theorem gw_520 : Cond.code yX10_sectionIn cX10_sectionIn 3 (some .int) ∈ GW := GW_t2 236 rfl rfl
theorem gw_532 : Cond.methodLink "FoldedArchive" 145 yX8_judgeFold ∈ GW := GW_t3 8 rfl rfl
theorem cv_X10_145 : CV RX10 145 yX8_judgeFold cX8_judgeFold 3 (some .int) 1 := ⟨gw_532, gw_533, gw_534, gw_46, gw_535, by decide +kernel, by decide +kernel⟩
theorem gw_531 : Cond.code yX10_canFold cX10_canFold 3 (some .boolean) ∈ GW := GW_t3 7 rfl rfl
theorem gw_298 : Cond.fieldLink "FoldedArchive" 39 "FoldedArchive" "foldings" "LFoldedArchive$FoldingSearch;" ∈ GW := GW_t2 14 rfl rfl
theorem fl_X10_39 : FL RX10 39 10 5 "LFoldedArchive$FoldingSearch;" true := ⟨RX10, TX10, 15, tyX10, rfl, inG_X10, by decide, gw_298, tyX10_ok, nmX10, rfl, rfl⟩
theorem gw_1603 : Cond.methodLink "FoldedArchive" 148 yX2_countByFolding ∈ GW := GW_t7 119 rfl rfl
theorem gw_1604 : Cond.instanceMethod yX2_countByFolding ∈ GW := GW_t7 120 rfl rfl
theorem gw_1605 : Cond.selects yX2_countByFolding.cls yX2_countByFolding yX2_countByFolding ∈ GW := GW_t7 121 rfl rfl
theorem cv_X10_148 : CV RX10 148 yX2_countByFolding cX2_countByFolding 3 (some .int) 2 := ⟨gw_1603, gw_1604, gw_1605, gw_52, gw_1606, by decide +kernel, by decide +kernel⟩
theorem gw_1602 : Cond.code yX10_completions cX10_completions 1 (some .int) ∈ GW := GW_t7 118 rfl rfl
theorem gw_1624 : Cond.methodLink "FoldedArchive" 152 yX2_countByOrders ∈ GW := GW_t7 140 rfl rfl
theorem gw_1625 : Cond.instanceMethod yX2_countByOrders ∈ GW := GW_t7 141 rfl rfl
theorem gw_1626 : Cond.selects yX2_countByOrders.cls yX2_countByOrders yX2_countByOrders ∈ GW := GW_t7 142 rfl rfl
theorem cv_X10_152 : CV RX10 152 yX2_countByOrders cX2_countByOrders 5 (some .int) 2 := ⟨gw_1624, gw_1625, gw_1626, gw_52, gw_1627, by decide +kernel, by decide +kernel⟩
theorem gw_1623 : Cond.code yX10_completionsByOrders cX10_completionsByOrders 1 (some .int) ∈ GW := GW_t7 139 rfl rfl
theorem gw_912 : Cond.code yX10_layPipe cX10_layPipe 4 (some .int) ∈ GW := GW_t4 148 rfl rfl
theorem gw_919 : Cond.code yX10_removePipe cX10_removePipe 2 (some .int) ∈ GW := GW_t4 155 rfl rfl
theorem gw_926 : Cond.code yX10_breakPipe cX10_breakPipe 2 (some .int) ∈ GW := GW_t4 162 rfl rfl
theorem gw_933 : Cond.code yX10_mendPipe cX10_mendPipe 2 (some .int) ∈ GW := GW_t4 169 rfl rfl
theorem gw_167 : Cond.fieldLink "FoldedArchive" 155 "FoldedArchive$State" "pipes" "LFoldedArchive$Pipes;" ∈ GW := GW_t1 123 rfl rfl
theorem fl_X10_155 : FL RX10 155 8 2 "LFoldedArchive$Pipes;" true := ⟨RX8, TX8, 3, tyX8, rfl, inG_X8, by decide, gw_167, tyX8_ok, nmX8, rfl, rfl⟩
theorem gw_145 : Cond.fieldLink "FoldedArchive" 159 "FoldedArchive$Pipes" "count" "I" ∈ GW := GW_t1 101 rfl rfl
theorem fl_X10_159 : FL RX10 159 5 0 "I" false := ⟨RX5, TX5, 5, tyX5, rfl, inG_X5, by decide, gw_145, tyX5_ok, nmX5, rfl, rfl⟩
theorem gw_350 : Cond.code yX10_pipeCount cX10_pipeCount 1 (some .int) ∈ GW := GW_t2 66 rfl rfl
theorem gw_566 : Cond.methodLink "FoldedArchive" 299 yX5_has ∈ GW := GW_t3 42 rfl rfl
theorem cv_X10_299 : CV RX10 299 yX5_has cX5_has 2 (some .boolean) 1 := ⟨gw_566, gw_567, gw_568, gw_49, gw_569, by decide +kernel, by decide +kernel⟩
theorem gw_565 : Cond.code yX10_requirePipe cX10_requirePipe 2 none ∈ GW := GW_t3 41 rfl rfl
theorem gw_562 : Cond.methodLink "FoldedArchive" 162 yX10_requirePipe ∈ GW := GW_t3 38 rfl rfl
theorem gw_564 : Cond.instanceMethod yX10_requirePipe ∈ GW := GW_t3 40 rfl rfl
theorem gw_3 : Cond.selects yX10_requirePipe.cls yX10_requirePipe yX10_requirePipe ∈ GW := GW_pr 3 (q := (yX10_requirePipe, 15)) rfl
theorem cv_X10_162 : CV RX10 162 yX10_requirePipe cX10_requirePipe 2 none 1 := ⟨gw_562, gw_564, gw_3, gw_45, gw_565, by decide +kernel, by decide +kernel⟩
theorem gw_1384 : Cond.methodLink "FoldedArchive" 165 yX5_startOf ∈ GW := GW_t6 140 rfl rfl
theorem cv_X10_165 : CV RX10 165 yX5_startOf cX5_startOf 2 (some .int) 1 := ⟨gw_1384, gw_646, gw_647, gw_49, gw_648, by decide +kernel, by decide +kernel⟩
theorem gw_1383 : Cond.code yX10_pipeFrom cX10_pipeFrom 2 (some .int) ∈ GW := GW_t6 139 rfl rfl
theorem gw_1393 : Cond.methodLink "FoldedArchive" 168 yX5_endOf ∈ GW := GW_t6 149 rfl rfl
theorem cv_X10_168 : CV RX10 168 yX5_endOf cX5_endOf 2 (some .int) 1 := ⟨gw_1393, gw_650, gw_651, gw_49, gw_652, by decide +kernel, by decide +kernel⟩
theorem gw_1392 : Cond.code yX10_pipeTo cX10_pipeTo 2 (some .int) ∈ GW := GW_t6 148 rfl rfl
theorem gw_570 : Cond.methodLink "FoldedArchive" 171 yX5_widthOf ∈ GW := GW_t3 46 rfl rfl
theorem cv_X10_171 : CV RX10 171 yX5_widthOf cX5_widthOf 2 (some .int) 1 := ⟨gw_570, gw_571, gw_572, gw_49, gw_573, by decide +kernel, by decide +kernel⟩
theorem gw_561 : Cond.code yX10_capacity cX10_capacity 2 (some .int) ∈ GW := GW_t3 37 rfl rfl
theorem gw_582 : Cond.methodLink "FoldedArchive" 174 yX5_brokenAt ∈ GW := GW_t3 58 rfl rfl
theorem cv_X10_174 : CV RX10 174 yX5_brokenAt cX5_brokenAt 2 (some .boolean) 1 := ⟨gw_582, gw_583, gw_584, gw_49, gw_585, by decide +kernel, by decide +kernel⟩
theorem gw_581 : Cond.code yX10_isBroken cX10_isBroken 2 (some .boolean) ∈ GW := GW_t3 57 rfl rfl
theorem gw_594 : Cond.methodLink "FoldedArchive" 178 yX8_judgeEnds ∈ GW := GW_t3 70 rfl rfl
theorem cv_X10_178 : CV RX10 178 yX8_judgeEnds cX8_judgeEnds 1 (some .int) 0 := ⟨gw_594, gw_595, gw_596, gw_46, gw_597, by decide +kernel, by decide +kernel⟩
theorem gw_636 : Cond.methodLink "FoldedArchive" 185 yX1_greatest ∈ GW := GW_t3 112 rfl rfl
theorem cv_X10_185 : CV RX10 185 yX1_greatest cX1_greatest 6 (some .int) 3 := ⟨gw_636, gw_637, gw_638, gw_51, gw_639, by decide +kernel, by decide +kernel⟩
theorem gw_593 : Cond.code yX10_greatestFlow cX10_greatestFlow 1 (some .int) ∈ GW := GW_t3 69 rfl rfl
theorem gw_1424 : Cond.methodLink "FoldedArchive" 189 yX1_smallest ∈ GW := GW_t6 180 rfl rfl
theorem gw_1425 : Cond.instanceMethod yX1_smallest ∈ GW := GW_t6 181 rfl rfl
theorem gw_1426 : Cond.selects yX1_smallest.cls yX1_smallest yX1_smallest ∈ GW := GW_t6 182 rfl rfl
theorem cv_X10_189 : CV RX10 189 yX1_smallest cX1_smallest 5 (some .int) 2 := ⟨gw_1424, gw_1425, gw_1426, gw_51, gw_1427, by decide +kernel, by decide +kernel⟩
theorem gw_1423 : Cond.code yX10_smallestCut cX10_smallestCut 1 (some .int) ∈ GW := GW_t6 179 rfl rfl
theorem gw_684 : Cond.code yX10_lossOf cX10_lossOf 3 (some .int) ∈ GW := GW_t3 160 rfl rfl
theorem gw_940 : Cond.code yX10_drain cX10_drain 1 (some .int) ∈ GW := GW_t4 176 rfl rfl
theorem gw_947 : Cond.code yX10_seep cX10_seep 1 (some .int) ∈ GW := GW_t4 183 rfl rfl
theorem gw_1438 : Cond.methodLink "FoldedArchive" 193 yX9_waterSum ∈ GW := GW_t6 194 rfl rfl
theorem gw_1439 : Cond.instanceMethod yX9_waterSum ∈ GW := GW_t6 195 rfl rfl
theorem gw_1440 : Cond.selects yX9_waterSum.cls yX9_waterSum yX9_waterSum ∈ GW := GW_t6 196 rfl rfl
theorem cv_X10_193 : CV RX10 193 yX9_waterSum cX9_waterSum 3 (some .int) 0 := ⟨gw_1438, gw_1439, gw_1440, gw_47, gw_1441, by decide +kernel, by decide +kernel⟩
theorem gw_1437 : Cond.code yX10_totalWater cX10_totalWater 1 (some .int) ∈ GW := GW_t6 193 rfl rfl
theorem gw_103 : Cond.fieldLink "FoldedArchive" 196 "FoldedArchive$Strip" "pouredUnits" "I" ∈ GW := GW_t1 59 rfl rfl
theorem fl_X10_196 : FL RX10 196 9 1 "I" false := ⟨RX9, TX9, 5, tyX9, rfl, inG_X9, by decide, gw_103, tyX9_ok, nmX9, rfl, rfl⟩
theorem gw_105 : Cond.fieldLink "FoldedArchive" 199 "FoldedArchive$Strip" "leakedUnits" "I" ∈ GW := GW_t1 61 rfl rfl
theorem fl_X10_199 : FL RX10 199 9 2 "I" false := ⟨RX9, TX9, 5, tyX9, rfl, inG_X9, by decide, gw_105, tyX9_ok, nmX9, rfl, rfl⟩
theorem gw_1445 : Cond.code yX10_totalWaterByAccounts cX10_totalWaterByAccounts 1 (some .int) ∈ GW := GW_t6 201 rfl rfl
theorem gw_1360 : Cond.code yX10_poured cX10_poured 1 (some .int) ∈ GW := GW_t6 116 rfl rfl
theorem gw_354 : Cond.code yX10_leaked cX10_leaked 1 (some .int) ∈ GW := GW_t2 70 rfl rfl
theorem gw_1467 : Cond.classLink "FoldedArchive" 202 "java/lang/ArithmeticException" ∈ GW := GW_t6 223 rfl rfl
theorem gw_77 : Cond.initialized "java/lang/ArithmeticException" ∈ GW := GW_t1 33 rfl rfl
theorem xg_X10_202 : ∀ w ∈ vx_at0 RX10 204 "java/lang/ArithmeticException" exN, w ∈ GW ∨ w ∈ NGW := GW_all _ (by decide +kernel)
theorem xo_X10_202 : ∀ w ∈ Cond.classLink RX10 202 "java/lang/ArithmeticException" :: Cond.initialized "java/lang/ArithmeticException" :: vx_at0 RX10 204 "java/lang/ArithmeticException" exN, vx_ot w = true := List.all_eq_true.mp (by decide +kernel)
theorem gw_1466 : Cond.code yX10_meanWater cX10_meanWater 1 (some .double) ∈ GW := GW_t6 222 rfl rfl
theorem gw_1479 : Cond.code yX10_leakedShare cX10_leakedShare 1 (some .float) ∈ GW := GW_t6 235 rfl rfl
theorem gw_299 : Cond.fieldLink "FoldedArchive" 48 "FoldedArchive" "text" "LFoldedArchive$Row;" ∈ GW := GW_t2 15 rfl rfl
theorem fl_X10_48 : FL RX10 48 10 6 "LFoldedArchive$Row;" true := ⟨RX10, TX10, 15, tyX10, rfl, inG_X10, by decide, gw_299, tyX10_ok, nmX10, rfl, rfl⟩
theorem gw_1242 : Cond.methodLink "FoldedArchive" 205 yX6_isFull ∈ GW := GW_t5 238 rfl rfl
theorem gw_1243 : Cond.instanceMethod yX6_isFull ∈ GW := GW_t5 239 rfl rfl
theorem gw_1244 : Cond.selects yX6_isFull.cls yX6_isFull yX6_isFull ∈ GW := GW_t6 0 rfl rfl
theorem cv_X10_205 : CV RX10 205 yX6_isFull cX6_isFull 1 (some .boolean) 0 := ⟨gw_1242, gw_1243, gw_1244, gw_53, gw_1245, by decide +kernel, by decide +kernel⟩
theorem gw_1261 : Cond.methodLink "FoldedArchive" 212 yX6_put ∈ GW := GW_t6 17 rfl rfl
theorem gw_1262 : Cond.instanceMethod yX6_put ∈ GW := GW_t6 18 rfl rfl
theorem gw_1263 : Cond.selects yX6_put.cls yX6_put yX6_put ∈ GW := GW_t6 19 rfl rfl
theorem cv_X10_212 : CV RX10 212 yX6_put cX6_put 2 none 1 := ⟨gw_1261, gw_1262, gw_1263, gw_53, gw_1264, by decide +kernel, by decide +kernel⟩
theorem gw_239 : Cond.fieldLink "FoldedArchive" 216 "FoldedArchive$Row" "length" "I" ∈ GW := GW_t1 195 rfl rfl
theorem fl_X10_216 : FL RX10 216 6 1 "I" false := ⟨RX6, TX6, 2, tyX6, rfl, inG_X6, by decide, gw_239, tyX6_ok, nmX6, rfl, rfl⟩
theorem gw_1246 : Cond.classLink "FoldedArchive" 209 "java/lang/IllegalStateException" ∈ GW := GW_t6 2 rfl rfl
theorem gw_76 : Cond.initialized "java/lang/IllegalStateException" ∈ GW := GW_t1 32 rfl rfl
theorem xg_X10_209 : ∀ w ∈ vx_at0 RX10 211 "java/lang/IllegalStateException" exN, w ∈ GW ∨ w ∈ NGW := GW_all _ (by decide +kernel)
theorem xo_X10_209 : ∀ w ∈ Cond.classLink RX10 209 "java/lang/IllegalStateException" :: Cond.initialized "java/lang/IllegalStateException" :: vx_at0 RX10 211 "java/lang/IllegalStateException" exN, vx_ot w = true := List.all_eq_true.mp (by decide +kernel)
theorem gw_1241 : Cond.code yX10_feed cX10_feed 2 (some .int) ∈ GW := GW_t5 237 rfl rfl
theorem gw_1329 : Cond.methodLink "FoldedArchive" 219 yX6_empty ∈ GW := GW_t6 85 rfl rfl
theorem gw_1330 : Cond.instanceMethod yX6_empty ∈ GW := GW_t6 86 rfl rfl
theorem gw_1331 : Cond.selects yX6_empty.cls yX6_empty yX6_empty ∈ GW := GW_t6 87 rfl rfl
theorem cv_X10_219 : CV RX10 219 yX6_empty cX6_empty 1 none 0 := ⟨gw_1329, gw_1330, gw_1331, gw_53, gw_1332, by decide +kernel, by decide +kernel⟩
theorem gw_1540 : Cond.code yX10_clearText cX10_clearText 2 (some .int) ∈ GW := GW_t7 56 rfl rfl
theorem gw_304 : Cond.fieldLink "FoldedArchive" 73 "FoldedArchive" "keptFault" "I" ∈ GW := GW_t2 20 rfl rfl
theorem fl_X10_73 : FL RX10 73 10 11 "I" false := ⟨RX10, TX10, 15, tyX10, rfl, inG_X10, by decide, gw_304, tyX10_ok, nmX10, rfl, rfl⟩
theorem gw_1336 : Cond.code yX10_refuseFault cX10_refuseFault 2 none ∈ GW := GW_t6 92 rfl rfl
theorem gw_301 : Cond.fieldLink "FoldedArchive" 58 "FoldedArchive" "searches" "LFoldedArchive$SearchReader;" ∈ GW := GW_t2 17 rfl rfl
theorem fl_X10_58 : FL RX10 58 10 8 "LFoldedArchive$SearchReader;" true := ⟨RX10, TX10, 15, tyX10, rfl, inG_X10, by decide, gw_301, tyX10_ok, nmX10, rfl, rfl⟩
theorem gw_1498 : Cond.methodLink "FoldedArchive" 222 yX7_askForAll ∈ GW := GW_t7 14 rfl rfl
theorem gw_1499 : Cond.instanceMethod yX7_askForAll ∈ GW := GW_t7 15 rfl rfl
theorem gw_1500 : Cond.selects yX7_askForAll.cls yX7_askForAll yX7_askForAll ∈ GW := GW_t7 16 rfl rfl
theorem cv_X10_222 : CV RX10 222 yX7_askForAll cX7_askForAll 3 none 1 := ⟨gw_1498, gw_1499, gw_1500, gw_55, gw_1501, by decide +kernel, by decide +kernel⟩
theorem gw_1507 : Cond.methodLink "FoldedArchive" 226 yX7_read ∈ GW := GW_t7 23 rfl rfl
theorem gw_1508 : Cond.instanceMethod yX7_read ∈ GW := GW_t7 24 rfl rfl
theorem gw_1509 : Cond.selects yX7_read.cls yX7_read yX7_read ∈ GW := GW_t7 25 rfl rfl
theorem cv_X10_226 : CV RX10 226 yX7_read cX7_read 3 (some .int) 1 := ⟨gw_1507, gw_1508, gw_1509, gw_55, gw_1510, by decide +kernel, by decide +kernel⟩
theorem gw_256 : Cond.fieldLink "FoldedArchive" 230 "FoldedArchive$SearchReader" "fault" "I" ∈ GW := GW_t1 212 rfl rfl
theorem fl_X10_230 : FL RX10 230 7 3 "I" false := ⟨RX7, TX7, 4, tyX7, rfl, inG_X7, by decide, gw_256, tyX7_ok, nmX7, rfl, rfl⟩
theorem gw_1333 : Cond.methodLink "FoldedArchive" 233 yX10_refuseFault ∈ GW := GW_t6 89 rfl rfl
theorem gw_1335 : Cond.instanceMethod yX10_refuseFault ∈ GW := GW_t6 91 rfl rfl
theorem gw_27 : Cond.selects yX10_refuseFault.cls yX10_refuseFault yX10_refuseFault ∈ GW := GW_pr 27 (q := (yX10_refuseFault, 15)) rfl
theorem cv_X10_233 : CV RX10 233 yX10_refuseFault cX10_refuseFault 2 none 1 := ⟨gw_1333, gw_1335, gw_27, gw_45, gw_1336, by decide +kernel, by decide +kernel⟩
theorem gw_1497 : Cond.code yX10_search cX10_search 2 (some .int) ∈ GW := GW_t7 13 rfl rfl
theorem gw_1562 : Cond.methodLink "FoldedArchive" 236 yX7_askForOne ∈ GW := GW_t7 78 rfl rfl
theorem gw_1563 : Cond.instanceMethod yX7_askForOne ∈ GW := GW_t7 79 rfl rfl
theorem gw_1564 : Cond.selects yX7_askForOne.cls yX7_askForOne yX7_askForOne ∈ GW := GW_t7 80 rfl rfl
theorem cv_X10_236 : CV RX10 236 yX7_askForOne cX7_askForOne 4 none 2 := ⟨gw_1562, gw_1563, gw_1564, gw_55, gw_1565, by decide +kernel, by decide +kernel⟩
theorem gw_1561 : Cond.code yX10_matches cX10_matches 3 (some .boolean) ∈ GW := GW_t7 77 rfl rfl
theorem gw_302 : Cond.fieldLink "FoldedArchive" 65 "FoldedArchive" "commands" "LFoldedArchive$CommandReader;" ∈ GW := GW_t2 18 rfl rfl
theorem fl_X10_65 : FL RX10 65 10 9 "LFoldedArchive$CommandReader;" true := ⟨RX10, TX10, 15, tyX10, rfl, inG_X10, by decide, gw_302, tyX10_ok, nmX10, rfl, rfl⟩
theorem gw_1342 : Cond.methodLink "FoldedArchive" 286 yX0_kindOf ∈ GW := GW_t6 98 rfl rfl
theorem gw_1343 : Cond.instanceMethod yX0_kindOf ∈ GW := GW_t6 99 rfl rfl
theorem gw_1344 : Cond.selects yX0_kindOf.cls yX0_kindOf yX0_kindOf ∈ GW := GW_t6 100 rfl rfl
theorem cv_X10_286 : CV RX10 286 yX0_kindOf cX0_kindOf 2 (some .int) 1 := ⟨gw_1342, gw_1343, gw_1344, gw_56, gw_1345, by decide +kernel, by decide +kernel⟩
theorem gw_1346 : Cond.methodLink "FoldedArchive" 289 yX0_operandOf ∈ GW := GW_t6 102 rfl rfl
theorem gw_1347 : Cond.instanceMethod yX0_operandOf ∈ GW := GW_t6 103 rfl rfl
theorem gw_1348 : Cond.selects yX0_operandOf.cls yX0_operandOf yX0_operandOf ∈ GW := GW_t6 104 rfl rfl
theorem cv_X10_289 : CV RX10 289 yX0_operandOf cX0_operandOf 4 (some .int) 2 := ⟨gw_1346, gw_1347, gw_1348, gw_56, gw_1349, by decide +kernel, by decide +kernel⟩
theorem gw_1341 : Cond.code yX10_runCommand cX10_runCommand 7 (some .int) ∈ GW := GW_t6 97 rfl rfl
theorem gw_1352 : Cond.code yX10_causeOf cX10_causeOf 1 (some .int) ∈ GW := GW_t6 108 rfl rfl
theorem gw_1272 : Cond.methodLink "FoldedArchive" 240 yX0_read ∈ GW := GW_t6 28 rfl rfl
theorem gw_1273 : Cond.instanceMethod yX0_read ∈ GW := GW_t6 29 rfl rfl
theorem gw_1274 : Cond.selects yX0_read.cls yX0_read yX0_read ∈ GW := GW_t6 30 rfl rfl
theorem cv_X10_240 : CV RX10 240 yX0_read cX0_read 4 none 1 := ⟨gw_1272, gw_1273, gw_1274, gw_56, gw_1275, by decide +kernel, by decide +kernel⟩
theorem gw_277 : Cond.fieldLink "FoldedArchive" 243 "FoldedArchive$CommandReader" "fault" "I" ∈ GW := GW_t1 233 rfl rfl
theorem fl_X10_243 : FL RX10 243 0 3 "I" false := ⟨RX0, TX0, 6, tyX0, rfl, inG_X0, by decide, gw_277, tyX0_ok, nmX0, rfl, rfl⟩
theorem gw_294 : Cond.fieldLink "FoldedArchive" 16 "FoldedArchive" "beforeText" "LFoldedArchive$State;" ∈ GW := GW_t2 10 rfl rfl
theorem fl_X10_16 : FL RX10 16 10 1 "LFoldedArchive$State;" true := ⟨RX10, TX10, 15, tyX10, rfl, inG_X10, by decide, gw_294, tyX10_ok, nmX10, rfl, rfl⟩
theorem gw_1337 : Cond.methodLink "FoldedArchive" 244 yX8_copyFrom ∈ GW := GW_t6 93 rfl rfl
theorem cv_X10_244 : CV RX10 244 yX8_copyFrom cX8_copyFrom 2 none 1 := ⟨gw_1337, gw_774, gw_775, gw_46, gw_776, by decide +kernel, by decide +kernel⟩
theorem tt_12 : TT[12]? = some (0, 8, [some 13, some 16, some 18]) := by decide +kernel
theorem tt_13 : TT[13]? = some (0, 9, [none, none, none, some 14, some 15]) := by decide +kernel
theorem tt_14 : TT[14]? = some (1, 7, []) := by decide +kernel
theorem tt_15 : TT[15]? = some (1, 7, []) := by decide +kernel
theorem is9_13 : isX9 13 := ⟨tt_13, tt_14, tt_15⟩
theorem tt_16 : TT[16]? = some (0, 4, [none, some 17]) := by decide +kernel
theorem tt_17 : TT[17]? = some (1, 7, []) := by decide +kernel
theorem is4_16 : isX4 16 := ⟨tt_16, tt_17⟩
theorem tt_18 : TT[18]? = some (0, 5, [none, some 19, some 20, some 21, some 22]) := by decide +kernel
theorem tt_19 : TT[19]? = some (1, 10, []) := by decide +kernel
theorem tt_20 : TT[20]? = some (1, 10, []) := by decide +kernel
theorem tt_21 : TT[21]? = some (1, 10, []) := by decide +kernel
theorem tt_22 : TT[22]? = some (2, 10, []) := by decide +kernel
theorem is5_18 : isX5 18 := ⟨tt_18, tt_19, tt_20, tt_21, tt_22⟩
theorem is8_12 : isX8 12 := ⟨tt_12, is9_13, is4_16, is5_18⟩
theorem gw_275 : Cond.fieldLink "FoldedArchive" 248 "FoldedArchive$CommandReader" "count" "I" ∈ GW := GW_t1 231 rfl rfl
theorem fl_X10_248 : FL RX10 248 0 2 "I" false := ⟨RX0, TX0, 6, tyX0, rfl, inG_X0, by decide, gw_275, tyX0_ok, nmX0, rfl, rfl⟩
theorem gw_1338 : Cond.methodLink "FoldedArchive" 249 yX10_runCommand ∈ GW := GW_t6 94 rfl rfl
theorem gw_1340 : Cond.instanceMethod yX10_runCommand ∈ GW := GW_t6 96 rfl rfl
theorem gw_28 : Cond.selects yX10_runCommand.cls yX10_runCommand yX10_runCommand ∈ GW := GW_pr 28 (q := (yX10_runCommand, 15)) rfl
theorem cv_X10_249 : CV RX10 249 yX10_runCommand cX10_runCommand 7 (some .int) 1 := ⟨gw_1338, gw_1340, gw_28, gw_45, gw_1341, by decide +kernel, by decide +kernel⟩
theorem gw_1350 : Cond.methodLink "FoldedArchive" 252 yX10_causeOf ∈ GW := GW_t6 106 rfl rfl
theorem gw_1351 : Cond.static yX10_causeOf ∈ GW := GW_t6 107 rfl rfl
theorem cs_X10_252 : CS RX10 252 yX10_causeOf cX10_causeOf 1 (some .int) 1 := ⟨gw_1350, gw_1351, gw_45, gw_1352, by decide +kernel, by decide +kernel⟩
theorem gw_1271 : Cond.code yX10_execute cX10_execute 3 (some .int) ∈ GW := GW_t6 27 rfl rfl
theorem gw_691 : Cond.code yX10_denial cX10_denial 1 (some .int) ∈ GW := GW_t3 167 rfl rfl
theorem gw_698 : Cond.code yX10_denialDetail cX10_denialDetail 1 (some .int) ∈ GW := GW_t3 174 rfl rfl
theorem gw_187 : Cond.fieldLink "FoldedArchive" 272 "FoldedArchive$History" "count" "I" ∈ GW := GW_t1 143 rfl rfl
theorem fl_X10_272 : FL RX10 272 3 2 "I" false := ⟨RX3, TX3, 3, tyX3, rfl, inG_X3, by decide, gw_187, tyX3_ok, nmX3, rfl, rfl⟩
theorem gw_1581 : Cond.methodLink "FoldedArchive" 273 yX3_takeBack ∈ GW := GW_t7 97 rfl rfl
theorem gw_1582 : Cond.instanceMethod yX3_takeBack ∈ GW := GW_t7 98 rfl rfl
theorem gw_1583 : Cond.selects yX3_takeBack.cls yX3_takeBack yX3_takeBack ∈ GW := GW_t7 99 rfl rfl
theorem cv_X10_273 : CV RX10 273 yX3_takeBack cX3_takeBack 3 none 1 := ⟨gw_1581, gw_1582, gw_1583, gw_50, gw_1584, by decide +kernel, by decide +kernel⟩
theorem gw_1580 : Cond.code yX10_undo cX10_undo 1 (some .int) ∈ GW := GW_t7 96 rfl rfl
theorem gw_358 : Cond.code yX10_undoCount cX10_undoCount 1 (some .int) ∈ GW := GW_t2 74 rfl rfl
theorem gw_295 : Cond.fieldLink "FoldedArchive" 19 "FoldedArchive" "snapshot" "LFoldedArchive$State;" ∈ GW := GW_t2 11 rfl rfl
theorem fl_X10_19 : FL RX10 19 10 2 "LFoldedArchive$State;" true := ⟨RX10, TX10, 15, tyX10, rfl, inG_X10, by decide, gw_295, tyX10_ok, nmX10, rfl, rfl⟩
theorem tt_23 : TT[23]? = some (0, 8, [some 24, some 27, some 29]) := by decide +kernel
theorem tt_24 : TT[24]? = some (0, 9, [none, none, none, some 25, some 26]) := by decide +kernel
theorem tt_25 : TT[25]? = some (1, 7, []) := by decide +kernel
theorem tt_26 : TT[26]? = some (1, 7, []) := by decide +kernel
theorem is9_24 : isX9 24 := ⟨tt_24, tt_25, tt_26⟩
theorem tt_27 : TT[27]? = some (0, 4, [none, some 28]) := by decide +kernel
theorem tt_28 : TT[28]? = some (1, 7, []) := by decide +kernel
theorem is4_27 : isX4 27 := ⟨tt_27, tt_28⟩
theorem tt_29 : TT[29]? = some (0, 5, [none, some 30, some 31, some 32, some 33]) := by decide +kernel
theorem tt_30 : TT[30]? = some (1, 10, []) := by decide +kernel
theorem tt_31 : TT[31]? = some (1, 10, []) := by decide +kernel
theorem tt_32 : TT[32]? = some (1, 10, []) := by decide +kernel
theorem tt_33 : TT[33]? = some (2, 10, []) := by decide +kernel
theorem is5_29 : isX5 29 := ⟨tt_29, tt_30, tt_31, tt_32, tt_33⟩
theorem is8_23 : isX8 23 := ⟨tt_23, is9_24, is4_27, is5_29⟩
theorem gw_303 : Cond.fieldLink "FoldedArchive" 69 "FoldedArchive" "snapshotSaved" "Z" ∈ GW := GW_t2 19 rfl rfl
theorem fl_X10_69 : FL RX10 69 10 10 "Z" false := ⟨RX10, TX10, 15, tyX10, rfl, inG_X10, by decide, gw_303, tyX10_ok, nmX10, rfl, rfl⟩
theorem gw_1573 : Cond.code yX10_saveSnapshot cX10_saveSnapshot 1 (some .int) ∈ GW := GW_t7 89 rfl rfl
theorem gw_1592 : Cond.methodLink "FoldedArchive" 276 yX3_forget ∈ GW := GW_t7 108 rfl rfl
theorem gw_1593 : Cond.instanceMethod yX3_forget ∈ GW := GW_t7 109 rfl rfl
theorem gw_1594 : Cond.selects yX3_forget.cls yX3_forget yX3_forget ∈ GW := GW_t7 110 rfl rfl
theorem cv_X10_276 : CV RX10 276 yX3_forget cX3_forget 1 none 0 := ⟨gw_1592, gw_1593, gw_1594, gw_50, gw_1595, by decide +kernel, by decide +kernel⟩
theorem gw_1591 : Cond.code yX10_restoreSnapshot cX10_restoreSnapshot 1 (some .int) ∈ GW := GW_t7 107 rfl rfl
theorem gw_365 : Cond.constant "FoldedArchiveLaw" 7 40503 ∈ GW := GW_t2 81 rfl rfl
theorem gw_364 : Cond.code yL_cell cL_cell 2 (some .int) ∈ GW := GW_t2 80 rfl rfl
theorem gw_362 : Cond.methodLink "FoldedArchiveLaw" 8 yL_cell ∈ GW := GW_t2 78 rfl rfl
theorem gw_363 : Cond.static yL_cell ∈ GW := GW_t2 79 rfl rfl
theorem gw_44 : Cond.initialized "FoldedArchiveLaw" ∈ GW := GW_t1 0 rfl rfl
theorem cs_L_8 : CS RL 8 yL_cell cL_cell 2 (some .int) 2 := ⟨gw_362, gw_363, gw_44, gw_364, by decide +kernel, by decide +kernel⟩
theorem gw_361 : Cond.code yL_pick cL_pick 3 (some .int) ∈ GW := GW_t2 77 rfl rfl
theorem gw_709 : Cond.methodLink "FoldedArchiveLaw" 14 yX10_addSection ∈ GW := GW_t3 185 rfl rfl
theorem gw_710 : Cond.instanceMethod yX10_addSection ∈ GW := GW_t3 186 rfl rfl
theorem gw_711 : Cond.selects yX10_addSection.cls yX10_addSection yX10_addSection ∈ GW := GW_t3 187 rfl rfl
theorem cv_L_14 : CV RL 14 yX10_addSection cX10_addSection 1 (some .int) 0 := ⟨gw_709, gw_710, gw_711, gw_45, gw_712, by decide +kernel, by decide +kernel⟩
theorem gw_589 : Cond.classLink "FoldedArchiveLaw" 20 "java/lang/UnsupportedOperationException" ∈ GW := GW_t3 65 rfl rfl
theorem gw_708 : Cond.codeWith yL_addSection cL_addSection 2 (some .int) [(0, 4, 5, 20)] ∈ GW := GW_t3 184 rfl rfl
theorem gw_874 : Cond.methodLink "FoldedArchiveLaw" 22 yX10_pour ∈ GW := GW_t4 110 rfl rfl
theorem gw_875 : Cond.instanceMethod yX10_pour ∈ GW := GW_t4 111 rfl rfl
theorem gw_876 : Cond.selects yX10_pour.cls yX10_pour yX10_pour ∈ GW := GW_t4 112 rfl rfl
theorem cv_L_22 : CV RL 22 yX10_pour cX10_pour 3 (some .int) 2 := ⟨gw_874, gw_875, gw_876, gw_45, gw_877, by decide +kernel, by decide +kernel⟩
theorem gw_369 : Cond.classLink "FoldedArchiveLaw" 26 "java/lang/IndexOutOfBoundsException" ∈ GW := GW_t2 85 rfl rfl
theorem gw_873 : Cond.classLink "FoldedArchiveLaw" 28 "java/lang/IllegalArgumentException" ∈ GW := GW_t4 109 rfl rfl
theorem gw_872 : Cond.codeWith yL_pour cL_pour 4 (some .int) [(0, 6, 7, 26), (0, 6, 11, 28), (0, 6, 15, 20)] ∈ GW := GW_t4 108 rfl rfl
theorem gw_881 : Cond.methodLink "FoldedArchiveLaw" 30 yX10_tag ∈ GW := GW_t4 117 rfl rfl
theorem gw_882 : Cond.instanceMethod yX10_tag ∈ GW := GW_t4 118 rfl rfl
theorem gw_883 : Cond.selects yX10_tag.cls yX10_tag yX10_tag ∈ GW := GW_t4 119 rfl rfl
theorem cv_L_30 : CV RL 30 yX10_tag cX10_tag 3 (some .int) 2 := ⟨gw_881, gw_882, gw_883, gw_45, gw_884, by decide +kernel, by decide +kernel⟩
theorem gw_880 : Cond.codeWith yL_tag cL_tag 4 (some .int) [(0, 6, 7, 26), (0, 6, 11, 28), (0, 6, 15, 20)] ∈ GW := GW_t4 116 rfl rfl
theorem gw_888 : Cond.methodLink "FoldedArchiveLaw" 34 yX10_untag ∈ GW := GW_t4 124 rfl rfl
theorem gw_889 : Cond.instanceMethod yX10_untag ∈ GW := GW_t4 125 rfl rfl
theorem gw_890 : Cond.selects yX10_untag.cls yX10_untag yX10_untag ∈ GW := GW_t4 126 rfl rfl
theorem cv_L_34 : CV RL 34 yX10_untag cX10_untag 3 (some .int) 2 := ⟨gw_888, gw_889, gw_890, gw_45, gw_891, by decide +kernel, by decide +kernel⟩
theorem gw_887 : Cond.codeWith yL_untag cL_untag 4 (some .int) [(0, 6, 7, 26), (0, 6, 11, 28), (0, 6, 15, 20)] ∈ GW := GW_t4 123 rfl rfl
theorem gw_449 : Cond.methodLink "FoldedArchiveLaw" 37 yX10_water ∈ GW := GW_t2 165 rfl rfl
theorem gw_450 : Cond.instanceMethod yX10_water ∈ GW := GW_t2 166 rfl rfl
theorem gw_451 : Cond.selects yX10_water.cls yX10_water yX10_water ∈ GW := GW_t2 167 rfl rfl
theorem cv_L_37 : CV RL 37 yX10_water cX10_water 2 (some .int) 1 := ⟨gw_449, gw_450, gw_451, gw_45, gw_452, by decide +kernel, by decide +kernel⟩
theorem gw_368 : Cond.codeWith yL_water cL_water 3 (some .int) [(0, 5, 6, 26)] ∈ GW := GW_t2 84 rfl rfl
theorem gw_1366 : Cond.methodLink "FoldedArchiveLaw" 41 yX10_hasTerm ∈ GW := GW_t6 122 rfl rfl
theorem gw_1367 : Cond.instanceMethod yX10_hasTerm ∈ GW := GW_t6 123 rfl rfl
theorem gw_1368 : Cond.selects yX10_hasTerm.cls yX10_hasTerm yX10_hasTerm ∈ GW := GW_t6 124 rfl rfl
theorem cv_L_41 : CV RL 41 yX10_hasTerm cX10_hasTerm 3 (some .boolean) 2 := ⟨gw_1366, gw_1367, gw_1368, gw_45, gw_1369, by decide +kernel, by decide +kernel⟩
theorem gw_1365 : Cond.codeWith yL_hasTerm cL_hasTerm 4 (some .int) [(0, 14, 15, 26), (0, 14, 19, 28)] ∈ GW := GW_t6 121 rfl rfl
theorem gw_1544 : Cond.methodLink "FoldedArchiveLaw" 45 yX10_sectionsWith ∈ GW := GW_t7 60 rfl rfl
theorem gw_1545 : Cond.instanceMethod yX10_sectionsWith ∈ GW := GW_t7 61 rfl rfl
theorem gw_1546 : Cond.selects yX10_sectionsWith.cls yX10_sectionsWith yX10_sectionsWith ∈ GW := GW_t7 62 rfl rfl
theorem cv_L_45 : CV RL 45 yX10_sectionsWith cX10_sectionsWith 2 (some .int) 1 := ⟨gw_1544, gw_1545, gw_1546, gw_45, gw_1547, by decide +kernel, by decide +kernel⟩
theorem gw_1543 : Cond.codeWith yL_sectionsWith cL_sectionsWith 3 (some .int) [(0, 5, 6, 28)] ∈ GW := GW_t7 59 rfl rfl
theorem gw_1400 : Cond.methodLink "FoldedArchiveLaw" 49 yX10_sectionByWater ∈ GW := GW_t6 156 rfl rfl
theorem gw_1401 : Cond.instanceMethod yX10_sectionByWater ∈ GW := GW_t6 157 rfl rfl
theorem gw_1402 : Cond.selects yX10_sectionByWater.cls yX10_sectionByWater yX10_sectionByWater ∈ GW := GW_t6 158 rfl rfl
theorem cv_L_49 : CV RL 49 yX10_sectionByWater cX10_sectionByWater 3 (some .int) 1 := ⟨gw_1400, gw_1401, gw_1402, gw_45, gw_1403, by decide +kernel, by decide +kernel⟩
theorem gw_490 : Cond.classLink "FoldedArchiveLaw" 52 "java/util/NoSuchElementException" ∈ GW := GW_t2 206 rfl rfl
theorem gw_1399 : Cond.codeWith yL_sectionByWater cL_sectionByWater 3 (some .int) [(0, 5, 6, 52)] ∈ GW := GW_t6 155 rfl rfl
theorem gw_895 : Cond.methodLink "FoldedArchiveLaw" 54 yX10_fold ∈ GW := GW_t4 131 rfl rfl
theorem gw_896 : Cond.instanceMethod yX10_fold ∈ GW := GW_t4 132 rfl rfl
theorem gw_897 : Cond.selects yX10_fold.cls yX10_fold yX10_fold ∈ GW := GW_t4 133 rfl rfl
theorem cv_L_54 : CV RL 54 yX10_fold cX10_fold 2 (some .int) 1 := ⟨gw_895, gw_896, gw_897, gw_45, gw_898, by decide +kernel, by decide +kernel⟩
theorem gw_894 : Cond.codeWith yL_fold cL_fold 3 (some .int) [(0, 5, 6, 26), (0, 5, 10, 20)] ∈ GW := GW_t4 130 rfl rfl
theorem gw_902 : Cond.methodLink "FoldedArchiveLaw" 57 yX10_unfold ∈ GW := GW_t4 138 rfl rfl
theorem gw_903 : Cond.instanceMethod yX10_unfold ∈ GW := GW_t4 139 rfl rfl
theorem gw_904 : Cond.selects yX10_unfold.cls yX10_unfold yX10_unfold ∈ GW := GW_t4 140 rfl rfl
theorem cv_L_57 : CV RL 57 yX10_unfold cX10_unfold 1 (some .int) 0 := ⟨gw_902, gw_903, gw_904, gw_45, gw_905, by decide +kernel, by decide +kernel⟩
theorem gw_901 : Cond.codeWith yL_unfold cL_unfold 2 (some .int) [(0, 4, 5, 20)] ∈ GW := GW_t4 137 rfl rfl
theorem gw_491 : Cond.methodLink "FoldedArchiveLaw" 60 yX10_layerOf ∈ GW := GW_t2 207 rfl rfl
theorem gw_492 : Cond.instanceMethod yX10_layerOf ∈ GW := GW_t2 208 rfl rfl
theorem gw_493 : Cond.selects yX10_layerOf.cls yX10_layerOf yX10_layerOf ∈ GW := GW_t2 209 rfl rfl
theorem cv_L_60 : CV RL 60 yX10_layerOf cX10_layerOf 3 (some .int) 1 := ⟨gw_491, gw_492, gw_493, gw_45, gw_494, by decide +kernel, by decide +kernel⟩
theorem gw_489 : Cond.codeWith yL_layerOf cL_layerOf 3 (some .int) [(0, 5, 6, 26), (0, 5, 10, 52)] ∈ GW := GW_t2 205 rfl rfl
theorem gw_517 : Cond.methodLink "FoldedArchiveLaw" 63 yX10_sectionIn ∈ GW := GW_t2 233 rfl rfl
theorem gw_518 : Cond.instanceMethod yX10_sectionIn ∈ GW := GW_t2 234 rfl rfl
theorem gw_519 : Cond.selects yX10_sectionIn.cls yX10_sectionIn yX10_sectionIn ∈ GW := GW_t2 235 rfl rfl
theorem cv_L_63 : CV RL 63 yX10_sectionIn cX10_sectionIn 3 (some .int) 1 := ⟨gw_517, gw_518, gw_519, gw_45, gw_520, by decide +kernel, by decide +kernel⟩
theorem gw_516 : Cond.codeWith yL_sectionIn cL_sectionIn 3 (some .int) [(0, 5, 6, 26)] ∈ GW := GW_t2 232 rfl rfl
theorem gw_528 : Cond.methodLink "FoldedArchiveLaw" 66 yX10_canFold ∈ GW := GW_t3 4 rfl rfl
theorem gw_529 : Cond.instanceMethod yX10_canFold ∈ GW := GW_t3 5 rfl rfl
theorem gw_530 : Cond.selects yX10_canFold.cls yX10_canFold yX10_canFold ∈ GW := GW_t3 6 rfl rfl
theorem cv_L_66 : CV RL 66 yX10_canFold cX10_canFold 3 (some .boolean) 1 := ⟨gw_528, gw_529, gw_530, gw_45, gw_531, by decide +kernel, by decide +kernel⟩
theorem gw_527 : Cond.codeWith yL_canFold cL_canFold 3 (some .int) [(0, 13, 14, 26)] ∈ GW := GW_t3 3 rfl rfl
theorem gw_909 : Cond.methodLink "FoldedArchiveLaw" 70 yX10_layPipe ∈ GW := GW_t4 145 rfl rfl
theorem gw_910 : Cond.instanceMethod yX10_layPipe ∈ GW := GW_t4 146 rfl rfl
theorem gw_911 : Cond.selects yX10_layPipe.cls yX10_layPipe yX10_layPipe ∈ GW := GW_t4 147 rfl rfl
theorem cv_L_70 : CV RL 70 yX10_layPipe cX10_layPipe 4 (some .int) 3 := ⟨gw_909, gw_910, gw_911, gw_45, gw_912, by decide +kernel, by decide +kernel⟩
theorem gw_908 : Cond.codeWith yL_layPipe cL_layPipe 5 (some .int) [(0, 7, 8, 26), (0, 7, 13, 28), (0, 7, 18, 20)] ∈ GW := GW_t4 144 rfl rfl
theorem gw_916 : Cond.methodLink "FoldedArchiveLaw" 74 yX10_removePipe ∈ GW := GW_t4 152 rfl rfl
theorem gw_917 : Cond.instanceMethod yX10_removePipe ∈ GW := GW_t4 153 rfl rfl
theorem gw_918 : Cond.selects yX10_removePipe.cls yX10_removePipe yX10_removePipe ∈ GW := GW_t4 154 rfl rfl
theorem cv_L_74 : CV RL 74 yX10_removePipe cX10_removePipe 2 (some .int) 1 := ⟨gw_916, gw_917, gw_918, gw_45, gw_919, by decide +kernel, by decide +kernel⟩
theorem gw_915 : Cond.codeWith yL_removePipe cL_removePipe 3 (some .int) [(0, 5, 6, 26)] ∈ GW := GW_t4 151 rfl rfl
theorem gw_923 : Cond.methodLink "FoldedArchiveLaw" 77 yX10_breakPipe ∈ GW := GW_t4 159 rfl rfl
theorem gw_924 : Cond.instanceMethod yX10_breakPipe ∈ GW := GW_t4 160 rfl rfl
theorem gw_925 : Cond.selects yX10_breakPipe.cls yX10_breakPipe yX10_breakPipe ∈ GW := GW_t4 161 rfl rfl
theorem cv_L_77 : CV RL 77 yX10_breakPipe cX10_breakPipe 2 (some .int) 1 := ⟨gw_923, gw_924, gw_925, gw_45, gw_926, by decide +kernel, by decide +kernel⟩
theorem gw_922 : Cond.codeWith yL_breakPipe cL_breakPipe 3 (some .int) [(0, 5, 6, 26), (0, 5, 10, 20)] ∈ GW := GW_t4 158 rfl rfl
theorem gw_930 : Cond.methodLink "FoldedArchiveLaw" 80 yX10_mendPipe ∈ GW := GW_t4 166 rfl rfl
theorem gw_931 : Cond.instanceMethod yX10_mendPipe ∈ GW := GW_t4 167 rfl rfl
theorem gw_932 : Cond.selects yX10_mendPipe.cls yX10_mendPipe yX10_mendPipe ∈ GW := GW_t4 168 rfl rfl
theorem cv_L_80 : CV RL 80 yX10_mendPipe cX10_mendPipe 2 (some .int) 1 := ⟨gw_930, gw_931, gw_932, gw_45, gw_933, by decide +kernel, by decide +kernel⟩
theorem gw_929 : Cond.codeWith yL_mendPipe cL_mendPipe 3 (some .int) [(0, 5, 6, 26), (0, 5, 10, 20)] ∈ GW := GW_t4 165 rfl rfl
theorem gw_1380 : Cond.methodLink "FoldedArchiveLaw" 83 yX10_pipeFrom ∈ GW := GW_t6 136 rfl rfl
theorem gw_1381 : Cond.instanceMethod yX10_pipeFrom ∈ GW := GW_t6 137 rfl rfl
theorem gw_1382 : Cond.selects yX10_pipeFrom.cls yX10_pipeFrom yX10_pipeFrom ∈ GW := GW_t6 138 rfl rfl
theorem cv_L_83 : CV RL 83 yX10_pipeFrom cX10_pipeFrom 2 (some .int) 1 := ⟨gw_1380, gw_1381, gw_1382, gw_45, gw_1383, by decide +kernel, by decide +kernel⟩
theorem gw_1379 : Cond.codeWith yL_pipeFrom cL_pipeFrom 3 (some .int) [(0, 5, 6, 26)] ∈ GW := GW_t6 135 rfl rfl
theorem gw_1389 : Cond.methodLink "FoldedArchiveLaw" 86 yX10_pipeTo ∈ GW := GW_t6 145 rfl rfl
theorem gw_1390 : Cond.instanceMethod yX10_pipeTo ∈ GW := GW_t6 146 rfl rfl
theorem gw_1391 : Cond.selects yX10_pipeTo.cls yX10_pipeTo yX10_pipeTo ∈ GW := GW_t6 147 rfl rfl
theorem cv_L_86 : CV RL 86 yX10_pipeTo cX10_pipeTo 2 (some .int) 1 := ⟨gw_1389, gw_1390, gw_1391, gw_45, gw_1392, by decide +kernel, by decide +kernel⟩
theorem gw_1388 : Cond.codeWith yL_pipeTo cL_pipeTo 3 (some .int) [(0, 5, 6, 26)] ∈ GW := GW_t6 144 rfl rfl
theorem gw_558 : Cond.methodLink "FoldedArchiveLaw" 89 yX10_capacity ∈ GW := GW_t3 34 rfl rfl
theorem gw_559 : Cond.instanceMethod yX10_capacity ∈ GW := GW_t3 35 rfl rfl
theorem gw_560 : Cond.selects yX10_capacity.cls yX10_capacity yX10_capacity ∈ GW := GW_t3 36 rfl rfl
theorem cv_L_89 : CV RL 89 yX10_capacity cX10_capacity 2 (some .int) 1 := ⟨gw_558, gw_559, gw_560, gw_45, gw_561, by decide +kernel, by decide +kernel⟩
theorem gw_557 : Cond.codeWith yL_capacity cL_capacity 3 (some .int) [(0, 5, 6, 26)] ∈ GW := GW_t3 33 rfl rfl
theorem gw_578 : Cond.methodLink "FoldedArchiveLaw" 92 yX10_isBroken ∈ GW := GW_t3 54 rfl rfl
theorem gw_579 : Cond.instanceMethod yX10_isBroken ∈ GW := GW_t3 55 rfl rfl
theorem gw_580 : Cond.selects yX10_isBroken.cls yX10_isBroken yX10_isBroken ∈ GW := GW_t3 56 rfl rfl
theorem cv_L_92 : CV RL 92 yX10_isBroken cX10_isBroken 2 (some .boolean) 1 := ⟨gw_578, gw_579, gw_580, gw_45, gw_581, by decide +kernel, by decide +kernel⟩
theorem gw_577 : Cond.codeWith yL_isBroken cL_isBroken 3 (some .int) [(0, 13, 14, 26)] ∈ GW := GW_t3 53 rfl rfl
theorem gw_590 : Cond.methodLink "FoldedArchiveLaw" 95 yX10_greatestFlow ∈ GW := GW_t3 66 rfl rfl
theorem gw_591 : Cond.instanceMethod yX10_greatestFlow ∈ GW := GW_t3 67 rfl rfl
theorem gw_592 : Cond.selects yX10_greatestFlow.cls yX10_greatestFlow yX10_greatestFlow ∈ GW := GW_t3 68 rfl rfl
theorem cv_L_95 : CV RL 95 yX10_greatestFlow cX10_greatestFlow 1 (some .int) 0 := ⟨gw_590, gw_591, gw_592, gw_45, gw_593, by decide +kernel, by decide +kernel⟩
theorem gw_588 : Cond.codeWith yL_greatestFlow cL_greatestFlow 2 (some .int) [(0, 4, 5, 20)] ∈ GW := GW_t3 64 rfl rfl
theorem gw_1420 : Cond.methodLink "FoldedArchiveLaw" 98 yX10_smallestCut ∈ GW := GW_t6 176 rfl rfl
theorem gw_1421 : Cond.instanceMethod yX10_smallestCut ∈ GW := GW_t6 177 rfl rfl
theorem gw_1422 : Cond.selects yX10_smallestCut.cls yX10_smallestCut yX10_smallestCut ∈ GW := GW_t6 178 rfl rfl
theorem cv_L_98 : CV RL 98 yX10_smallestCut cX10_smallestCut 1 (some .int) 0 := ⟨gw_1420, gw_1421, gw_1422, gw_45, gw_1423, by decide +kernel, by decide +kernel⟩
theorem gw_1419 : Cond.codeWith yL_smallestCut cL_smallestCut 2 (some .int) [(0, 4, 5, 20)] ∈ GW := GW_t6 175 rfl rfl
theorem gw_681 : Cond.methodLink "FoldedArchiveLaw" 101 yX10_lossOf ∈ GW := GW_t3 157 rfl rfl
theorem gw_682 : Cond.instanceMethod yX10_lossOf ∈ GW := GW_t3 158 rfl rfl
theorem gw_683 : Cond.selects yX10_lossOf.cls yX10_lossOf yX10_lossOf ∈ GW := GW_t3 159 rfl rfl
theorem cv_L_101 : CV RL 101 yX10_lossOf cX10_lossOf 3 (some .int) 1 := ⟨gw_681, gw_682, gw_683, gw_45, gw_684, by decide +kernel, by decide +kernel⟩
theorem gw_680 : Cond.codeWith yL_lossOf cL_lossOf 3 (some .int) [(0, 5, 6, 26)] ∈ GW := GW_t3 156 rfl rfl
theorem gw_937 : Cond.methodLink "FoldedArchiveLaw" 104 yX10_drain ∈ GW := GW_t4 173 rfl rfl
theorem gw_938 : Cond.instanceMethod yX10_drain ∈ GW := GW_t4 174 rfl rfl
theorem gw_939 : Cond.selects yX10_drain.cls yX10_drain yX10_drain ∈ GW := GW_t4 175 rfl rfl
theorem cv_L_104 : CV RL 104 yX10_drain cX10_drain 1 (some .int) 0 := ⟨gw_937, gw_938, gw_939, gw_45, gw_940, by decide +kernel, by decide +kernel⟩
theorem gw_936 : Cond.codeWith yL_drain cL_drain 2 (some .int) [(0, 4, 5, 20)] ∈ GW := GW_t4 172 rfl rfl
theorem gw_944 : Cond.methodLink "FoldedArchiveLaw" 107 yX10_seep ∈ GW := GW_t4 180 rfl rfl
theorem gw_945 : Cond.instanceMethod yX10_seep ∈ GW := GW_t4 181 rfl rfl
theorem gw_946 : Cond.selects yX10_seep.cls yX10_seep yX10_seep ∈ GW := GW_t4 182 rfl rfl
theorem cv_L_107 : CV RL 107 yX10_seep cX10_seep 1 (some .int) 0 := ⟨gw_944, gw_945, gw_946, gw_45, gw_947, by decide +kernel, by decide +kernel⟩
theorem gw_943 : Cond.codeWith yL_seep cL_seep 2 (some .int) [(0, 4, 5, 20)] ∈ GW := GW_t4 179 rfl rfl
theorem gw_1463 : Cond.methodLink "FoldedArchiveLaw" 110 yX10_meanWater ∈ GW := GW_t6 219 rfl rfl
theorem gw_1464 : Cond.instanceMethod yX10_meanWater ∈ GW := GW_t6 220 rfl rfl
theorem gw_1465 : Cond.selects yX10_meanWater.cls yX10_meanWater yX10_meanWater ∈ GW := GW_t6 221 rfl rfl
theorem cv_L_110 : CV RL 110 yX10_meanWater cX10_meanWater 1 (some .double) 0 := ⟨gw_1463, gw_1464, gw_1465, gw_45, gw_1466, by decide +kernel, by decide +kernel⟩
theorem gw_1449 : Cond.classLink "FoldedArchiveLaw" 114 "java/lang/ArithmeticException" ∈ GW := GW_t6 205 rfl rfl
theorem gw_1472 : Cond.constantDouble "FoldedArchiveLaw" 116 (13858279740860792832 : UInt64) ∈ GW := GW_t6 228 rfl rfl
theorem gw_1448 : Cond.codeWith yL_meanWater cL_meanWater 2 (some .double) [(0, 4, 5, 114)] ∈ GW := GW_t6 204 rfl rfl
theorem gw_1476 : Cond.methodLink "FoldedArchiveLaw" 118 yX10_leakedShare ∈ GW := GW_t6 232 rfl rfl
theorem gw_1477 : Cond.instanceMethod yX10_leakedShare ∈ GW := GW_t6 233 rfl rfl
theorem gw_1478 : Cond.selects yX10_leakedShare.cls yX10_leakedShare yX10_leakedShare ∈ GW := GW_t6 234 rfl rfl
theorem cv_L_118 : CV RL 118 yX10_leakedShare cX10_leakedShare 1 (some .float) 0 := ⟨gw_1476, gw_1477, gw_1478, gw_45, gw_1479, by decide +kernel, by decide +kernel⟩
theorem gw_1480 : Cond.constantFloat "FoldedArchiveLaw" 122 (3264479232 : UInt32) ∈ GW := GW_t6 236 rfl rfl
theorem gw_1475 : Cond.codeWith yL_leakedShare cL_leakedShare 2 (some .float) [(0, 4, 5, 114)] ∈ GW := GW_t6 231 rfl rfl
theorem gw_1238 : Cond.methodLink "FoldedArchiveLaw" 123 yX10_feed ∈ GW := GW_t5 234 rfl rfl
theorem gw_1239 : Cond.instanceMethod yX10_feed ∈ GW := GW_t5 235 rfl rfl
theorem gw_1240 : Cond.selects yX10_feed.cls yX10_feed yX10_feed ∈ GW := GW_t5 236 rfl rfl
theorem cv_L_123 : CV RL 123 yX10_feed cX10_feed 2 (some .int) 1 := ⟨gw_1238, gw_1239, gw_1240, gw_45, gw_1241, by decide +kernel, by decide +kernel⟩
theorem gw_1237 : Cond.classLink "FoldedArchiveLaw" 126 "java/lang/IllegalStateException" ∈ GW := GW_t5 233 rfl rfl
theorem gw_1236 : Cond.codeWith yL_feed cL_feed 3 (some .int) [(0, 5, 6, 126)] ∈ GW := GW_t5 232 rfl rfl
theorem gw_1494 : Cond.methodLink "FoldedArchiveLaw" 128 yX10_search ∈ GW := GW_t7 10 rfl rfl
theorem gw_1495 : Cond.instanceMethod yX10_search ∈ GW := GW_t7 11 rfl rfl
theorem gw_1496 : Cond.selects yX10_search.cls yX10_search yX10_search ∈ GW := GW_t7 12 rfl rfl
theorem cv_L_128 : CV RL 128 yX10_search cX10_search 2 (some .int) 0 := ⟨gw_1494, gw_1495, gw_1496, gw_45, gw_1497, by decide +kernel, by decide +kernel⟩
theorem gw_1493 : Cond.codeWith yL_search cL_search 2 (some .int) [(0, 4, 5, 28)] ∈ GW := GW_t7 9 rfl rfl
theorem gw_1558 : Cond.methodLink "FoldedArchiveLaw" 131 yX10_matches ∈ GW := GW_t7 74 rfl rfl
theorem gw_1559 : Cond.instanceMethod yX10_matches ∈ GW := GW_t7 75 rfl rfl
theorem gw_1560 : Cond.selects yX10_matches.cls yX10_matches yX10_matches ∈ GW := GW_t7 76 rfl rfl
theorem cv_L_131 : CV RL 131 yX10_matches cX10_matches 3 (some .boolean) 1 := ⟨gw_1558, gw_1559, gw_1560, gw_45, gw_1561, by decide +kernel, by decide +kernel⟩
theorem gw_1557 : Cond.codeWith yL_matches cL_matches 3 (some .int) [(0, 13, 14, 26), (0, 13, 18, 28)] ∈ GW := GW_t7 73 rfl rfl
theorem gw_1268 : Cond.methodLink "FoldedArchiveLaw" 134 yX10_execute ∈ GW := GW_t6 24 rfl rfl
theorem gw_1269 : Cond.instanceMethod yX10_execute ∈ GW := GW_t6 25 rfl rfl
theorem gw_1270 : Cond.selects yX10_execute.cls yX10_execute yX10_execute ∈ GW := GW_t6 26 rfl rfl
theorem cv_L_134 : CV RL 134 yX10_execute cX10_execute 3 (some .int) 0 := ⟨gw_1268, gw_1269, gw_1270, gw_45, gw_1271, by decide +kernel, by decide +kernel⟩
theorem gw_1267 : Cond.codeWith yL_execute cL_execute 2 (some .int) [(0, 4, 5, 28), (0, 4, 9, 20)] ∈ GW := GW_t6 23 rfl rfl
theorem gw_688 : Cond.methodLink "FoldedArchiveLaw" 147 yX10_denial ∈ GW := GW_t3 164 rfl rfl
theorem gw_689 : Cond.instanceMethod yX10_denial ∈ GW := GW_t3 165 rfl rfl
theorem gw_690 : Cond.selects yX10_denial.cls yX10_denial yX10_denial ∈ GW := GW_t3 166 rfl rfl
theorem cv_L_147 : CV RL 147 yX10_denial cX10_denial 1 (some .int) 0 := ⟨gw_688, gw_689, gw_690, gw_45, gw_691, by decide +kernel, by decide +kernel⟩
theorem gw_687 : Cond.codeWith yL_denial cL_denial 2 (some .int) [(0, 4, 5, 52)] ∈ GW := GW_t3 163 rfl rfl
theorem gw_695 : Cond.methodLink "FoldedArchiveLaw" 150 yX10_denialDetail ∈ GW := GW_t3 171 rfl rfl
theorem gw_696 : Cond.instanceMethod yX10_denialDetail ∈ GW := GW_t3 172 rfl rfl
theorem gw_697 : Cond.selects yX10_denialDetail.cls yX10_denialDetail yX10_denialDetail ∈ GW := GW_t3 173 rfl rfl
theorem cv_L_150 : CV RL 150 yX10_denialDetail cX10_denialDetail 1 (some .int) 0 := ⟨gw_695, gw_696, gw_697, gw_45, gw_698, by decide +kernel, by decide +kernel⟩
theorem gw_694 : Cond.codeWith yL_denialDetail cL_denialDetail 2 (some .int) [(0, 4, 5, 52)] ∈ GW := GW_t3 170 rfl rfl
theorem gw_1577 : Cond.methodLink "FoldedArchiveLaw" 156 yX10_undo ∈ GW := GW_t7 93 rfl rfl
theorem gw_1578 : Cond.instanceMethod yX10_undo ∈ GW := GW_t7 94 rfl rfl
theorem gw_1579 : Cond.selects yX10_undo.cls yX10_undo yX10_undo ∈ GW := GW_t7 95 rfl rfl
theorem cv_L_156 : CV RL 156 yX10_undo cX10_undo 1 (some .int) 0 := ⟨gw_1577, gw_1578, gw_1579, gw_45, gw_1580, by decide +kernel, by decide +kernel⟩
theorem gw_1576 : Cond.codeWith yL_undo cL_undo 2 (some .int) [(0, 4, 5, 126)] ∈ GW := GW_t7 92 rfl rfl
theorem gw_1588 : Cond.methodLink "FoldedArchiveLaw" 159 yX10_restoreSnapshot ∈ GW := GW_t7 104 rfl rfl
theorem gw_1589 : Cond.instanceMethod yX10_restoreSnapshot ∈ GW := GW_t7 105 rfl rfl
theorem gw_1590 : Cond.selects yX10_restoreSnapshot.cls yX10_restoreSnapshot yX10_restoreSnapshot ∈ GW := GW_t7 106 rfl rfl
theorem cv_L_159 : CV RL 159 yX10_restoreSnapshot cX10_restoreSnapshot 1 (some .int) 0 := ⟨gw_1588, gw_1589, gw_1590, gw_45, gw_1591, by decide +kernel, by decide +kernel⟩
theorem gw_1587 : Cond.codeWith yL_restoreSnapshot cL_restoreSnapshot 2 (some .int) [(0, 4, 5, 126)] ∈ GW := GW_t7 103 rfl rfl
theorem gw_1218 : Cond.methodLink "FoldedArchiveLaw" 162 yJ0_length_8abf5 ∈ GW := GW_t5 214 rfl rfl
theorem cv_L_162 : CV RL 162 yJ0_length_8abf5 cJ0_length_8abf5 1 (some .int) 0 := ⟨gw_1218, gw_1052, gw_1053, gw_62, gw_1054, by decide +kernel, by decide +kernel⟩
theorem gw_1219 : Cond.methodLink "FoldedArchiveLaw" 167 yJ0_charAt_5068e ∈ GW := GW_t5 215 rfl rfl
theorem cv_L_167 : CV RL 167 yJ0_charAt_5068e cJ0_charAt_5068e 2 (some .char) 1 := ⟨gw_1219, gw_1220, gw_1221, gw_62, gw_1222, by decide +kernel, by decide +kernel⟩
theorem gw_1234 : Cond.methodLink "FoldedArchiveLaw" 170 yL_feed ∈ GW := GW_t5 230 rfl rfl
theorem gw_1235 : Cond.static yL_feed ∈ GW := GW_t5 231 rfl rfl
theorem ch_L_170 : CSH RL 170 yL_feed cL_feed 3 (some .int) [(0, 5, 6, 126)] 2 := ⟨gw_1234, gw_1235, gw_44, gw_1236, by decide +kernel, by decide +kernel⟩
theorem gw_1217 : Cond.code yL_feeds cL_feeds 4 none ∈ GW := GW_t5 213 rfl rfl
theorem gw_1215 : Cond.methodLink "FoldedArchiveLaw" 173 yL_feeds ∈ GW := GW_t5 211 rfl rfl
theorem gw_1216 : Cond.static yL_feeds ∈ GW := GW_t5 212 rfl rfl
theorem cs_L_173 : CS RL 173 yL_feeds cL_feeds 4 none 2 := ⟨gw_1215, gw_1216, gw_44, gw_1217, by decide +kernel, by decide +kernel⟩
theorem gw_1265 : Cond.methodLink "FoldedArchiveLaw" 177 yL_execute ∈ GW := GW_t6 21 rfl rfl
theorem gw_1266 : Cond.static yL_execute ∈ GW := GW_t6 22 rfl rfl
theorem ch_L_177 : CSH RL 177 yL_execute cL_execute 2 (some .int) [(0, 4, 5, 28), (0, 4, 9, 20)] 1 := ⟨gw_1265, gw_1266, gw_44, gw_1267, by decide +kernel, by decide +kernel⟩
theorem gw_1214 : Cond.code yL_runs cL_runs 2 (some .int) ∈ GW := GW_t5 210 rfl rfl
theorem gw_1491 : Cond.methodLink "FoldedArchiveLaw" 180 yL_search ∈ GW := GW_t7 7 rfl rfl
theorem gw_1492 : Cond.static yL_search ∈ GW := GW_t7 8 rfl rfl
theorem ch_L_180 : CSH RL 180 yL_search cL_search 2 (some .int) [(0, 4, 5, 28)] 1 := ⟨gw_1491, gw_1492, gw_44, gw_1493, by decide +kernel, by decide +kernel⟩
theorem gw_1537 : Cond.methodLink "FoldedArchiveLaw" 182 yX10_clearText ∈ GW := GW_t7 53 rfl rfl
theorem gw_1538 : Cond.instanceMethod yX10_clearText ∈ GW := GW_t7 54 rfl rfl
theorem gw_1539 : Cond.selects yX10_clearText.cls yX10_clearText yX10_clearText ∈ GW := GW_t7 55 rfl rfl
theorem cv_L_182 : CV RL 182 yX10_clearText cX10_clearText 2 (some .int) 0 := ⟨gw_1537, gw_1538, gw_1539, gw_45, gw_1540, by decide +kernel, by decide +kernel⟩
theorem gw_1490 : Cond.code yL_finds cL_finds 4 (some .int) ∈ GW := GW_t7 6 rfl rfl
theorem gw_343 : Cond.methodLink "FoldedArchiveLaw" 209 yX10_foldedCount ∈ GW := GW_t2 59 rfl rfl
theorem gw_344 : Cond.instanceMethod yX10_foldedCount ∈ GW := GW_t2 60 rfl rfl
theorem gw_345 : Cond.selects yX10_foldedCount.cls yX10_foldedCount yX10_foldedCount ∈ GW := GW_t2 61 rfl rfl
theorem cv_L_209 : CV RL 209 yX10_foldedCount cX10_foldedCount 1 (some .int) 0 := ⟨gw_343, gw_344, gw_345, gw_45, gw_346, by decide +kernel, by decide +kernel⟩
theorem gw_366 : Cond.methodLink "FoldedArchiveLaw" 217 yL_water ∈ GW := GW_t2 82 rfl rfl
theorem gw_367 : Cond.static yL_water ∈ GW := GW_t2 83 rfl rfl
theorem ch_L_217 : CSH RL 217 yL_water cL_water 3 (some .int) [(0, 5, 6, 26)] 2 := ⟨gw_366, gw_367, gw_44, gw_368, by decide +kernel, by decide +kernel⟩
theorem gw_702 : Cond.methodLink "FoldedArchiveLaw" 254 Lib.Math.max.name ∈ GW := GW_t3 178 rfl rfl
theorem gw_701 : Cond.code yL_over cL_over 3 (some .int) ∈ GW := GW_t3 177 rfl rfl
theorem gw_359 : Cond.methodLink "FoldedArchiveLaw" 202 yL_pick ∈ GW := GW_t2 75 rfl rfl
theorem gw_360 : Cond.static yL_pick ∈ GW := GW_t2 76 rfl rfl
theorem cs_L_202 : CS RL 202 yL_pick cL_pick 3 (some .int) 3 := ⟨gw_359, gw_360, gw_44, gw_361, by decide +kernel, by decide +kernel⟩
theorem gw_339 : Cond.methodLink "FoldedArchiveLaw" 206 yX10_sectionCount ∈ GW := GW_t2 55 rfl rfl
theorem gw_340 : Cond.instanceMethod yX10_sectionCount ∈ GW := GW_t2 56 rfl rfl
theorem gw_341 : Cond.selects yX10_sectionCount.cls yX10_sectionCount yX10_sectionCount ∈ GW := GW_t2 57 rfl rfl
theorem cv_L_206 : CV RL 206 yX10_sectionCount cX10_sectionCount 1 (some .int) 0 := ⟨gw_339, gw_340, gw_341, gw_45, gw_342, by decide +kernel, by decide +kernel⟩
theorem gw_948 : Cond.classLink "FoldedArchiveLaw" 284 "java/lang/StringBuilder" ∈ GW := GW_t4 184 rfl rfl
theorem gw_950 : Cond.methodLink "FoldedArchiveLaw" 286 yJ4_init_da8c8 ∈ GW := GW_t4 186 rfl rfl
theorem sbnew_L_284 : Cond.classLink RL 284 "java/lang/StringBuilder" ∈ GW ∧ Cond.methodLink RL 286 ⟨"java/lang/StringBuilder","<init>","()V"⟩ ∈ GW := ⟨gw_948, gw_950⟩
theorem gw_980 : Cond.methodLink "FoldedArchiveLaw" 289 yJ4_append_15ec4 ∈ GW := GW_t4 216 rfl rfl
theorem sbS_L_289 : Cond.methodLink RL 289 ⟨"java/lang/StringBuilder","append","(Ljava/lang/String;)Ljava/lang/StringBuilder;"⟩ ∈ GW := gw_980
theorem gw_1094 : Cond.methodLink "FoldedArchiveLaw" 293 yJ4_append_bf812 ∈ GW := GW_t5 90 rfl rfl
theorem sbI_L_293 : Cond.methodLink RL 293 ⟨"java/lang/StringBuilder","append","(I)Ljava/lang/StringBuilder;"⟩ ∈ GW := gw_1094
theorem gw_1212 : Cond.methodLink "FoldedArchiveLaw" 313 yL_runs ∈ GW := GW_t5 208 rfl rfl
theorem gw_1213 : Cond.static yL_runs ∈ GW := GW_t5 209 rfl rfl
theorem cs_L_313 : CS RL 313 yL_runs cL_runs 2 (some .int) 2 := ⟨gw_1212, gw_1213, gw_44, gw_1214, by decide +kernel, by decide +kernel⟩
theorem gw_1121 : Cond.methodLink "FoldedArchiveLaw" 300 yJ4_toString_0e30d ∈ GW := GW_t5 117 rfl rfl
theorem sbT_L_300 : Cond.methodLink RL 300 ⟨"java/lang/StringBuilder","toString","()Ljava/lang/String;"⟩ ∈ GW := gw_1121
theorem gw_1188 : Cond.methodLink "FoldedArchiveLaw" 306 yJ4_append_cf468 ∈ GW := GW_t5 184 rfl rfl
theorem sbC_L_306 : Cond.methodLink RL 306 ⟨"java/lang/StringBuilder","append","(C)Ljava/lang/StringBuilder;"⟩ ∈ GW := gw_1188
theorem gw_941 : Cond.methodLink "FoldedArchiveLaw" 282 yL_seep ∈ GW := GW_t4 177 rfl rfl
theorem gw_942 : Cond.static yL_seep ∈ GW := GW_t4 178 rfl rfl
theorem ch_L_282 : CSH RL 282 yL_seep cL_seep 2 (some .int) [(0, 4, 5, 20)] 1 := ⟨gw_941, gw_942, gw_44, gw_943, by decide +kernel, by decide +kernel⟩
theorem gw_934 : Cond.methodLink "FoldedArchiveLaw" 280 yL_drain ∈ GW := GW_t4 170 rfl rfl
theorem gw_935 : Cond.static yL_drain ∈ GW := GW_t4 171 rfl rfl
theorem ch_L_280 : CSH RL 280 yL_drain cL_drain 2 (some .int) [(0, 4, 5, 20)] 1 := ⟨gw_934, gw_935, gw_44, gw_936, by decide +kernel, by decide +kernel⟩
theorem gw_927 : Cond.methodLink "FoldedArchiveLaw" 278 yL_mendPipe ∈ GW := GW_t4 163 rfl rfl
theorem gw_928 : Cond.static yL_mendPipe ∈ GW := GW_t4 164 rfl rfl
theorem ch_L_278 : CSH RL 278 yL_mendPipe cL_mendPipe 3 (some .int) [(0, 5, 6, 26), (0, 5, 10, 20)] 2 := ⟨gw_927, gw_928, gw_44, gw_929, by decide +kernel, by decide +kernel⟩
theorem gw_920 : Cond.methodLink "FoldedArchiveLaw" 276 yL_breakPipe ∈ GW := GW_t4 156 rfl rfl
theorem gw_921 : Cond.static yL_breakPipe ∈ GW := GW_t4 157 rfl rfl
theorem ch_L_276 : CSH RL 276 yL_breakPipe cL_breakPipe 3 (some .int) [(0, 5, 6, 26), (0, 5, 10, 20)] 2 := ⟨gw_920, gw_921, gw_44, gw_922, by decide +kernel, by decide +kernel⟩
theorem gw_913 : Cond.methodLink "FoldedArchiveLaw" 274 yL_removePipe ∈ GW := GW_t4 149 rfl rfl
theorem gw_914 : Cond.static yL_removePipe ∈ GW := GW_t4 150 rfl rfl
theorem ch_L_274 : CSH RL 274 yL_removePipe cL_removePipe 3 (some .int) [(0, 5, 6, 26)] 2 := ⟨gw_913, gw_914, gw_44, gw_915, by decide +kernel, by decide +kernel⟩
theorem gw_899 : Cond.methodLink "FoldedArchiveLaw" 269 yL_unfold ∈ GW := GW_t4 135 rfl rfl
theorem gw_900 : Cond.static yL_unfold ∈ GW := GW_t4 136 rfl rfl
theorem ch_L_269 : CSH RL 269 yL_unfold cL_unfold 2 (some .int) [(0, 4, 5, 20)] 1 := ⟨gw_899, gw_900, gw_44, gw_901, by decide +kernel, by decide +kernel⟩
theorem gw_892 : Cond.methodLink "FoldedArchiveLaw" 267 yL_fold ∈ GW := GW_t4 128 rfl rfl
theorem gw_893 : Cond.static yL_fold ∈ GW := GW_t4 129 rfl rfl
theorem ch_L_267 : CSH RL 267 yL_fold cL_fold 3 (some .int) [(0, 5, 6, 26), (0, 5, 10, 20)] 2 := ⟨gw_892, gw_893, gw_44, gw_894, by decide +kernel, by decide +kernel⟩
theorem gw_885 : Cond.methodLink "FoldedArchiveLaw" 265 yL_untag ∈ GW := GW_t4 121 rfl rfl
theorem gw_886 : Cond.static yL_untag ∈ GW := GW_t4 122 rfl rfl
theorem ch_L_265 : CSH RL 265 yL_untag cL_untag 4 (some .int) [(0, 6, 7, 26), (0, 6, 11, 28), (0, 6, 15, 20)] 3 := ⟨gw_885, gw_886, gw_44, gw_887, by decide +kernel, by decide +kernel⟩
theorem gw_878 : Cond.methodLink "FoldedArchiveLaw" 262 yL_tag ∈ GW := GW_t4 114 rfl rfl
theorem gw_879 : Cond.static yL_tag ∈ GW := GW_t4 115 rfl rfl
theorem ch_L_262 : CSH RL 262 yL_tag cL_tag 4 (some .int) [(0, 6, 7, 26), (0, 6, 11, 28), (0, 6, 15, 20)] 3 := ⟨gw_878, gw_879, gw_44, gw_880, by decide +kernel, by decide +kernel⟩
theorem gw_706 : Cond.methodLink "FoldedArchiveLaw" 257 yL_addSection ∈ GW := GW_t3 182 rfl rfl
theorem gw_707 : Cond.static yL_addSection ∈ GW := GW_t3 183 rfl rfl
theorem ch_L_257 : CSH RL 257 yL_addSection cL_addSection 2 (some .int) [(0, 4, 5, 20)] 1 := ⟨gw_706, gw_707, gw_44, gw_708, by decide +kernel, by decide +kernel⟩
theorem gw_870 : Cond.methodLink "FoldedArchiveLaw" 259 yL_pour ∈ GW := GW_t4 106 rfl rfl
theorem gw_871 : Cond.static yL_pour ∈ GW := GW_t4 107 rfl rfl
theorem ch_L_259 : CSH RL 259 yL_pour cL_pour 4 (some .int) [(0, 6, 7, 26), (0, 6, 11, 28), (0, 6, 15, 20)] 3 := ⟨gw_870, gw_871, gw_44, gw_872, by decide +kernel, by decide +kernel⟩
theorem gw_906 : Cond.methodLink "FoldedArchiveLaw" 271 yL_layPipe ∈ GW := GW_t4 142 rfl rfl
theorem gw_907 : Cond.static yL_layPipe ∈ GW := GW_t4 143 rfl rfl
theorem ch_L_271 : CSH RL 271 yL_layPipe cL_layPipe 5 (some .int) [(0, 7, 8, 26), (0, 7, 13, 28), (0, 7, 18, 20)] 4 := ⟨gw_906, gw_907, gw_44, gw_908, by decide +kernel, by decide +kernel⟩
theorem gw_705 : Cond.code yL_does cL_does 11 (some .int) ∈ GW := GW_t3 181 rfl rfl
theorem gw_1356 : Cond.constantLong "FoldedArchiveLaw" 317 (1009 : Int64) ∈ GW := GW_t6 112 rfl rfl
theorem gw_1357 : Cond.methodLink "FoldedArchiveLaw" 319 yX10_poured ∈ GW := GW_t6 113 rfl rfl
theorem gw_1358 : Cond.instanceMethod yX10_poured ∈ GW := GW_t6 114 rfl rfl
theorem gw_1359 : Cond.selects yX10_poured.cls yX10_poured yX10_poured ∈ GW := GW_t6 115 rfl rfl
theorem cv_L_319 : CV RL 319 yX10_poured cX10_poured 1 (some .int) 0 := ⟨gw_1357, gw_1358, gw_1359, gw_45, gw_1360, by decide +kernel, by decide +kernel⟩
theorem gw_1361 : Cond.constantLong "FoldedArchiveLaw" 322 (31 : Int64) ∈ GW := GW_t6 117 rfl rfl
theorem gw_351 : Cond.methodLink "FoldedArchiveLaw" 225 yX10_leaked ∈ GW := GW_t2 67 rfl rfl
theorem gw_352 : Cond.instanceMethod yX10_leaked ∈ GW := GW_t2 68 rfl rfl
theorem gw_353 : Cond.selects yX10_leaked.cls yX10_leaked yX10_leaked ∈ GW := GW_t2 69 rfl rfl
theorem cv_L_225 : CV RL 225 yX10_leaked cX10_leaked 1 (some .int) 0 := ⟨gw_351, gw_352, gw_353, gw_45, gw_354, by decide +kernel, by decide +kernel⟩
theorem gw_487 : Cond.methodLink "FoldedArchiveLaw" 237 yL_layerOf ∈ GW := GW_t2 203 rfl rfl
theorem gw_488 : Cond.static yL_layerOf ∈ GW := GW_t2 204 rfl rfl
theorem ch_L_237 : CSH RL 237 yL_layerOf cL_layerOf 3 (some .int) [(0, 5, 6, 26), (0, 5, 10, 52)] 2 := ⟨gw_487, gw_488, gw_44, gw_489, by decide +kernel, by decide +kernel⟩
theorem gw_347 : Cond.methodLink "FoldedArchiveLaw" 212 yX10_pipeCount ∈ GW := GW_t2 63 rfl rfl
theorem gw_348 : Cond.instanceMethod yX10_pipeCount ∈ GW := GW_t2 64 rfl rfl
theorem gw_349 : Cond.selects yX10_pipeCount.cls yX10_pipeCount yX10_pipeCount ∈ GW := GW_t2 65 rfl rfl
theorem cv_L_212 : CV RL 212 yX10_pipeCount cX10_pipeCount 1 (some .int) 0 := ⟨gw_347, gw_348, gw_349, gw_45, gw_350, by decide +kernel, by decide +kernel⟩
theorem gw_555 : Cond.methodLink "FoldedArchiveLaw" 239 yL_capacity ∈ GW := GW_t3 31 rfl rfl
theorem gw_556 : Cond.static yL_capacity ∈ GW := GW_t3 32 rfl rfl
theorem ch_L_239 : CSH RL 239 yL_capacity cL_capacity 3 (some .int) [(0, 5, 6, 26)] 2 := ⟨gw_555, gw_556, gw_44, gw_557, by decide +kernel, by decide +kernel⟩
theorem gw_1376 : Cond.constantLong "FoldedArchiveLaw" 328 (101 : Int64) ∈ GW := GW_t6 132 rfl rfl
theorem gw_1377 : Cond.methodLink "FoldedArchiveLaw" 330 yL_pipeFrom ∈ GW := GW_t6 133 rfl rfl
theorem gw_1378 : Cond.static yL_pipeFrom ∈ GW := GW_t6 134 rfl rfl
theorem ch_L_330 : CSH RL 330 yL_pipeFrom cL_pipeFrom 3 (some .int) [(0, 5, 6, 26)] 2 := ⟨gw_1377, gw_1378, gw_44, gw_1379, by decide +kernel, by decide +kernel⟩
theorem gw_1385 : Cond.constantLong "FoldedArchiveLaw" 332 (7 : Int64) ∈ GW := GW_t6 141 rfl rfl
theorem gw_1386 : Cond.methodLink "FoldedArchiveLaw" 334 yL_pipeTo ∈ GW := GW_t6 142 rfl rfl
theorem gw_1387 : Cond.static yL_pipeTo ∈ GW := GW_t6 143 rfl rfl
theorem ch_L_334 : CSH RL 334 yL_pipeTo cL_pipeTo 3 (some .int) [(0, 5, 6, 26)] 2 := ⟨gw_1386, gw_1387, gw_44, gw_1388, by decide +kernel, by decide +kernel⟩
theorem gw_575 : Cond.methodLink "FoldedArchiveLaw" 223 yL_isBroken ∈ GW := GW_t3 51 rfl rfl
theorem gw_576 : Cond.static yL_isBroken ∈ GW := GW_t3 52 rfl rfl
theorem ch_L_223 : CSH RL 223 yL_isBroken cL_isBroken 3 (some .int) [(0, 13, 14, 26)] 2 := ⟨gw_575, gw_576, gw_44, gw_577, by decide +kernel, by decide +kernel⟩
theorem gw_1362 : Cond.constantLong "FoldedArchiveLaw" 324 (2 : Int64) ∈ GW := GW_t6 118 rfl rfl
theorem gw_1363 : Cond.methodLink "FoldedArchiveLaw" 326 yL_hasTerm ∈ GW := GW_t6 119 rfl rfl
theorem gw_1364 : Cond.static yL_hasTerm ∈ GW := GW_t6 120 rfl rfl
theorem ch_L_326 : CSH RL 326 yL_hasTerm cL_hasTerm 4 (some .int) [(0, 14, 15, 26), (0, 14, 19, 28)] 3 := ⟨gw_1363, gw_1364, gw_44, gw_1365, by decide +kernel, by decide +kernel⟩
theorem gw_1355 : Cond.code yL_sum cL_sum 5 (some .long) ∈ GW := GW_t6 111 rfl rfl
theorem gw_514 : Cond.methodLink "FoldedArchiveLaw" 235 yL_sectionIn ∈ GW := GW_t2 230 rfl rfl
theorem gw_515 : Cond.static yL_sectionIn ∈ GW := GW_t2 231 rfl rfl
theorem ch_L_235 : CSH RL 235 yL_sectionIn cL_sectionIn 3 (some .int) [(0, 5, 6, 26)] 2 := ⟨gw_514, gw_515, gw_44, gw_516, by decide +kernel, by decide +kernel⟩
theorem gw_1416 : Cond.methodLink "FoldedArchiveLaw" 241 Lib.Math.min.name ∈ GW := GW_t6 172 rfl rfl
theorem gw_1483 : Cond.code yL_isPile cL_isPile 9 (some .boolean) ∈ GW := GW_t6 239 rfl rfl
theorem gw_1599 : Cond.methodLink "FoldedArchiveLaw" 336 yX10_completions ∈ GW := GW_t7 115 rfl rfl
theorem gw_1600 : Cond.instanceMethod yX10_completions ∈ GW := GW_t7 116 rfl rfl
theorem gw_1601 : Cond.selects yX10_completions.cls yX10_completions yX10_completions ∈ GW := GW_t7 117 rfl rfl
theorem cv_L_336 : CV RL 336 yX10_completions cX10_completions 1 (some .int) 0 := ⟨gw_1599, gw_1600, gw_1601, gw_45, gw_1602, by decide +kernel, by decide +kernel⟩
theorem gw_1620 : Cond.methodLink "FoldedArchiveLaw" 339 yX10_completionsByOrders ∈ GW := GW_t7 136 rfl rfl
theorem gw_1621 : Cond.instanceMethod yX10_completionsByOrders ∈ GW := GW_t7 137 rfl rfl
theorem gw_1622 : Cond.selects yX10_completionsByOrders.cls yX10_completionsByOrders yX10_completionsByOrders ∈ GW := GW_t7 138 rfl rfl
theorem cv_L_339 : CV RL 339 yX10_completionsByOrders cX10_completionsByOrders 1 (some .int) 0 := ⟨gw_1620, gw_1621, gw_1622, gw_45, gw_1623, by decide +kernel, by decide +kernel⟩
theorem gw_525 : Cond.methodLink "FoldedArchiveLaw" 215 yL_canFold ∈ GW := GW_t3 1 rfl rfl
theorem gw_526 : Cond.static yL_canFold ∈ GW := GW_t3 2 rfl rfl
theorem ch_L_215 : CSH RL 215 yL_canFold cL_canFold 3 (some .int) [(0, 13, 14, 26)] 2 := ⟨gw_525, gw_526, gw_44, gw_527, by decide +kernel, by decide +kernel⟩
theorem gw_1598 : Cond.code yL_areFoldings cL_areFoldings 8 (some .boolean) ∈ GW := GW_t7 114 rfl rfl
theorem gw_1488 : Cond.methodLink "FoldedArchiveLaw" 344 yL_finds ∈ GW := GW_t7 4 rfl rfl
theorem gw_1489 : Cond.static yL_finds ∈ GW := GW_t7 5 rfl rfl
theorem cs_L_344 : CS RL 344 yL_finds cL_finds 4 (some .int) 2 := ⟨gw_1488, gw_1489, gw_44, gw_1490, by decide +kernel, by decide +kernel⟩
theorem gw_1541 : Cond.methodLink "FoldedArchiveLaw" 347 yL_sectionsWith ∈ GW := GW_t7 57 rfl rfl
theorem gw_1542 : Cond.static yL_sectionsWith ∈ GW := GW_t7 58 rfl rfl
theorem ch_L_347 : CSH RL 347 yL_sectionsWith cL_sectionsWith 3 (some .int) [(0, 5, 6, 28)] 2 := ⟨gw_1541, gw_1542, gw_44, gw_1543, by decide +kernel, by decide +kernel⟩
theorem gw_1555 : Cond.methodLink "FoldedArchiveLaw" 361 yL_matches ∈ GW := GW_t7 71 rfl rfl
theorem gw_1556 : Cond.static yL_matches ∈ GW := GW_t7 72 rfl rfl
theorem ch_L_361 : CSH RL 361 yL_matches cL_matches 3 (some .int) [(0, 13, 14, 26), (0, 13, 18, 28)] 2 := ⟨gw_1555, gw_1556, gw_44, gw_1557, by decide +kernel, by decide +kernel⟩
theorem gw_1486 : Cond.code yL_isSearch cL_isSearch 11 (some .boolean) ∈ GW := GW_t7 2 rfl rfl
theorem gw_586 : Cond.methodLink "FoldedArchiveLaw" 219 yL_greatestFlow ∈ GW := GW_t3 62 rfl rfl
theorem gw_587 : Cond.static yL_greatestFlow ∈ GW := GW_t3 63 rfl rfl
theorem ch_L_219 : CSH RL 219 yL_greatestFlow cL_greatestFlow 2 (some .int) [(0, 4, 5, 20)] 1 := ⟨gw_586, gw_587, gw_44, gw_588, by decide +kernel, by decide +kernel⟩
theorem gw_1397 : Cond.methodLink "FoldedArchiveLaw" 363 yL_sectionByWater ∈ GW := GW_t6 153 rfl rfl
theorem gw_1398 : Cond.static yL_sectionByWater ∈ GW := GW_t6 154 rfl rfl
theorem ch_L_363 : CSH RL 363 yL_sectionByWater cL_sectionByWater 3 (some .int) [(0, 5, 6, 52)] 2 := ⟨gw_1397, gw_1398, gw_44, gw_1399, by decide +kernel, by decide +kernel⟩
theorem gw_1417 : Cond.methodLink "FoldedArchiveLaw" 365 yL_smallestCut ∈ GW := GW_t6 173 rfl rfl
theorem gw_1418 : Cond.static yL_smallestCut ∈ GW := GW_t6 174 rfl rfl
theorem ch_L_365 : CSH RL 365 yL_smallestCut cL_smallestCut 2 (some .int) [(0, 4, 5, 20)] 1 := ⟨gw_1417, gw_1418, gw_44, gw_1419, by decide +kernel, by decide +kernel⟩
theorem gw_1434 : Cond.methodLink "FoldedArchiveLaw" 367 yX10_totalWater ∈ GW := GW_t6 190 rfl rfl
theorem gw_1435 : Cond.instanceMethod yX10_totalWater ∈ GW := GW_t6 191 rfl rfl
theorem gw_1436 : Cond.selects yX10_totalWater.cls yX10_totalWater yX10_totalWater ∈ GW := GW_t6 192 rfl rfl
theorem cv_L_367 : CV RL 367 yX10_totalWater cX10_totalWater 1 (some .int) 0 := ⟨gw_1434, gw_1435, gw_1436, gw_45, gw_1437, by decide +kernel, by decide +kernel⟩
theorem gw_1442 : Cond.methodLink "FoldedArchiveLaw" 370 yX10_totalWaterByAccounts ∈ GW := GW_t6 198 rfl rfl
theorem gw_1443 : Cond.instanceMethod yX10_totalWaterByAccounts ∈ GW := GW_t6 199 rfl rfl
theorem gw_1444 : Cond.selects yX10_totalWaterByAccounts.cls yX10_totalWaterByAccounts yX10_totalWaterByAccounts ∈ GW := GW_t6 200 rfl rfl
theorem cv_L_370 : CV RL 370 yX10_totalWaterByAccounts cX10_totalWaterByAccounts 1 (some .int) 0 := ⟨gw_1442, gw_1443, gw_1444, gw_45, gw_1445, by decide +kernel, by decide +kernel⟩
theorem gw_1446 : Cond.methodLink "FoldedArchiveLaw" 373 yL_meanWater ∈ GW := GW_t6 202 rfl rfl
theorem gw_1447 : Cond.static yL_meanWater ∈ GW := GW_t6 203 rfl rfl
theorem ch_L_373 : CSH RL 373 yL_meanWater cL_meanWater 2 (some .double) [(0, 4, 5, 114)] 1 := ⟨gw_1446, gw_1447, gw_44, gw_1448, by decide +kernel, by decide +kernel⟩
theorem gw_678 : Cond.methodLink "FoldedArchiveLaw" 221 yL_lossOf ∈ GW := GW_t3 154 rfl rfl
theorem gw_679 : Cond.static yL_lossOf ∈ GW := GW_t3 155 rfl rfl
theorem ch_L_221 : CSH RL 221 yL_lossOf cL_lossOf 3 (some .int) [(0, 5, 6, 26)] 2 := ⟨gw_678, gw_679, gw_44, gw_680, by decide +kernel, by decide +kernel⟩
theorem gw_1473 : Cond.methodLink "FoldedArchiveLaw" 376 yL_leakedShare ∈ GW := GW_t6 229 rfl rfl
theorem gw_1474 : Cond.static yL_leakedShare ∈ GW := GW_t6 230 rfl rfl
theorem ch_L_376 : CSH RL 376 yL_leakedShare cL_leakedShare 2 (some .float) [(0, 4, 5, 114)] 1 := ⟨gw_1473, gw_1474, gw_44, gw_1475, by decide +kernel, by decide +kernel⟩
theorem gw_1481 : Cond.methodLink "FoldedArchiveLaw" 379 yL_isPile ∈ GW := GW_t6 237 rfl rfl
theorem gw_1482 : Cond.static yL_isPile ∈ GW := GW_t6 238 rfl rfl
theorem cs_L_379 : CS RL 379 yL_isPile cL_isPile 9 (some .boolean) 1 := ⟨gw_1481, gw_1482, gw_44, gw_1483, by decide +kernel, by decide +kernel⟩
theorem gw_1484 : Cond.methodLink "FoldedArchiveLaw" 383 yL_isSearch ∈ GW := GW_t7 0 rfl rfl
theorem gw_1485 : Cond.static yL_isSearch ∈ GW := GW_t7 1 rfl rfl
theorem cs_L_383 : CS RL 383 yL_isSearch cL_isSearch 11 (some .boolean) 3 := ⟨gw_1484, gw_1485, gw_44, gw_1486, by decide +kernel, by decide +kernel⟩
theorem gw_1396 : Cond.code yL_isWhole cL_isWhole 13 (some .boolean) ∈ GW := GW_t6 152 rfl rfl
theorem gw_1570 : Cond.methodLink "FoldedArchiveLaw" 387 yX10_saveSnapshot ∈ GW := GW_t7 86 rfl rfl
theorem gw_1571 : Cond.instanceMethod yX10_saveSnapshot ∈ GW := GW_t7 87 rfl rfl
theorem gw_1572 : Cond.selects yX10_saveSnapshot.cls yX10_saveSnapshot yX10_saveSnapshot ∈ GW := GW_t7 88 rfl rfl
theorem cv_L_387 : CV RL 387 yX10_saveSnapshot cX10_saveSnapshot 1 (some .int) 0 := ⟨gw_1570, gw_1571, gw_1572, gw_45, gw_1573, by decide +kernel, by decide +kernel⟩
theorem gw_355 : Cond.methodLink "FoldedArchiveLaw" 199 yX10_undoCount ∈ GW := GW_t2 71 rfl rfl
theorem gw_356 : Cond.instanceMethod yX10_undoCount ∈ GW := GW_t2 72 rfl rfl
theorem gw_357 : Cond.selects yX10_undoCount.cls yX10_undoCount yX10_undoCount ∈ GW := GW_t2 73 rfl rfl
theorem cv_L_199 : CV RL 199 yX10_undoCount cX10_undoCount 1 (some .int) 0 := ⟨gw_355, gw_356, gw_357, gw_45, gw_358, by decide +kernel, by decide +kernel⟩
theorem gw_1574 : Cond.methodLink "FoldedArchiveLaw" 390 yL_undo ∈ GW := GW_t7 90 rfl rfl
theorem gw_1575 : Cond.static yL_undo ∈ GW := GW_t7 91 rfl rfl
theorem ch_L_390 : CSH RL 390 yL_undo cL_undo 2 (some .int) [(0, 4, 5, 126)] 1 := ⟨gw_1574, gw_1575, gw_44, gw_1576, by decide +kernel, by decide +kernel⟩
theorem gw_1585 : Cond.methodLink "FoldedArchiveLaw" 392 yL_restoreSnapshot ∈ GW := GW_t7 101 rfl rfl
theorem gw_1586 : Cond.static yL_restoreSnapshot ∈ GW := GW_t7 102 rfl rfl
theorem ch_L_392 : CSH RL 392 yL_restoreSnapshot cL_restoreSnapshot 2 (some .int) [(0, 4, 5, 126)] 1 := ⟨gw_1585, gw_1586, gw_44, gw_1587, by decide +kernel, by decide +kernel⟩
theorem gw_1353 : Cond.methodLink "FoldedArchiveLaw" 195 yL_sum ∈ GW := GW_t6 109 rfl rfl
theorem gw_1354 : Cond.static yL_sum ∈ GW := GW_t6 110 rfl rfl
theorem cs_L_195 : CS RL 195 yL_sum cL_sum 5 (some .long) 1 := ⟨gw_1353, gw_1354, gw_44, gw_1355, by decide +kernel, by decide +kernel⟩
theorem gw_1596 : Cond.methodLink "FoldedArchiveLaw" 394 yL_areFoldings ∈ GW := GW_t7 112 rfl rfl
theorem gw_1597 : Cond.static yL_areFoldings ∈ GW := GW_t7 113 rfl rfl
theorem cs_L_394 : CS RL 394 yL_areFoldings cL_areFoldings 8 (some .boolean) 1 := ⟨gw_1596, gw_1597, gw_44, gw_1598, by decide +kernel, by decide +kernel⟩
theorem gw_1569 : Cond.code yL_isKept cL_isKept 6 (some .boolean) ∈ GW := GW_t7 85 rfl rfl
theorem tt_36 : TT[36]? = some (0, 8, [some 37, some 40, some 42]) := by decide +kernel
theorem tt_37 : TT[37]? = some (0, 9, [none, none, none, some 38, some 39]) := by decide +kernel
theorem tt_38 : TT[38]? = some (1, 7, []) := by decide +kernel
theorem tt_39 : TT[39]? = some (1, 7, []) := by decide +kernel
theorem is9_37 : isX9 37 := ⟨tt_37, tt_38, tt_39⟩
theorem tt_40 : TT[40]? = some (0, 4, [none, some 41]) := by decide +kernel
theorem tt_41 : TT[41]? = some (1, 7, []) := by decide +kernel
theorem is4_40 : isX4 40 := ⟨tt_40, tt_41⟩
theorem tt_42 : TT[42]? = some (0, 5, [none, some 43, some 44, some 45, some 46]) := by decide +kernel
theorem tt_43 : TT[43]? = some (1, 10, []) := by decide +kernel
theorem tt_44 : TT[44]? = some (1, 10, []) := by decide +kernel
theorem tt_45 : TT[45]? = some (1, 10, []) := by decide +kernel
theorem tt_46 : TT[46]? = some (2, 10, []) := by decide +kernel
theorem is5_42 : isX5 42 := ⟨tt_42, tt_43, tt_44, tt_45, tt_46⟩
theorem is8_36 : isX8 36 := ⟨tt_36, is9_37, is4_40, is5_42⟩
theorem tt_47 : TT[47]? = some (0, 8, [some 48, some 51, some 53]) := by decide +kernel
theorem tt_48 : TT[48]? = some (0, 9, [none, none, none, some 49, some 50]) := by decide +kernel
theorem tt_49 : TT[49]? = some (1, 7, []) := by decide +kernel
theorem tt_50 : TT[50]? = some (1, 7, []) := by decide +kernel
theorem is9_48 : isX9 48 := ⟨tt_48, tt_49, tt_50⟩
theorem tt_51 : TT[51]? = some (0, 4, [none, some 52]) := by decide +kernel
theorem tt_52 : TT[52]? = some (1, 7, []) := by decide +kernel
theorem is4_51 : isX4 51 := ⟨tt_51, tt_52⟩
theorem tt_53 : TT[53]? = some (0, 5, [none, some 54, some 55, some 56, some 57]) := by decide +kernel
theorem tt_54 : TT[54]? = some (1, 10, []) := by decide +kernel
theorem tt_55 : TT[55]? = some (1, 10, []) := by decide +kernel
theorem tt_56 : TT[56]? = some (1, 10, []) := by decide +kernel
theorem tt_57 : TT[57]? = some (2, 10, []) := by decide +kernel
theorem is5_53 : isX5 53 := ⟨tt_53, tt_54, tt_55, tt_56, tt_57⟩
theorem is8_47 : isX8 47 := ⟨tt_47, is9_48, is4_51, is5_53⟩
theorem tt_58 : TT[58]? = some (0, 8, [some 59, some 62, some 64]) := by decide +kernel
theorem tt_59 : TT[59]? = some (0, 9, [none, none, none, some 60, some 61]) := by decide +kernel
theorem tt_60 : TT[60]? = some (1, 7, []) := by decide +kernel
theorem tt_61 : TT[61]? = some (1, 7, []) := by decide +kernel
theorem is9_59 : isX9 59 := ⟨tt_59, tt_60, tt_61⟩
theorem tt_62 : TT[62]? = some (0, 4, [none, some 63]) := by decide +kernel
theorem tt_63 : TT[63]? = some (1, 7, []) := by decide +kernel
theorem is4_62 : isX4 62 := ⟨tt_62, tt_63⟩
theorem tt_64 : TT[64]? = some (0, 5, [none, some 65, some 66, some 67, some 68]) := by decide +kernel
theorem tt_65 : TT[65]? = some (1, 10, []) := by decide +kernel
theorem tt_66 : TT[66]? = some (1, 10, []) := by decide +kernel
theorem tt_67 : TT[67]? = some (1, 10, []) := by decide +kernel
theorem tt_68 : TT[68]? = some (2, 10, []) := by decide +kernel
theorem is5_64 : isX5 64 := ⟨tt_64, tt_65, tt_66, tt_67, tt_68⟩
theorem is8_58 : isX8 58 := ⟨tt_58, is9_59, is4_62, is5_64⟩
theorem tt_69 : TT[69]? = some (0, 8, [some 70, some 73, some 75]) := by decide +kernel
theorem tt_70 : TT[70]? = some (0, 9, [none, none, none, some 71, some 72]) := by decide +kernel
theorem tt_71 : TT[71]? = some (1, 7, []) := by decide +kernel
theorem tt_72 : TT[72]? = some (1, 7, []) := by decide +kernel
theorem is9_70 : isX9 70 := ⟨tt_70, tt_71, tt_72⟩
theorem tt_73 : TT[73]? = some (0, 4, [none, some 74]) := by decide +kernel
theorem tt_74 : TT[74]? = some (1, 7, []) := by decide +kernel
theorem is4_73 : isX4 73 := ⟨tt_73, tt_74⟩
theorem tt_75 : TT[75]? = some (0, 5, [none, some 76, some 77, some 78, some 79]) := by decide +kernel
theorem tt_76 : TT[76]? = some (1, 10, []) := by decide +kernel
theorem tt_77 : TT[77]? = some (1, 10, []) := by decide +kernel
theorem tt_78 : TT[78]? = some (1, 10, []) := by decide +kernel
theorem tt_79 : TT[79]? = some (2, 10, []) := by decide +kernel
theorem is5_75 : isX5 75 := ⟨tt_75, tt_76, tt_77, tt_78, tt_79⟩
theorem is8_69 : isX8 69 := ⟨tt_69, is9_70, is4_73, is5_75⟩
theorem tt_80 : TT[80]? = some (0, 8, [some 81, some 84, some 86]) := by decide +kernel
theorem tt_81 : TT[81]? = some (0, 9, [none, none, none, some 82, some 83]) := by decide +kernel
theorem tt_82 : TT[82]? = some (1, 7, []) := by decide +kernel
theorem tt_83 : TT[83]? = some (1, 7, []) := by decide +kernel
theorem is9_81 : isX9 81 := ⟨tt_81, tt_82, tt_83⟩
theorem tt_84 : TT[84]? = some (0, 4, [none, some 85]) := by decide +kernel
theorem tt_85 : TT[85]? = some (1, 7, []) := by decide +kernel
theorem is4_84 : isX4 84 := ⟨tt_84, tt_85⟩
theorem tt_86 : TT[86]? = some (0, 5, [none, some 87, some 88, some 89, some 90]) := by decide +kernel
theorem tt_87 : TT[87]? = some (1, 10, []) := by decide +kernel
theorem tt_88 : TT[88]? = some (1, 10, []) := by decide +kernel
theorem tt_89 : TT[89]? = some (1, 10, []) := by decide +kernel
theorem tt_90 : TT[90]? = some (2, 10, []) := by decide +kernel
theorem is5_86 : isX5 86 := ⟨tt_86, tt_87, tt_88, tt_89, tt_90⟩
theorem is8_80 : isX8 80 := ⟨tt_80, is9_81, is4_84, is5_86⟩
theorem tt_91 : TT[91]? = some (0, 8, [some 92, some 95, some 97]) := by decide +kernel
theorem tt_92 : TT[92]? = some (0, 9, [none, none, none, some 93, some 94]) := by decide +kernel
theorem tt_93 : TT[93]? = some (1, 7, []) := by decide +kernel
theorem tt_94 : TT[94]? = some (1, 7, []) := by decide +kernel
theorem is9_92 : isX9 92 := ⟨tt_92, tt_93, tt_94⟩
theorem tt_95 : TT[95]? = some (0, 4, [none, some 96]) := by decide +kernel
theorem tt_96 : TT[96]? = some (1, 7, []) := by decide +kernel
theorem is4_95 : isX4 95 := ⟨tt_95, tt_96⟩
theorem tt_97 : TT[97]? = some (0, 5, [none, some 98, some 99, some 100, some 101]) := by decide +kernel
theorem tt_98 : TT[98]? = some (1, 10, []) := by decide +kernel
theorem tt_99 : TT[99]? = some (1, 10, []) := by decide +kernel
theorem tt_100 : TT[100]? = some (1, 10, []) := by decide +kernel
theorem tt_101 : TT[101]? = some (2, 10, []) := by decide +kernel
theorem is5_97 : isX5 97 := ⟨tt_97, tt_98, tt_99, tt_100, tt_101⟩
theorem is8_91 : isX8 91 := ⟨tt_91, is9_92, is4_95, is5_97⟩
theorem tt_102 : TT[102]? = some (0, 8, [some 103, some 106, some 108]) := by decide +kernel
theorem tt_103 : TT[103]? = some (0, 9, [none, none, none, some 104, some 105]) := by decide +kernel
theorem tt_104 : TT[104]? = some (1, 7, []) := by decide +kernel
theorem tt_105 : TT[105]? = some (1, 7, []) := by decide +kernel
theorem is9_103 : isX9 103 := ⟨tt_103, tt_104, tt_105⟩
theorem tt_106 : TT[106]? = some (0, 4, [none, some 107]) := by decide +kernel
theorem tt_107 : TT[107]? = some (1, 7, []) := by decide +kernel
theorem is4_106 : isX4 106 := ⟨tt_106, tt_107⟩
theorem tt_108 : TT[108]? = some (0, 5, [none, some 109, some 110, some 111, some 112]) := by decide +kernel
theorem tt_109 : TT[109]? = some (1, 10, []) := by decide +kernel
theorem tt_110 : TT[110]? = some (1, 10, []) := by decide +kernel
theorem tt_111 : TT[111]? = some (1, 10, []) := by decide +kernel
theorem tt_112 : TT[112]? = some (2, 10, []) := by decide +kernel
theorem is5_108 : isX5 108 := ⟨tt_108, tt_109, tt_110, tt_111, tt_112⟩
theorem is8_102 : isX8 102 := ⟨tt_102, is9_103, is4_106, is5_108⟩
theorem tt_113 : TT[113]? = some (0, 8, [some 114, some 117, some 119]) := by decide +kernel
theorem tt_114 : TT[114]? = some (0, 9, [none, none, none, some 115, some 116]) := by decide +kernel
theorem tt_115 : TT[115]? = some (1, 7, []) := by decide +kernel
theorem tt_116 : TT[116]? = some (1, 7, []) := by decide +kernel
theorem is9_114 : isX9 114 := ⟨tt_114, tt_115, tt_116⟩
theorem tt_117 : TT[117]? = some (0, 4, [none, some 118]) := by decide +kernel
theorem tt_118 : TT[118]? = some (1, 7, []) := by decide +kernel
theorem is4_117 : isX4 117 := ⟨tt_117, tt_118⟩
theorem tt_119 : TT[119]? = some (0, 5, [none, some 120, some 121, some 122, some 123]) := by decide +kernel
theorem tt_120 : TT[120]? = some (1, 10, []) := by decide +kernel
theorem tt_121 : TT[121]? = some (1, 10, []) := by decide +kernel
theorem tt_122 : TT[122]? = some (1, 10, []) := by decide +kernel
theorem tt_123 : TT[123]? = some (2, 10, []) := by decide +kernel
theorem is5_119 : isX5 119 := ⟨tt_119, tt_120, tt_121, tt_122, tt_123⟩
theorem is8_113 : isX8 113 := ⟨tt_113, is9_114, is4_117, is5_119⟩
theorem gw_1567 : Cond.methodLink "FoldedArchiveLaw" 250 yL_isKept ∈ GW := GW_t7 83 rfl rfl
theorem gw_1568 : Cond.static yL_isKept ∈ GW := GW_t7 84 rfl rfl
theorem cs_L_250 : CS RL 250 yL_isKept cL_isKept 6 (some .boolean) 3 := ⟨gw_1567, gw_1568, gw_44, gw_1569, by decide +kernel, by decide +kernel⟩
theorem gw_699 : Cond.methodLink "FoldedArchiveLaw" 228 yL_over ∈ GW := GW_t3 175 rfl rfl
theorem gw_700 : Cond.static yL_over ∈ GW := GW_t3 176 rfl rfl
theorem cs_L_228 : CS RL 228 yL_over cL_over 3 (some .int) 1 := ⟨gw_699, gw_700, gw_44, gw_701, by decide +kernel, by decide +kernel⟩
theorem gw_703 : Cond.methodLink "FoldedArchiveLaw" 231 yL_does ∈ GW := GW_t3 179 rfl rfl
theorem gw_704 : Cond.static yL_does ∈ GW := GW_t3 180 rfl rfl
theorem cs_L_231 : CS RL 231 yL_does cL_does 11 (some .int) 7 := ⟨gw_703, gw_704, gw_44, gw_705, by decide +kernel, by decide +kernel⟩
theorem gw_685 : Cond.methodLink "FoldedArchiveLaw" 185 yL_denial ∈ GW := GW_t3 161 rfl rfl
theorem gw_686 : Cond.static yL_denial ∈ GW := GW_t3 162 rfl rfl
theorem ch_L_185 : CSH RL 185 yL_denial cL_denial 2 (some .int) [(0, 4, 5, 52)] 1 := ⟨gw_685, gw_686, gw_44, gw_687, by decide +kernel, by decide +kernel⟩
theorem gw_692 : Cond.methodLink "FoldedArchiveLaw" 187 yL_denialDetail ∈ GW := GW_t3 168 rfl rfl
theorem gw_693 : Cond.static yL_denialDetail ∈ GW := GW_t3 169 rfl rfl
theorem ch_L_187 : CSH RL 187 yL_denialDetail cL_denialDetail 2 (some .int) [(0, 4, 5, 52)] 1 := ⟨gw_692, gw_693, gw_44, gw_694, by decide +kernel, by decide +kernel⟩
theorem gw_1394 : Cond.methodLink "FoldedArchiveLaw" 246 yL_isWhole ∈ GW := GW_t6 150 rfl rfl
theorem gw_1395 : Cond.static yL_isWhole ∈ GW := GW_t6 151 rfl rfl
theorem cs_L_246 : CS RL 246 yL_isWhole cL_isWhole 13 (some .boolean) 4 := ⟨gw_1394, gw_1395, gw_44, gw_1396, by decide +kernel, by decide +kernel⟩
theorem gw_1059 : Cond.fieldLink "java/lang/String" 38 "java/lang/String" "COMPACT_STRINGS" "Z" ∈ GW := GW_t5 55 rfl rfl
theorem gw_1181 : Cond.fieldLink "java/lang/String" 15 "java/lang/String" "coder" "B" ∈ GW := GW_t5 177 rfl rfl
theorem gw_1180 : Cond.fieldLink "java/lang/String" 9 "java/lang/String" "value" "[B" ∈ GW := GW_t5 176 rfl rfl
theorem gw_1037 : Cond.fieldLink "java/lang/String" 1053 "jdk/internal/util/Preconditions" "SIOOBE_FORMATTER" "Ljava/util/function/BiFunction;" ∈ GW := GW_t5 33 rfl rfl
theorem gw_1055 : Cond.methodLink "java/lang/String" 335 yJ0_coder_7d493 ∈ GW := GW_t5 51 rfl rfl
theorem gw_1056 : Cond.instanceMethod yJ0_coder_7d493 ∈ GW := GW_t5 52 rfl rfl
theorem gw_1057 : Cond.selects yJ0_coder_7d493.cls yJ0_coder_7d493 yJ0_coder_7d493 ∈ GW := GW_t5 53 rfl rfl
theorem gw_1058 : Cond.code yJ0_coder_7d493 cJ0_coder_7d493 1 (some .byte) ∈ GW := GW_t5 54 rfl rfl
theorem cv_J0_335 : CV RJ0 335 yJ0_coder_7d493 cJ0_coder_7d493 1 (some .byte) 0 := ⟨gw_1055, gw_1056, gw_1057, gw_62, gw_1058, by decide +kernel, by decide +kernel⟩
theorem gw_1207 : Cond.methodLink "java/lang/String" 1059 yJ3_checkIndex_8e157 ∈ GW := GW_t5 203 rfl rfl
theorem gw_1208 : Cond.static yJ3_checkIndex_8e157 ∈ GW := GW_t5 204 rfl rfl
theorem gw_74 : Cond.initialized "jdk/internal/util/Preconditions" ∈ GW := GW_t1 30 rfl rfl
theorem gw_1209 : Cond.code yJ3_checkIndex_8e157 cJ3_checkIndex_8e157 3 (some .int) ∈ GW := GW_t5 205 rfl rfl
theorem cs_J0_1059 : CS RJ0 1059 yJ3_checkIndex_8e157 cJ3_checkIndex_8e157 3 (some .int) 3 := ⟨gw_1207, gw_1208, gw_74, gw_1209, by decide +kernel, by decide +kernel⟩
theorem gw_1230 : Cond.methodLink "java/lang/StringLatin1" 9 yJ0_checkIndex_df160 ∈ GW := GW_t5 226 rfl rfl
theorem gw_1205 : Cond.static yJ0_checkIndex_df160 ∈ GW := GW_t5 201 rfl rfl
theorem gw_1206 : Cond.code yJ0_checkIndex_df160 cJ0_checkIndex_df160 2 none ∈ GW := GW_t5 202 rfl rfl
theorem cs_J1_9 : CS RJ1 9 yJ0_checkIndex_df160 cJ0_checkIndex_df160 2 none 2 := ⟨gw_1230, gw_1205, gw_62, gw_1206, by decide +kernel, by decide +kernel⟩
theorem gw_1223 : Cond.methodLink "java/lang/String" 492 yJ0_isLatin1_aae02 ∈ GW := GW_t5 219 rfl rfl
theorem gw_1224 : Cond.instanceMethod yJ0_isLatin1_aae02 ∈ GW := GW_t5 220 rfl rfl
theorem gw_1225 : Cond.selects yJ0_isLatin1_aae02.cls yJ0_isLatin1_aae02 yJ0_isLatin1_aae02 ∈ GW := GW_t5 221 rfl rfl
theorem gw_1226 : Cond.code yJ0_isLatin1_aae02 cJ0_isLatin1_aae02 1 (some .boolean) ∈ GW := GW_t5 222 rfl rfl
theorem cv_J0_492 : CV RJ0 492 yJ0_isLatin1_aae02 cJ0_isLatin1_aae02 1 (some .boolean) 0 := ⟨gw_1223, gw_1224, gw_1225, gw_62, gw_1226, by decide +kernel, by decide +kernel⟩
theorem gw_1227 : Cond.methodLink "java/lang/String" 495 yJ1_charAt_3b067 ∈ GW := GW_t5 223 rfl rfl
theorem gw_1228 : Cond.static yJ1_charAt_3b067 ∈ GW := GW_t5 224 rfl rfl
theorem gw_75 : Cond.initialized "java/lang/StringLatin1" ∈ GW := GW_t1 31 rfl rfl
theorem gw_1229 : Cond.code yJ1_charAt_3b067 cJ1_charAt_3b067 2 (some .char) ∈ GW := GW_t5 225 rfl rfl
theorem cs_J0_495 : CS RJ0 495 yJ1_charAt_3b067 cJ1_charAt_3b067 2 (some .char) 2 := ⟨gw_1227, gw_1228, gw_75, gw_1229, by decide +kernel, by decide +kernel⟩
theorem stOK_is {t : Nat} (h : stOK t) : isX8 t := by
  rcases h with h | h | h | h | h | h | h | h <;> subst h
  · exact is8_36
  · exact is8_47
  · exact is8_58
  · exact is8_69
  · exact is8_80
  · exact is8_91
  · exact is8_102
  · exact is8_113
end
section
/-! String.length and charAt over the constants: a constant is its place in strTab -/
def strB (i : Nat) : List Int32 := (strTab.getD i ("", 0, "", [])).2.2.2
theorem strT_c {g : GC} {i : Nat} (h : i < 26) : strT g i = some (strB i) := by
  have hl : i < strTab.length := h
  unfold strT strB
  rw [if_neg (by omega), List.getD_eq_getElem?_getD, List.getElem?_eq_getElem hl]
  rfl
theorem strT_t {g : GC} (h : g.2.2.2.2.2.2.2.2.2.length ≤ 100) : strT g 26 = some g.2.2.2.2.2.2.2.2.2 := by
  unfold strT
  rw [if_pos rfl, if_pos h]
theorem strB_len : ∀ i, i < 26 → (strB i).length < 2 ^ 31 := by decide +kernel
theorem strT_len {g : GC} {i : Nat} {L : List Int32} (h : strT g i = some L) : L.length < 2 ^ 31 := by
  by_cases hi : i < 26
  · rw [strT_c hi] at h
    cases h
    exact strB_len i hi
  · by_cases h2 : i = 26
    · unfold strT at h
      rw [if_pos h2] at h
      split at h
      · cases h; omega
      · cases h
    · have hl : ¬ i < strTab.length := by show ¬ i < 26; exact hi
      unfold strT at h
      rw [if_neg h2, List.getElem?_eq_none (by omega)] at h
      cases h
section STRS
variable {ρ : Type} {g : GC} {cc : ByteArray} {nL : Nat} {own : String} {rt : Option FieldType} {hh : List (Nat × Nat × Nat × Nat)} {R : Room} {mc ms : Nat} {out : ρ → Out} {kc ks pc : Nat} {lv : List (Nat × Value)} {rest : List Value} {w : XW} {E E1 E2 : Option ρ}
theorem v_strV {i index : Nat} {L : List Int32} (hi : strT g i = some L) (hlink : Cond.fieldLink own index "java/lang/String" "value" "[B" ∈ GW) (hd : decode cc pc = .ok (.getfield index, 3)) (k : VE g cc nL own rt hh R mc ms out kc ks (pc + 3) lv (.ref (g.2.2.2.2.2.1 i) :: rest) w E) : VE g cc nL own rt hh R mc ms out kc ks pc lv (.ref (g.2.2.2.2.1 i) :: rest) w E := by
  intro r hr p e s m args below meth c F H locs ls hW hS hl
  obtain ⟨cf, kk, fi, f, cell, h1, h2, h3, h4, h5, h6⟩ := (F.2.2.2.2.2.2.2.1.2.2.2.2.1 i L hi).2.2.1.kept hS.2.1
  exact W.getf F.1 F.2.1 F.2.2.2.1 (F.2.2.2.2.1 _ hlink) h1 h2 h3 h4 h5 rfl rfl hd (k r hr p e s m args below meth c F H locs ls hW hS hl)
theorem v_strC {i index : Nat} {L : List Int32} (hi : strT g i = some L) (hlink : Cond.fieldLink own index "java/lang/String" "coder" "B" ∈ GW) (hd : decode cc pc = .ok (.getfield index, 3)) (k : VE g cc nL own rt hh R mc ms out kc ks (pc + 3) lv (.int 0 :: rest) w E) : VE g cc nL own rt hh R mc ms out kc ks pc lv (.ref (g.2.2.2.2.1 i) :: rest) w E := by
  intro r hr p e s m args below meth c F H locs ls hW hS hl
  obtain ⟨cf, kk, fi, f, cell, h1, h2, h3, h4, h5, h6⟩ := (F.2.2.2.2.2.2.2.1.2.2.2.2.1 i L hi).2.1.kept hS.2.1
  exact W.getf F.1 F.2.1 F.2.2.2.1 (F.2.2.2.2.1 _ hlink) h1 h2 h3 h4 h5 rfl rfl hd (k r hr p e s m args below meth c F H locs ls hW hS hl)
theorem v_strL {i : Nat} {L : List Int32} (hi : strT g i = some L) (hd : decode cc pc = .ok (.arraylength, 1)) (k : VE g cc nL own rt hh R mc ms out kc ks (pc + 1) lv (.int (Int32.ofNat (L).length) :: rest) w E) : VE g cc nL own rt hh R mc ms out kc ks pc lv (.ref (g.2.2.2.2.2.1 i) :: rest) w E := by
  intro r hr p e s m args below meth c F H locs ls hW hS hl
  obtain ⟨cell, h1, h2, h3, h4, h5, h6, h7⟩ := (F.2.2.2.2.2.2.2.1.2.2.2.2.1 i L hi).2.2.2.kept hS.2.1
  exact W.alen (n := Int32.ofNat L.length) F.1 F.2.1 h1 h2 h5 rfl rfl hd (k r hr p e s m args below meth c F H locs ls hW hS hl)
theorem v_strA {i : Nat} {j : Int32} {L : List Int32} (hi : strT g i = some L) (hin : vp_in j (L).length) (hd : decode cc pc = .ok (.baload, 1)) (k : VE g cc nL own rt hh R mc ms out kc ks (pc + 1) lv (.int ((L).getD j.toNatClampNeg 0) :: rest) w E) : VE g cc nL own rt hh R mc ms out kc ks pc lv (.int j :: .ref (g.2.2.2.2.2.1 i) :: rest) w E := by
  intro r hr p e s m args below meth c F H locs ls hW hS hl
  have hT := (F.2.2.2.2.2.2.2.1.2.2.2.2.1 i L hi).2.2.2.kept hS.2.1
  have k2 := k r hr p e s m args below meth c F H locs ls hW hS hl
  obtain ⟨cell, h1, h2, h3, h4, h5, h6, h7⟩ := hT
  have hlt : j.toNatClampNeg < L.length := Nat.not_le.mp fun q => hin (Or.inr q)
  have hin' : ¬ (j < 0 ∨ cell.slots.size ≤ j.toNatClampNeg) := by
    intro q
    rcases q with q | q
    · exact hin (Or.inl q)
    · omega
  exact W.bald F.1 F.2.1 h1 h2 h3 hin' (h6 _ hlt) rfl rfl hd k2
theorem v_compact {index : Nat} (hlink : Cond.fieldLink own index "java/lang/String" "COMPACT_STRINGS" "Z" ∈ GW) (hd : decode cc pc = .ok (.getstatic index, 3)) (k : VE g cc nL own rt hh R mc ms out kc ks (pc + 3) lv (.int 1 :: rest) w E) : VE g cc nL own rt hh R mc ms out kc ks pc lv rest w E := by
  intro r hr p e s m args below meth c F H locs ls hW hS hl
  exact va_gets F.1 F.2.1 F.2.2.2.2.2.2.2.1.2.2.1.1 hS.S F.2.2.2.1 (F.2.2.2.2.1 _ hlink) (fun _ h => h) hd (k r hr p e s m args below meth c F H locs ls hW hS hl)
theorem v_sioobe {index : Nat} (hlink : Cond.fieldLink own index "jdk/internal/util/Preconditions" "SIOOBE_FORMATTER" "Ljava/util/function/BiFunction;" ∈ GW) (hd : decode cc pc = .ok (.getstatic index, 3)) (k0 : VE g cc nL own rt hh R mc ms out kc ks (pc + 3) lv (.null :: rest) w E) (k1 : ∀ t : Nat, VE g cc nL own rt hh R mc ms out kc ks (pc + 3) lv (.ref t :: rest) w E) : VE g cc nL own rt hh R mc ms out kc ks pc lv rest w E := by
  intro r hr p e s m args below meth c F H locs ls hW hS hl
  rcases F.2.2.2.2.2.2.2.1.2.2.1.2 with h | ⟨t, h⟩
  · exact va_gets F.1 F.2.1 h hS.S F.2.2.2.1 (F.2.2.2.2.1 _ hlink) (fun _ h => h) hd (k0 r hr p e s m args below meth c F H locs ls hW hS hl)
  · exact va_gets F.1 F.2.1 h hS.S F.2.2.2.1 (F.2.2.2.2.1 _ hlink) (fun _ h => h) hd (k1 t r hr p e s m args below meth c F H locs ls hW hS hl)
theorem v_callStr {Fy : Option (Int32 × XW)} {K : Int32 → XW → Option ρ} {index nLy n mcy msy i : Nat} {y : MethodName} {cy : ByteArray} {ry : Option FieldType} {rm : Room} {As st : List Value} {L : List Int32} (hi : strT g i = some L) (hcls : y.cls = "java/lang/String")
    (hc : CV own index y cy nLy ry n) (hM : ∀ q, Fy = some q → MM g (.code y cy nLy ry) y rm mcy msy (.ref (g.2.2.2.2.1 i) :: As) w (oI q)) (hn : As.length = n) (hs : st = As.reverse ++ .ref (g.2.2.2.2.1 i) :: rest) (hst : (rest.map fun v => v.category).sum ≤ 8)
    (hd : decode cc pc = .ok (.invokevirtual index, 3)) (hR : CR R nLy mcy msy rm kc ks)
    (kk : ∀ x w', VE g cc nL own rt hh R mc ms out (kc + mcy) (ks + msy) (pc + 3) lv (.int x :: rest) w' (K x w')) : VE g cc nL own rt hh R mc ms out kc ks pc lv st w (bI Fy K) := by
  intro r hr p e s m args below meth c F H locs ls hW hS hl
  cases hF : Fy with
  | none => rw [hF] at hr; cases hr
  | some q =>
    rw [hF] at hr
    have hr' : K q.1 q.2 = some r := hr
    subst hs
    obtain ⟨cell, e1, e2, e3, -⟩ := ((F.2.2.2.2.2.2.2.1.kept hS.2.1).2.2.2.2.1 i L hi).1
    have hts := F.2.2.2.2.1
    obtain ⟨c1, c2, c3, c4, c5, c6, c7⟩ := hc
    refine v_run_aux (o := oI q) (vx_runV (Ts := GW) (nL := nL) (C := y.cls) (n := n) (bytes := cy) (maxL := nLy) (ret := ry) ⟨F.1, F.2.1, F.2.2.1, F.2.2.2.1, hts⟩ (hM q hF)
      ⟨⟨hR.1.1, hR.1.2.1, hR.1.2.2.1, hR.1.2.2.2, GW_pay c5 hts, List.mem_cons_self, hts _ c5, hts _ c4, c6, v_len c7, hts _ c1⟩, hts _ c2, hts _ c3⟩
      ⟨PO_blind, ⟨cell, e1, e2, by rw [hcls]; exact e3⟩, fun U hU hX => v_pre F hW hS hU hX⟩ rfl hn hl.1 rfl (by show 2 * 0 + _ ≤ 8; omega) hd hR.2) hS ?_ ?_
    · intro v w' ho H1 locs1 hW1 hS1
      cases ho
      exact kk q.1 q.2 r hr' p e s m args below meth c F H1 locs1 ls hW1 hS1 hl
    · intro E0 w' ho
      cases ho
end STRS
theorem dJ0_coder_7d493_0 : decode cJ0_coder_7d493 0 = .ok (.getstatic 38, 3) := by decide +kernel
theorem dJ0_coder_7d493_3 : decode cJ0_coder_7d493 3 = .ok (.ifCond .eq 10, 3) := by decide +kernel
theorem dJ0_coder_7d493_6 : decode cJ0_coder_7d493 6 = .ok (.aload_n 0, 1) := by decide +kernel
theorem dJ0_coder_7d493_7 : decode cJ0_coder_7d493 7 = .ok (.getfield 15, 3) := by decide +kernel
theorem dJ0_coder_7d493_10 : decode cJ0_coder_7d493 10 = .ok (.goto 4, 3) := by decide +kernel
theorem dJ0_coder_7d493_13 : decode cJ0_coder_7d493 13 = .ok (.iconst 1, 1) := by decide +kernel
theorem dJ0_coder_7d493_14 : decode cJ0_coder_7d493 14 = .ok (.ireturn, 1) := by decide +kernel
theorem dJ0_length_8abf5_0 : decode cJ0_length_8abf5 0 = .ok (.aload_n 0, 1) := by decide +kernel
theorem dJ0_length_8abf5_1 : decode cJ0_length_8abf5 1 = .ok (.getfield 9, 3) := by decide +kernel
theorem dJ0_length_8abf5_4 : decode cJ0_length_8abf5 4 = .ok (.arraylength, 1) := by decide +kernel
theorem dJ0_length_8abf5_5 : decode cJ0_length_8abf5 5 = .ok (.aload_n 0, 1) := by decide +kernel
theorem dJ0_length_8abf5_6 : decode cJ0_length_8abf5 6 = .ok (.invokevirtual 335, 3) := by decide +kernel
theorem dJ0_length_8abf5_9 : decode cJ0_length_8abf5 9 = .ok (.ishr, 1) := by decide +kernel
theorem dJ0_length_8abf5_10 : decode cJ0_length_8abf5 10 = .ok (.ireturn, 1) := by decide +kernel
theorem dJ0_isLatin1_aae02_0 : decode cJ0_isLatin1_aae02 0 = .ok (.getstatic 38, 3) := by decide +kernel
theorem dJ0_isLatin1_aae02_3 : decode cJ0_isLatin1_aae02 3 = .ok (.ifCond .eq 14, 3) := by decide +kernel
theorem dJ0_isLatin1_aae02_6 : decode cJ0_isLatin1_aae02 6 = .ok (.aload_n 0, 1) := by decide +kernel
theorem dJ0_isLatin1_aae02_7 : decode cJ0_isLatin1_aae02 7 = .ok (.getfield 15, 3) := by decide +kernel
theorem dJ0_isLatin1_aae02_10 : decode cJ0_isLatin1_aae02 10 = .ok (.ifCond .ne 7, 3) := by decide +kernel
theorem dJ0_isLatin1_aae02_13 : decode cJ0_isLatin1_aae02 13 = .ok (.iconst 1, 1) := by decide +kernel
theorem dJ0_isLatin1_aae02_14 : decode cJ0_isLatin1_aae02 14 = .ok (.goto 4, 3) := by decide +kernel
theorem dJ0_isLatin1_aae02_17 : decode cJ0_isLatin1_aae02 17 = .ok (.iconst 0, 1) := by decide +kernel
theorem dJ0_isLatin1_aae02_18 : decode cJ0_isLatin1_aae02 18 = .ok (.ireturn, 1) := by decide +kernel
theorem dJ0_checkIndex_df160_0 : decode cJ0_checkIndex_df160 0 = .ok (.iload_n 0, 1) := by decide +kernel
theorem dJ0_checkIndex_df160_1 : decode cJ0_checkIndex_df160 1 = .ok (.iload_n 1, 1) := by decide +kernel
theorem dJ0_checkIndex_df160_2 : decode cJ0_checkIndex_df160 2 = .ok (.getstatic 1053, 3) := by decide +kernel
theorem dJ0_checkIndex_df160_5 : decode cJ0_checkIndex_df160 5 = .ok (.invokestatic 1059, 3) := by decide +kernel
theorem dJ0_checkIndex_df160_8 : decode cJ0_checkIndex_df160 8 = .ok (.pop, 1) := by decide +kernel
theorem dJ0_checkIndex_df160_9 : decode cJ0_checkIndex_df160 9 = .ok (.return_, 1) := by decide +kernel
theorem dJ3_checkIndex_8e157_0 : decode cJ3_checkIndex_8e157 0 = .ok (.iload_n 0, 1) := by decide +kernel
theorem dJ3_checkIndex_8e157_1 : decode cJ3_checkIndex_8e157 1 = .ok (.ifCond .lt 8, 3) := by decide +kernel
theorem dJ3_checkIndex_8e157_4 : decode cJ3_checkIndex_8e157 4 = .ok (.iload_n 0, 1) := by decide +kernel
theorem dJ3_checkIndex_8e157_5 : decode cJ3_checkIndex_8e157 5 = .ok (.iload_n 1, 1) := by decide +kernel
theorem dJ3_checkIndex_8e157_6 : decode cJ3_checkIndex_8e157 6 = .ok (.if_icmp .lt 10, 3) := by decide +kernel
theorem dJ3_checkIndex_8e157_9 : decode cJ3_checkIndex_8e157 9 = .ok (.aload_n 2, 1) := by decide +kernel
theorem dJ3_checkIndex_8e157_10 : decode cJ3_checkIndex_8e157 10 = .ok (.iload_n 0, 1) := by decide +kernel
theorem dJ3_checkIndex_8e157_11 : decode cJ3_checkIndex_8e157 11 = .ok (.iload_n 1, 1) := by decide +kernel
theorem dJ3_checkIndex_8e157_12 : decode cJ3_checkIndex_8e157 12 = .ok (.invokestatic 95, 3) := by decide +kernel
theorem dJ3_checkIndex_8e157_15 : decode cJ3_checkIndex_8e157 15 = .ok (.athrow, 1) := by decide +kernel
theorem dJ3_checkIndex_8e157_16 : decode cJ3_checkIndex_8e157 16 = .ok (.iload_n 0, 1) := by decide +kernel
theorem dJ3_checkIndex_8e157_17 : decode cJ3_checkIndex_8e157 17 = .ok (.ireturn, 1) := by decide +kernel
theorem dJ1_charAt_3b067_0 : decode cJ1_charAt_3b067 0 = .ok (.iload_n 1, 1) := by decide +kernel
theorem dJ1_charAt_3b067_1 : decode cJ1_charAt_3b067 1 = .ok (.aload_n 0, 1) := by decide +kernel
theorem dJ1_charAt_3b067_2 : decode cJ1_charAt_3b067 2 = .ok (.arraylength, 1) := by decide +kernel
theorem dJ1_charAt_3b067_3 : decode cJ1_charAt_3b067 3 = .ok (.invokestatic 9, 3) := by decide +kernel
theorem dJ1_charAt_3b067_6 : decode cJ1_charAt_3b067 6 = .ok (.aload_n 0, 1) := by decide +kernel
theorem dJ1_charAt_3b067_7 : decode cJ1_charAt_3b067 7 = .ok (.iload_n 1, 1) := by decide +kernel
theorem dJ1_charAt_3b067_8 : decode cJ1_charAt_3b067 8 = .ok (.baload, 1) := by decide +kernel
theorem dJ1_charAt_3b067_9 : decode cJ1_charAt_3b067 9 = .ok (.sipush 255, 3) := by decide +kernel
theorem dJ1_charAt_3b067_12 : decode cJ1_charAt_3b067 12 = .ok (.iand, 1) := by decide +kernel
theorem dJ1_charAt_3b067_13 : decode cJ1_charAt_3b067 13 = .ok (.i2c, 1) := by decide +kernel
theorem dJ1_charAt_3b067_14 : decode cJ1_charAt_3b067 14 = .ok (.ireturn, 1) := by decide +kernel
theorem dJ0_charAt_5068e_0 : decode cJ0_charAt_5068e 0 = .ok (.aload_n 0, 1) := by decide +kernel
theorem dJ0_charAt_5068e_1 : decode cJ0_charAt_5068e 1 = .ok (.invokevirtual 492, 3) := by decide +kernel
theorem dJ0_charAt_5068e_4 : decode cJ0_charAt_5068e 4 = .ok (.ifCond .eq 12, 3) := by decide +kernel
theorem dJ0_charAt_5068e_7 : decode cJ0_charAt_5068e 7 = .ok (.aload_n 0, 1) := by decide +kernel
theorem dJ0_charAt_5068e_8 : decode cJ0_charAt_5068e 8 = .ok (.getfield 9, 3) := by decide +kernel
theorem dJ0_charAt_5068e_11 : decode cJ0_charAt_5068e 11 = .ok (.iload_n 1, 1) := by decide +kernel
theorem dJ0_charAt_5068e_12 : decode cJ0_charAt_5068e 12 = .ok (.invokestatic 495, 3) := by decide +kernel
theorem dJ0_charAt_5068e_15 : decode cJ0_charAt_5068e 15 = .ok (.ireturn, 1) := by decide +kernel
theorem dJ0_charAt_5068e_16 : decode cJ0_charAt_5068e 16 = .ok (.aload_n 0, 1) := by decide +kernel
theorem dJ0_charAt_5068e_17 : decode cJ0_charAt_5068e 17 = .ok (.getfield 9, 3) := by decide +kernel
theorem dJ0_charAt_5068e_20 : decode cJ0_charAt_5068e 20 = .ok (.iload_n 1, 1) := by decide +kernel
theorem dJ0_charAt_5068e_21 : decode cJ0_charAt_5068e 21 = .ok (.invokestatic 498, 3) := by decide +kernel
theorem dJ0_charAt_5068e_24 : decode cJ0_charAt_5068e 24 = .ok (.ireturn, 1) := by decide +kernel
theorem S_coder {g : GC} (hl : g.1.stackTraces = false) {i : Nat} {L : List Int32} (hi : strT g i = some L) {w : XW} : ∀ q, (some ((0 : Int32), w)) = some q → MM g (.code yJ0_coder_7d493 cJ0_coder_7d493 1 (some .byte)) yJ0_coder_7d493 (rmL 1 0 0) 0 0 [.ref (g.2.2.2.2.1 i)] w (oI q) := by
  intro q hq
  refine MM_of (own := RJ0) hl (by decide) gw_1058 rfl (Nat.le_of_ble_eq_true rfl) ((?_ : VE g cJ0_coder_7d493 1 RJ0 (some .byte) [] (rmL 1 0 0) 0 0 oI 0 0 0 [(0, .ref (g.2.2.2.2.1 i))] [] w (some ((0 : Int32), w))) q hq) ⟨rfl, rfl⟩
  refine v_compact gw_1059 dJ0_coder_7d493_0 ?_
  refine v_if_eqF (tgt := 13) dJ0_coder_7d493_3 (by decide) (by decide) ?_
  refine v_aload_n dJ0_coder_7d493_6 rfl 0 rfl ?_
  refine v_strC hi gw_1181 dJ0_coder_7d493_7 ?_
  refine v_goto (tgt := 14) dJ0_coder_7d493_10 (by decide) ?_
  exact v_zret dJ0_coder_7d493_14 rfl rfl rfl (by decide) (by decide)
theorem S_isLatin1 {g : GC} (hl : g.1.stackTraces = false) {i : Nat} {L : List Int32} (hi : strT g i = some L) {w : XW} : ∀ q, (some ((1 : Int32), w)) = some q → MM g (.code yJ0_isLatin1_aae02 cJ0_isLatin1_aae02 1 (some .boolean)) yJ0_isLatin1_aae02 (rmL 1 0 0) 0 0 [.ref (g.2.2.2.2.1 i)] w (oI q) := by
  intro q hq
  refine MM_of (own := RJ0) hl (by decide) gw_1226 rfl (Nat.le_of_ble_eq_true rfl) ((?_ : VE g cJ0_isLatin1_aae02 1 RJ0 (some .boolean) [] (rmL 1 0 0) 0 0 oI 0 0 0 [(0, .ref (g.2.2.2.2.1 i))] [] w (some ((1 : Int32), w))) q hq) ⟨rfl, rfl⟩
  refine v_compact gw_1059 dJ0_isLatin1_aae02_0 ?_
  refine v_if_eqF (tgt := 17) dJ0_isLatin1_aae02_3 (by decide) (by decide) ?_
  refine v_aload_n dJ0_isLatin1_aae02_6 rfl 0 rfl ?_
  refine v_strC hi gw_1181 dJ0_isLatin1_aae02_7 ?_
  refine v_if_neF (tgt := 17) dJ0_isLatin1_aae02_10 (by decide) rfl ?_
  refine v_iconst (v := 1) dJ0_isLatin1_aae02_13 (by decide) ?_
  refine v_goto (tgt := 18) dJ0_isLatin1_aae02_14 (by decide) ?_
  exact v_zret dJ0_isLatin1_aae02_18 rfl rfl rfl (by decide) (by decide)
def f_strlen (i : Nat) (w : XW) : Option (Int32 × XW) := if i < 26 then some ((Int32.ofNat (strB i).length >>> (0 &&& 31)), w) else none
def f_tlen (L : List Int32) (w : XW) : Option (Int32 × XW) := if L.length ≤ 100 then some ((Int32.ofNat L.length >>> (0 &&& 31)), w) else none
theorem S_strlen {g : GC} (hl : g.1.stackTraces = false) {i : Nat} {L : List Int32} (hi : strT g i = some L) {w : XW} : ∀ q, (some ((Int32.ofNat L.length >>> (0 &&& 31)), w)) = some q → MM g (.code yJ0_length_8abf5 cJ0_length_8abf5 1 (some .int)) yJ0_length_8abf5 (rmL 2 0 0) 0 0 [.ref (g.2.2.2.2.1 i)] w (oI q) := by
  intro q hq
  refine MM_of (own := RJ0) hl (by decide) gw_1054 rfl (Nat.le_of_ble_eq_true rfl) ((?_ : VE g cJ0_length_8abf5 1 RJ0 (some .int) [] (rmL 2 0 0) 0 0 oI 0 0 0 [(0, .ref (g.2.2.2.2.1 i))] [] w (bI (some ((0 : Int32), w)) (fun x w1 => some ((Int32.ofNat (L).length >>> (x &&& 31)), w1)))) q hq) ⟨rfl, rfl⟩
  refine v_aload_n dJ0_length_8abf5_0 rfl 0 rfl ?_
  refine v_strV hi gw_1180 dJ0_length_8abf5_1 ?_
  refine v_strL hi dJ0_length_8abf5_4 ?_
  refine v_aload_n dJ0_length_8abf5_5 rfl 0 rfl ?_
  refine v_callStr (As := []) hi rfl cv_J0_335 (S_coder hl hi) rfl rfl (Nat.le_of_ble_eq_true rfl) dJ0_length_8abf5_6 (CR_rm (by decide) (by decide) (by decide) (by decide)) (fun x w1 => ?_)
  refine v_ishr dJ0_length_8abf5_9 ?_
  exact v_iret dJ0_length_8abf5_10 rfl rfl (by decide) (by decide)
theorem S_check3 {g : GC} (hl : g.1.stackTraces = false) {x y : Int32} {v : Value} (hv : v = .null ∨ ∃ t, v = .ref t) (h0 : ¬ x < 0) (h1 : x < y) {w : XW} : ∀ q, (some (x, w)) = some q → MM g (.code yJ3_checkIndex_8e157 cJ3_checkIndex_8e157 3 (some .int)) yJ3_checkIndex_8e157 (rmL 1 0 0) 0 0 [.int x, .int y, v] w (oI q) := by
  intro q hq
  have body : VE g cJ3_checkIndex_8e157 3 RJ3 (some .int) [] (rmL 1 0 0) 0 0 oI 0 0 0 [(0, .int x), (1, .int y), (2, v)] [] w (some (x, w)) := by
    refine v_iload_n dJ3_checkIndex_8e157_0 rfl 0 rfl ?_
    refine v_if_ltF (tgt := 9) dJ3_checkIndex_8e157_1 (by decide) h0 ?_
    refine v_iload_n dJ3_checkIndex_8e157_4 rfl 0 rfl ?_
    refine v_iload_n dJ3_checkIndex_8e157_5 rfl 1 rfl ?_
    refine v_icmp_ltT (tgt := 16) dJ3_checkIndex_8e157_6 (by decide) h1 ?_
    refine v_iload_n dJ3_checkIndex_8e157_16 rfl 0 rfl ?_
    exact v_iret dJ3_checkIndex_8e157_17 rfl rfl (by decide) (by decide)
  rcases hv with rfl | ⟨t, rfl⟩
  · exact MM_of (own := RJ3) hl (by decide) gw_1209 rfl (Nat.le_of_ble_eq_true rfl) (body q hq) ⟨rfl, rfl⟩
  · exact MM_of (own := RJ3) hl (by decide) gw_1209 rfl (Nat.le_of_ble_eq_true rfl) (body q hq) ⟨rfl, rfl⟩
theorem S_check0 {g : GC} (hl : g.1.stackTraces = false) {x y : Int32} (h0 : ¬ x < 0) (h1 : x < y) {w : XW} : ∀ q, (some w) = some q → MM g (.code yJ0_checkIndex_df160 cJ0_checkIndex_df160 2 none) yJ0_checkIndex_df160 (rmL 2 0 0) 0 0 [.int x, .int y] w (oV q) := by
  intro q hq
  refine MM_of (own := RJ0) hl (by decide) gw_1206 rfl (Nat.le_of_ble_eq_true rfl) ((?_ : VE g cJ0_checkIndex_df160 2 RJ0 none [] (rmL 2 0 0) 0 0 oV 0 0 0 [(0, .int x), (1, .int y)] [] w (bI (some (x, w)) (fun _ w1 => some w1))) q hq) ⟨rfl, rfl⟩
  refine v_iload_n dJ0_checkIndex_df160_0 rfl 0 rfl ?_
  refine v_iload_n dJ0_checkIndex_df160_1 rfl 1 rfl ?_
  refine v_sioobe gw_1037 dJ0_checkIndex_df160_2 ?_ (fun t => ?_)
  · refine v_callSi (As := [.int x, .int y, .null]) cs_J0_1059 (S_check3 hl (Or.inl rfl) h0 h1) rfl rfl (Nat.le_of_ble_eq_true rfl) dJ0_checkIndex_df160_5 (CR_rm (by decide) (by decide) (by decide) (by decide)) (fun z w1 => ?_)
    refine v_pop dJ0_checkIndex_df160_8 rfl ?_
    exact v_vret dJ0_checkIndex_df160_9 rfl rfl (by decide) (by decide)
  · refine v_callSi (As := [.int x, .int y, .ref t]) cs_J0_1059 (S_check3 hl (Or.inr ⟨t, rfl⟩) h0 h1) rfl rfl (Nat.le_of_ble_eq_true rfl) dJ0_checkIndex_df160_5 (CR_rm (by decide) (by decide) (by decide) (by decide)) (fun z w1 => ?_)
    refine v_pop dJ0_checkIndex_df160_8 rfl ?_
    exact v_vret dJ0_checkIndex_df160_9 rfl rfl (by decide) (by decide)
def f_charAt (i : Nat) (x : Int32) (w : XW) : Option (Int32 × XW) := if i < 26 ∧ (¬ x < 0 ∧ x < Int32.ofNat (strB i).length) then some (((((strB i).getD x.toNatClampNeg 0) &&& 255).toUInt32 % 65536).toInt32, w) else none
def f_tchar (L : List Int32) (x : Int32) (w : XW) : Option (Int32 × XW) := if L.length ≤ 100 ∧ (¬ x < 0 ∧ x < Int32.ofNat L.length) then some ((((L.getD x.toNatClampNeg 0) &&& 255).toUInt32 % 65536).toInt32, w) else none
theorem strB_in {L : List Int32} {x : Int32} (hlen : L.length < 2 ^ 31) (h0 : ¬ x < 0) (h1 : x < Int32.ofNat L.length) : vp_in x L.length := by
  rcases pk_ix x hlen with h | h | ⟨j, hj, rfl⟩
  · exact absurd h h0
  · exact absurd h1 (Int32.not_lt.mpr h)
  · exact vp_in_nI hj hlen
theorem S_charAt1 {g : GC} (hl : g.1.stackTraces = false) {i : Nat} {x : Int32} {L : List Int32} (hi : strT g i = some L) (h0 : ¬ x < 0) (h1 : x < Int32.ofNat L.length) {w : XW} : ∀ q, (some ((((L.getD x.toNatClampNeg 0) &&& 255).toUInt32 % 65536).toInt32, w)) = some q → MM g (.code yJ1_charAt_3b067 cJ1_charAt_3b067 2 (some .char)) yJ1_charAt_3b067 (rmL 3 0 0) 0 0 [.ref (g.2.2.2.2.2.1 i), .int x] w (oI q) := by
  intro q hq
  refine MM_of (own := RJ1) hl (by decide) gw_1229 rfl (Nat.le_of_ble_eq_true rfl) ((?_ : VE g cJ1_charAt_3b067 2 RJ1 (some .char) [] (rmL 3 0 0) 0 0 oI 0 0 0 [(0, .ref (g.2.2.2.2.2.1 i)), (1, .int x)] [] w (bV (some w) (fun w1 => some ((((L.getD x.toNatClampNeg 0) &&& 255).toUInt32 % 65536).toInt32, w1)))) q hq) ⟨rfl, rfl⟩
  refine v_iload_n dJ1_charAt_3b067_0 rfl 1 rfl ?_
  refine v_aload_n dJ1_charAt_3b067_1 rfl 0 rfl ?_
  refine v_strL hi dJ1_charAt_3b067_2 ?_
  refine v_callSv (As := [.int x, .int (Int32.ofNat L.length)]) cs_J1_9 (S_check0 hl h0 h1) rfl rfl (Nat.le_of_ble_eq_true rfl) dJ1_charAt_3b067_3 (CR_rm (by decide) (by decide) (by decide) (by decide)) (fun w1 => ?_)
  refine v_aload_n dJ1_charAt_3b067_6 rfl 0 rfl ?_
  refine v_iload_n dJ1_charAt_3b067_7 rfl 1 rfl ?_
  refine v_strA hi (strB_in (strT_len hi) h0 h1) dJ1_charAt_3b067_8 ?_
  refine v_sipush (v := 255) dJ1_charAt_3b067_9 (by decide) ?_
  refine v_iand dJ1_charAt_3b067_12 ?_
  refine v_i2c dJ1_charAt_3b067_13 ?_
  exact v_zret dJ1_charAt_3b067_14 rfl (narC_ok (pk_vc _)) rfl (by decide) (by decide)
theorem S_charAt {g : GC} (hl : g.1.stackTraces = false) {i : Nat} {x : Int32} {L : List Int32} (hi : strT g i = some L) (h0 : ¬ x < 0) (h1 : x < Int32.ofNat L.length) {w : XW} : ∀ q, (some ((((L.getD x.toNatClampNeg 0) &&& 255).toUInt32 % 65536).toInt32, w)) = some q → MM g (.code yJ0_charAt_5068e cJ0_charAt_5068e 2 (some .char)) yJ0_charAt_5068e (rmL 4 0 0) 0 0 [.ref (g.2.2.2.2.1 i), .int x] w (oI q) := by
  intro q hq
  refine MM_of (own := RJ0) hl (by decide) gw_1222 rfl (Nat.le_of_ble_eq_true rfl) ((?_ : VE g cJ0_charAt_5068e 2 RJ0 (some .char) [] (rmL 4 0 0) 0 0 oI 0 0 0 [(0, .ref (g.2.2.2.2.1 i)), (1, .int x)] [] w (bI (some ((1 : Int32), w)) (fun x1 w1 => if x1 = 0 then none else bI (some ((((L.getD x.toNatClampNeg 0) &&& 255).toUInt32 % 65536).toInt32, w1)) (fun x2 w2 => if vp_nar .char x2 = x2 then some (x2, w2) else none)))) q ?_) ⟨rfl, rfl⟩
  · refine v_aload_n dJ0_charAt_5068e_0 rfl 0 rfl ?_
    refine v_callStr (As := []) hi rfl cv_J0_492 (S_isLatin1 hl hi) rfl rfl (Nat.le_of_ble_eq_true rfl) dJ0_charAt_5068e_1 (CR_rm (by decide) (by decide) (by decide) (by decide)) (fun x1 w1 => ?_)
    refine v_if_eq (tgt := 16) dJ0_charAt_5068e_4 (by decide) v_none ?_
    refine v_aload_n dJ0_charAt_5068e_7 rfl 0 rfl ?_
    refine v_strV hi gw_1180 dJ0_charAt_5068e_8 ?_
    refine v_iload_n dJ0_charAt_5068e_11 rfl 1 rfl ?_
    refine v_callSi (As := [.ref (g.2.2.2.2.2.1 i), .int x]) cs_J0_495 (S_charAt1 hl hi h0 h1) rfl rfl (Nat.le_of_ble_eq_true rfl) dJ0_charAt_5068e_12 (CR_rm (by decide) (by decide) (by decide) (by decide)) (fun x2 w2 => ?_)
    refine v_guard (fun h => ?_)
    exact v_zret dJ0_charAt_5068e_15 rfl (narC_ok h) rfl (by decide) (by decide)
  · show (if (1 : Int32) = 0 then none else if vp_nar .char ((((L.getD x.toNatClampNeg 0) &&& 255).toUInt32 % 65536).toInt32) = ((((L.getD x.toNatClampNeg 0) &&& 255).toUInt32 % 65536).toInt32) then some (((((L.getD x.toNatClampNeg 0) &&& 255).toUInt32 % 65536).toInt32), w) else none) = some q
    rw [if_neg (by decide), if_pos (pk_vc _)]
    exact hq
section STRC
variable {ρ : Type} {g : GC} {cc : ByteArray} {nL : Nat} {own : String} {rt : Option FieldType} {hh : List (Nat × Nat × Nat × Nat)} {R : Room} {mc ms : Nat} {out : ρ → Out} {kc ks pc : Nat} {lv : List (Nat × Value)} {rest st : List Value} {w : XW}
theorem v_call_length {K : Int32 → XW → Option ρ} {i index : Nat} (hl : g.1.stackTraces = false) (hc : CV own index yJ0_length_8abf5 cJ0_length_8abf5 1 (some .int) 0) (hs : st = .ref (g.2.2.2.2.1 i) :: rest) (hst : (rest.map fun v => v.category).sum ≤ 8) (hd : decode cc pc = .ok (.invokevirtual index, 3)) (hR : CR R 1 0 0 (rmL 2 0 0) kc ks)
    (kk : ∀ x w', VE g cc nL own rt hh R mc ms out (kc + 0) (ks + 0) (pc + 3) lv (.int x :: rest) w' (K x w')) : VE g cc nL own rt hh R mc ms out kc ks pc lv st w (bI (f_strlen i w) K) := by
  by_cases hi : i < 26
  · have e : f_strlen i w = some ((Int32.ofNat (strB i).length >>> (0 &&& 31)), w) := if_pos hi
    rw [e]
    exact v_callStr (As := []) (strT_c hi) rfl hc (S_strlen hl (strT_c hi)) rfl hs hst hd hR kk
  · intro r hr
    unfold f_strlen at hr
    rw [if_neg hi] at hr
    cases hr
theorem v_call_charAt {K : Int32 → XW → Option ρ} {i index : Nat} {x : Int32} (hl : g.1.stackTraces = false) (hc : CV own index yJ0_charAt_5068e cJ0_charAt_5068e 2 (some .char) 1) (hs : st = .int x :: .ref (g.2.2.2.2.1 i) :: rest) (hst : (rest.map fun v => v.category).sum ≤ 8) (hd : decode cc pc = .ok (.invokevirtual index, 3)) (hR : CR R 2 0 0 (rmL 4 0 0) kc ks)
    (kk : ∀ x w', VE g cc nL own rt hh R mc ms out (kc + 0) (ks + 0) (pc + 3) lv (.int x :: rest) w' (K x w')) : VE g cc nL own rt hh R mc ms out kc ks pc lv st w (bI (f_charAt i x w) K) := by
  by_cases hi : i < 26 ∧ (¬ x < 0 ∧ x < Int32.ofNat (strB i).length)
  · have e : f_charAt i x w = some (((((strB i).getD x.toNatClampNeg 0) &&& 255).toUInt32 % 65536).toInt32, w) := if_pos hi
    rw [e]
    exact v_callStr (As := [.int x]) (strT_c hi.1) rfl hc (S_charAt hl (strT_c hi.1) hi.2.1 hi.2.2) rfl hs hst hd hR kk
  · intro r hr
    unfold f_charAt at hr
    rw [if_neg hi] at hr
    cases hr
theorem v_call_lengthT {K : Int32 → XW → Option ρ} {index : Nat} (hl : g.1.stackTraces = false) (hc : CV own index yJ0_length_8abf5 cJ0_length_8abf5 1 (some .int) 0) (hs : st = .ref (g.2.2.2.2.1 26) :: rest) (hst : (rest.map fun v => v.category).sum ≤ 8) (hd : decode cc pc = .ok (.invokevirtual index, 3)) (hR : CR R 1 0 0 (rmL 2 0 0) kc ks)
    (kk : ∀ x w', VE g cc nL own rt hh R mc ms out (kc + 0) (ks + 0) (pc + 3) lv (.int x :: rest) w' (K x w')) : VE g cc nL own rt hh R mc ms out kc ks pc lv st w (bI (f_tlen g.2.2.2.2.2.2.2.2.2 w) K) := by
  by_cases hi : g.2.2.2.2.2.2.2.2.2.length ≤ 100
  · have e : f_tlen g.2.2.2.2.2.2.2.2.2 w = some ((Int32.ofNat g.2.2.2.2.2.2.2.2.2.length >>> (0 &&& 31)), w) := if_pos hi
    rw [e]
    exact v_callStr (As := []) (strT_t hi) rfl hc (S_strlen hl (strT_t hi)) rfl hs hst hd hR kk
  · intro r hr
    unfold f_tlen at hr
    rw [if_neg hi] at hr
    cases hr
theorem v_call_charAtT {K : Int32 → XW → Option ρ} {index : Nat} {x : Int32} (hl : g.1.stackTraces = false) (hc : CV own index yJ0_charAt_5068e cJ0_charAt_5068e 2 (some .char) 1) (hs : st = .int x :: .ref (g.2.2.2.2.1 26) :: rest) (hst : (rest.map fun v => v.category).sum ≤ 8) (hd : decode cc pc = .ok (.invokevirtual index, 3)) (hR : CR R 2 0 0 (rmL 4 0 0) kc ks)
    (kk : ∀ x w', VE g cc nL own rt hh R mc ms out (kc + 0) (ks + 0) (pc + 3) lv (.int x :: rest) w' (K x w')) : VE g cc nL own rt hh R mc ms out kc ks pc lv st w (bI (f_tchar g.2.2.2.2.2.2.2.2.2 x w) K) := by
  by_cases hi : g.2.2.2.2.2.2.2.2.2.length ≤ 100 ∧ (¬ x < 0 ∧ x < Int32.ofNat g.2.2.2.2.2.2.2.2.2.length)
  · have e : f_tchar g.2.2.2.2.2.2.2.2.2 x w = some ((((g.2.2.2.2.2.2.2.2.2.getD x.toNatClampNeg 0) &&& 255).toUInt32 % 65536).toInt32, w) := if_pos hi
    rw [e]
    exact v_callStr (As := [.int x]) (strT_t hi.1) rfl hc (S_charAt hl (strT_t hi.1) hi.2.1 hi.2.2) rfl hs hst hd hR kk
  · intro r hr
    unfold f_tchar at hr
    rw [if_neg hi] at hr
    cases hr
end STRC
end
section
/-! Texts that the law makes: the JDK's methods behind them, each by contract over a world of its own: a list of cells with their addresses -/
def GW_in (ws : List Cond) (h : ws.all (fun w => decide (w ∈ lw_tbl) && goodWord w) = true) : ∀ w ∈ ws, w ∈ GW := fun w hw => by
  have h2 := List.all_eq_true.mp h w hw
  simp only [Bool.and_eq_true, decide_eq_true_eq] at h2
  exact List.mem_filter.mpr ⟨List.mem_append_left _ h2.1, h2.2⟩
/-- a String outside the frame: its place, its bytes' place, its letters -/
def StrA (A : Nat → Prop) (x : Nat × Nat × List Int32) (U : State) (H : Heap) : Prop := va_O "java/lang/String" x.1 A U H ∧ va_OF "java/lang/String" "coder" "B" (.int 0) x.1 A U H ∧ va_OF "java/lang/String" "value" "[B" (.ref x.2.1) x.1 A U H ∧ va_T .byte x.2.1 x.2.2.length (fun j => .int (x.2.2.getD j 0)) A U H
/-- where Integer's two tables of digits lie -/
def DGd (d : Nat × Nat) (A : Nat → Prop) (U : State) (H : Heap) : Prop := (va_Z "java/lang/Integer" "DigitOnes" "[B" (.ref d.1) A U H ∧ va_T .byte d.1 100 (fun r => .int (Int32.ofNat (48 + r % 10))) A U H) ∧ va_Z "java/lang/Integer" "DigitTens" "[B" (.ref d.2) A U H ∧ va_T .byte d.2 100 (fun r => .int (Int32.ofNat (48 + r / 10))) A U H
/-- a String that is read; Integer's tables -/
abbrev SX : Type := Option (Nat × Nat × List Int32) × Nat × Nat
/-- what the JDK's methods read outside their world -/
def JFs (A : Nat → Prop) (sx : SX) (U : State) (H : Heap) : Prop := va_Z "java/lang/String" "COMPACT_STRINGS" "Z" (.int 1) A U H ∧ DGd sx.2 A U H ∧ (∀ x, sx.1 = some x → StrA A x U H) ∧ (Cond.castable "[B" "java/lang/Cloneable").before #[] U = true
theorem StrA.moved {A : Nat → Prop} {x : Nat × Nat × List Int32} {u U : State} {H : Heap} (hvm : u.vm.Alike U.vm) (h : StrA A x u H) : StrA A x U H := ⟨h.1.moved hvm, h.2.1.moved hvm, h.2.2.1.moved hvm, h.2.2.2.moved hvm⟩
theorem StrA.kept {A : Nat → Prop} {x : Nat × Nat × List Int32} {U : State} {H H1 : Heap} (h : StrA A x U H) (hq : ∀ a : Nat, a < H.size → ¬ A a → H1[a]? = H[a]?) : StrA A x U H1 := ⟨h.1.kept hq, h.2.1.kept hq, h.2.2.1.kept hq, h.2.2.2.kept hq⟩
theorem JFs.moved {A : Nat → Prop} {sx : SX} {u U : State} {H : Heap} (hvm : u.vm.Alike U.vm) (h : JFs A sx u H) : JFs A sx U H := ⟨h.1.moved hvm, ⟨⟨h.2.1.1.1.moved hvm, h.2.1.1.2.moved hvm⟩, h.2.1.2.1.moved hvm, h.2.1.2.2.moved hvm⟩, fun x hx => (h.2.2.1 x hx).moved hvm, ng_castable (u := u) (U := U) hvm h.2.2.2⟩
theorem JFs.kept {A : Nat → Prop} {sx : SX} {U : State} {H H1 : Heap} (h : JFs A sx U H) (hq : ∀ a : Nat, a < H.size → ¬ A a → H1[a]? = H[a]?) : JFs A sx U H1 := ⟨h.1.kept hq, ⟨⟨h.2.1.1.1.kept hq, h.2.1.1.2.kept hq⟩, h.2.1.2.1.kept hq, h.2.1.2.2.kept hq⟩, fun x hx => (h.2.2.1 x hx).kept hq, h.2.2.2⟩
def PU (g : GC) (A : Nat → Prop) (sx : SX) (av : List Value) (ws : va_W) : Array Value → State → Prop := fun v U => v = av.toArray ∧ (∀ q : Nat, U.heap.size ≤ q → A q) ∧ va_P g.2.2.2.1 vwCl ws U.heap ∧ va_D A ws ∧ va_K g.2.2.2.1 vwCl (tysL g) U ∧ JFs A sx U U.heap
def QU (g : GC) (A : Nat → Prop) (P : Option Value → va_W → Prop) : Array Value → State → Outcome → State → Prop := fun _ st oc t => ∃ v ws', P v ws' ∧ oc = .returned v ∧ va_P g.2.2.2.1 vwCl ws' t.heap ∧ va_D A ws' ∧ va_F A st t
def JM (g : GC) (A : Nat → Prop) (sx : SX) (hd : Cond) (y : MethodName) (rm : Room) (mc ms : Nat) (av : List Value) (ws : va_W) (P : Option Value → va_W → Prop) : Prop := Met g.1 y (hd :: GW) rm (PU g A sx av ws) (QU g A P) mc ms A
theorem PU_blind {g : GC} {A : Nat → Prop} {sx : SX} {av : List Value} {ws : va_W} : FrameBlind (PU g A sx av ws) := fun a U f mk q => ⟨q.1, q.2.1, q.2.2.1, q.2.2.2.1, va_K.moved (u := U) (U := U.calling f mk a) (Vm.Alike.refl U.vm) q.2.2.2.2.1, JFs.moved (u := U) (U := U.calling f mk a) (Vm.Alike.refl U.vm) q.2.2.2.2.2⟩
def FU (g : GC) (A : Nat → Prop) (sx : SX) (cc : ByteArray) (nL : Nat) (own : String) (rt : Option FieldType) (ini : Bool) (p : Program) (s : State) (m : MethodId) (args : Array Value) (meth : Method) (c : Code) : Prop :=
  p.tables.exec = Jvm.exec ∧ c.code = cc ∧ c.maxLocals = nL ∧ s.vm.findClass own = some m.cls ∧ (∀ w ∈ GW, w.before args s = true) ∧ va_K g.2.2.2.1 vwCl (tysL g) s ∧ (∀ q : Nat, s.heap.size ≤ q → A q) ∧ JFs A sx s s.heap ∧ meth.locks = false ∧ meth.sig.returnType = rt ∧ (ini = true → meth.name = "<init>")
def VU (g : GC) (A : Nat → Prop) (sx : SX) (cc : ByteArray) (nL : Nat) (own : String) (rt : Option FieldType) (ini : Bool) (R : Room) (P : Option Value → va_W → Prop) (mc ms : Nat) (kc ks pc : Nat) (lv : List (Nat × Value)) (st : List Value) (ws : va_W) : Prop :=
  ∀ (p : Program) (e : Env) (s : State) (m : MethodId) (args : Array Value) (below : List Frame) (meth : Method) (c : Code), FU g A sx cc nL own rt ini p s m args meth c →
    ∀ (H : Heap) (locs : List Loc) (ls : Array Slot), va_P g.2.2.2.1 vwCl ws H → va_D A ws → va_S A s.heap H locs → lv_has ls nL lv →
      W p g.1 e R s m args below meth c H locs kc ks (MQ below (QU g A P) args s mc ms A) (F0 m pc ls st)
section JROWS
variable {g : GC} {A : Nat → Prop} {sx : SX} {cc : ByteArray} {nL : Nat} {own : String} {rt : Option FieldType} {ini : Bool} {R : Room} {P : Option Value → va_W → Prop} {mc ms : Nat} {kc ks pc : Nat} {lv : List (Nat × Value)} {rest : List Value} {ws : va_W}
theorem u_iconst {n : Int} {v : Int32} (hd : decode cc pc = .ok (.iconst n, 1)) (hv : Int32.ofInt n = v) (k : VU g A sx cc nL own rt ini R P mc ms kc ks (pc + 1) lv (.int v :: rest) ws) : VU g A sx cc nL own rt ini R P mc ms kc ks pc lv (rest) ws := fun p e s m args below meth c F H locs ls hP hD hS hl => lv_iconst F.1 F.2.1 hd hv (k p e s m args below meth c F H locs ls hP hD hS hl)
theorem u_bipush {n : Int} {v : Int32} (hd : decode cc pc = .ok (.bipush n, 2)) (hv : (Int8.ofInt n).toInt32 = v) (k : VU g A sx cc nL own rt ini R P mc ms kc ks (pc + 2) lv (.int v :: rest) ws) : VU g A sx cc nL own rt ini R P mc ms kc ks pc lv (rest) ws := fun p e s m args below meth c F H locs ls hP hD hS hl => lv_bipush F.1 F.2.1 hd hv (k p e s m args below meth c F H locs ls hP hD hS hl)
theorem u_sipush {n : Int} {v : Int32} (hd : decode cc pc = .ok (.sipush n, 3)) (hv : (Int16.ofInt n).toInt32 = v) (k : VU g A sx cc nL own rt ini R P mc ms kc ks (pc + 3) lv (.int v :: rest) ws) : VU g A sx cc nL own rt ini R P mc ms kc ks pc lv (rest) ws := fun p e s m args below meth c F H locs ls hP hD hS hl => lv_sipush F.1 F.2.1 hd hv (k p e s m args below meth c F H locs ls hP hD hS hl)
theorem u_null  (hd : decode cc pc = .ok (.aconst_null, 1)) (k : VU g A sx cc nL own rt ini R P mc ms kc ks (pc + 1) lv (.null :: rest) ws) : VU g A sx cc nL own rt ini R P mc ms kc ks pc lv (rest) ws := fun p e s m args below meth c F H locs ls hP hD hS hl => lv_null F.1 F.2.1 hd (k p e s m args below meth c F H locs ls hP hD hS hl)
theorem u_iload_n {j : Fin 4} {i : Nat} {x : Int32} (hd : decode cc pc = .ok (.iload_n j, 1)) (hi : (j : Nat) = i) (q : Nat) (hq : lv[q]? = some (i, .int x)) (k : VU g A sx cc nL own rt ini R P mc ms kc ks (pc + 1) lv (.int x :: rest) ws) : VU g A sx cc nL own rt ini R P mc ms kc ks pc lv (rest) ws := fun p e s m args below meth c F H locs ls hP hD hS hl => lv_iload_n F.1 F.2.1 hd hi (lv_at hl q hq) (k p e s m args below meth c F H locs ls hP hD hS hl)
theorem u_iload {i : Nat} {x : Int32} (hd : decode cc pc = .ok (.iload i, 2)) (q : Nat) (hq : lv[q]? = some (i, .int x)) (k : VU g A sx cc nL own rt ini R P mc ms kc ks (pc + 2) lv (.int x :: rest) ws) : VU g A sx cc nL own rt ini R P mc ms kc ks pc lv (rest) ws := fun p e s m args below meth c F H locs ls hP hD hS hl => lv_iload F.1 F.2.1 hd (lv_at hl q hq) (k p e s m args below meth c F H locs ls hP hD hS hl)
theorem u_aload_n {j : Fin 4} {i : Nat} {x : Nat} (hd : decode cc pc = .ok (.aload_n j, 1)) (hi : (j : Nat) = i) (q : Nat) (hq : lv[q]? = some (i, .ref x)) (k : VU g A sx cc nL own rt ini R P mc ms kc ks (pc + 1) lv (.ref x :: rest) ws) : VU g A sx cc nL own rt ini R P mc ms kc ks pc lv (rest) ws := fun p e s m args below meth c F H locs ls hP hD hS hl => lv_aload_n F.1 F.2.1 hd hi (lv_at hl q hq) (k p e s m args below meth c F H locs ls hP hD hS hl)
theorem u_aload {i : Nat} {x : Nat} (hd : decode cc pc = .ok (.aload i, 2)) (q : Nat) (hq : lv[q]? = some (i, .ref x)) (k : VU g A sx cc nL own rt ini R P mc ms kc ks (pc + 2) lv (.ref x :: rest) ws) : VU g A sx cc nL own rt ini R P mc ms kc ks pc lv (rest) ws := fun p e s m args below meth c F H locs ls hP hD hS hl => lv_aload F.1 F.2.1 hd (lv_at hl q hq) (k p e s m args below meth c F H locs ls hP hD hS hl)
theorem u_aload_nN {j : Fin 4} {i : Nat} (hd : decode cc pc = .ok (.aload_n j, 1)) (hi : (j : Nat) = i) (q : Nat) (hq : lv[q]? = some (i, .null)) (k : VU g A sx cc nL own rt ini R P mc ms kc ks (pc + 1) lv (.null :: rest) ws) : VU g A sx cc nL own rt ini R P mc ms kc ks pc lv (rest) ws := fun p e s m args below meth c F H locs ls hP hD hS hl => lv_aload_nN F.1 F.2.1 hd hi (lv_at hl q hq) (k p e s m args below meth c F H locs ls hP hD hS hl)
theorem u_istore_n {j : Fin 4} {i : Nat} {x : Int32} {lv1 : List (Nat × Value)} (hd : decode cc pc = .ok (.istore_n j, 1)) (hi : (j : Nat) = i) (hn : i < nL) (hq : (i, Value.int x) :: lv.filter (fun q => !(q.1 == i) && !(q.1 + 1 == i && q.2.category == 2)) = lv1) (k : VU g A sx cc nL own rt ini R P mc ms kc ks (pc + 1) lv1 rest ws) : VU g A sx cc nL own rt ini R P mc ms kc ks pc lv (.int x :: rest) ws := fun p e s m args below meth c F H locs ls hP hD hS hl => lv_istore_n F.1 F.2.1 hd hi hl hn hq (fun ls hl => k p e s m args below meth c F H locs ls hP hD hS hl)
theorem u_istore {i : Nat} {x : Int32} {lv1 : List (Nat × Value)} (hd : decode cc pc = .ok (.istore i, 2)) (hn : i < nL) (hq : (i, Value.int x) :: lv.filter (fun q => !(q.1 == i) && !(q.1 + 1 == i && q.2.category == 2)) = lv1) (k : VU g A sx cc nL own rt ini R P mc ms kc ks (pc + 2) lv1 rest ws) : VU g A sx cc nL own rt ini R P mc ms kc ks pc lv (.int x :: rest) ws := fun p e s m args below meth c F H locs ls hP hD hS hl => lv_istore F.1 F.2.1 hd hl hn hq (fun ls hl => k p e s m args below meth c F H locs ls hP hD hS hl)
theorem u_astore_n {j : Fin 4} {i : Nat} {x : Nat} {lv1 : List (Nat × Value)} (hd : decode cc pc = .ok (.astore_n j, 1)) (hi : (j : Nat) = i) (hn : i < nL) (hq : (i, Value.ref x) :: lv.filter (fun q => !(q.1 == i) && !(q.1 + 1 == i && q.2.category == 2)) = lv1) (k : VU g A sx cc nL own rt ini R P mc ms kc ks (pc + 1) lv1 rest ws) : VU g A sx cc nL own rt ini R P mc ms kc ks pc lv (.ref x :: rest) ws := fun p e s m args below meth c F H locs ls hP hD hS hl => lv_astore_n F.1 F.2.1 hd hi hl hn hq (fun ls hl => k p e s m args below meth c F H locs ls hP hD hS hl)
theorem u_astore {i : Nat} {x : Nat} {lv1 : List (Nat × Value)} (hd : decode cc pc = .ok (.astore i, 2)) (hn : i < nL) (hq : (i, Value.ref x) :: lv.filter (fun q => !(q.1 == i) && !(q.1 + 1 == i && q.2.category == 2)) = lv1) (k : VU g A sx cc nL own rt ini R P mc ms kc ks (pc + 2) lv1 rest ws) : VU g A sx cc nL own rt ini R P mc ms kc ks pc lv (.ref x :: rest) ws := fun p e s m args below meth c F H locs ls hP hD hS hl => lv_astore F.1 F.2.1 hd hl hn hq (fun ls hl => k p e s m args below meth c F H locs ls hP hD hS hl)
theorem u_astore_nN {j : Fin 4} {i : Nat} {lv1 : List (Nat × Value)} (hd : decode cc pc = .ok (.astore_n j, 1)) (hi : (j : Nat) = i) (hn : i < nL) (hq : (i, Value.null) :: lv.filter (fun q => !(q.1 == i) && !(q.1 + 1 == i && q.2.category == 2)) = lv1) (k : VU g A sx cc nL own rt ini R P mc ms kc ks (pc + 1) lv1 rest ws) : VU g A sx cc nL own rt ini R P mc ms kc ks pc lv (.null :: rest) ws := fun p e s m args below meth c F H locs ls hP hD hS hl => lv_astore_nN F.1 F.2.1 hd hi hl hn hq (fun ls hl => k p e s m args below meth c F H locs ls hP hD hS hl)
theorem u_iinc {i q : Nat} {n : Int} {x v : Int32} {lv1 : List (Nat × Value)} (hd : decode cc pc = .ok (.iinc i n, 3)) (hx : lv[q]? = some (i, .int x)) (hv : x + Int32.ofInt n = v) (hn : i < nL) (hq : (i, Value.int v) :: lv.filter (fun q => !(q.1 == i) && !(q.1 + 1 == i && q.2.category == 2)) = lv1) (k : VU g A sx cc nL own rt ini R P mc ms kc ks (pc + 3) lv1 rest ws) : VU g A sx cc nL own rt ini R P mc ms kc ks pc lv rest ws := fun p e s m args below meth c F H locs ls hP hD hS hl => lv_iinc F.1 F.2.1 hd hl hx hv hn hq (fun ls hl => k p e s m args below meth c F H locs ls hP hD hS hl)
theorem u_iadd {x y : Int32} (hd : decode cc pc = .ok (.iadd, 1)) (k : VU g A sx cc nL own rt ini R P mc ms kc ks (pc + 1) lv (.int (x + y) :: rest) ws) : VU g A sx cc nL own rt ini R P mc ms kc ks pc lv (.int y :: .int x :: rest) ws := fun p e s m args below meth c F H locs ls hP hD hS hl => lv_iadd F.1 F.2.1 hd (k p e s m args below meth c F H locs ls hP hD hS hl)
theorem u_isub {x y : Int32} (hd : decode cc pc = .ok (.isub, 1)) (k : VU g A sx cc nL own rt ini R P mc ms kc ks (pc + 1) lv (.int (x - y) :: rest) ws) : VU g A sx cc nL own rt ini R P mc ms kc ks pc lv (.int y :: .int x :: rest) ws := fun p e s m args below meth c F H locs ls hP hD hS hl => lv_isub F.1 F.2.1 hd (k p e s m args below meth c F H locs ls hP hD hS hl)
theorem u_imul {x y : Int32} (hd : decode cc pc = .ok (.imul, 1)) (k : VU g A sx cc nL own rt ini R P mc ms kc ks (pc + 1) lv (.int (x * y) :: rest) ws) : VU g A sx cc nL own rt ini R P mc ms kc ks pc lv (.int y :: .int x :: rest) ws := fun p e s m args below meth c F H locs ls hP hD hS hl => lv_imul F.1 F.2.1 hd (k p e s m args below meth c F H locs ls hP hD hS hl)
theorem u_ishl {x y : Int32} (hd : decode cc pc = .ok (.ishl, 1)) (k : VU g A sx cc nL own rt ini R P mc ms kc ks (pc + 1) lv (.int (x <<< (y &&& 31)) :: rest) ws) : VU g A sx cc nL own rt ini R P mc ms kc ks pc lv (.int y :: .int x :: rest) ws := fun p e s m args below meth c F H locs ls hP hD hS hl => lv_ishl F.1 F.2.1 hd (k p e s m args below meth c F H locs ls hP hD hS hl)
theorem u_ishr {x y : Int32} (hd : decode cc pc = .ok (.ishr, 1)) (k : VU g A sx cc nL own rt ini R P mc ms kc ks (pc + 1) lv (.int (x >>> (y &&& 31)) :: rest) ws) : VU g A sx cc nL own rt ini R P mc ms kc ks pc lv (.int y :: .int x :: rest) ws := fun p e s m args below meth c F H locs ls hP hD hS hl => lv_ishr F.1 F.2.1 hd (k p e s m args below meth c F H locs ls hP hD hS hl)
theorem u_ineg {x : Int32} (hd : decode cc pc = .ok (.ineg, 1)) (k : VU g A sx cc nL own rt ini R P mc ms kc ks (pc + 1) lv (.int (-x) :: rest) ws) : VU g A sx cc nL own rt ini R P mc ms kc ks pc lv (.int x :: rest) ws := fun p e s m args below meth c F H locs ls hP hD hS hl => lv_ineg F.1 F.2.1 hd (k p e s m args below meth c F H locs ls hP hD hS hl)
theorem u_idiv {x y : Int32} (hd : decode cc pc = .ok (.idiv, 1)) (hne : ¬ y = 0) (k : VU g A sx cc nL own rt ini R P mc ms kc ks (pc + 1) lv (.int (x / y) :: rest) ws) : VU g A sx cc nL own rt ini R P mc ms kc ks pc lv (.int y :: .int x :: rest) ws := fun p e s m args below meth c F H locs ls hP hD hS hl => lv_idiv F.1 F.2.1 hd hne (k p e s m args below meth c F H locs ls hP hD hS hl)
theorem u_dup {a : Value} (hd : decode cc pc = .ok (.dup, 1)) (ha : a.category = 1) (k : VU g A sx cc nL own rt ini R P mc ms kc ks (pc + 1) lv (a :: a :: rest) ws) : VU g A sx cc nL own rt ini R P mc ms kc ks pc lv (a :: rest) ws := fun p e s m args below meth c F H locs ls hP hD hS hl => lv_dup F.1 F.2.1 hd ha (k p e s m args below meth c F H locs ls hP hD hS hl)
theorem u_pop {a : Value} (hd : decode cc pc = .ok (.pop, 1)) (ha : a.category = 1) (k : VU g A sx cc nL own rt ini R P mc ms kc ks (pc + 1) lv (rest) ws) : VU g A sx cc nL own rt ini R P mc ms kc ks pc lv (a :: rest) ws := fun p e s m args below meth c F H locs ls hP hD hS hl => lv_pop F.1 F.2.1 hd ha (k p e s m args below meth c F H locs ls hP hD hS hl)
theorem u_goto {off : Int} {tgt : Nat} (hd : decode cc pc = .ok (.goto off, 3)) (ht : (pc : Int) + off = (tgt : Int)) (k : VU g A sx cc nL own rt ini R P mc ms kc ks tgt lv rest ws) : VU g A sx cc nL own rt ini R P mc ms kc ks pc lv rest ws := fun p e s m args below meth c F H locs ls hP hD hS hl => lv_goto F.1 F.2.1 hd ht (k p e s m args below meth c F H locs ls hP hD hS hl)
theorem u_if_eqT {x : Int32} {off : Int} {tgt : Nat} (hd : decode cc pc = .ok (.ifCond .eq off, 3)) (ht : (pc : Int) + off = (tgt : Int)) (hc : x = 0) (kt : VU g A sx cc nL own rt ini R P mc ms kc ks tgt lv rest ws) : VU g A sx cc nL own rt ini R P mc ms kc ks pc lv (.int x :: rest) ws := fun p e s m args below meth c F H locs ls hP hD hS hl => lv_if_eq F.1 F.2.1 hd ht (fun _ => kt p e s m args below meth c F H locs ls hP hD hS hl) (fun h => absurd hc h)
theorem u_if_eqF {x : Int32} {off : Int} {tgt : Nat} (hd : decode cc pc = .ok (.ifCond .eq off, 3)) (ht : (pc : Int) + off = (tgt : Int)) (hc : ¬ (x = 0)) (kf : VU g A sx cc nL own rt ini R P mc ms kc ks (pc + 3) lv rest ws) : VU g A sx cc nL own rt ini R P mc ms kc ks pc lv (.int x :: rest) ws := fun p e s m args below meth c F H locs ls hP hD hS hl => lv_if_eq F.1 F.2.1 hd ht (fun h => absurd h hc) (fun _ => kf p e s m args below meth c F H locs ls hP hD hS hl)
theorem u_icmp_eqT {x y : Int32} {off : Int} {tgt : Nat} (hd : decode cc pc = .ok (.if_icmp .eq off, 3)) (ht : (pc : Int) + off = (tgt : Int)) (hc : x = y) (kt : VU g A sx cc nL own rt ini R P mc ms kc ks tgt lv rest ws) : VU g A sx cc nL own rt ini R P mc ms kc ks pc lv (.int y :: .int x :: rest) ws := fun p e s m args below meth c F H locs ls hP hD hS hl => lv_icmp_eq F.1 F.2.1 hd ht (fun _ => kt p e s m args below meth c F H locs ls hP hD hS hl) (fun h => absurd hc h)
theorem u_icmp_eqF {x y : Int32} {off : Int} {tgt : Nat} (hd : decode cc pc = .ok (.if_icmp .eq off, 3)) (ht : (pc : Int) + off = (tgt : Int)) (hc : ¬ (x = y)) (kf : VU g A sx cc nL own rt ini R P mc ms kc ks (pc + 3) lv rest ws) : VU g A sx cc nL own rt ini R P mc ms kc ks pc lv (.int y :: .int x :: rest) ws := fun p e s m args below meth c F H locs ls hP hD hS hl => lv_icmp_eq F.1 F.2.1 hd ht (fun h => absurd h hc) (fun _ => kf p e s m args below meth c F H locs ls hP hD hS hl)
theorem u_if_neT {x : Int32} {off : Int} {tgt : Nat} (hd : decode cc pc = .ok (.ifCond .ne off, 3)) (ht : (pc : Int) + off = (tgt : Int)) (hc : ¬ (x = 0)) (kt : VU g A sx cc nL own rt ini R P mc ms kc ks tgt lv rest ws) : VU g A sx cc nL own rt ini R P mc ms kc ks pc lv (.int x :: rest) ws := fun p e s m args below meth c F H locs ls hP hD hS hl => lv_if_ne F.1 F.2.1 hd ht (fun _ => kt p e s m args below meth c F H locs ls hP hD hS hl) (fun h => absurd h hc)
theorem u_if_neF {x : Int32} {off : Int} {tgt : Nat} (hd : decode cc pc = .ok (.ifCond .ne off, 3)) (ht : (pc : Int) + off = (tgt : Int)) (hc : x = 0) (kf : VU g A sx cc nL own rt ini R P mc ms kc ks (pc + 3) lv rest ws) : VU g A sx cc nL own rt ini R P mc ms kc ks pc lv (.int x :: rest) ws := fun p e s m args below meth c F H locs ls hP hD hS hl => lv_if_ne F.1 F.2.1 hd ht (fun h => absurd hc h) (fun _ => kf p e s m args below meth c F H locs ls hP hD hS hl)
theorem u_icmp_neT {x y : Int32} {off : Int} {tgt : Nat} (hd : decode cc pc = .ok (.if_icmp .ne off, 3)) (ht : (pc : Int) + off = (tgt : Int)) (hc : ¬ (x = y)) (kt : VU g A sx cc nL own rt ini R P mc ms kc ks tgt lv rest ws) : VU g A sx cc nL own rt ini R P mc ms kc ks pc lv (.int y :: .int x :: rest) ws := fun p e s m args below meth c F H locs ls hP hD hS hl => lv_icmp_ne F.1 F.2.1 hd ht (fun _ => kt p e s m args below meth c F H locs ls hP hD hS hl) (fun h => absurd h hc)
theorem u_icmp_neF {x y : Int32} {off : Int} {tgt : Nat} (hd : decode cc pc = .ok (.if_icmp .ne off, 3)) (ht : (pc : Int) + off = (tgt : Int)) (hc : x = y) (kf : VU g A sx cc nL own rt ini R P mc ms kc ks (pc + 3) lv rest ws) : VU g A sx cc nL own rt ini R P mc ms kc ks pc lv (.int y :: .int x :: rest) ws := fun p e s m args below meth c F H locs ls hP hD hS hl => lv_icmp_ne F.1 F.2.1 hd ht (fun h => absurd hc h) (fun _ => kf p e s m args below meth c F H locs ls hP hD hS hl)
theorem u_if_ltT {x : Int32} {off : Int} {tgt : Nat} (hd : decode cc pc = .ok (.ifCond .lt off, 3)) (ht : (pc : Int) + off = (tgt : Int)) (hc : x < 0) (kt : VU g A sx cc nL own rt ini R P mc ms kc ks tgt lv rest ws) : VU g A sx cc nL own rt ini R P mc ms kc ks pc lv (.int x :: rest) ws := fun p e s m args below meth c F H locs ls hP hD hS hl => lv_if_lt F.1 F.2.1 hd ht (fun _ => kt p e s m args below meth c F H locs ls hP hD hS hl) (fun h => absurd hc h)
theorem u_if_ltF {x : Int32} {off : Int} {tgt : Nat} (hd : decode cc pc = .ok (.ifCond .lt off, 3)) (ht : (pc : Int) + off = (tgt : Int)) (hc : ¬ (x < 0)) (kf : VU g A sx cc nL own rt ini R P mc ms kc ks (pc + 3) lv rest ws) : VU g A sx cc nL own rt ini R P mc ms kc ks pc lv (.int x :: rest) ws := fun p e s m args below meth c F H locs ls hP hD hS hl => lv_if_lt F.1 F.2.1 hd ht (fun h => absurd h hc) (fun _ => kf p e s m args below meth c F H locs ls hP hD hS hl)
theorem u_icmp_ltT {x y : Int32} {off : Int} {tgt : Nat} (hd : decode cc pc = .ok (.if_icmp .lt off, 3)) (ht : (pc : Int) + off = (tgt : Int)) (hc : x < y) (kt : VU g A sx cc nL own rt ini R P mc ms kc ks tgt lv rest ws) : VU g A sx cc nL own rt ini R P mc ms kc ks pc lv (.int y :: .int x :: rest) ws := fun p e s m args below meth c F H locs ls hP hD hS hl => lv_icmp_lt F.1 F.2.1 hd ht (fun _ => kt p e s m args below meth c F H locs ls hP hD hS hl) (fun h => absurd hc h)
theorem u_icmp_ltF {x y : Int32} {off : Int} {tgt : Nat} (hd : decode cc pc = .ok (.if_icmp .lt off, 3)) (ht : (pc : Int) + off = (tgt : Int)) (hc : ¬ (x < y)) (kf : VU g A sx cc nL own rt ini R P mc ms kc ks (pc + 3) lv rest ws) : VU g A sx cc nL own rt ini R P mc ms kc ks pc lv (.int y :: .int x :: rest) ws := fun p e s m args below meth c F H locs ls hP hD hS hl => lv_icmp_lt F.1 F.2.1 hd ht (fun h => absurd h hc) (fun _ => kf p e s m args below meth c F H locs ls hP hD hS hl)
theorem u_if_geT {x : Int32} {off : Int} {tgt : Nat} (hd : decode cc pc = .ok (.ifCond .ge off, 3)) (ht : (pc : Int) + off = (tgt : Int)) (hc : 0 ≤ x) (kt : VU g A sx cc nL own rt ini R P mc ms kc ks tgt lv rest ws) : VU g A sx cc nL own rt ini R P mc ms kc ks pc lv (.int x :: rest) ws := fun p e s m args below meth c F H locs ls hP hD hS hl => lv_if_ge F.1 F.2.1 hd ht (fun _ => kt p e s m args below meth c F H locs ls hP hD hS hl) (fun h => absurd hc h)
theorem u_if_geF {x : Int32} {off : Int} {tgt : Nat} (hd : decode cc pc = .ok (.ifCond .ge off, 3)) (ht : (pc : Int) + off = (tgt : Int)) (hc : ¬ (0 ≤ x)) (kf : VU g A sx cc nL own rt ini R P mc ms kc ks (pc + 3) lv rest ws) : VU g A sx cc nL own rt ini R P mc ms kc ks pc lv (.int x :: rest) ws := fun p e s m args below meth c F H locs ls hP hD hS hl => lv_if_ge F.1 F.2.1 hd ht (fun h => absurd h hc) (fun _ => kf p e s m args below meth c F H locs ls hP hD hS hl)
theorem u_icmp_geT {x y : Int32} {off : Int} {tgt : Nat} (hd : decode cc pc = .ok (.if_icmp .ge off, 3)) (ht : (pc : Int) + off = (tgt : Int)) (hc : y ≤ x) (kt : VU g A sx cc nL own rt ini R P mc ms kc ks tgt lv rest ws) : VU g A sx cc nL own rt ini R P mc ms kc ks pc lv (.int y :: .int x :: rest) ws := fun p e s m args below meth c F H locs ls hP hD hS hl => lv_icmp_ge F.1 F.2.1 hd ht (fun _ => kt p e s m args below meth c F H locs ls hP hD hS hl) (fun h => absurd hc h)
theorem u_icmp_geF {x y : Int32} {off : Int} {tgt : Nat} (hd : decode cc pc = .ok (.if_icmp .ge off, 3)) (ht : (pc : Int) + off = (tgt : Int)) (hc : ¬ (y ≤ x)) (kf : VU g A sx cc nL own rt ini R P mc ms kc ks (pc + 3) lv rest ws) : VU g A sx cc nL own rt ini R P mc ms kc ks pc lv (.int y :: .int x :: rest) ws := fun p e s m args below meth c F H locs ls hP hD hS hl => lv_icmp_ge F.1 F.2.1 hd ht (fun h => absurd h hc) (fun _ => kf p e s m args below meth c F H locs ls hP hD hS hl)
theorem u_if_gtT {x : Int32} {off : Int} {tgt : Nat} (hd : decode cc pc = .ok (.ifCond .gt off, 3)) (ht : (pc : Int) + off = (tgt : Int)) (hc : 0 < x) (kt : VU g A sx cc nL own rt ini R P mc ms kc ks tgt lv rest ws) : VU g A sx cc nL own rt ini R P mc ms kc ks pc lv (.int x :: rest) ws := fun p e s m args below meth c F H locs ls hP hD hS hl => lv_if_gt F.1 F.2.1 hd ht (fun _ => kt p e s m args below meth c F H locs ls hP hD hS hl) (fun h => absurd hc h)
theorem u_if_gtF {x : Int32} {off : Int} {tgt : Nat} (hd : decode cc pc = .ok (.ifCond .gt off, 3)) (ht : (pc : Int) + off = (tgt : Int)) (hc : ¬ (0 < x)) (kf : VU g A sx cc nL own rt ini R P mc ms kc ks (pc + 3) lv rest ws) : VU g A sx cc nL own rt ini R P mc ms kc ks pc lv (.int x :: rest) ws := fun p e s m args below meth c F H locs ls hP hD hS hl => lv_if_gt F.1 F.2.1 hd ht (fun h => absurd h hc) (fun _ => kf p e s m args below meth c F H locs ls hP hD hS hl)
theorem u_icmp_gtT {x y : Int32} {off : Int} {tgt : Nat} (hd : decode cc pc = .ok (.if_icmp .gt off, 3)) (ht : (pc : Int) + off = (tgt : Int)) (hc : y < x) (kt : VU g A sx cc nL own rt ini R P mc ms kc ks tgt lv rest ws) : VU g A sx cc nL own rt ini R P mc ms kc ks pc lv (.int y :: .int x :: rest) ws := fun p e s m args below meth c F H locs ls hP hD hS hl => lv_icmp_gt F.1 F.2.1 hd ht (fun _ => kt p e s m args below meth c F H locs ls hP hD hS hl) (fun h => absurd hc h)
theorem u_icmp_gtF {x y : Int32} {off : Int} {tgt : Nat} (hd : decode cc pc = .ok (.if_icmp .gt off, 3)) (ht : (pc : Int) + off = (tgt : Int)) (hc : ¬ (y < x)) (kf : VU g A sx cc nL own rt ini R P mc ms kc ks (pc + 3) lv rest ws) : VU g A sx cc nL own rt ini R P mc ms kc ks pc lv (.int y :: .int x :: rest) ws := fun p e s m args below meth c F H locs ls hP hD hS hl => lv_icmp_gt F.1 F.2.1 hd ht (fun h => absurd h hc) (fun _ => kf p e s m args below meth c F H locs ls hP hD hS hl)
theorem u_if_leT {x : Int32} {off : Int} {tgt : Nat} (hd : decode cc pc = .ok (.ifCond .le off, 3)) (ht : (pc : Int) + off = (tgt : Int)) (hc : x ≤ 0) (kt : VU g A sx cc nL own rt ini R P mc ms kc ks tgt lv rest ws) : VU g A sx cc nL own rt ini R P mc ms kc ks pc lv (.int x :: rest) ws := fun p e s m args below meth c F H locs ls hP hD hS hl => lv_if_le F.1 F.2.1 hd ht (fun _ => kt p e s m args below meth c F H locs ls hP hD hS hl) (fun h => absurd hc h)
theorem u_if_leF {x : Int32} {off : Int} {tgt : Nat} (hd : decode cc pc = .ok (.ifCond .le off, 3)) (ht : (pc : Int) + off = (tgt : Int)) (hc : ¬ (x ≤ 0)) (kf : VU g A sx cc nL own rt ini R P mc ms kc ks (pc + 3) lv rest ws) : VU g A sx cc nL own rt ini R P mc ms kc ks pc lv (.int x :: rest) ws := fun p e s m args below meth c F H locs ls hP hD hS hl => lv_if_le F.1 F.2.1 hd ht (fun h => absurd h hc) (fun _ => kf p e s m args below meth c F H locs ls hP hD hS hl)
theorem u_icmp_leT {x y : Int32} {off : Int} {tgt : Nat} (hd : decode cc pc = .ok (.if_icmp .le off, 3)) (ht : (pc : Int) + off = (tgt : Int)) (hc : x ≤ y) (kt : VU g A sx cc nL own rt ini R P mc ms kc ks tgt lv rest ws) : VU g A sx cc nL own rt ini R P mc ms kc ks pc lv (.int y :: .int x :: rest) ws := fun p e s m args below meth c F H locs ls hP hD hS hl => lv_icmp_le F.1 F.2.1 hd ht (fun _ => kt p e s m args below meth c F H locs ls hP hD hS hl) (fun h => absurd hc h)
theorem u_icmp_leF {x y : Int32} {off : Int} {tgt : Nat} (hd : decode cc pc = .ok (.if_icmp .le off, 3)) (ht : (pc : Int) + off = (tgt : Int)) (hc : ¬ (x ≤ y)) (kf : VU g A sx cc nL own rt ini R P mc ms kc ks (pc + 3) lv rest ws) : VU g A sx cc nL own rt ini R P mc ms kc ks pc lv (.int y :: .int x :: rest) ws := fun p e s m args below meth c F H locs ls hP hD hS hl => lv_icmp_le F.1 F.2.1 hd ht (fun h => absurd h hc) (fun _ => kf p e s m args below meth c F H locs ls hP hD hS hl)
theorem u_eq {st st' : List Value} (h : st = st') (k : VU g A sx cc nL own rt ini R P mc ms kc ks pc lv st' ws) : VU g A sx cc nL own rt ini R P mc ms kc ks pc lv st ws := h ▸ k
theorem u_ws_eq {st : List Value} {ws' : va_W} (h : ws = ws') (k : VU g A sx cc nL own rt ini R P mc ms kc ks pc lv st ws') : VU g A sx cc nL own rt ini R P mc ms kc ks pc lv st ws := h ▸ k
theorem u_dup_x1 {va vb : Value} (hd : decode cc pc = .ok (.dup_x1, 1)) (h1 : va.category = 1) (h2 : vb.category = 1) (k : VU g A sx cc nL own rt ini R P mc ms kc ks (pc + 1) lv (va :: vb :: va :: rest) ws) : VU g A sx cc nL own rt ini R P mc ms kc ks pc lv (va :: vb :: rest) ws :=
  fun p e s m args below meth c F H locs ls hP hD hS hl => lv_dup_x1 F.1 F.2.1 hd h1 h2 (k p e s m args below meth c F H locs ls hP hD hS hl)
theorem u_i2b {x v : Int32} (hd : decode cc pc = .ok (.i2b, 1)) (hv : x.toInt8.toInt32 = v) (k : VU g A sx cc nL own rt ini R P mc ms kc ks (pc + 1) lv (.int v :: rest) ws) : VU g A sx cc nL own rt ini R P mc ms kc ks pc lv (.int x :: rest) ws :=
  fun p e s m args below meth c F H locs ls hP hD hS hl => lv_i2b F.1 F.2.1 hd hv (k p e s m args below meth c F H locs ls hP hD hS hl)
theorem u_ifnonnull {x : Nat} {off : Int} {tgt : Nat} (hd : decode cc pc = .ok (.ifnonnull off, 3)) (ht : (pc : Int) + off = (tgt : Int)) (k : VU g A sx cc nL own rt ini R P mc ms kc ks tgt lv rest ws) : VU g A sx cc nL own rt ini R P mc ms kc ks pc lv (.ref x :: rest) ws :=
  fun p e s m args below meth c F H locs ls hP hD hS hl => lv_ifnonnull F.1 F.2.1 hd ht (k p e s m args below meth c F H locs ls hP hD hS hl)
theorem u_get {index ci j N q0 a : Nat} {Cn : String} {T : u_T} {fs : List Value} {v : Value} (hin : ∀ w ∈ u_ws Cn T N, w ∈ GW) (hc : vwCl[ci]? = some (Cn, T, N)) (hj : j < N) (hlink : Cond.fieldLink own index (T j).1 (T j).2.1 (T j).2.2.1 ∈ GW) (he : ws[q0]? = some (a, .inr (ci, fs))) (hv : fs[j]? = some v) (hd : decode cc pc = .ok (.getfield index, 3))
    (kk : VU g A sx cc nL own rt ini R P mc ms kc ks (pc + 3) lv (v :: rest) ws) : VU g A sx cc nL own rt ini R P mc ms kc ks pc lv (.ref a :: rest) ws :=
  fun p e s m args below meth c F H locs ls hP hD hS hl => va_get (D := g.2.2.2.1) (cl := vwCl) (tys := tysL g) F.1 F.2.1 F.2.2.2.2.1 hin F.2.2.2.1 F.2.2.2.2.2.1 hP q0 he hc j hj (F.2.2.2.2.1 _ hlink) (fun _ h => h) hv hd (kk p e s m args below meth c F H locs ls hP hD hS hl)
theorem u_put {index ci j N q0 a : Nat} {Cn : String} {T : u_T} {fs : List Value} {v : Value} {ty : FieldType} {ws' : va_W} (ty0 : Nat → FieldType) (hty : ∀ k, k < N → parseFieldDescriptor (T k).2.2.1 = some (ty0 k)) (hnm : ∀ a, a < N → ∀ b, b < N → a ≠ b → (T a).2.1 ≠ (T b).2.1) (hin : ∀ w ∈ u_ws Cn T N, w ∈ GW) (hc : vwCl[ci]? = some (Cn, T, N)) (hj : j < N) (hlink : Cond.fieldLink own index (T j).1 (T j).2.1 (T j).2.2.1 ∈ GW) (hfin : (T j).2.2.2 = false) (hd' : parseFieldDescriptor (T j).2.2.1 = some ty) (hn : narrow ty v = v) (hfit : fits ty v = true) (he : ws[q0]? = some (a, .inr (ci, fs))) (hl' : j < fs.length) (hw : ws.set q0 (a, .inr (ci, fs.set j v)) = ws') (hd : decode cc pc = .ok (.putfield index, 3))
    (kk : VU g A sx cc nL own rt ini R P mc ms kc ks (pc + 3) lv rest ws') : VU g A sx cc nL own rt ini R P mc ms kc ks pc lv (v :: .ref a :: rest) ws := by
  subst hw
  exact fun p e s m args below meth c F H locs ls hP hD hS hl => va_put (D := g.2.2.2.1) (cl := vwCl) (tys := tysL g) F.1 F.2.1 F.2.2.2.2.1 hin ty0 hty hnm F.2.2.2.1 F.2.2.2.2.2.1 hP hD hS q0 he hc j hj (F.2.2.2.2.1 _ hlink) (fun _ h => h) hfin hd' hn hfit hl' hd (fun H1 locs1 hP1 hD1 hS1 => kk p e s m args below meth c F H1 locs1 ls hP1 hD1 hS1 hl)
theorem u_putF {index ci j N q0 a : Nat} {Cn : String} {T : u_T} {fs : List Value} {v : Value} {ty : FieldType} {ws' : va_W} (hini : ini = true) (ty0 : Nat → FieldType) (hty : ∀ k, k < N → parseFieldDescriptor (T k).2.2.1 = some (ty0 k)) (hnm : ∀ a, a < N → ∀ b, b < N → a ≠ b → (T a).2.1 ≠ (T b).2.1) (hin : ∀ w ∈ u_ws Cn T N, w ∈ GW) (hc : vwCl[ci]? = some (Cn, T, N)) (hj : j < N) (hlink : Cond.fieldLink own index (T j).1 (T j).2.1 (T j).2.2.1 ∈ GW) (hfin : (T j).2.2.2 = true) (hdecl : (T j).1 = own) (hd' : parseFieldDescriptor (T j).2.2.1 = some ty) (hn : narrow ty v = v) (hfit : fits ty v = true) (he : ws[q0]? = some (a, .inr (ci, fs))) (hl' : j < fs.length) (hw : ws.set q0 (a, .inr (ci, fs.set j v)) = ws') (hd : decode cc pc = .ok (.putfield index, 3))
    (kk : VU g A sx cc nL own rt ini R P mc ms kc ks (pc + 3) lv rest ws') : VU g A sx cc nL own rt ini R P mc ms kc ks pc lv (v :: .ref a :: rest) ws := by
  subst hw
  exact fun p e s m args below meth c F H locs ls hP hD hS hl => va_putF (D := g.2.2.2.1) (cl := vwCl) (tys := tysL g) F.1 F.2.1 F.2.2.2.2.1 hin ty0 hty hnm F.2.2.2.1 F.2.2.2.2.2.1 hP hD hS q0 he hc j hj (F.2.2.2.2.1 _ hlink) (fun _ h => h) hfin (F.2.2.2.2.2.2.2.2.2.2 hini) hdecl hd' hn hfit hl' hd (fun H1 locs1 hP1 hD1 hS1 => kk p e s m args below meth c F H1 locs1 ls hP1 hD1 hS1 hl)
theorem u_alen {q0 a n : Nat} {f : Nat → Int32} {v : Int32} (he : ws[q0]? = some (a, .inl (g.2.2.1 5, n, .inl f))) (hv : Int32.ofNat n = v) (hd : decode cc pc = .ok (.arraylength, 1)) (kk : VU g A sx cc nL own rt ini R P mc ms kc ks (pc + 1) lv (.int v :: rest) ws) : VU g A sx cc nL own rt ini R P mc ms kc ks pc lv (.ref a :: rest) ws :=
  fun p e s m args below meth c F H locs ls hP hD hS hl => va_alen (D := g.2.2.2.1) (cl := vwCl) (tys := tysL g) (x := (n, .inl f)) F.1 F.2.1 F.2.2.2.2.2.1 hP q0 5 he rfl hv hd (kk p e s m args below meth c F H locs ls hP hD hS hl)
theorem u_bast {q0 a n : Nat} {f : Nat → Int32} {i x : Int32} {ws' : va_W} (he : ws[q0]? = some (a, .inl (g.2.2.1 5, n, .inl f))) (hin : vp_in i n) (hw : ws.set q0 (a, .inl (g.2.2.1 5, n, .inl (upd f i.toNatClampNeg (vp_nar .byte x)))) = ws') (hd : decode cc pc = .ok (.bastore, 1)) (kk : VU g A sx cc nL own rt ini R P mc ms kc ks (pc + 1) lv rest ws') : VU g A sx cc nL own rt ini R P mc ms kc ks pc lv (.int x :: .int i :: .ref a :: rest) ws := by
  subst hw
  exact fun p e s m args below meth c F H locs ls hP hD hS hl => va_bast (D := g.2.2.2.1) (cl := vwCl) (tys := tysL g) F.1 F.2.1 F.2.2.2.2.2.1 hP hD hS q0 5 he rfl hin hd (fun H1 locs1 hP1 hD1 hS1 => kk p e s m args below meth c F H1 locs1 ls hP1 hD1 hS1 hl)
theorem u_compact {index : Nat} (hlink : Cond.fieldLink own index "java/lang/String" "COMPACT_STRINGS" "Z" ∈ GW) (hd : decode cc pc = .ok (.getstatic index, 3)) (k : VU g A sx cc nL own rt ini R P mc ms kc ks (pc + 3) lv (.int 1 :: rest) ws) : VU g A sx cc nL own rt ini R P mc ms kc ks pc lv rest ws :=
  fun p e s m args below meth c F H locs ls hP hD hS hl => va_gets F.1 F.2.1 F.2.2.2.2.2.2.2.1.1 hS F.2.2.2.1 (F.2.2.2.2.1 _ hlink) (fun _ h => h) hd (k p e s m args below meth c F H locs ls hP hD hS hl)
theorem u_ones {index : Nat} (hlink : Cond.fieldLink own index "java/lang/Integer" "DigitOnes" "[B" ∈ GW) (hd : decode cc pc = .ok (.getstatic index, 3)) (k : VU g A sx cc nL own rt ini R P mc ms kc ks (pc + 3) lv (.ref sx.2.1 :: rest) ws) : VU g A sx cc nL own rt ini R P mc ms kc ks pc lv rest ws :=
  fun p e s m args below meth c F H locs ls hP hD hS hl => va_gets F.1 F.2.1 F.2.2.2.2.2.2.2.1.2.1.1.1 hS F.2.2.2.1 (F.2.2.2.2.1 _ hlink) (fun _ h => h) hd (k p e s m args below meth c F H locs ls hP hD hS hl)
theorem u_tens {index : Nat} (hlink : Cond.fieldLink own index "java/lang/Integer" "DigitTens" "[B" ∈ GW) (hd : decode cc pc = .ok (.getstatic index, 3)) (k : VU g A sx cc nL own rt ini R P mc ms kc ks (pc + 3) lv (.ref sx.2.2 :: rest) ws) : VU g A sx cc nL own rt ini R P mc ms kc ks pc lv rest ws :=
  fun p e s m args below meth c F H locs ls hP hD hS hl => va_gets F.1 F.2.1 F.2.2.2.2.2.2.2.1.2.1.2.1 hS F.2.2.2.1 (F.2.2.2.2.1 _ hlink) (fun _ h => h) hd (k p e s m args below meth c F H locs ls hP hD hS hl)
theorem u_onesB {i : Int32} (hin : vp_in i 100) (hd : decode cc pc = .ok (.baload, 1)) (k : VU g A sx cc nL own rt ini R P mc ms kc ks (pc + 1) lv (.int (Int32.ofNat (48 + i.toNatClampNeg % 10)) :: rest) ws) : VU g A sx cc nL own rt ini R P mc ms kc ks pc lv (.int i :: .ref sx.2.1 :: rest) ws :=
  fun p e s m args below meth c F H locs ls hP hD hS hl => va_tb F.1 F.2.1 F.2.2.2.2.2.2.2.1.2.1.1.2 hS hin rfl hd (k p e s m args below meth c F H locs ls hP hD hS hl)
theorem u_tensB {i : Int32} (hin : vp_in i 100) (hd : decode cc pc = .ok (.baload, 1)) (k : VU g A sx cc nL own rt ini R P mc ms kc ks (pc + 1) lv (.int (Int32.ofNat (48 + i.toNatClampNeg / 10)) :: rest) ws) : VU g A sx cc nL own rt ini R P mc ms kc ks pc lv (.int i :: .ref sx.2.2 :: rest) ws :=
  fun p e s m args below meth c F H locs ls hP hD hS hl => va_tb F.1 F.2.1 F.2.2.2.2.2.2.2.1.2.1.2.2 hS hin rfl hd (k p e s m args below meth c F H locs ls hP hD hS hl)
theorem u_strV {index : Nat} {x : Nat × Nat × List Int32} (hx : sx.1 = some x) (hlink : Cond.fieldLink own index "java/lang/String" "value" "[B" ∈ GW) (hd : decode cc pc = .ok (.getfield index, 3)) (k : VU g A sx cc nL own rt ini R P mc ms kc ks (pc + 3) lv (.ref x.2.1 :: rest) ws) : VU g A sx cc nL own rt ini R P mc ms kc ks pc lv (.ref x.1 :: rest) ws :=
  fun p e s m args below meth c F H locs ls hP hD hS hl => vk_getf F.1 F.2.1 (F.2.2.2.2.2.2.2.1.2.2.1 x hx).2.2.1 hS F.2.2.2.1 (F.2.2.2.2.1 _ hlink) (fun _ h => h) hd (k p e s m args below meth c F H locs ls hP hD hS hl)
theorem u_strC {index : Nat} {x : Nat × Nat × List Int32} (hx : sx.1 = some x) (hlink : Cond.fieldLink own index "java/lang/String" "coder" "B" ∈ GW) (hd : decode cc pc = .ok (.getfield index, 3)) (k : VU g A sx cc nL own rt ini R P mc ms kc ks (pc + 3) lv (.int 0 :: rest) ws) : VU g A sx cc nL own rt ini R P mc ms kc ks pc lv (.ref x.1 :: rest) ws :=
  fun p e s m args below meth c F H locs ls hP hD hS hl => vk_getf F.1 F.2.1 (F.2.2.2.2.2.2.2.1.2.2.1 x hx).2.1 hS F.2.2.2.1 (F.2.2.2.2.1 _ hlink) (fun _ h => h) hd (k p e s m args below meth c F H locs ls hP hD hS hl)
theorem u_strL {x : Nat × Nat × List Int32} (hx : sx.1 = some x) (hd : decode cc pc = .ok (.arraylength, 1)) (k : VU g A sx cc nL own rt ini R P mc ms kc ks (pc + 1) lv (.int (Int32.ofNat x.2.2.length) :: rest) ws) : VU g A sx cc nL own rt ini R P mc ms kc ks pc lv (.ref x.2.1 :: rest) ws :=
  fun p e s m args below meth c F H locs ls hP hD hS hl => va_tlen F.1 F.2.1 (F.2.2.2.2.2.2.2.1.2.2.1 x hx).2.2.2 hS rfl hd (k p e s m args below meth c F H locs ls hP hD hS hl)
theorem u_newa {n : Int32} {N : Nat} (hw : Cond.arrayClass .byte ∈ GW) (hn : ¬ n < 0) (hN : n.toNatClampNeg = N) (hbytes : N * 1 ≤ 536870912) (hcells : kc + 1 ≤ R.cells) (hslots : ks + N ≤ R.slots) (hd : decode cc pc = .ok (.newarray .byte, 2))
    (kk : ∀ q : Nat, VU g A sx cc nL own rt ini R P mc ms (kc + 1) (ks + N) (pc + 2) lv (.ref q :: rest) (ws ++ [(q, .inl (g.2.2.1 5, N, .inl (fun _ => 0)))])) : VU g A sx cc nL own rt ini R P mc ms kc ks pc lv (.int n :: rest) ws := by
  intro p e s m args below meth c F H locs ls hP hD hS hl
  have hts := F.2.2.2.2.1
  have hK := F.2.2.2.2.2.1
  refine va_newaK F.1 F.2.1 (atype := .byte) (hts _ hw) rfl hd rfl hn hN hbytes hcells hslots rfl fun H1 cA e1 z1 o1 hAr hNm => ?_
  have hcA : cA = g.2.2.1 5 := by
    obtain ⟨r1, r2⟩ := hK.2 5 _ (rfl : (tysL g)[5]? = some (g.2.2.1 5, .byte))
    exact Option.some.inj (hNm.symm.trans r2)
  subst hcA
  refine kk H.size p e s m args below meth c F H1 locs ls ((hP.kept fun k q hq => o1 q.1 ((hP k q hq).lt)).app ?_) (hD.push hP rfl (F.2.2.2.2.2.2.1 _ hS.1)) ⟨Nat.le_trans hS.1 (by omega), fun x h1 h2 => (o1 x (Nat.lt_of_lt_of_le h1 hS.1)).trans (hS.2.1 x h1 h2), hS.2.2⟩ hl
  intro k q hq
  have hk : k < 1 := (List.getElem?_eq_some_iff.mp hq).1
  rw [show k = 0 by omega] at hq
  cases hq
  show H1[H.size]? = some (vp_cell _ _)
  rw [e1, vp_cell_i]
  rfl
theorem u_new {index ci N : Nat} {Cn : String} {T : u_T} {fs : List Value} (ty : Nat → FieldType) (hty : ∀ k, k < N → parseFieldDescriptor (T k).2.2.1 = some (ty k)) (hin : ∀ w ∈ u_ws Cn T N, w ∈ GW) (hc : vwCl[ci]? = some (Cn, T, N)) (h1 : Cond.classLink own index Cn ∈ GW) (h2 : Cond.instantiable Cn N ∈ GW) (h3 : Cond.initialized Cn ∈ GW) (hfs : ∀ j, j < N → defaultValue (ty j) = vp_V fs j) (hcells : kc + 1 ≤ R.cells) (hslots : ks + N ≤ R.slots) (hd : decode cc pc = .ok (.new index, 3))
    (kk : ∀ q : Nat, VU g A sx cc nL own rt ini R P mc ms (kc + 1) (ks + N) (pc + 3) lv (.ref q :: rest) (ws ++ [(q, .inr (ci, fs))])) : VU g A sx cc nL own rt ini R P mc ms kc ks pc lv rest ws := by
  intro p e s m args below meth c F H locs ls hP hD hS hl
  have hts := F.2.2.2.2.1
  have hK := F.2.2.2.2.2.1
  have hKn := hK.1 ci _ hc
  refine W.newcK F.1 F.2.1 F.2.2.2.1 (hts _ h1) (hts _ h2) (hts _ h3) rfl hd hcells hslots hKn.2.1 rfl fun H1 kC hkC e1 z1 o1 => ?_
  refine kk H.size p e s m args below meth c F H1 locs ls ((hP.kept fun k q hq => o1 q.1 ((hP k q hq).lt)).app ?_) (hD.push hP rfl (F.2.2.2.2.2.2.1 _ hS.1)) ⟨Nat.le_trans hS.1 (by omega), fun x h1 h2 => (o1 x (Nat.lt_of_lt_of_le h1 hS.1)).trans (hS.2.1 x h1 h2), hS.2.2⟩ hl
  intro k q hq
  have hk : k < 1 := (List.getElem?_eq_some_iff.mp hq).1
  rw [show k = 0 by omega] at hq
  cases hq
  exact ⟨_, hc, (u_born ty hts hin hKn hkC e1 hty).to hfs⟩
theorem u_iret {v : Int32} (hd : decode cc pc = .ok (.ireturn, 1)) (hr : rt = some .int) (h1 : kc ≤ mc) (h2 : ks ≤ ms) (hP0 : P (some (.int v)) ws) : VU g A sx cc nL own rt ini R P mc ms kc ks pc lv [.int v] ws :=
  fun p e s m args below meth c F H locs ls hP hD hS hl => W.widen h1 h2 (W.iret F.1 F.2.1 (F.2.2.2.2.2.2.2.2.2.1.trans hr) (fun t ht _ => ⟨_, _, hP0, rfl, by rw [ht]; exact hP, hD, hS.F ht⟩) hS.2.2 hd F.2.2.2.2.2.2.2.2.1)
theorem u_zret {v : Int32} {ty : FieldType} (hd : decode cc pc = .ok (.ireturn, 1)) (hr : rt = some ty) (hn : narrow ty (.int v) = .int v) (h1 : kc ≤ mc) (h2 : ks ≤ ms) (hP0 : P (some (.int v)) ws) : VU g A sx cc nL own rt ini R P mc ms kc ks pc lv [.int v] ws :=
  fun p e s m args below meth c F H locs ls hP hD hS hl => W.widen h1 h2 (W.zret F.1 F.2.1 (F.2.2.2.2.2.2.2.2.2.1.trans hr) hn (fun t ht _ => ⟨_, _, hP0, rfl, by rw [ht]; exact hP, hD, hS.F ht⟩) hS.2.2 hd F.2.2.2.2.2.2.2.2.1)
theorem u_vret (hd : decode cc pc = .ok (.return_, 1)) (hr : rt = none) (h1 : kc ≤ mc) (h2 : ks ≤ ms) (hP0 : P none ws) : VU g A sx cc nL own rt ini R P mc ms kc ks pc lv [] ws :=
  fun p e s m args below meth c F H locs ls hP hD hS hl => W.widen h1 h2 (W.vret F.1 F.2.1 (F.2.2.2.2.2.2.2.2.2.1.trans hr) (fun t ht _ => ⟨_, _, hP0, rfl, by rw [ht]; exact hP, hD, hS.F ht⟩) hS.2.2 hd F.2.2.2.2.2.2.2.2.1)
theorem u_aret {a : Nat} {ty : FieldType} (hd : decode cc pc = .ok (.areturn, 1)) (hr : rt = some ty) (hrt : (∃ n, ty = .object n) ∨ ∃ t, ty = .array t) (h1 : kc ≤ mc) (h2 : ks ≤ ms) (hP0 : P (some (.ref a)) ws) : VU g A sx cc nL own rt ini R P mc ms kc ks pc lv [.ref a] ws :=
  fun p e s m args below meth c F H locs ls hP hD hS hl => W.widen h1 h2 (W.aret F.1 F.2.1 (F.2.2.2.2.2.2.2.2.2.1.trans hr) hrt (Or.inr ⟨_, rfl⟩) (fun t ht _ => ⟨_, _, hP0, rfl, by rw [ht]; exact hP, hD, hS.F ht⟩) hS.2.2 hd F.2.2.2.2.2.2.2.2.1)
theorem u_objInit {index a : Nat} (h1 : Cond.methodLink own index Lib.objectInit ∈ GW) (h2 : Cond.instanceMethod Lib.objectInit ∈ GW) (h3 : Cond.code Lib.objectInit ⟨#[0xb1]⟩ 1 none ∈ GW) (hd : decode cc pc = .ok (.invokespecial index, 3)) (hf : 1 ≤ R.frames) (hlo : (rest.map fun v => v.category).sum + 12 ≤ R.locals) (k : VU g A sx cc nL own rt ini R P mc ms kc ks (pc + 3) lv rest ws) : VU g A sx cc nL own rt ini R P mc ms kc ks pc lv (.ref a :: rest) ws := by
  intro p e s m args below meth c F H locs ls hP hD hS hl
  have hts := F.2.2.2.2.1
  refine W.objInit F.1 F.2.1 F.2.2.2.1 (hts _ h1) (hts _ h2) (hts _ h3) rfl (by rw [F.2.2.1]; exact hl.1) rfl hd hf (by show 2 * 0 + _ + 12 ≤ R.locals; omega) ?_
  exact k p e s m args below meth c F H locs ls hP hD hS hl
/-- System.arraycopy: out of the String that is read; between two rows of the world -/
theorem u_copyT {index q1 a n1 : Nat} {x : Nat × Nat × List Int32} {f : Nat → Int32} {sp dp n : Int32} {ws' : va_W} (hx : sx.1 = some x) (w1 : Cond.methodLink own index arraycopyName ∈ GW) (w2 : Cond.native arraycopyName ∈ GW) (w3 : Cond.static arraycopyName ∈ GW) (w4 : Cond.initialized "java/lang/System" ∈ GW)
    (ha1 : ws[q1]? = some (a, .inl (g.2.2.1 5, n1, .inl f))) (h1 : ¬ sp < 0) (h2 : ¬ dp < 0) (h3 : ¬ n < 0) (h4 : sp.toNatClampNeg + n.toNatClampNeg ≤ x.2.2.length) (h5 : dp.toNatClampNeg + n.toNatClampNeg ≤ n1) (hfit : ∀ i : Nat, i < n.toNatClampNeg → fits .byte (.int (x.2.2.getD (sp.toNatClampNeg + i) 0)) = true)
    (hframes : 1 ≤ R.frames) (hlocals : (rest.map fun v => v.category).sum + (nativeFrameWords "java/lang/System" "arraycopy" 5 + 11) ≤ R.locals) (hw : ws.set q1 (a, .inl (g.2.2.1 5, n1, .inl (va_cpy (fun j => x.2.2.getD j 0) f sp.toNatClampNeg dp.toNatClampNeg n.toNatClampNeg))) = ws') (hd : decode cc pc = .ok (.invokestatic index, 3))
    (kk : VU g A sx cc nL own rt ini R P mc ms kc ks (pc + 3) lv rest ws') : VU g A sx cc nL own rt ini R P mc ms kc ks pc lv (.int n :: .int dp :: .ref a :: .int sp :: .ref x.2.1 :: rest) ws := by
  subst hw
  intro p e s m args below meth c F H locs ls hP hD hS hl
  have hts := F.2.2.2.2.1
  exact vk_copyt (D := g.2.2.2.1) (cl := vwCl) (tys := tysL g) F.1 F.2.1 (by rw [F.2.2.1]; exact hl.1.symm) F.2.2.2.1 (hts _ w1) (hts _ w2) (hts _ w3) (hts _ w4) F.2.2.2.2.2.1 hP hD hS (F.2.2.2.2.2.2.2.1.2.2.1 x hx).2.2.2 q1 5 ha1 rfl h1 h2 h3 h4 h5 hfit hframes hlocals hd (fun H1 locs1 hP1 hD1 hS1 => kk p e s m args below meth c F H1 locs1 ls hP1 hD1 hS1 hl)
theorem u_copyW {index q0 q1 a0 a n0 n1 : Nat} {f0 f : Nat → Int32} {sp dp n : Int32} {ws' : va_W} (w1 : Cond.methodLink own index arraycopyName ∈ GW) (w2 : Cond.native arraycopyName ∈ GW) (w3 : Cond.static arraycopyName ∈ GW) (w4 : Cond.initialized "java/lang/System" ∈ GW)
    (ha0 : ws[q0]? = some (a0, .inl (g.2.2.1 5, n0, .inl f0))) (ha1 : ws[q1]? = some (a, .inl (g.2.2.1 5, n1, .inl f))) (h1 : ¬ sp < 0) (h2 : ¬ dp < 0) (h3 : ¬ n < 0) (h4 : sp.toNatClampNeg + n.toNatClampNeg ≤ n0) (h5 : dp.toNatClampNeg + n.toNatClampNeg ≤ n1) (hfit : ∀ i : Nat, i < n.toNatClampNeg → fits .byte (.int (f0 (sp.toNatClampNeg + i))) = true)
    (hframes : 1 ≤ R.frames) (hlocals : (rest.map fun v => v.category).sum + (nativeFrameWords "java/lang/System" "arraycopy" 5 + 11) ≤ R.locals) (hw : ws.set q1 (a, .inl (g.2.2.1 5, n1, .inl (va_cpy f0 f sp.toNatClampNeg dp.toNatClampNeg n.toNatClampNeg))) = ws') (hd : decode cc pc = .ok (.invokestatic index, 3))
    (kk : VU g A sx cc nL own rt ini R P mc ms kc ks (pc + 3) lv rest ws') : VU g A sx cc nL own rt ini R P mc ms kc ks pc lv (.int n :: .int dp :: .ref a :: .int sp :: .ref a0 :: rest) ws := by
  subst hw
  intro p e s m args below meth c F H locs ls hP hD hS hl
  have hts := F.2.2.2.2.1
  exact va_copyi (D := g.2.2.2.1) (cl := vwCl) (tys := tysL g) (ty := .byte) F.1 F.2.1 (by rw [F.2.2.1]; exact hl.1.symm) F.2.2.2.1 (hts _ w1) (hts _ w2) (hts _ w3) (hts _ w4) F.2.2.2.2.2.1 hP hD hS q0 q1 5 5 ha0 ha1 rfl rfl rfl h1 h2 h3 h4 h5 hfit hframes hlocals hd (fun H1 locs1 hP1 hD1 hS1 => kk p e s m args below meth c F H1 locs1 ls hP1 hD1 hS1 hl)
/-- a row of bytes, cloned -/
theorem u_clone {index q0 a n : Nat} {f : Nat → Int32} (w1 : Cond.methodLink own index ⟨"[B", "clone", "()Ljava/lang/Object;"⟩ ∈ GW) (w2 : Cond.sameMethod "[B" "java/lang/Object" "clone" "()Ljava/lang/Object;" ∈ GW) (w3 : Cond.native ⟨"java/lang/Object", "clone", "()Ljava/lang/Object;"⟩ ∈ GW) (w4 : Cond.instanceMethod ⟨"java/lang/Object", "clone", "()Ljava/lang/Object;"⟩ ∈ GW) (w5 : Cond.selects "[B" ⟨"[B", "clone", "()Ljava/lang/Object;"⟩ ⟨"java/lang/Object", "clone", "()Ljava/lang/Object;"⟩ ∈ GW)
    (ha : ws[q0]? = some (a, .inl (g.2.2.1 5, n, .inl f))) (hfit : ∀ i, i < n → fits .byte (.int (f i)) = true) (hframes : 1 ≤ R.frames) (hlocals : (rest.map fun v => v.category).sum + 14 ≤ R.locals) (hcells : kc + 1 ≤ R.cells) (hslots : ks + n ≤ R.slots) (hd : decode cc pc = .ok (.invokevirtual index, 3))
    (kk : ∀ q : Nat, VU g A sx cc nL own rt ini R P mc ms (kc + 1) (ks + n) (pc + 3) lv (.ref q :: rest) (ws ++ [(q, .inl (g.2.2.1 5, n, .inl f))])) : VU g A sx cc nL own rt ini R P mc ms kc ks pc lv (.ref a :: rest) ws := by
  intro p e s m args below meth c F H locs ls hP hD hS hl
  have hts := F.2.2.2.2.1
  have hK := F.2.2.2.2.2.1
  have hnm : s.vm.findClass "[B" = some (g.2.2.1 5) := (hK.2 5 _ (rfl : (tysL g)[5]? = some (g.2.2.1 5, .byte))).2
  refine va_clone (D := g.2.2.2.1) (cl := vwCl) (tys := tysL g) F.1 F.2.1 (by rw [F.2.2.1]; exact hl.1.symm) F.2.2.2.1 (hts _ w1) (hts _ w2) (hts _ w3) (hts _ w4) (hts _ w5) F.2.2.2.2.2.2.2.1.2.2.2 hK hP hD hS F.2.2.2.2.2.2.1 q0 5 ha rfl hnm ?_ hframes hlocals hcells hslots hd (fun q H1 _ hP1 hD1 hS1 => kk q p e s m args below meth c F H1 locs ls hP1 hD1 hS1 hl)
  intro i v hv
  have hi : i < n := by
    have := (Array.getElem?_eq_some_iff.mp hv).1
    rw [vp_cell_i, arrV_size] at this
    exact this
  rw [vp_cell_i, arrV_read _ _ hi] at hv
  rw [← Option.some.inj hv]
  exact hfit i hi
theorem u_castB {index q0 a n : Nat} {f : Nat → Int32} (w1 : Cond.classLink own index "[B" ∈ GW) (ha : ws[q0]? = some (a, .inl (g.2.2.1 5, n, .inl f))) (hd : decode cc pc = .ok (.checkcast index, 3)) (k : VU g A sx cc nL own rt ini R P mc ms kc ks (pc + 3) lv (.ref a :: rest) ws) : VU g A sx cc nL own rt ini R P mc ms kc ks pc lv (.ref a :: rest) ws := by
  intro p e s m args below meth c F H locs ls hP hD hS hl
  have hnm : s.vm.findClass "[B" = some (g.2.2.1 5) := (F.2.2.2.2.2.1.2 5 _ (rfl : (tysL g)[5]? = some (g.2.2.1 5, .byte))).2
  exact va_castA F.1 F.2.1 F.2.2.2.1 (F.2.2.2.2.1 _ w1) hP q0 ha hnm hd (k p e s m args below meth c F H locs ls hP hD hS hl)
end JROWS
/-! calls -/
/-- 'selects' of a private method of a superclass -/
theorem sel_priv {C : String} {y : MethodName} {s : State} {args : Array Value} {n : Nat} (hy : y.cls ≠ "java/lang/invoke/MethodHandle" ∧ y.cls ≠ "java/lang/invoke/VarHandle")
    (hins : (Cond.instantiable C n).before args s = true) (hsame : (Cond.sameMethod y.cls y.cls y.name y.desc).before args s = true) (hpriv : (Cond.privateMethod y).before args s = true) (hinst : (Cond.instanceMethod y).before args s = true) : (Cond.selects C y y).before args s = true := by
  obtain ⟨c, k, hc, hk, -, -, -, -⟩ := Cond.instantiable_spec hins
  obtain ⟨mk, methM, hnamed, hmethM, -, -⟩ := Cond.instanceMethod_spec hinst
  have hfound : s.methodFound? y.cls y.name y.desc = some mk := State.methodFound?_of_named hnamed hy
  have hsel : selectMethod {} s.vm c mk = .method mk := selectMethod_private hmethM (Cond.privateMethod_at hpriv mk methM hnamed hmethM)
  have hcls := findClass_of_methodNamed hnamed
  have hni : (s.vm.classes[mk.cls]?).any (!·.isInterface) = true := by
    have h := hsame
    simp only [Cond.before, Cond.holds, Cond.value, hcls, hfound, hnamed] at h
    simpa using h
  simp only [Cond.before, Cond.holds, Cond.value, hc, hfound, hnamed, hsel]
  simpa using hni
section JCALLS
variable {g : GC} {A : Nat → Prop} {sx : SX} {cc : ByteArray} {nL : Nat} {own : String} {rt : Option FieldType} {ini : Bool} {R : Room} {P : Option Value → va_W → Prop} {mc ms : Nat} {kc ks pc : Nat} {lv : List (Nat × Value)} {rest st : List Value} {ws : va_W}
variable {index nLy n mcy msy : Nat} {y : MethodName} {cy : ByteArray} {ry : Option FieldType} {rm : Room} {As : List Value} {Py : Option Value → va_W → Prop}
theorem u_pre {av : List Value} {s U : State} {H : Heap} {locs : List Loc} {p : Program} {m : MethodId} {args : Array Value} {meth : Method} {c : Code} (F : FU g A sx cc nL own rt ini p s m args meth c) (hP : va_P g.2.2.2.1 vwCl ws H) (hD : va_D A ws) (hS : va_S A s.heap H locs) (hU : U.heap = H) (hX : s.WarmedH U.vm) : PU g A sx av ws av.toArray U :=
  ⟨rfl, fun q hq => F.2.2.2.2.2.2.1 q (Nat.le_trans hS.1 (by rw [← hU]; exact hq)), by rw [hU]; exact hP, hD, va_K.moved hX.alike F.2.2.2.2.2.1, by rw [hU]; exact (F.2.2.2.2.2.2.2.1.kept hS.2.1).moved hX.alike⟩
theorem u_run {p : Program} {e : Env} {s : State} {m : MethodId} {args : Array Value} {below : List Frame} {meth : Method} {c : Code} {H : Heap} {locs : List Loc} {ls : Array Slot} {st0 : List Value} {a : Array Value} (F : FU g A sx cc nL own rt ini p s m args meth c) (hS : va_S A s.heap H locs) (hl : lv_has ls nL lv)
    (hr : va_Run p g.1 e R s m args below meth c H locs kc ks mcy msy (F0 m pc ls st0) rest (QU g A Py a) A)
    (kk : ∀ v ws', Py v ws' → VU g A sx cc nL own rt ini R P mc ms (kc + mcy) (ks + msy) (pc + 3) lv (v.toList ++ rest) ws') :
    W p g.1 e R s m args below meth c H locs kc ks (MQ below (QU g A P) args s mc ms A) (F0 m pc ls st0) := by
  intro T hT X
  obtain ⟨v, st₀, t, T', L, h0, X', hL, e1, e2, ⟨v', ws', hPy, hv, hP1, hD1, hF⟩, st⟩ := hr T hT X
  cases hv
  obtain ⟨-, -, k3⟩ := vx_keep (A1 := A) h0 e1 hS (fun _ _ h => h) (fun _ h => h) hL hF
  obtain ⟨t2, a1, b1⟩ := kk v ws' hPy p e s m args below meth c F T'.heap (locs ++ L) ls (by rw [e1]; exact hP1) hD1 k3 hl T' rfl X'
  exact ⟨t2, st t2 a1, b1⟩
/-- what a call rests on -/
def CJ (own : String) (index : Nat) (y : MethodName) (cy : ByteArray) (nLy : Nat) (ry : Option FieldType) (n : Nat) : Prop := Cond.methodLink own index y ∈ GW ∧ Cond.initialized y.cls ∈ GW ∧ Cond.code y cy nLy ry ∈ GW ∧ (y.cls ≠ "java/lang/invoke/MethodHandle" ∧ y.cls ≠ "java/lang/invoke/VarHandle") ∧ (parseMethodDescriptor y.desc).map (fun d => d.parameters.length) = some n
theorem u_callV {q0 a ci N : Nat} {C : String} {T : u_T} {fs : List Value} (hc : CJ own index y cy nLy ry n) (hin : Cond.instanceMethod y ∈ GW) (hsel : ∀ (args : Array Value) (s : State), (∀ w ∈ GW, w.before args s = true) → (Cond.selects C y y).before args s = true) (hM : JM g A sx (.code y cy nLy ry) y rm mcy msy (.ref a :: As) ws Py) (hC : vwCl[ci]? = some (C, T, N)) (he : ws[q0]? = some (a, .inr (ci, fs))) (hn : As.length = n) (hs : st = As.reverse ++ .ref a :: rest) (hst : (rest.map fun v => v.category).sum ≤ 8) (hd : decode cc pc = .ok (.invokevirtual index, 3)) (hR : CR R nLy mcy msy rm kc ks)
    (kk : ∀ v ws', Py v ws' → VU g A sx cc nL own rt ini R P mc ms (kc + mcy) (ks + msy) (pc + 3) lv (v.toList ++ rest) ws') : VU g A sx cc nL own rt ini R P mc ms kc ks pc lv st ws := by
  intro p e s m args below meth c F H locs ls hP hD hS hl
  subst hs
  have hts := F.2.2.2.2.1
  obtain ⟨c1, c4, c5, c6, c7⟩ := hc
  exact u_run F hS hl (va_runV (Ts := GW) (nL := nL) (C := C) (n := n) (bytes := cy) (maxL := nLy) (ret := ry) (As := As) (rest := rest) (g := F0 m pc ls (As.reverse ++ .ref a :: rest)) ⟨F.1, F.2.1, F.2.2.1, F.2.2.2.1, hts⟩ hM
    ⟨⟨hR.1.1, hR.1.2.1, hR.1.2.2.1, hR.1.2.2.2, GW_pay c5 hts, List.mem_cons_self, hts _ c5, hts _ c4, c6, v_len c7, hts _ c1⟩, hts _ hin, hsel _ _ hts⟩
    ⟨PU_blind, va_recv (q0 := q0) F.2.2.2.2.2.1 hP hC he, fun U hU hX => u_pre F hP hD hS hU hX⟩ rfl hn hl.1 rfl (by show 2 * 0 + _ ≤ 8; omega) hd hR.2) kk
/-- on the String that is read -/
theorem u_callStr {x : Nat × Nat × List Int32} (hx : sx.1 = some x) (hcls : y.cls = "java/lang/String") (hc : CJ own index y cy nLy ry n) (hin : Cond.instanceMethod y ∈ GW) (hsel : Cond.selects y.cls y y ∈ GW) (hM : JM g A sx (.code y cy nLy ry) y rm mcy msy (.ref x.1 :: As) ws Py) (hn : As.length = n) (hs : st = As.reverse ++ .ref x.1 :: rest) (hst : (rest.map fun v => v.category).sum ≤ 8) (hd : decode cc pc = .ok (.invokevirtual index, 3)) (hR : CR R nLy mcy msy rm kc ks)
    (kk : ∀ v ws', Py v ws' → VU g A sx cc nL own rt ini R P mc ms (kc + mcy) (ks + msy) (pc + 3) lv (v.toList ++ rest) ws') : VU g A sx cc nL own rt ini R P mc ms kc ks pc lv st ws := by
  intro p e s m args below meth c F H locs ls hP hD hS hl
  subst hs
  have hts := F.2.2.2.2.1
  obtain ⟨c1, c4, c5, c6, c7⟩ := hc
  obtain ⟨cell, e1, e2, e3, -⟩ := ((F.2.2.2.2.2.2.2.1.kept hS.2.1).2.2.1 x hx).1
  exact u_run F hS hl (va_runV (Ts := GW) (nL := nL) (C := y.cls) (n := n) (bytes := cy) (maxL := nLy) (ret := ry) (As := As) (rest := rest) (g := F0 m pc ls (As.reverse ++ .ref x.1 :: rest)) ⟨F.1, F.2.1, F.2.2.1, F.2.2.2.1, hts⟩ hM
    ⟨⟨hR.1.1, hR.1.2.1, hR.1.2.2.1, hR.1.2.2.2, GW_pay c5 hts, List.mem_cons_self, hts _ c5, hts _ c4, c6, v_len c7, hts _ c1⟩, hts _ hin, hts _ hsel⟩
    ⟨PU_blind, ⟨cell, e1, e2, by rw [hcls]; exact e3⟩, fun U hU hX => u_pre F hP hD hS hU hX⟩ rfl hn hl.1 rfl (by show 2 * 0 + _ ≤ 8; omega) hd hR.2) kk
theorem u_callS (hc : CJ own index y cy nLy ry n) (hsta : Cond.static y ∈ GW) (hM : JM g A sx (.code y cy nLy ry) y rm mcy msy As ws Py) (hn : As.length = n) (hs : st = As.reverse ++ rest) (hst : (rest.map fun v => v.category).sum ≤ 8) (hd : decode cc pc = .ok (.invokestatic index, 3)) (hR : CR R nLy mcy msy rm kc ks)
    (kk : ∀ v ws', Py v ws' → VU g A sx cc nL own rt ini R P mc ms (kc + mcy) (ks + msy) (pc + 3) lv (v.toList ++ rest) ws') : VU g A sx cc nL own rt ini R P mc ms kc ks pc lv st ws := by
  intro p e s m args below meth c F H locs ls hP hD hS hl
  subst hs
  have hts := F.2.2.2.2.1
  obtain ⟨c1, c4, c5, c6, c7⟩ := hc
  exact u_run F hS hl (va_runS (Ts := GW) (nL := nL) (n := n) (bytes := cy) (maxL := nLy) (ret := ry) (As := As) (rest := rest) (g := F0 m pc ls (As.reverse ++ rest)) ⟨F.1, F.2.1, F.2.2.1, F.2.2.2.1, hts⟩ hM
    ⟨⟨hR.1.1, hR.1.2.1, hR.1.2.2.1, hR.1.2.2.2, GW_pay c5 hts, List.mem_cons_self, hts _ c5, hts _ c4, c6, v_len c7, hts _ c1⟩, hts _ hsta⟩
    ⟨PU_blind, fun U hU hX => u_pre F hP hD hS hU hX⟩ rfl hn hl.1 rfl (by show 2 * 0 + _ ≤ 8; omega) hd hR.2) kk
/-- super's own method, on this -/
theorem u_callSU {q0 a ci N : Nat} {C : String} {T : u_T} {fs : List Value} (hc : CJ own index y cy nLy ry n) (hin : Cond.instanceMethod y ∈ GW) (hsame : Cond.sameMethod y.cls y.cls y.name y.desc ∈ GW) (hsup : Cond.superclass own y.cls ∈ GW) (hno : y.name ≠ "<init>") (hM : JM g A sx (.code y cy nLy ry) y rm mcy msy (.ref a :: As) ws Py) (hC : vwCl[ci]? = some (C, T, N)) (he : ws[q0]? = some (a, .inr (ci, fs))) (hn : As.length = n) (hs : st = As.reverse ++ .ref a :: rest) (hst : (rest.map fun v => v.category).sum ≤ 8) (hd : decode cc pc = .ok (.invokespecial index, 3)) (hR : CR R nLy mcy msy rm kc ks)
    (kk : ∀ v ws', Py v ws' → VU g A sx cc nL own rt ini R P mc ms (kc + mcy) (ks + msy) (pc + 3) lv (v.toList ++ rest) ws') : VU g A sx cc nL own rt ini R P mc ms kc ks pc lv st ws := by
  intro p e s m args below meth c F H locs ls hP hD hS hl
  subst hs
  have hts := F.2.2.2.2.1
  obtain ⟨c1, c4, c5, c6, c7⟩ := hc
  exact u_run F hS hl (va_runSU (Ts := GW) (nL := nL) (C := C) (n := n) (bytes := cy) (maxL := nLy) (ret := ry) (As := As) (rest := rest) (g := F0 m pc ls (As.reverse ++ .ref a :: rest)) (F.2.2.2.2.2.1.1 ci _ hC).2 ⟨F.1, F.2.1, F.2.2.1, F.2.2.2.1, hts⟩ hM
    ⟨⟨hR.1.1, hR.1.2.1, hR.1.2.2.1, hR.1.2.2.2, GW_pay c5 hts, List.mem_cons_self⟩, hts _ c1, hts _ hsame, hts _ hsup, hts _ hin, hts _ c4, hts _ c5, hno, v_len c7⟩
    ⟨PU_blind, va_recv (q0 := q0) F.2.2.2.2.2.1 hP hC he, fun U hU hX => u_pre F hP hD hS hU hX⟩ rfl hn hl.1 rfl (by show 2 * 0 + _ ≤ 8; omega) hd hR.2) kk
/-- a constructor -/
theorem u_callI {a : Nat} (hc : CJ own index y cy nLy none n) (hin : Cond.instanceMethod y ∈ GW) (hname : y.name = "<init>") (hM : JM g A sx (.code y cy nLy none) y rm mcy msy (.ref a :: As) ws Py) (hn : As.length = n) (hs : st = As.reverse ++ .ref a :: rest) (hst : (rest.map fun v => v.category).sum ≤ 8) (hd : decode cc pc = .ok (.invokespecial index, 3)) (hR : CR R nLy mcy msy rm kc ks)
    (kk : ∀ v ws', Py v ws' → VU g A sx cc nL own rt ini R P mc ms (kc + mcy) (ks + msy) (pc + 3) lv (v.toList ++ rest) ws') : VU g A sx cc nL own rt ini R P mc ms kc ks pc lv st ws := by
  intro p e s m args below meth c F H locs ls hP hD hS hl
  subst hs
  have hts := F.2.2.2.2.1
  obtain ⟨c1, c4, c5, c6, c7⟩ := hc
  exact u_run F hS hl (va_runI (Ts := GW) (nL := nL) (n := n) (bytes := cy) (maxL := nLy) (As := As) (rest := rest) (g := F0 m pc ls (As.reverse ++ .ref a :: rest)) ⟨F.1, F.2.1, F.2.2.1, F.2.2.2.1, hts⟩ hM
    ⟨⟨hR.1.1, hR.1.2.1, hR.1.2.2.1, hR.1.2.2.2, GW_pay c5 hts, List.mem_cons_self, hts _ c5, hts _ c4, c6, v_len c7, hts _ c1⟩, hname, hts _ hin⟩
    ⟨PU_blind, fun U hU hX => u_pre F hP hD hS hU hX⟩ rfl hn hl.1 rfl (by show 2 * 0 + _ ≤ 8; omega) hd hR.2) kk
/-- x is named, y of a subclass is selected -/
theorem u_callU {q0 a ci N nLx : Nat} {C : String} {T : u_T} {fs : List Value} {x : MethodName} {cx : ByteArray} {rx : Option FieldType} (c1 : Cond.methodLink own index x ∈ GW) (c2 : Cond.sameMethod x.cls x.cls x.name x.desc ∈ GW) (cix : Cond.instanceMethod x ∈ GW) (ccx : Cond.code x cx nLx rx ∈ GW) (hsel : Cond.selects C x y ∈ GW) (hin : Cond.instanceMethod y ∈ GW) (c4 : Cond.initialized y.cls ∈ GW) (c5 : Cond.code y cy nLy ry ∈ GW) (c6 : x.cls ≠ "java/lang/invoke/MethodHandle" ∧ x.cls ≠ "java/lang/invoke/VarHandle") (c7 : (parseMethodDescriptor x.desc).map (fun d => d.parameters.length) = some n) (hM : JM g A sx (.code y cy nLy ry) y rm mcy msy (.ref a :: As) ws Py) (hC : vwCl[ci]? = some (C, T, N)) (he : ws[q0]? = some (a, .inr (ci, fs))) (hn : As.length = n) (hs : st = As.reverse ++ .ref a :: rest) (hst : (rest.map fun v => v.category).sum ≤ 8) (hd : decode cc pc = .ok (.invokevirtual index, 3)) (hR : CR R nLy mcy msy rm kc ks)
    (kk : ∀ v ws', Py v ws' → VU g A sx cc nL own rt ini R P mc ms (kc + mcy) (ks + msy) (pc + 3) lv (v.toList ++ rest) ws') : VU g A sx cc nL own rt ini R P mc ms kc ks pc lv st ws := by
  intro p e s m args below meth c F H locs ls hP hD hS hl
  subst hs
  have hts := F.2.2.2.2.1
  exact u_run F hS hl (va_runU (Ts := GW) (nL := nL) (C := C) (owner := x.cls) (x := x) (n := n) (bytes := cy) (maxL := nLy) (ret := ry) (As := As) (rest := rest) (g := F0 m pc ls (As.reverse ++ .ref a :: rest)) ⟨F.1, F.2.1, F.2.2.1, F.2.2.2.1, hts⟩ hM
    ⟨⟨hR.1.1, hR.1.2.1, hR.1.2.2.1, hR.1.2.2.2, GW_pay c5 hts, List.mem_cons_self⟩, hts _ c5, hts _ c4, c6, v_len c7, hts _ c1, hts _ c2, va_Decl.of (hts _ cix) (hts _ ccx), hts _ hsel, hts _ hin⟩
    ⟨PU_blind, va_recv (q0 := q0) F.2.2.2.2.2.1 hP hC he, fun U hU hX => u_pre F hP hD hS hU hX⟩ rfl hn hl.1 rfl (by show 2 * 0 + _ ≤ 8; omega) hd hR.2) kk
/-- a method's contract out of its walk -/
theorem JM_of {y : MethodName} {av : List Value} (hy : plainName y.cls = true) (hcode : Cond.code y cc nL rt ∈ GW) (ho : y.cls = own) (hini : ini = true → y.name = "<init>") (hav : (lg_sl av).length ≤ nL)
    (body : VU g A sx cc nL own rt ini R P mc ms 0 0 0 (lv_args 0 av) [] ws) (hR : R.cells = mc ∧ R.slots = ms) : JM g A sx (.code y cc nL rt) y R mc ms av ws P := by
  refine Met.ofW (cc := cc) (maxL := nL) (ret := rt) hy rfl ?_
  intro p e s m args below meth c s₁ B hml hPU
  obtain ⟨rfl, hA, hP, hD, hK, hJ⟩ := hPU
  have hts := atoms_spec (ws := .code y cc nL rt :: GW) B.pre
  have hown : s.vm.findClass own = some m.cls := ho ▸ findClass_of_methodNamed B.named
  have F : FU g A sx cc nL own rt ini p s m av.toArray meth c := ⟨B.exec, B.bytes, hml, hown, fun z hz => hts z (List.mem_cons_of_mem _ hz), hK, hA, hJ, B.notSynchronized, B.returns, fun h => (name_of_methodNamed B.named B.method).1.trans (hini h)⟩
  rw [lg_entry_eq]
  exact body p e s m av.toArray below meth c F s.heap [] _ hP hD va_S.rf (lv_entry av hav)
end JCALLS
end
section
/-! The JDK's methods behind the law's texts -/
def sbC (d : Nat) (n : Nat) : va_E := .inr (11, [.ref d, .int 0, .int 0, .int (Int32.ofNat n)])
def byC (g : GC) (n : Nat) (f : Nat → Int32) : va_E := .inl (g.2.2.1 5, n, .inl f)
def is1 (v : Option Value) (ws : va_W) : Option Value → va_W → Prop := fun v' ws' => v' = v ∧ ws' = ws
theorem shr0 {x : Int32} : x >>> ((0 : Int32) &&& 31) = x := by rw [show (0 : Int32) &&& 31 = 0 from rfl]; exact Int32.shiftRight_zero
theorem shl0 {x : Int32} : x <<< ((0 : Int32) &&& 31) = x := by rw [show (0 : Int32) &&& 31 = 0 from rfl]; exact Int32.shiftLeft_zero
theorem tnI {n : Nat} (h : n < 2147483648) : (Int32.ofNat n).toNatClampNeg = n := Int32.toNatClampNeg_ofNat_of_lt h
theorem nnI {n : Nat} (h : n < 2147483648) : ¬ (Int32.ofNat n) < 0 := by
  have h2 : ¬ (Int32.ofNat n < Int32.ofNat 0) := by rw [Int32.ofNat_lt_iff_lt h (by omega)]; omega
  exact h2
theorem ens_B : ∀ k, k ≤ 16 → (Int32.ofNat k) - ((16 : Int32) >>> ((0 : Int32) &&& 31)) ≤ 0 := by decide +kernel
theorem ens_le {a b : Nat} (h : a + b ≤ 16) : Int32.ofNat a + Int32.ofNat b - ((16 : Int32) >>> ((0 : Int32) &&& 31)) ≤ 0 := by rw [← Int32.ofNat_add]; exact ens_B _ h
theorem ens_le1 {a : Nat} (h : a + 1 ≤ 16) : Int32.ofNat a + 1 - ((16 : Int32) >>> ((0 : Int32) &&& 31)) ≤ 0 := ens_le (b := 1) h
theorem ch_cases {c : Int32} (h : 0 ≤ c ∧ c ≤ 127) : ∃ k, k < 128 ∧ c = Int32.ofNat k := by
  refine ⟨c.toNatClampNeg, ?_, (Int32.ofNat_toNatClampNeg c h.1).symm⟩
  have h2 := Int32.le_iff_toInt_le.mp h.2
  have h3 : (127 : Int32).toInt = 127 := rfl
  have h4 := Int32.le_iff_toInt_le.mp h.1
  have h5 : (0 : Int32).toInt = 0 := rfl
  show c.toInt.toNat < 128
  omega
theorem ch_B : ∀ k, k < 128 → ¬ (255 < Int32.ofNat k) ∧ (Int32.ofNat k).toInt8.toInt32 = Int32.ofNat k ∧ vp_nar .byte (Int32.ofNat k) = Int32.ofNat k ∧ fits .byte (.int (Int32.ofNat k)) = true := by decide +kernel
theorem c127 {c : Int32} (h : 0 ≤ c ∧ c ≤ 127) : ¬ (255 < c) := by
  obtain ⟨k, hk, rfl⟩ := ch_cases h
  exact (ch_B k hk).1
theorem i2b127 {c : Int32} (h : 0 ≤ c ∧ c ≤ 127) : c.toInt8.toInt32 = c := by
  obtain ⟨k, hk, rfl⟩ := ch_cases h
  exact (ch_B k hk).2.1
theorem nar127 {c : Int32} (h : 0 ≤ c ∧ c ≤ 127) : vp_nar .byte c = c := by
  obtain ⟨k, hk, rfl⟩ := ch_cases h
  exact (ch_B k hk).2.2.1
theorem inN16 {n : Nat} (h : n + 1 ≤ 16) : vp_in (Int32.ofNat n) 16 := vp_in_nI (by omega) (by omega)
theorem sub1I {n : Nat} : Int32.ofNat (n + 1) + -1 = Int32.ofNat n := by rw [Int32.ofNat_add, show Int32.ofNat 1 = 1 from rfl, Int32.add_assoc, show (1 : Int32) + -1 = 0 from rfl, Int32.add_zero]
theorem sub2I {n : Nat} : Int32.ofNat (n + 2) + -1 + -1 = Int32.ofNat n := by rw [show n + 2 = n + 1 + 1 from rfl, sub1I, sub1I]
theorem sub2I' {n : Nat} : Int32.ofNat (n + 2) + -1 = Int32.ofNat (n + 1) := sub1I
theorem dk_B : ∀ k, k < 100 → ¬ (Int32.ofNat k < 0) ∧ (0 ≤ Int32.ofNat k) ∧ (-100 < -Int32.ofNat k) ∧ (k < 10 → ¬ (-Int32.ofNat k ≤ -10) ∧ -9 ≤ -Int32.ofNat k) ∧ (10 ≤ k → -Int32.ofNat k ≤ -10 ∧ ¬ (-9 ≤ -Int32.ofNat k)) ∧ ¬ (-Int32.ofNat k ≤ 10 * -10) := by decide +kernel
theorem dk_nn {k : Nat} (h : k < 100) : ¬ (Int32.ofNat k < 0) := (dk_B k h).1
theorem dk_ge {k : Nat} (h : k < 100) : 0 ≤ Int32.ofNat k := (dk_B k h).2.1
theorem dk_100 {k : Nat} (h : k < 100) : -100 < -Int32.ofNat k := (dk_B k h).2.2.1
theorem dk_a {k : Nat} (h : k < 10) : ¬ (-Int32.ofNat k ≤ -10) := ((dk_B k (by omega)).2.2.2.1 h).1
theorem dk_9 {k : Nat} (h : k < 10) : -9 ≤ -Int32.ofNat k := ((dk_B k (by omega)).2.2.2.1 h).2
theorem dk_b {k : Nat} (h0 : 10 ≤ k) (h : k < 100) : -Int32.ofNat k ≤ -10 := ((dk_B k h).2.2.2.2.1 h0).1
theorem dk_10 {k : Nat} (h0 : 10 ≤ k) (h : k < 100) : ¬ (-9 ≤ -Int32.ofNat k) := ((dk_B k h).2.2.2.2.1 h0).2
theorem dk_c {k : Nat} (h : k < 100) : ¬ (-Int32.ofNat k ≤ 10 * -10) := (dk_B k h).2.2.2.2.2
theorem ofN127 {m : Nat} (h : m < 128) : (0 : Int32) ≤ Int32.ofNat m ∧ Int32.ofNat m ≤ 127 := (by decide +kernel : ∀ m, m < 128 → (0 : Int32) ≤ Int32.ofNat m ∧ Int32.ofNat m ≤ 127) m h
theorem dk_0 (k : Nat) : (0 : Int32) ≤ Int32.ofNat (48 + k % 10) ∧ Int32.ofNat (48 + k % 10) ≤ 127 := ofN127 (by omega)
theorem dk_1 {k : Nat} (h : k < 100) : (0 : Int32) ≤ Int32.ofNat (48 + k / 10) ∧ Int32.ofNat (48 + k / 10) ≤ 127 := ofN127 (by omega)
theorem nn0 {n : Nat} (h : n < 2147483648) : (0 : Int32) ≤ Int32.ofNat n := (Int32.ofNat_le_iff_le (a := 0) (by omega) h).mpr (Nat.zero_le n)
theorem ne16 {n : Nat} (h : n < 16) : ¬ (Int32.ofNat n = 16) := (by decide +kernel : ∀ n, n < 16 → ¬ (Int32.ofNat n = 16)) n h
theorem minI {n : Nat} (h : n ≤ 16) : (if Int32.ofNat n < 16 - 0 then Int32.ofNat n else 16 - 0) = Int32.ofNat n := (by decide +kernel : ∀ n, n ≤ 16 → (if Int32.ofNat n < 16 - 0 then Int32.ofNat n else 16 - 0) = Int32.ofNat n) n h
theorem cpy00 {f z : Nat → Int32} {n i : Nat} (h : i < n) : va_cpy f z 0 0 n i = f i := by
  unfold va_cpy
  rw [if_pos (by omega)]
  congr 1
  omega
theorem def_J0 : ∀ j, j < 4 → defaultValue (tyJ0 j) = vp_V [.null, .int 0, .int 0, .int 0] j := fun j hj => by
  match j, hj with
  | 0, _ => rfl
  | 1, _ => rfl
  | 2, _ => rfl
  | 3, _ => rfl
  | j + 4, h => exact absurd h (by omega)
theorem def_J4 : ∀ j, j < 4 → defaultValue (tyJ4 j) = vp_V [.null, .int 0, .int 0, .int 0] j := fun j hj => by
  match j, hj with
  | 0, _ => rfl
  | 1, _ => rfl
  | 2, _ => rfl
  | 3, _ => rfl
  | j + 4, h => exact absurd h (by omega)
theorem u_min {g : GC} {A : Nat → Prop} {sx : SX} {cc : ByteArray} {nL : Nat} {own : String} {rt : Option FieldType} {ini : Bool} {R : Room} {P : Option Value → va_W → Prop} {mc ms : Nat} {kc ks pc : Nat} {lv : List (Nat × Value)} {rest : List Value} {ws : va_W} {index : Nat} {x y : Int32} (h1 : Cond.methodLink own index Lib.Math.min.name ∈ GW) (h2 : Cond.static Lib.Math.min.name ∈ GW) (h3 : Cond.initialized "java/lang/Math" ∈ GW) (h4 : Cond.code Lib.Math.min.name Lib.Math.min.code 2 (some .int) ∈ GW) (hd : decode cc pc = .ok (.invokestatic index, 3)) (hf : 1 ≤ R.frames) (hlo : (rest.map fun v => v.category).sum + 13 ≤ R.locals) (hkc : kc ≤ R.cells) (hks : ks ≤ R.slots)
    (k : VU g A sx cc nL own rt ini R P mc ms kc ks (pc + 3) lv (.int (if y < x then y else x) :: rest) ws) : VU g A sx cc nL own rt ini R P mc ms kc ks pc lv (.int y :: .int x :: rest) ws :=
  fun p e s m args below meth c F H locs ls hP hD hS hl => va_mmin F.1 F.2.1 (by rw [F.2.2.1]; exact hl.1.symm) F.2.2.2.1 (F.2.2.2.2.1 _ h1) (F.2.2.2.2.1 _ h2) (F.2.2.2.2.1 _ h3) (F.2.2.2.2.1 _ h4) hf hlo hkc hks hd (k p e s m args below meth c F H locs ls hP hD hS hl)
theorem gw_970 : Cond.lays "java/lang/StringBuilder" "java/lang/AbstractStringBuilder" "value" "[B" ∈ GW := GW_t4 206 rfl rfl
theorem gw_972 : Cond.lays "java/lang/StringBuilder" "java/lang/AbstractStringBuilder" "coder" "B" ∈ GW := GW_t4 208 rfl rfl
theorem gw_974 : Cond.lays "java/lang/StringBuilder" "java/lang/AbstractStringBuilder" "maybeLatin1" "Z" ∈ GW := GW_t4 210 rfl rfl
theorem gw_976 : Cond.lays "java/lang/StringBuilder" "java/lang/AbstractStringBuilder" "count" "I" ∈ GW := GW_t4 212 rfl rfl
theorem inG_J4 : ∀ w ∈ u_ws RJ4 TJ4 4, w ∈ GW := by
  have e : u_ws RJ4 TJ4 4 = [u_lay RJ4 TJ4 0, u_lay RJ4 TJ4 1, u_lay RJ4 TJ4 2, u_lay RJ4 TJ4 3] := rfl
  rw [e]
  exact List.forall_mem_cons.mpr ⟨gw_970, List.forall_mem_cons.mpr ⟨gw_972, List.forall_mem_cons.mpr ⟨gw_974, List.forall_mem_cons.mpr ⟨gw_976, fun _ h => absurd h List.not_mem_nil⟩⟩⟩⟩
theorem gw_445 : Cond.laysFinal "java/lang/String" "java/lang/String" "value" "[B" ∈ GW := GW_t2 161 rfl rfl
theorem gw_447 : Cond.laysFinal "java/lang/String" "java/lang/String" "coder" "B" ∈ GW := GW_t2 163 rfl rfl
theorem gw_1182 : Cond.lays "java/lang/String" "java/lang/String" "hash" "I" ∈ GW := GW_t5 178 rfl rfl
theorem gw_1184 : Cond.lays "java/lang/String" "java/lang/String" "hashIsZero" "Z" ∈ GW := GW_t5 180 rfl rfl
theorem inG_J0 : ∀ w ∈ u_ws RJ0 TJ0 4, w ∈ GW := by
  have e : u_ws RJ0 TJ0 4 = [u_lay RJ0 TJ0 0, u_lay RJ0 TJ0 1, u_lay RJ0 TJ0 2, u_lay RJ0 TJ0 3] := rfl
  rw [e]
  exact List.forall_mem_cons.mpr ⟨gw_445, List.forall_mem_cons.mpr ⟨gw_447, List.forall_mem_cons.mpr ⟨gw_1182, List.forall_mem_cons.mpr ⟨gw_1184, fun _ h => absurd h List.not_mem_nil⟩⟩⟩⟩
theorem gw_957 : Cond.fieldLink "java/lang/AbstractStringBuilder" 18 "java/lang/String" "COMPACT_STRINGS" "Z" ∈ GW := GW_t4 193 rfl rfl
theorem gw_967 : Cond.fieldLink "java/lang/AbstractStringBuilder" 22 "java/lang/AbstractStringBuilder" "coder" "B" ∈ GW := GW_t4 203 rfl rfl
theorem gw_1024 : Cond.code yJ5_isLatin1_aae02 cJ5_isLatin1_aae02 1 (some .boolean) ∈ GW := GW_t5 20 rfl rfl
theorem gw_1197 : Cond.code yJ1_canEncode_fc78d cJ1_canEncode_fc78d 1 (some .boolean) ∈ GW := GW_t5 193 rfl rfl
theorem gw_966 : Cond.fieldLink "java/lang/AbstractStringBuilder" 15 "java/lang/AbstractStringBuilder" "value" "[B" ∈ GW := GW_t4 202 rfl rfl
theorem gw_994 : Cond.code yJ5_ensureCapacityInternal_d00df cJ5_ensureCapacityInternal_d00df 3 none ∈ GW := GW_t4 230 rfl rfl
theorem cj_J0_335 : CJ RJ0 335 yJ0_coder_7d493 cJ0_coder_7d493 1 (some .byte) 0 := ⟨gw_1055, gw_62, gw_1058, by decide +kernel, by decide +kernel⟩
theorem gw_1068 : Cond.methodLink "java/lang/AbstractStringBuilder" 40 yJ0_coder_7d493 ∈ GW := GW_t5 64 rfl rfl
theorem cj_J5_40 : CJ RJ5 40 yJ0_coder_7d493 cJ0_coder_7d493 1 (some .byte) 0 := ⟨gw_1068, gw_62, gw_1058, by decide +kernel, by decide +kernel⟩
theorem gw_1067 : Cond.code yJ5_inflateIfNeededFor_a7421 cJ5_inflateIfNeededFor_a7421 2 none ∈ GW := GW_t5 63 rfl rfl
theorem gw_1092 : Cond.methodLink "java/lang/String" 212 arraycopyName ∈ GW := GW_t5 88 rfl rfl
theorem gw_1091 : Cond.code yJ0_getBytes_840e7 cJ0_getBytes_840e7 4 none ∈ GW := GW_t5 87 rfl rfl
theorem gw_1064 : Cond.methodLink "java/lang/AbstractStringBuilder" 397 yJ5_inflateIfNeededFor_a7421 ∈ GW := GW_t5 60 rfl rfl
theorem gw_69 : Cond.initialized "java/lang/AbstractStringBuilder" ∈ GW := GW_t1 25 rfl rfl
theorem cj_J5_397 : CJ RJ5 397 yJ5_inflateIfNeededFor_a7421 cJ5_inflateIfNeededFor_a7421 2 none 1 := ⟨gw_1064, gw_69, gw_1067, by decide +kernel, by decide +kernel⟩
theorem gw_1066 : Cond.instanceMethod yJ5_inflateIfNeededFor_a7421 ∈ GW := GW_t5 62 rfl rfl
theorem sl_J5_inflateIfNeededFor_a7421 : ∀ (args : Array Value) (s : State), (∀ w ∈ GW, w.before args s = true) → (Cond.selects RJ4 yJ5_inflateIfNeededFor_a7421 yJ5_inflateIfNeededFor_a7421).before args s = true := fun _ _ h => h _ (GW_sp 2 rfl)
theorem gw_1088 : Cond.methodLink "java/lang/AbstractStringBuilder" 399 yJ0_getBytes_840e7 ∈ GW := GW_t5 84 rfl rfl
theorem cj_J5_399 : CJ RJ5 399 yJ0_getBytes_840e7 cJ0_getBytes_840e7 4 none 3 := ⟨gw_1088, gw_62, gw_1091, by decide +kernel, by decide +kernel⟩
theorem gw_1089 : Cond.instanceMethod yJ0_getBytes_840e7 ∈ GW := GW_t5 85 rfl rfl
theorem gw_1090 : Cond.selects yJ0_getBytes_840e7.cls yJ0_getBytes_840e7 yJ0_getBytes_840e7 ∈ GW := GW_t5 86 rfl rfl
theorem gw_1063 : Cond.code yJ5_putStringAt_47b60 cJ5_putStringAt_47b60 3 none ∈ GW := GW_t5 59 rfl rfl
theorem gw_1051 : Cond.methodLink "java/lang/AbstractStringBuilder" 32 yJ0_length_8abf5 ∈ GW := GW_t5 47 rfl rfl
theorem cj_J5_32 : CJ RJ5 32 yJ0_length_8abf5 cJ0_length_8abf5 1 (some .int) 0 := ⟨gw_1051, gw_62, gw_1054, by decide +kernel, by decide +kernel⟩
theorem gw_969 : Cond.fieldLink "java/lang/AbstractStringBuilder" 79 "java/lang/AbstractStringBuilder" "count" "I" ∈ GW := GW_t4 205 rfl rfl
theorem gw_991 : Cond.methodLink "java/lang/AbstractStringBuilder" 100 yJ5_ensureCapacityInternal_d00df ∈ GW := GW_t4 227 rfl rfl
theorem cj_J5_100 : CJ RJ5 100 yJ5_ensureCapacityInternal_d00df cJ5_ensureCapacityInternal_d00df 3 none 1 := ⟨gw_991, gw_69, gw_994, by decide +kernel, by decide +kernel⟩
theorem gw_993 : Cond.instanceMethod yJ5_ensureCapacityInternal_d00df ∈ GW := GW_t4 229 rfl rfl
theorem sl_J5_ensureCapacityInternal_d00df : ∀ (args : Array Value) (s : State), (∀ w ∈ GW, w.before args s = true) → (Cond.selects RJ4 yJ5_ensureCapacityInternal_d00df yJ5_ensureCapacityInternal_d00df).before args s = true := fun _ _ h => h _ (GW_sp 0 rfl)
theorem gw_1060 : Cond.methodLink "java/lang/AbstractStringBuilder" 208 yJ5_putStringAt_47b60 ∈ GW := GW_t5 56 rfl rfl
theorem cj_J5_208 : CJ RJ5 208 yJ5_putStringAt_47b60 cJ5_putStringAt_47b60 3 none 2 := ⟨gw_1060, gw_69, gw_1063, by decide +kernel, by decide +kernel⟩
theorem gw_1062 : Cond.instanceMethod yJ5_putStringAt_47b60 ∈ GW := GW_t5 58 rfl rfl
theorem sl_J5_putStringAt_47b60 : ∀ (args : Array Value) (s : State), (∀ w ∈ GW, w.before args s = true) → (Cond.selects RJ4 yJ5_putStringAt_47b60 yJ5_putStringAt_47b60).before args s = true := fun _ _ h => h _ (GW_sp 1 rfl)
theorem gw_986 : Cond.code yJ5_append_cf1ce cJ5_append_cf1ce 3 (some (.object "java/lang/AbstractStringBuilder")) ∈ GW := GW_t4 222 rfl rfl
theorem gw_984 : Cond.methodLink "java/lang/StringBuilder" 29 yJ5_append_cf1ce ∈ GW := GW_t4 220 rfl rfl
theorem cj_J4_29 : CJ RJ4 29 yJ5_append_cf1ce cJ5_append_cf1ce 3 (some (.object "java/lang/AbstractStringBuilder")) 1 := ⟨gw_984, gw_69, gw_986, by decide +kernel, by decide +kernel⟩
theorem gw_985 : Cond.instanceMethod yJ5_append_cf1ce ∈ GW := GW_t4 221 rfl rfl
theorem gw_1652 : Cond.sameMethod "java/lang/AbstractStringBuilder" "java/lang/AbstractStringBuilder" "append" "(Ljava/lang/String;)Ljava/lang/AbstractStringBuilder;" ∈ GW := GW_t7 168 rfl rfl
theorem gw_978 : Cond.superclass "java/lang/StringBuilder" "java/lang/AbstractStringBuilder" ∈ GW := GW_t4 214 rfl rfl
theorem gw_983 : Cond.code yJ4_append_15ec4 cJ4_append_15ec4 2 (some (.object "java/lang/StringBuilder")) ∈ GW := GW_t4 219 rfl rfl
theorem gw_1020 : Cond.methodLink "java/lang/AbstractStringBuilder" 83 yJ5_isLatin1_aae02 ∈ GW := GW_t5 16 rfl rfl
theorem cj_J5_83 : CJ RJ5 83 yJ5_isLatin1_aae02 cJ5_isLatin1_aae02 1 (some .boolean) 0 := ⟨gw_1020, gw_69, gw_1024, by decide +kernel, by decide +kernel⟩
theorem gw_1021 : Cond.instanceMethod yJ5_isLatin1_aae02 ∈ GW := GW_t5 17 rfl rfl
theorem gw_1023 : Cond.selects "java/lang/StringBuilder" yJ5_isLatin1_aae02 yJ5_isLatin1_aae02 ∈ GW := GW_t5 19 rfl rfl
theorem sl_J5_isLatin1_aae02 : ∀ (args : Array Value) (s : State), (∀ w ∈ GW, w.before args s = true) → (Cond.selects RJ4 yJ5_isLatin1_aae02 yJ5_isLatin1_aae02).before args s = true := fun _ _ h => h _ gw_1023
theorem gw_1195 : Cond.methodLink "java/lang/AbstractStringBuilder" 191 yJ1_canEncode_fc78d ∈ GW := GW_t5 191 rfl rfl
theorem cj_J5_191 : CJ RJ5 191 yJ1_canEncode_fc78d cJ1_canEncode_fc78d 1 (some .boolean) 1 := ⟨gw_1195, gw_75, gw_1197, by decide +kernel, by decide +kernel⟩
theorem gw_1196 : Cond.static yJ1_canEncode_fc78d ∈ GW := GW_t5 192 rfl rfl
theorem gw_1194 : Cond.code yJ5_append_3fe6f cJ5_append_3fe6f 2 (some (.object "java/lang/AbstractStringBuilder")) ∈ GW := GW_t5 190 rfl rfl
theorem gw_1192 : Cond.methodLink "java/lang/StringBuilder" 50 yJ5_append_3fe6f ∈ GW := GW_t5 188 rfl rfl
theorem cj_J4_50 : CJ RJ4 50 yJ5_append_3fe6f cJ5_append_3fe6f 2 (some (.object "java/lang/AbstractStringBuilder")) 1 := ⟨gw_1192, gw_69, gw_1194, by decide +kernel, by decide +kernel⟩
theorem gw_1193 : Cond.instanceMethod yJ5_append_3fe6f ∈ GW := GW_t5 189 rfl rfl
theorem gw_1660 : Cond.sameMethod "java/lang/AbstractStringBuilder" "java/lang/AbstractStringBuilder" "append" "(C)Ljava/lang/AbstractStringBuilder;" ∈ GW := GW_t7 176 rfl rfl
theorem gw_1191 : Cond.code yJ4_append_cf468 cJ4_append_cf468 2 (some (.object "java/lang/StringBuilder")) ∈ GW := GW_t5 187 rfl rfl
theorem gw_1103 : Cond.code yJ6_stringSize_0f7a4 cJ6_stringSize_0f7a4 4 (some .int) ∈ GW := GW_t5 99 rfl rfl
theorem gw_1107 : Cond.fieldLink "java/lang/Integer" 83 "java/lang/Integer" "DigitOnes" "[B" ∈ GW := GW_t5 103 rfl rfl
theorem gw_1106 : Cond.code yJ6_getChars_ba4f3 cJ6_getChars_ba4f3 7 (some .int) ∈ GW := GW_t5 102 rfl rfl
theorem gw_1109 : Cond.fieldLink "java/lang/Integer" 87 "java/lang/Integer" "DigitTens" "[B" ∈ GW := GW_t5 105 rfl rfl
theorem gw_1101 : Cond.methodLink "java/lang/AbstractStringBuilder" 245 yJ6_stringSize_0f7a4 ∈ GW := GW_t5 97 rfl rfl
theorem cj_J5_245 : CJ RJ5 245 yJ6_stringSize_0f7a4 cJ6_stringSize_0f7a4 4 (some .int) 1 := ⟨gw_1101, gw_67, gw_1103, by decide +kernel, by decide +kernel⟩
theorem gw_1102 : Cond.static yJ6_stringSize_0f7a4 ∈ GW := GW_t5 98 rfl rfl
theorem gw_1104 : Cond.methodLink "java/lang/AbstractStringBuilder" 248 yJ6_getChars_ba4f3 ∈ GW := GW_t5 100 rfl rfl
theorem cj_J5_248 : CJ RJ5 248 yJ6_getChars_ba4f3 cJ6_getChars_ba4f3 7 (some .int) 3 := ⟨gw_1104, gw_67, gw_1106, by decide +kernel, by decide +kernel⟩
theorem gw_1105 : Cond.static yJ6_getChars_ba4f3 ∈ GW := GW_t5 101 rfl rfl
theorem gw_1100 : Cond.code yJ5_append_c97b9 cJ5_append_c97b9 4 (some (.object "java/lang/AbstractStringBuilder")) ∈ GW := GW_t5 96 rfl rfl
theorem gw_1098 : Cond.methodLink "java/lang/StringBuilder" 53 yJ5_append_c97b9 ∈ GW := GW_t5 94 rfl rfl
theorem cj_J4_53 : CJ RJ4 53 yJ5_append_c97b9 cJ5_append_c97b9 4 (some (.object "java/lang/AbstractStringBuilder")) 1 := ⟨gw_1098, gw_69, gw_1100, by decide +kernel, by decide +kernel⟩
theorem gw_1099 : Cond.instanceMethod yJ5_append_c97b9 ∈ GW := GW_t5 95 rfl rfl
theorem gw_1659 : Cond.sameMethod "java/lang/AbstractStringBuilder" "java/lang/AbstractStringBuilder" "append" "(I)Ljava/lang/AbstractStringBuilder;" ∈ GW := GW_t7 175 rfl rfl
theorem gw_1097 : Cond.code yJ4_append_bf812 cJ4_append_bf812 2 (some (.object "java/lang/StringBuilder")) ∈ GW := GW_t5 93 rfl rfl
theorem gw_1137 : Cond.code yJ5_getValue_6d5f1 cJ5_getValue_6d5f1 1 (some (.array .byte)) ∈ GW := GW_t5 133 rfl rfl
theorem gw_1145 : Cond.code yJ5_length_8abf5 cJ5_length_8abf5 1 (some .int) ∈ GW := GW_t5 141 rfl rfl
theorem gw_1144 : Cond.methodLink "java/lang/StringBuilder" 343 yJ5_length_8abf5 ∈ GW := GW_t5 140 rfl rfl
theorem cj_J4_343 : CJ RJ4 343 yJ5_length_8abf5 cJ5_length_8abf5 1 (some .int) 0 := ⟨gw_1144, gw_69, gw_1145, by decide +kernel, by decide +kernel⟩
theorem gw_1139 : Cond.instanceMethod yJ5_length_8abf5 ∈ GW := GW_t5 135 rfl rfl
theorem gw_1140 : Cond.sameMethod "java/lang/AbstractStringBuilder" "java/lang/AbstractStringBuilder" "length" "()I" ∈ GW := GW_t5 136 rfl rfl
theorem gw_1143 : Cond.code yJ4_length_8abf5 cJ4_length_8abf5 1 (some .int) ∈ GW := GW_t5 139 rfl rfl
theorem gw_1155 : Cond.code yJ7_checkLength_df160 cJ7_checkLength_df160 2 none ∈ GW := GW_t5 151 rfl rfl
theorem gw_1153 : Cond.methodLink "java/util/Arrays" 343 yJ7_checkLength_df160 ∈ GW := GW_t5 149 rfl rfl
theorem gw_73 : Cond.initialized "java/util/Arrays" ∈ GW := GW_t1 29 rfl rfl
theorem cj_J7_343 : CJ RJ7 343 yJ7_checkLength_df160 cJ7_checkLength_df160 2 none 2 := ⟨gw_1153, gw_73, gw_1155, by decide +kernel, by decide +kernel⟩
theorem gw_1154 : Cond.static yJ7_checkLength_df160 ∈ GW := GW_t5 150 rfl rfl
theorem gw_444 : Cond.arrayClass Jvm.ClassFile.FieldType.byte ∈ GW := GW_t2 160 rfl rfl
theorem gw_1018 : Cond.methodLink "java/util/Arrays" 304 Lib.Math.min.name ∈ GW := GW_t5 14 rfl rfl
theorem gw_1019 : Cond.methodLink "java/util/Arrays" 150 arraycopyName ∈ GW := GW_t5 15 rfl rfl
theorem gw_1152 : Cond.code yJ7_copyOfRangeByte_39247 cJ7_copyOfRangeByte_39247 5 (some (.array .byte)) ∈ GW := GW_t5 148 rfl rfl
theorem gw_1150 : Cond.methodLink "java/util/Arrays" 339 yJ7_copyOfRangeByte_39247 ∈ GW := GW_t5 146 rfl rfl
theorem cj_J7_339 : CJ RJ7 339 yJ7_copyOfRangeByte_39247 cJ7_copyOfRangeByte_39247 5 (some (.array .byte)) 3 := ⟨gw_1150, gw_73, gw_1152, by decide +kernel, by decide +kernel⟩
theorem gw_1151 : Cond.static yJ7_copyOfRangeByte_39247 ∈ GW := GW_t5 147 rfl rfl
theorem gw_1149 : Cond.code yJ7_copyOfRange_39247 cJ7_copyOfRange_39247 3 (some (.array .byte)) ∈ GW := GW_t5 145 rfl rfl
theorem gw_1011 : Cond.methodLink "java/util/Arrays" 310 ⟨"[B","clone","()Ljava/lang/Object;"⟩ ∈ GW := GW_t5 7 rfl rfl
theorem gw_1012 : Cond.sameMethod "[B" "java/lang/Object" "clone" "()Ljava/lang/Object;" ∈ GW := GW_t5 8 rfl rfl
theorem gw_1013 : Cond.native ⟨"java/lang/Object","clone","()Ljava/lang/Object;"⟩ ∈ GW := GW_t5 9 rfl rfl
theorem gw_1014 : Cond.instanceMethod ⟨"java/lang/Object","clone","()Ljava/lang/Object;"⟩ ∈ GW := GW_t5 10 rfl rfl
theorem gw_1015 : Cond.selects "[B" ⟨"[B","clone","()Ljava/lang/Object;"⟩ ⟨"java/lang/Object","clone","()Ljava/lang/Object;"⟩ ∈ GW := GW_t5 11 rfl rfl
theorem gw_1017 : Cond.classLink "java/util/Arrays" 311 "[B" ∈ GW := GW_t5 13 rfl rfl
theorem gw_1132 : Cond.methodLink "java/lang/String" 1 ⟨"java/lang/Object","<init>","()V"⟩ ∈ GW := GW_t5 128 rfl rfl
theorem gw_84 : Cond.instanceMethod ⟨"java/lang/Object","<init>","()V"⟩ ∈ GW := GW_t1 40 rfl rfl
theorem gw_85 : Cond.code Lib.objectInit ⟨#[0xb1]⟩ 1 none ∈ GW := GW_t1 41 rfl rfl
theorem gw_1133 : Cond.methodLink "java/lang/String" 552 yJ5_getValue_6d5f1 ∈ GW := GW_t5 129 rfl rfl
theorem cj_J0_552 : CJ RJ0 552 yJ5_getValue_6d5f1 cJ5_getValue_6d5f1 1 (some (.array .byte)) 0 := ⟨gw_1133, gw_69, gw_1137, by decide +kernel, by decide +kernel⟩
theorem gw_1134 : Cond.instanceMethod yJ5_getValue_6d5f1 ∈ GW := GW_t5 130 rfl rfl
theorem gw_1136 : Cond.selects "java/lang/StringBuilder" yJ5_getValue_6d5f1 yJ5_getValue_6d5f1 ∈ GW := GW_t5 132 rfl rfl
theorem sl_J5_getValue_6d5f1 : ∀ (args : Array Value) (s : State), (∀ w ∈ GW, w.before args s = true) → (Cond.selects RJ4 yJ5_getValue_6d5f1 yJ5_getValue_6d5f1).before args s = true := fun _ _ h => h _ gw_1136
theorem gw_1138 : Cond.methodLink "java/lang/String" 549 yJ5_length_8abf5 ∈ GW := GW_t5 134 rfl rfl
theorem gw_1141 : Cond.selects "java/lang/StringBuilder" yJ5_length_8abf5 yJ4_length_8abf5 ∈ GW := GW_t5 137 rfl rfl
theorem gw_1142 : Cond.instanceMethod yJ4_length_8abf5 ∈ GW := GW_t5 138 rfl rfl
theorem gw_70 : Cond.initialized "java/lang/StringBuilder" ∈ GW := GW_t1 26 rfl rfl
theorem gw_1146 : Cond.methodLink "java/lang/String" 1047 yJ5_isLatin1_aae02 ∈ GW := GW_t5 142 rfl rfl
theorem cj_J0_1047 : CJ RJ0 1047 yJ5_isLatin1_aae02 cJ5_isLatin1_aae02 1 (some .boolean) 0 := ⟨gw_1146, gw_69, gw_1024, by decide +kernel, by decide +kernel⟩
theorem gw_1147 : Cond.methodLink "java/lang/String" 54 yJ7_copyOfRange_39247 ∈ GW := GW_t5 143 rfl rfl
theorem cj_J0_54 : CJ RJ0 54 yJ7_copyOfRange_39247 cJ7_copyOfRange_39247 3 (some (.array .byte)) 3 := ⟨gw_1147, gw_73, gw_1149, by decide +kernel, by decide +kernel⟩
theorem gw_1148 : Cond.static yJ7_copyOfRange_39247 ∈ GW := GW_t5 144 rfl rfl
theorem gw_1131 : Cond.code yJ0_init_db425 cJ0_init_db425 5 none ∈ GW := GW_t5 127 rfl rfl
theorem gw_1129 : Cond.methodLink "java/lang/String" 489 yJ0_init_db425 ∈ GW := GW_t5 125 rfl rfl
theorem cj_J0_489 : CJ RJ0 489 yJ0_init_db425 cJ0_init_db425 5 none 2 := ⟨gw_1129, gw_62, gw_1131, by decide +kernel, by decide +kernel⟩
theorem gw_1130 : Cond.instanceMethod yJ0_init_db425 ∈ GW := GW_t5 126 rfl rfl
theorem gw_1128 : Cond.code yJ0_init_81219 cJ0_init_81219 2 none ∈ GW := GW_t5 124 rfl rfl
theorem gw_1125 : Cond.classLink "java/lang/StringBuilder" 18 "java/lang/String" ∈ GW := GW_t5 121 rfl rfl
theorem gw_443 : Cond.instantiable "java/lang/String" 4 ∈ GW := GW_t2 159 rfl rfl
theorem gw_1126 : Cond.methodLink "java/lang/StringBuilder" 137 yJ0_init_81219 ∈ GW := GW_t5 122 rfl rfl
theorem cj_J4_137 : CJ RJ4 137 yJ0_init_81219 cJ0_init_81219 2 none 1 := ⟨gw_1126, gw_62, gw_1128, by decide +kernel, by decide +kernel⟩
theorem gw_1127 : Cond.instanceMethod yJ0_init_81219 ∈ GW := GW_t5 123 rfl rfl
theorem gw_1124 : Cond.code yJ4_toString_0e30d cJ4_toString_0e30d 1 (some (.object "java/lang/String")) ∈ GW := GW_t5 120 rfl rfl
theorem gw_956 : Cond.methodLink "java/lang/AbstractStringBuilder" 3 ⟨"java/lang/Object","<init>","()V"⟩ ∈ GW := GW_t4 192 rfl rfl
theorem gw_955 : Cond.code yJ5_init_d00df cJ5_init_d00df 2 none ∈ GW := GW_t4 191 rfl rfl
theorem gw_953 : Cond.methodLink "java/lang/StringBuilder" 1 yJ5_init_d00df ∈ GW := GW_t4 189 rfl rfl
theorem cj_J4_1 : CJ RJ4 1 yJ5_init_d00df cJ5_init_d00df 2 none 1 := ⟨gw_953, gw_69, gw_955, by decide +kernel, by decide +kernel⟩
theorem gw_954 : Cond.instanceMethod yJ5_init_d00df ∈ GW := GW_t4 190 rfl rfl
theorem gw_952 : Cond.code yJ4_init_da8c8 cJ4_init_da8c8 1 none ∈ GW := GW_t4 188 rfl rfl
theorem gw_981 : Cond.instanceMethod yJ4_append_15ec4 ∈ GW := GW_t4 217 rfl rfl
theorem zc_S {own : String} {index : Nat} (h : Cond.methodLink own index yJ4_append_15ec4 ∈ GW) : CJ own index yJ4_append_15ec4 cJ4_append_15ec4 2 (some (.object "java/lang/StringBuilder")) 1 := ⟨h, gw_70, gw_983, by decide +kernel, by decide +kernel⟩
theorem zi_S : Cond.instanceMethod yJ4_append_15ec4 ∈ GW := gw_981
theorem gw_1189 : Cond.instanceMethod yJ4_append_cf468 ∈ GW := GW_t5 185 rfl rfl
theorem zc_C {own : String} {index : Nat} (h : Cond.methodLink own index yJ4_append_cf468 ∈ GW) : CJ own index yJ4_append_cf468 cJ4_append_cf468 2 (some (.object "java/lang/StringBuilder")) 1 := ⟨h, gw_70, gw_1191, by decide +kernel, by decide +kernel⟩
theorem zi_C : Cond.instanceMethod yJ4_append_cf468 ∈ GW := gw_1189
theorem gw_1095 : Cond.instanceMethod yJ4_append_bf812 ∈ GW := GW_t5 91 rfl rfl
theorem zc_I {own : String} {index : Nat} (h : Cond.methodLink own index yJ4_append_bf812 ∈ GW) : CJ own index yJ4_append_bf812 cJ4_append_bf812 2 (some (.object "java/lang/StringBuilder")) 1 := ⟨h, gw_70, gw_1097, by decide +kernel, by decide +kernel⟩
theorem zi_I : Cond.instanceMethod yJ4_append_bf812 ∈ GW := gw_1095
theorem gw_1122 : Cond.instanceMethod yJ4_toString_0e30d ∈ GW := GW_t5 118 rfl rfl
theorem zc_T {own : String} {index : Nat} (h : Cond.methodLink own index yJ4_toString_0e30d ∈ GW) : CJ own index yJ4_toString_0e30d cJ4_toString_0e30d 1 (some (.object "java/lang/String")) 0 := ⟨h, gw_70, gw_1124, by decide +kernel, by decide +kernel⟩
theorem zi_T : Cond.instanceMethod yJ4_toString_0e30d ∈ GW := gw_1122
theorem gw_951 : Cond.instanceMethod yJ4_init_da8c8 ∈ GW := GW_t4 187 rfl rfl
theorem zc_N {own : String} {index : Nat} (h : Cond.methodLink own index yJ4_init_da8c8 ∈ GW) : CJ own index yJ4_init_da8c8 cJ4_init_da8c8 1 none 0 := ⟨h, gw_70, gw_952, by decide +kernel, by decide +kernel⟩
theorem zi_N : Cond.instanceMethod yJ4_init_da8c8 ∈ GW := gw_951
theorem gw_982 : Cond.selects yJ4_append_15ec4.cls yJ4_append_15ec4 yJ4_append_15ec4 ∈ GW := GW_t4 218 rfl rfl
theorem sl_J4_append_15ec4 : ∀ (args : Array Value) (s : State), (∀ w ∈ GW, w.before args s = true) → (Cond.selects RJ4 yJ4_append_15ec4 yJ4_append_15ec4).before args s = true := fun _ _ h => h _ gw_982
theorem gw_1190 : Cond.selects yJ4_append_cf468.cls yJ4_append_cf468 yJ4_append_cf468 ∈ GW := GW_t5 186 rfl rfl
theorem sl_J4_append_cf468 : ∀ (args : Array Value) (s : State), (∀ w ∈ GW, w.before args s = true) → (Cond.selects RJ4 yJ4_append_cf468 yJ4_append_cf468).before args s = true := fun _ _ h => h _ gw_1190
theorem gw_1096 : Cond.selects yJ4_append_bf812.cls yJ4_append_bf812 yJ4_append_bf812 ∈ GW := GW_t5 92 rfl rfl
theorem sl_J4_append_bf812 : ∀ (args : Array Value) (s : State), (∀ w ∈ GW, w.before args s = true) → (Cond.selects RJ4 yJ4_append_bf812 yJ4_append_bf812).before args s = true := fun _ _ h => h _ gw_1096
theorem gw_1123 : Cond.selects yJ4_toString_0e30d.cls yJ4_toString_0e30d yJ4_toString_0e30d ∈ GW := GW_t5 119 rfl rfl
theorem sl_J4_toString_0e30d : ∀ (args : Array Value) (s : State), (∀ w ∈ GW, w.before args s = true) → (Cond.selects RJ4 yJ4_toString_0e30d yJ4_toString_0e30d).before args s = true := fun _ _ h => h _ gw_1123
theorem gw_949 : Cond.instantiable "java/lang/StringBuilder" 4 ∈ GW := GW_t4 185 rfl rfl
theorem zn_inst : Cond.instantiable "java/lang/StringBuilder" 4 ∈ GW := gw_949
theorem zn_ini : Cond.initialized "java/lang/StringBuilder" ∈ GW := gw_70
theorem dJ0_getBytes_840e7_0 : decode cJ0_getBytes_840e7 0 = .ok (.aload_n 0, 1) := by decide +kernel
theorem dJ0_getBytes_840e7_1 : decode cJ0_getBytes_840e7 1 = .ok (.invokevirtual 335, 3) := by decide +kernel
theorem dJ0_getBytes_840e7_4 : decode cJ0_getBytes_840e7 4 = .ok (.iload_n 3, 1) := by decide +kernel
theorem dJ0_getBytes_840e7_5 : decode cJ0_getBytes_840e7 5 = .ok (.if_icmp .ne 23, 3) := by decide +kernel
theorem dJ0_getBytes_840e7_8 : decode cJ0_getBytes_840e7 8 = .ok (.aload_n 0, 1) := by decide +kernel
theorem dJ0_getBytes_840e7_9 : decode cJ0_getBytes_840e7 9 = .ok (.getfield 9, 3) := by decide +kernel
theorem dJ0_getBytes_840e7_12 : decode cJ0_getBytes_840e7 12 = .ok (.iconst 0, 1) := by decide +kernel
theorem dJ0_getBytes_840e7_13 : decode cJ0_getBytes_840e7 13 = .ok (.aload_n 1, 1) := by decide +kernel
theorem dJ0_getBytes_840e7_14 : decode cJ0_getBytes_840e7 14 = .ok (.iload_n 2, 1) := by decide +kernel
theorem dJ0_getBytes_840e7_15 : decode cJ0_getBytes_840e7 15 = .ok (.iload_n 3, 1) := by decide +kernel
theorem dJ0_getBytes_840e7_16 : decode cJ0_getBytes_840e7 16 = .ok (.ishl, 1) := by decide +kernel
theorem dJ0_getBytes_840e7_17 : decode cJ0_getBytes_840e7 17 = .ok (.aload_n 0, 1) := by decide +kernel
theorem dJ0_getBytes_840e7_18 : decode cJ0_getBytes_840e7 18 = .ok (.getfield 9, 3) := by decide +kernel
theorem dJ0_getBytes_840e7_21 : decode cJ0_getBytes_840e7 21 = .ok (.arraylength, 1) := by decide +kernel
theorem dJ0_getBytes_840e7_22 : decode cJ0_getBytes_840e7 22 = .ok (.invokestatic 212, 3) := by decide +kernel
theorem dJ0_getBytes_840e7_25 : decode cJ0_getBytes_840e7 25 = .ok (.goto 18, 3) := by decide +kernel
theorem dJ0_getBytes_840e7_43 : decode cJ0_getBytes_840e7 43 = .ok (.return_, 1) := by decide +kernel
theorem dJ0_init_81219_0 : decode cJ0_init_81219 0 = .ok (.aload_n 0, 1) := by decide +kernel
theorem dJ0_init_81219_1 : decode cJ0_init_81219 1 = .ok (.aload_n 1, 1) := by decide +kernel
theorem dJ0_init_81219_2 : decode cJ0_init_81219 2 = .ok (.aconst_null, 1) := by decide +kernel
theorem dJ0_init_81219_3 : decode cJ0_init_81219 3 = .ok (.invokespecial 489, 3) := by decide +kernel
theorem dJ0_init_81219_6 : decode cJ0_init_81219 6 = .ok (.return_, 1) := by decide +kernel
theorem dJ0_init_db425_0 : decode cJ0_init_db425 0 = .ok (.aload_n 0, 1) := by decide +kernel
theorem dJ0_init_db425_1 : decode cJ0_init_db425 1 = .ok (.invokespecial 1, 3) := by decide +kernel
theorem dJ0_init_db425_4 : decode cJ0_init_db425 4 = .ok (.aload_n 1, 1) := by decide +kernel
theorem dJ0_init_db425_5 : decode cJ0_init_db425 5 = .ok (.invokevirtual 552, 3) := by decide +kernel
theorem dJ0_init_db425_8 : decode cJ0_init_db425 8 = .ok (.astore_n 3, 1) := by decide +kernel
theorem dJ0_init_db425_9 : decode cJ0_init_db425 9 = .ok (.aload_n 1, 1) := by decide +kernel
theorem dJ0_init_db425_10 : decode cJ0_init_db425 10 = .ok (.invokevirtual 549, 3) := by decide +kernel
theorem dJ0_init_db425_13 : decode cJ0_init_db425 13 = .ok (.istore 4, 2) := by decide +kernel
theorem dJ0_init_db425_15 : decode cJ0_init_db425 15 = .ok (.aload_n 1, 1) := by decide +kernel
theorem dJ0_init_db425_16 : decode cJ0_init_db425 16 = .ok (.invokevirtual 1047, 3) := by decide +kernel
theorem dJ0_init_db425_19 : decode cJ0_init_db425 19 = .ok (.ifCond .eq 22, 3) := by decide +kernel
theorem dJ0_init_db425_22 : decode cJ0_init_db425 22 = .ok (.aload_n 0, 1) := by decide +kernel
theorem dJ0_init_db425_23 : decode cJ0_init_db425 23 = .ok (.iconst 0, 1) := by decide +kernel
theorem dJ0_init_db425_24 : decode cJ0_init_db425 24 = .ok (.putfield 15, 3) := by decide +kernel
theorem dJ0_init_db425_27 : decode cJ0_init_db425 27 = .ok (.aload_n 0, 1) := by decide +kernel
theorem dJ0_init_db425_28 : decode cJ0_init_db425 28 = .ok (.aload_n 3, 1) := by decide +kernel
theorem dJ0_init_db425_29 : decode cJ0_init_db425 29 = .ok (.iconst 0, 1) := by decide +kernel
theorem dJ0_init_db425_30 : decode cJ0_init_db425 30 = .ok (.iload 4, 2) := by decide +kernel
theorem dJ0_init_db425_32 : decode cJ0_init_db425 32 = .ok (.invokestatic 54, 3) := by decide +kernel
theorem dJ0_init_db425_35 : decode cJ0_init_db425 35 = .ok (.putfield 9, 3) := by decide +kernel
theorem dJ0_init_db425_38 : decode cJ0_init_db425 38 = .ok (.goto 59, 3) := by decide +kernel
theorem dJ0_init_db425_97 : decode cJ0_init_db425 97 = .ok (.return_, 1) := by decide +kernel
theorem dJ1_canEncode_fc78d_0 : decode cJ1_canEncode_fc78d 0 = .ok (.iload_n 0, 1) := by decide +kernel
theorem dJ1_canEncode_fc78d_1 : decode cJ1_canEncode_fc78d 1 = .ok (.sipush 255, 3) := by decide +kernel
theorem dJ1_canEncode_fc78d_4 : decode cJ1_canEncode_fc78d 4 = .ok (.if_icmp .gt 7, 3) := by decide +kernel
theorem dJ1_canEncode_fc78d_7 : decode cJ1_canEncode_fc78d 7 = .ok (.iconst 1, 1) := by decide +kernel
theorem dJ1_canEncode_fc78d_8 : decode cJ1_canEncode_fc78d 8 = .ok (.goto 4, 3) := by decide +kernel
theorem dJ1_canEncode_fc78d_12 : decode cJ1_canEncode_fc78d 12 = .ok (.ireturn, 1) := by decide +kernel
theorem dJ4_append_15ec4_0 : decode cJ4_append_15ec4 0 = .ok (.aload_n 0, 1) := by decide +kernel
theorem dJ4_append_15ec4_1 : decode cJ4_append_15ec4 1 = .ok (.aload_n 1, 1) := by decide +kernel
theorem dJ4_append_15ec4_2 : decode cJ4_append_15ec4 2 = .ok (.invokespecial 29, 3) := by decide +kernel
theorem dJ4_append_15ec4_5 : decode cJ4_append_15ec4 5 = .ok (.pop, 1) := by decide +kernel
theorem dJ4_append_15ec4_6 : decode cJ4_append_15ec4 6 = .ok (.aload_n 0, 1) := by decide +kernel
theorem dJ4_append_15ec4_7 : decode cJ4_append_15ec4 7 = .ok (.areturn, 1) := by decide +kernel
theorem dJ4_append_bf812_0 : decode cJ4_append_bf812 0 = .ok (.aload_n 0, 1) := by decide +kernel
theorem dJ4_append_bf812_1 : decode cJ4_append_bf812 1 = .ok (.iload_n 1, 1) := by decide +kernel
theorem dJ4_append_bf812_2 : decode cJ4_append_bf812 2 = .ok (.invokespecial 53, 3) := by decide +kernel
theorem dJ4_append_bf812_5 : decode cJ4_append_bf812 5 = .ok (.pop, 1) := by decide +kernel
theorem dJ4_append_bf812_6 : decode cJ4_append_bf812 6 = .ok (.aload_n 0, 1) := by decide +kernel
theorem dJ4_append_bf812_7 : decode cJ4_append_bf812 7 = .ok (.areturn, 1) := by decide +kernel
theorem dJ4_append_cf468_0 : decode cJ4_append_cf468 0 = .ok (.aload_n 0, 1) := by decide +kernel
theorem dJ4_append_cf468_1 : decode cJ4_append_cf468 1 = .ok (.iload_n 1, 1) := by decide +kernel
theorem dJ4_append_cf468_2 : decode cJ4_append_cf468 2 = .ok (.invokespecial 50, 3) := by decide +kernel
theorem dJ4_append_cf468_5 : decode cJ4_append_cf468 5 = .ok (.pop, 1) := by decide +kernel
theorem dJ4_append_cf468_6 : decode cJ4_append_cf468 6 = .ok (.aload_n 0, 1) := by decide +kernel
theorem dJ4_append_cf468_7 : decode cJ4_append_cf468 7 = .ok (.areturn, 1) := by decide +kernel
theorem dJ4_init_da8c8_0 : decode cJ4_init_da8c8 0 = .ok (.aload_n 0, 1) := by decide +kernel
theorem dJ4_init_da8c8_1 : decode cJ4_init_da8c8 1 = .ok (.bipush 16, 2) := by decide +kernel
theorem dJ4_init_da8c8_3 : decode cJ4_init_da8c8 3 = .ok (.invokespecial 1, 3) := by decide +kernel
theorem dJ4_init_da8c8_6 : decode cJ4_init_da8c8 6 = .ok (.return_, 1) := by decide +kernel
theorem dJ4_length_8abf5_0 : decode cJ4_length_8abf5 0 = .ok (.aload_n 0, 1) := by decide +kernel
theorem dJ4_length_8abf5_1 : decode cJ4_length_8abf5 1 = .ok (.invokespecial 343, 3) := by decide +kernel
theorem dJ4_length_8abf5_4 : decode cJ4_length_8abf5 4 = .ok (.ireturn, 1) := by decide +kernel
theorem dJ4_toString_0e30d_0 : decode cJ4_toString_0e30d 0 = .ok (.new 18, 3) := by decide +kernel
theorem dJ4_toString_0e30d_3 : decode cJ4_toString_0e30d 3 = .ok (.dup, 1) := by decide +kernel
theorem dJ4_toString_0e30d_4 : decode cJ4_toString_0e30d 4 = .ok (.aload_n 0, 1) := by decide +kernel
theorem dJ4_toString_0e30d_5 : decode cJ4_toString_0e30d 5 = .ok (.invokespecial 137, 3) := by decide +kernel
theorem dJ4_toString_0e30d_8 : decode cJ4_toString_0e30d 8 = .ok (.areturn, 1) := by decide +kernel
theorem dJ5_append_3fe6f_0 : decode cJ5_append_3fe6f 0 = .ok (.aload_n 0, 1) := by decide +kernel
theorem dJ5_append_3fe6f_1 : decode cJ5_append_3fe6f 1 = .ok (.aload_n 0, 1) := by decide +kernel
theorem dJ5_append_3fe6f_2 : decode cJ5_append_3fe6f 2 = .ok (.getfield 79, 3) := by decide +kernel
theorem dJ5_append_3fe6f_5 : decode cJ5_append_3fe6f 5 = .ok (.iconst 1, 1) := by decide +kernel
theorem dJ5_append_3fe6f_6 : decode cJ5_append_3fe6f 6 = .ok (.iadd, 1) := by decide +kernel
theorem dJ5_append_3fe6f_7 : decode cJ5_append_3fe6f 7 = .ok (.invokevirtual 100, 3) := by decide +kernel
theorem dJ5_append_3fe6f_10 : decode cJ5_append_3fe6f 10 = .ok (.aload_n 0, 1) := by decide +kernel
theorem dJ5_append_3fe6f_11 : decode cJ5_append_3fe6f 11 = .ok (.invokevirtual 83, 3) := by decide +kernel
theorem dJ5_append_3fe6f_14 : decode cJ5_append_3fe6f 14 = .ok (.ifCond .eq 31, 3) := by decide +kernel
theorem dJ5_append_3fe6f_17 : decode cJ5_append_3fe6f 17 = .ok (.iload_n 1, 1) := by decide +kernel
theorem dJ5_append_3fe6f_18 : decode cJ5_append_3fe6f 18 = .ok (.invokestatic 191, 3) := by decide +kernel
theorem dJ5_append_3fe6f_21 : decode cJ5_append_3fe6f 21 = .ok (.ifCond .eq 24, 3) := by decide +kernel
theorem dJ5_append_3fe6f_24 : decode cJ5_append_3fe6f 24 = .ok (.aload_n 0, 1) := by decide +kernel
theorem dJ5_append_3fe6f_25 : decode cJ5_append_3fe6f 25 = .ok (.getfield 15, 3) := by decide +kernel
theorem dJ5_append_3fe6f_28 : decode cJ5_append_3fe6f 28 = .ok (.aload_n 0, 1) := by decide +kernel
theorem dJ5_append_3fe6f_29 : decode cJ5_append_3fe6f 29 = .ok (.dup, 1) := by decide +kernel
theorem dJ5_append_3fe6f_30 : decode cJ5_append_3fe6f 30 = .ok (.getfield 79, 3) := by decide +kernel
theorem dJ5_append_3fe6f_33 : decode cJ5_append_3fe6f 33 = .ok (.dup_x1, 1) := by decide +kernel
theorem dJ5_append_3fe6f_34 : decode cJ5_append_3fe6f 34 = .ok (.iconst 1, 1) := by decide +kernel
theorem dJ5_append_3fe6f_35 : decode cJ5_append_3fe6f 35 = .ok (.iadd, 1) := by decide +kernel
theorem dJ5_append_3fe6f_36 : decode cJ5_append_3fe6f 36 = .ok (.putfield 79, 3) := by decide +kernel
theorem dJ5_append_3fe6f_39 : decode cJ5_append_3fe6f 39 = .ok (.iload_n 1, 1) := by decide +kernel
theorem dJ5_append_3fe6f_40 : decode cJ5_append_3fe6f 40 = .ok (.i2b, 1) := by decide +kernel
theorem dJ5_append_3fe6f_41 : decode cJ5_append_3fe6f 41 = .ok (.bastore, 1) := by decide +kernel
theorem dJ5_append_3fe6f_42 : decode cJ5_append_3fe6f 42 = .ok (.goto 33, 3) := by decide +kernel
theorem dJ5_append_3fe6f_75 : decode cJ5_append_3fe6f 75 = .ok (.aload_n 0, 1) := by decide +kernel
theorem dJ5_append_3fe6f_76 : decode cJ5_append_3fe6f 76 = .ok (.areturn, 1) := by decide +kernel
theorem dJ5_append_c97b9_0 : decode cJ5_append_c97b9 0 = .ok (.aload_n 0, 1) := by decide +kernel
theorem dJ5_append_c97b9_1 : decode cJ5_append_c97b9 1 = .ok (.getfield 79, 3) := by decide +kernel
theorem dJ5_append_c97b9_4 : decode cJ5_append_c97b9 4 = .ok (.istore_n 2, 1) := by decide +kernel
theorem dJ5_append_c97b9_5 : decode cJ5_append_c97b9 5 = .ok (.iload_n 2, 1) := by decide +kernel
theorem dJ5_append_c97b9_6 : decode cJ5_append_c97b9 6 = .ok (.iload_n 1, 1) := by decide +kernel
theorem dJ5_append_c97b9_7 : decode cJ5_append_c97b9 7 = .ok (.invokestatic 245, 3) := by decide +kernel
theorem dJ5_append_c97b9_10 : decode cJ5_append_c97b9 10 = .ok (.iadd, 1) := by decide +kernel
theorem dJ5_append_c97b9_11 : decode cJ5_append_c97b9 11 = .ok (.istore_n 3, 1) := by decide +kernel
theorem dJ5_append_c97b9_12 : decode cJ5_append_c97b9 12 = .ok (.aload_n 0, 1) := by decide +kernel
theorem dJ5_append_c97b9_13 : decode cJ5_append_c97b9 13 = .ok (.iload_n 3, 1) := by decide +kernel
theorem dJ5_append_c97b9_14 : decode cJ5_append_c97b9 14 = .ok (.invokevirtual 100, 3) := by decide +kernel
theorem dJ5_append_c97b9_17 : decode cJ5_append_c97b9 17 = .ok (.aload_n 0, 1) := by decide +kernel
theorem dJ5_append_c97b9_18 : decode cJ5_append_c97b9 18 = .ok (.invokevirtual 83, 3) := by decide +kernel
theorem dJ5_append_c97b9_21 : decode cJ5_append_c97b9 21 = .ok (.ifCond .eq 16, 3) := by decide +kernel
theorem dJ5_append_c97b9_24 : decode cJ5_append_c97b9 24 = .ok (.iload_n 1, 1) := by decide +kernel
theorem dJ5_append_c97b9_25 : decode cJ5_append_c97b9 25 = .ok (.iload_n 3, 1) := by decide +kernel
theorem dJ5_append_c97b9_26 : decode cJ5_append_c97b9 26 = .ok (.aload_n 0, 1) := by decide +kernel
theorem dJ5_append_c97b9_27 : decode cJ5_append_c97b9 27 = .ok (.getfield 15, 3) := by decide +kernel
theorem dJ5_append_c97b9_30 : decode cJ5_append_c97b9 30 = .ok (.invokestatic 248, 3) := by decide +kernel
theorem dJ5_append_c97b9_33 : decode cJ5_append_c97b9 33 = .ok (.pop, 1) := by decide +kernel
theorem dJ5_append_c97b9_34 : decode cJ5_append_c97b9 34 = .ok (.goto 14, 3) := by decide +kernel
theorem dJ5_append_c97b9_48 : decode cJ5_append_c97b9 48 = .ok (.aload_n 0, 1) := by decide +kernel
theorem dJ5_append_c97b9_49 : decode cJ5_append_c97b9 49 = .ok (.iload_n 3, 1) := by decide +kernel
theorem dJ5_append_c97b9_50 : decode cJ5_append_c97b9 50 = .ok (.putfield 79, 3) := by decide +kernel
theorem dJ5_append_c97b9_53 : decode cJ5_append_c97b9 53 = .ok (.aload_n 0, 1) := by decide +kernel
theorem dJ5_append_c97b9_54 : decode cJ5_append_c97b9 54 = .ok (.areturn, 1) := by decide +kernel
theorem dJ5_append_cf1ce_0 : decode cJ5_append_cf1ce 0 = .ok (.aload_n 1, 1) := by decide +kernel
theorem dJ5_append_cf1ce_1 : decode cJ5_append_cf1ce 1 = .ok (.ifnonnull 8, 3) := by decide +kernel
theorem dJ5_append_cf1ce_9 : decode cJ5_append_cf1ce 9 = .ok (.aload_n 1, 1) := by decide +kernel
theorem dJ5_append_cf1ce_10 : decode cJ5_append_cf1ce 10 = .ok (.invokevirtual 32, 3) := by decide +kernel
theorem dJ5_append_cf1ce_13 : decode cJ5_append_cf1ce 13 = .ok (.istore_n 2, 1) := by decide +kernel
theorem dJ5_append_cf1ce_14 : decode cJ5_append_cf1ce 14 = .ok (.aload_n 0, 1) := by decide +kernel
theorem dJ5_append_cf1ce_15 : decode cJ5_append_cf1ce 15 = .ok (.aload_n 0, 1) := by decide +kernel
theorem dJ5_append_cf1ce_16 : decode cJ5_append_cf1ce 16 = .ok (.getfield 79, 3) := by decide +kernel
theorem dJ5_append_cf1ce_19 : decode cJ5_append_cf1ce 19 = .ok (.iload_n 2, 1) := by decide +kernel
theorem dJ5_append_cf1ce_20 : decode cJ5_append_cf1ce 20 = .ok (.iadd, 1) := by decide +kernel
theorem dJ5_append_cf1ce_21 : decode cJ5_append_cf1ce 21 = .ok (.invokevirtual 100, 3) := by decide +kernel
theorem dJ5_append_cf1ce_24 : decode cJ5_append_cf1ce 24 = .ok (.aload_n 0, 1) := by decide +kernel
theorem dJ5_append_cf1ce_25 : decode cJ5_append_cf1ce 25 = .ok (.aload_n 0, 1) := by decide +kernel
theorem dJ5_append_cf1ce_26 : decode cJ5_append_cf1ce 26 = .ok (.getfield 79, 3) := by decide +kernel
theorem dJ5_append_cf1ce_29 : decode cJ5_append_cf1ce 29 = .ok (.aload_n 1, 1) := by decide +kernel
theorem dJ5_append_cf1ce_30 : decode cJ5_append_cf1ce 30 = .ok (.invokevirtual 208, 3) := by decide +kernel
theorem dJ5_append_cf1ce_33 : decode cJ5_append_cf1ce 33 = .ok (.aload_n 0, 1) := by decide +kernel
theorem dJ5_append_cf1ce_34 : decode cJ5_append_cf1ce 34 = .ok (.dup, 1) := by decide +kernel
theorem dJ5_append_cf1ce_35 : decode cJ5_append_cf1ce 35 = .ok (.getfield 79, 3) := by decide +kernel
theorem dJ5_append_cf1ce_38 : decode cJ5_append_cf1ce 38 = .ok (.iload_n 2, 1) := by decide +kernel
theorem dJ5_append_cf1ce_39 : decode cJ5_append_cf1ce 39 = .ok (.iadd, 1) := by decide +kernel
theorem dJ5_append_cf1ce_40 : decode cJ5_append_cf1ce 40 = .ok (.putfield 79, 3) := by decide +kernel
theorem dJ5_append_cf1ce_43 : decode cJ5_append_cf1ce 43 = .ok (.aload_n 0, 1) := by decide +kernel
theorem dJ5_append_cf1ce_44 : decode cJ5_append_cf1ce 44 = .ok (.areturn, 1) := by decide +kernel
theorem dJ5_ensureCapacityInternal_d00df_0 : decode cJ5_ensureCapacityInternal_d00df 0 = .ok (.aload_n 0, 1) := by decide +kernel
theorem dJ5_ensureCapacityInternal_d00df_1 : decode cJ5_ensureCapacityInternal_d00df 1 = .ok (.getfield 15, 3) := by decide +kernel
theorem dJ5_ensureCapacityInternal_d00df_4 : decode cJ5_ensureCapacityInternal_d00df 4 = .ok (.arraylength, 1) := by decide +kernel
theorem dJ5_ensureCapacityInternal_d00df_5 : decode cJ5_ensureCapacityInternal_d00df 5 = .ok (.aload_n 0, 1) := by decide +kernel
theorem dJ5_ensureCapacityInternal_d00df_6 : decode cJ5_ensureCapacityInternal_d00df 6 = .ok (.getfield 22, 3) := by decide +kernel
theorem dJ5_ensureCapacityInternal_d00df_9 : decode cJ5_ensureCapacityInternal_d00df 9 = .ok (.ishr, 1) := by decide +kernel
theorem dJ5_ensureCapacityInternal_d00df_10 : decode cJ5_ensureCapacityInternal_d00df 10 = .ok (.istore_n 2, 1) := by decide +kernel
theorem dJ5_ensureCapacityInternal_d00df_11 : decode cJ5_ensureCapacityInternal_d00df 11 = .ok (.iload_n 1, 1) := by decide +kernel
theorem dJ5_ensureCapacityInternal_d00df_12 : decode cJ5_ensureCapacityInternal_d00df 12 = .ok (.iload_n 2, 1) := by decide +kernel
theorem dJ5_ensureCapacityInternal_d00df_13 : decode cJ5_ensureCapacityInternal_d00df 13 = .ok (.isub, 1) := by decide +kernel
theorem dJ5_ensureCapacityInternal_d00df_14 : decode cJ5_ensureCapacityInternal_d00df 14 = .ok (.ifCond .le 24, 3) := by decide +kernel
theorem dJ5_ensureCapacityInternal_d00df_38 : decode cJ5_ensureCapacityInternal_d00df 38 = .ok (.return_, 1) := by decide +kernel
theorem dJ5_getValue_6d5f1_0 : decode cJ5_getValue_6d5f1 0 = .ok (.aload_n 0, 1) := by decide +kernel
theorem dJ5_getValue_6d5f1_1 : decode cJ5_getValue_6d5f1 1 = .ok (.getfield 15, 3) := by decide +kernel
theorem dJ5_getValue_6d5f1_4 : decode cJ5_getValue_6d5f1 4 = .ok (.areturn, 1) := by decide +kernel
theorem dJ5_inflateIfNeededFor_a7421_0 : decode cJ5_inflateIfNeededFor_a7421 0 = .ok (.getstatic 18, 3) := by decide +kernel
theorem dJ5_inflateIfNeededFor_a7421_3 : decode cJ5_inflateIfNeededFor_a7421 3 = .ok (.ifCond .eq 18, 3) := by decide +kernel
theorem dJ5_inflateIfNeededFor_a7421_6 : decode cJ5_inflateIfNeededFor_a7421 6 = .ok (.aload_n 0, 1) := by decide +kernel
theorem dJ5_inflateIfNeededFor_a7421_7 : decode cJ5_inflateIfNeededFor_a7421 7 = .ok (.getfield 22, 3) := by decide +kernel
theorem dJ5_inflateIfNeededFor_a7421_10 : decode cJ5_inflateIfNeededFor_a7421 10 = .ok (.aload_n 1, 1) := by decide +kernel
theorem dJ5_inflateIfNeededFor_a7421_11 : decode cJ5_inflateIfNeededFor_a7421 11 = .ok (.invokevirtual 40, 3) := by decide +kernel
theorem dJ5_inflateIfNeededFor_a7421_14 : decode cJ5_inflateIfNeededFor_a7421 14 = .ok (.if_icmp .eq 7, 3) := by decide +kernel
theorem dJ5_inflateIfNeededFor_a7421_21 : decode cJ5_inflateIfNeededFor_a7421 21 = .ok (.return_, 1) := by decide +kernel
theorem dJ5_init_d00df_0 : decode cJ5_init_d00df 0 = .ok (.aload_n 0, 1) := by decide +kernel
theorem dJ5_init_d00df_1 : decode cJ5_init_d00df 1 = .ok (.invokespecial 3, 3) := by decide +kernel
theorem dJ5_init_d00df_4 : decode cJ5_init_d00df 4 = .ok (.getstatic 18, 3) := by decide +kernel
theorem dJ5_init_d00df_7 : decode cJ5_init_d00df 7 = .ok (.ifCond .eq 18, 3) := by decide +kernel
theorem dJ5_init_d00df_10 : decode cJ5_init_d00df 10 = .ok (.aload_n 0, 1) := by decide +kernel
theorem dJ5_init_d00df_11 : decode cJ5_init_d00df 11 = .ok (.iload_n 1, 1) := by decide +kernel
theorem dJ5_init_d00df_12 : decode cJ5_init_d00df 12 = .ok (.newarray .byte, 2) := by decide +kernel
theorem dJ5_init_d00df_14 : decode cJ5_init_d00df 14 = .ok (.putfield 15, 3) := by decide +kernel
theorem dJ5_init_d00df_17 : decode cJ5_init_d00df 17 = .ok (.aload_n 0, 1) := by decide +kernel
theorem dJ5_init_d00df_18 : decode cJ5_init_d00df 18 = .ok (.iconst 0, 1) := by decide +kernel
theorem dJ5_init_d00df_19 : decode cJ5_init_d00df 19 = .ok (.putfield 22, 3) := by decide +kernel
theorem dJ5_init_d00df_22 : decode cJ5_init_d00df 22 = .ok (.goto 16, 3) := by decide +kernel
theorem dJ5_init_d00df_38 : decode cJ5_init_d00df 38 = .ok (.return_, 1) := by decide +kernel
theorem dJ5_isLatin1_aae02_0 : decode cJ5_isLatin1_aae02 0 = .ok (.getstatic 18, 3) := by decide +kernel
theorem dJ5_isLatin1_aae02_3 : decode cJ5_isLatin1_aae02 3 = .ok (.ifCond .eq 14, 3) := by decide +kernel
theorem dJ5_isLatin1_aae02_6 : decode cJ5_isLatin1_aae02 6 = .ok (.aload_n 0, 1) := by decide +kernel
theorem dJ5_isLatin1_aae02_7 : decode cJ5_isLatin1_aae02 7 = .ok (.getfield 22, 3) := by decide +kernel
theorem dJ5_isLatin1_aae02_10 : decode cJ5_isLatin1_aae02 10 = .ok (.ifCond .ne 7, 3) := by decide +kernel
theorem dJ5_isLatin1_aae02_13 : decode cJ5_isLatin1_aae02 13 = .ok (.iconst 1, 1) := by decide +kernel
theorem dJ5_isLatin1_aae02_14 : decode cJ5_isLatin1_aae02 14 = .ok (.goto 4, 3) := by decide +kernel
theorem dJ5_isLatin1_aae02_18 : decode cJ5_isLatin1_aae02 18 = .ok (.ireturn, 1) := by decide +kernel
theorem dJ5_length_8abf5_0 : decode cJ5_length_8abf5 0 = .ok (.aload_n 0, 1) := by decide +kernel
theorem dJ5_length_8abf5_1 : decode cJ5_length_8abf5 1 = .ok (.getfield 79, 3) := by decide +kernel
theorem dJ5_length_8abf5_4 : decode cJ5_length_8abf5 4 = .ok (.ireturn, 1) := by decide +kernel
theorem dJ5_putStringAt_47b60_0 : decode cJ5_putStringAt_47b60 0 = .ok (.aload_n 0, 1) := by decide +kernel
theorem dJ5_putStringAt_47b60_1 : decode cJ5_putStringAt_47b60 1 = .ok (.aload_n 2, 1) := by decide +kernel
theorem dJ5_putStringAt_47b60_2 : decode cJ5_putStringAt_47b60 2 = .ok (.invokevirtual 397, 3) := by decide +kernel
theorem dJ5_putStringAt_47b60_5 : decode cJ5_putStringAt_47b60 5 = .ok (.aload_n 2, 1) := by decide +kernel
theorem dJ5_putStringAt_47b60_6 : decode cJ5_putStringAt_47b60 6 = .ok (.aload_n 0, 1) := by decide +kernel
theorem dJ5_putStringAt_47b60_7 : decode cJ5_putStringAt_47b60 7 = .ok (.getfield 15, 3) := by decide +kernel
theorem dJ5_putStringAt_47b60_10 : decode cJ5_putStringAt_47b60 10 = .ok (.iload_n 1, 1) := by decide +kernel
theorem dJ5_putStringAt_47b60_11 : decode cJ5_putStringAt_47b60 11 = .ok (.aload_n 0, 1) := by decide +kernel
theorem dJ5_putStringAt_47b60_12 : decode cJ5_putStringAt_47b60 12 = .ok (.getfield 22, 3) := by decide +kernel
theorem dJ5_putStringAt_47b60_15 : decode cJ5_putStringAt_47b60 15 = .ok (.invokevirtual 399, 3) := by decide +kernel
theorem dJ5_putStringAt_47b60_18 : decode cJ5_putStringAt_47b60 18 = .ok (.return_, 1) := by decide +kernel
theorem dJ6_getChars_ba4f3_0 : decode cJ6_getChars_ba4f3 0 = .ok (.iload_n 1, 1) := by decide +kernel
theorem dJ6_getChars_ba4f3_1 : decode cJ6_getChars_ba4f3 1 = .ok (.istore 5, 2) := by decide +kernel
theorem dJ6_getChars_ba4f3_3 : decode cJ6_getChars_ba4f3 3 = .ok (.iload_n 0, 1) := by decide +kernel
theorem dJ6_getChars_ba4f3_4 : decode cJ6_getChars_ba4f3 4 = .ok (.ifCond .ge 7, 3) := by decide +kernel
theorem dJ6_getChars_ba4f3_11 : decode cJ6_getChars_ba4f3 11 = .ok (.iconst 0, 1) := by decide +kernel
theorem dJ6_getChars_ba4f3_12 : decode cJ6_getChars_ba4f3 12 = .ok (.istore 6, 2) := by decide +kernel
theorem dJ6_getChars_ba4f3_14 : decode cJ6_getChars_ba4f3 14 = .ok (.iload 6, 2) := by decide +kernel
theorem dJ6_getChars_ba4f3_16 : decode cJ6_getChars_ba4f3 16 = .ok (.ifCond .ne 6, 3) := by decide +kernel
theorem dJ6_getChars_ba4f3_19 : decode cJ6_getChars_ba4f3 19 = .ok (.iload_n 0, 1) := by decide +kernel
theorem dJ6_getChars_ba4f3_20 : decode cJ6_getChars_ba4f3 20 = .ok (.ineg, 1) := by decide +kernel
theorem dJ6_getChars_ba4f3_21 : decode cJ6_getChars_ba4f3 21 = .ok (.istore_n 0, 1) := by decide +kernel
theorem dJ6_getChars_ba4f3_22 : decode cJ6_getChars_ba4f3 22 = .ok (.iload_n 0, 1) := by decide +kernel
theorem dJ6_getChars_ba4f3_23 : decode cJ6_getChars_ba4f3 23 = .ok (.bipush (-100), 2) := by decide +kernel
theorem dJ6_getChars_ba4f3_25 : decode cJ6_getChars_ba4f3 25 = .ok (.if_icmp .gt 47, 3) := by decide +kernel
theorem dJ6_getChars_ba4f3_72 : decode cJ6_getChars_ba4f3 72 = .ok (.aload_n 2, 1) := by decide +kernel
theorem dJ6_getChars_ba4f3_73 : decode cJ6_getChars_ba4f3 73 = .ok (.iinc 5 (-1), 3) := by decide +kernel
theorem dJ6_getChars_ba4f3_76 : decode cJ6_getChars_ba4f3 76 = .ok (.iload 5, 2) := by decide +kernel
theorem dJ6_getChars_ba4f3_78 : decode cJ6_getChars_ba4f3 78 = .ok (.getstatic 83, 3) := by decide +kernel
theorem dJ6_getChars_ba4f3_81 : decode cJ6_getChars_ba4f3 81 = .ok (.iload_n 0, 1) := by decide +kernel
theorem dJ6_getChars_ba4f3_82 : decode cJ6_getChars_ba4f3 82 = .ok (.ineg, 1) := by decide +kernel
theorem dJ6_getChars_ba4f3_83 : decode cJ6_getChars_ba4f3 83 = .ok (.baload, 1) := by decide +kernel
theorem dJ6_getChars_ba4f3_84 : decode cJ6_getChars_ba4f3 84 = .ok (.bastore, 1) := by decide +kernel
theorem dJ6_getChars_ba4f3_85 : decode cJ6_getChars_ba4f3 85 = .ok (.iload_n 0, 1) := by decide +kernel
theorem dJ6_getChars_ba4f3_86 : decode cJ6_getChars_ba4f3 86 = .ok (.bipush (-9), 2) := by decide +kernel
theorem dJ6_getChars_ba4f3_88 : decode cJ6_getChars_ba4f3 88 = .ok (.if_icmp .ge 16, 3) := by decide +kernel
theorem dJ6_getChars_ba4f3_91 : decode cJ6_getChars_ba4f3 91 = .ok (.aload_n 2, 1) := by decide +kernel
theorem dJ6_getChars_ba4f3_92 : decode cJ6_getChars_ba4f3 92 = .ok (.iinc 5 (-1), 3) := by decide +kernel
theorem dJ6_getChars_ba4f3_95 : decode cJ6_getChars_ba4f3 95 = .ok (.iload 5, 2) := by decide +kernel
theorem dJ6_getChars_ba4f3_97 : decode cJ6_getChars_ba4f3 97 = .ok (.getstatic 87, 3) := by decide +kernel
theorem dJ6_getChars_ba4f3_100 : decode cJ6_getChars_ba4f3 100 = .ok (.iload_n 0, 1) := by decide +kernel
theorem dJ6_getChars_ba4f3_101 : decode cJ6_getChars_ba4f3 101 = .ok (.ineg, 1) := by decide +kernel
theorem dJ6_getChars_ba4f3_102 : decode cJ6_getChars_ba4f3 102 = .ok (.baload, 1) := by decide +kernel
theorem dJ6_getChars_ba4f3_103 : decode cJ6_getChars_ba4f3 103 = .ok (.bastore, 1) := by decide +kernel
theorem dJ6_getChars_ba4f3_104 : decode cJ6_getChars_ba4f3 104 = .ok (.iload 6, 2) := by decide +kernel
theorem dJ6_getChars_ba4f3_106 : decode cJ6_getChars_ba4f3 106 = .ok (.ifCond .eq 12, 3) := by decide +kernel
theorem dJ6_getChars_ba4f3_118 : decode cJ6_getChars_ba4f3 118 = .ok (.iload 5, 2) := by decide +kernel
theorem dJ6_getChars_ba4f3_120 : decode cJ6_getChars_ba4f3 120 = .ok (.ireturn, 1) := by decide +kernel
theorem dJ6_stringSize_0f7a4_0 : decode cJ6_stringSize_0f7a4 0 = .ok (.iconst 1, 1) := by decide +kernel
theorem dJ6_stringSize_0f7a4_1 : decode cJ6_stringSize_0f7a4 1 = .ok (.istore_n 1, 1) := by decide +kernel
theorem dJ6_stringSize_0f7a4_2 : decode cJ6_stringSize_0f7a4 2 = .ok (.iload_n 0, 1) := by decide +kernel
theorem dJ6_stringSize_0f7a4_3 : decode cJ6_stringSize_0f7a4 3 = .ok (.ifCond .lt 8, 3) := by decide +kernel
theorem dJ6_stringSize_0f7a4_6 : decode cJ6_stringSize_0f7a4 6 = .ok (.iconst 0, 1) := by decide +kernel
theorem dJ6_stringSize_0f7a4_7 : decode cJ6_stringSize_0f7a4 7 = .ok (.istore_n 1, 1) := by decide +kernel
theorem dJ6_stringSize_0f7a4_8 : decode cJ6_stringSize_0f7a4 8 = .ok (.iload_n 0, 1) := by decide +kernel
theorem dJ6_stringSize_0f7a4_9 : decode cJ6_stringSize_0f7a4 9 = .ok (.ineg, 1) := by decide +kernel
theorem dJ6_stringSize_0f7a4_10 : decode cJ6_stringSize_0f7a4 10 = .ok (.istore_n 0, 1) := by decide +kernel
theorem dJ6_stringSize_0f7a4_11 : decode cJ6_stringSize_0f7a4 11 = .ok (.bipush (-10), 2) := by decide +kernel
theorem dJ6_stringSize_0f7a4_13 : decode cJ6_stringSize_0f7a4 13 = .ok (.istore_n 2, 1) := by decide +kernel
theorem dJ6_stringSize_0f7a4_14 : decode cJ6_stringSize_0f7a4 14 = .ok (.iconst 1, 1) := by decide +kernel
theorem dJ6_stringSize_0f7a4_15 : decode cJ6_stringSize_0f7a4 15 = .ok (.istore_n 3, 1) := by decide +kernel
theorem dJ6_stringSize_0f7a4_16 : decode cJ6_stringSize_0f7a4 16 = .ok (.iload_n 3, 1) := by decide +kernel
theorem dJ6_stringSize_0f7a4_17 : decode cJ6_stringSize_0f7a4 17 = .ok (.bipush 10, 2) := by decide +kernel
theorem dJ6_stringSize_0f7a4_19 : decode cJ6_stringSize_0f7a4 19 = .ok (.if_icmp .ge 23, 3) := by decide +kernel
theorem dJ6_stringSize_0f7a4_22 : decode cJ6_stringSize_0f7a4 22 = .ok (.iload_n 0, 1) := by decide +kernel
theorem dJ6_stringSize_0f7a4_23 : decode cJ6_stringSize_0f7a4 23 = .ok (.iload_n 2, 1) := by decide +kernel
theorem dJ6_stringSize_0f7a4_24 : decode cJ6_stringSize_0f7a4 24 = .ok (.if_icmp .le 7, 3) := by decide +kernel
theorem dJ6_stringSize_0f7a4_27 : decode cJ6_stringSize_0f7a4 27 = .ok (.iload_n 3, 1) := by decide +kernel
theorem dJ6_stringSize_0f7a4_28 : decode cJ6_stringSize_0f7a4 28 = .ok (.iload_n 1, 1) := by decide +kernel
theorem dJ6_stringSize_0f7a4_29 : decode cJ6_stringSize_0f7a4 29 = .ok (.iadd, 1) := by decide +kernel
theorem dJ6_stringSize_0f7a4_30 : decode cJ6_stringSize_0f7a4 30 = .ok (.ireturn, 1) := by decide +kernel
theorem dJ6_stringSize_0f7a4_31 : decode cJ6_stringSize_0f7a4 31 = .ok (.bipush 10, 2) := by decide +kernel
theorem dJ6_stringSize_0f7a4_33 : decode cJ6_stringSize_0f7a4 33 = .ok (.iload_n 2, 1) := by decide +kernel
theorem dJ6_stringSize_0f7a4_34 : decode cJ6_stringSize_0f7a4 34 = .ok (.imul, 1) := by decide +kernel
theorem dJ6_stringSize_0f7a4_35 : decode cJ6_stringSize_0f7a4 35 = .ok (.istore_n 2, 1) := by decide +kernel
theorem dJ6_stringSize_0f7a4_36 : decode cJ6_stringSize_0f7a4 36 = .ok (.iinc 3 1, 3) := by decide +kernel
theorem dJ6_stringSize_0f7a4_39 : decode cJ6_stringSize_0f7a4 39 = .ok (.goto (-23), 3) := by decide +kernel
theorem dJ7_checkLength_df160_0 : decode cJ7_checkLength_df160 0 = .ok (.iload_n 1, 1) := by decide +kernel
theorem dJ7_checkLength_df160_1 : decode cJ7_checkLength_df160 1 = .ok (.iload_n 0, 1) := by decide +kernel
theorem dJ7_checkLength_df160_2 : decode cJ7_checkLength_df160 2 = .ok (.if_icmp .ge 35, 3) := by decide +kernel
theorem dJ7_checkLength_df160_37 : decode cJ7_checkLength_df160 37 = .ok (.return_, 1) := by decide +kernel
theorem dJ7_copyOfRangeByte_39247_0 : decode cJ7_copyOfRangeByte_39247 0 = .ok (.iload_n 1, 1) := by decide +kernel
theorem dJ7_copyOfRangeByte_39247_1 : decode cJ7_copyOfRangeByte_39247 1 = .ok (.iload_n 2, 1) := by decide +kernel
theorem dJ7_copyOfRangeByte_39247_2 : decode cJ7_copyOfRangeByte_39247 2 = .ok (.invokestatic 343, 3) := by decide +kernel
theorem dJ7_copyOfRangeByte_39247_5 : decode cJ7_copyOfRangeByte_39247 5 = .ok (.iload_n 2, 1) := by decide +kernel
theorem dJ7_copyOfRangeByte_39247_6 : decode cJ7_copyOfRangeByte_39247 6 = .ok (.iload_n 1, 1) := by decide +kernel
theorem dJ7_copyOfRangeByte_39247_7 : decode cJ7_copyOfRangeByte_39247 7 = .ok (.isub, 1) := by decide +kernel
theorem dJ7_copyOfRangeByte_39247_8 : decode cJ7_copyOfRangeByte_39247 8 = .ok (.istore_n 3, 1) := by decide +kernel
theorem dJ7_copyOfRangeByte_39247_9 : decode cJ7_copyOfRangeByte_39247 9 = .ok (.iload_n 3, 1) := by decide +kernel
theorem dJ7_copyOfRangeByte_39247_10 : decode cJ7_copyOfRangeByte_39247 10 = .ok (.newarray .byte, 2) := by decide +kernel
theorem dJ7_copyOfRangeByte_39247_12 : decode cJ7_copyOfRangeByte_39247 12 = .ok (.astore 4, 2) := by decide +kernel
theorem dJ7_copyOfRangeByte_39247_14 : decode cJ7_copyOfRangeByte_39247 14 = .ok (.aload_n 0, 1) := by decide +kernel
theorem dJ7_copyOfRangeByte_39247_15 : decode cJ7_copyOfRangeByte_39247 15 = .ok (.iload_n 1, 1) := by decide +kernel
theorem dJ7_copyOfRangeByte_39247_16 : decode cJ7_copyOfRangeByte_39247 16 = .ok (.aload 4, 2) := by decide +kernel
theorem dJ7_copyOfRangeByte_39247_18 : decode cJ7_copyOfRangeByte_39247 18 = .ok (.iconst 0, 1) := by decide +kernel
theorem dJ7_copyOfRangeByte_39247_19 : decode cJ7_copyOfRangeByte_39247 19 = .ok (.aload_n 0, 1) := by decide +kernel
theorem dJ7_copyOfRangeByte_39247_20 : decode cJ7_copyOfRangeByte_39247 20 = .ok (.arraylength, 1) := by decide +kernel
theorem dJ7_copyOfRangeByte_39247_21 : decode cJ7_copyOfRangeByte_39247 21 = .ok (.iload_n 1, 1) := by decide +kernel
theorem dJ7_copyOfRangeByte_39247_22 : decode cJ7_copyOfRangeByte_39247 22 = .ok (.isub, 1) := by decide +kernel
theorem dJ7_copyOfRangeByte_39247_23 : decode cJ7_copyOfRangeByte_39247 23 = .ok (.iload_n 3, 1) := by decide +kernel
theorem dJ7_copyOfRangeByte_39247_24 : decode cJ7_copyOfRangeByte_39247 24 = .ok (.invokestatic 304, 3) := by decide +kernel
theorem dJ7_copyOfRangeByte_39247_27 : decode cJ7_copyOfRangeByte_39247 27 = .ok (.invokestatic 150, 3) := by decide +kernel
theorem dJ7_copyOfRangeByte_39247_30 : decode cJ7_copyOfRangeByte_39247 30 = .ok (.aload 4, 2) := by decide +kernel
theorem dJ7_copyOfRangeByte_39247_32 : decode cJ7_copyOfRangeByte_39247 32 = .ok (.areturn, 1) := by decide +kernel
theorem dJ7_copyOfRange_39247_0 : decode cJ7_copyOfRange_39247 0 = .ok (.iload_n 1, 1) := by decide +kernel
theorem dJ7_copyOfRange_39247_1 : decode cJ7_copyOfRange_39247 1 = .ok (.ifCond .ne 9, 3) := by decide +kernel
theorem dJ7_copyOfRange_39247_4 : decode cJ7_copyOfRange_39247 4 = .ok (.iload_n 2, 1) := by decide +kernel
theorem dJ7_copyOfRange_39247_5 : decode cJ7_copyOfRange_39247 5 = .ok (.aload_n 0, 1) := by decide +kernel
theorem dJ7_copyOfRange_39247_6 : decode cJ7_copyOfRange_39247 6 = .ok (.arraylength, 1) := by decide +kernel
theorem dJ7_copyOfRange_39247_7 : decode cJ7_copyOfRange_39247 7 = .ok (.if_icmp .eq 10, 3) := by decide +kernel
theorem dJ7_copyOfRange_39247_10 : decode cJ7_copyOfRange_39247 10 = .ok (.aload_n 0, 1) := by decide +kernel
theorem dJ7_copyOfRange_39247_11 : decode cJ7_copyOfRange_39247 11 = .ok (.iload_n 1, 1) := by decide +kernel
theorem dJ7_copyOfRange_39247_12 : decode cJ7_copyOfRange_39247 12 = .ok (.iload_n 2, 1) := by decide +kernel
theorem dJ7_copyOfRange_39247_13 : decode cJ7_copyOfRange_39247 13 = .ok (.invokestatic 339, 3) := by decide +kernel
theorem dJ7_copyOfRange_39247_16 : decode cJ7_copyOfRange_39247 16 = .ok (.areturn, 1) := by decide +kernel
theorem dJ7_copyOfRange_39247_17 : decode cJ7_copyOfRange_39247 17 = .ok (.aload_n 0, 1) := by decide +kernel
theorem dJ7_copyOfRange_39247_18 : decode cJ7_copyOfRange_39247 18 = .ok (.invokevirtual 310, 3) := by decide +kernel
theorem dJ7_copyOfRange_39247_21 : decode cJ7_copyOfRange_39247 21 = .ok (.checkcast 311, 3) := by decide +kernel
theorem dJ7_copyOfRange_39247_24 : decode cJ7_copyOfRange_39247 24 = .ok (.areturn, 1) := by decide +kernel
set_option maxRecDepth 100000 in
theorem j_isLatin1 {g : GC} {A : Nat → Prop} {sx : SX} {b d n : Nat} {f : Nat → Int32} {r : va_W} : JM g A sx (.code yJ5_isLatin1_aae02 cJ5_isLatin1_aae02 1 (some .boolean)) yJ5_isLatin1_aae02 (rmL 1 0 0) 0 0 [.ref b] ((b, sbC d n) :: (d, byC g 16 f) :: r) (is1 (some (.int 1)) ((b, sbC d n) :: (d, byC g 16 f) :: r)) := by
  refine JM_of (ini := false) (own := RJ5) (by decide) gw_1024 rfl (fun h => by cases h) (Nat.le_of_ble_eq_true rfl) ?_ ⟨rfl, rfl⟩
  refine u_compact gw_957 dJ5_isLatin1_aae02_0 ?_
  refine u_if_eqF (tgt := 17) dJ5_isLatin1_aae02_3 (by decide) (by decide) ?_
  refine u_aload_n dJ5_isLatin1_aae02_6 rfl 0 rfl ?_
  refine u_get (q0 := 0) inG_J4 rfl (by decide : 1 < 4) gw_967 rfl rfl dJ5_isLatin1_aae02_7 ?_
  refine u_if_neF (tgt := 17) dJ5_isLatin1_aae02_10 (by decide) (rfl) ?_
  refine u_iconst (v := 1) dJ5_isLatin1_aae02_13 (by decide) ?_
  refine u_goto (tgt := 18) dJ5_isLatin1_aae02_14 (by decide) ?_
  exact u_zret dJ5_isLatin1_aae02_18 rfl rfl (by decide) (by decide) ⟨rfl, rfl⟩
set_option maxRecDepth 100000 in
theorem j_canEncode {g : GC} {A : Nat → Prop} {sx : SX} {c : Int32} {ws : va_W} (hc : ¬ (255 < c)) : JM g A sx (.code yJ1_canEncode_fc78d cJ1_canEncode_fc78d 1 (some .boolean)) yJ1_canEncode_fc78d (rmL 1 0 0) 0 0 [.int c] (ws) (is1 (some (.int 1)) ws) := by
  refine JM_of (ini := false) (own := RJ1) (by decide) gw_1197 rfl (fun h => by cases h) (Nat.le_of_ble_eq_true rfl) ?_ ⟨rfl, rfl⟩
  refine u_iload_n dJ1_canEncode_fc78d_0 rfl 0 rfl ?_
  refine u_sipush (v := 255) dJ1_canEncode_fc78d_1 (by decide) ?_
  refine u_icmp_gtF (tgt := 11) dJ1_canEncode_fc78d_4 (by decide) (hc) ?_
  refine u_iconst (v := 1) dJ1_canEncode_fc78d_7 (by decide) ?_
  refine u_goto (tgt := 12) dJ1_canEncode_fc78d_8 (by decide) ?_
  exact u_zret dJ1_canEncode_fc78d_12 rfl rfl (by decide) (by decide) ⟨rfl, rfl⟩
set_option maxRecDepth 100000 in
theorem j_ensure {g : GC} {A : Nat → Prop} {sx : SX} {b d n : Nat} {f : Nat → Int32} {r : va_W} {m : Int32} (hm : m - ((16 : Int32) >>> ((0 : Int32) &&& 31)) ≤ 0) : JM g A sx (.code yJ5_ensureCapacityInternal_d00df cJ5_ensureCapacityInternal_d00df 3 none) yJ5_ensureCapacityInternal_d00df (rmL 1 0 0) 0 0 [.ref b, .int m] ((b, sbC d n) :: (d, byC g 16 f) :: r) (is1 none ((b, sbC d n) :: (d, byC g 16 f) :: r)) := by
  refine JM_of (ini := false) (own := RJ5) (by decide) gw_994 rfl (fun h => by cases h) (Nat.le_of_ble_eq_true rfl) ?_ ⟨rfl, rfl⟩
  refine u_aload_n dJ5_ensureCapacityInternal_d00df_0 rfl 0 rfl ?_
  refine u_get (q0 := 0) inG_J4 rfl (by decide : 0 < 4) gw_966 rfl rfl dJ5_ensureCapacityInternal_d00df_1 ?_
  refine u_alen (q0 := 1) (v := 16) rfl rfl dJ5_ensureCapacityInternal_d00df_4 ?_
  refine u_aload_n dJ5_ensureCapacityInternal_d00df_5 rfl 0 rfl ?_
  refine u_get (q0 := 0) inG_J4 rfl (by decide : 1 < 4) gw_967 rfl rfl dJ5_ensureCapacityInternal_d00df_6 ?_
  refine u_ishr dJ5_ensureCapacityInternal_d00df_9 ?_
  refine u_istore_n dJ5_ensureCapacityInternal_d00df_10 rfl (Nat.le_of_ble_eq_true rfl) rfl ?_
  refine u_iload_n dJ5_ensureCapacityInternal_d00df_11 rfl 2 rfl ?_
  refine u_iload_n dJ5_ensureCapacityInternal_d00df_12 rfl 0 rfl ?_
  refine u_isub dJ5_ensureCapacityInternal_d00df_13 ?_
  refine u_if_leT (tgt := 38) dJ5_ensureCapacityInternal_d00df_14 (by decide) (hm) ?_
  exact u_vret dJ5_ensureCapacityInternal_d00df_38 rfl (by decide) (by decide) ⟨rfl, rfl⟩
set_option maxRecDepth 100000 in
theorem j_coder {g : GC} {A : Nat → Prop} {sx : SX} {x : Nat × Nat × List Int32} (hx : sx.1 = some x) {ws : va_W} : JM g A sx (.code yJ0_coder_7d493 cJ0_coder_7d493 1 (some .byte)) yJ0_coder_7d493 (rmL 1 0 0) 0 0 [.ref x.1] (ws) (is1 (some (.int 0)) ws) := by
  refine JM_of (ini := false) (own := RJ0) (by decide) gw_1058 rfl (fun h => by cases h) (Nat.le_of_ble_eq_true rfl) ?_ ⟨rfl, rfl⟩
  refine u_compact gw_1059 dJ0_coder_7d493_0 ?_
  refine u_if_eqF (tgt := 13) dJ0_coder_7d493_3 (by decide) (by decide) ?_
  refine u_aload_n dJ0_coder_7d493_6 rfl 0 rfl ?_
  refine u_strC hx gw_1181 dJ0_coder_7d493_7 ?_
  refine u_goto (tgt := 14) dJ0_coder_7d493_10 (by decide) ?_
  exact u_zret dJ0_coder_7d493_14 rfl rfl (by decide) (by decide) ⟨rfl, rfl⟩
set_option maxRecDepth 100000 in
theorem j_length {g : GC} {A : Nat → Prop} {sx : SX} {x : Nat × Nat × List Int32} (hx : sx.1 = some x) {ws : va_W} : JM g A sx (.code yJ0_length_8abf5 cJ0_length_8abf5 1 (some .int)) yJ0_length_8abf5 (rmL 2 0 0) 0 0 [.ref x.1] (ws) (is1 (some (.int (Int32.ofNat x.2.2.length))) ws) := by
  refine JM_of (ini := false) (own := RJ0) (by decide) gw_1054 rfl (fun h => by cases h) (Nat.le_of_ble_eq_true rfl) ?_ ⟨rfl, rfl⟩
  refine u_aload_n dJ0_length_8abf5_0 rfl 0 rfl ?_
  refine u_strV hx gw_1180 dJ0_length_8abf5_1 ?_
  refine u_strL hx dJ0_length_8abf5_4 ?_
  refine u_aload_n dJ0_length_8abf5_5 rfl 0 rfl ?_
  refine u_callStr (As := []) hx rfl cj_J0_335 gw_1056 gw_1057 (j_coder hx) rfl rfl (Nat.le_of_ble_eq_true rfl) dJ0_length_8abf5_6 (CR_rm (by decide) (by decide) (by decide) (by decide)) ?_
  rintro _ _ ⟨rfl, rfl⟩
  refine u_ishr dJ0_length_8abf5_9 ?_
  refine u_eq (st' := [.int (Int32.ofNat x.2.2.length)]) (by rw [shr0]) ?_
  exact u_iret dJ0_length_8abf5_10 rfl (by decide) (by decide) ⟨rfl, rfl⟩
set_option maxRecDepth 100000 in
theorem j_inflateIf {g : GC} {A : Nat → Prop} {sx : SX} {b d n : Nat} {f : Nat → Int32} {r : va_W} {x : Nat × Nat × List Int32} (hx : sx.1 = some x) : JM g A sx (.code yJ5_inflateIfNeededFor_a7421 cJ5_inflateIfNeededFor_a7421 2 none) yJ5_inflateIfNeededFor_a7421 (rmL 2 0 0) 0 0 [.ref b, .ref x.1] ((b, sbC d n) :: (d, byC g 16 f) :: r) (is1 none ((b, sbC d n) :: (d, byC g 16 f) :: r)) := by
  refine JM_of (ini := false) (own := RJ5) (by decide) gw_1067 rfl (fun h => by cases h) (Nat.le_of_ble_eq_true rfl) ?_ ⟨rfl, rfl⟩
  refine u_compact gw_957 dJ5_inflateIfNeededFor_a7421_0 ?_
  refine u_if_eqF (tgt := 21) dJ5_inflateIfNeededFor_a7421_3 (by decide) (by decide) ?_
  refine u_aload_n dJ5_inflateIfNeededFor_a7421_6 rfl 0 rfl ?_
  refine u_get (q0 := 0) inG_J4 rfl (by decide : 1 < 4) gw_967 rfl rfl dJ5_inflateIfNeededFor_a7421_7 ?_
  refine u_aload_n dJ5_inflateIfNeededFor_a7421_10 rfl 1 rfl ?_
  refine u_callStr (As := []) hx rfl cj_J5_40 gw_1056 gw_1057 (j_coder hx) rfl rfl (Nat.le_of_ble_eq_true rfl) dJ5_inflateIfNeededFor_a7421_11 (CR_rm (by decide) (by decide) (by decide) (by decide)) ?_
  rintro _ _ ⟨rfl, rfl⟩
  refine u_icmp_eqT (tgt := 21) dJ5_inflateIfNeededFor_a7421_14 (by decide) (rfl) ?_
  exact u_vret dJ5_inflateIfNeededFor_a7421_21 rfl (by decide) (by decide) ⟨rfl, rfl⟩
set_option maxRecDepth 100000 in
theorem j_getBytes {g : GC} {A : Nat → Prop} {sx : SX} {b d n0 n : Nat} {f : Nat → Int32} {r : va_W} {x : Nat × Nat × List Int32} (hx : sx.1 = some x) (hn : n + x.2.2.length ≤ 16) (hfit : ∀ i, i < x.2.2.length → fits .byte (.int (x.2.2.getD i 0)) = true) : JM g A sx (.code yJ0_getBytes_840e7 cJ0_getBytes_840e7 4 none) yJ0_getBytes_840e7 (rmL 4 0 0) 0 0 [.ref x.1, .ref d, .int (Int32.ofNat n), .int 0] ((b, sbC d n0) :: (d, byC g 16 f) :: r) (is1 none ((b, sbC d n0) :: (d, byC g 16 (va_cpy (fun j => x.2.2.getD j 0) f 0 n x.2.2.length)) :: r)) := by
  refine JM_of (ini := false) (own := RJ0) (by decide) gw_1091 rfl (fun h => by cases h) (Nat.le_of_ble_eq_true rfl) ?_ ⟨rfl, rfl⟩
  refine u_aload_n dJ0_getBytes_840e7_0 rfl 0 rfl ?_
  refine u_callStr (As := []) hx rfl cj_J0_335 gw_1056 gw_1057 (j_coder hx) rfl rfl (Nat.le_of_ble_eq_true rfl) dJ0_getBytes_840e7_1 (CR_rm (by decide) (by decide) (by decide) (by decide)) ?_
  rintro _ _ ⟨rfl, rfl⟩
  refine u_iload_n dJ0_getBytes_840e7_4 rfl 3 rfl ?_
  refine u_icmp_neF (tgt := 28) dJ0_getBytes_840e7_5 (by decide) (rfl) ?_
  refine u_aload_n dJ0_getBytes_840e7_8 rfl 0 rfl ?_
  refine u_strV hx gw_1180 dJ0_getBytes_840e7_9 ?_
  refine u_iconst (v := 0) dJ0_getBytes_840e7_12 (by decide) ?_
  refine u_aload_n dJ0_getBytes_840e7_13 rfl 1 rfl ?_
  refine u_iload_n dJ0_getBytes_840e7_14 rfl 2 rfl ?_
  refine u_iload_n dJ0_getBytes_840e7_15 rfl 3 rfl ?_
  refine u_ishl dJ0_getBytes_840e7_16 ?_
  refine u_eq (st' := [.int (Int32.ofNat n), .ref d, .int 0, .ref x.2.1]) (by rw [shl0] <;> rfl) ?_
  refine u_aload_n dJ0_getBytes_840e7_17 rfl 0 rfl ?_
  refine u_strV hx gw_1180 dJ0_getBytes_840e7_18 ?_
  refine u_strL hx dJ0_getBytes_840e7_21 ?_
  refine u_copyT (q1 := 1) (ws' := (b, sbC d n0) :: (d, byC g 16 (va_cpy (fun j => x.2.2.getD j 0) f 0 n x.2.2.length)) :: r) hx gw_1092 gw_783 gw_782 gw_68 rfl (by decide) (nnI (by omega)) (nnI (by omega)) (by rw [tnI (by omega)]; exact Nat.le_of_eq (Nat.zero_add _)) (by rw [tnI (by omega), tnI (by omega)]; exact hn) (fun i hi => hfit _ (by rw [tnI (by omega)] at hi; exact (Nat.zero_add i).symm ▸ hi)) (Nat.le_of_ble_eq_true rfl) (by decide) (by rw [tnI (by omega), tnI (by omega)]; rfl) dJ0_getBytes_840e7_22 ?_
  refine u_goto (tgt := 43) dJ0_getBytes_840e7_25 (by decide) ?_
  exact u_vret dJ0_getBytes_840e7_43 rfl (by decide) (by decide) ⟨rfl, rfl⟩
set_option maxRecDepth 100000 in
theorem j_putStringAt {g : GC} {A : Nat → Prop} {sx : SX} {b d n0 n : Nat} {f : Nat → Int32} {r : va_W} {x : Nat × Nat × List Int32} (hx : sx.1 = some x) (hn : n + x.2.2.length ≤ 16) (hfit : ∀ i, i < x.2.2.length → fits .byte (.int (x.2.2.getD i 0)) = true) : JM g A sx (.code yJ5_putStringAt_47b60 cJ5_putStringAt_47b60 3 none) yJ5_putStringAt_47b60 (rmL 5 0 0) 0 0 [.ref b, .int (Int32.ofNat n), .ref x.1] ((b, sbC d n0) :: (d, byC g 16 f) :: r) (is1 none ((b, sbC d n0) :: (d, byC g 16 (va_cpy (fun j => x.2.2.getD j 0) f 0 n x.2.2.length)) :: r)) := by
  refine JM_of (ini := false) (own := RJ5) (by decide) gw_1063 rfl (fun h => by cases h) (Nat.le_of_ble_eq_true rfl) ?_ ⟨rfl, rfl⟩
  refine u_aload_n dJ5_putStringAt_47b60_0 rfl 0 rfl ?_
  refine u_aload_n dJ5_putStringAt_47b60_1 rfl 2 rfl ?_
  refine u_callV (q0 := 0) (As := [.ref x.1]) cj_J5_397 gw_1066 sl_J5_inflateIfNeededFor_a7421 (j_inflateIf hx) rfl rfl rfl rfl (Nat.le_of_ble_eq_true rfl) dJ5_putStringAt_47b60_2 (CR_rm (by decide) (by decide) (by decide) (by decide)) ?_
  rintro _ _ ⟨rfl, rfl⟩
  refine u_aload_n dJ5_putStringAt_47b60_5 rfl 2 rfl ?_
  refine u_aload_n dJ5_putStringAt_47b60_6 rfl 0 rfl ?_
  refine u_get (q0 := 0) inG_J4 rfl (by decide : 0 < 4) gw_966 rfl rfl dJ5_putStringAt_47b60_7 ?_
  refine u_iload_n dJ5_putStringAt_47b60_10 rfl 1 rfl ?_
  refine u_aload_n dJ5_putStringAt_47b60_11 rfl 0 rfl ?_
  refine u_get (q0 := 0) inG_J4 rfl (by decide : 1 < 4) gw_967 rfl rfl dJ5_putStringAt_47b60_12 ?_
  refine u_callStr (As := [.ref d, .int (Int32.ofNat n), .int 0]) hx rfl cj_J5_399 gw_1089 gw_1090 (j_getBytes hx hn hfit) rfl rfl (Nat.le_of_ble_eq_true rfl) dJ5_putStringAt_47b60_15 (CR_rm (by decide) (by decide) (by decide) (by decide)) ?_
  rintro _ _ ⟨rfl, rfl⟩
  exact u_vret dJ5_putStringAt_47b60_18 rfl (by decide) (by decide) ⟨rfl, rfl⟩
set_option maxRecDepth 100000 in
theorem j_asbS {g : GC} {A : Nat → Prop} {sx : SX} {b d n : Nat} {f : Nat → Int32} {r : va_W} {x : Nat × Nat × List Int32} (hx : sx.1 = some x) (hn : n + x.2.2.length ≤ 16) (hfit : ∀ i, i < x.2.2.length → fits .byte (.int (x.2.2.getD i 0)) = true) : JM g A sx (.code yJ5_append_cf1ce cJ5_append_cf1ce 3 (some (.object "java/lang/AbstractStringBuilder"))) yJ5_append_cf1ce (rmL 6 0 0) 0 0 [.ref b, .ref x.1] ((b, sbC d n) :: (d, byC g 16 f) :: r) (is1 (some (.ref b)) ((b, sbC d (n + x.2.2.length)) :: (d, byC g 16 (va_cpy (fun j => x.2.2.getD j 0) f 0 n x.2.2.length)) :: r)) := by
  refine JM_of (ini := false) (own := RJ5) (by decide) gw_986 rfl (fun h => by cases h) (Nat.le_of_ble_eq_true rfl) ?_ ⟨rfl, rfl⟩
  refine u_aload_n dJ5_append_cf1ce_0 rfl 1 rfl ?_
  refine u_ifnonnull (tgt := 9) dJ5_append_cf1ce_1 (by decide) ?_
  refine u_aload_n dJ5_append_cf1ce_9 rfl 1 rfl ?_
  refine u_callStr (As := []) hx rfl cj_J5_32 gw_1052 gw_1053 (j_length hx) rfl rfl (Nat.le_of_ble_eq_true rfl) dJ5_append_cf1ce_10 (CR_rm (by decide) (by decide) (by decide) (by decide)) ?_
  rintro _ _ ⟨rfl, rfl⟩
  refine u_istore_n dJ5_append_cf1ce_13 rfl (Nat.le_of_ble_eq_true rfl) rfl ?_
  refine u_aload_n dJ5_append_cf1ce_14 rfl 1 rfl ?_
  refine u_aload_n dJ5_append_cf1ce_15 rfl 1 rfl ?_
  refine u_get (q0 := 0) inG_J4 rfl (by decide : 3 < 4) gw_969 rfl rfl dJ5_append_cf1ce_16 ?_
  refine u_iload_n dJ5_append_cf1ce_19 rfl 0 rfl ?_
  refine u_iadd dJ5_append_cf1ce_20 ?_
  refine u_callV (q0 := 0) (As := [.int ((Int32.ofNat n) + (Int32.ofNat x.2.2.length))]) cj_J5_100 gw_993 sl_J5_ensureCapacityInternal_d00df (j_ensure (ens_le hn)) rfl rfl rfl rfl (Nat.le_of_ble_eq_true rfl) dJ5_append_cf1ce_21 (CR_rm (by decide) (by decide) (by decide) (by decide)) ?_
  rintro _ _ ⟨rfl, rfl⟩
  refine u_aload_n dJ5_append_cf1ce_24 rfl 1 rfl ?_
  refine u_aload_n dJ5_append_cf1ce_25 rfl 1 rfl ?_
  refine u_get (q0 := 0) inG_J4 rfl (by decide : 3 < 4) gw_969 rfl rfl dJ5_append_cf1ce_26 ?_
  refine u_aload_n dJ5_append_cf1ce_29 rfl 2 rfl ?_
  refine u_callV (q0 := 0) (As := [.int (Int32.ofNat n), .ref x.1]) cj_J5_208 gw_1062 sl_J5_putStringAt_47b60 (j_putStringAt hx hn hfit) rfl rfl rfl rfl (Nat.le_of_ble_eq_true rfl) dJ5_append_cf1ce_30 (CR_rm (by decide) (by decide) (by decide) (by decide)) ?_
  rintro _ _ ⟨rfl, rfl⟩
  refine u_aload_n dJ5_append_cf1ce_33 rfl 1 rfl ?_
  refine u_dup dJ5_append_cf1ce_34 rfl ?_
  refine u_get (q0 := 0) inG_J4 rfl (by decide : 3 < 4) gw_969 rfl rfl dJ5_append_cf1ce_35 ?_
  refine u_iload_n dJ5_append_cf1ce_38 rfl 0 rfl ?_
  refine u_iadd dJ5_append_cf1ce_39 ?_
  refine u_eq (st' := [.int (Int32.ofNat (n + x.2.2.length)), .ref b]) (by rw [Int32.ofNat_add] <;> rfl) ?_
  refine u_put (q0 := 0) (ty := .int) (ws' := (b, sbC d (n + x.2.2.length)) :: (d, byC g 16 (va_cpy (fun j => x.2.2.getD j 0) f 0 n x.2.2.length)) :: r) tyJ4 tyJ4_ok nmJ4 inG_J4 rfl (by decide : 3 < 4) gw_969 rfl (by decide +kernel) rfl rfl rfl (Nat.le_of_ble_eq_true rfl) rfl dJ5_append_cf1ce_40 ?_
  refine u_aload_n dJ5_append_cf1ce_43 rfl 1 rfl ?_
  exact u_aret dJ5_append_cf1ce_44 rfl (Or.inl ⟨_, rfl⟩) (by decide) (by decide) ⟨rfl, rfl⟩
set_option maxRecDepth 100000 in
theorem j_appS {g : GC} {A : Nat → Prop} {sx : SX} {b d n : Nat} {f : Nat → Int32} {r : va_W} {x : Nat × Nat × List Int32} (hx : sx.1 = some x) (hn : n + x.2.2.length ≤ 16) (hfit : ∀ i, i < x.2.2.length → fits .byte (.int (x.2.2.getD i 0)) = true) : JM g A sx (.code yJ4_append_15ec4 cJ4_append_15ec4 2 (some (.object "java/lang/StringBuilder"))) yJ4_append_15ec4 (rmL 7 0 0) 0 0 [.ref b, .ref x.1] ((b, sbC d n) :: (d, byC g 16 f) :: r) (is1 (some (.ref b)) ((b, sbC d (n + x.2.2.length)) :: (d, byC g 16 (va_cpy (fun j => x.2.2.getD j 0) f 0 n x.2.2.length)) :: r)) := by
  refine JM_of (ini := false) (own := RJ4) (by decide) gw_983 rfl (fun h => by cases h) (Nat.le_of_ble_eq_true rfl) ?_ ⟨rfl, rfl⟩
  refine u_aload_n dJ4_append_15ec4_0 rfl 0 rfl ?_
  refine u_aload_n dJ4_append_15ec4_1 rfl 1 rfl ?_
  refine u_callSU (q0 := 0) (As := [.ref x.1]) cj_J4_29 gw_985 gw_1652 gw_978 (by decide +kernel) (j_asbS hx hn hfit) rfl rfl rfl rfl (Nat.le_of_ble_eq_true rfl) dJ4_append_15ec4_2 (CR_rm (by decide) (by decide) (by decide) (by decide)) ?_
  rintro _ _ ⟨rfl, rfl⟩
  refine u_pop dJ4_append_15ec4_5 rfl ?_
  refine u_aload_n dJ4_append_15ec4_6 rfl 0 rfl ?_
  exact u_aret dJ4_append_15ec4_7 rfl (Or.inl ⟨_, rfl⟩) (by decide) (by decide) ⟨rfl, rfl⟩
set_option maxRecDepth 100000 in
theorem j_asbC {g : GC} {A : Nat → Prop} {sx : SX} {b d n : Nat} {f : Nat → Int32} {r : va_W} {c : Int32} (hn : n + 1 ≤ 16) (hc : 0 ≤ c ∧ c ≤ 127) : JM g A sx (.code yJ5_append_3fe6f cJ5_append_3fe6f 2 (some (.object "java/lang/AbstractStringBuilder"))) yJ5_append_3fe6f (rmL 2 0 0) 0 0 [.ref b, .int c] ((b, sbC d n) :: (d, byC g 16 f) :: r) (is1 (some (.ref b)) ((b, sbC d (n + 1)) :: (d, byC g 16 (upd f n c)) :: r)) := by
  refine JM_of (ini := false) (own := RJ5) (by decide) gw_1194 rfl (fun h => by cases h) (Nat.le_of_ble_eq_true rfl) ?_ ⟨rfl, rfl⟩
  refine u_aload_n dJ5_append_3fe6f_0 rfl 0 rfl ?_
  refine u_aload_n dJ5_append_3fe6f_1 rfl 0 rfl ?_
  refine u_get (q0 := 0) inG_J4 rfl (by decide : 3 < 4) gw_969 rfl rfl dJ5_append_3fe6f_2 ?_
  refine u_iconst (v := 1) dJ5_append_3fe6f_5 (by decide) ?_
  refine u_iadd dJ5_append_3fe6f_6 ?_
  refine u_callV (q0 := 0) (As := [.int ((Int32.ofNat n) + 1)]) cj_J5_100 gw_993 sl_J5_ensureCapacityInternal_d00df (j_ensure (ens_le1 hn)) rfl rfl rfl rfl (Nat.le_of_ble_eq_true rfl) dJ5_append_3fe6f_7 (CR_rm (by decide) (by decide) (by decide) (by decide)) ?_
  rintro _ _ ⟨rfl, rfl⟩
  refine u_aload_n dJ5_append_3fe6f_10 rfl 0 rfl ?_
  refine u_callV (q0 := 0) (As := []) cj_J5_83 gw_1021 sl_J5_isLatin1_aae02 j_isLatin1 rfl rfl rfl rfl (Nat.le_of_ble_eq_true rfl) dJ5_append_3fe6f_11 (CR_rm (by decide) (by decide) (by decide) (by decide)) ?_
  rintro _ _ ⟨rfl, rfl⟩
  refine u_if_eqF (tgt := 45) dJ5_append_3fe6f_14 (by decide) (by decide) ?_
  refine u_iload_n dJ5_append_3fe6f_17 rfl 1 rfl ?_
  refine u_callS (As := [.int c]) cj_J5_191 gw_1196 (j_canEncode (c127 hc)) rfl rfl (Nat.le_of_ble_eq_true rfl) dJ5_append_3fe6f_18 (CR_rm (by decide) (by decide) (by decide) (by decide)) ?_
  rintro _ _ ⟨rfl, rfl⟩
  refine u_if_eqF (tgt := 45) dJ5_append_3fe6f_21 (by decide) (by decide) ?_
  refine u_aload_n dJ5_append_3fe6f_24 rfl 0 rfl ?_
  refine u_get (q0 := 0) inG_J4 rfl (by decide : 0 < 4) gw_966 rfl rfl dJ5_append_3fe6f_25 ?_
  refine u_aload_n dJ5_append_3fe6f_28 rfl 0 rfl ?_
  refine u_dup dJ5_append_3fe6f_29 rfl ?_
  refine u_get (q0 := 0) inG_J4 rfl (by decide : 3 < 4) gw_969 rfl rfl dJ5_append_3fe6f_30 ?_
  refine u_dup_x1 dJ5_append_3fe6f_33 rfl rfl ?_
  refine u_iconst (v := 1) dJ5_append_3fe6f_34 (by decide) ?_
  refine u_iadd dJ5_append_3fe6f_35 ?_
  refine u_eq (st' := [.int (Int32.ofNat (n + 1)), .ref b, .int (Int32.ofNat n), .ref d]) (by rw [Int32.ofNat_add] <;> rfl) ?_
  refine u_put (q0 := 0) (ty := .int) (ws' := (b, sbC d (n + 1)) :: (d, byC g 16 f) :: r) tyJ4 tyJ4_ok nmJ4 inG_J4 rfl (by decide : 3 < 4) gw_969 rfl (by decide +kernel) rfl rfl rfl (Nat.le_of_ble_eq_true rfl) rfl dJ5_append_3fe6f_36 ?_
  refine u_iload_n dJ5_append_3fe6f_39 rfl 1 rfl ?_
  refine u_i2b (v := c) dJ5_append_3fe6f_40 (i2b127 hc) ?_
  refine u_bast (q0 := 1) (ws' := (b, sbC d (n + 1)) :: (d, byC g 16 (upd f n c)) :: r) rfl (inN16 hn) (by rw [tnI (by omega), nar127 hc]; rfl) dJ5_append_3fe6f_41 ?_
  refine u_goto (tgt := 75) dJ5_append_3fe6f_42 (by decide) ?_
  refine u_aload_n dJ5_append_3fe6f_75 rfl 0 rfl ?_
  exact u_aret dJ5_append_3fe6f_76 rfl (Or.inl ⟨_, rfl⟩) (by decide) (by decide) ⟨rfl, rfl⟩
set_option maxRecDepth 100000 in
theorem j_appC {g : GC} {A : Nat → Prop} {sx : SX} {b d n : Nat} {f : Nat → Int32} {r : va_W} {c : Int32} (hn : n + 1 ≤ 16) (hc : 0 ≤ c ∧ c ≤ 127) : JM g A sx (.code yJ4_append_cf468 cJ4_append_cf468 2 (some (.object "java/lang/StringBuilder"))) yJ4_append_cf468 (rmL 3 0 0) 0 0 [.ref b, .int c] ((b, sbC d n) :: (d, byC g 16 f) :: r) (is1 (some (.ref b)) ((b, sbC d (n + 1)) :: (d, byC g 16 (upd f n c)) :: r)) := by
  refine JM_of (ini := false) (own := RJ4) (by decide) gw_1191 rfl (fun h => by cases h) (Nat.le_of_ble_eq_true rfl) ?_ ⟨rfl, rfl⟩
  refine u_aload_n dJ4_append_cf468_0 rfl 0 rfl ?_
  refine u_iload_n dJ4_append_cf468_1 rfl 1 rfl ?_
  refine u_callSU (q0 := 0) (As := [.int c]) cj_J4_50 gw_1193 gw_1660 gw_978 (by decide +kernel) (j_asbC hn hc) rfl rfl rfl rfl (Nat.le_of_ble_eq_true rfl) dJ4_append_cf468_2 (CR_rm (by decide) (by decide) (by decide) (by decide)) ?_
  rintro _ _ ⟨rfl, rfl⟩
  refine u_pop dJ4_append_cf468_5 rfl ?_
  refine u_aload_n dJ4_append_cf468_6 rfl 0 rfl ?_
  exact u_aret dJ4_append_cf468_7 rfl (Or.inl ⟨_, rfl⟩) (by decide) (by decide) ⟨rfl, rfl⟩
set_option maxRecDepth 100000 in
theorem j_size1 {g : GC} {A : Nat → Prop} {sx : SX} {k : Nat} {ws : va_W} (hk : k < 10) : JM g A sx (.code yJ6_stringSize_0f7a4 cJ6_stringSize_0f7a4 4 (some .int)) yJ6_stringSize_0f7a4 (rmL 1 0 0) 0 0 [.int (Int32.ofNat k)] (ws) (is1 (some (.int 1)) ws) := by
  refine JM_of (ini := false) (own := RJ6) (by decide) gw_1103 rfl (fun h => by cases h) (Nat.le_of_ble_eq_true rfl) ?_ ⟨rfl, rfl⟩
  refine u_iconst (v := 1) dJ6_stringSize_0f7a4_0 (by decide) ?_
  refine u_istore_n dJ6_stringSize_0f7a4_1 rfl (Nat.le_of_ble_eq_true rfl) rfl ?_
  refine u_iload_n dJ6_stringSize_0f7a4_2 rfl 1 rfl ?_
  refine u_if_ltF (tgt := 11) dJ6_stringSize_0f7a4_3 (by decide) (dk_nn (Nat.lt_trans hk (by decide))) ?_
  refine u_iconst (v := 0) dJ6_stringSize_0f7a4_6 (by decide) ?_
  refine u_istore_n dJ6_stringSize_0f7a4_7 rfl (Nat.le_of_ble_eq_true rfl) rfl ?_
  refine u_iload_n dJ6_stringSize_0f7a4_8 rfl 1 rfl ?_
  refine u_ineg dJ6_stringSize_0f7a4_9 ?_
  refine u_istore_n dJ6_stringSize_0f7a4_10 rfl (Nat.le_of_ble_eq_true rfl) rfl ?_
  refine u_bipush (v := (-10)) dJ6_stringSize_0f7a4_11 (by decide) ?_
  refine u_istore_n dJ6_stringSize_0f7a4_13 rfl (Nat.le_of_ble_eq_true rfl) rfl ?_
  refine u_iconst (v := 1) dJ6_stringSize_0f7a4_14 (by decide) ?_
  refine u_istore_n dJ6_stringSize_0f7a4_15 rfl (Nat.le_of_ble_eq_true rfl) rfl ?_
  refine u_iload_n dJ6_stringSize_0f7a4_16 rfl 0 rfl ?_
  refine u_bipush (v := 10) dJ6_stringSize_0f7a4_17 (by decide) ?_
  refine u_icmp_geF (tgt := 42) dJ6_stringSize_0f7a4_19 (by decide) (by decide) ?_
  refine u_iload_n dJ6_stringSize_0f7a4_22 rfl 2 rfl ?_
  refine u_iload_n dJ6_stringSize_0f7a4_23 rfl 1 rfl ?_
  refine u_icmp_leF (tgt := 31) dJ6_stringSize_0f7a4_24 (by decide) (dk_a hk) ?_
  refine u_iload_n dJ6_stringSize_0f7a4_27 rfl 0 rfl ?_
  refine u_iload_n dJ6_stringSize_0f7a4_28 rfl 3 rfl ?_
  refine u_iadd dJ6_stringSize_0f7a4_29 ?_
  refine u_eq (st' := [.int 1]) (rfl) ?_
  exact u_iret dJ6_stringSize_0f7a4_30 rfl (by decide) (by decide) ⟨rfl, rfl⟩
set_option maxRecDepth 100000 in
theorem j_size2 {g : GC} {A : Nat → Prop} {sx : SX} {k : Nat} {ws : va_W} (hk0 : 10 ≤ k) (hk : k < 100) : JM g A sx (.code yJ6_stringSize_0f7a4 cJ6_stringSize_0f7a4 4 (some .int)) yJ6_stringSize_0f7a4 (rmL 1 0 0) 0 0 [.int (Int32.ofNat k)] (ws) (is1 (some (.int 2)) ws) := by
  refine JM_of (ini := false) (own := RJ6) (by decide) gw_1103 rfl (fun h => by cases h) (Nat.le_of_ble_eq_true rfl) ?_ ⟨rfl, rfl⟩
  refine u_iconst (v := 1) dJ6_stringSize_0f7a4_0 (by decide) ?_
  refine u_istore_n dJ6_stringSize_0f7a4_1 rfl (Nat.le_of_ble_eq_true rfl) rfl ?_
  refine u_iload_n dJ6_stringSize_0f7a4_2 rfl 1 rfl ?_
  refine u_if_ltF (tgt := 11) dJ6_stringSize_0f7a4_3 (by decide) (dk_nn hk) ?_
  refine u_iconst (v := 0) dJ6_stringSize_0f7a4_6 (by decide) ?_
  refine u_istore_n dJ6_stringSize_0f7a4_7 rfl (Nat.le_of_ble_eq_true rfl) rfl ?_
  refine u_iload_n dJ6_stringSize_0f7a4_8 rfl 1 rfl ?_
  refine u_ineg dJ6_stringSize_0f7a4_9 ?_
  refine u_istore_n dJ6_stringSize_0f7a4_10 rfl (Nat.le_of_ble_eq_true rfl) rfl ?_
  refine u_bipush (v := (-10)) dJ6_stringSize_0f7a4_11 (by decide) ?_
  refine u_istore_n dJ6_stringSize_0f7a4_13 rfl (Nat.le_of_ble_eq_true rfl) rfl ?_
  refine u_iconst (v := 1) dJ6_stringSize_0f7a4_14 (by decide) ?_
  refine u_istore_n dJ6_stringSize_0f7a4_15 rfl (Nat.le_of_ble_eq_true rfl) rfl ?_
  refine u_iload_n dJ6_stringSize_0f7a4_16 rfl 0 rfl ?_
  refine u_bipush (v := 10) dJ6_stringSize_0f7a4_17 (by decide) ?_
  refine u_icmp_geF (tgt := 42) dJ6_stringSize_0f7a4_19 (by decide) (by decide) ?_
  refine u_iload_n dJ6_stringSize_0f7a4_22 rfl 2 rfl ?_
  refine u_iload_n dJ6_stringSize_0f7a4_23 rfl 1 rfl ?_
  refine u_icmp_leT (tgt := 31) dJ6_stringSize_0f7a4_24 (by decide) (dk_b hk0 hk) ?_
  refine u_bipush (v := 10) dJ6_stringSize_0f7a4_31 (by decide) ?_
  refine u_iload_n dJ6_stringSize_0f7a4_33 rfl 1 rfl ?_
  refine u_imul dJ6_stringSize_0f7a4_34 ?_
  refine u_istore_n dJ6_stringSize_0f7a4_35 rfl (Nat.le_of_ble_eq_true rfl) rfl ?_
  refine u_iinc (v := (1 + 1)) dJ6_stringSize_0f7a4_36 (q := 1) rfl rfl (Nat.le_of_ble_eq_true rfl) rfl ?_
  refine u_goto (tgt := 16) dJ6_stringSize_0f7a4_39 (by decide) ?_
  refine u_iload_n dJ6_stringSize_0f7a4_16 rfl 0 rfl ?_
  refine u_bipush (v := 10) dJ6_stringSize_0f7a4_17 (by decide) ?_
  refine u_icmp_geF (tgt := 42) dJ6_stringSize_0f7a4_19 (by decide) (by decide) ?_
  refine u_iload_n dJ6_stringSize_0f7a4_22 rfl 2 rfl ?_
  refine u_iload_n dJ6_stringSize_0f7a4_23 rfl 1 rfl ?_
  refine u_icmp_leF (tgt := 31) dJ6_stringSize_0f7a4_24 (by decide) (dk_c hk) ?_
  refine u_iload_n dJ6_stringSize_0f7a4_27 rfl 0 rfl ?_
  refine u_iload_n dJ6_stringSize_0f7a4_28 rfl 3 rfl ?_
  refine u_iadd dJ6_stringSize_0f7a4_29 ?_
  refine u_eq (st' := [.int 2]) (rfl) ?_
  exact u_iret dJ6_stringSize_0f7a4_30 rfl (by decide) (by decide) ⟨rfl, rfl⟩
set_option maxRecDepth 100000 in
theorem j_gc1 {g : GC} {A : Nat → Prop} {sx : SX} {b d n k : Nat} {f : Nat → Int32} {r : va_W} (hk : k < 10) (hn : n + 1 ≤ 16) : JM g A sx (.code yJ6_getChars_ba4f3 cJ6_getChars_ba4f3 7 (some .int)) yJ6_getChars_ba4f3 (rmL 2 0 0) 0 0 [.int (Int32.ofNat k), .int (Int32.ofNat (n + 1)), .ref d] ((b, sbC d n) :: (d, byC g 16 f) :: r) (is1 (some (.int (Int32.ofNat n))) ((b, sbC d n) :: (d, byC g 16 (upd f n (Int32.ofNat (48 + k % 10)))) :: r)) := by
  refine JM_of (ini := false) (own := RJ6) (by decide) gw_1106 rfl (fun h => by cases h) (Nat.le_of_ble_eq_true rfl) ?_ ⟨rfl, rfl⟩
  refine u_iload_n dJ6_getChars_ba4f3_0 rfl 1 rfl ?_
  refine u_istore dJ6_getChars_ba4f3_1 (Nat.le_of_ble_eq_true rfl) rfl ?_
  refine u_iload_n dJ6_getChars_ba4f3_3 rfl 1 rfl ?_
  refine u_if_geT (tgt := 11) dJ6_getChars_ba4f3_4 (by decide) (dk_ge (Nat.lt_trans hk (by decide))) ?_
  refine u_iconst (v := 0) dJ6_getChars_ba4f3_11 (by decide) ?_
  refine u_istore dJ6_getChars_ba4f3_12 (Nat.le_of_ble_eq_true rfl) rfl ?_
  refine u_iload dJ6_getChars_ba4f3_14 0 rfl ?_
  refine u_if_neF (tgt := 22) dJ6_getChars_ba4f3_16 (by decide) (rfl) ?_
  refine u_iload_n dJ6_getChars_ba4f3_19 rfl 2 rfl ?_
  refine u_ineg dJ6_getChars_ba4f3_20 ?_
  refine u_istore_n dJ6_getChars_ba4f3_21 rfl (Nat.le_of_ble_eq_true rfl) rfl ?_
  refine u_iload_n dJ6_getChars_ba4f3_22 rfl 0 rfl ?_
  refine u_bipush (v := (-100)) dJ6_getChars_ba4f3_23 (by decide) ?_
  refine u_icmp_gtT (tgt := 72) dJ6_getChars_ba4f3_25 (by decide) (dk_100 (Nat.lt_trans hk (by decide))) ?_
  refine u_aload_n dJ6_getChars_ba4f3_72 rfl 4 rfl ?_
  refine u_iinc (v := ((Int32.ofNat (n + 1)) + (-1))) dJ6_getChars_ba4f3_73 (q := 2) rfl rfl (Nat.le_of_ble_eq_true rfl) rfl ?_
  refine u_iload dJ6_getChars_ba4f3_76 0 rfl ?_
  refine u_eq (st' := [.int (Int32.ofNat n), .ref d]) (by rw [sub1I] <;> rfl) ?_
  refine u_ones gw_1107 dJ6_getChars_ba4f3_78 ?_
  refine u_iload_n dJ6_getChars_ba4f3_81 rfl 1 rfl ?_
  refine u_ineg dJ6_getChars_ba4f3_82 ?_
  refine u_eq (st' := [.int (Int32.ofNat k), .ref sx.2.1, .int (Int32.ofNat n), .ref d]) (by rw [Int32.neg_neg] <;> rfl) ?_
  refine u_onesB (vp_in_nI (by omega) (by omega)) dJ6_getChars_ba4f3_83 ?_
  refine u_eq (st' := [.int (Int32.ofNat (48 + k % 10)), .int (Int32.ofNat n), .ref d]) (by rw [tnI (by omega : k < 2147483648)] <;> rfl) ?_
  refine u_bast (q0 := 1) (ws' := (b, sbC d n) :: (d, byC g 16 (upd f n (Int32.ofNat (48 + k % 10)))) :: r) rfl (vp_in_nI (by omega) (by omega)) (by rw [tnI (by omega : n < 2147483648), nar127 (dk_0 k)]; rfl) dJ6_getChars_ba4f3_84 ?_
  refine u_iload_n dJ6_getChars_ba4f3_85 rfl 1 rfl ?_
  refine u_bipush (v := (-9)) dJ6_getChars_ba4f3_86 (by decide) ?_
  refine u_icmp_geT (tgt := 104) dJ6_getChars_ba4f3_88 (by decide) (dk_9 hk) ?_
  refine u_iload dJ6_getChars_ba4f3_104 2 rfl ?_
  refine u_if_eqT (tgt := 118) dJ6_getChars_ba4f3_106 (by decide) (rfl) ?_
  refine u_iload dJ6_getChars_ba4f3_118 0 rfl ?_
  refine u_eq (st' := [.int (Int32.ofNat n)]) (by rw [sub1I]) ?_
  exact u_iret dJ6_getChars_ba4f3_120 rfl (by decide) (by decide) ⟨rfl, rfl⟩
set_option maxRecDepth 100000 in
theorem j_gc2 {g : GC} {A : Nat → Prop} {sx : SX} {b d n k : Nat} {f : Nat → Int32} {r : va_W} (hk0 : 10 ≤ k) (hk : k < 100) (hn : n + 2 ≤ 16) : JM g A sx (.code yJ6_getChars_ba4f3 cJ6_getChars_ba4f3 7 (some .int)) yJ6_getChars_ba4f3 (rmL 2 0 0) 0 0 [.int (Int32.ofNat k), .int (Int32.ofNat (n + 2)), .ref d] ((b, sbC d n) :: (d, byC g 16 f) :: r) (is1 (some (.int (Int32.ofNat n))) ((b, sbC d n) :: (d, byC g 16 (upd (upd f (n + 1) (Int32.ofNat (48 + k % 10))) n (Int32.ofNat (48 + k / 10)))) :: r)) := by
  refine JM_of (ini := false) (own := RJ6) (by decide) gw_1106 rfl (fun h => by cases h) (Nat.le_of_ble_eq_true rfl) ?_ ⟨rfl, rfl⟩
  refine u_iload_n dJ6_getChars_ba4f3_0 rfl 1 rfl ?_
  refine u_istore dJ6_getChars_ba4f3_1 (Nat.le_of_ble_eq_true rfl) rfl ?_
  refine u_iload_n dJ6_getChars_ba4f3_3 rfl 1 rfl ?_
  refine u_if_geT (tgt := 11) dJ6_getChars_ba4f3_4 (by decide) (dk_ge hk) ?_
  refine u_iconst (v := 0) dJ6_getChars_ba4f3_11 (by decide) ?_
  refine u_istore dJ6_getChars_ba4f3_12 (Nat.le_of_ble_eq_true rfl) rfl ?_
  refine u_iload dJ6_getChars_ba4f3_14 0 rfl ?_
  refine u_if_neF (tgt := 22) dJ6_getChars_ba4f3_16 (by decide) (rfl) ?_
  refine u_iload_n dJ6_getChars_ba4f3_19 rfl 2 rfl ?_
  refine u_ineg dJ6_getChars_ba4f3_20 ?_
  refine u_istore_n dJ6_getChars_ba4f3_21 rfl (Nat.le_of_ble_eq_true rfl) rfl ?_
  refine u_iload_n dJ6_getChars_ba4f3_22 rfl 0 rfl ?_
  refine u_bipush (v := (-100)) dJ6_getChars_ba4f3_23 (by decide) ?_
  refine u_icmp_gtT (tgt := 72) dJ6_getChars_ba4f3_25 (by decide) (dk_100 hk) ?_
  refine u_aload_n dJ6_getChars_ba4f3_72 rfl 4 rfl ?_
  refine u_iinc (v := ((Int32.ofNat (n + 2)) + (-1))) dJ6_getChars_ba4f3_73 (q := 2) rfl rfl (Nat.le_of_ble_eq_true rfl) rfl ?_
  refine u_iload dJ6_getChars_ba4f3_76 0 rfl ?_
  refine u_eq (st' := [.int (Int32.ofNat (n + 1)), .ref d]) (by rw [sub1I] <;> rfl) ?_
  refine u_ones gw_1107 dJ6_getChars_ba4f3_78 ?_
  refine u_iload_n dJ6_getChars_ba4f3_81 rfl 1 rfl ?_
  refine u_ineg dJ6_getChars_ba4f3_82 ?_
  refine u_eq (st' := [.int (Int32.ofNat k), .ref sx.2.1, .int (Int32.ofNat (n + 1)), .ref d]) (by rw [Int32.neg_neg] <;> rfl) ?_
  refine u_onesB (vp_in_nI (by omega) (by omega)) dJ6_getChars_ba4f3_83 ?_
  refine u_eq (st' := [.int (Int32.ofNat (48 + k % 10)), .int (Int32.ofNat (n + 1)), .ref d]) (by rw [tnI (by omega : k < 2147483648)] <;> rfl) ?_
  refine u_bast (q0 := 1) (ws' := (b, sbC d n) :: (d, byC g 16 (upd f (n + 1) (Int32.ofNat (48 + k % 10)))) :: r) rfl (vp_in_nI (by omega) (by omega)) (by rw [tnI (by omega : (n + 1) < 2147483648), nar127 (dk_0 k)]; rfl) dJ6_getChars_ba4f3_84 ?_
  refine u_iload_n dJ6_getChars_ba4f3_85 rfl 1 rfl ?_
  refine u_bipush (v := (-9)) dJ6_getChars_ba4f3_86 (by decide) ?_
  refine u_icmp_geF (tgt := 104) dJ6_getChars_ba4f3_88 (by decide) (dk_10 hk0 hk) ?_
  refine u_aload_n dJ6_getChars_ba4f3_91 rfl 4 rfl ?_
  refine u_iinc (v := (((Int32.ofNat (n + 2)) + (-1)) + (-1))) dJ6_getChars_ba4f3_92 (q := 0) rfl rfl (Nat.le_of_ble_eq_true rfl) rfl ?_
  refine u_iload dJ6_getChars_ba4f3_95 0 rfl ?_
  refine u_eq (st' := [.int (Int32.ofNat n), .ref d]) (by rw [sub2I] <;> rfl) ?_
  refine u_tens gw_1109 dJ6_getChars_ba4f3_97 ?_
  refine u_iload_n dJ6_getChars_ba4f3_100 rfl 1 rfl ?_
  refine u_ineg dJ6_getChars_ba4f3_101 ?_
  refine u_eq (st' := [.int (Int32.ofNat k), .ref sx.2.2, .int (Int32.ofNat n), .ref d]) (by rw [Int32.neg_neg] <;> rfl) ?_
  refine u_tensB (vp_in_nI (by omega) (by omega)) dJ6_getChars_ba4f3_102 ?_
  refine u_eq (st' := [.int (Int32.ofNat (48 + k / 10)), .int (Int32.ofNat n), .ref d]) (by rw [tnI (by omega : k < 2147483648)] <;> rfl) ?_
  refine u_bast (q0 := 1) (ws' := (b, sbC d n) :: (d, byC g 16 (upd (upd f (n + 1) (Int32.ofNat (48 + k % 10))) n (Int32.ofNat (48 + k / 10)))) :: r) rfl (vp_in_nI (by omega) (by omega)) (by rw [tnI (by omega : n < 2147483648), nar127 (dk_1 hk)]; rfl) dJ6_getChars_ba4f3_103 ?_
  refine u_iload dJ6_getChars_ba4f3_104 2 rfl ?_
  refine u_if_eqT (tgt := 118) dJ6_getChars_ba4f3_106 (by decide) (rfl) ?_
  refine u_iload dJ6_getChars_ba4f3_118 0 rfl ?_
  refine u_eq (st' := [.int (Int32.ofNat n)]) (by rw [sub2I]) ?_
  exact u_iret dJ6_getChars_ba4f3_120 rfl (by decide) (by decide) ⟨rfl, rfl⟩
set_option maxRecDepth 100000 in
theorem j_asbI1 {g : GC} {A : Nat → Prop} {sx : SX} {b d n k : Nat} {f : Nat → Int32} {r : va_W} (hk : k < 10) (hn : n + 1 ≤ 16) : JM g A sx (.code yJ5_append_c97b9 cJ5_append_c97b9 4 (some (.object "java/lang/AbstractStringBuilder"))) yJ5_append_c97b9 (rmL 3 0 0) 0 0 [.ref b, .int (Int32.ofNat k)] ((b, sbC d n) :: (d, byC g 16 f) :: r) (is1 (some (.ref b)) ((b, sbC d (n + 1)) :: (d, byC g 16 (upd f n (Int32.ofNat (48 + k % 10)))) :: r)) := by
  refine JM_of (ini := false) (own := RJ5) (by decide) gw_1100 rfl (fun h => by cases h) (Nat.le_of_ble_eq_true rfl) ?_ ⟨rfl, rfl⟩
  refine u_aload_n dJ5_append_c97b9_0 rfl 0 rfl ?_
  refine u_get (q0 := 0) inG_J4 rfl (by decide : 3 < 4) gw_969 rfl rfl dJ5_append_c97b9_1 ?_
  refine u_istore_n dJ5_append_c97b9_4 rfl (Nat.le_of_ble_eq_true rfl) rfl ?_
  refine u_iload_n dJ5_append_c97b9_5 rfl 0 rfl ?_
  refine u_iload_n dJ5_append_c97b9_6 rfl 2 rfl ?_
  refine u_callS (As := [.int (Int32.ofNat k)]) cj_J5_245 gw_1102 (j_size1 hk) rfl rfl (Nat.le_of_ble_eq_true rfl) dJ5_append_c97b9_7 (CR_rm (by decide) (by decide) (by decide) (by decide)) ?_
  rintro _ _ ⟨rfl, rfl⟩
  refine u_iadd dJ5_append_c97b9_10 ?_
  refine u_eq (st' := [.int (Int32.ofNat (n + 1))]) (by rw [Int32.ofNat_add] <;> rfl) ?_
  refine u_istore_n dJ5_append_c97b9_11 rfl (Nat.le_of_ble_eq_true rfl) rfl ?_
  refine u_aload_n dJ5_append_c97b9_12 rfl 2 rfl ?_
  refine u_iload_n dJ5_append_c97b9_13 rfl 0 rfl ?_
  refine u_callV (q0 := 0) (As := [.int (Int32.ofNat (n + 1))]) cj_J5_100 gw_993 sl_J5_ensureCapacityInternal_d00df (j_ensure (ens_B _ hn)) rfl rfl rfl rfl (Nat.le_of_ble_eq_true rfl) dJ5_append_c97b9_14 (CR_rm (by decide) (by decide) (by decide) (by decide)) ?_
  rintro _ _ ⟨rfl, rfl⟩
  refine u_aload_n dJ5_append_c97b9_17 rfl 2 rfl ?_
  refine u_callV (q0 := 0) (As := []) cj_J5_83 gw_1021 sl_J5_isLatin1_aae02 j_isLatin1 rfl rfl rfl rfl (Nat.le_of_ble_eq_true rfl) dJ5_append_c97b9_18 (CR_rm (by decide) (by decide) (by decide) (by decide)) ?_
  rintro _ _ ⟨rfl, rfl⟩
  refine u_if_eqF (tgt := 37) dJ5_append_c97b9_21 (by decide) (by decide) ?_
  refine u_iload_n dJ5_append_c97b9_24 rfl 3 rfl ?_
  refine u_iload_n dJ5_append_c97b9_25 rfl 0 rfl ?_
  refine u_aload_n dJ5_append_c97b9_26 rfl 2 rfl ?_
  refine u_get (q0 := 0) inG_J4 rfl (by decide : 0 < 4) gw_966 rfl rfl dJ5_append_c97b9_27 ?_
  refine u_callS (As := [.int (Int32.ofNat k), .int (Int32.ofNat (n + 1)), .ref d]) cj_J5_248 gw_1105 (j_gc1 hk hn) rfl rfl (Nat.le_of_ble_eq_true rfl) dJ5_append_c97b9_30 (CR_rm (by decide) (by decide) (by decide) (by decide)) ?_
  rintro _ _ ⟨rfl, rfl⟩
  refine u_pop dJ5_append_c97b9_33 rfl ?_
  refine u_goto (tgt := 48) dJ5_append_c97b9_34 (by decide) ?_
  refine u_aload_n dJ5_append_c97b9_48 rfl 2 rfl ?_
  refine u_iload_n dJ5_append_c97b9_49 rfl 0 rfl ?_
  refine u_put (q0 := 0) (ty := .int) (ws' := (b, sbC d (n + 1)) :: (d, byC g 16 (upd f n (Int32.ofNat (48 + k % 10)))) :: r) tyJ4 tyJ4_ok nmJ4 inG_J4 rfl (by decide : 3 < 4) gw_969 rfl (by decide +kernel) rfl rfl rfl (Nat.le_of_ble_eq_true rfl) rfl dJ5_append_c97b9_50 ?_
  refine u_aload_n dJ5_append_c97b9_53 rfl 2 rfl ?_
  exact u_aret dJ5_append_c97b9_54 rfl (Or.inl ⟨_, rfl⟩) (by decide) (by decide) ⟨rfl, rfl⟩
set_option maxRecDepth 100000 in
theorem j_appI1 {g : GC} {A : Nat → Prop} {sx : SX} {b d n k : Nat} {f : Nat → Int32} {r : va_W} (hk : k < 10) (hn : n + 1 ≤ 16) : JM g A sx (.code yJ4_append_bf812 cJ4_append_bf812 2 (some (.object "java/lang/StringBuilder"))) yJ4_append_bf812 (rmL 4 0 0) 0 0 [.ref b, .int (Int32.ofNat k)] ((b, sbC d n) :: (d, byC g 16 f) :: r) (is1 (some (.ref b)) ((b, sbC d (n + 1)) :: (d, byC g 16 (upd f n (Int32.ofNat (48 + k % 10)))) :: r)) := by
  refine JM_of (ini := false) (own := RJ4) (by decide) gw_1097 rfl (fun h => by cases h) (Nat.le_of_ble_eq_true rfl) ?_ ⟨rfl, rfl⟩
  refine u_aload_n dJ4_append_bf812_0 rfl 0 rfl ?_
  refine u_iload_n dJ4_append_bf812_1 rfl 1 rfl ?_
  refine u_callSU (q0 := 0) (As := [.int (Int32.ofNat k)]) cj_J4_53 gw_1099 gw_1659 gw_978 (by decide +kernel) (j_asbI1 hk hn) rfl rfl rfl rfl (Nat.le_of_ble_eq_true rfl) dJ4_append_bf812_2 (CR_rm (by decide) (by decide) (by decide) (by decide)) ?_
  rintro _ _ ⟨rfl, rfl⟩
  refine u_pop dJ4_append_bf812_5 rfl ?_
  refine u_aload_n dJ4_append_bf812_6 rfl 0 rfl ?_
  exact u_aret dJ4_append_bf812_7 rfl (Or.inl ⟨_, rfl⟩) (by decide) (by decide) ⟨rfl, rfl⟩
set_option maxRecDepth 100000 in
theorem j_asbI2 {g : GC} {A : Nat → Prop} {sx : SX} {b d n k : Nat} {f : Nat → Int32} {r : va_W} (hk0 : 10 ≤ k) (hk : k < 100) (hn : n + 2 ≤ 16) : JM g A sx (.code yJ5_append_c97b9 cJ5_append_c97b9 4 (some (.object "java/lang/AbstractStringBuilder"))) yJ5_append_c97b9 (rmL 3 0 0) 0 0 [.ref b, .int (Int32.ofNat k)] ((b, sbC d n) :: (d, byC g 16 f) :: r) (is1 (some (.ref b)) ((b, sbC d (n + 2)) :: (d, byC g 16 (upd (upd f (n + 1) (Int32.ofNat (48 + k % 10))) n (Int32.ofNat (48 + k / 10)))) :: r)) := by
  refine JM_of (ini := false) (own := RJ5) (by decide) gw_1100 rfl (fun h => by cases h) (Nat.le_of_ble_eq_true rfl) ?_ ⟨rfl, rfl⟩
  refine u_aload_n dJ5_append_c97b9_0 rfl 0 rfl ?_
  refine u_get (q0 := 0) inG_J4 rfl (by decide : 3 < 4) gw_969 rfl rfl dJ5_append_c97b9_1 ?_
  refine u_istore_n dJ5_append_c97b9_4 rfl (Nat.le_of_ble_eq_true rfl) rfl ?_
  refine u_iload_n dJ5_append_c97b9_5 rfl 0 rfl ?_
  refine u_iload_n dJ5_append_c97b9_6 rfl 2 rfl ?_
  refine u_callS (As := [.int (Int32.ofNat k)]) cj_J5_245 gw_1102 (j_size2 hk0 hk) rfl rfl (Nat.le_of_ble_eq_true rfl) dJ5_append_c97b9_7 (CR_rm (by decide) (by decide) (by decide) (by decide)) ?_
  rintro _ _ ⟨rfl, rfl⟩
  refine u_iadd dJ5_append_c97b9_10 ?_
  refine u_eq (st' := [.int (Int32.ofNat (n + 2))]) (by rw [Int32.ofNat_add] <;> rfl) ?_
  refine u_istore_n dJ5_append_c97b9_11 rfl (Nat.le_of_ble_eq_true rfl) rfl ?_
  refine u_aload_n dJ5_append_c97b9_12 rfl 2 rfl ?_
  refine u_iload_n dJ5_append_c97b9_13 rfl 0 rfl ?_
  refine u_callV (q0 := 0) (As := [.int (Int32.ofNat (n + 2))]) cj_J5_100 gw_993 sl_J5_ensureCapacityInternal_d00df (j_ensure (ens_B _ hn)) rfl rfl rfl rfl (Nat.le_of_ble_eq_true rfl) dJ5_append_c97b9_14 (CR_rm (by decide) (by decide) (by decide) (by decide)) ?_
  rintro _ _ ⟨rfl, rfl⟩
  refine u_aload_n dJ5_append_c97b9_17 rfl 2 rfl ?_
  refine u_callV (q0 := 0) (As := []) cj_J5_83 gw_1021 sl_J5_isLatin1_aae02 j_isLatin1 rfl rfl rfl rfl (Nat.le_of_ble_eq_true rfl) dJ5_append_c97b9_18 (CR_rm (by decide) (by decide) (by decide) (by decide)) ?_
  rintro _ _ ⟨rfl, rfl⟩
  refine u_if_eqF (tgt := 37) dJ5_append_c97b9_21 (by decide) (by decide) ?_
  refine u_iload_n dJ5_append_c97b9_24 rfl 3 rfl ?_
  refine u_iload_n dJ5_append_c97b9_25 rfl 0 rfl ?_
  refine u_aload_n dJ5_append_c97b9_26 rfl 2 rfl ?_
  refine u_get (q0 := 0) inG_J4 rfl (by decide : 0 < 4) gw_966 rfl rfl dJ5_append_c97b9_27 ?_
  refine u_callS (As := [.int (Int32.ofNat k), .int (Int32.ofNat (n + 2)), .ref d]) cj_J5_248 gw_1105 (j_gc2 hk0 hk hn) rfl rfl (Nat.le_of_ble_eq_true rfl) dJ5_append_c97b9_30 (CR_rm (by decide) (by decide) (by decide) (by decide)) ?_
  rintro _ _ ⟨rfl, rfl⟩
  refine u_pop dJ5_append_c97b9_33 rfl ?_
  refine u_goto (tgt := 48) dJ5_append_c97b9_34 (by decide) ?_
  refine u_aload_n dJ5_append_c97b9_48 rfl 2 rfl ?_
  refine u_iload_n dJ5_append_c97b9_49 rfl 0 rfl ?_
  refine u_put (q0 := 0) (ty := .int) (ws' := (b, sbC d (n + 2)) :: (d, byC g 16 (upd (upd f (n + 1) (Int32.ofNat (48 + k % 10))) n (Int32.ofNat (48 + k / 10)))) :: r) tyJ4 tyJ4_ok nmJ4 inG_J4 rfl (by decide : 3 < 4) gw_969 rfl (by decide +kernel) rfl rfl rfl (Nat.le_of_ble_eq_true rfl) rfl dJ5_append_c97b9_50 ?_
  refine u_aload_n dJ5_append_c97b9_53 rfl 2 rfl ?_
  exact u_aret dJ5_append_c97b9_54 rfl (Or.inl ⟨_, rfl⟩) (by decide) (by decide) ⟨rfl, rfl⟩
set_option maxRecDepth 100000 in
theorem j_appI2 {g : GC} {A : Nat → Prop} {sx : SX} {b d n k : Nat} {f : Nat → Int32} {r : va_W} (hk0 : 10 ≤ k) (hk : k < 100) (hn : n + 2 ≤ 16) : JM g A sx (.code yJ4_append_bf812 cJ4_append_bf812 2 (some (.object "java/lang/StringBuilder"))) yJ4_append_bf812 (rmL 4 0 0) 0 0 [.ref b, .int (Int32.ofNat k)] ((b, sbC d n) :: (d, byC g 16 f) :: r) (is1 (some (.ref b)) ((b, sbC d (n + 2)) :: (d, byC g 16 (upd (upd f (n + 1) (Int32.ofNat (48 + k % 10))) n (Int32.ofNat (48 + k / 10)))) :: r)) := by
  refine JM_of (ini := false) (own := RJ4) (by decide) gw_1097 rfl (fun h => by cases h) (Nat.le_of_ble_eq_true rfl) ?_ ⟨rfl, rfl⟩
  refine u_aload_n dJ4_append_bf812_0 rfl 0 rfl ?_
  refine u_iload_n dJ4_append_bf812_1 rfl 1 rfl ?_
  refine u_callSU (q0 := 0) (As := [.int (Int32.ofNat k)]) cj_J4_53 gw_1099 gw_1659 gw_978 (by decide +kernel) (j_asbI2 hk0 hk hn) rfl rfl rfl rfl (Nat.le_of_ble_eq_true rfl) dJ4_append_bf812_2 (CR_rm (by decide) (by decide) (by decide) (by decide)) ?_
  rintro _ _ ⟨rfl, rfl⟩
  refine u_pop dJ4_append_bf812_5 rfl ?_
  refine u_aload_n dJ4_append_bf812_6 rfl 0 rfl ?_
  exact u_aret dJ4_append_bf812_7 rfl (Or.inl ⟨_, rfl⟩) (by decide) (by decide) ⟨rfl, rfl⟩
set_option maxRecDepth 100000 in
theorem j_getValue {g : GC} {A : Nat → Prop} {sx : SX} {b d n : Nat} {f : Nat → Int32} {r : va_W} : JM g A sx (.code yJ5_getValue_6d5f1 cJ5_getValue_6d5f1 1 (some (.array .byte))) yJ5_getValue_6d5f1 (rmL 1 0 0) 0 0 [.ref b] ((b, sbC d n) :: (d, byC g 16 f) :: r) (is1 (some (.ref d)) ((b, sbC d n) :: (d, byC g 16 f) :: r)) := by
  refine JM_of (ini := false) (own := RJ5) (by decide) gw_1137 rfl (fun h => by cases h) (Nat.le_of_ble_eq_true rfl) ?_ ⟨rfl, rfl⟩
  refine u_aload_n dJ5_getValue_6d5f1_0 rfl 0 rfl ?_
  refine u_get (q0 := 0) inG_J4 rfl (by decide : 0 < 4) gw_966 rfl rfl dJ5_getValue_6d5f1_1 ?_
  exact u_aret dJ5_getValue_6d5f1_4 rfl (Or.inr ⟨_, rfl⟩) (by decide) (by decide) ⟨rfl, rfl⟩
set_option maxRecDepth 100000 in
theorem j_asbLen {g : GC} {A : Nat → Prop} {sx : SX} {b d n : Nat} {f : Nat → Int32} {r : va_W} : JM g A sx (.code yJ5_length_8abf5 cJ5_length_8abf5 1 (some .int)) yJ5_length_8abf5 (rmL 1 0 0) 0 0 [.ref b] ((b, sbC d n) :: (d, byC g 16 f) :: r) (is1 (some (.int (Int32.ofNat n))) ((b, sbC d n) :: (d, byC g 16 f) :: r)) := by
  refine JM_of (ini := false) (own := RJ5) (by decide) gw_1145 rfl (fun h => by cases h) (Nat.le_of_ble_eq_true rfl) ?_ ⟨rfl, rfl⟩
  refine u_aload_n dJ5_length_8abf5_0 rfl 0 rfl ?_
  refine u_get (q0 := 0) inG_J4 rfl (by decide : 3 < 4) gw_969 rfl rfl dJ5_length_8abf5_1 ?_
  exact u_iret dJ5_length_8abf5_4 rfl (by decide) (by decide) ⟨rfl, rfl⟩
set_option maxRecDepth 100000 in
theorem j_sbLen {g : GC} {A : Nat → Prop} {sx : SX} {b d n : Nat} {f : Nat → Int32} {r : va_W} : JM g A sx (.code yJ4_length_8abf5 cJ4_length_8abf5 1 (some .int)) yJ4_length_8abf5 (rmL 2 0 0) 0 0 [.ref b] ((b, sbC d n) :: (d, byC g 16 f) :: r) (is1 (some (.int (Int32.ofNat n))) ((b, sbC d n) :: (d, byC g 16 f) :: r)) := by
  refine JM_of (ini := false) (own := RJ4) (by decide) gw_1143 rfl (fun h => by cases h) (Nat.le_of_ble_eq_true rfl) ?_ ⟨rfl, rfl⟩
  refine u_aload_n dJ4_length_8abf5_0 rfl 0 rfl ?_
  refine u_callSU (q0 := 0) (As := []) cj_J4_343 gw_1139 gw_1140 gw_978 (by decide +kernel) j_asbLen rfl rfl rfl rfl (Nat.le_of_ble_eq_true rfl) dJ4_length_8abf5_1 (CR_rm (by decide) (by decide) (by decide) (by decide)) ?_
  rintro _ _ ⟨rfl, rfl⟩
  exact u_iret dJ4_length_8abf5_4 rfl (by decide) (by decide) ⟨rfl, rfl⟩
set_option maxRecDepth 100000 in
theorem j_chkLen {g : GC} {A : Nat → Prop} {sx : SX} {n : Nat} {ws : va_W} (hn : n ≤ 16) : JM g A sx (.code yJ7_checkLength_df160 cJ7_checkLength_df160 2 none) yJ7_checkLength_df160 (rmL 1 0 0) 0 0 [.int 0, .int (Int32.ofNat n)] (ws) (is1 none ws) := by
  refine JM_of (ini := false) (own := RJ7) (by decide) gw_1155 rfl (fun h => by cases h) (Nat.le_of_ble_eq_true rfl) ?_ ⟨rfl, rfl⟩
  refine u_iload_n dJ7_checkLength_df160_0 rfl 1 rfl ?_
  refine u_iload_n dJ7_checkLength_df160_1 rfl 0 rfl ?_
  refine u_icmp_geT (tgt := 37) dJ7_checkLength_df160_2 (by decide) (nn0 (by omega)) ?_
  exact u_vret dJ7_checkLength_df160_37 rfl (by decide) (by decide) ⟨rfl, rfl⟩
set_option maxRecDepth 100000 in
theorem j_copyB {g : GC} {A : Nat → Prop} {sx : SX} {d n : Nat} {f : Nat → Int32} {c0 c2 : Nat × va_E} (hn : n ≤ 16) (hfit : ∀ i, i < n → fits .byte (.int (f i)) = true) : JM g A sx (.code yJ7_copyOfRangeByte_39247 cJ7_copyOfRangeByte_39247 5 (some (.array .byte))) yJ7_copyOfRangeByte_39247 (rmL 2 1 16) 1 16 [.ref d, .int 0, .int (Int32.ofNat n)] (c0 :: (d, byC g 16 f) :: c2 :: []) (fun v ws' => ∃ q f2, v = some (.ref q) ∧ (∀ i, i < n → f2 i = f i) ∧ ws' = c0 :: (d, byC g 16 f) :: c2 :: (q, byC g n f2) :: []) := by
  refine JM_of (ini := false) (own := RJ7) (by decide) gw_1152 rfl (fun h => by cases h) (Nat.le_of_ble_eq_true rfl) ?_ ⟨rfl, rfl⟩
  refine u_iload_n dJ7_copyOfRangeByte_39247_0 rfl 1 rfl ?_
  refine u_iload_n dJ7_copyOfRangeByte_39247_1 rfl 2 rfl ?_
  refine u_callS (As := [.int 0, .int (Int32.ofNat n)]) cj_J7_343 gw_1154 (j_chkLen hn) rfl rfl (Nat.le_of_ble_eq_true rfl) dJ7_copyOfRangeByte_39247_2 (CR_rm (by decide) (by decide) (by decide) (by decide)) ?_
  rintro _ _ ⟨rfl, rfl⟩
  refine u_iload_n dJ7_copyOfRangeByte_39247_5 rfl 2 rfl ?_
  refine u_iload_n dJ7_copyOfRangeByte_39247_6 rfl 1 rfl ?_
  refine u_isub dJ7_copyOfRangeByte_39247_7 ?_
  refine u_eq (st' := [.int (Int32.ofNat n)]) (by rw [Int32.sub_zero] <;> rfl) ?_
  refine u_istore_n dJ7_copyOfRangeByte_39247_8 rfl (Nat.le_of_ble_eq_true rfl) rfl ?_
  refine u_iload_n dJ7_copyOfRangeByte_39247_9 rfl 0 rfl ?_
  refine u_newa (N := n) gw_444 (nnI (by omega)) (tnI (by omega)) (by omega) (by decide) (show 0 + n ≤ _ by show _ ≤ 16; omega) dJ7_copyOfRangeByte_39247_10 ?_
  intro q
  refine u_astore dJ7_copyOfRangeByte_39247_12 (Nat.le_of_ble_eq_true rfl) rfl ?_
  refine u_aload_n dJ7_copyOfRangeByte_39247_14 rfl 2 rfl ?_
  refine u_iload_n dJ7_copyOfRangeByte_39247_15 rfl 3 rfl ?_
  refine u_aload dJ7_copyOfRangeByte_39247_16 0 rfl ?_
  refine u_iconst (v := 0) dJ7_copyOfRangeByte_39247_18 (by decide) ?_
  refine u_aload_n dJ7_copyOfRangeByte_39247_19 rfl 2 rfl ?_
  refine u_alen (q0 := 1) (v := 16) rfl rfl dJ7_copyOfRangeByte_39247_20 ?_
  refine u_iload_n dJ7_copyOfRangeByte_39247_21 rfl 3 rfl ?_
  refine u_isub dJ7_copyOfRangeByte_39247_22 ?_
  refine u_iload_n dJ7_copyOfRangeByte_39247_23 rfl 1 rfl ?_
  refine u_min gw_1018 gw_552 gw_54 gw_553 dJ7_copyOfRangeByte_39247_24 (by decide) (Nat.le_of_ble_eq_true rfl) (by decide) (by show _ ≤ 16; omega) ?_
  refine u_eq (st' := [.int (Int32.ofNat n), .int 0, .ref q, .int 0, .ref d]) (by rw [minI hn]) ?_
  refine u_copyW (q0 := 1) (q1 := 3) (f := fun _ => 0) (ws' := c0 :: (d, byC g 16 f) :: c2 :: (q, byC g n (va_cpy f (fun _ => 0) 0 0 n)) :: []) gw_1019 gw_783 gw_782 gw_68 rfl rfl (by decide) (by decide) (nnI (by omega)) (by rw [tnI (by omega)]; exact (Nat.zero_add n).symm ▸ hn) (by rw [tnI (by omega)]; exact Nat.le_of_eq (Nat.zero_add n)) (fun i hi => by rw [tnI (by omega)] at hi; exact (Nat.zero_add i).symm ▸ hfit i hi) (Nat.le_of_ble_eq_true rfl) (by decide) (by rw [tnI (by omega)]; rfl) dJ7_copyOfRangeByte_39247_27 ?_
  refine u_aload dJ7_copyOfRangeByte_39247_30 0 rfl ?_
  exact u_aret dJ7_copyOfRangeByte_39247_32 rfl (Or.inr ⟨_, rfl⟩) (by omega) (by omega) ⟨q, _, rfl, fun i hi => cpy00 hi, rfl⟩
set_option maxRecDepth 100000 in
theorem j_copyRa {g : GC} {A : Nat → Prop} {sx : SX} {d n : Nat} {f : Nat → Int32} {c0 c2 : Nat × va_E} (hn : n < 16) (hfit : ∀ i, i < n → fits .byte (.int (f i)) = true) : JM g A sx (.code yJ7_copyOfRange_39247 cJ7_copyOfRange_39247 3 (some (.array .byte))) yJ7_copyOfRange_39247 (rmL 3 1 16) 1 16 [.ref d, .int 0, .int (Int32.ofNat n)] (c0 :: (d, byC g 16 f) :: c2 :: []) (fun v ws' => ∃ q f2, v = some (.ref q) ∧ (∀ i, i < n → f2 i = f i) ∧ ws' = c0 :: (d, byC g 16 f) :: c2 :: (q, byC g n f2) :: []) := by
  refine JM_of (ini := false) (own := RJ7) (by decide) gw_1149 rfl (fun h => by cases h) (Nat.le_of_ble_eq_true rfl) ?_ ⟨rfl, rfl⟩
  refine u_iload_n dJ7_copyOfRange_39247_0 rfl 1 rfl ?_
  refine u_if_neF (tgt := 10) dJ7_copyOfRange_39247_1 (by decide) (rfl) ?_
  refine u_iload_n dJ7_copyOfRange_39247_4 rfl 2 rfl ?_
  refine u_aload_n dJ7_copyOfRange_39247_5 rfl 0 rfl ?_
  refine u_alen (q0 := 1) (v := 16) rfl rfl dJ7_copyOfRange_39247_6 ?_
  refine u_icmp_eqF (tgt := 17) dJ7_copyOfRange_39247_7 (by decide) (ne16 hn) ?_
  refine u_aload_n dJ7_copyOfRange_39247_10 rfl 0 rfl ?_
  refine u_iload_n dJ7_copyOfRange_39247_11 rfl 1 rfl ?_
  refine u_iload_n dJ7_copyOfRange_39247_12 rfl 2 rfl ?_
  refine u_callS (As := [.ref d, .int 0, .int (Int32.ofNat n)]) cj_J7_339 gw_1151 (j_copyB (Nat.le_of_lt hn) hfit) rfl rfl (Nat.le_of_ble_eq_true rfl) dJ7_copyOfRange_39247_13 (CR_rm (by decide) (by decide) (by decide) (by decide)) ?_
  rintro _ _ ⟨q, f2, rfl, hf2, rfl⟩
  exact u_aret dJ7_copyOfRange_39247_16 rfl (Or.inr ⟨_, rfl⟩) (by decide) (by decide) ⟨q, f2, rfl, hf2, rfl⟩
set_option maxRecDepth 100000 in
theorem j_copyRb {g : GC} {A : Nat → Prop} {sx : SX} {d : Nat} {f : Nat → Int32} {c0 c2 : Nat × va_E} (hfit : ∀ i, i < 16 → fits .byte (.int (f i)) = true) : JM g A sx (.code yJ7_copyOfRange_39247 cJ7_copyOfRange_39247 3 (some (.array .byte))) yJ7_copyOfRange_39247 (rmL 3 1 16) 1 16 [.ref d, .int 0, .int (Int32.ofNat 16)] (c0 :: (d, byC g 16 f) :: c2 :: []) (fun v ws' => ∃ q f2, v = some (.ref q) ∧ (∀ i, i < 16 → f2 i = f i) ∧ ws' = c0 :: (d, byC g 16 f) :: c2 :: (q, byC g 16 f2) :: []) := by
  refine JM_of (ini := false) (own := RJ7) (by decide) gw_1149 rfl (fun h => by cases h) (Nat.le_of_ble_eq_true rfl) ?_ ⟨rfl, rfl⟩
  refine u_iload_n dJ7_copyOfRange_39247_0 rfl 1 rfl ?_
  refine u_if_neF (tgt := 10) dJ7_copyOfRange_39247_1 (by decide) (rfl) ?_
  refine u_iload_n dJ7_copyOfRange_39247_4 rfl 2 rfl ?_
  refine u_aload_n dJ7_copyOfRange_39247_5 rfl 0 rfl ?_
  refine u_alen (q0 := 1) (v := 16) rfl rfl dJ7_copyOfRange_39247_6 ?_
  refine u_icmp_eqT (tgt := 17) dJ7_copyOfRange_39247_7 (by decide) (rfl) ?_
  refine u_aload_n dJ7_copyOfRange_39247_17 rfl 0 rfl ?_
  refine u_clone (q0 := 1) (n := 16) gw_1011 gw_1012 gw_1013 gw_1014 gw_1015 rfl hfit (Nat.le_of_ble_eq_true rfl) (by decide) (by decide) (by decide) dJ7_copyOfRange_39247_18 ?_
  intro q
  refine u_castB (q0 := 3) gw_1017 rfl dJ7_copyOfRange_39247_21 ?_
  exact u_aret dJ7_copyOfRange_39247_24 rfl (Or.inr ⟨_, rfl⟩) (by decide) (by decide) ⟨q, _, rfl, fun i hi => rfl, rfl⟩
theorem j_copyR {g : GC} {A : Nat → Prop} {sx : SX} {d n : Nat} {f : Nat → Int32} {c0 c2 : Nat × va_E} (hn : n ≤ 16) (hfit : ∀ i, i < n → fits .byte (.int (f i)) = true) : JM g A sx (.code yJ7_copyOfRange_39247 cJ7_copyOfRange_39247 3 (some (.array .byte))) yJ7_copyOfRange_39247 (rmL 3 1 16) 1 16 [.ref d, .int 0, .int (Int32.ofNat n)] (c0 :: (d, byC g 16 f) :: c2 :: []) (fun v ws' => ∃ q f2, v = some (.ref q) ∧ (∀ i, i < n → f2 i = f i) ∧ ws' = c0 :: (d, byC g 16 f) :: c2 :: (q, byC g n f2) :: []) := by
  by_cases h : n < 16
  · exact j_copyRa h hfit
  · obtain rfl : n = 16 := by omega
    exact j_copyRb hfit
set_option maxRecDepth 100000 in
theorem j_strInit {g : GC} {A : Nat → Prop} {sx : SX} {b d n s0 : Nat} {f : Nat → Int32} (hn : n ≤ 16) (hfit : ∀ i, i < n → fits .byte (.int (f i)) = true) : JM g A sx (.code yJ0_init_db425 cJ0_init_db425 5 none) yJ0_init_db425 (rmL 4 1 16) 1 16 [.ref s0, .ref b, .null] ((b, sbC d n) :: (d, byC g 16 f) :: (s0, .inr (12, [.null, .int 0, .int 0, .int 0])) :: []) (fun v ws' => ∃ q f2, v = none ∧ (∀ i, i < n → f2 i = f i) ∧ ws' = (b, sbC d n) :: (d, byC g 16 f) :: (s0, .inr (12, [.ref q, .int 0, .int 0, .int 0])) :: (q, byC g n f2) :: []) := by
  refine JM_of (ini := true) (own := RJ0) (by decide) gw_1131 rfl (fun _ => rfl) (Nat.le_of_ble_eq_true rfl) ?_ ⟨rfl, rfl⟩
  refine u_aload_n dJ0_init_db425_0 rfl 0 rfl ?_
  refine u_objInit gw_1132 gw_84 gw_85 dJ0_init_db425_1 (by decide) (Nat.le_of_ble_eq_true rfl) ?_
  refine u_aload_n dJ0_init_db425_4 rfl 1 rfl ?_
  refine u_callV (q0 := 0) (As := []) cj_J0_552 gw_1134 sl_J5_getValue_6d5f1 j_getValue rfl rfl rfl rfl (Nat.le_of_ble_eq_true rfl) dJ0_init_db425_5 (CR_rm (by decide) (by decide) (by decide) (by decide)) ?_
  rintro _ _ ⟨rfl, rfl⟩
  refine u_astore_n dJ0_init_db425_8 rfl (Nat.le_of_ble_eq_true rfl) rfl ?_
  refine u_aload_n dJ0_init_db425_9 rfl 2 rfl ?_
  refine u_callU (q0 := 0) (x := yJ5_length_8abf5) (As := []) gw_1138 gw_1140 gw_1139 gw_1145 gw_1141 gw_1142 gw_70 gw_1143 (by decide +kernel) (by decide +kernel) j_sbLen rfl rfl rfl rfl (Nat.le_of_ble_eq_true rfl) dJ0_init_db425_10 (CR_rm (by decide) (by decide) (by decide) (by decide)) ?_
  rintro _ _ ⟨rfl, rfl⟩
  refine u_istore dJ0_init_db425_13 (Nat.le_of_ble_eq_true rfl) rfl ?_
  refine u_aload_n dJ0_init_db425_15 rfl 3 rfl ?_
  refine u_callV (q0 := 0) (As := []) cj_J0_1047 gw_1021 sl_J5_isLatin1_aae02 j_isLatin1 rfl rfl rfl rfl (Nat.le_of_ble_eq_true rfl) dJ0_init_db425_16 (CR_rm (by decide) (by decide) (by decide) (by decide)) ?_
  rintro _ _ ⟨rfl, rfl⟩
  refine u_if_eqF (tgt := 41) dJ0_init_db425_19 (by decide) (by decide) ?_
  refine u_aload_n dJ0_init_db425_22 rfl 2 rfl ?_
  refine u_iconst (v := 0) dJ0_init_db425_23 (by decide) ?_
  refine u_putF (q0 := 2) (ty := .byte) (ws' := (b, sbC d n) :: (d, byC g 16 f) :: (s0, .inr (12, [.null, .int 0, .int 0, .int 0])) :: []) rfl tyJ0 tyJ0_ok nmJ0 inG_J0 rfl (by decide : 1 < 4) gw_1181 rfl rfl (by decide +kernel) rfl rfl rfl (Nat.le_of_ble_eq_true rfl) rfl dJ0_init_db425_24 ?_
  refine u_aload_n dJ0_init_db425_27 rfl 2 rfl ?_
  refine u_aload_n dJ0_init_db425_28 rfl 1 rfl ?_
  refine u_iconst (v := 0) dJ0_init_db425_29 (by decide) ?_
  refine u_iload dJ0_init_db425_30 0 rfl ?_
  refine u_callS (As := [.ref d, .int 0, .int (Int32.ofNat n)]) cj_J0_54 gw_1148 (j_copyR hn hfit) rfl rfl (Nat.le_of_ble_eq_true rfl) dJ0_init_db425_32 (CR_rm (by decide) (by decide) (by decide) (by decide)) ?_
  rintro _ _ ⟨q, f2, rfl, hf2, rfl⟩
  refine u_putF (q0 := 2) (ty := .array .byte) (ws' := (b, sbC d n) :: (d, byC g 16 f) :: (s0, .inr (12, [.ref q, .int 0, .int 0, .int 0])) :: (q, byC g n f2) :: []) rfl tyJ0 tyJ0_ok nmJ0 inG_J0 rfl (by decide : 0 < 4) gw_1180 rfl rfl (by decide +kernel) rfl rfl rfl (Nat.le_of_ble_eq_true rfl) rfl dJ0_init_db425_35 ?_
  refine u_goto (tgt := 97) dJ0_init_db425_38 (by decide) ?_
  exact u_vret dJ0_init_db425_97 rfl (by decide) (by decide) ⟨q, f2, rfl, hf2, rfl⟩
set_option maxRecDepth 100000 in
theorem j_strInit2 {g : GC} {A : Nat → Prop} {sx : SX} {b d n s0 : Nat} {f : Nat → Int32} (hn : n ≤ 16) (hfit : ∀ i, i < n → fits .byte (.int (f i)) = true) : JM g A sx (.code yJ0_init_81219 cJ0_init_81219 2 none) yJ0_init_81219 (rmL 5 1 16) 1 16 [.ref s0, .ref b] ((b, sbC d n) :: (d, byC g 16 f) :: (s0, .inr (12, [.null, .int 0, .int 0, .int 0])) :: []) (fun v ws' => ∃ q f2, v = none ∧ (∀ i, i < n → f2 i = f i) ∧ ws' = (b, sbC d n) :: (d, byC g 16 f) :: (s0, .inr (12, [.ref q, .int 0, .int 0, .int 0])) :: (q, byC g n f2) :: []) := by
  refine JM_of (ini := true) (own := RJ0) (by decide) gw_1128 rfl (fun _ => rfl) (Nat.le_of_ble_eq_true rfl) ?_ ⟨rfl, rfl⟩
  refine u_aload_n dJ0_init_81219_0 rfl 0 rfl ?_
  refine u_aload_n dJ0_init_81219_1 rfl 1 rfl ?_
  refine u_null dJ0_init_81219_2 ?_
  refine u_callI (As := [.ref b, .null]) cj_J0_489 gw_1130 rfl (j_strInit hn hfit) rfl rfl (Nat.le_of_ble_eq_true rfl) dJ0_init_81219_3 (CR_rm (by decide) (by decide) (by decide) (by decide)) ?_
  rintro _ _ ⟨q, f2, rfl, hf2, rfl⟩
  exact u_vret dJ0_init_81219_6 rfl (by decide) (by decide) ⟨q, f2, rfl, hf2, rfl⟩
set_option maxRecDepth 100000 in
theorem j_toString {g : GC} {A : Nat → Prop} {sx : SX} {b d n : Nat} {f : Nat → Int32} (hn : n ≤ 16) (hfit : ∀ i, i < n → fits .byte (.int (f i)) = true) : JM g A sx (.code yJ4_toString_0e30d cJ4_toString_0e30d 1 (some (.object "java/lang/String"))) yJ4_toString_0e30d (rmL 6 2 20) 2 20 [.ref b] ((b, sbC d n) :: (d, byC g 16 f) :: []) (fun v ws' => ∃ s0, ∃ q f2, v = some (.ref s0) ∧ (∀ i, i < n → f2 i = f i) ∧ ws' = (b, sbC d n) :: (d, byC g 16 f) :: (s0, .inr (12, [.ref q, .int 0, .int 0, .int 0])) :: (q, byC g n f2) :: []) := by
  refine JM_of (ini := false) (own := RJ4) (by decide) gw_1124 rfl (fun h => by cases h) (Nat.le_of_ble_eq_true rfl) ?_ ⟨rfl, rfl⟩
  refine u_new tyJ0 tyJ0_ok inG_J0 (rfl : vwCl[12]? = _) gw_1125 gw_443 gw_62 def_J0 (by decide) (by decide) dJ4_toString_0e30d_0 ?_
  intro s0
  refine u_dup dJ4_toString_0e30d_3 rfl ?_
  refine u_aload_n dJ4_toString_0e30d_4 rfl 0 rfl ?_
  refine u_callI (As := [.ref b]) cj_J4_137 gw_1127 rfl (j_strInit2 hn hfit) rfl rfl (Nat.le_of_ble_eq_true rfl) dJ4_toString_0e30d_5 (CR_rm (by decide) (by decide) (by decide) (by decide)) ?_
  rintro _ _ ⟨q, f2, rfl, hf2, rfl⟩
  exact u_aret dJ4_toString_0e30d_8 rfl (Or.inl ⟨_, rfl⟩) (by decide) (by decide) ⟨s0, q, f2, rfl, hf2, rfl⟩
set_option maxRecDepth 100000 in
theorem j_asbInit {g : GC} {A : Nat → Prop} {sx : SX} {b : Nat} : JM g A sx (.code yJ5_init_d00df cJ5_init_d00df 2 none) yJ5_init_d00df (rmL 2 1 16) 1 16 [.ref b, .int 16] ((b, .inr (11, [.null, .int 0, .int 0, .int 0])) :: []) (fun v ws' => ∃ d, v = none ∧ ws' = (b, sbC d 0) :: (d, byC g 16 (fun _ => 0)) :: []) := by
  refine JM_of (ini := true) (own := RJ5) (by decide) gw_955 rfl (fun _ => rfl) (Nat.le_of_ble_eq_true rfl) ?_ ⟨rfl, rfl⟩
  refine u_aload_n dJ5_init_d00df_0 rfl 0 rfl ?_
  refine u_objInit gw_956 gw_84 gw_85 dJ5_init_d00df_1 (by decide) (Nat.le_of_ble_eq_true rfl) ?_
  refine u_compact gw_957 dJ5_init_d00df_4 ?_
  refine u_if_eqF (tgt := 25) dJ5_init_d00df_7 (by decide) (by decide) ?_
  refine u_aload_n dJ5_init_d00df_10 rfl 0 rfl ?_
  refine u_iload_n dJ5_init_d00df_11 rfl 1 rfl ?_
  refine u_newa (N := 16) gw_444 (by decide) (rfl) (by omega) (by decide) (show 0 + 16 ≤ _ by show _ ≤ 16; omega) dJ5_init_d00df_12 ?_
  intro d
  refine u_put (q0 := 0) (ty := .array .byte) (ws' := (b, .inr (11, [.ref d, .int 0, .int 0, .int 0])) :: (d, byC g 16 (fun _ => 0)) :: []) tyJ4 tyJ4_ok nmJ4 inG_J4 rfl (by decide : 0 < 4) gw_966 rfl (by decide +kernel) rfl rfl rfl (Nat.le_of_ble_eq_true rfl) rfl dJ5_init_d00df_14 ?_
  refine u_aload_n dJ5_init_d00df_17 rfl 0 rfl ?_
  refine u_iconst (v := 0) dJ5_init_d00df_18 (by decide) ?_
  refine u_put (q0 := 0) (ty := .byte) (ws' := (b, .inr (11, [.ref d, .int 0, .int 0, .int 0])) :: (d, byC g 16 (fun _ => 0)) :: []) tyJ4 tyJ4_ok nmJ4 inG_J4 rfl (by decide : 1 < 4) gw_967 rfl (by decide +kernel) rfl rfl rfl (Nat.le_of_ble_eq_true rfl) rfl dJ5_init_d00df_19 ?_
  refine u_goto (tgt := 38) dJ5_init_d00df_22 (by decide) ?_
  exact u_vret dJ5_init_d00df_38 rfl (by decide) (by decide) ⟨d, rfl, rfl⟩
set_option maxRecDepth 100000 in
theorem j_sbInit {g : GC} {A : Nat → Prop} {sx : SX} {b : Nat} : JM g A sx (.code yJ4_init_da8c8 cJ4_init_da8c8 1 none) yJ4_init_da8c8 (rmL 3 1 16) 1 16 [.ref b] ((b, .inr (11, [.null, .int 0, .int 0, .int 0])) :: []) (fun v ws' => ∃ d, v = none ∧ ws' = (b, sbC d 0) :: (d, byC g 16 (fun _ => 0)) :: []) := by
  refine JM_of (ini := true) (own := RJ4) (by decide) gw_952 rfl (fun _ => rfl) (Nat.le_of_ble_eq_true rfl) ?_ ⟨rfl, rfl⟩
  refine u_aload_n dJ4_init_da8c8_0 rfl 0 rfl ?_
  refine u_bipush (v := 16) dJ4_init_da8c8_1 (by decide) ?_
  refine u_callI (As := [.int 16]) cj_J4_1 gw_954 rfl j_asbInit rfl rfl (Nat.le_of_ble_eq_true rfl) dJ4_init_da8c8_3 (CR_rm (by decide) (by decide) (by decide) (by decide)) ?_
  rintro _ _ ⟨d, rfl, rfl⟩
  exact u_vret dJ4_init_da8c8_6 rfl (by decide) (by decide) ⟨d, rfl, rfl⟩
end
section
/-! Stretches of the law in which a text is made: beside the world the cells of a builder -/
def TXok (tx : List Int32) : Prop := ∀ c ∈ tx, 0 ≤ c ∧ c ≤ 127
def bR (tx : List Int32) : Nat → Int32 := fun i => tx.getD i 0
def BL (g : GC) (b d : Nat) (tx : List Int32) : va_W := [(b, sbC d tx.length), (d, byC g 16 (bR tx))]
def ZA (g : GC) (s : State) : Nat → Prop := fun q => g.2.1 + TT.length ≤ q ∧ s.heap.size ≤ q
def ZOn : va_W → Prop := fun wo => wo = []
def ZOb (g : GC) (b : Nat) (tx : List Int32) (N : Nat) : va_W → Prop := fun wo => ∃ d, wo = BL g b d tx ∧ tx.length ≤ N ∧ TXok tx
def ZOs (g : GC) (s0 : Nat) (tx : List Int32) (N : Nat) : va_W → Prop := fun wo => ∃ q f, wo = [(s0, .inr (12, [.ref q, .int 0, .int 0, .int 0])), (q, byC g tx.length f)] ∧ (∀ i, i < tx.length → f i = tx.getD i 0) ∧ tx.length ≤ N ∧ TXok tx
def ZZ (g : GC) (s : State) (zo : va_W → Prop) (b : Nat) (tx : List Int32) (N : Nat) (H : Heap) : Prop := ∃ wo d, zo wo ∧ va_P g.2.2.2.1 vwCl wo H ∧ va_P g.2.2.2.1 vwCl (BL g b d tx) H ∧ va_D (ZA g s) (wo ++ BL g b d tx) ∧ tx.length ≤ N ∧ TXok tx
def VZ {ρ : Type} (g : GC) (cc : ByteArray) (nL : Nat) (own : String) (rt : Option FieldType) (hh : List (Nat × Nat × Nat × Nat)) (R : Room) (mc ms : Nat) (out : ρ → Out) (zo : va_W → Prop) (b : Nat) (tx : List Int32) (N : Nat) (kc ks pc : Nat) (lv : List (Nat × Value)) (st : List Value) (w : XW) (E : Option ρ) : Prop :=
  ∀ r, E = some r → ∀ (p : Program) (e : Env) (s : State) (m : MethodId) (args : Array Value) (below : List Frame) (meth : Method) (c : Code), FX g cc nL own rt hh p s m args meth c →
    ∀ (H : Heap) (locs : List Loc) (ls : Array Slot), RW g w H → VS g s.heap H locs → lv_has ls nL lv → ZZ g s zo b tx N H →
      W p g.1 e R s m args below meth c H locs kc ks (vx_MQ below (QO g (out r)) (XO g (out r)) args s mc ms (fun q => g.2.1 ≤ q)) (F0 m pc ls st)
/-- the room that the JDK's methods take -/
def ZR (R : Room) (dc ds kc ks : Nat) : Prop := ∃ n mc ms, R = rmL n mc ms ∧ 8 ≤ n ∧ kc + dc ≤ mc ∧ ks + ds ≤ ms
theorem ZR_rm {n mc ms dc ds kc ks : Nat} (h : 8 ≤ n) (h1 : kc + dc ≤ mc) (h2 : ks + ds ≤ ms) : ZR (rmL n mc ms) dc ds kc ks := ⟨n, mc, ms, rfl, h, h1, h2⟩
theorem ZR.cr {R : Room} {dc ds kc ks nLy n' : Nat} (h : ZR R dc ds kc ks) (hn : n' < 8) (hL : nLy ≤ 45) : CR R nLy dc ds (rmL n' dc ds) kc ks := by
  obtain ⟨n, mc, ms, rfl, h0, h1, h2⟩ := h
  exact CR_rm (Nat.lt_of_lt_of_le hn h0) hL h1 h2
/-! regions -/
theorem va_O.cap {E : String} {t : Nat} {A B : Nat → Prop} {U : State} {H : Heap} (h : va_O E t A U H) (hB : ∀ q, q < H.size → ¬ A q → ¬ B q) : va_O E t B U H := by
  obtain ⟨cell, h1, h2, h3, h4⟩ := h
  exact ⟨cell, h1, h2, h3, hB t (Array.getElem?_eq_some_iff.mp h1).1 h4⟩
theorem va_OF.cap {o n d : String} {v : Value} {t : Nat} {A B : Nat → Prop} {U : State} {H : Heap} (h : va_OF o n d v t A U H) (hB : ∀ q, q < H.size → ¬ A q → ¬ B q) : va_OF o n d v t B U H := by
  obtain ⟨cf, k, i, f, cell, h1, h2, h3, h4, h5, h6⟩ := h
  exact ⟨cf, k, i, f, cell, h1, h2, h3, h4, h5, hB t (Array.getElem?_eq_some_iff.mp h3).1 h6⟩
theorem va_T.cap {ty : FieldType} {t N : Nat} {f : Nat → Value} {A B : Nat → Prop} {U : State} {H : Heap} (h : va_T ty t N f A U H) (hB : ∀ q, q < H.size → ¬ A q → ¬ B q) : va_T ty t N f B U H := by
  obtain ⟨cell, h1, h2, h3, h4, h5, h6, h7⟩ := h
  exact ⟨cell, h1, h2, h3, h4, h5, h6, hB t (Array.getElem?_eq_some_iff.mp h1).1 h7⟩
theorem StrA.cap {A B : Nat → Prop} {x : Nat × Nat × List Int32} {U : State} {H : Heap} (h : StrA A x U H) (hB : ∀ q, q < H.size → ¬ A q → ¬ B q) : StrA B x U H := ⟨h.1.cap hB, h.2.1.cap hB, h.2.2.1.cap hB, h.2.2.2.cap hB⟩
theorem JFs.narrow {A B : Nat → Prop} {sx : SX} {U : State} {H : Heap} (h : JFs A sx U H) (hAB : ∀ q, B q → A q) : JFs B sx U H :=
  ⟨h.1.narrow hAB, ⟨⟨h.2.1.1.1.narrow hAB, h.2.1.1.2.narrow hAB⟩, h.2.1.2.1.narrow hAB, h.2.1.2.2.narrow hAB⟩, fun x hx => (h.2.2.1 x hx).cap (fun q _ h2 h3 => h2 (hAB q h3)), h.2.2.2⟩
def Zr (g : GC) (s : State) : Nat → Prop := fun q => TTr g q ∨ s.heap.size ≤ q
theorem RW.keptT {g : GC} {w : XW} {H H1 : Heap} (h : RW g w H) (hq : ∀ a : Nat, a < H.size → TTr g a → H1[a]? = H[a]?) : RW g w H1 := fun k q hk => (h k q hk).kept (hq _ ((h k q hk).lt) (TTr_of hk))
set_option maxRecDepth 100000 in
theorem RW.top {g : GC} {w : XW} {H : Heap} (h : RW g w H) : g.2.1 + TT.length ≤ H.size := by
  have h1 : TT[141]? = some (TT[141]'(by decide)) := rfl
  have h2 := (h 141 _ h1).lt
  have h3 : TT.length = 142 := by decide
  omega
section ZROWS
variable {ρ : Type} {g : GC} {cc : ByteArray} {nL : Nat} {own : String} {rt : Option FieldType} {hh : List (Nat × Nat × Nat × Nat)} {R : Room} {mc ms : Nat} {out : ρ → Out} {kc ks pc : Nat} {lv : List (Nat × Value)} {rest : List Value} {w : XW} {E E1 E2 : Option ρ}
variable {zo : va_W → Prop} {b : Nat} {tx : List Int32} {N : Nat}
theorem z_iconst {n : Int} {v : Int32} (hd : decode cc pc = .ok (.iconst n, 1)) (hv : Int32.ofInt n = v) (k : VZ g cc nL own rt hh R mc ms out zo b tx N kc ks (pc + 1) lv (.int v :: rest) w E) : VZ g cc nL own rt hh R mc ms out zo b tx N kc ks pc lv (rest) w E := fun r hr p e s m args below meth c F H locs ls hW hS hl hZ => lv_iconst F.1 F.2.1 hd hv (k r hr p e s m args below meth c F H locs ls hW hS hl hZ)
theorem z_bipush {n : Int} {v : Int32} (hd : decode cc pc = .ok (.bipush n, 2)) (hv : (Int8.ofInt n).toInt32 = v) (k : VZ g cc nL own rt hh R mc ms out zo b tx N kc ks (pc + 2) lv (.int v :: rest) w E) : VZ g cc nL own rt hh R mc ms out zo b tx N kc ks pc lv (rest) w E := fun r hr p e s m args below meth c F H locs ls hW hS hl hZ => lv_bipush F.1 F.2.1 hd hv (k r hr p e s m args below meth c F H locs ls hW hS hl hZ)
theorem z_sipush {n : Int} {v : Int32} (hd : decode cc pc = .ok (.sipush n, 3)) (hv : (Int16.ofInt n).toInt32 = v) (k : VZ g cc nL own rt hh R mc ms out zo b tx N kc ks (pc + 3) lv (.int v :: rest) w E) : VZ g cc nL own rt hh R mc ms out zo b tx N kc ks pc lv (rest) w E := fun r hr p e s m args below meth c F H locs ls hW hS hl hZ => lv_sipush F.1 F.2.1 hd hv (k r hr p e s m args below meth c F H locs ls hW hS hl hZ)
theorem z_iload_n {j : Fin 4} {i : Nat} {x : Int32} (hd : decode cc pc = .ok (.iload_n j, 1)) (hi : (j : Nat) = i) (q : Nat) (hq : lv[q]? = some (i, .int x)) (k : VZ g cc nL own rt hh R mc ms out zo b tx N kc ks (pc + 1) lv (.int x :: rest) w E) : VZ g cc nL own rt hh R mc ms out zo b tx N kc ks pc lv (rest) w E := fun r hr p e s m args below meth c F H locs ls hW hS hl hZ => lv_iload_n F.1 F.2.1 hd hi (lv_at hl q hq) (k r hr p e s m args below meth c F H locs ls hW hS hl hZ)
theorem z_iload {i : Nat} {x : Int32} (hd : decode cc pc = .ok (.iload i, 2)) (q : Nat) (hq : lv[q]? = some (i, .int x)) (k : VZ g cc nL own rt hh R mc ms out zo b tx N kc ks (pc + 2) lv (.int x :: rest) w E) : VZ g cc nL own rt hh R mc ms out zo b tx N kc ks pc lv (rest) w E := fun r hr p e s m args below meth c F H locs ls hW hS hl hZ => lv_iload F.1 F.2.1 hd (lv_at hl q hq) (k r hr p e s m args below meth c F H locs ls hW hS hl hZ)
theorem z_aload_n {j : Fin 4} {i : Nat} {x : Nat} (hd : decode cc pc = .ok (.aload_n j, 1)) (hi : (j : Nat) = i) (q : Nat) (hq : lv[q]? = some (i, .ref x)) (k : VZ g cc nL own rt hh R mc ms out zo b tx N kc ks (pc + 1) lv (.ref x :: rest) w E) : VZ g cc nL own rt hh R mc ms out zo b tx N kc ks pc lv (rest) w E := fun r hr p e s m args below meth c F H locs ls hW hS hl hZ => lv_aload_n F.1 F.2.1 hd hi (lv_at hl q hq) (k r hr p e s m args below meth c F H locs ls hW hS hl hZ)
theorem z_aload {i : Nat} {x : Nat} (hd : decode cc pc = .ok (.aload i, 2)) (q : Nat) (hq : lv[q]? = some (i, .ref x)) (k : VZ g cc nL own rt hh R mc ms out zo b tx N kc ks (pc + 2) lv (.ref x :: rest) w E) : VZ g cc nL own rt hh R mc ms out zo b tx N kc ks pc lv (rest) w E := fun r hr p e s m args below meth c F H locs ls hW hS hl hZ => lv_aload F.1 F.2.1 hd (lv_at hl q hq) (k r hr p e s m args below meth c F H locs ls hW hS hl hZ)
theorem z_iadd {x y : Int32} (hd : decode cc pc = .ok (.iadd, 1)) (k : VZ g cc nL own rt hh R mc ms out zo b tx N kc ks (pc + 1) lv (.int (x + y) :: rest) w E) : VZ g cc nL own rt hh R mc ms out zo b tx N kc ks pc lv (.int y :: .int x :: rest) w E := fun r hr p e s m args below meth c F H locs ls hW hS hl hZ => lv_iadd F.1 F.2.1 hd (k r hr p e s m args below meth c F H locs ls hW hS hl hZ)
theorem z_isub {x y : Int32} (hd : decode cc pc = .ok (.isub, 1)) (k : VZ g cc nL own rt hh R mc ms out zo b tx N kc ks (pc + 1) lv (.int (x - y) :: rest) w E) : VZ g cc nL own rt hh R mc ms out zo b tx N kc ks pc lv (.int y :: .int x :: rest) w E := fun r hr p e s m args below meth c F H locs ls hW hS hl hZ => lv_isub F.1 F.2.1 hd (k r hr p e s m args below meth c F H locs ls hW hS hl hZ)
theorem z_irem {x y : Int32} (hd : decode cc pc = .ok (.irem, 1)) (hne : ¬ y = 0) (k : VZ g cc nL own rt hh R mc ms out zo b tx N kc ks (pc + 1) lv (.int (x - x / y * y) :: rest) w E) : VZ g cc nL own rt hh R mc ms out zo b tx N kc ks pc lv (.int y :: .int x :: rest) w E := fun r hr p e s m args below meth c F H locs ls hW hS hl hZ => lv_irem F.1 F.2.1 hd hne (k r hr p e s m args below meth c F H locs ls hW hS hl hZ)
theorem z_idiv {x y : Int32} (hd : decode cc pc = .ok (.idiv, 1)) (hne : ¬ y = 0) (k : VZ g cc nL own rt hh R mc ms out zo b tx N kc ks (pc + 1) lv (.int (x / y) :: rest) w E) : VZ g cc nL own rt hh R mc ms out zo b tx N kc ks pc lv (.int y :: .int x :: rest) w E := fun r hr p e s m args below meth c F H locs ls hW hS hl hZ => lv_idiv F.1 F.2.1 hd hne (k r hr p e s m args below meth c F H locs ls hW hS hl hZ)
theorem z_i2c {x : Int32} (hd : decode cc pc = .ok (.i2c, 1)) (k : VZ g cc nL own rt hh R mc ms out zo b tx N kc ks (pc + 1) lv (.int (x.toUInt32 % 65536).toInt32 :: rest) w E) : VZ g cc nL own rt hh R mc ms out zo b tx N kc ks pc lv (.int x :: rest) w E := fun r hr p e s m args below meth c F H locs ls hW hS hl hZ => lv_i2c F.1 F.2.1 hd rfl (k r hr p e s m args below meth c F H locs ls hW hS hl hZ)
theorem z_goto {off : Int} {tgt : Nat} (hd : decode cc pc = .ok (.goto off, 3)) (ht : (pc : Int) + off = (tgt : Int)) (k : VZ g cc nL own rt hh R mc ms out zo b tx N kc ks tgt lv rest w E) : VZ g cc nL own rt hh R mc ms out zo b tx N kc ks pc lv rest w E := fun r hr p e s m args below meth c F H locs ls hW hS hl hZ => lv_goto F.1 F.2.1 hd ht (k r hr p e s m args below meth c F H locs ls hW hS hl hZ)
theorem z_if_ne {x : Int32} {off : Int} {tgt : Nat} (hd : decode cc pc = .ok (.ifCond .ne off, 3)) (ht : (pc : Int) + off = (tgt : Int)) (kt : VZ g cc nL own rt hh R mc ms out zo b tx N kc ks tgt lv rest w E1) (kf : VZ g cc nL own rt hh R mc ms out zo b tx N kc ks (pc + 3) lv rest w E2) : VZ g cc nL own rt hh R mc ms out zo b tx N kc ks pc lv (.int x :: rest) w (if x = 0 then E2 else E1) := fun r hr p e s m args below meth c F H locs ls hW hS hl hZ => lv_if_ne F.1 F.2.1 hd ht (fun h => kt r (by rw [if_neg h] at hr; exact hr) p e s m args below meth c F H locs ls hW hS hl hZ) (fun h => kf r (by rw [if_pos h] at hr; exact hr) p e s m args below meth c F H locs ls hW hS hl hZ)
theorem z_if_eq {x : Int32} {off : Int} {tgt : Nat} (hd : decode cc pc = .ok (.ifCond .eq off, 3)) (ht : (pc : Int) + off = (tgt : Int)) (kt : VZ g cc nL own rt hh R mc ms out zo b tx N kc ks tgt lv rest w E1) (kf : VZ g cc nL own rt hh R mc ms out zo b tx N kc ks (pc + 3) lv rest w E2) : VZ g cc nL own rt hh R mc ms out zo b tx N kc ks pc lv (.int x :: rest) w (if x = 0 then E1 else E2) := fun r hr p e s m args below meth c F H locs ls hW hS hl hZ => lv_if_eq F.1 F.2.1 hd ht (fun h => kt r (by rw [if_pos h] at hr; exact hr) p e s m args below meth c F H locs ls hW hS hl hZ) (fun h => kf r (by rw [if_neg h] at hr; exact hr) p e s m args below meth c F H locs ls hW hS hl hZ)
theorem z_icmp_ne {x y : Int32} {off : Int} {tgt : Nat} (hd : decode cc pc = .ok (.if_icmp .ne off, 3)) (ht : (pc : Int) + off = (tgt : Int)) (kt : VZ g cc nL own rt hh R mc ms out zo b tx N kc ks tgt lv rest w E1) (kf : VZ g cc nL own rt hh R mc ms out zo b tx N kc ks (pc + 3) lv rest w E2) : VZ g cc nL own rt hh R mc ms out zo b tx N kc ks pc lv (.int y :: .int x :: rest) w (if x = y then E2 else E1) := fun r hr p e s m args below meth c F H locs ls hW hS hl hZ => lv_icmp_ne F.1 F.2.1 hd ht (fun h => kt r (by rw [if_neg h] at hr; exact hr) p e s m args below meth c F H locs ls hW hS hl hZ) (fun h => kf r (by rw [if_pos h] at hr; exact hr) p e s m args below meth c F H locs ls hW hS hl hZ)
theorem z_icmp_eq {x y : Int32} {off : Int} {tgt : Nat} (hd : decode cc pc = .ok (.if_icmp .eq off, 3)) (ht : (pc : Int) + off = (tgt : Int)) (kt : VZ g cc nL own rt hh R mc ms out zo b tx N kc ks tgt lv rest w E1) (kf : VZ g cc nL own rt hh R mc ms out zo b tx N kc ks (pc + 3) lv rest w E2) : VZ g cc nL own rt hh R mc ms out zo b tx N kc ks pc lv (.int y :: .int x :: rest) w (if x = y then E1 else E2) := fun r hr p e s m args below meth c F H locs ls hW hS hl hZ => lv_icmp_eq F.1 F.2.1 hd ht (fun h => kt r (by rw [if_pos h] at hr; exact hr) p e s m args below meth c F H locs ls hW hS hl hZ) (fun h => kf r (by rw [if_neg h] at hr; exact hr) p e s m args below meth c F H locs ls hW hS hl hZ)
theorem z_ldcSw {index i : Nat} {tx9 : String} {bs : List Int32} (hi : strTab[i]? = some (own, index, tx9, bs)) (hd : decode cc pc = .ok (.ldc_w index, 3)) (k : VZ g cc nL own rt hh R mc ms out zo b tx N kc ks (pc + 3) lv (.ref (g.2.2.2.2.1 i) :: rest) w E) : VZ g cc nL own rt hh R mc ms out zo b tx N kc ks pc lv rest w E := by
  intro r hr p e s m args below meth c F H locs ls hW hS hl hZ T hT X
  obtain ⟨t, a1, b1⟩ := k r hr p e s m args below meth c F H locs ls hW hS hl hZ T hT X
  have hz := F.2.2.2.2.2.2.2.2.1.2.1 i _ hi
  have hz0 : (Cond.stringRef own index tx9).before args s = true := hz.1
  exact ⟨t, X.ldcStringW F.1 F.2.2.2.1 (text := tx9) (a := g.2.2.2.2.1 i) hz.1 hz.2 (g := F0 m pc ls rest) rfl (by rw [F.2.1]; exact hd) t a1, b1⟩
theorem z_guard {c : Prop} [Decidable c] {st : List Value} (k : c → VZ g cc nL own rt hh R mc ms out zo b tx N kc ks pc lv st w E) : VZ g cc nL own rt hh R mc ms out zo b tx N kc ks pc lv st w (if c then E else none) := by
  intro r hr
  by_cases h : c
  · rw [if_pos h] at hr; exact k h r hr
  · rw [if_neg h] at hr; cases hr
/-- what the JDK's methods read -/
theorem zJ0 {p : Program} {s : State} {m : MethodId} {args : Array Value} {meth : Method} {c : Code} {H : Heap} {locs : List Loc} (F : FX g cc nL own rt hh p s m args meth c) (hS : VS g s.heap H locs) : ∃ dd, (∀ i L, strT g i = some L → StrA (Zr g s) (g.2.2.2.2.1 i, g.2.2.2.2.2.1 i, L) s H) ∧ JFs (Zr g s) (none, dd) s H := by
  have hSF := F.2.2.2.2.2.2.2.1
  have hlow : ∀ q, Zr g s q → g.2.1 ≤ q := fun q h => h.elim (fun h => h.1) (fun h => Nat.le_trans F.2.2.2.2.2.2.1 h)
  have hq : ∀ q, q < s.heap.size → ¬ Zr g s q → H[q]? = s.heap[q]? := fun q h1 h2 => hS.2.1 q h1 (fun h => h2 (Or.inl h))
  obtain ⟨⟨d1, g1, g2⟩, d2, g3, g4⟩ := hSF.2.2.2.2.2
  have hst : ∀ i L, strT g i = some L → StrA (Zr g s) (g.2.2.2.2.1 i, g.2.2.2.2.2.1 i, L) s H := fun i L hi => by
    have h := hSF.2.2.2.2.1 i L hi
    have h2 : StrA (TTr g) (g.2.2.2.2.1 i, g.2.2.2.2.2.1 i, L) s s.heap := ⟨h.1, h.2.1, h.2.2.1, h.2.2.2⟩
    exact (h2.cap (B := Zr g s) (fun q h3 h4 h5 => h5.elim h4 (fun h6 => absurd h3 (Nat.not_lt.mpr h6)))).kept hq
  have hJ : JFs (Zr g s) (none, (d1, d2)) s s.heap := ⟨hSF.2.2.1.1.narrow hlow, ⟨⟨g1.narrow hlow, g2.narrow hlow⟩, g3.narrow hlow, g4.narrow hlow⟩, (fun x hx => by cases hx), F.2.2.2.2.2.2.2.2.1.1 _ List.mem_cons_self⟩
  exact ⟨(d1, d2), hst, hJ.kept hq⟩
theorem JFs.str {A : Nat → Prop} {x : Nat × Nat × List Int32} {dd : Nat × Nat} {U : State} {H : Heap} (h : JFs A (none, dd) U H) (hx : StrA A x U H) : JFs A (some x, dd) U H := ⟨h.1, h.2.1, fun y hy => by cases hy; exact hx, h.2.2.2⟩
/-- the caller's other cells behind a call -/
theorem zj {A0 : Nat → Prop} {D : va_G} {cl : List vw_C} {wo wi w1 : va_W} {H H1 : Heap} (hP0 : va_P D cl wo H) (hD : va_D A0 (wo ++ wi)) (hk : ∀ q, q < H.size → ¬ va_A wi H.size q → H1[q]? = H[q]?) (hF : ∀ q, H.size ≤ q → A0 q) (hD1 : va_D (va_A wi H.size) w1) : va_P D cl wo H1 ∧ va_D A0 (wo ++ w1) := by
  have hno : ∀ (k : Nat) (q : Nat × va_E), wo[k]? = some q → q.1 < H.size ∧ ¬ va_A wi H.size q.1 := fun k q hq => by
    have hlt := (hP0 k q hq).lt
    refine ⟨hlt, fun h => ?_⟩
    rcases h with ⟨j, e, hj⟩ | h
    · have hkl := (List.getElem?_eq_some_iff.mp hq).1
      have e1 : (wo ++ wi)[k]? = some q := by rw [List.getElem?_append_left hkl]; exact hq
      have e2 : (wo ++ wi)[wo.length + j]? = some (q.1, e) := by rw [List.getElem?_append_right (Nat.le_add_right _ _), Nat.add_sub_cancel_left]; exact hj
      have := hD.1 _ _ _ _ e1 e2 rfl
      omega
    · omega
  refine ⟨hP0.kept fun k q hq => hk _ (hno k q hq).1 (hno k q hq).2, ?_⟩
  refine va_D.app ⟨fun i j x y hx hy hxy => ?_, fun k q hq => ?_⟩ (hD1.weaken fun k q hq h => ?_) (fun i j x y hx hy hxy => ?_)
  · have e1 : (wo ++ wi)[i]? = some x := by rw [List.getElem?_append_left (List.getElem?_eq_some_iff.mp hx).1]; exact hx
    have e2 : (wo ++ wi)[j]? = some y := by rw [List.getElem?_append_left (List.getElem?_eq_some_iff.mp hy).1]; exact hy
    exact hD.1 _ _ _ _ e1 e2 hxy
  · have e1 : (wo ++ wi)[k]? = some q := by rw [List.getElem?_append_left (List.getElem?_eq_some_iff.mp hq).1]; exact hq
    exact hD.2 _ _ e1
  · rcases h with ⟨j, e, hj⟩ | h
    · have e2 : (wo ++ wi)[wo.length + j]? = some (q.1, e) := by rw [List.getElem?_append_right (Nat.le_add_right _ _), Nat.add_sub_cancel_left]; exact hj
      exact hD.2 _ (q.1, e) e2
    · exact hF _ h
  · exact (hno i x hx).2 (hxy ▸ hD1.2 j y hy)
theorem va_D.right {A : Nat → Prop} {w1 w2 : va_W} (h : va_D A (w1 ++ w2)) : va_D A w2 := by
  have e : ∀ (k : Nat) (q : Nat × va_E), w2[k]? = some q → (w1 ++ w2)[w1.length + k]? = some q := fun k q hq => by rw [List.getElem?_append_right (Nat.le_add_right _ _), Nat.add_sub_cancel_left]; exact hq
  exact ⟨fun i j p q hp hq hpq => by have := h.1 _ _ _ _ (e i p hp) (e j q hq) hpq; omega, fun k q hq => h.2 _ _ (e k q hq)⟩
theorem z_run {A : Nat → Prop} {Py : Option Value → va_W → Prop} {mcy msy : Nat} {Q : State → Prop} {p : Program} {e : Env} {s : State} {m : MethodId} {args : Array Value} {below : List Frame} {meth : Method} {c : Code} {H : Heap} {locs : List Loc} {ls : Array Slot} {st0 : List Value} {a : Array Value}
    (hA : ∀ q, A q → ZA g s q) (hW : RW g w H) (hS : VS g s.heap H locs) (hg : g.2.1 ≤ s.heap.size)
    (hr : va_Run p g.1 e R s m args below meth c H locs kc ks mcy msy (F0 m pc ls st0) rest (QU g A Py a) A)
    (kk : ∀ v ws', Py v ws' → ∀ (H1 : Heap) (locs1 : List Loc), RW g w H1 → VS g s.heap H1 locs1 → H.size ≤ H1.size → (∀ q : Nat, q < H.size → ¬ A q → H1[q]? = H[q]?) → va_P g.2.2.2.1 vwCl ws' H1 → va_D A ws' → W p g.1 e R s m args below meth c H1 locs1 (kc + mcy) (ks + msy) Q (F0 m (pc + 3) ls (v.toList ++ rest))) :
    W p g.1 e R s m args below meth c H locs kc ks Q (F0 m pc ls st0) := by
  intro T hT X
  obtain ⟨v, st₀, t, T', L, h0, X', hL, e1, e2, ⟨v', ws', hPy, hv, hP1, hD1, hF⟩, st⟩ := hr T hT X
  cases hv
  obtain ⟨hz, hk⟩ := hF
  rw [h0] at hz hk
  have hz' : H.size ≤ T'.heap.size := by rw [e1]; exact hz
  have hk' : ∀ q : Nat, q < H.size → ¬ A q → T'.heap[q]? = H[q]? := fun q h1 h2 => by rw [e1]; exact hk q h1 h2
  obtain ⟨t2, a1, b1⟩ := kk v ws' hPy T'.heap (locs ++ L) (hW.keptT fun q h1 h2 => hk' q h1 (fun h3 => Nat.not_lt.mpr (hA q h3).1 h2.2))
    ⟨Nat.le_trans hS.1 hz', fun q h1 h2 => (hk' q (Nat.lt_of_lt_of_le h1 hS.1) (fun h3 => Nat.not_lt.mpr (hA q h3).2 h1)).trans (hS.2.1 q h1 h2), fun q hq => by
      rcases List.mem_append.mp hq with h | h
      · exact hS.2.2 q h
      · exact Nat.le_trans hg (hA _ (hL q h)).2⟩ hz' hk' (by rw [e1]; exact hP1) hD1 T' rfl X'
  exact ⟨t2, st t2 a1, b1⟩
theorem z_pre {A : Nat → Prop} {sx : SX} {av : List Value} {ws : va_W} {s U : State} {H : Heap} {p : Program} {m : MethodId} {args : Array Value} {meth : Method} {c : Code} (F : FX g cc nL own rt hh p s m args meth c) (hJ : JFs A sx s H) (hA : ∀ q, H.size ≤ q → A q) (hP : va_P g.2.2.2.1 vwCl ws H) (hD : va_D A ws) (hU : U.heap = H) (hX : s.WarmedH U.vm) : PU g A sx av ws av.toArray U :=
  ⟨rfl, fun q hq => hA q (by rw [← hU]; exact hq), by rw [hU]; exact hP, hD, va_K.moved hX.alike F.2.2.2.2.2.1, by rw [hU]; exact hJ.moved hX.alike⟩
/-- where a builder's cells may be changed -/
theorem zA_in {s : State} {wo wi : va_W} {H : Heap} {locs : List Loc} (hW : RW g w H) (hS : VS g s.heap H locs) (hD : va_D (ZA g s) (wo ++ wi)) : (∀ q, H.size ≤ q → ZA g s q) ∧ ∀ q, va_A wi H.size q → ZA g s q := by
  have h1 : ∀ q, H.size ≤ q → ZA g s q := fun q h => ⟨Nat.le_trans hW.top h, Nat.le_trans hS.1 h⟩
  refine ⟨h1, fun q h => ?_⟩
  rcases h with ⟨j, e, hj⟩ | h
  · exact hD.right.2 j (q, e) hj
  · exact h1 q h
/-- a String among the cells -/
theorem zStr {s : State} {args : Array Value} {H : Heap} {s0 q n : Nat} {f : Nat → Int32} {L : List Int32} {B : Nat → Prop} (hK : va_K g.2.2.2.1 vwCl (tysL g) s) (hts : ∀ w ∈ GW, w.before args s = true) (hP : va_P g.2.2.2.1 vwCl [(s0, .inr (12, [.ref q, .int 0, .int 0, .int 0])), (q, byC g n f)] H) (hn : n = L.length) (hf : ∀ i, i < n → f i = L.getD i 0) (h0 : ¬ B s0) (hq : ¬ B q) : StrA B (s0, q, L) s H := by
  subst hn
  have hr := va_recv (q0 := 0) hK hP (rfl : vwCl[12]? = some (RJ0, TJ0, 4)) rfl
  obtain ⟨cell, g1, g2, g3⟩ := hr
  have hfld : ∀ j, j < 4 → ∀ v, vp_V [.ref q, .int 0, .int 0, .int 0] j = v → va_OF (TJ0 j).1 (TJ0 j).2.1 (TJ0 j).2.2.1 v s0 B s H := by
    intro j hj v hv
    obtain ⟨r, h1, cell, q1, q2, q3, q4⟩ := hP 0 _ rfl
    have hr : r = (RJ0, TJ0, 4) := Option.some.inj (h1.symm.trans (rfl : vwCl[12]? = some (RJ0, TJ0, 4)))
    subst hr
    obtain ⟨hS, hfc, kC, hkC, hkind⟩ := hK.1 12 _ (rfl : vwCl[12]? = some (RJ0, TJ0, 4))
    obtain ⟨cf, kf, fi, f, hi, hsl⟩ := hS j hj
    exact ⟨cf, kf, fi, f, cell, hi, (u_facts hfc hkC (u_lays hts inG_J0 hj) hi).1, q1, (by rw [q3]; exact fun h => by cases h), (by rw [hsl, q4 j hj]; exact congrArg some hv), h0⟩
  refine ⟨⟨cell, g1, g2, g3, h0⟩, hfld 1 (by decide) _ rfl, hfld 0 (by decide) _ rfl, ?_⟩
  have h1 : H[q]? = some (arrV (g.2.2.1 5) L.length (fun j => .int (f j))) := hP 1 _ rfl
  refine ⟨_, h1, (hK.2 5 _ (rfl : (tysL g)[5]? = some (g.2.2.1 5, .byte))).1 L.length (fun j => .int (f j)), (fun h => by cases h), ?_, ?_, fun j hj => ?_, hq⟩
  · show L.length ≤ (arrV _ _ _).slots.size
    rw [arrV_size]; exact Nat.le_refl _
  · rw [arrV_size]
  · rw [arrV_read _ _ hj, hf j hj]
/-! texts as rows of bytes -/
theorem bR_app {tx x : List Int32} : bR (tx ++ x) = va_cpy (fun j => x.getD j 0) (bR tx) 0 tx.length x.length := by
  funext i
  unfold bR va_cpy
  simp only [List.getD_eq_getElem?_getD]
  by_cases h : i < tx.length
  · rw [if_neg (by omega), List.getElem?_append_left h]
  · rw [List.getElem?_append_right (Nat.le_of_not_lt h)]
    by_cases h2 : i < tx.length + x.length
    · rw [if_pos (by omega), Nat.zero_add]
    · rw [if_neg (by omega), List.getElem?_eq_none (by omega : x.length ≤ i - tx.length), List.getElem?_eq_none (by omega : tx.length ≤ i)]
theorem bR_one {tx : List Int32} {c : Int32} : bR (tx ++ [c]) = upd (bR tx) tx.length c := by
  rw [bR_app]
  funext i
  unfold va_cpy upd
  by_cases h : i = tx.length
  · subst h
    simp
  · rw [if_neg (by simp only [List.length_cons, List.length_nil]; omega)]
    simp [h]
theorem bR_two {tx : List Int32} {a c : Int32} : bR (tx ++ [a, c]) = upd (upd (bR tx) (tx.length + 1) c) tx.length a := by
  rw [show tx ++ [a, c] = (tx ++ [a]) ++ [c] by simp, bR_one, bR_one, List.length_append]
  funext i
  unfold upd
  by_cases h : i = tx.length <;> by_cases h2 : i = tx.length + 1 <;> simp [h, h2] <;> omega
theorem fit127 {c : Int32} (h : 0 ≤ c ∧ c ≤ 127) : fits .byte (.int c) = true := by
  obtain ⟨k, hk, rfl⟩ := ch_cases h
  exact (ch_B k hk).2.2.2
theorem getD_ok {tx : List Int32} (h : TXok tx) (i : Nat) : 0 ≤ tx.getD i 0 ∧ tx.getD i 0 ≤ 127 := by
  rw [List.getD_eq_getElem?_getD]
  cases hi : tx[i]? with
  | none => exact by decide
  | some c => exact h c (List.mem_of_getElem? hi)
theorem dgL_I : ∀ k, k < 100 → dgL (Int32.ofNat k) = if k < 10 then [Int32.ofNat (48 + k % 10)] else [Int32.ofNat (48 + k / 10), Int32.ofNat (48 + k % 10)] := by decide +kernel
theorem dg_cases {v : Int32} (h : 0 ≤ v ∧ v ≤ 99) : ∃ k, k < 100 ∧ v = Int32.ofNat k := by
  refine ⟨v.toNatClampNeg, ?_, (Int32.ofNat_toNatClampNeg v h.1).symm⟩
  have h2 := Int32.le_iff_toInt_le.mp h.2
  have h3 : (99 : Int32).toInt = 99 := rfl
  have h4 := Int32.le_iff_toInt_le.mp h.1
  have h5 : (0 : Int32).toInt = 0 := rfl
  show v.toInt.toNat < 100
  omega
theorem dgL_ok {v : Int32} (h : 0 ≤ v ∧ v ≤ 99) : TXok (dgL v) ∧ (dgL v).length ≤ 2 := by
  obtain ⟨k, hk, rfl⟩ := dg_cases h
  rw [dgL_I k hk]
  split
  · exact ⟨fun c hc => by rw [List.mem_singleton.mp hc]; exact dk_0 k, Nat.le_of_ble_eq_true rfl⟩
  · refine ⟨fun c hc => ?_, Nat.le_refl 2⟩
    rcases List.mem_cons.mp hc with rfl | hc
    · exact dk_1 hk
    · rw [List.mem_singleton.mp hc]; exact dk_0 k
section KAPP
variable {A : Nat → Prop} {sx : SX} {d : Nat}
theorem k_appS {x : Nat × Nat × List Int32} (hx : sx.1 = some x) (hok : TXok x.2.2) (hn : (tx ++ x.2.2).length ≤ 16) : JM g A sx (.code yJ4_append_15ec4 cJ4_append_15ec4 2 (some (.object "java/lang/StringBuilder"))) yJ4_append_15ec4 (rmL 7 0 0) 0 0 [.ref b, .ref x.1] (BL g b d tx) (is1 (some (.ref b)) (BL g b d (tx ++ x.2.2))) := by
  rw [List.length_append] at hn
  have e : BL g b d (tx ++ x.2.2) = (b, sbC d (tx.length + x.2.2.length)) :: (d, byC g 16 (va_cpy (fun j => x.2.2.getD j 0) (bR tx) 0 tx.length x.2.2.length)) :: [] := by
    unfold BL; rw [List.length_append, bR_app]
  rw [e]
  exact j_appS hx hn (fun i _ => fit127 (getD_ok hok i))
theorem k_appC {c : Int32} (hc : 0 ≤ c ∧ c ≤ 127) (hn : (tx ++ [c]).length ≤ 16) : JM g A sx (.code yJ4_append_cf468 cJ4_append_cf468 2 (some (.object "java/lang/StringBuilder"))) yJ4_append_cf468 (rmL 3 0 0) 0 0 [.ref b, .int c] (BL g b d tx) (is1 (some (.ref b)) (BL g b d (tx ++ [c]))) := by
  rw [List.length_append] at hn
  have e : BL g b d (tx ++ [c]) = (b, sbC d (tx.length + 1)) :: (d, byC g 16 (upd (bR tx) tx.length c)) :: [] := by
    unfold BL; rw [List.length_append, bR_one]; rfl
  rw [e]
  exact j_appC hn hc
theorem k_appI {v : Int32} (hv : 0 ≤ v ∧ v ≤ 99) (hn : (tx ++ dgL v).length ≤ 16) : JM g A sx (.code yJ4_append_bf812 cJ4_append_bf812 2 (some (.object "java/lang/StringBuilder"))) yJ4_append_bf812 (rmL 4 0 0) 0 0 [.ref b, .int v] (BL g b d tx) (is1 (some (.ref b)) (BL g b d (tx ++ dgL v))) := by
  obtain ⟨k, hk, rfl⟩ := dg_cases hv
  rw [List.length_append] at hn
  rw [dgL_I k hk] at hn ⊢
  by_cases h : k < 10
  · rw [if_pos h] at hn ⊢
    have e : BL g b d (tx ++ [Int32.ofNat (48 + k % 10)]) = (b, sbC d (tx.length + 1)) :: (d, byC g 16 (upd (bR tx) tx.length (Int32.ofNat (48 + k % 10)))) :: [] := by
      unfold BL; rw [List.length_append, bR_one]; rfl
    rw [e]
    exact j_appI1 h hn
  · rw [if_neg h] at hn ⊢
    have e : BL g b d (tx ++ [Int32.ofNat (48 + k / 10), Int32.ofNat (48 + k % 10)]) = (b, sbC d (tx.length + 2)) :: (d, byC g 16 (upd (upd (bR tx) (tx.length + 1) (Int32.ofNat (48 + k % 10))) tx.length (Int32.ofNat (48 + k / 10)))) :: [] := by
      unfold BL; rw [List.length_append, bR_two]; rfl
    rw [e]
    exact j_appI2 (Nat.le_of_not_lt h) hk hn
end KAPP
/-- something is appended: arg, whose letters are add -/
theorem z_app {index nLy n' N' : Nat} {add : List Int32} {arg : Value} {y : MethodName} {cy : ByteArray} {ry : Option FieldType} (hc : CJ own index y cy nLy ry 1) (hin : Cond.instanceMethod y ∈ GW) (hsel : ∀ (args : Array Value) (s : State), (∀ w ∈ GW, w.before args s = true) → (Cond.selects RJ4 y y).before args s = true) (hn' : n' < 8) (hnL : nLy ≤ 45)
    (hJM : ∀ (args : Array Value) (s : State) (H : Heap) (wo : va_W) (d : Nat) (dd : Nat × Nat), va_K g.2.2.2.1 vwCl (tysL g) s → (∀ w ∈ GW, w.before args s = true) → (∀ i L, strT g i = some L → StrA (va_A (BL g b d tx) H.size) (g.2.2.2.2.1 i, g.2.2.2.2.2.1 i, L) s H) → zo wo → va_P g.2.2.2.1 vwCl wo H → va_D (ZA g s) (wo ++ BL g b d tx) → JFs (va_A (BL g b d tx) H.size) (none, dd) s H →
      ∃ x, JFs (va_A (BL g b d tx) H.size) (x, dd) s H ∧ ((tx ++ add).length ≤ 16 → JM g (va_A (BL g b d tx) H.size) (x, dd) (.code y cy nLy ry) y (rmL n' 0 0) 0 0 [.ref b, arg] (BL g b d tx) (is1 (some (.ref b)) (BL g b d (tx ++ add)))))
    (hok : TXok add) (hN : tx.length ≤ N → (tx ++ add).length ≤ N' ∧ N' ≤ 16) (hst : (rest.map fun v => v.category).sum ≤ 8) (hd : decode cc pc = .ok (.invokevirtual index, 3)) (hR : ZR R 0 0 kc ks)
    (kk : VZ g cc nL own rt hh R mc ms out zo b (tx ++ add) N' kc ks (pc + 3) lv (.ref b :: rest) w E) : VZ g cc nL own rt hh R mc ms out zo b tx N kc ks pc lv (arg :: .ref b :: rest) w E := by
  intro r hr p e s m args below meth c F H locs ls hW hS hl hZ
  obtain ⟨wo, d, hzo, hP0, hPi, hD, hlen, hTX⟩ := hZ
  obtain ⟨hF1, hA⟩ := zA_in hW hS hD
  have hts := F.2.2.2.2.1
  obtain ⟨dd, hst1, hJ0⟩ := zJ0 F hS
  have hnar : ∀ q, va_A (BL g b d tx) H.size q → Zr g s q := fun q h => Or.inr (hA q h).2
  obtain ⟨x, hJ1, hM⟩ := hJM args s H wo d dd F.2.2.2.2.2.1 hts (fun i L hi => (hst1 i L hi).cap fun q _ h2 h3 => h2 (hnar q h3)) hzo hP0 hD (hJ0.narrow hnar)
  obtain ⟨c1, c4, c5, c6, c7⟩ := hc
  have hcr := hR.cr (nLy := nLy) hn' hnL
  refine z_run hA hW hS F.2.2.2.2.2.2.1 (va_runV (Ts := GW) (nL := nL) (C := RJ4) (n := 1) (bytes := cy) (maxL := nLy) (ret := ry) (As := [arg]) (rest := rest) (g := F0 m pc ls ([arg].reverse ++ .ref b :: rest)) ⟨F.1, F.2.1, F.2.2.1, F.2.2.2.1, hts⟩ (hM (Nat.le_trans (hN hlen).1 (hN hlen).2))
    ⟨⟨hcr.1.1, hcr.1.2.1, hcr.1.2.2.1, hcr.1.2.2.2, GW_pay c5 hts, List.mem_cons_self, hts _ c5, hts _ c4, c6, v_len c7, hts _ c1⟩, hts _ hin, hsel _ _ hts⟩
    ⟨PU_blind, va_recv (q0 := 0) F.2.2.2.2.2.1 hPi (rfl : vwCl[11]? = some (RJ4, TJ4, 4)) rfl, fun U hU hX => z_pre F hJ1 (fun q h => Or.inr h) hPi (va_D.self hD.right) hU hX⟩ rfl rfl hl.1 rfl (by show 2 * 0 + _ ≤ 8; omega) hd hcr.2) ?_
  rintro v ws' ⟨rfl, rfl⟩ H1 locs1 hW1 hS1 hz1 hk1 hP1 hD1
  obtain ⟨hP0', hD'⟩ := zj hP0 hD hk1 hF1 hD1
  exact kk r hr p e s m args below meth c F H1 locs1 ls hW1 hS1 hl ⟨wo, d, hzo, hP0', hP1, hD', (hN hlen).1, fun c hc => (List.mem_append.mp hc).elim (hTX c) (hok c)⟩
theorem z_appS {index i N' : Nat} (hlink : Cond.methodLink own index yJ4_append_15ec4 ∈ GW) (hi : i < 26) (hok : TXok (strB i)) (hN : tx.length ≤ N → (tx ++ strB i).length ≤ N' ∧ N' ≤ 16) (hst : (rest.map fun v => v.category).sum ≤ 8) (hd : decode cc pc = .ok (.invokevirtual index, 3)) (hR : ZR R 0 0 kc ks)
    (kk : VZ g cc nL own rt hh R mc ms out zo b (tx ++ strB i) N' kc ks (pc + 3) lv (.ref b :: rest) w E) : VZ g cc nL own rt hh R mc ms out zo b tx N kc ks pc lv (.ref (g.2.2.2.2.1 i) :: .ref b :: rest) w E :=
  z_app (n' := 7) (add := strB i) (zc_S hlink) zi_S sl_J4_append_15ec4 (by decide) (by decide) (fun args s H wo d dd hK hts hS hzo hP0 hD hJ => ⟨some (g.2.2.2.2.1 i, g.2.2.2.2.2.1 i, strB i), hJ.str (hS i _ (strT_c hi)), fun hn => k_appS (x := (g.2.2.2.2.1 i, g.2.2.2.2.2.1 i, strB i)) rfl hok hn⟩) hok hN hst hd hR kk
theorem z_appC {index N' : Nat} {v : Int32} (hlink : Cond.methodLink own index yJ4_append_cf468 ∈ GW) (hv : 0 ≤ v ∧ v ≤ 127) (hN : tx.length ≤ N → (tx ++ [v]).length ≤ N' ∧ N' ≤ 16) (hst : (rest.map fun v => v.category).sum ≤ 8) (hd : decode cc pc = .ok (.invokevirtual index, 3)) (hR : ZR R 0 0 kc ks)
    (kk : VZ g cc nL own rt hh R mc ms out zo b (tx ++ [v]) N' kc ks (pc + 3) lv (.ref b :: rest) w E) : VZ g cc nL own rt hh R mc ms out zo b tx N kc ks pc lv (.int v :: .ref b :: rest) w E :=
  z_app (n' := 3) (zc_C hlink) zi_C sl_J4_append_cf468 (by decide) (by decide) (fun args s H wo d dd hK hts hS hzo hP0 hD hJ => ⟨none, hJ, fun hn => k_appC hv hn⟩) (fun c hc => by rw [List.mem_singleton.mp hc]; exact hv) hN hst hd hR kk
theorem z_appI {index N' : Nat} {v : Int32} (hlink : Cond.methodLink own index yJ4_append_bf812 ∈ GW) (hv : 0 ≤ v ∧ v ≤ 99) (hN : tx.length ≤ N → (tx ++ dgL v).length ≤ N' ∧ N' ≤ 16) (hst : (rest.map fun v => v.category).sum ≤ 8) (hd : decode cc pc = .ok (.invokevirtual index, 3)) (hR : ZR R 0 0 kc ks)
    (kk : VZ g cc nL own rt hh R mc ms out zo b (tx ++ dgL v) N' kc ks (pc + 3) lv (.ref b :: rest) w E) : VZ g cc nL own rt hh R mc ms out zo b tx N kc ks pc lv (.int v :: .ref b :: rest) w E :=
  z_app (n' := 4) (zc_I hlink) zi_I sl_J4_append_bf812 (by decide) (by decide) (fun args s H wo d dd hK hts hS hzo hP0 hD hJ => ⟨none, hJ, fun hn => k_appI hv hn⟩) (dgL_ok hv).1 hN hst hd hR kk
/-- a String that was made before -/
theorem z_appD {index N' s2 N2 : Nat} {tx2 : List Int32} (hlink : Cond.methodLink own index yJ4_append_15ec4 ∈ GW) (hN : tx2.length ≤ N2 → tx.length ≤ N → (tx ++ tx2).length ≤ N' ∧ N' ≤ 16) (hst : (rest.map fun v => v.category).sum ≤ 8) (hd : decode cc pc = .ok (.invokevirtual index, 3)) (hR : ZR R 0 0 kc ks)
    (kk : VZ g cc nL own rt hh R mc ms out (ZOs g s2 tx2 N2) b (tx ++ tx2) N' kc ks (pc + 3) lv (.ref b :: rest) w E) : VZ g cc nL own rt hh R mc ms out (ZOs g s2 tx2 N2) b tx N kc ks pc lv (.ref s2 :: .ref b :: rest) w E := by
  intro r hr p e s m args below meth c F H locs ls hW hS hl hZ
  have hZ2 := hZ
  obtain ⟨wo, d, ⟨q, f, rfl, hf, hlen2, hok2⟩, -⟩ := hZ2
  refine z_app (n' := 7) (add := tx2) (zc_S hlink) zi_S sl_J4_append_15ec4 (by decide) (by decide) (fun args s H wo d dd hK hts hS hzo hP0 hD hJ => ?_) hok2 (hN hlen2) hst hd hR kk r hr p e s m args below meth c F H locs ls hW hS hl hZ
  obtain ⟨q, f, rfl, hf, hlen2, hok2⟩ := hzo
  have hno : ∀ (k : Nat) (x : Nat × va_E), [(s2, (.inr (12, [.ref q, .int 0, .int 0, .int 0]) : va_E)), (q, byC g tx2.length f)][k]? = some x → ¬ va_A (BL g b d tx) H.size x.1 := fun k x hx h => by
    rcases h with ⟨j, e, hj⟩ | h
    · have hkl := (List.getElem?_eq_some_iff.mp hx).1
      have e1 : ([(s2, (.inr (12, [.ref q, .int 0, .int 0, .int 0]) : va_E)), (q, byC g tx2.length f)] ++ BL g b d tx)[k]? = some x := by rw [List.getElem?_append_left hkl]; exact hx
      have e2 : ([(s2, (.inr (12, [.ref q, .int 0, .int 0, .int 0]) : va_E)), (q, byC g tx2.length f)] ++ BL g b d tx)[2 + j]? = some (x.1, e) := by rw [Nat.add_comm 2 j]; exact hj
      have := hD.1 _ _ _ _ e1 e2 rfl
      have h3 : k < 2 := hkl
      omega
    · exact Nat.not_lt.mpr h (hP0 k x hx).lt
  exact ⟨some (s2, q, tx2), hJ.str (zStr hK hts hP0 rfl hf (hno 0 _ rfl) (hno 1 _ rfl)), fun hn => k_appS (x := (s2, q, tx2)) rfl hok2 hn⟩
/-! a builder is made -/
theorem z_newW {ik ic : Nat} {Q : State → Prop} {p : Program} {e : Env} {s : State} {m : MethodId} {args : Array Value} {below : List Frame} {meth : Method} {c : Code} {H : Heap} {locs : List Loc} {ls : Array Slot} (F : FX g cc nL own rt hh p s m args meth c) (hW : RW g w H) (hS : VS g s.heap H locs) (hl : lv_has ls nL lv)
    (hnew : Cond.classLink own ik "java/lang/StringBuilder" ∈ GW ∧ Cond.methodLink own ic yJ4_init_da8c8 ∈ GW) (hd1 : decode cc pc = .ok (.new ik, 3)) (hd2 : decode cc (pc + 3) = .ok (.dup, 1)) (hd3 : decode cc (pc + 3 + 1) = .ok (.invokespecial ic, 3)) (hst : (rest.map fun v => v.category).sum ≤ 7) (hR : ZR R 2 20 kc ks)
    (kk : ∀ (H1 : Heap) (locs1 : List Loc) (b d : Nat), RW g w H1 → VS g s.heap H1 locs1 → (∀ q : Nat, q < H.size → H1[q]? = H[q]?) → va_P g.2.2.2.1 vwCl (BL g b d []) H1 → va_D (fun q => H.size ≤ q) (BL g b d []) → W p g.1 e R s m args below meth c H1 locs1 (kc + 2) (ks + 20) Q (F0 m (pc + 7) ls (.ref b :: rest))) :
    W p g.1 e R s m args below meth c H locs kc ks Q (F0 m pc ls rest) := by
  have hts := F.2.2.2.2.1
  have hK := F.2.2.2.2.2.1
  have hKn := hK.1 11 _ (rfl : vwCl[11]? = some (RJ4, TJ4, 4))
  obtain ⟨n, mc', ms', rfl, hn8, hc1, hc2⟩ := hR
  refine W.newcK F.1 F.2.1 F.2.2.2.1 (hts _ hnew.1) (hts _ zn_inst) (hts _ zn_ini) rfl hd1 (by show kc + 1 ≤ mc'; omega) (by show ks + 4 ≤ ms'; omega) hKn.2.1 rfl fun H1 kC hkC e1 z1 o1 => ?_
  refine lv_dup F.1 F.2.1 hd2 rfl ?_
  have hW1 : RW g w H1 := hW.kept fun a ha => o1 a ha
  have hS1 : VS g s.heap H1 locs := ⟨Nat.le_trans hS.1 (by omega), fun x h1 h2 => (o1 x (Nat.lt_of_lt_of_le h1 hS.1)).trans (hS.2.1 x h1 h2), hS.2.2⟩
  have hZA : ∀ q, H.size ≤ q → ZA g s q := fun q h => ⟨Nat.le_trans hW.top h, Nat.le_trans hS.1 h⟩
  obtain ⟨dd, -, hJ0⟩ := zJ0 F hS1
  have hP1 : va_P g.2.2.2.1 vwCl [(H.size, .inr (11, [.null, .int 0, .int 0, .int 0]))] H1 := by
    intro k q hq
    have hk : k < 1 := (List.getElem?_eq_some_iff.mp hq).1
    rw [show k = 0 by omega] at hq
    cases hq
    exact ⟨_, (rfl : vwCl[11]? = some (RJ4, TJ4, 4)), (u_born tyJ4 hts inG_J4 hKn hkC e1 tyJ4_ok).to def_J4⟩
  have hD1 : va_D (fun q => H.size ≤ q) [(H.size, (.inr (11, [.null, .int 0, .int 0, .int 0]) : va_E))] := by
    refine ⟨fun i j x y hx hy _ => ?_, fun k q hq => ?_⟩
    · have h1 : i < 1 := (List.getElem?_eq_some_iff.mp hx).1
      have h2 : j < 1 := (List.getElem?_eq_some_iff.mp hy).1
      omega
    · have hk : k < 1 := (List.getElem?_eq_some_iff.mp hq).1
      rw [show k = 0 by omega] at hq
      cases hq
      exact Nat.le_refl _
  have hcr : CR (rmL n mc' ms') 1 1 16 (rmL 3 1 16) (kc + 1) (ks + 4) := CR_rm (by omega) (by decide) (by omega) (by omega)
  obtain ⟨c1, c4, c5, c6, c7⟩ := zc_N hnew.2
  refine z_run (A := fun q => H.size ≤ q) hZA hW1 hS1 F.2.2.2.2.2.2.1 (va_runI (Ts := GW) (nL := nL) (n := 0) (bytes := cJ4_init_da8c8) (maxL := 1) (As := []) (b := H.size) (rest := .ref H.size :: rest) (g := F0 m (pc + 3 + 1) ls (.ref H.size :: .ref H.size :: rest)) ⟨F.1, F.2.1, F.2.2.1, F.2.2.2.1, hts⟩ (j_sbInit (sx := (none, dd)) (b := H.size))
    ⟨⟨hcr.1.1, hcr.1.2.1, hcr.1.2.2.1, hcr.1.2.2.2, GW_pay c5 hts, List.mem_cons_self, hts _ c5, hts _ c4, c6, v_len c7, hts _ c1⟩, rfl, hts _ zi_N⟩
    ⟨PU_blind, fun U hU hX => z_pre F (hJ0.narrow fun q h => Or.inr (Nat.le_trans hS.1 h)) (fun q h => by omega) hP1 hD1 hU hX⟩ rfl rfl hl.1 rfl (by show 2 * 0 + ((Value.ref H.size :: rest).map fun v => v.category).sum ≤ 8; rw [List.map_cons, List.sum_cons]; show 2 * 0 + (1 + _) ≤ 8; omega) hd3 hcr.2) ?_
  rintro v ws' ⟨d, rfl, rfl⟩ H2 locs2 hW2 hS2 hz2 hk2 hP2 hD2
  have e0 : BL g H.size d [] = (H.size, sbC d 0) :: (d, byC g 16 (fun _ => 0)) :: [] := rfl
  exact kk H2 locs2 H.size d hW2 hS2 (fun q hq => (hk2 q (by omega) (Nat.not_le.mpr hq)).trans (o1 q hq)) (by rw [e0]; exact hP2) (by rw [e0]; exact hD2)
theorem z_new {ik ic : Nat} (hnew : Cond.classLink own ik "java/lang/StringBuilder" ∈ GW ∧ Cond.methodLink own ic yJ4_init_da8c8 ∈ GW) (hd1 : decode cc pc = .ok (.new ik, 3)) (hd2 : decode cc (pc + 3) = .ok (.dup, 1)) (hd3 : decode cc (pc + 3 + 1) = .ok (.invokespecial ic, 3)) (hst : (rest.map fun v => v.category).sum ≤ 7) (hR : ZR R 2 20 kc ks)
    (kk : ∀ b, VZ g cc nL own rt hh R mc ms out ZOn b [] 0 (kc + 2) (ks + 20) (pc + 7) lv (.ref b :: rest) w E) : VE g cc nL own rt hh R mc ms out kc ks pc lv rest w E := by
  intro r hr p e s m args below meth c F H locs ls hW hS hl
  refine z_newW F hW hS hl hnew hd1 hd2 hd3 hst hR fun H1 locs1 b d hW1 hS1 hk1 hP1 hD1 => ?_
  have hZA : ∀ q, H.size ≤ q → ZA g s q := fun q h => ⟨Nat.le_trans hW.top h, Nat.le_trans hS.1 h⟩
  exact kk b r hr p e s m args below meth c F H1 locs1 ls hW1 hS1 hl ⟨[], d, rfl, (fun k q h => by cases h), hP1, hD1.weaken fun k q _ h => hZA _ h, Nat.le_refl 0, fun c hc => by cases hc⟩
theorem z_new2 {ik ic : Nat} (hnew : Cond.classLink own ik "java/lang/StringBuilder" ∈ GW ∧ Cond.methodLink own ic yJ4_init_da8c8 ∈ GW) (hd1 : decode cc pc = .ok (.new ik, 3)) (hd2 : decode cc (pc + 3) = .ok (.dup, 1)) (hd3 : decode cc (pc + 3 + 1) = .ok (.invokespecial ic, 3)) (hst : (rest.map fun v => v.category).sum ≤ 7) (hR : ZR R 2 20 kc ks)
    (kk : ∀ b2, VZ g cc nL own rt hh R mc ms out (ZOb g b tx N) b2 [] 0 (kc + 2) (ks + 20) (pc + 7) lv (.ref b2 :: rest) w E) : VZ g cc nL own rt hh R mc ms out zo b tx N kc ks pc lv rest w E := by
  intro r hr p e s m args below meth c F H locs ls hW hS hl hZ
  obtain ⟨wo, d0, hzo, hP0, hPi, hD, hlen, hTX⟩ := hZ
  refine z_newW F hW hS hl hnew hd1 hd2 hd3 hst hR fun H1 locs1 b2 d hW1 hS1 hk1 hP1 hD1 => ?_
  have hZA : ∀ q, H.size ≤ q → ZA g s q := fun q h => ⟨Nat.le_trans hW.top h, Nat.le_trans hS.1 h⟩
  exact kk b2 r hr p e s m args below meth c F H1 locs1 ls hW1 hS1 hl ⟨BL g b d0 tx, d, ⟨d0, rfl, hlen, hTX⟩, hPi.kept fun k q hq => hk1 _ (hPi k q hq).lt, hP1, va_D.app hD.right (hD1.weaken fun k q _ h => hZA _ h) (fun i j x y hx hy hxy => by
    have h1 := (hPi i x hx).lt
    have h2 := hD1.2 j y hy
    simp only at h2
    omega), Nat.le_refl 0, fun c hc => by cases hc⟩
/-! a String is made -/
def VT {ρ : Type} (g : GC) (cc : ByteArray) (nL : Nat) (own : String) (rt : Option FieldType) (hh : List (Nat × Nat × Nat × Nat)) (R : Room) (mc ms : Nat) (out : ρ → Out) (zo : va_W → Prop) (s0 : Nat) (tx : List Int32) (N : Nat) (kc ks pc : Nat) (lv : List (Nat × Value)) (st : List Value) (w : XW) (E : Option ρ) : Prop :=
  ∀ r, E = some r → ∀ (p : Program) (e : Env) (s : State) (m : MethodId) (args : Array Value) (below : List Frame) (meth : Method) (c : Code), FX g cc nL own rt hh p s m args meth c →
    ∀ (H : Heap) (locs : List Loc) (ls : Array Slot) (wo wi : va_W), RW g w H → VS g s.heap H locs → lv_has ls nL lv → zo wo → ZOs g s0 tx N wi → va_P g.2.2.2.1 vwCl wo H → va_P g.2.2.2.1 vwCl wi H → va_D (ZA g s) (wo ++ wi) →
      W p g.1 e R s m args below meth c H locs kc ks (vx_MQ below (QO g (out r)) (XO g (out r)) args s mc ms (fun q => g.2.1 ≤ q)) (F0 m pc ls st)
theorem z_toStr {index : Nat} (hlink : Cond.methodLink own index yJ4_toString_0e30d ∈ GW) (hN : N ≤ 16) (hst : (rest.map fun v => v.category).sum ≤ 8) (hd : decode cc pc = .ok (.invokevirtual index, 3)) (hR : ZR R 2 20 kc ks)
    (kk : ∀ s0, VT g cc nL own rt hh R mc ms out zo s0 tx N (kc + 2) (ks + 20) (pc + 3) lv (.ref s0 :: rest) w E) : VZ g cc nL own rt hh R mc ms out zo b tx N kc ks pc lv (.ref b :: rest) w E := by
  intro r hr p e s m args below meth c F H locs ls hW hS hl hZ
  obtain ⟨wo, d, hzo, hP0, hPi, hD, hlen, hTX⟩ := hZ
  obtain ⟨hF1, hA⟩ := zA_in hW hS hD
  have hts := F.2.2.2.2.1
  obtain ⟨dd, -, hJ0⟩ := zJ0 F hS
  obtain ⟨c1, c4, c5, c6, c7⟩ := zc_T hlink
  have hcr := hR.cr (nLy := 1) (n' := 6) (by decide) (by decide)
  refine z_run hA hW hS F.2.2.2.2.2.2.1 (va_runV (Ts := GW) (nL := nL) (C := RJ4) (n := 0) (bytes := cJ4_toString_0e30d) (maxL := 1) (As := []) (rest := rest) (g := F0 m pc ls (.ref b :: rest)) ⟨F.1, F.2.1, F.2.2.1, F.2.2.2.1, hts⟩ (j_toString (sx := (none, dd)) (b := b) (d := d) (n := tx.length) (f := bR tx) (Nat.le_trans hlen hN) (fun i _ => fit127 (getD_ok hTX i)))
    ⟨⟨hcr.1.1, hcr.1.2.1, hcr.1.2.2.1, hcr.1.2.2.2, GW_pay c5 hts, List.mem_cons_self, hts _ c5, hts _ c4, c6, v_len c7, hts _ c1⟩, hts _ zi_T, sl_J4_toString_0e30d _ _ hts⟩
    ⟨PU_blind, va_recv (q0 := 0) F.2.2.2.2.2.1 hPi (rfl : vwCl[11]? = some (RJ4, TJ4, 4)) rfl, fun U hU hX => z_pre F (hJ0.narrow fun q h => Or.inr (hA q h).2) (fun q h => Or.inr h) hPi (va_D.self hD.right) hU hX⟩ rfl rfl hl.1 rfl (by show 2 * 0 + _ ≤ 8; omega) hd hcr.2) ?_
  rintro v ws' ⟨s0, q, f2, rfl, hf2, rfl⟩ H1 locs1 hW1 hS1 hz1 hk1 hP1 hD1
  have hP2 : va_P g.2.2.2.1 vwCl [(s0, .inr (12, [.ref q, .int 0, .int 0, .int 0])), (q, byC g tx.length f2)] H1 := hP1.sub [2, 3] rfl
  have hD2 : va_D (va_A (BL g b d tx) H.size) [(s0, (.inr (12, [.ref q, .int 0, .int 0, .int 0]) : va_E)), (q, byC g tx.length f2)] := hD1.sub [2, 3] rfl rfl
  obtain ⟨hP0', hD'⟩ := zj hP0 hD hk1 hF1 hD2
  exact kk s0 r hr p e s m args below meth c F H1 locs1 ls wo _ hW1 hS1 hl hzo ⟨q, f2, rfl, hf2, hlen, hTX⟩ hP0' hP2 hD'
theorem z_str2 {index b2 N2 : Nat} {tx2 : List Int32} (hlink : Cond.methodLink own index yJ4_toString_0e30d ∈ GW) (hN : N2 ≤ 16) (hst : (rest.map fun v => v.category).sum ≤ 8) (hd : decode cc pc = .ok (.invokevirtual index, 3)) (hR : ZR R 2 20 kc ks)
    (kk : ∀ s2, VZ g cc nL own rt hh R mc ms out (ZOs g s2 tx2 N2) b tx N (kc + 2) (ks + 20) (pc + 3) lv (.ref s2 :: rest) w E) : VZ g cc nL own rt hh R mc ms out (ZOb g b tx N) b2 tx2 N2 kc ks pc lv (.ref b2 :: rest) w E := by
  refine z_toStr hlink hN hst hd hR fun s0 => ?_
  intro r hr p e s m args below meth c F H locs ls wo wi hW hS hl hzo hzs hP0 hPi hD
  obtain ⟨d0, rfl, hlen, hTX⟩ := hzo
  exact kk s0 r hr p e s m args below meth c F H locs ls hW hS hl ⟨wi, d0, hzs, hPi, hP0, va_D.swap (a := []) hD, hlen, hTX⟩
/-! the String is given to a method of the law -/
/-- the frame's words with the text in its place -/
abbrev gT (g : GC) (s0 q : Nat) (tx : List Int32) : GC := (g.1, g.2.1, g.2.2.1, g.2.2.2.1, fun i => if i = 26 then s0 else g.2.2.2.2.1 i, fun i => if i = 26 then q else g.2.2.2.2.2.1 i, g.2.2.2.2.2.2.1, g.2.2.2.2.2.2.2.1, g.2.2.2.2.2.2.2.2.1, tx)
theorem SFs.text {s0 q : Nat} {U : State} {H : Heap} (h : SFs g U H) (hx : StrA (TTr g) (s0, q, tx) U H) : SFs (gT g s0 q tx) U H := by
  refine ⟨h.1, h.2.1, h.2.2.1, h.2.2.2.1, fun i L hi => ?_, h.2.2.2.2.2⟩
  by_cases h26 : i = 26
  · subst h26
    have hL : L = tx := by
      unfold strT at hi
      rw [if_pos rfl] at hi
      split at hi
      · exact (Option.some.inj hi).symm
      · cases hi
    subst hL
    exact ⟨hx.1, hx.2.1, hx.2.2.1, hx.2.2.2⟩
  · have hi' : strT g i = some L := by
      unfold strT at hi ⊢
      rw [if_neg h26] at hi ⊢
      exact hi
    have h1 := h.2.2.2.2.1 i L hi'
    unfold StrAt at h1 ⊢
    simp only [if_neg h26]
    exact h1
theorem STR.text {s0 q : Nat} {U : State} (h : STR g U) : STR (gT g s0 q tx) U := by
  refine ⟨h.1, fun i x hx => ?_, h.2.2⟩
  have hi : i < 26 := (List.getElem?_eq_some_iff.mp hx).1
  have h1 := h.2.1 i x hx
  show vk_R x.1 x.2.1 x.2.2.1 (if i = 26 then s0 else g.2.2.2.2.1 i) U
  rw [if_neg (by omega)]
  exact h1
theorem z_runG {ρF : Type} {Fy : List Int32 → Option ρF} {outF : ρF → Out} {K : ρF → Option ρ} {index2 nLy mcy msy s0 : Nat} {y : MethodName} {cy : ByteArray} {ry : Option FieldType} {rm : Room} (hl0 : g.1.stackTraces = false) (hc : CS own index2 y cy nLy ry 2)
    (hM : ∀ g1 : GC, g1.1.stackTraces = false → ∀ q, Fy (txG g1) = some q → MM g1 (.code y cy nLy ry) y rm mcy msy [.ref (g1.2.1 + 0), .ref (g1.2.2.2.2.1 26)] w (outF q)) (hnx : ∀ q, ∃ v, (outF q).1 = .inl v)
    (hst : (rest.map fun v => v.category).sum ≤ 8) (hd : decode cc pc = .ok (.invokestatic index2, 3)) (hR : CR R nLy mcy msy rm kc ks)
    (kk : ∀ q v w', outF q = (.inl v, w') → VE g cc nL own rt hh R mc ms out (kc + mcy) (ks + msy) (pc + 3) lv (v.toList ++ rest) w' (K q)) :
    VT g cc nL own rt hh R mc ms out zo s0 tx N kc ks pc lv (.ref s0 :: .ref (g.2.1 + 0) :: rest) w ((Fy tx).bind K) := by
  intro r hr p e s m args below meth c F H locs ls wo wi hW hS hl hzo hzs hP0 hPi hD
  cases hF : Fy tx with
  | none => rw [hF] at hr; cases hr
  | some q0 =>
    rw [hF] at hr
    have hr' : K q0 = some r := hr
    have hts := F.2.2.2.2.1
    obtain ⟨q, f, rfl, hf, hlen, hTX⟩ := hzs
    have hin : ∀ (k : Nat) (x : Nat × va_E), [(s0, (.inr (12, [.ref q, .int 0, .int 0, .int 0]) : va_E)), (q, byC g tx.length f)][k]? = some x → ¬ TTr g x.1 := fun k x hx h => Nat.not_lt.mpr (hD.right.2 k x hx).1 h.2
    have hx : StrA (TTr g) (s0, q, tx) s H := zStr F.2.2.2.2.2.1 hts hPi rfl hf (hin 0 _ rfl) (hin 1 _ rfl)
    have hSF : SFs (gT g s0 q tx) s H := SFs.text (F.2.2.2.2.2.2.2.1.kept hS.2.1) hx
    have hM1 := hM (gT g s0 q tx) hl0 q0 hF
    obtain ⟨c1, c2, c4, c5, c6, c7⟩ := hc
    refine v_run_aux (g := g) (o := outF q0) (vx_runS (Ts := GW) (nL := nL) (n := 2) (bytes := cy) (maxL := nLy) (ret := ry) (As := [.ref (g.2.1 + 0), .ref s0]) (rest := rest) (g := F0 m pc ls (.ref s0 :: .ref (g.2.1 + 0) :: rest)) ⟨F.1, F.2.1, F.2.2.1, F.2.2.2.1, hts⟩ hM1
      ⟨⟨hR.1.1, hR.1.2.1, hR.1.2.2.1, hR.1.2.2.2, GW_pay c5 hts, List.mem_cons_self, hts _ c5, hts _ c4, c6, v_len c7, hts _ c1⟩, hts _ c2⟩
      ⟨PO_blind, fun U hU hX => ⟨rfl, by rw [hU]; exact Nat.le_trans F.2.2.2.2.2.2.1 hS.1, by rw [hU]; exact hW, va_K.moved hX.alike F.2.2.2.2.2.1, by rw [hU]; exact SFs.moved hX.alike hSF, STR.text ⟨fun w hw => ng_moved hX.alike hw (F.2.2.2.2.2.2.2.2.1.1 w hw), fun i x hx => vk_R.warm hX (F.2.2.2.2.2.2.2.2.1.2.1 i x hx), fun x hx => va_Nc.moved hX.alike (F.2.2.2.2.2.2.2.2.1.2.2 x hx)⟩⟩⟩ rfl rfl hl.1 rfl (by show 2 * 0 + _ ≤ 8; omega) hd hR.2) hS
      (fun v w' ho H1 locs1 hW1 hS1 => kk q0 v w' ho r hr' p e s m args below meth c F H1 locs1 ls hW1 hS1 hl)
      (fun E0 w' ho => by
        obtain ⟨v, hv⟩ := hnx q0
        rw [ho] at hv
        cases hv)
theorem z_runi {Fy : List Int32 → Option (Int32 × XW)} {K : Int32 → XW → Option ρ} {index index2 nLy mcy msy : Nat} {y : MethodName} {cy : ByteArray} {ry : Option FieldType} {rm : Room} (hl0 : g.1.stackTraces = false) (hlink : Cond.methodLink own index yJ4_toString_0e30d ∈ GW) (hc : CS own index2 y cy nLy ry 2) (hd1 : decode cc pc = .ok (.invokevirtual index, 3))
    (hM : ∀ g1 : GC, g1.1.stackTraces = false → ∀ q, Fy (txG g1) = some q → MM g1 (.code y cy nLy ry) y rm mcy msy [.ref (g1.2.1 + 0), .ref (g1.2.2.2.2.1 26)] w (oI q)) (hN : N ≤ 16)
    (hst : (rest.map fun v => v.category).sum ≤ 7) (hd : decode cc (pc + 3) = .ok (.invokestatic index2, 3)) (hZR : ZR R 2 20 kc ks) (hR : CR R nLy mcy msy rm (kc + 2) (ks + 20))
    (kk : ∀ x w', VE g cc nL own rt hh R mc ms out (kc + 2 + mcy) (ks + 20 + msy) (pc + 3 + 3) lv (.int x :: rest) w' (K x w')) :
    VZ g cc nL own rt hh R mc ms out zo b tx N kc ks pc lv (.ref b :: .ref (g.2.1 + 0) :: rest) w (bI (Fy tx) K) :=
  z_toStr hlink hN (by rw [List.map_cons, List.sum_cons]; show 1 + _ ≤ 8; omega) hd1 hZR fun s0 => z_runG hl0 hc hM (fun q => ⟨_, rfl⟩) (by omega) hd hR fun q v w' h => by cases h; exact kk q.1 q.2
theorem z_runv {Fy : List Int32 → Option XW} {K : XW → Option ρ} {index index2 nLy mcy msy : Nat} {y : MethodName} {cy : ByteArray} {ry : Option FieldType} {rm : Room} (hl0 : g.1.stackTraces = false) (hlink : Cond.methodLink own index yJ4_toString_0e30d ∈ GW) (hc : CS own index2 y cy nLy ry 2) (hd1 : decode cc pc = .ok (.invokevirtual index, 3))
    (hM : ∀ g1 : GC, g1.1.stackTraces = false → ∀ q, Fy (txG g1) = some q → MM g1 (.code y cy nLy ry) y rm mcy msy [.ref (g1.2.1 + 0), .ref (g1.2.2.2.2.1 26)] w (oV q)) (hN : N ≤ 16)
    (hst : (rest.map fun v => v.category).sum ≤ 7) (hd : decode cc (pc + 3) = .ok (.invokestatic index2, 3)) (hZR : ZR R 2 20 kc ks) (hR : CR R nLy mcy msy rm (kc + 2) (ks + 20))
    (kk : ∀ w', VE g cc nL own rt hh R mc ms out (kc + 2 + mcy) (ks + 20 + msy) (pc + 3 + 3) lv rest w' (K w')) :
    VZ g cc nL own rt hh R mc ms out zo b tx N kc ks pc lv (.ref b :: .ref (g.2.1 + 0) :: rest) w (bV (Fy tx) K) :=
  z_toStr hlink hN (by rw [List.map_cons, List.sum_cons]; show 1 + _ ≤ 8; omega) hd1 hZR fun s0 => z_runG hl0 hc hM (fun q => ⟨_, rfl⟩) (by omega) hd hR fun q v w' h => by cases h; exact kk q
end ZROWS
theorem zn_st {tx a : List Int32} {N N' k : Nat} (hk : a.length ≤ k) (h1 : N + k ≤ N') (h2 : N' ≤ 16) : tx.length ≤ N → (tx ++ a).length ≤ N' ∧ N' ≤ 16 := fun h => ⟨by rw [List.length_append]; omega, h2⟩
theorem zn_s2 {tx a : List Int32} {N N' k : Nat} (h1 : N + k ≤ N') (h2 : N' ≤ 16) : a.length ≤ k → tx.length ≤ N → (tx ++ a).length ≤ N' ∧ N' ≤ 16 := fun hk h => ⟨by rw [List.length_append]; omega, h2⟩
theorem zn_g {tx a : List Int32} {N : Nat} (h : (tx ++ a).length ≤ 16) : tx.length ≤ N → (tx ++ a).length ≤ 16 ∧ 16 ≤ 16 := fun _ => ⟨h, Nat.le_refl 16⟩
theorem strB_ok : ∀ i, i < 26 → TXok (strB i) := by
  unfold TXok
  decide +kernel
end
