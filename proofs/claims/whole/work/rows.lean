section
-- ===== PART A: goes FIRST, ahead of the names: the tables' words, and 'selects' of the private methods out of them =====
/-- a private method of a class that the tables say can be made, by its rows of tables_1 -/
def lw_okq (q : MethodName × Nat) : Prop := (q.1.cls ≠ "java/lang/invoke/MethodHandle" ∧ q.1.cls ≠ "java/lang/invoke/VarHandle") ∧ Cond.instantiable q.1.cls q.2 ∈ tables_1 ∧ Cond.privateMethod q.1 ∈ tables_1 ∧ Cond.instanceMethod q.1 ∈ tables_1
theorem lw_p0 : lw_okq (⟨"FoldedArchive$FoldingSearch", "foldRest", "(II)I"⟩, 2) := ⟨⟨by decide +kernel, by decide +kernel⟩, List.mem_of_getElem? (i := 164) (by decide +kernel), List.mem_of_getElem? (i := 318) (by decide +kernel), List.mem_of_getElem? (i := 319) (by decide +kernel)⟩
theorem lw_p1 : lw_okq (⟨"FoldedArchive$Pile", "layerAfterInsert", "(II)I"⟩, 2) := ⟨⟨by decide +kernel, by decide +kernel⟩, List.mem_of_getElem? (i := 73) (by decide +kernel), List.mem_of_getElem? (i := 326) (by decide +kernel), List.mem_of_getElem? (i := 327) (by decide +kernel)⟩
theorem lw_p2 : lw_okq (⟨"FoldedArchive$FoldingSearch", "placeRest", "(II)I"⟩, 2) := ⟨⟨by decide +kernel, by decide +kernel⟩, List.mem_of_getElem? (i := 164) (by decide +kernel), List.mem_of_getElem? (i := 355) (by decide +kernel), List.mem_of_getElem? (i := 356) (by decide +kernel)⟩
theorem lw_p3 : lw_okq (⟨"FoldedArchive$FoldingSearch", "isNextOfPile", "(II)Z"⟩, 2) := ⟨⟨by decide +kernel, by decide +kernel⟩, List.mem_of_getElem? (i := 164) (by decide +kernel), List.mem_of_getElem? (i := 359) (by decide +kernel), List.mem_of_getElem? (i := 360) (by decide +kernel)⟩
theorem lw_p4 : lw_okq (⟨"FoldedArchive$FoldingSearch", "spanCrosses", "(II)Z"⟩, 2) := ⟨⟨by decide +kernel, by decide +kernel⟩, List.mem_of_getElem? (i := 164) (by decide +kernel), List.mem_of_getElem? (i := 364) (by decide +kernel), List.mem_of_getElem? (i := 365) (by decide +kernel)⟩
theorem lw_p5 : lw_okq (⟨"FoldedArchive$FoldingSearch", "placeOf", "(II)I"⟩, 2) := ⟨⟨by decide +kernel, by decide +kernel⟩, List.mem_of_getElem? (i := 164) (by decide +kernel), List.mem_of_getElem? (i := 368) (by decide +kernel), List.mem_of_getElem? (i := 369) (by decide +kernel)⟩
theorem lw_p6 : lw_okq (⟨"FoldedArchive", "change", "(IIII)I"⟩, 15) := ⟨⟨by decide +kernel, by decide +kernel⟩, List.mem_of_getElem? (i := 31) (by decide +kernel), List.mem_of_getElem? (i := 452) (by decide +kernel), List.mem_of_getElem? (i := 453) (by decide +kernel)⟩
theorem lw_p7 : lw_okq (⟨"FoldedArchive$State", "judgePour", "(II)I"⟩, 3) := ⟨⟨by decide +kernel, by decide +kernel⟩, List.mem_of_getElem? (i := 39) (by decide +kernel), List.mem_of_getElem? (i := 463) (by decide +kernel), List.mem_of_getElem? (i := 464) (by decide +kernel)⟩
theorem lw_p8 : lw_okq (⟨"FoldedArchive$State", "judgeTerm", "(IIZ)I"⟩, 3) := ⟨⟨by decide +kernel, by decide +kernel⟩, List.mem_of_getElem? (i := 39) (by decide +kernel), List.mem_of_getElem? (i := 476) (by decide +kernel), List.mem_of_getElem? (i := 477) (by decide +kernel)⟩
theorem lw_p9 : lw_okq (⟨"FoldedArchive$State", "judgePipe", "(III)I"⟩, 3) := ⟨⟨by decide +kernel, by decide +kernel⟩, List.mem_of_getElem? (i := 39) (by decide +kernel), List.mem_of_getElem? (i := 506) (by decide +kernel), List.mem_of_getElem? (i := 507) (by decide +kernel)⟩
theorem lw_p10 : lw_okq (⟨"FoldedArchive$State", "judgeBroken", "(IZ)I"⟩, 3) := ⟨⟨by decide +kernel, by decide +kernel⟩, List.mem_of_getElem? (i := 39) (by decide +kernel), List.mem_of_getElem? (i := 514) (by decide +kernel), List.mem_of_getElem? (i := 515) (by decide +kernel)⟩
theorem lw_p11 : lw_okq (⟨"FoldedArchive", "obey", "(I)V"⟩, 15) := ⟨⟨by decide +kernel, by decide +kernel⟩, List.mem_of_getElem? (i := 31) (by decide +kernel), List.mem_of_getElem? (i := 531) (by decide +kernel), List.mem_of_getElem? (i := 532) (by decide +kernel)⟩
theorem lw_p12 : lw_okq (⟨"java/lang/Throwable", "fillInStackTrace", "(I)Ljava/lang/Throwable;"⟩, 6) := ⟨⟨by decide +kernel, by decide +kernel⟩, List.mem_of_getElem? (i := 577) (by decide +kernel), List.mem_of_getElem? (i := 575) (by decide +kernel), List.mem_of_getElem? (i := 576) (by decide +kernel)⟩
theorem lw_p13 : lw_okq (⟨"FoldedArchive", "recordDenial", "(III)V"⟩, 15) := ⟨⟨by decide +kernel, by decide +kernel⟩, List.mem_of_getElem? (i := 31) (by decide +kernel), List.mem_of_getElem? (i := 618) (by decide +kernel), List.mem_of_getElem? (i := 619) (by decide +kernel)⟩
theorem lw_p14 : lw_okq (⟨"FoldedArchive$History", "stateAt", "(I)LFoldedArchive$State;"⟩, 3) := ⟨⟨by decide +kernel, by decide +kernel⟩, List.mem_of_getElem? (i := 128) (by decide +kernel), List.mem_of_getElem? (i := 641) (by decide +kernel), List.mem_of_getElem? (i := 642) (by decide +kernel)⟩
theorem lw_p15 : lw_okq (⟨"FoldedArchive$Strip", "add", "(II)V"⟩, 5) := ⟨⟨by decide +kernel, by decide +kernel⟩, List.mem_of_getElem? (i := 45) (by decide +kernel), List.mem_of_getElem? (i := 659) (by decide +kernel), List.mem_of_getElem? (i := 660) (by decide +kernel)⟩
def lw_privs_1 : List (MethodName × Nat) := [(⟨"FoldedArchive$FoldingSearch", "foldRest", "(II)I"⟩, 2), (⟨"FoldedArchive$Pile", "layerAfterInsert", "(II)I"⟩, 2), (⟨"FoldedArchive$FoldingSearch", "placeRest", "(II)I"⟩, 2), (⟨"FoldedArchive$FoldingSearch", "isNextOfPile", "(II)Z"⟩, 2), (⟨"FoldedArchive$FoldingSearch", "spanCrosses", "(II)Z"⟩, 2), (⟨"FoldedArchive$FoldingSearch", "placeOf", "(II)I"⟩, 2), (⟨"FoldedArchive", "change", "(IIII)I"⟩, 15), (⟨"FoldedArchive$State", "judgePour", "(II)I"⟩, 3), (⟨"FoldedArchive$State", "judgeTerm", "(IIZ)I"⟩, 3), (⟨"FoldedArchive$State", "judgePipe", "(III)I"⟩, 3), (⟨"FoldedArchive$State", "judgeBroken", "(IZ)I"⟩, 3), (⟨"FoldedArchive", "obey", "(I)V"⟩, 15), (⟨"java/lang/Throwable", "fillInStackTrace", "(I)Ljava/lang/Throwable;"⟩, 6), (⟨"FoldedArchive", "recordDenial", "(III)V"⟩, 15), (⟨"FoldedArchive$History", "stateAt", "(I)LFoldedArchive$State;"⟩, 3), (⟨"FoldedArchive$Strip", "add", "(II)V"⟩, 5)]
theorem lw_r1 : ∀ q ∈ lw_privs_1, lw_okq q := List.forall_mem_cons.mpr ⟨lw_p0, List.forall_mem_cons.mpr ⟨lw_p1, List.forall_mem_cons.mpr ⟨lw_p2, List.forall_mem_cons.mpr ⟨lw_p3, List.forall_mem_cons.mpr ⟨lw_p4, List.forall_mem_cons.mpr ⟨lw_p5, List.forall_mem_cons.mpr ⟨lw_p6, List.forall_mem_cons.mpr ⟨lw_p7, List.forall_mem_cons.mpr ⟨lw_p8, List.forall_mem_cons.mpr ⟨lw_p9, List.forall_mem_cons.mpr ⟨lw_p10, List.forall_mem_cons.mpr ⟨lw_p11, List.forall_mem_cons.mpr ⟨lw_p12, List.forall_mem_cons.mpr ⟨lw_p13, List.forall_mem_cons.mpr ⟨lw_p14, List.forall_mem_cons.mpr ⟨lw_p15, fun _ h => absurd h List.not_mem_nil⟩⟩⟩⟩⟩⟩⟩⟩⟩⟩⟩⟩⟩⟩⟩⟩
theorem lw_p16 : lw_okq (⟨"FoldedArchive$FlowSearch", "openPipes", "(LFoldedArchive$Pipes;I)V"⟩, 3) := ⟨⟨by decide +kernel, by decide +kernel⟩, List.mem_of_getElem? (i := 148) (by decide +kernel), List.mem_of_getElem? (i := 695) (by decide +kernel), List.mem_of_getElem? (i := 696) (by decide +kernel)⟩
theorem lw_p17 : lw_okq (⟨"FoldedArchive$FlowSearch", "addSpare", "(III)V"⟩, 3) := ⟨⟨by decide +kernel, by decide +kernel⟩, List.mem_of_getElem? (i := 148) (by decide +kernel), List.mem_of_getElem? (i := 709) (by decide +kernel), List.mem_of_getElem? (i := 710) (by decide +kernel)⟩
theorem lw_p18 : lw_okq (⟨"FoldedArchive$FlowSearch", "reachesLast", "(I)Z"⟩, 3) := ⟨⟨by decide +kernel, by decide +kernel⟩, List.mem_of_getElem? (i := 148) (by decide +kernel), List.mem_of_getElem? (i := 716) (by decide +kernel), List.mem_of_getElem? (i := 717) (by decide +kernel)⟩
theorem lw_p19 : lw_okq (⟨"FoldedArchive$FlowSearch", "spareOf", "(II)I"⟩, 3) := ⟨⟨by decide +kernel, by decide +kernel⟩, List.mem_of_getElem? (i := 148) (by decide +kernel), List.mem_of_getElem? (i := 720) (by decide +kernel), List.mem_of_getElem? (i := 721) (by decide +kernel)⟩
theorem lw_p20 : lw_okq (⟨"FoldedArchive$FlowSearch", "previousOf", "(I)I"⟩, 3) := ⟨⟨by decide +kernel, by decide +kernel⟩, List.mem_of_getElem? (i := 148) (by decide +kernel), List.mem_of_getElem? (i := 724) (by decide +kernel), List.mem_of_getElem? (i := 725) (by decide +kernel)⟩
theorem lw_p21 : lw_okq (⟨"FoldedArchive$FlowSearch", "augment", "(I)I"⟩, 3) := ⟨⟨by decide +kernel, by decide +kernel⟩, List.mem_of_getElem? (i := 148) (by decide +kernel), List.mem_of_getElem? (i := 728) (by decide +kernel), List.mem_of_getElem? (i := 729) (by decide +kernel)⟩
theorem lw_p22 : lw_okq (⟨"FoldedArchive$State", "moveAlongPipes", "(I)I"⟩, 3) := ⟨⟨by decide +kernel, by decide +kernel⟩, List.mem_of_getElem? (i := 39) (by decide +kernel), List.mem_of_getElem? (i := 733) (by decide +kernel), List.mem_of_getElem? (i := 734) (by decide +kernel)⟩
theorem lw_p23 : lw_okq (⟨"FoldedArchive$State", "moveDownPile", "()I"⟩, 3) := ⟨⟨by decide +kernel, by decide +kernel⟩, List.mem_of_getElem? (i := 39) (by decide +kernel), List.mem_of_getElem? (i := 752) (by decide +kernel), List.mem_of_getElem? (i := 753) (by decide +kernel)⟩
theorem lw_p24 : lw_okq (⟨"FoldedArchive", "requireSection", "(I)V"⟩, 15) := ⟨⟨by decide +kernel, by decide +kernel⟩, List.mem_of_getElem? (i := 31) (by decide +kernel), List.mem_of_getElem? (i := 819) (by decide +kernel), List.mem_of_getElem? (i := 820) (by decide +kernel)⟩
theorem lw_p25 : lw_okq (⟨"FoldedArchive", "requireTerm", "(I)V"⟩, 15) := ⟨⟨by decide +kernel, by decide +kernel⟩, List.mem_of_getElem? (i := 31) (by decide +kernel), List.mem_of_getElem? (i := 832) (by decide +kernel), List.mem_of_getElem? (i := 833) (by decide +kernel)⟩
theorem lw_p26 : lw_okq (⟨"FoldedArchive$Strip", "rankOf", "(I)I"⟩, 5) := ⟨⟨by decide +kernel, by decide +kernel⟩, List.mem_of_getElem? (i := 45) (by decide +kernel), List.mem_of_getElem? (i := 863) (by decide +kernel), List.mem_of_getElem? (i := 864) (by decide +kernel)⟩
theorem lw_p27 : lw_okq (⟨"FoldedArchive$Strip", "comesBefore", "(II)Z"⟩, 5) := ⟨⟨by decide +kernel, by decide +kernel⟩, List.mem_of_getElem? (i := 45) (by decide +kernel), List.mem_of_getElem? (i := 867) (by decide +kernel), List.mem_of_getElem? (i := 868) (by decide +kernel)⟩
theorem lw_p28 : lw_okq (⟨"FoldedArchive", "requirePipe", "(I)V"⟩, 15) := ⟨⟨by decide +kernel, by decide +kernel⟩, List.mem_of_getElem? (i := 31) (by decide +kernel), List.mem_of_getElem? (i := 958) (by decide +kernel), List.mem_of_getElem? (i := 959) (by decide +kernel)⟩
theorem lw_p29 : lw_okq (⟨"FoldedArchive$SearchReader", "readSum", "(LFoldedArchive$Row;I)I"⟩, 4) := ⟨⟨by decide +kernel, by decide +kernel⟩, List.mem_of_getElem? (i := 199) (by decide +kernel), List.mem_of_getElem? (i := 1112) (by decide +kernel), List.mem_of_getElem? (i := 1113) (by decide +kernel)⟩
theorem lw_p30 : lw_okq (⟨"FoldedArchive$SearchReader", "readProduct", "(LFoldedArchive$Row;I)I"⟩, 4) := ⟨⟨by decide +kernel, by decide +kernel⟩, List.mem_of_getElem? (i := 199) (by decide +kernel), List.mem_of_getElem? (i := 1116) (by decide +kernel), List.mem_of_getElem? (i := 1117) (by decide +kernel)⟩
theorem lw_p31 : lw_okq (⟨"FoldedArchive$SearchReader", "readFactor", "(LFoldedArchive$Row;I)I"⟩, 4) := ⟨⟨by decide +kernel, by decide +kernel⟩, List.mem_of_getElem? (i := 199) (by decide +kernel), List.mem_of_getElem? (i := 1120) (by decide +kernel), List.mem_of_getElem? (i := 1121) (by decide +kernel)⟩
def lw_privs_2 : List (MethodName × Nat) := [(⟨"FoldedArchive$FlowSearch", "openPipes", "(LFoldedArchive$Pipes;I)V"⟩, 3), (⟨"FoldedArchive$FlowSearch", "addSpare", "(III)V"⟩, 3), (⟨"FoldedArchive$FlowSearch", "reachesLast", "(I)Z"⟩, 3), (⟨"FoldedArchive$FlowSearch", "spareOf", "(II)I"⟩, 3), (⟨"FoldedArchive$FlowSearch", "previousOf", "(I)I"⟩, 3), (⟨"FoldedArchive$FlowSearch", "augment", "(I)I"⟩, 3), (⟨"FoldedArchive$State", "moveAlongPipes", "(I)I"⟩, 3), (⟨"FoldedArchive$State", "moveDownPile", "()I"⟩, 3), (⟨"FoldedArchive", "requireSection", "(I)V"⟩, 15), (⟨"FoldedArchive", "requireTerm", "(I)V"⟩, 15), (⟨"FoldedArchive$Strip", "rankOf", "(I)I"⟩, 5), (⟨"FoldedArchive$Strip", "comesBefore", "(II)Z"⟩, 5), (⟨"FoldedArchive", "requirePipe", "(I)V"⟩, 15), (⟨"FoldedArchive$SearchReader", "readSum", "(LFoldedArchive$Row;I)I"⟩, 4), (⟨"FoldedArchive$SearchReader", "readProduct", "(LFoldedArchive$Row;I)I"⟩, 4), (⟨"FoldedArchive$SearchReader", "readFactor", "(LFoldedArchive$Row;I)I"⟩, 4)]
theorem lw_r2 : ∀ q ∈ lw_privs_2, lw_okq q := List.forall_mem_cons.mpr ⟨lw_p16, List.forall_mem_cons.mpr ⟨lw_p17, List.forall_mem_cons.mpr ⟨lw_p18, List.forall_mem_cons.mpr ⟨lw_p19, List.forall_mem_cons.mpr ⟨lw_p20, List.forall_mem_cons.mpr ⟨lw_p21, List.forall_mem_cons.mpr ⟨lw_p22, List.forall_mem_cons.mpr ⟨lw_p23, List.forall_mem_cons.mpr ⟨lw_p24, List.forall_mem_cons.mpr ⟨lw_p25, List.forall_mem_cons.mpr ⟨lw_p26, List.forall_mem_cons.mpr ⟨lw_p27, List.forall_mem_cons.mpr ⟨lw_p28, List.forall_mem_cons.mpr ⟨lw_p29, List.forall_mem_cons.mpr ⟨lw_p30, List.forall_mem_cons.mpr ⟨lw_p31, fun _ h => absurd h List.not_mem_nil⟩⟩⟩⟩⟩⟩⟩⟩⟩⟩⟩⟩⟩⟩⟩⟩
theorem lw_p32 : lw_okq (⟨"FoldedArchive$SearchReader", "readPlainFactor", "(LFoldedArchive$Row;I)I"⟩, 4) := ⟨⟨by decide +kernel, by decide +kernel⟩, List.mem_of_getElem? (i := 199) (by decide +kernel), List.mem_of_getElem? (i := 1128) (by decide +kernel), List.mem_of_getElem? (i := 1129) (by decide +kernel)⟩
theorem lw_p33 : lw_okq (⟨"FoldedArchive$SearchReader", "bearersOf", "(I)I"⟩, 4) := ⟨⟨by decide +kernel, by decide +kernel⟩, List.mem_of_getElem? (i := 199) (by decide +kernel), List.mem_of_getElem? (i := 1133) (by decide +kernel), List.mem_of_getElem? (i := 1134) (by decide +kernel)⟩
theorem lw_p34 : lw_okq (⟨"FoldedArchive", "refuseFault", "(I)V"⟩, 15) := ⟨⟨by decide +kernel, by decide +kernel⟩, List.mem_of_getElem? (i := 31) (by decide +kernel), List.mem_of_getElem? (i := 1140) (by decide +kernel), List.mem_of_getElem? (i := 1141) (by decide +kernel)⟩
theorem lw_p35 : lw_okq (⟨"FoldedArchive$CommandReader", "readCommand", "(LFoldedArchive$Row;I)V"⟩, 6) := ⟨⟨by decide +kernel, by decide +kernel⟩, List.mem_of_getElem? (i := 219) (by decide +kernel), List.mem_of_getElem? (i := 1167) (by decide +kernel), List.mem_of_getElem? (i := 1168) (by decide +kernel)⟩
theorem lw_p36 : lw_okq (⟨"FoldedArchive$CommandReader", "follows", "(LFoldedArchive$Row;ILjava/lang/String;)Z"⟩, 6) := ⟨⟨by decide +kernel, by decide +kernel⟩, List.mem_of_getElem? (i := 219) (by decide +kernel), List.mem_of_getElem? (i := 1186) (by decide +kernel), List.mem_of_getElem? (i := 1187) (by decide +kernel)⟩
theorem lw_p37 : lw_okq (⟨"FoldedArchive$CommandReader", "followsSign", "(LFoldedArchive$Row;C)Z"⟩, 6) := ⟨⟨by decide +kernel, by decide +kernel⟩, List.mem_of_getElem? (i := 219) (by decide +kernel), List.mem_of_getElem? (i := 1238) (by decide +kernel), List.mem_of_getElem? (i := 1239) (by decide +kernel)⟩
theorem lw_p38 : lw_okq (⟨"FoldedArchive$CommandReader", "takeOperand", "(I)V"⟩, 6) := ⟨⟨by decide +kernel, by decide +kernel⟩, List.mem_of_getElem? (i := 219) (by decide +kernel), List.mem_of_getElem? (i := 1250) (by decide +kernel), List.mem_of_getElem? (i := 1251) (by decide +kernel)⟩
theorem lw_p39 : lw_okq (⟨"FoldedArchive$CommandReader", "numberFrom", "(LFoldedArchive$Row;C)I"⟩, 6) := ⟨⟨by decide +kernel, by decide +kernel⟩, List.mem_of_getElem? (i := 219) (by decide +kernel), List.mem_of_getElem? (i := 1254) (by decide +kernel), List.mem_of_getElem? (i := 1255) (by decide +kernel)⟩
theorem lw_p40 : lw_okq (⟨"FoldedArchive$CommandReader", "append", "(I)V"⟩, 6) := ⟨⟨by decide +kernel, by decide +kernel⟩, List.mem_of_getElem? (i := 219) (by decide +kernel), List.mem_of_getElem? (i := 1258) (by decide +kernel), List.mem_of_getElem? (i := 1259) (by decide +kernel)⟩
theorem lw_p41 : lw_okq (⟨"FoldedArchive", "runCommand", "(I)I"⟩, 15) := ⟨⟨by decide +kernel, by decide +kernel⟩, List.mem_of_getElem? (i := 31) (by decide +kernel), List.mem_of_getElem? (i := 1263) (by decide +kernel), List.mem_of_getElem? (i := 1264) (by decide +kernel)⟩
theorem lw_p42 : lw_okq (⟨"FoldedArchiveModel", "remembers", "()V"⟩, 23) := ⟨⟨by decide +kernel, by decide +kernel⟩, List.mem_of_getElem? (i := 1343) (by decide +kernel), List.mem_of_getElem? (i := 1427) (by decide +kernel), List.mem_of_getElem? (i := 1428) (by decide +kernel)⟩
theorem lw_p43 : lw_okq (⟨"FoldedArchiveModel", "adds", "()I"⟩, 23) := ⟨⟨by decide +kernel, by decide +kernel⟩, List.mem_of_getElem? (i := 1343) (by decide +kernel), List.mem_of_getElem? (i := 1431) (by decide +kernel), List.mem_of_getElem? (i := 1432) (by decide +kernel)⟩
theorem lw_p44 : lw_okq (⟨"FoldedArchiveModel", "denied", "(II)I"⟩, 23) := ⟨⟨by decide +kernel, by decide +kernel⟩, List.mem_of_getElem? (i := 1343) (by decide +kernel), List.mem_of_getElem? (i := 1435) (by decide +kernel), List.mem_of_getElem? (i := 1436) (by decide +kernel)⟩
theorem lw_p45 : lw_okq (⟨"FoldedArchiveModel", "done", "(I)I"⟩, 23) := ⟨⟨by decide +kernel, by decide +kernel⟩, List.mem_of_getElem? (i := 1343) (by decide +kernel), List.mem_of_getElem? (i := 1439) (by decide +kernel), List.mem_of_getElem? (i := 1440) (by decide +kernel)⟩
theorem lw_p46 : lw_okq (⟨"FoldedArchiveModel", "ends", "(II)I"⟩, 23) := ⟨⟨by decide +kernel, by decide +kernel⟩, List.mem_of_getElem? (i := 1343) (by decide +kernel), List.mem_of_getElem? (i := 1443) (by decide +kernel), List.mem_of_getElem? (i := 1444) (by decide +kernel)⟩
theorem lw_p47 : lw_okq (⟨"FoldedArchiveModel", "changed", "(I)I"⟩, 23) := ⟨⟨by decide +kernel, by decide +kernel⟩, List.mem_of_getElem? (i := 1343) (by decide +kernel), List.mem_of_getElem? (i := 1447) (by decide +kernel), List.mem_of_getElem? (i := 1448) (by decide +kernel)⟩
def lw_privs_3 : List (MethodName × Nat) := [(⟨"FoldedArchive$SearchReader", "readPlainFactor", "(LFoldedArchive$Row;I)I"⟩, 4), (⟨"FoldedArchive$SearchReader", "bearersOf", "(I)I"⟩, 4), (⟨"FoldedArchive", "refuseFault", "(I)V"⟩, 15), (⟨"FoldedArchive$CommandReader", "readCommand", "(LFoldedArchive$Row;I)V"⟩, 6), (⟨"FoldedArchive$CommandReader", "follows", "(LFoldedArchive$Row;ILjava/lang/String;)Z"⟩, 6), (⟨"FoldedArchive$CommandReader", "followsSign", "(LFoldedArchive$Row;C)Z"⟩, 6), (⟨"FoldedArchive$CommandReader", "takeOperand", "(I)V"⟩, 6), (⟨"FoldedArchive$CommandReader", "numberFrom", "(LFoldedArchive$Row;C)I"⟩, 6), (⟨"FoldedArchive$CommandReader", "append", "(I)V"⟩, 6), (⟨"FoldedArchive", "runCommand", "(I)I"⟩, 15), (⟨"FoldedArchiveModel", "remembers", "()V"⟩, 23), (⟨"FoldedArchiveModel", "adds", "()I"⟩, 23), (⟨"FoldedArchiveModel", "denied", "(II)I"⟩, 23), (⟨"FoldedArchiveModel", "done", "(I)I"⟩, 23), (⟨"FoldedArchiveModel", "ends", "(II)I"⟩, 23), (⟨"FoldedArchiveModel", "changed", "(I)I"⟩, 23)]
theorem lw_r3 : ∀ q ∈ lw_privs_3, lw_okq q := List.forall_mem_cons.mpr ⟨lw_p32, List.forall_mem_cons.mpr ⟨lw_p33, List.forall_mem_cons.mpr ⟨lw_p34, List.forall_mem_cons.mpr ⟨lw_p35, List.forall_mem_cons.mpr ⟨lw_p36, List.forall_mem_cons.mpr ⟨lw_p37, List.forall_mem_cons.mpr ⟨lw_p38, List.forall_mem_cons.mpr ⟨lw_p39, List.forall_mem_cons.mpr ⟨lw_p40, List.forall_mem_cons.mpr ⟨lw_p41, List.forall_mem_cons.mpr ⟨lw_p42, List.forall_mem_cons.mpr ⟨lw_p43, List.forall_mem_cons.mpr ⟨lw_p44, List.forall_mem_cons.mpr ⟨lw_p45, List.forall_mem_cons.mpr ⟨lw_p46, List.forall_mem_cons.mpr ⟨lw_p47, fun _ h => absurd h List.not_mem_nil⟩⟩⟩⟩⟩⟩⟩⟩⟩⟩⟩⟩⟩⟩⟩⟩
theorem lw_p48 : lw_okq (⟨"FoldedArchiveModel", "fails", "(I)I"⟩, 23) := ⟨⟨by decide +kernel, by decide +kernel⟩, List.mem_of_getElem? (i := 1343) (by decide +kernel), List.mem_of_getElem? (i := 1451) (by decide +kernel), List.mem_of_getElem? (i := 1452) (by decide +kernel)⟩
theorem lw_p49 : lw_okq (⟨"FoldedArchiveModel", "pours", "(II)I"⟩, 23) := ⟨⟨by decide +kernel, by decide +kernel⟩, List.mem_of_getElem? (i := 1343) (by decide +kernel), List.mem_of_getElem? (i := 1459) (by decide +kernel), List.mem_of_getElem? (i := 1460) (by decide +kernel)⟩
theorem lw_p50 : lw_okq (⟨"FoldedArchiveModel", "isSection", "(I)Z"⟩, 23) := ⟨⟨by decide +kernel, by decide +kernel⟩, List.mem_of_getElem? (i := 1343) (by decide +kernel), List.mem_of_getElem? (i := 1463) (by decide +kernel), List.mem_of_getElem? (i := 1464) (by decide +kernel)⟩
theorem lw_p51 : lw_okq (⟨"FoldedArchiveModel", "tags", "(IIZ)I"⟩, 23) := ⟨⟨by decide +kernel, by decide +kernel⟩, List.mem_of_getElem? (i := 1343) (by decide +kernel), List.mem_of_getElem? (i := 1474) (by decide +kernel), List.mem_of_getElem? (i := 1475) (by decide +kernel)⟩
theorem lw_p52 : lw_okq (⟨"FoldedArchiveModel", "has", "(II)Z"⟩, 23) := ⟨⟨by decide +kernel, by decide +kernel⟩, List.mem_of_getElem? (i := 1343) (by decide +kernel), List.mem_of_getElem? (i := 1481) (by decide +kernel), List.mem_of_getElem? (i := 1482) (by decide +kernel)⟩
theorem lw_p53 : lw_okq (⟨"FoldedArchiveModel", "terms", "(I)I"⟩, 23) := ⟨⟨by decide +kernel, by decide +kernel⟩, List.mem_of_getElem? (i := 1343) (by decide +kernel), List.mem_of_getElem? (i := 1485) (by decide +kernel), List.mem_of_getElem? (i := 1486) (by decide +kernel)⟩
theorem lw_p54 : lw_okq (⟨"FoldedArchiveModel", "isAhead", "(II)Z"⟩, 23) := ⟨⟨by decide +kernel, by decide +kernel⟩, List.mem_of_getElem? (i := 1343) (by decide +kernel), List.mem_of_getElem? (i := 1513) (by decide +kernel), List.mem_of_getElem? (i := 1514) (by decide +kernel)⟩
theorem lw_p55 : lw_okq (⟨"FoldedArchiveModel", "folds", "(I)I"⟩, 23) := ⟨⟨by decide +kernel, by decide +kernel⟩, List.mem_of_getElem? (i := 1343) (by decide +kernel), List.mem_of_getElem? (i := 1521) (by decide +kernel), List.mem_of_getElem? (i := 1522) (by decide +kernel)⟩
theorem lw_p56 : lw_okq (⟨"FoldedArchiveModel", "crossed", "(I)I"⟩, 23) := ⟨⟨by decide +kernel, by decide +kernel⟩, List.mem_of_getElem? (i := 1343) (by decide +kernel), List.mem_of_getElem? (i := 1525) (by decide +kernel), List.mem_of_getElem? (i := 1526) (by decide +kernel)⟩
theorem lw_p57 : lw_okq (⟨"FoldedArchiveModel", "lays", "(I)V"⟩, 23) := ⟨⟨by decide +kernel, by decide +kernel⟩, List.mem_of_getElem? (i := 1343) (by decide +kernel), List.mem_of_getElem? (i := 1529) (by decide +kernel), List.mem_of_getElem? (i := 1530) (by decide +kernel)⟩
theorem lw_p58 : lw_okq (⟨"FoldedArchiveModel", "puts", "(I)V"⟩, 23) := ⟨⟨by decide +kernel, by decide +kernel⟩, List.mem_of_getElem? (i := 1343) (by decide +kernel), List.mem_of_getElem? (i := 1533) (by decide +kernel), List.mem_of_getElem? (i := 1534) (by decide +kernel)⟩
theorem lw_p59 : lw_okq (⟨"FoldedArchiveModel", "opens", "()I"⟩, 23) := ⟨⟨by decide +kernel, by decide +kernel⟩, List.mem_of_getElem? (i := 1343) (by decide +kernel), List.mem_of_getElem? (i := 1541) (by decide +kernel), List.mem_of_getElem? (i := 1542) (by decide +kernel)⟩
theorem lw_p60 : lw_okq (⟨"FoldedArchiveModel", "takes", "()I"⟩, 23) := ⟨⟨by decide +kernel, by decide +kernel⟩, List.mem_of_getElem? (i := 1343) (by decide +kernel), List.mem_of_getElem? (i := 1545) (by decide +kernel), List.mem_of_getElem? (i := 1546) (by decide +kernel)⟩
theorem lw_p61 : lw_okq (⟨"FoldedArchiveModel", "ways", "()I"⟩, 23) := ⟨⟨by decide +kernel, by decide +kernel⟩, List.mem_of_getElem? (i := 1343) (by decide +kernel), List.mem_of_getElem? (i := 1569) (by decide +kernel), List.mem_of_getElem? (i := 1570) (by decide +kernel)⟩
theorem lw_p62 : lw_okq (⟨"FoldedArchiveModel", "pipes", "(III)I"⟩, 23) := ⟨⟨by decide +kernel, by decide +kernel⟩, List.mem_of_getElem? (i := 1343) (by decide +kernel), List.mem_of_getElem? (i := 1582) (by decide +kernel), List.mem_of_getElem? (i := 1583) (by decide +kernel)⟩
theorem lw_p63 : lw_okq (⟨"FoldedArchiveModel", "cuts", "(I)I"⟩, 23) := ⟨⟨by decide +kernel, by decide +kernel⟩, List.mem_of_getElem? (i := 1343) (by decide +kernel), List.mem_of_getElem? (i := 1590) (by decide +kernel), List.mem_of_getElem? (i := 1591) (by decide +kernel)⟩
def lw_privs_4 : List (MethodName × Nat) := [(⟨"FoldedArchiveModel", "fails", "(I)I"⟩, 23), (⟨"FoldedArchiveModel", "pours", "(II)I"⟩, 23), (⟨"FoldedArchiveModel", "isSection", "(I)Z"⟩, 23), (⟨"FoldedArchiveModel", "tags", "(IIZ)I"⟩, 23), (⟨"FoldedArchiveModel", "has", "(II)Z"⟩, 23), (⟨"FoldedArchiveModel", "terms", "(I)I"⟩, 23), (⟨"FoldedArchiveModel", "isAhead", "(II)Z"⟩, 23), (⟨"FoldedArchiveModel", "folds", "(I)I"⟩, 23), (⟨"FoldedArchiveModel", "crossed", "(I)I"⟩, 23), (⟨"FoldedArchiveModel", "lays", "(I)V"⟩, 23), (⟨"FoldedArchiveModel", "puts", "(I)V"⟩, 23), (⟨"FoldedArchiveModel", "opens", "()I"⟩, 23), (⟨"FoldedArchiveModel", "takes", "()I"⟩, 23), (⟨"FoldedArchiveModel", "ways", "()I"⟩, 23), (⟨"FoldedArchiveModel", "pipes", "(III)I"⟩, 23), (⟨"FoldedArchiveModel", "cuts", "(I)I"⟩, 23)]
theorem lw_r4 : ∀ q ∈ lw_privs_4, lw_okq q := List.forall_mem_cons.mpr ⟨lw_p48, List.forall_mem_cons.mpr ⟨lw_p49, List.forall_mem_cons.mpr ⟨lw_p50, List.forall_mem_cons.mpr ⟨lw_p51, List.forall_mem_cons.mpr ⟨lw_p52, List.forall_mem_cons.mpr ⟨lw_p53, List.forall_mem_cons.mpr ⟨lw_p54, List.forall_mem_cons.mpr ⟨lw_p55, List.forall_mem_cons.mpr ⟨lw_p56, List.forall_mem_cons.mpr ⟨lw_p57, List.forall_mem_cons.mpr ⟨lw_p58, List.forall_mem_cons.mpr ⟨lw_p59, List.forall_mem_cons.mpr ⟨lw_p60, List.forall_mem_cons.mpr ⟨lw_p61, List.forall_mem_cons.mpr ⟨lw_p62, List.forall_mem_cons.mpr ⟨lw_p63, fun _ h => absurd h List.not_mem_nil⟩⟩⟩⟩⟩⟩⟩⟩⟩⟩⟩⟩⟩⟩⟩⟩
theorem lw_p64 : lw_okq (⟨"FoldedArchiveModel", "isPipe", "(I)Z"⟩, 23) := ⟨⟨by decide +kernel, by decide +kernel⟩, List.mem_of_getElem? (i := 1343) (by decide +kernel), List.mem_of_getElem? (i := 1594) (by decide +kernel), List.mem_of_getElem? (i := 1595) (by decide +kernel)⟩
theorem lw_p65 : lw_okq (⟨"FoldedArchiveModel", "turns", "(II)I"⟩, 23) := ⟨⟨by decide +kernel, by decide +kernel⟩, List.mem_of_getElem? (i := 1343) (by decide +kernel), List.mem_of_getElem? (i := 1602) (by decide +kernel), List.mem_of_getElem? (i := 1603) (by decide +kernel)⟩
theorem lw_p66 : lw_okq (⟨"FoldedArchiveModel", "pipe", "(II)I"⟩, 23) := ⟨⟨by decide +kernel, by decide +kernel⟩, List.mem_of_getElem? (i := 1343) (by decide +kernel), List.mem_of_getElem? (i := 1606) (by decide +kernel), List.mem_of_getElem? (i := 1607) (by decide +kernel)⟩
theorem lw_p67 : lw_okq (⟨"FoldedArchiveModel", "broken", "()I"⟩, 23) := ⟨⟨by decide +kernel, by decide +kernel⟩, List.mem_of_getElem? (i := 1343) (by decide +kernel), List.mem_of_getElem? (i := 1610) (by decide +kernel), List.mem_of_getElem? (i := 1611) (by decide +kernel)⟩
theorem lw_p68 : lw_okq (⟨"FoldedArchiveModel", "asked", "(II)I"⟩, 23) := ⟨⟨by decide +kernel, by decide +kernel⟩, List.mem_of_getElem? (i := 1343) (by decide +kernel), List.mem_of_getElem? (i := 1626) (by decide +kernel), List.mem_of_getElem? (i := 1627) (by decide +kernel)⟩
theorem lw_p69 : lw_okq (⟨"FoldedArchiveModel", "cut", "(I)I"⟩, 23) := ⟨⟨by decide +kernel, by decide +kernel⟩, List.mem_of_getElem? (i := 1343) (by decide +kernel), List.mem_of_getElem? (i := 1646) (by decide +kernel), List.mem_of_getElem? (i := 1647) (by decide +kernel)⟩
theorem lw_p70 : lw_okq (⟨"FoldedArchiveModel", "drains", "()I"⟩, 23) := ⟨⟨by decide +kernel, by decide +kernel⟩, List.mem_of_getElem? (i := 1343) (by decide +kernel), List.mem_of_getElem? (i := 1663) (by decide +kernel), List.mem_of_getElem? (i := 1664) (by decide +kernel)⟩
theorem lw_p71 : lw_okq (⟨"FoldedArchiveModel", "comes", "(II)V"⟩, 23) := ⟨⟨by decide +kernel, by decide +kernel⟩, List.mem_of_getElem? (i := 1343) (by decide +kernel), List.mem_of_getElem? (i := 1667) (by decide +kernel), List.mem_of_getElem? (i := 1668) (by decide +kernel)⟩
theorem lw_p72 : lw_okq (⟨"FoldedArchiveModel", "seeps", "()I"⟩, 23) := ⟨⟨by decide +kernel, by decide +kernel⟩, List.mem_of_getElem? (i := 1343) (by decide +kernel), List.mem_of_getElem? (i := 1675) (by decide +kernel), List.mem_of_getElem? (i := 1676) (by decide +kernel)⟩
theorem lw_p73 : lw_okq (⟨"FoldedArchiveModel", "all", "()I"⟩, 23) := ⟨⟨by decide +kernel, by decide +kernel⟩, List.mem_of_getElem? (i := 1343) (by decide +kernel), List.mem_of_getElem? (i := 1683) (by decide +kernel), List.mem_of_getElem? (i := 1684) (by decide +kernel)⟩
theorem lw_p74 : lw_okq (⟨"FoldedArchiveModel", "found", "()I"⟩, 23) := ⟨⟨by decide +kernel, by decide +kernel⟩, List.mem_of_getElem? (i := 1343) (by decide +kernel), List.mem_of_getElem? (i := 1720) (by decide +kernel), List.mem_of_getElem? (i := 1721) (by decide +kernel)⟩
theorem lw_p75 : lw_okq (⟨"FoldedArchiveModel", "sums", "()I"⟩, 23) := ⟨⟨by decide +kernel, by decide +kernel⟩, List.mem_of_getElem? (i := 1343) (by decide +kernel), List.mem_of_getElem? (i := 1724) (by decide +kernel), List.mem_of_getElem? (i := 1725) (by decide +kernel)⟩
theorem lw_p76 : lw_okq (⟨"FoldedArchiveModel", "product", "()I"⟩, 23) := ⟨⟨by decide +kernel, by decide +kernel⟩, List.mem_of_getElem? (i := 1343) (by decide +kernel), List.mem_of_getElem? (i := 1728) (by decide +kernel), List.mem_of_getElem? (i := 1729) (by decide +kernel)⟩
theorem lw_p77 : lw_okq (⟨"FoldedArchiveModel", "factor", "()I"⟩, 23) := ⟨⟨by decide +kernel, by decide +kernel⟩, List.mem_of_getElem? (i := 1343) (by decide +kernel), List.mem_of_getElem? (i := 1732) (by decide +kernel), List.mem_of_getElem? (i := 1733) (by decide +kernel)⟩
theorem lw_p78 : lw_okq (⟨"FoldedArchiveModel", "here", "(I)I"⟩, 23) := ⟨⟨by decide +kernel, by decide +kernel⟩, List.mem_of_getElem? (i := 1343) (by decide +kernel), List.mem_of_getElem? (i := 1736) (by decide +kernel), List.mem_of_getElem? (i := 1737) (by decide +kernel)⟩
theorem lw_p79 : lw_okq (⟨"FoldedArchiveModel", "every", "()I"⟩, 23) := ⟨⟨by decide +kernel, by decide +kernel⟩, List.mem_of_getElem? (i := 1343) (by decide +kernel), List.mem_of_getElem? (i := 1740) (by decide +kernel), List.mem_of_getElem? (i := 1741) (by decide +kernel)⟩
def lw_privs_5 : List (MethodName × Nat) := [(⟨"FoldedArchiveModel", "isPipe", "(I)Z"⟩, 23), (⟨"FoldedArchiveModel", "turns", "(II)I"⟩, 23), (⟨"FoldedArchiveModel", "pipe", "(II)I"⟩, 23), (⟨"FoldedArchiveModel", "broken", "()I"⟩, 23), (⟨"FoldedArchiveModel", "asked", "(II)I"⟩, 23), (⟨"FoldedArchiveModel", "cut", "(I)I"⟩, 23), (⟨"FoldedArchiveModel", "drains", "()I"⟩, 23), (⟨"FoldedArchiveModel", "comes", "(II)V"⟩, 23), (⟨"FoldedArchiveModel", "seeps", "()I"⟩, 23), (⟨"FoldedArchiveModel", "all", "()I"⟩, 23), (⟨"FoldedArchiveModel", "found", "()I"⟩, 23), (⟨"FoldedArchiveModel", "sums", "()I"⟩, 23), (⟨"FoldedArchiveModel", "product", "()I"⟩, 23), (⟨"FoldedArchiveModel", "factor", "()I"⟩, 23), (⟨"FoldedArchiveModel", "here", "(I)I"⟩, 23), (⟨"FoldedArchiveModel", "every", "()I"⟩, 23)]
theorem lw_r5 : ∀ q ∈ lw_privs_5, lw_okq q := List.forall_mem_cons.mpr ⟨lw_p64, List.forall_mem_cons.mpr ⟨lw_p65, List.forall_mem_cons.mpr ⟨lw_p66, List.forall_mem_cons.mpr ⟨lw_p67, List.forall_mem_cons.mpr ⟨lw_p68, List.forall_mem_cons.mpr ⟨lw_p69, List.forall_mem_cons.mpr ⟨lw_p70, List.forall_mem_cons.mpr ⟨lw_p71, List.forall_mem_cons.mpr ⟨lw_p72, List.forall_mem_cons.mpr ⟨lw_p73, List.forall_mem_cons.mpr ⟨lw_p74, List.forall_mem_cons.mpr ⟨lw_p75, List.forall_mem_cons.mpr ⟨lw_p76, List.forall_mem_cons.mpr ⟨lw_p77, List.forall_mem_cons.mpr ⟨lw_p78, List.forall_mem_cons.mpr ⟨lw_p79, fun _ h => absurd h List.not_mem_nil⟩⟩⟩⟩⟩⟩⟩⟩⟩⟩⟩⟩⟩⟩⟩⟩
theorem lw_p80 : lw_okq (⟨"FoldedArchiveModel", "wrongSet", "()I"⟩, 23) := ⟨⟨by decide +kernel, by decide +kernel⟩, List.mem_of_getElem? (i := 1343) (by decide +kernel), List.mem_of_getElem? (i := 1744) (by decide +kernel), List.mem_of_getElem? (i := 1745) (by decide +kernel)⟩
theorem lw_p81 : lw_okq (⟨"FoldedArchiveModel", "isFactor", "()Z"⟩, 23) := ⟨⟨by decide +kernel, by decide +kernel⟩, List.mem_of_getElem? (i := 1343) (by decide +kernel), List.mem_of_getElem? (i := 1748) (by decide +kernel), List.mem_of_getElem? (i := 1749) (by decide +kernel)⟩
theorem lw_p82 : lw_okq (⟨"FoldedArchiveModel", "readsOne", "()V"⟩, 23) := ⟨⟨by decide +kernel, by decide +kernel⟩, List.mem_of_getElem? (i := 1343) (by decide +kernel), List.mem_of_getElem? (i := 1760) (by decide +kernel), List.mem_of_getElem? (i := 1761) (by decide +kernel)⟩
theorem lw_p83 : lw_okq (⟨"FoldedArchiveModel", "says", "(Ljava/lang/String;)V"⟩, 23) := ⟨⟨by decide +kernel, by decide +kernel⟩, List.mem_of_getElem? (i := 1343) (by decide +kernel), List.mem_of_getElem? (i := 1765) (by decide +kernel), List.mem_of_getElem? (i := 1766) (by decide +kernel)⟩
theorem lw_p84 : lw_okq (⟨"FoldedArchiveModel", "number", "(Ljava/lang/String;II)V"⟩, 23) := ⟨⟨by decide +kernel, by decide +kernel⟩, List.mem_of_getElem? (i := 1343) (by decide +kernel), List.mem_of_getElem? (i := 1773) (by decide +kernel), List.mem_of_getElem? (i := 1774) (by decide +kernel)⟩
theorem lw_p85 : lw_okq (⟨"FoldedArchiveModel", "term", "(Ljava/lang/String;)V"⟩, 23) := ⟨⟨by decide +kernel, by decide +kernel⟩, List.mem_of_getElem? (i := 1343) (by decide +kernel), List.mem_of_getElem? (i := 1780) (by decide +kernel), List.mem_of_getElem? (i := 1781) (by decide +kernel)⟩
theorem lw_p86 : lw_okq (⟨"FoldedArchiveModel", "does", "(I)I"⟩, 23) := ⟨⟨by decide +kernel, by decide +kernel⟩, List.mem_of_getElem? (i := 1343) (by decide +kernel), List.mem_of_getElem? (i := 1792) (by decide +kernel), List.mem_of_getElem? (i := 1793) (by decide +kernel)⟩
theorem lw_p87 : lw_okq (⟨"FoldedArchiveModel", "writes", "(I)V"⟩, 23) := ⟨⟨by decide +kernel, by decide +kernel⟩, List.mem_of_getElem? (i := 1343) (by decide +kernel), List.mem_of_getElem? (i := 1804) (by decide +kernel), List.mem_of_getElem? (i := 1805) (by decide +kernel)⟩
def lw_privs_6 : List (MethodName × Nat) := [(⟨"FoldedArchiveModel", "wrongSet", "()I"⟩, 23), (⟨"FoldedArchiveModel", "isFactor", "()Z"⟩, 23), (⟨"FoldedArchiveModel", "readsOne", "()V"⟩, 23), (⟨"FoldedArchiveModel", "says", "(Ljava/lang/String;)V"⟩, 23), (⟨"FoldedArchiveModel", "number", "(Ljava/lang/String;II)V"⟩, 23), (⟨"FoldedArchiveModel", "term", "(Ljava/lang/String;)V"⟩, 23), (⟨"FoldedArchiveModel", "does", "(I)I"⟩, 23), (⟨"FoldedArchiveModel", "writes", "(I)V"⟩, 23)]
theorem lw_r6 : ∀ q ∈ lw_privs_6, lw_okq q := List.forall_mem_cons.mpr ⟨lw_p80, List.forall_mem_cons.mpr ⟨lw_p81, List.forall_mem_cons.mpr ⟨lw_p82, List.forall_mem_cons.mpr ⟨lw_p83, List.forall_mem_cons.mpr ⟨lw_p84, List.forall_mem_cons.mpr ⟨lw_p85, List.forall_mem_cons.mpr ⟨lw_p86, List.forall_mem_cons.mpr ⟨lw_p87, fun _ h => absurd h List.not_mem_nil⟩⟩⟩⟩⟩⟩⟩⟩
def lw_privs : List (MethodName × Nat) := lw_privs_1 ++ (lw_privs_2 ++ (lw_privs_3 ++ (lw_privs_4 ++ (lw_privs_5 ++ (lw_privs_6)))))
def lw_tbl : List Cond := k2_sels lw_privs ++ tables_1
theorem lw_privs_ok : ∀ q ∈ lw_privs, lw_okq q := by
  show ∀ q ∈ lw_privs_1 ++ (lw_privs_2 ++ (lw_privs_3 ++ (lw_privs_4 ++ (lw_privs_5 ++ (lw_privs_6))))), lw_okq q
  exact List.forall_mem_append.mpr ⟨lw_r1, List.forall_mem_append.mpr ⟨lw_r2, List.forall_mem_append.mpr ⟨lw_r3, List.forall_mem_append.mpr ⟨lw_r4, List.forall_mem_append.mpr ⟨lw_r5, lw_r6⟩⟩⟩⟩⟩
/-- the streams that the claim lets the run draw from -/
abbrev lw_cs : List Choice := [Jvm.Choice.named "NaN.bits"]
theorem lw_bits : nanBits ∈ lw_cs := by first | decide | exact List.mem_cons_self | simp [lw_cs, nanBits]
end
section
/-! ===== BEGIN words of one list among another's, by their places ===== -/
theorem goodIn_r {big : List Cond} (ws : List Cond) (ps : List Nat) (hp : ws = ps.filterMap (fun i => big[i]?)) (h : ws.all goodWord = true) : GoodIn big ws := by
  intro w hw
  have h1 := List.all_eq_true.mp h w hw
  rw [hp] at hw
  obtain ⟨i, -, hi⟩ := List.mem_filterMap.mp hw
  have hm : w ∈ big := by first | exact List.mem_of_getElem? hi | exact List.getElem?_mem hi
  exact ⟨hm, good_of_word h1⟩
theorem goodIn_app {big a b : List Cond} (ha : GoodIn big a) (hb : GoodIn big b) : GoodIn big (a ++ b) := fun w h => (List.mem_append.mp h).elim (ha w) (hb w)
theorem goodIn_ca {big a b : List Cond} {c : Cond} (ha : GoodIn big (c :: a)) (hb : GoodIn big b) : GoodIn big (c :: (a ++ b)) := fun w h => (List.mem_cons.mp h).elim (fun e => ha w (List.mem_cons.mpr (Or.inl e))) (fun h => (List.mem_append.mp h).elim (fun h => ha w (List.mem_cons.mpr (Or.inr h))) (hb w))
theorem goodIn_sub {big ws : List Cond} (hm : ∀ w ∈ ws, w ∈ big) (h : ws.all goodWord = true) : GoodIn big ws := fun w hw => ⟨hm w hw, good_of_word (List.all_eq_true.mp h w hw)⟩
/-! ===== END ===== -/

/-! ===== BEGIN exceptions that leave a method, and their catching by the caller (launches without stack traces) ===== -/
section VXA
/-! The laws vx_back, vx_callV, vx_callS, vx_callSW, vx_throw0, vx_throwS follow proofs of the library, with one case more: JvmDerived/Free/Laws.lean (Back.of_free), Shelf42/LK1.lean (callV, callS), Shelf/KitTraced.lean (throwNew0V, throwNewS). -/
/-- where a method has thrown q: the class by its name, the cell, what was written, the world -/
def vx_T (XC : String → State → State → Prop) (st : State) (q : Addr) (t : State) (mc ms : Nat) (free : Addr → Prop) : Prop :=
  ∃ (E : String) (ce : Cell) (L : List Loc), XC E st t ∧ t.heap[q]? = some ce ∧ ce.vm = .none ∧ st.vm.findClass E = some ce.cls ∧ st.WarmedH t.vm ∧ st.sameButNew ({ t with vm := st.vm } : State) L mc ms ∧ ∀ z ∈ L, free z.base
def vx_Q (Qc : Array Value → State → Outcome → State → Prop) (XC : String → State → State → Prop) (mc ms : Nat) (free : Addr → Prop) : Array Value → State → Outcome → State → Prop := fun a st o t =>
  (Qc a st o t ∧ ∃ L, FrameEnd st o t L mc ms ∧ ∀ q ∈ L, free q.base) ∨ ∃ q, o = .threw q ∧ vx_T XC st q t mc ms free
/-- a callee that returns or throws -/
def vx_Met (l : Launch) (y : MethodName) (ws : List Cond) (rm : Room) (Pc : Array Value → State → Prop) (Qc : Array Value → State → Outcome → State → Prop) (XC : String → State → State → Prop) (mc ms : Nat) (free : Addr → Prop) : Prop :=
  MetFree l y (headSpec ws rm) Pc (fun _ _ _ _ _ => True) (vx_Q Qc XC mc ms free)
def vx_Post (XC : String → State → State → Prop) (mc ms : Nat) (free : Addr → Prop) : Pt → Array Value → Addr → Pt → Prop := fun A a q B =>
  ∃ (g : JFrame) (mk : MethodId) (t : State) (L : List Loc) (E : String) (ce : Cell), B.U.heap = t.heap ∧ B.U.vm = t.vm ∧ XC E (A.U.calling g mk a) t ∧ t.heap[q]? = some ce ∧ ce.vm = .none ∧ A.U.vm.findClass E = some ce.cls ∧ B.locs = A.locs ++ L ∧ (∀ z ∈ L, free z.base) ∧ B.cells = A.cells + mc ∧ B.slots = A.slots + ms
def vx_Back (l : Launch) (R : Room) (p : Program) (e : Env) (below : List Frame) (s : State) (sargs : Array Value) (y : MethodName) (len W9 : Nat)
    (Pre : Pt → Array Value → Prop) (Post : Pt → Array Value → Option Value → Pt → Prop) (PostX : Pt → Array Value → Addr → Pt → Prop) : Prop :=
  ∀ (m : MethodId) (meth : Method) (c : Code) (A : Pt) (g : JFrame) (ig : Instr) (mk : MethodId) (a : Array Value),
    Stand p l e R s m sargs below meth c A.U A.locs A.cells A.slots → g.method = m → g.locals.size = c.maxLocals → decode c.code g.pc = .ok (ig, len) →
    2 * g.monitorRoom + (g.stack.map fun v => v.category).sum ≤ W9 → A.U.methodNamed? y = some mk → Pre A a →
    (∃ (v : Option Value) (B : Pt), Stand p l e R s m sargs below meth c B.U B.locs B.cells B.slots ∧ Post A a v B ∧
      Steps p.tables e below (doInvoke e (A.U.setTop g) [] mk a).1 (B.U.setTop { g with pc := g.pc + len, stack := v.toList ++ g.stack })) ∨
    (∃ (q : Addr) (B : Pt), Stand p l e R s m sargs below meth c B.U B.locs B.cells B.slots ∧ PostX A a q B ∧
      Steps p.tables e below (doInvoke e (A.U.setTop g) [] mk a).1 ((B.U.setTop g).pushFrame (.throwing q)))
section Payer
variable {l : Launch} {R : Room} {p : Program} {e : Env} {below : List Frame} {s : State} {sargs : Array Value} {y : MethodName} {len W9 : Nat}
theorem vx_back {ws : List Cond} {rm : Room} {Pc : Array Value → State → Prop} {Qc : Array Value → State → Outcome → State → Prop} {XC : String → State → State → Prop} {mc ms : Nat} {free : Addr → Prop} {bytes : ByteArray} {maxL : Nat} {ret : Option FieldType}
    (hM : vx_Met l y ws rm Pc Qc XC mc ms free) (hblind : FrameBlind Pc) (hrc : rm.cells = mc) (hrs : rm.slots = ms)
    (hframes : rm.frames + 1 ≤ R.frames) (hlocals : W9 + (maxL + 11) + rm.locals ≤ R.locals)
    (hws : ∀ w ∈ ws, ∀ a' U, s.WarmedH U.vm → w.before a' U = true) (hcode : Cond.code y bytes maxL ret ∈ ws) (hinit : ∀ a' U, s.WarmedH U.vm → (Cond.initialized y.cls).before a' U = true) :
    vx_Back l R p e below s sargs y len W9 (PreOf R mc ms Pc) (PostOf Qc mc ms free) (vx_Post XC mc ms free) := by
  intro m meth c A g ig mk a X hg hsize hdg hW hn hp
  have h1 : (headSpec ws rm).pre.before a A.U = true := atoms_intro fun w hw => hws w hw _ _ X.warmed
  have h2 : (Cond.code y bytes maxL ret).before a A.U = true := hws _ hcode _ _ X.warmed
  have h3 : (Cond.initialized y.cls).before a A.U = true := hinit _ _ X.warmed
  have h4 : A.cells + (headSpec ws rm).room.cells ≤ R.cells := by rw [show (headSpec ws rm).room.cells = mc from hrc]; exact hp.1
  have h5 : A.slots + (headSpec ws rm).room.slots ≤ R.slots := by rw [show (headSpec ws rm).room.slots = ms from hrs]; exact hp.2.1
  have hPc : Pc a (A.U.calling g mk a) := hblind _ _ _ _ hp.2.2
  obtain ⟨U, Ls, c0, s0⟩ := A
  dsimp only [Pt.U, Pt.locs, Pt.cells, Pt.slots] at h1 h2 h3 h4 h5 X hn hPc ⊢
  obtain ⟨methY, cY, hmY, hcY, -, hlY, -, -, -, -⟩ := Cond.code_spec hn h2
  obtain ⟨kY, hkY, -⟩ := className_of_methodNamed hn
  have hinitY : kY.init = .initialized := Cond.initialized_spec (findClass_of_methodNamed hn) hkY h3
  have h : At U g.method c below := by rw [hg]; exact X.here
  have hlocals9 : W9 + (maxL + 11) + (headSpec ws rm).room.locals ≤ R.locals := hlocals
  have happ : (headSpec ws rm).appliesLoose y e.platform (U.calling g mk a) = true :=
    Spec.appliesLoose_calling (g := g) h hdg hn hkY hinitY
      (X.room_calling (g := g) (R' := (headSpec ws rm).room) hsize hmY hcY hframes (by rw [hlY]; omega) h4 h5) h1
  obtain ⟨mid, hmid⟩ := h.above
  have hfr : (U.setTop g).frames = (.java g :: mid) ++ below := by rw [State.frames_setTop' g h.top, hmid]; rfl
  obtain ⟨o, s₂, hsteps, -, hend, hq⟩ := Steps.callFree hM p X.admits X.cas X.clock (acts := []) hfr happ hPc trivial
  have hq' : vx_Q Qc XC mc ms free a (U.calling g mk a) o s₂ := hq
  rw [State.frames_setTop' g h.top] at hend
  obtain ⟨g₀, hg0⟩ := Option.isSome_iff_exists.mp h.top
  obtain ⟨r, hr⟩ := State.topJava?_eq_some.mp hg0
  have hr' : (({ U with heap := s₂.heap, slotsUsed := s₂.slotsUsed } : State).setVm s₂.vm).frames = .java g₀ :: r := hr
  rcases hq' with ⟨hqc, L, hfe, hL⟩ | ⟨q, rfl, E, ce, L, hx, hce, hcv, hcl, hW₂, hsm, hL⟩
  · obtain ⟨⟨v, rfl⟩, hW₂, e2, q2, q3, q4, q5, q6⟩ := id hfe
    have e3 : s₂ = ({ (U.calling g mk a).setFrames s₂.frames with heap := s₂.heap, slotsUsed := s₂.slotsUsed } : State).setVm s₂.vm := by
      have : s₂ = ({ s₂ with vm := (U.calling g mk a).vm } : State).setVm s₂.vm := rfl
      rw [e2] at this
      exact this
    obtain ⟨c₂, i₂, len₂, hc₂, hd₂, hf₂⟩ := hend
    have hW' : U.WarmedH s₂.vm := hW₂
    have hcc : c₂ = c := by
      have h1 : s₂.code? g.method = U.code? g.method := by
        rw [State.code?_eq, State.code?_eq, hW'.alike.method?]
      exact Option.some.inj (hc₂.symm.trans (h1.trans h.code))
    subst hcc
    have hlen : len₂ = len := by rw [hdg] at hd₂; cases hd₂; rfl
    subst hlen
    have hs₂ : s₂ = (({ U with heap := s₂.heap, slotsUsed := s₂.slotsUsed } : State).setVm s₂.vm).setTop { g with pc := g.pc + len₂, stack := v.toList ++ g.stack } := by
      refine e3.trans ?_
      rw [hf₂, State.calling_eq h.top, State.setFrames_setFrames, State.setTop_of_frames _ hr', hr]
      rfl
    have hsame : U.sameButNew ({ U with heap := s₂.heap, slotsUsed := s₂.slotsUsed } : State) L mc ms := by
      refine ⟨?_, q2, q3, q4, q5, q6⟩
      obtain ⟨t, ht, -⟩ := State.frames_cons hr
      show ({ U with heap := s₂.heap, slotsUsed := s₂.slotsUsed } : State) = { U.setFrames U.frames with heap := s₂.heap, slotsUsed := s₂.slotsUsed }
      rw [State.setFrames_self ht]
    subst hg
    refine Or.inl ⟨v, ⟨(({ U with heap := s₂.heap, slotsUsed := s₂.slotsUsed } : State).setVm s₂.vm), Ls ++ L, c0 + mc, s0 + ms⟩,
      ⟨X.admits, X.cas, X.clock, X.frames, X.room, X.hears, X.method, X.code, (X.here.setHeapUsed s₂.heap s₂.slotsUsed).setVm hW'.alike, X.tail, State.WarmedH.trans X.warmed hW', X.limits, X.bytes, X.same.trans (hsame.setVm s.vm)⟩,
      ⟨g, mk, s₂, L, rfl, rfl, hqc, rfl, hL, rfl, rfl⟩, ?_⟩
    show Steps p.tables e below _ ((({ U with heap := s₂.heap, slotsUsed := s₂.slotsUsed } : State).setVm s₂.vm).setTop { g with pc := g.pc + len₂, stack := v.toList ++ g.stack })
    rw [← hs₂]
    exact hsteps
  · obtain ⟨e2, q2, q3, q4, q5, q6⟩ := id hsm
    have e3 : s₂ = ({ (U.calling g mk a).setFrames s₂.frames with heap := s₂.heap, slotsUsed := s₂.slotsUsed } : State).setVm s₂.vm := by
      have : s₂ = ({ s₂ with vm := (U.calling g mk a).vm } : State).setVm s₂.vm := rfl
      rw [e2] at this
      exact this
    have hf₂ : s₂.frames = .throwing q :: .java g :: U.frames.tail := hend
    have hW' : U.WarmedH s₂.vm := hW₂
    have hs₂ : s₂ = ((({ U with heap := s₂.heap, slotsUsed := s₂.slotsUsed } : State).setVm s₂.vm).setTop g).pushFrame (.throwing q) := by
      refine e3.trans ?_
      rw [hf₂, State.calling_eq h.top, State.setFrames_setFrames, State.pushFrame, State.frames_setTop _ hr', State.setTop_of_frames _ hr', State.setFrames_setFrames, hr]
      rfl
    have hsame : U.sameButNew ({ U with heap := s₂.heap, slotsUsed := s₂.slotsUsed } : State) L mc ms := by
      refine ⟨?_, q2, q3, q4, q5, q6⟩
      obtain ⟨t, ht, -⟩ := State.frames_cons hr
      show ({ U with heap := s₂.heap, slotsUsed := s₂.slotsUsed } : State) = { U.setFrames U.frames with heap := s₂.heap, slotsUsed := s₂.slotsUsed }
      rw [State.setFrames_self ht]
    subst hg
    refine Or.inr ⟨q, ⟨(({ U with heap := s₂.heap, slotsUsed := s₂.slotsUsed } : State).setVm s₂.vm), Ls ++ L, c0 + mc, s0 + ms⟩,
      ⟨X.admits, X.cas, X.clock, X.frames, X.room, X.hears, X.method, X.code, (X.here.setHeapUsed s₂.heap s₂.slotsUsed).setVm hW'.alike, X.tail, State.WarmedH.trans X.warmed hW', X.limits, X.bytes, X.same.trans (hsame.setVm s.vm)⟩,
      ⟨g, mk, s₂, L, E, ce, rfl, rfl, hx, hce, hcv, hcl, rfl, hL, rfl, rfl⟩, ?_⟩
    show Steps p.tables e below _ (((({ U with heap := s₂.heap, slotsUsed := s₂.slotsUsed } : State).setVm s₂.vm).setTop g).pushFrame (.throwing q))
    rw [← hs₂]
    exact hsteps
end Payer
section Calls
variable {p : Program} {l : Launch} {e : Env} {R : Room} {s : State} {m : MethodId} {args : Array Value} {below : List Frame} {meth : Method} {c : Code} {T : State} {locs : List Loc} {cells slots : Nat}
theorem vx_callV (X : Stand p l e R s m args below meth c T locs cells slots) (hexec : p.tables.exec = Jvm.exec) {own C : String} {index : Nat} {y : MethodName} {bytes : ByteArray} {maxL : Nat} {ret : Option FieldType}
    (hown : s.vm.findClass own = some m.cls) (hlink : (Cond.methodLink own index y).before args s = true) (hinst : (Cond.instanceMethod y).before args s = true) (hsel : (Cond.selects C y y).before args s = true)
    (hcode : (Cond.code y bytes maxL ret).before args s = true) (hy : y.cls ≠ "java/lang/invoke/MethodHandle" ∧ y.cls ≠ "java/lang/invoke/VarHandle")
    {W9 : Nat} {Pre : Pt → Array Value → Prop} {Post : Pt → Array Value → Option Value → Pt → Prop} {PostX : Pt → Array Value → Addr → Pt → Prop} (hK : vx_Back l R p e below s args y 3 W9 Pre Post PostX)
    {b : Addr} {cellB : Cell} (hcell : T.heap[b]? = some cellB) (hobj : cellB.vm.isStatics = false) (hcls : s.vm.findClass C = some cellB.cls)
    {g : JFrame} (hg : g.method = m) (hsize : g.locals.size = c.maxLocals) {argsL rest : List Value} (hlen : ∀ sig, parseMethodDescriptor y.desc = some sig → argsL.length = sig.parameters.length)
    (hstack : g.stack = argsL.reverse ++ .ref b :: rest) (hW : 2 * g.monitorRoom + (rest.map fun v => v.category).sum ≤ W9) (hdg : decode c.code g.pc = .ok (.invokevirtual index, 3))
    (hpre : ∀ vm₁, s.WarmedH vm₁ → Pre ⟨T.setVm vm₁, locs, cells, slots⟩ (Value.ref b :: argsL).toArray) :
    (∃ (v : Option Value) (vm₁ : Vm) (B : Pt), s.WarmedH vm₁ ∧ Stand p l e R s m args below meth c B.U B.locs B.cells B.slots ∧ Post ⟨T.setVm vm₁, locs, cells, slots⟩ (Value.ref b :: argsL).toArray v B ∧
      ∀ target, Steps p.tables e below (B.U.setTop { g with pc := g.pc + 3, stack := v.toList ++ rest }) target → Steps p.tables e below (T.setTop g) target) ∨
    (∃ (q : Addr) (vm₁ : Vm) (B : Pt), s.WarmedH vm₁ ∧ Stand p l e R s m args below meth c B.U B.locs B.cells B.slots ∧ PostX ⟨T.setVm vm₁, locs, cells, slots⟩ (Value.ref b :: argsL).toArray q B ∧
      Steps p.tables e below (T.setTop g) ((B.U.setTop { g with stack := rest }).pushFrame (.throwing q))) := by
  obtain ⟨mk, methM, hnamed, hmethM, hstM, habM⟩ := Cond.instanceMethod_spec hinst
  obtain ⟨methM', cM, hmethM', -, -, -, -, -, -, hsigM⟩ := Cond.code_spec hnamed hcode
  cases hmethM.symm.trans hmethM'
  obtain ⟨c2, r2, m2, q1, q2, q3, q4, kP, hkP, hkPi⟩ := Cond.selects_spec hsel
  cases hcls.symm.trans q1
  cases (State.methodFound?_of_named hnamed hy).symm.trans q2
  cases hnamed.symm.trans q3
  have hselP : selectMethod e.platform s.vm cellB.cls mk = .method mk := by rw [Launch.admits_selectMethod X.admits]; exact q4
  obtain ⟨vm₁, X₁, hstep₁⟩ := X.invokevirtual hexec hown hlink hnamed hmethM hstM hkP hkPi hy (a := b) (cell := cellB) hcell
    (fun z h => by rw [h] at hobj; cases hobj) hselP hmethM habM hkP hkPi (g := g) hg (argsL := argsL) (rest := rest) (hlen _ hsigM) hstack hdg
  rcases hK m meth c ⟨T.setVm vm₁, locs, cells, slots⟩ { g with stack := rest } (.invokevirtual index) mk (Value.ref b :: argsL).toArray X₁ hg hsize hdg hW (X₁.named hnamed) (hpre vm₁ X₁.warmed) with ⟨v, B, X', hpost, hsteps⟩ | ⟨q, B, X', hpost, hsteps⟩
  · exact Or.inl ⟨v, vm₁, B, X₁.warmed, X', hpost, fun target h => hstep₁ _ fun acts => by rw [doInvoke_state]; exact hsteps.trans h⟩
  · exact Or.inr ⟨q, vm₁, B, X₁.warmed, X', hpost, hstep₁ _ fun acts => by rw [doInvoke_state]; exact hsteps⟩
theorem vx_callS (X : Stand p l e R s m args below meth c T locs cells slots) (hexec : p.tables.exec = Jvm.exec) {own : String} {index : Nat} {y : MethodName} {bytes : ByteArray} {maxL : Nat} {ret : Option FieldType}
    (hown : s.vm.findClass own = some m.cls) (hlink : (Cond.methodLink own index y).before args s = true) (hstat : (Cond.static y).before args s = true) (hinit : (Cond.initialized y.cls).before args s = true)
    (hcode : (Cond.code y bytes maxL ret).before args s = true) (hy : y.cls ≠ "java/lang/invoke/MethodHandle" ∧ y.cls ≠ "java/lang/invoke/VarHandle")
    {W9 : Nat} {Pre : Pt → Array Value → Prop} {Post : Pt → Array Value → Option Value → Pt → Prop} {PostX : Pt → Array Value → Addr → Pt → Prop} (hK : vx_Back l R p e below s args y 3 W9 Pre Post PostX)
    {g : JFrame} (hg : g.method = m) (hsize : g.locals.size = c.maxLocals) {argsL rest : List Value} (hlen : ∀ sig, parseMethodDescriptor y.desc = some sig → argsL.length = sig.parameters.length)
    (hstack : g.stack = argsL.reverse ++ rest) (hW : 2 * g.monitorRoom + (rest.map fun v => v.category).sum ≤ W9) (hdg : decode c.code g.pc = .ok (.invokestatic index, 3))
    (hpre : ∀ vm₁, s.WarmedH vm₁ → Pre ⟨T.setVm vm₁, locs, cells, slots⟩ argsL.toArray) :
    (∃ (v : Option Value) (vm₁ : Vm) (B : Pt), s.WarmedH vm₁ ∧ Stand p l e R s m args below meth c B.U B.locs B.cells B.slots ∧ Post ⟨T.setVm vm₁, locs, cells, slots⟩ argsL.toArray v B ∧
      ∀ target, Steps p.tables e below (B.U.setTop { g with pc := g.pc + 3, stack := v.toList ++ rest }) target → Steps p.tables e below (T.setTop g) target) ∨
    (∃ (q : Addr) (vm₁ : Vm) (B : Pt), s.WarmedH vm₁ ∧ Stand p l e R s m args below meth c B.U B.locs B.cells B.slots ∧ PostX ⟨T.setVm vm₁, locs, cells, slots⟩ argsL.toArray q B ∧
      Steps p.tables e below (T.setTop g) ((B.U.setTop { g with stack := rest }).pushFrame (.throwing q))) := by
  obtain ⟨mk, hnamed⟩ := Cond.code_named hcode
  obtain ⟨methM, cM, hmethM, -, -, -, -, -, -, hsigM⟩ := Cond.code_spec hnamed hcode
  have hstatic : methM.isStatic = true := Cond.static_spec hnamed hmethM hstat
  obtain ⟨kP, hkP, -⟩ := className_of_methodNamed hnamed
  have hinitP : kP.init = .initialized := Cond.initialized_spec (findClass_of_methodNamed hnamed) hkP hinit
  obtain ⟨vm₁, X₁, hstep₁⟩ := X.invokestatic hexec hown hlink hnamed hmethM hstatic hkP hinitP hy (g := g) hg (argsL := argsL) (rest := rest) (hlen _ hsigM) hstack hdg
  rcases hK m meth c ⟨T.setVm vm₁, locs, cells, slots⟩ { g with stack := rest } (.invokestatic index) mk argsL.toArray X₁ hg hsize hdg hW (X₁.named hnamed) (hpre vm₁ X₁.warmed) with ⟨v, B, X', hpost, hsteps⟩ | ⟨q, B, X', hpost, hsteps⟩
  · exact Or.inl ⟨v, vm₁, B, X₁.warmed, X', hpost, fun target h => hstep₁ _ fun acts => by rw [doInvoke_state]; exact hsteps.trans h⟩
  · exact Or.inr ⟨q, vm₁, B, X₁.warmed, X', hpost, hstep₁ _ fun acts => by rw [doInvoke_state]; exact hsteps⟩
end Calls
theorem vx_cls {s : State} {T : State} {vm₁ : Vm} {E : String} {k : ClassId} (hW : s.WarmedH vm₁) (h : (T.setVm vm₁).vm.findClass E = some k) : s.vm.findClass E = some k := by
  have h1 : vm₁.findClass E = some k := h
  rw [hW.alike.findClass] at h1
  exact h1
/-- the method's frame g, with q thrown over it -/
def vx_W (p : Program) (l : Launch) (e : Env) (R : Room) (s : State) (m : MethodId) (args : Array Value) (below : List Frame) (meth : Method) (c : Code) (H : Heap) (locs : List Loc) (cells slots : Nat) (Q : State → Prop) (g : JFrame) (q : Addr) : Prop :=
  ∀ T : State, T.heap = H → Stand p l e R s m args below meth c T locs cells slots → ∃ t, Steps p.tables e below ((T.setTop g).pushFrame (.throwing q)) t ∧ Q t
def vx_Run (p : Program) (l : Launch) (e : Env) (R : Room) (s : State) (m : MethodId) (args : Array Value) (below : List Frame) (meth : Method) (c : Code) (H : Heap) (locs : List Loc) (cells slots mc ms : Nat) (g : JFrame) (rest : List Value) (Qa : State → Outcome → State → Prop) (XC : String → State → State → Prop) (free : Addr → Prop) : Prop :=
  ∀ T : State, T.heap = H → Stand p l e R s m args below meth c T locs cells slots →
    (∃ (v : Option Value) (st₀ t T' : State) (L : List Loc), st₀.heap = H ∧ Stand p l e R s m args below meth c T' (locs ++ L) (cells + mc) (slots + ms) ∧ (∀ q ∈ L, free q.base) ∧ T'.heap = t.heap ∧ T'.vm = t.vm ∧ Qa st₀ (.returned v) t ∧
      Goes p e below T g T' { g with pc := g.pc + 3, stack := v.toList ++ rest }) ∨
    (∃ (q : Addr) (st₀ t T' : State) (L : List Loc) (E : String) (ce : Cell), st₀.heap = H ∧ Stand p l e R s m args below meth c T' (locs ++ L) (cells + mc) (slots + ms) ∧ (∀ z ∈ L, free z.base) ∧ T'.heap = t.heap ∧ T'.vm = t.vm ∧ XC E st₀ t ∧ t.heap[q]? = some ce ∧ ce.vm = .none ∧ s.vm.findClass E = some ce.cls ∧
      Steps p.tables e below (T.setTop g) ((T'.setTop { g with stack := rest }).pushFrame (.throwing q)))
def vx_X {S : Type} (px : S → Prop) (B : String → S → State → Prop) (A : Nat → Prop) : String → State → State → Prop := fun E st t => ∃ u : S, px u ∧ B E u t ∧ va_F A st t
section Runs
variable {p : Program} {l : Launch} {e : Env} {R : Room} {s : State} {m : MethodId} {args : Array Value} {below : List Frame} {meth : Method} {c : Code} {H : Heap} {locs : List Loc} {cells slots : Nat}
variable {y : MethodName} {bytes cc : ByteArray} {maxL nL mc ms n index : Nat} {ret : Option FieldType} {ws : List Cond} {rm : Room} {Pc : Array Value → State → Prop} {Qc : Array Value → State → Outcome → State → Prop} {XC : String → State → State → Prop} {free : Addr → Prop} {Ts : List Cond} {own C : String} {b : Addr} {As rest : List Value} {g : JFrame}
theorem vx_callBack (cb : CallB R s args own index y bytes maxL ret ws rm mc ms n) (hM : vx_Met l y ws rm Pc Qc XC mc ms free) (hbl : FrameBlind Pc) : vx_Back l R p e below s args y 3 8 (PreOf R mc ms Pc) (PostOf Qc mc ms free) (vx_Post XC mc ms free) := by
  obtain ⟨hrc, hrs, hfr, hlo, hws, hcw, -, hini, -⟩ := cb
  exact vx_back (bytes := bytes) (maxL := maxL) (ret := ret) hM hbl hrc hrs hfr hlo hws hcw (fun a' U hW => word_at hW (Or.inl (by first | rfl | simp [Cond.onTables, Cond.keeps, Cond.steady])) hini)
theorem vx_runV (S : CallFix p m c cc nL s args Ts own) (hM : vx_Met l y ws rm Pc Qc XC mc ms free) (cw : CallW R s args own C index y bytes maxL ret ws rm mc ms n) (hp : PreV s H C b Pc As)
    (hg : g.method = m) (hn : As.length = n) (hsize : g.locals.size = nL) (hstack : g.stack = As.reverse ++ .ref b :: rest) (hW : 2 * g.monitorRoom + (rest.map fun v => v.category).sum ≤ 8) (hdg : decode cc g.pc = .ok (.invokevirtual index, 3)) (hf : cells + mc ≤ R.cells ∧ slots + ms ≤ R.slots) :
    vx_Run p l e R s m args below meth c H locs cells slots mc ms g rest (Qc (Value.ref b :: As).toArray) XC free := by
  have hK : vx_Back l R p e below s args y 3 8 (PreOf R mc ms Pc) (PostOf Qc mc ms free) (vx_Post XC mc ms free) := vx_callBack cw.1 hM hp.1
  obtain ⟨⟨-, -, -, -, -, -, hcode, -, hy, hlen, hl⟩, hin, hse⟩ := cw
  obtain ⟨hx, hb, hml, ho, -⟩ := S
  obtain ⟨-, ⟨cellB, hcB, hoB, hclB⟩, hPc⟩ := hp
  intro T hT X
  rcases vx_callV X hx (C := C) (bytes := bytes) (maxL := maxL) (ret := ret) ho hl hin hse hcode hy hK (by rw [hT]; exact hcB) hoB hclB hg (hsize.trans hml.symm) (argsL := As) (rest := rest) (fun sig h => hn.trans (hlen sig h)) hstack hW (by rw [hb]; exact hdg)
    (fun vm₁ hW₁ => ⟨hf.1, hf.2, hPc (T.setVm vm₁) hT hW₁⟩) with ⟨v, vm₁, ⟨U', l2, c2, s2⟩, hW₁, X', ⟨g', mk, t, L, e1, e2, hq, h1, hL, h2, h3⟩, st⟩ | ⟨q, vm₁, ⟨U', l2, c2, s2⟩, hW₁, X', ⟨g', mk, t, L, E, ce, e1, e2, hq, hce, hcv, hcl, h1, hL, h2, h3⟩, st⟩
  · dsimp only [Pt.U, Pt.locs, Pt.cells, Pt.slots] at X' e1 e2 h1 h2 h3 st
    subst h1; subst h2; subst h3
    exact Or.inl ⟨v, (T.setVm vm₁).calling g' mk (Value.ref b :: As).toArray, t, U', L, hT, X', hL, e1, e2, hq, st⟩
  · dsimp only [Pt.U, Pt.locs, Pt.cells, Pt.slots] at X' e1 e2 h1 h2 h3 st hcl
    subst h1; subst h2; subst h3
    exact Or.inr ⟨q, (T.setVm vm₁).calling g' mk (Value.ref b :: As).toArray, t, U', L, E, ce, hT, X', hL, e1, e2, hq, hce, hcv, vx_cls hW₁ hcl, st⟩
theorem vx_runS (S : CallFix p m c cc nL s args Ts own) (hM : vx_Met l y ws rm Pc Qc XC mc ms free) (cw : CallB R s args own index y bytes maxL ret ws rm mc ms n ∧ (Cond.static y).before args s = true) (hp : PreS s H Pc As)
    (hg : g.method = m) (hn : As.length = n) (hsize : g.locals.size = nL) (hstack : g.stack = As.reverse ++ rest) (hW : 2 * g.monitorRoom + (rest.map fun v => v.category).sum ≤ 8) (hdg : decode cc g.pc = .ok (.invokestatic index, 3)) (hf : cells + mc ≤ R.cells ∧ slots + ms ≤ R.slots) :
    vx_Run p l e R s m args below meth c H locs cells slots mc ms g rest (Qc As.toArray) XC free := by
  have hK : vx_Back l R p e below s args y 3 8 (PreOf R mc ms Pc) (PostOf Qc mc ms free) (vx_Post XC mc ms free) := vx_callBack cw.1 hM hp.1
  obtain ⟨⟨-, -, -, -, -, -, hcode, hini, hy, hlen, hl⟩, hstt⟩ := cw
  obtain ⟨hx, hb, hml, ho, -⟩ := S
  intro T hT X
  rcases vx_callS X hx (bytes := bytes) (maxL := maxL) (ret := ret) ho hl hstt hini hcode hy hK hg (hsize.trans hml.symm) (argsL := As) (rest := rest) (fun sig h => hn.trans (hlen sig h)) hstack hW (by rw [hb]; exact hdg)
    (fun vm₁ hW₁ => ⟨hf.1, hf.2, hp.2 (T.setVm vm₁) hT hW₁⟩) with ⟨v, vm₁, ⟨U', l2, c2, s2⟩, hW₁, X', ⟨g', mk, t, L, e1, e2, hq, h1, hL, h2, h3⟩, st⟩ | ⟨q, vm₁, ⟨U', l2, c2, s2⟩, hW₁, X', ⟨g', mk, t, L, E, ce, e1, e2, hq, hce, hcv, hcl, h1, hL, h2, h3⟩, st⟩
  · dsimp only [Pt.U, Pt.locs, Pt.cells, Pt.slots] at X' e1 e2 h1 h2 h3 st
    subst h1; subst h2; subst h3
    exact Or.inl ⟨v, (T.setVm vm₁).calling g' mk As.toArray, t, U', L, hT, X', hL, e1, e2, hq, st⟩
  · dsimp only [Pt.U, Pt.locs, Pt.cells, Pt.slots] at X' e1 e2 h1 h2 h3 st hcl
    subst h1; subst h2; subst h3
    exact Or.inr ⟨q, (T.setVm vm₁).calling g' mk As.toArray, t, U', L, E, ce, hT, X', hL, e1, e2, hq, hce, hcv, vx_cls hW₁ hcl, st⟩
end Runs
section Rows
variable {p : Program} {l : Launch} {e : Env} {R : Room} {s : State} {m : MethodId} {args : Array Value} {below : List Frame} {meth : Method} {c : Code} {H : Heap} {locs : List Loc} {cells slots : Nat} {Q : State → Prop}
variable {mc ms : Nat} {free : Addr → Prop} {A0 A1 : Nat → Prop} {H0 : Heap} {a : Array Value} {pc : Nat} {ls : Array Slot} {st0 rest : List Value}
theorem vx_keep {st₀ t T' : State} {L : List Loc} (h0 : st₀.heap = H) (e1 : T'.heap = t.heap) (hS : va_S A0 H0 H locs) (hA : ∀ q, q < H.size → A1 q → A0 q) (hf : ∀ q, free q → A0 q) (hL : ∀ q ∈ L, free q.base) (hF : va_F A1 st₀ t) :
    H.size ≤ T'.heap.size ∧ (∀ q : Nat, q < H.size → ¬ A1 q → T'.heap[q]? = H[q]?) ∧ va_S A0 H0 T'.heap (locs ++ L) := by
  obtain ⟨hz, hk⟩ := hF
  rw [h0] at hz hk
  exact ⟨by rw [e1]; exact hz, fun q h1 h2 => by rw [e1]; exact hk q h1 h2,
    ⟨Nat.le_trans hS.1 (by rw [e1]; exact hz), fun q h1 h2 => by rw [e1, hk q (Nat.lt_of_lt_of_le h1 hS.1) (fun z => h2 (hA q (Nat.lt_of_lt_of_le h1 hS.1) z))]; exact hS.2.1 q h1 h2, fun q hq => by
      rcases List.mem_append.mp hq with h | h
      · exact hS.2.2 q h
      · exact hf _ (hL q h)⟩⟩
theorem vx_calli {S SX : Type} {post : Int32 → S → Prop} {px : SX → Prop} {B : S → State → Prop} {BX : String → SX → State → Prop} {AX : Nat → Prop} (hr : vx_Run p l e R s m args below meth c H locs cells slots mc ms (F0 m pc ls st0) rest (va_Qi post B A1 a) (vx_X px BX AX) free) (hS : va_S A0 H0 H locs) (hA : ∀ q, q < H.size → A1 q → A0 q) (hf : ∀ q, free q → A0 q) (hAX : ∀ q, q < H.size → AX q → A0 q)
    (kx : ∀ (E : String) (ce : Cell) (q9 : Addr) (u : SX) (t : State) (H1 : Heap) (locs1 : List Loc), t.heap = H1 → s.vm.Alike t.vm → px u → BX E u t → H.size ≤ H1.size → (∀ q : Nat, q < H.size → ¬ AX q → H1[q]? = H[q]?) → va_S A0 H0 H1 locs1 → H1[q9]? = some ce → ce.vm = .none → s.vm.findClass E = some ce.cls → vx_W p l e R s m args below meth c H1 locs1 (cells + mc) (slots + ms) Q (F0 m pc ls rest) q9)
    (kk : ∀ (r : Int32) (u : S) (t : State) (H1 : Heap) (locs1 : List Loc), t.heap = H1 → s.vm.Alike t.vm → post r u → B u t → H.size ≤ H1.size → (∀ q : Nat, q < H.size → ¬ A1 q → H1[q]? = H[q]?) → va_S A0 H0 H1 locs1 → W p l e R s m args below meth c H1 locs1 (cells + mc) (slots + ms) Q (F0 m (pc + 3) ls (.int r :: rest))) : W p l e R s m args below meth c H locs cells slots Q (F0 m pc ls st0) := by
  intro T hT X
  rcases hr T hT X with ⟨v, st₀, t, T', L, h0, X', hL, e1, e2, ⟨⟨r, u, hv, hp, hb⟩, hF⟩, st⟩ | ⟨q, st₀, t, T', L, E, ce, h0, X', hL, e1, e2, ⟨u, hp, hb, hF⟩, hce, hcv, hcl, st⟩
  · cases hv
    obtain ⟨k1, k2, k3⟩ := vx_keep h0 e1 hS hA hf hL hF
    obtain ⟨t2, a1, b1⟩ := kk r u t T'.heap (locs ++ L) e1.symm (by rw [← e2]; exact X'.warmed.alike) hp hb k1 k2 k3 T' rfl X'
    exact ⟨t2, st t2 a1, b1⟩
  · obtain ⟨k1, k2, k3⟩ := vx_keep h0 e1 hS hAX hf hL hF
    obtain ⟨t2, a1, b1⟩ := kx E ce q u t T'.heap (locs ++ L) e1.symm (by rw [← e2]; exact X'.warmed.alike) hp hb k1 k2 k3 (by rw [e1]; exact hce) hcv hcl T' rfl X'
    exact ⟨t2, st.trans a1, b1⟩
theorem vx_calll {S SX : Type} {post : Int64 → S → Prop} {px : SX → Prop} {B : S → State → Prop} {BX : String → SX → State → Prop} {AX : Nat → Prop} (hr : vx_Run p l e R s m args below meth c H locs cells slots mc ms (F0 m pc ls st0) rest (va_Ql post B A1 a) (vx_X px BX AX) free) (hS : va_S A0 H0 H locs) (hA : ∀ q, q < H.size → A1 q → A0 q) (hf : ∀ q, free q → A0 q) (hAX : ∀ q, q < H.size → AX q → A0 q)
    (kx : ∀ (E : String) (ce : Cell) (q9 : Addr) (u : SX) (t : State) (H1 : Heap) (locs1 : List Loc), t.heap = H1 → s.vm.Alike t.vm → px u → BX E u t → H.size ≤ H1.size → (∀ q : Nat, q < H.size → ¬ AX q → H1[q]? = H[q]?) → va_S A0 H0 H1 locs1 → H1[q9]? = some ce → ce.vm = .none → s.vm.findClass E = some ce.cls → vx_W p l e R s m args below meth c H1 locs1 (cells + mc) (slots + ms) Q (F0 m pc ls rest) q9)
    (kk : ∀ (r : Int64) (u : S) (t : State) (H1 : Heap) (locs1 : List Loc), t.heap = H1 → s.vm.Alike t.vm → post r u → B u t → H.size ≤ H1.size → (∀ q : Nat, q < H.size → ¬ A1 q → H1[q]? = H[q]?) → va_S A0 H0 H1 locs1 → W p l e R s m args below meth c H1 locs1 (cells + mc) (slots + ms) Q (F0 m (pc + 3) ls (.long r :: rest))) : W p l e R s m args below meth c H locs cells slots Q (F0 m pc ls st0) := by
  intro T hT X
  rcases hr T hT X with ⟨v, st₀, t, T', L, h0, X', hL, e1, e2, ⟨⟨r, u, hv, hp, hb⟩, hF⟩, st⟩ | ⟨q, st₀, t, T', L, E, ce, h0, X', hL, e1, e2, ⟨u, hp, hb, hF⟩, hce, hcv, hcl, st⟩
  · cases hv
    obtain ⟨k1, k2, k3⟩ := vx_keep h0 e1 hS hA hf hL hF
    obtain ⟨t2, a1, b1⟩ := kk r u t T'.heap (locs ++ L) e1.symm (by rw [← e2]; exact X'.warmed.alike) hp hb k1 k2 k3 T' rfl X'
    exact ⟨t2, st t2 a1, b1⟩
  · obtain ⟨k1, k2, k3⟩ := vx_keep h0 e1 hS hAX hf hL hF
    obtain ⟨t2, a1, b1⟩ := kx E ce q u t T'.heap (locs ++ L) e1.symm (by rw [← e2]; exact X'.warmed.alike) hp hb k1 k2 k3 (by rw [e1]; exact hce) hcv hcl T' rfl X'
    exact ⟨t2, st.trans a1, b1⟩
theorem vx_callf {S SX : Type} {post : UInt32 → S → Prop} {px : SX → Prop} {B : S → State → Prop} {BX : String → SX → State → Prop} {AX : Nat → Prop} (hr : vx_Run p l e R s m args below meth c H locs cells slots mc ms (F0 m pc ls st0) rest (va_Qf post B A1 a) (vx_X px BX AX) free) (hS : va_S A0 H0 H locs) (hA : ∀ q, q < H.size → A1 q → A0 q) (hf : ∀ q, free q → A0 q) (hAX : ∀ q, q < H.size → AX q → A0 q)
    (kx : ∀ (E : String) (ce : Cell) (q9 : Addr) (u : SX) (t : State) (H1 : Heap) (locs1 : List Loc), t.heap = H1 → s.vm.Alike t.vm → px u → BX E u t → H.size ≤ H1.size → (∀ q : Nat, q < H.size → ¬ AX q → H1[q]? = H[q]?) → va_S A0 H0 H1 locs1 → H1[q9]? = some ce → ce.vm = .none → s.vm.findClass E = some ce.cls → vx_W p l e R s m args below meth c H1 locs1 (cells + mc) (slots + ms) Q (F0 m pc ls rest) q9)
    (kk : ∀ (r : UInt32) (u : S) (t : State) (H1 : Heap) (locs1 : List Loc), t.heap = H1 → s.vm.Alike t.vm → post r u → B u t → H.size ≤ H1.size → (∀ q : Nat, q < H.size → ¬ A1 q → H1[q]? = H[q]?) → va_S A0 H0 H1 locs1 → W p l e R s m args below meth c H1 locs1 (cells + mc) (slots + ms) Q (F0 m (pc + 3) ls (.float r :: rest))) : W p l e R s m args below meth c H locs cells slots Q (F0 m pc ls st0) := by
  intro T hT X
  rcases hr T hT X with ⟨v, st₀, t, T', L, h0, X', hL, e1, e2, ⟨⟨r, u, hv, hp, hb⟩, hF⟩, st⟩ | ⟨q, st₀, t, T', L, E, ce, h0, X', hL, e1, e2, ⟨u, hp, hb, hF⟩, hce, hcv, hcl, st⟩
  · cases hv
    obtain ⟨k1, k2, k3⟩ := vx_keep h0 e1 hS hA hf hL hF
    obtain ⟨t2, a1, b1⟩ := kk r u t T'.heap (locs ++ L) e1.symm (by rw [← e2]; exact X'.warmed.alike) hp hb k1 k2 k3 T' rfl X'
    exact ⟨t2, st t2 a1, b1⟩
  · obtain ⟨k1, k2, k3⟩ := vx_keep h0 e1 hS hAX hf hL hF
    obtain ⟨t2, a1, b1⟩ := kx E ce q u t T'.heap (locs ++ L) e1.symm (by rw [← e2]; exact X'.warmed.alike) hp hb k1 k2 k3 (by rw [e1]; exact hce) hcv hcl T' rfl X'
    exact ⟨t2, st.trans a1, b1⟩
theorem vx_calld {S SX : Type} {post : UInt64 → S → Prop} {px : SX → Prop} {B : S → State → Prop} {BX : String → SX → State → Prop} {AX : Nat → Prop} (hr : vx_Run p l e R s m args below meth c H locs cells slots mc ms (F0 m pc ls st0) rest (va_Qd post B A1 a) (vx_X px BX AX) free) (hS : va_S A0 H0 H locs) (hA : ∀ q, q < H.size → A1 q → A0 q) (hf : ∀ q, free q → A0 q) (hAX : ∀ q, q < H.size → AX q → A0 q)
    (kx : ∀ (E : String) (ce : Cell) (q9 : Addr) (u : SX) (t : State) (H1 : Heap) (locs1 : List Loc), t.heap = H1 → s.vm.Alike t.vm → px u → BX E u t → H.size ≤ H1.size → (∀ q : Nat, q < H.size → ¬ AX q → H1[q]? = H[q]?) → va_S A0 H0 H1 locs1 → H1[q9]? = some ce → ce.vm = .none → s.vm.findClass E = some ce.cls → vx_W p l e R s m args below meth c H1 locs1 (cells + mc) (slots + ms) Q (F0 m pc ls rest) q9)
    (kk : ∀ (r : UInt64) (u : S) (t : State) (H1 : Heap) (locs1 : List Loc), t.heap = H1 → s.vm.Alike t.vm → post r u → B u t → H.size ≤ H1.size → (∀ q : Nat, q < H.size → ¬ A1 q → H1[q]? = H[q]?) → va_S A0 H0 H1 locs1 → W p l e R s m args below meth c H1 locs1 (cells + mc) (slots + ms) Q (F0 m (pc + 3) ls (.double r :: rest))) : W p l e R s m args below meth c H locs cells slots Q (F0 m pc ls st0) := by
  intro T hT X
  rcases hr T hT X with ⟨v, st₀, t, T', L, h0, X', hL, e1, e2, ⟨⟨r, u, hv, hp, hb⟩, hF⟩, st⟩ | ⟨q, st₀, t, T', L, E, ce, h0, X', hL, e1, e2, ⟨u, hp, hb, hF⟩, hce, hcv, hcl, st⟩
  · cases hv
    obtain ⟨k1, k2, k3⟩ := vx_keep h0 e1 hS hA hf hL hF
    obtain ⟨t2, a1, b1⟩ := kk r u t T'.heap (locs ++ L) e1.symm (by rw [← e2]; exact X'.warmed.alike) hp hb k1 k2 k3 T' rfl X'
    exact ⟨t2, st t2 a1, b1⟩
  · obtain ⟨k1, k2, k3⟩ := vx_keep h0 e1 hS hAX hf hL hF
    obtain ⟨t2, a1, b1⟩ := kx E ce q u t T'.heap (locs ++ L) e1.symm (by rw [← e2]; exact X'.warmed.alike) hp hb k1 k2 k3 (by rw [e1]; exact hce) hcv hcl T' rfl X'
    exact ⟨t2, st.trans a1, b1⟩
theorem vx_callv {S SX : Type} {post : S → Prop} {px : SX → Prop} {B : S → State → Prop} {BX : String → SX → State → Prop} {AX : Nat → Prop} (hr : vx_Run p l e R s m args below meth c H locs cells slots mc ms (F0 m pc ls st0) rest (va_Qv post B A1 a) (vx_X px BX AX) free) (hS : va_S A0 H0 H locs) (hA : ∀ q, q < H.size → A1 q → A0 q) (hf : ∀ q, free q → A0 q) (hAX : ∀ q, q < H.size → AX q → A0 q)
    (kx : ∀ (E : String) (ce : Cell) (q9 : Addr) (u : SX) (t : State) (H1 : Heap) (locs1 : List Loc), t.heap = H1 → s.vm.Alike t.vm → px u → BX E u t → H.size ≤ H1.size → (∀ q : Nat, q < H.size → ¬ AX q → H1[q]? = H[q]?) → va_S A0 H0 H1 locs1 → H1[q9]? = some ce → ce.vm = .none → s.vm.findClass E = some ce.cls → vx_W p l e R s m args below meth c H1 locs1 (cells + mc) (slots + ms) Q (F0 m pc ls rest) q9)
    (kk : ∀ (u : S) (t : State) (H1 : Heap) (locs1 : List Loc), t.heap = H1 → s.vm.Alike t.vm → post u → B u t → H.size ≤ H1.size → (∀ q : Nat, q < H.size → ¬ A1 q → H1[q]? = H[q]?) → va_S A0 H0 H1 locs1 → W p l e R s m args below meth c H1 locs1 (cells + mc) (slots + ms) Q (F0 m (pc + 3) ls (rest))) : W p l e R s m args below meth c H locs cells slots Q (F0 m pc ls st0) := by
  intro T hT X
  rcases hr T hT X with ⟨v, st₀, t, T', L, h0, X', hL, e1, e2, ⟨⟨u, hv, hp, hb⟩, hF⟩, st⟩ | ⟨q, st₀, t, T', L, E, ce, h0, X', hL, e1, e2, ⟨u, hp, hb, hF⟩, hce, hcv, hcl, st⟩
  · cases hv
    obtain ⟨k1, k2, k3⟩ := vx_keep h0 e1 hS hA hf hL hF
    obtain ⟨t2, a1, b1⟩ := kk u t T'.heap (locs ++ L) e1.symm (by rw [← e2]; exact X'.warmed.alike) hp hb k1 k2 k3 T' rfl X'
    exact ⟨t2, st t2 a1, b1⟩
  · obtain ⟨k1, k2, k3⟩ := vx_keep h0 e1 hS hAX hf hL hF
    obtain ⟨t2, a1, b1⟩ := kx E ce q u t T'.heap (locs ++ L) e1.symm (by rw [← e2]; exact X'.warmed.alike) hp hb k1 k2 k3 (by rw [e1]; exact hce) hcv hcl T' rfl X'
    exact ⟨t2, st.trans a1, b1⟩
/-- caught by the row x of this method's table; the rows ahead don't take it -/
theorem vx_catch {own name : String} {E : String} {ce : Cell} {q : Addr} (hown : s.vm.findClass own = some m.cls) (pre : List ExceptionTableEntry) (x : ExceptionTableEntry) (suf : List ExceptionTableEntry) (hsplit : c.exceptionTable.toList = pre ++ x :: suf)
    (hpass : ∀ z ∈ pre, covers z pc = false ∨ (z.catchType ≠ 0 ∧ ∃ nm : String, (Cond.classLink own z.catchType nm).before args s = true ∧ va_Nc E nm s)) (hx : covers x pc = true) (h0 : x.catchType ≠ 0)
    (hlink : (Cond.classLink own x.catchType name).before args s = true) (hcast : (Cond.castable E name).before args s = true) (hcell : H[q]? = some ce) (hv : ce.vm = .none) (hcl : s.vm.findClass E = some ce.cls)
    (kk : W p l e R s m args below meth c H locs cells slots Q (F0 m x.handlerPc ls [.ref q])) : vx_W p l e R s m args below meth c H locs cells slots Q (F0 m pc ls rest) q := by
  intro T hT X
  have hpl : e.platform.magicAccessors = ({} : Platform).magicAccessors := by rw [X.admits.platform]
  obtain ⟨c3, c4, hc3, hc4, hasg⟩ := Cond.castable_spec hcast
  cases Option.some.inj (hc3.symm.trans hcl)
  obtain ⟨c5, hc5, hcl5⟩ := Cond.classLink_spec hown hlink e.platform hpl
  cases Option.some.inj (hc4.symm.trans hc5)
  obtain ⟨vm', X', st⟩ := X.thenCaughtThrough q (g := F0 m pc ls rest) rfl (Steps.refl _) (by rw [hT]; exact hcell) (by rw [hv]; rfl) (by obtain ⟨k9, h9, -⟩ := Vm.findClass_spec hcl; exact ⟨k9, h9⟩) pre x suf hsplit
    (fun z hz => by
      rcases hpass z hz with h | ⟨hz0, nm, hl1, hn1⟩
      · exact Or.inl h
      · obtain ⟨c6, hc6, hcl6⟩ := Cond.classLink_spec hown hl1 e.platform hpl
        obtain ⟨a8, b8, h1, h2, h3⟩ := hn1
        cases Option.some.inj (h1.symm.trans hcl)
        cases Option.some.inj (h2.symm.trans hc6)
        exact Or.inr ⟨hz0, _, hcl6, h3⟩) hx (Or.inr ⟨h0, c4, hcl5, hasg⟩)
  obtain ⟨t, a1, b1⟩ := kk (T.setVm vm') hT X'
  exact ⟨t, st.trans a1, b1⟩
end Rows
section Ends
variable {p : Program} {l : Launch} {e : Env} {R : Room} {s : State} {m : MethodId} {args : Array Value} {below : List Frame} {meth : Method} {c : Code} {H : Heap} {locs : List Loc} {cells slots : Nat} {Q : State → Prop}
variable {mc ms : Nat} {free : Addr → Prop} {A0 A1 : Nat → Prop} {H0 : Heap} {a : Array Value} {ls : Array Slot} {st0 rest : List Value}
variable {Qc : Array Value → State → Outcome → State → Prop} {XC : String → State → State → Prop}
/-- what a body that may throw owes at its end -/
def vx_MQ (below : List Frame) (Qc : Array Value → State → Outcome → State → Prop) (XC : String → State → State → Prop) (a : Array Value) (s : State) (mc ms : Nat) (free : Addr → Prop) : State → Prop := fun t =>
  ∃ o, t.status = .running ∧ Ended t below o ∧ vx_Q Qc XC mc ms free a s o t
theorem vx_ret {g : JFrame} {mc ms : Nat} (k : W p l e R s m args below meth c H locs cells slots (MQ below Qc args s mc ms free) g) : W p l e R s m args below meth c H locs cells slots (vx_MQ below Qc XC args s mc ms free) g := by
  intro T hT X
  obtain ⟨t, a1, o, b1, b2, b3, b4⟩ := k T hT X
  exact ⟨t, a1, o, b1, b2, Or.inl ⟨b3, b4⟩⟩
/-- not caught here: it goes on to the caller -/
theorem vx_widen {g : JFrame} {q : Addr} {k n : Nat} (h1 : cells ≤ k) (h2 : slots ≤ n) (kk : vx_W p l e R s m args below meth c H locs k n Q g q) : vx_W p l e R s m args below meth c H locs cells slots Q g q := fun T hT X => kk T hT (stand_widen X h1 h2)
theorem vx_out {pc : Nat} {E : String} {ce : Cell} {q : Addr} {mc ms : Nat} (hout : ∀ x ∈ c.exceptionTable.toList, covers x pc = false) (hlocks : meth.locks = false) (hcell : H[q]? = some ce) (hv : ce.vm = .none) (hcl : s.vm.findClass E = some ce.cls)
    (hx : ∀ t : State, t.heap = H → s.vm.Alike t.vm → XC E s t) (hf : ∀ z ∈ locs, free z.base) (hc : cells ≤ mc) (hs : slots ≤ ms) :
    vx_W p l e R s m args below meth c H locs cells slots (vx_MQ below Qc XC args s mc ms free) (F0 m pc ls rest) q := by
  intro T hT X
  obtain ⟨st1, hrun, hend, hW, hsm⟩ := X.leaveThrown q (g := F0 m pc ls rest) rfl rfl rfl hout hlocks
  have hcell9 : (T.setFrames (.throwing q :: below)).heap[q]? = some ce := by
    show T.heap[q]? = some ce
    rw [hT]; exact hcell
  exact ⟨_, st1, .threw q, hrun, hend, Or.inr ⟨q, rfl, E, ce, locs, hx _ hT hW.alike, hcell9, hv, hcl, hW, hsm.mono hc hs, hf⟩⟩
theorem vx_frame {U : State} {k n : Nat} (h : s.sameButNew ({ U with vm := s.vm } : State) locs k n) : s.heap.size ≤ U.heap.size ∧ ∀ q : Nat, q < s.heap.size → (∀ z ∈ locs, z.base ≠ q) → U.heap[q]? = s.heap[q]? := by
  obtain ⟨-, h2, -, -, -, h6⟩ := h
  refine ⟨h2, fun q hq hz => ?_⟩
  obtain ⟨c9, e1, e2, e3, e4⟩ := h6 q _ (Array.getElem?_eq_getElem hq)
  have hs : c9.slots = (s.heap[q]).slots := Array.ext_getElem? fun i => e4 i fun hm => hz _ hm rfl
  have h9 : c9 = s.heap[q] := by
    rw [hs] at e2
    exact e2
  have e5 : U.heap[q]? = some c9 := e1
  rw [e5, h9, Array.getElem?_eq_getElem hq]
/-- the words of a throw but the four that speak of the heap -/
def vx_no (w : Cond) : Bool := decide (w ≠ .isRef (.static Bundle.tN "UNASSIGNED_STACK" Bundle.steD)) && decide (w ≠ .isRef (.static Bundle.tN "SUPPRESSED_SENTINEL" Bundle.listD)) && decide (w ≠ .laysStatic Bundle.tN "UNASSIGNED_STACK" Bundle.steD) && decide (w ≠ .laysStatic Bundle.tN "SUPPRESSED_SENTINEL" Bundle.listD)
def vx_at0 (own : String) (ic : Nat) (X : String) (names : List String) : List Cond := (Bundle.ownAtoms0 own ic X names).filter vx_no
def vx_atS (own : String) (ic : Nat) (X : String) (names : List String) : List Cond := (Bundle.ownAtoms own ic X names).filter vx_no
/-- a word that the tables alone decide, or a good one -/
def vx_ot (w : Cond) : Bool := w.onTables || goodWord w
theorem vx_ot_at {args a' : Array Value} {s U : State} {w : Cond} (hW : s.WarmedH U.vm) (hvm : s.vm = U.vm) (hg : vx_ot w = true) (h : w.before args s = true) : w.before a' U = true := by
  simp only [vx_ot, Bool.or_eq_true] at hg
  rcases hg with hg | hg
  · exact va_tabs hg hvm h
  · exact word_at hW (good_of_word hg) h
/-- a list's words: the good ones out of the method's own list, the others by premises of their own -/
theorem vx_hat {args : Array Value} {s : State} {L B : List Cond} (h1 : ∀ w ∈ L.filter goodWord, w.before args s = true) (h2 : ∀ w ∈ L.filter (fun w => !goodWord w), w ∈ B) (h3 : ∀ w ∈ B, w.before args s = true) : ∀ w ∈ L, w.before args s = true := by
  intro w hw
  by_cases g : goodWord w = true
  · exact h1 w (List.mem_filter.mpr ⟨hw, g⟩)
  · refine h3 w (h2 w (List.mem_filter.mpr ⟨hw, ?_⟩))
    show (!goodWord w) = true
    cases hgw : goodWord w
    · rfl
    · exact absurd hgw g
theorem vx_c {args : Array Value} {s : State} {w : Cond} {B : List Cond} (h : w.before args s = true) (t : ∀ w ∈ B, w.before args s = true) : ∀ w' ∈ w :: B, w'.before args s = true := fun w' h' => (List.mem_cons.mp h').elim (fun e => by rw [e]; exact h) (t w')
theorem vx_n {args : Array Value} {s : State} : ∀ w ∈ ([] : List Cond), w.before args s = true := fun _ h => nomatch h
theorem vx_own {args : Array Value} {s : State} {L : List Cond} (h1 : ∀ w ∈ L.filter vx_no, w.before args s = true)
    (hU : (Cond.isRef (.static Bundle.tN "UNASSIGNED_STACK" Bundle.steD)).before args s = true) (hN : (Cond.isRef (.static Bundle.tN "SUPPRESSED_SENTINEL" Bundle.listD)).before args s = true)
    (lU : (Cond.laysStatic Bundle.tN "UNASSIGNED_STACK" Bundle.steD).before args s = true) (lN : (Cond.laysStatic Bundle.tN "SUPPRESSED_SENTINEL" Bundle.listD).before args s = true) : ∀ w ∈ L, w.before args s = true := by
  intro w hw
  by_cases e1 : w = .isRef (.static Bundle.tN "UNASSIGNED_STACK" Bundle.steD)
  · rw [e1]; exact hU
  · by_cases e2 : w = .isRef (.static Bundle.tN "SUPPRESSED_SENTINEL" Bundle.listD)
    · rw [e2]; exact hN
    · by_cases e3 : w = .laysStatic Bundle.tN "UNASSIGNED_STACK" Bundle.steD
      · rw [e3]; exact lU
      · by_cases e4 : w = .laysStatic Bundle.tN "SUPPRESSED_SENTINEL" Bundle.listD
        · rw [e4]; exact lN
        · exact h1 w (List.mem_filter.mpr ⟨hw, by unfold vx_no; rw [decide_eq_true e1, decide_eq_true e2, decide_eq_true e3, decide_eq_true e4]; rfl⟩)
/-- where a static field lies, its class's statics cell in H -/
def vx_L (C n d : String) (A : Nat → Prop) (U : State) (H : Heap) : Prop := ∃ (c : ClassId) (k : Class) (i : Nat) (f : Field) (a : Nat) (cell : Cell), U.vm.findClass C = some c ∧ U.fieldFound? C n d = some (c, k, i, f) ∧ f.isStatic = true ∧ k.statics = some a ∧ H[a]? = some cell ∧ cell.vm.isStatics = true ∧ cell.cls = c ∧ f.slot < cell.slots.size ∧ k.staticTypes[f.slot]? = some f.type ∧ ¬ A a
theorem vx_L.moved {C n d : String} {A : Nat → Prop} {u U : State} {H : Heap} (hvm : u.vm.Alike U.vm) (h : vx_L C n d A u H) : vx_L C n d A U H := by
  obtain ⟨c, k, i, f, a, cell, h1, h2, h3, h4, h5, h6, h7, h8, h9, h10⟩ := h
  obtain ⟨k', hi', he⟩ := State.fieldFound?_setVm hvm h2
  exact ⟨c, k', i, f, a, cell, by rw [hvm.findClass]; exact h1, hi', h3, by rw [he]; exact h4, h5, h6, h7, h8, by rw [he]; exact h9, h10⟩
theorem vx_L.kept {C n d : String} {A : Nat → Prop} {U : State} {H H1 : Heap} (h : vx_L C n d A U H) (hq : ∀ a : Nat, a < H.size → ¬ A a → H1[a]? = H[a]?) : vx_L C n d A U H1 := by
  obtain ⟨c, k, i, f, a, cell, h1, h2, h3, h4, h5, h6, h7, h8, h9, h10⟩ := h
  exact ⟨c, k, i, f, a, cell, h1, h2, h3, h4, by rw [hq a (Array.getElem?_eq_some_iff.mp h5).1 h10]; exact h5, h6, h7, h8, h9, h10⟩
theorem vx_L.narrow {C n d : String} {A B : Nat → Prop} {U : State} {H : Heap} (h : vx_L C n d A U H) (hAB : ∀ q, B q → A q) : vx_L C n d B U H := by
  obtain ⟨c, k, i, f, a, cell, h1, h2, h3, h4, h5, h6, h7, h8, h9, h10⟩ := h
  exact ⟨c, k, i, f, a, cell, h1, h2, h3, h4, h5, h6, h7, h8, h9, fun z => h10 (hAB _ z)⟩
theorem vx_L.word {C n d : String} {A : Nat → Prop} {s : State} {args : Array Value} (h : vx_L C n d A s s.heap) : (Cond.laysStatic C n d).before args s = true := by
  obtain ⟨c, k, i, f, a, cell, h1, h2, h3, h4, h5, h6, h7, h8, h9, -⟩ := h
  show (Cond.laysStatic C n d).holds args s none s [] = true
  exact Cond.laysStatic_of h1 h2 h3 h4 h5 h6 h7 h8 h9
/-- .. and what it holds: null or some reference -/
def vx_Zq (C n d : String) (A : Nat → Prop) (U : State) (H : Heap) : Prop := va_Zq C n d A U H ∧ vx_L C n d A U H
theorem vx_Zq.moved {C n d : String} {A : Nat → Prop} {u U : State} {H : Heap} (hvm : u.vm.Alike U.vm) (h : vx_Zq C n d A u H) : vx_Zq C n d A U H := ⟨va_Zq.moved hvm h.1, vx_L.moved hvm h.2⟩
theorem vx_Zq.kept {C n d : String} {A : Nat → Prop} {U : State} {H H1 : Heap} (h : vx_Zq C n d A U H) (hq : ∀ a : Nat, a < H.size → ¬ A a → H1[a]? = H[a]?) : vx_Zq C n d A U H1 := ⟨va_Zq.kept h.1 hq, vx_L.kept h.2 hq⟩
theorem vx_Zq.narrow {C n d : String} {A B : Nat → Prop} {U : State} {H : Heap} (h : vx_Zq C n d A U H) (hAB : ∀ q, B q → A q) : vx_Zq C n d B U H := ⟨va_Zq.narrow h.1 hAB, vx_L.narrow h.2 hAB⟩
theorem vx_Zqof {args : Array Value} {s : State} {C n d : String} {A : Nat → Prop} (hl : (Cond.laysStatic C n d).before args s = true) (hini : (Cond.initialized C).before args s = true) (h : (Cond.isRef (.static C n d)).before args s = true) (hA : ∀ a : Nat, a < s.heap.size → ¬ A a) : vx_Zq C n d A s s.heap := by
  refine ⟨va_Zqof hl hini h hA, ?_⟩
  obtain ⟨c, k, i, f, a, cell, h1, h2, h3, h4, h5, h6, h7, h8, h9⟩ := Cond.laysStatic_spec hl
  exact ⟨c, k, i, f, a, cell, h1, h2, h3, h4, h5, h6, h7, h8, h9, hA a (Array.getElem?_eq_some_iff.mp h5).1⟩
theorem vx_isRef {C n d : String} {v : Value} {A : Nat → Prop} {s : State} {args : Array Value} (h : va_Z C n d v A s s.heap) (hv : v.isRef = true) : (Cond.isRef (.static C n d)).before args s = true := by
  obtain ⟨cf, kf, fi, f, a, cell, h1, h2, h3, h4, h5, h6, h7, -⟩ := h
  have he : (Term.static C n d).eval args s none [] s = some v := by
    simp [Term.eval, State.fieldNamed?, h1, h2, h4, h5, h6, h7]
  simp only [Cond.before, Cond.holds, Cond.value, he]
  cases v <;> simp_all [Value.isRef]
theorem vx_isRefq {C n d : String} {A : Nat → Prop} {s : State} {args : Array Value} (h : va_Zq C n d A s s.heap) : (Cond.isRef (.static C n d)).before args s = true := by
  rcases h with h | ⟨t, h⟩
  · exact vx_isRef h rfl
  · exact vx_isRef h rfl
/-- the same frame, seen from here: as if the method were called anew in this heap -/
theorem vx_rebase {T : State} (X : Stand p l e R s m args below meth c T locs cells slots) {R' : Room} (hf : R'.frames ≤ R.frames) (hl : R'.locals ≤ R.locals) (hc : cells + R'.cells ≤ R.cells) (hs : slots + R'.slots ≤ R.slots) :
    Stand p l e R' ((T.setVm s.vm).setFrames (.invoking m args :: below)) m args below meth c T [] 0 0 := by
  have htop : (T.setVm s.vm).topJava?.isSome := X.here.top
  have hF : ((T.setVm s.vm).setFrames (.invoking m args :: below)).frames = .invoking m args :: below := State.frames_setFrames _ (State.cur_lt_of_top htop)
  obtain ⟨g₀, hg0⟩ := Option.isSome_iff_exists.mp htop
  obtain ⟨r, hr⟩ := State.topJava?_eq_some.mp hg0
  have hl9 : e.platform.stackLimits (T.setVm s.vm).me = e.platform.stackLimits s.me := X.limits
  have hb9 : (T.setVm s.vm).me.stackBytes = s.me.stackBytes := X.bytes
  refine ⟨X.admits, X.cas, X.clock, hF, ?_, X.hears, X.method, X.code, X.here, X.tail, X.warmed, ?_, ?_, ?_⟩
  · have h := X.room
    have hU : ((T.setVm s.vm).setFrames (.invoking m args :: below)).localsInUse = s.localsInUse := by
      rw [State.localsInUse_invoking hF (meth := meth) (c := c) X.method X.code, State.localsInUse_invoking X.frames X.method X.code]
    simp only [State.hasRoom, Bool.and_eq_true, decide_eq_true_eq] at h ⊢
    obtain ⟨⟨⟨⟨h1, h2, h3, h4, h5, h6⟩, h7⟩, h8⟩, h9⟩ := h
    rw [X.frames, List.length_cons] at h2 h3
    have q1 := X.heapSize
    have q2 := X.used
    simp only [hF, hU, List.length_cons, State.stackLimits_setFrames, State.stackBytes_setFrames, hl9, hb9]
    refine ⟨⟨⟨⟨by omega, by omega, by omega, by omega, by omega, h6⟩, ?_⟩, ?_⟩, X.book⟩
    · show T.heap.size + R'.cells ≤ e.platform.maxCells
      omega
    · show T.slotsUsed + R'.slots ≤ e.platform.maxSlots
      omega
  · rw [State.stackLimits_setFrames]; rfl
  · rw [State.stackBytes_setFrames]; rfl
  · refine ⟨?_, Nat.le_refl _, Nat.le_refl _, ?_, ?_, fun a c9 h9 => ⟨c9, h9, rfl, rfl, fun _ _ => rfl⟩⟩
    · obtain ⟨t, ht, -⟩ := State.frames_cons hr
      show T.setVm s.vm = { ((T.setVm s.vm).setFrames (.invoking m args :: below)).setFrames (T.setVm s.vm).frames with heap := T.heap, slotsUsed := T.slotsUsed }
      rw [State.setFrames_setFrames, State.setFrames_self ht]
      rfl
    · show T.slotsUsed = T.slotsUsed + ((T.heap.toList.drop T.heap.size).map (·.slots.size)).sum
      rw [List.drop_eq_nil_of_le (Nat.le_of_eq Array.length_toList)]
      rfl
    · show ((T.heap.toList.drop T.heap.size).map (·.slots.size)).sum ≤ 0
      rw [List.drop_eq_nil_of_le (Nat.le_of_eq Array.length_toList)]
      exact Nat.le_refl _
/-- 'throw new E()': new; dup; invokespecial; athrow -/
theorem vx_throw0 {cc : ByteArray} {pc : Nat} (hexec : p.tables.exec = Jvm.exec) (hb : c.code = cc) (hl : l.stackTraces = false) {own cls : String} {names : List String} {ik ic mc ms : Nat} {A : Nat → Prop}
    (hown : s.vm.findClass own = some m.cls) (hcls : Bundle.fit cls = true) (hnames : ∀ n ∈ names, Bundle.fit n = true)
    (hk : (Cond.classLink own ik cls).before args s = true) (hini : (Cond.initialized cls).before args s = true) (hat : ∀ w ∈ vx_at0 own ic cls names, w.before args s = true)
    (hgood : ∀ w ∈ Cond.classLink own ik cls :: Cond.initialized cls :: vx_at0 own ic cls names, vx_ot w = true)
    (hU : vx_Zq Bundle.tN "UNASSIGNED_STACK" Bundle.steD A s s.heap) (hN : vx_Zq Bundle.tN "SUPPRESSED_SENTINEL" Bundle.listD A s s.heap) (hS : va_S A s.heap H locs) (hsize : ls.size = c.maxLocals)
    (d0 : decode cc pc = .ok (.new ik, 3)) (d3 : decode cc (pc + 3) = .ok (.dup, 1)) (d4 : decode cc (pc + 4) = .ok (.invokespecial ic, 3)) (d7 : decode cc (pc + 7) = .ok (.athrow, 1))
    (hout : ∀ x ∈ c.exceptionTable.toList, covers x (pc + 7) = false)
    (hRframes : names.length + 3 < R.frames) (hRlocals : (rest.map fun v => v.category).sum + (13 * (names.length + 1) + 42) ≤ R.locals) (hRcells : cells + 1 ≤ R.cells) (hRslots : slots + 6 ≤ R.slots) (hlocks : meth.locks = false)
    (hx : ∀ t : State, s.vm.Alike t.vm → H.size ≤ t.heap.size → (∀ q : Nat, q < H.size → t.heap[q]? = H[q]?) → XC cls s t)
    (hf : ∀ z ∈ locs, free z.base) (hc : cells + 1 ≤ mc) (hs : slots + 6 ≤ ms) :
    W p l e R s m args below meth c H locs cells slots (vx_MQ below Qc XC args s mc ms free) (F0 m pc ls rest) := by
  intro T hT X
  have htr : e.platform.stackTraces = false := (show e.platform.stackTraces = l.stackTraces by rw [X.admits.platform]).trans hl
  have Y := vx_rebase X (R' := { frames := R.frames, locals := R.locals, cells := 1, slots := 6 }) (Nat.le_refl _) (Nat.le_refl _) hRcells hRslots
  obtain ⟨s', hA⟩ : ∃ z, z = (T.setVm s.vm).setFrames (.invoking m args :: below) := ⟨_, rfl⟩
  rw [← hA] at Y
  have hvm : s'.vm = s.vm := by rw [hA]; rfl
  have hhp : s'.heap = H := by rw [hA]; exact hT
  have hW0 : s.WarmedH s'.vm := by rw [hvm]; exact State.WarmedH.refl s
  have hat' : ∀ w ∈ vx_at0 own ic cls names, w.before args s' = true := fun w hw => vx_ot_at hW0 hvm.symm (hgood w (List.mem_cons_of_mem _ (List.mem_cons_of_mem _ hw))) (hat w hw)
  have hk' : (Cond.classLink own ik cls).before args s' = true := vx_ot_at hW0 hvm.symm (hgood _ List.mem_cons_self) hk
  have hini' : (Cond.initialized cls).before args s' = true := vx_ot_at hW0 hvm.symm (hgood _ (List.mem_cons_of_mem _ List.mem_cons_self)) hini
  have hU' : vx_Zq Bundle.tN "UNASSIGNED_STACK" Bundle.steD A s' s'.heap := by rw [hhp]; exact vx_Zq.moved hW0.alike (hU.kept hS.2.1)
  have hN' : vx_Zq Bundle.tN "SUPPRESSED_SENTINEL" Bundle.listD A s' s'.heap := by rw [hhp]; exact vx_Zq.moved hW0.alike (hN.kept hS.2.1)
  have h : ∀ w ∈ Bundle.ownAtoms0 own ic cls names, w.before args s' = true := vx_own hat' (vx_isRefq hU'.1) (vx_isRefq hN'.1) hU'.2.word hN'.2.word
  have hown' : s'.vm.findClass own = some m.cls := by rw [hvm]; exact hown
  have hins : (Cond.instantiable cls 6).before args s' = true := h _ (by simp [Bundle.ownAtoms0])
  obtain ⟨vm₁, cX, kX, hfX, hkX, -, -, X₁, st1⟩ := Y.newCold hexec (own := own) (C := cls) (index := ik) (n := 6) hown' hk' hins hini'
    (g := F0 m pc ls rest) rfl (by rw [hb]; exact d0) (Nat.le_refl _) (Nat.le_refl _)
  generalize hT1 : (T.setVm vm₁).pushCell { cls := cX, slots := kX.instanceTypes.map defaultValue, vm := .none } = T1 at X₁ st1
  have hcat : (Value.ref T.heap.size).category = 1 := rfl
  have hcellA : T1.heap[T.heap.size]? = some (freshCell cX kX) := by rw [← hT1]; exact State.heap_pushCell_size _ _
  have d3' : decode c.code (pc + 3) = .ok (.dup, 1) := by rw [hb]; exact d3
  obtain ⟨U, hsteps, hrun, hend, hW, hsame, ce, hce, hO⟩ := X₁.ctorThrow0 hexec htr (own := own) (cls := cls) (names := names) (ic := ic) hown' hcls hnames h (fun x hx => nomatch hx) hfX hkX hcellA (by rw [hhp, hT]; exact Nat.le_refl _)
    (g := { method := m, pc := pc + 4, locals := ls, stack := .ref T.heap.size :: .ref T.heap.size :: rest, locked := none }) rfl hsize rfl rfl (rest := rest) rfl
    (by rw [hb]; exact d4) (by rw [hb]; exact d7) hout hRframes (by simp only [List.map_cons, List.sum_cons, hcat]; omega) hlocks
  obtain ⟨f1, f2⟩ := vx_frame hsame
  rw [hhp] at f1 f2
  have hWs : s.WarmedH U.vm := State.WarmedH.trans hW0 hW
  have hcl : s.vm.findClass cls = some ce.cls := by
    have h9 := hO.cls
    rw [hvm] at h9
    exact h9
  have hall : s.sameButNew ({ U with vm := s.vm } : State) locs mc ms := by
    subst hA
    obtain ⟨e1, e2⟩ := hsame
    rw [State.setFrames_setFrames] at e1
    have h2 : (T.setVm s.vm).sameButNew ({ U with vm := s.vm } : State) [] (0 + 1) (0 + 6) := ⟨e1, e2⟩
    have h3 := X.same.trans h2
    rw [List.append_nil] at h3
    exact h3.mono hc hs
  refine ⟨U, ?_, .threw T.heap.size, hrun, hend, Or.inr ⟨T.heap.size, rfl, cls, ce, locs, hx U hWs.alike f1 (fun q hq => f2 q hq (fun z hz => nomatch hz)), hce, hO.vm, hcl, hWs, hall, hf⟩⟩
  refine st1 _ ?_
  show Steps p.tables e below (T1.setTop { method := m, pc := pc + 3, locals := ls, stack := .ref T.heap.size :: rest, locked := none }) _
  jvm_step X₁.here [X₁.here.top, hexec, d3', Value.category]
  exact hsteps
/-- 'throw new E("text")': new; dup; ldc; invokespecial; athrow -/
theorem vx_throwS {cc : ByteArray} {pc : Nat} (hexec : p.tables.exec = Jvm.exec) (hb : c.code = cc) (hl : l.stackTraces = false) {own cls text : String} {names : List String} {ik is ic mc ms sa : Nat} {A : Nat → Prop}
    (hown : s.vm.findClass own = some m.cls) (hcls : Bundle.fit cls = true) (hnames : ∀ n ∈ names, Bundle.fit n = true)
    (hk : (Cond.classLink own ik cls).before args s = true) (hini : (Cond.initialized cls).before args s = true) (hstr : vk_R own is text sa s) (hat : ∀ w ∈ vx_atS own ic cls names, w.before args s = true)
    (hgood : ∀ w ∈ Cond.classLink own ik cls :: Cond.initialized cls :: vx_atS own ic cls names, vx_ot w = true)
    (hU : vx_Zq Bundle.tN "UNASSIGNED_STACK" Bundle.steD A s s.heap) (hN : vx_Zq Bundle.tN "SUPPRESSED_SENTINEL" Bundle.listD A s s.heap) (hS : va_S A s.heap H locs) (hsize : ls.size = c.maxLocals)
    (d0 : decode cc pc = .ok (.new ik, 3)) (d3 : decode cc (pc + 3) = .ok (.dup, 1)) (d4 : decode cc (pc + 4) = .ok (.ldc is, 2)) (d6 : decode cc (pc + 6) = .ok (.invokespecial ic, 3)) (d9 : decode cc (pc + 9) = .ok (.athrow, 1))
    (hout : ∀ x ∈ c.exceptionTable.toList, covers x (pc + 9) = false)
    (hRframes : names.length + 3 < R.frames) (hRlocals : (rest.map fun v => v.category).sum + (13 * (names.length + 1) + 43) ≤ R.locals) (hRcells : cells + 1 ≤ R.cells) (hRslots : slots + 6 ≤ R.slots) (hlocks : meth.locks = false)
    (hx : ∀ t : State, s.vm.Alike t.vm → H.size ≤ t.heap.size → (∀ q : Nat, q < H.size → t.heap[q]? = H[q]?) → XC cls s t)
    (hf : ∀ z ∈ locs, free z.base) (hc : cells + 1 ≤ mc) (hs : slots + 6 ≤ ms) :
    W p l e R s m args below meth c H locs cells slots (vx_MQ below Qc XC args s mc ms free) (F0 m pc ls rest) := by
  intro T hT X
  have htr : e.platform.stackTraces = false := (show e.platform.stackTraces = l.stackTraces by rw [X.admits.platform]).trans hl
  have Y := vx_rebase X (R' := { frames := R.frames, locals := R.locals, cells := 1, slots := 6 }) (Nat.le_refl _) (Nat.le_refl _) hRcells hRslots
  obtain ⟨s', hA⟩ : ∃ z, z = (T.setVm s.vm).setFrames (.invoking m args :: below) := ⟨_, rfl⟩
  rw [← hA] at Y
  have hvm : s'.vm = s.vm := by rw [hA]; rfl
  have hhp : s'.heap = H := by rw [hA]; exact hT
  have hW0 : s.WarmedH s'.vm := by rw [hvm]; exact State.WarmedH.refl s
  have hat' : ∀ w ∈ vx_atS own ic cls names, w.before args s' = true := fun w hw => vx_ot_at hW0 hvm.symm (hgood w (List.mem_cons_of_mem _ (List.mem_cons_of_mem _ hw))) (hat w hw)
  have hk' : (Cond.classLink own ik cls).before args s' = true := vx_ot_at hW0 hvm.symm (hgood _ List.mem_cons_self) hk
  have hini' : (Cond.initialized cls).before args s' = true := vx_ot_at hW0 hvm.symm (hgood _ (List.mem_cons_of_mem _ List.mem_cons_self)) hini
  have hU' : vx_Zq Bundle.tN "UNASSIGNED_STACK" Bundle.steD A s' s'.heap := by rw [hhp]; exact vx_Zq.moved hW0.alike (hU.kept hS.2.1)
  have hN' : vx_Zq Bundle.tN "SUPPRESSED_SENTINEL" Bundle.listD A s' s'.heap := by rw [hhp]; exact vx_Zq.moved hW0.alike (hN.kept hS.2.1)
  have h : ∀ w ∈ Bundle.ownAtoms own ic cls names, w.before args s' = true := vx_own hat' (vx_isRefq hU'.1) (vx_isRefq hN'.1) hU'.2.word hN'.2.word
  have hown' : s'.vm.findClass own = some m.cls := by rw [hvm]; exact hown
  have hins : (Cond.instantiable cls 6).before args s' = true := h _ (by simp [Bundle.ownAtoms])
  obtain ⟨vm₁, cX, kX, hfX, hkX, -, -, X₁, st1⟩ := Y.newCold hexec (own := own) (C := cls) (index := ik) (n := 6) hown' hk' hins hini'
    (g := F0 m pc ls rest) rfl (by rw [hb]; exact d0) (Nat.le_refl _) (Nat.le_refl _)
  generalize hT1 : (T.setVm vm₁).pushCell { cls := cX, slots := kX.instanceTypes.map defaultValue, vm := .none } = T1 at X₁ st1
  have hcat : (Value.ref T.heap.size).category = 1 := rfl
  have hcellA : T1.heap[T.heap.size]? = some (freshCell cX kX) := by rw [← hT1]; exact State.heap_pushCell_size _ _
  have d3' : decode c.code (pc + 3) = .ok (.dup, 1) := by rw [hb]; exact d3
  have d4' : decode c.code (pc + 4) = .ok (.ldc is, 2) := by rw [hb]; exact d4
  have hstr' : vk_R own is text sa s' := vk_R.warm hW0 hstr
  obtain ⟨U, hsteps, hrun, hend, hW, hsame, ce, hce, hO⟩ := X₁.ctorThrowS hexec htr (own := own) (cls := cls) (names := names) (ic := ic) hown' hcls hnames h (fun x hx => nomatch hx) hfX hkX hcellA (by rw [hhp, hT]; exact Nat.le_refl _) (msg := .ref sa) rfl
    (g := { method := m, pc := pc + 6, locals := ls, stack := .ref sa :: .ref T.heap.size :: .ref T.heap.size :: rest, locked := none }) rfl hsize rfl rfl (rest := rest) rfl
    (by rw [hb]; exact d6) (by rw [hb]; exact d9) hout hRframes (by simp only [List.map_cons, List.sum_cons, hcat]; omega) hlocks
  obtain ⟨f1, f2⟩ := vx_frame hsame
  rw [hhp] at f1 f2
  have hWs : s.WarmedH U.vm := State.WarmedH.trans hW0 hW
  have hcl : s.vm.findClass cls = some ce.cls := by
    have h9 := hO.cls
    rw [hvm] at h9
    exact h9
  have hall : s.sameButNew ({ U with vm := s.vm } : State) locs mc ms := by
    subst hA
    obtain ⟨e1, e2⟩ := hsame
    rw [State.setFrames_setFrames] at e1
    have h2 : (T.setVm s.vm).sameButNew ({ U with vm := s.vm } : State) [] (0 + 1) (0 + 6) := ⟨e1, e2⟩
    have h3 := X.same.trans h2
    rw [List.append_nil] at h3
    exact h3.mono hc hs
  refine ⟨U, ?_, .threw T.heap.size, hrun, hend, Or.inr ⟨T.heap.size, rfl, cls, ce, locs, hx U hWs.alike f1 (fun q hq => f2 q hq (fun z hz => nomatch hz)), hce, hO.vm, hcl, hWs, hall, hf⟩⟩
  refine st1 _ ?_
  show Steps p.tables e below (T1.setTop { method := m, pc := pc + 3, locals := ls, stack := .ref T.heap.size :: rest, locked := none }) _
  jvm_step X₁.here [X₁.here.top, hexec, d3', Value.category]
  exact X₁.ldcString hexec (own := own) (text := text) (index := is) (a := sa) hown' hstr'.1 hstr'.2
    (g := { method := m, pc := pc + 4, locals := ls, stack := .ref T.heap.size :: .ref T.heap.size :: rest, locked := none }) rfl d4' _ hsteps
/-- 'throw new E("text")', the text by a wide index -/
theorem vx_throwSW {cc : ByteArray} {pc : Nat} (hexec : p.tables.exec = Jvm.exec) (hb : c.code = cc) (hl : l.stackTraces = false) {own cls text : String} {names : List String} {ik is ic mc ms sa : Nat} {A : Nat → Prop}
    (hown : s.vm.findClass own = some m.cls) (hcls : Bundle.fit cls = true) (hnames : ∀ n ∈ names, Bundle.fit n = true)
    (hk : (Cond.classLink own ik cls).before args s = true) (hini : (Cond.initialized cls).before args s = true) (hstr : vk_R own is text sa s) (hat : ∀ w ∈ vx_atS own ic cls names, w.before args s = true)
    (hgood : ∀ w ∈ Cond.classLink own ik cls :: Cond.initialized cls :: vx_atS own ic cls names, vx_ot w = true)
    (hU : vx_Zq Bundle.tN "UNASSIGNED_STACK" Bundle.steD A s s.heap) (hN : vx_Zq Bundle.tN "SUPPRESSED_SENTINEL" Bundle.listD A s s.heap) (hS : va_S A s.heap H locs) (hsize : ls.size = c.maxLocals)
    (d0 : decode cc pc = .ok (.new ik, 3)) (d3 : decode cc (pc + 3) = .ok (.dup, 1)) (d4 : decode cc (pc + 4) = .ok (.ldc_w is, 3)) (d7 : decode cc (pc + 7) = .ok (.invokespecial ic, 3)) (d10 : decode cc (pc + 10) = .ok (.athrow, 1))
    (hout : ∀ x ∈ c.exceptionTable.toList, covers x (pc + 10) = false)
    (hRframes : names.length + 3 < R.frames) (hRlocals : (rest.map fun v => v.category).sum + (13 * (names.length + 1) + 43) ≤ R.locals) (hRcells : cells + 1 ≤ R.cells) (hRslots : slots + 6 ≤ R.slots) (hlocks : meth.locks = false)
    (hx : ∀ t : State, s.vm.Alike t.vm → H.size ≤ t.heap.size → (∀ q : Nat, q < H.size → t.heap[q]? = H[q]?) → XC cls s t)
    (hf : ∀ z ∈ locs, free z.base) (hc : cells + 1 ≤ mc) (hs : slots + 6 ≤ ms) :
    W p l e R s m args below meth c H locs cells slots (vx_MQ below Qc XC args s mc ms free) (F0 m pc ls rest) := by
  intro T hT X
  have htr : e.platform.stackTraces = false := (show e.platform.stackTraces = l.stackTraces by rw [X.admits.platform]).trans hl
  have Y := vx_rebase X (R' := { frames := R.frames, locals := R.locals, cells := 1, slots := 6 }) (Nat.le_refl _) (Nat.le_refl _) hRcells hRslots
  obtain ⟨s', hA⟩ : ∃ z, z = (T.setVm s.vm).setFrames (.invoking m args :: below) := ⟨_, rfl⟩
  rw [← hA] at Y
  have hvm : s'.vm = s.vm := by rw [hA]; rfl
  have hhp : s'.heap = H := by rw [hA]; exact hT
  have hW0 : s.WarmedH s'.vm := by rw [hvm]; exact State.WarmedH.refl s
  have hat' : ∀ w ∈ vx_atS own ic cls names, w.before args s' = true := fun w hw => vx_ot_at hW0 hvm.symm (hgood w (List.mem_cons_of_mem _ (List.mem_cons_of_mem _ hw))) (hat w hw)
  have hk' : (Cond.classLink own ik cls).before args s' = true := vx_ot_at hW0 hvm.symm (hgood _ List.mem_cons_self) hk
  have hini' : (Cond.initialized cls).before args s' = true := vx_ot_at hW0 hvm.symm (hgood _ (List.mem_cons_of_mem _ List.mem_cons_self)) hini
  have hU' : vx_Zq Bundle.tN "UNASSIGNED_STACK" Bundle.steD A s' s'.heap := by rw [hhp]; exact vx_Zq.moved hW0.alike (hU.kept hS.2.1)
  have hN' : vx_Zq Bundle.tN "SUPPRESSED_SENTINEL" Bundle.listD A s' s'.heap := by rw [hhp]; exact vx_Zq.moved hW0.alike (hN.kept hS.2.1)
  have h : ∀ w ∈ Bundle.ownAtoms own ic cls names, w.before args s' = true := vx_own hat' (vx_isRefq hU'.1) (vx_isRefq hN'.1) hU'.2.word hN'.2.word
  have hown' : s'.vm.findClass own = some m.cls := by rw [hvm]; exact hown
  have hins : (Cond.instantiable cls 6).before args s' = true := h _ (by simp [Bundle.ownAtoms])
  obtain ⟨vm₁, cX, kX, hfX, hkX, -, -, X₁, st1⟩ := Y.newCold hexec (own := own) (C := cls) (index := ik) (n := 6) hown' hk' hins hini'
    (g := F0 m pc ls rest) rfl (by rw [hb]; exact d0) (Nat.le_refl _) (Nat.le_refl _)
  generalize hT1 : (T.setVm vm₁).pushCell { cls := cX, slots := kX.instanceTypes.map defaultValue, vm := .none } = T1 at X₁ st1
  have hcat : (Value.ref T.heap.size).category = 1 := rfl
  have hcellA : T1.heap[T.heap.size]? = some (freshCell cX kX) := by rw [← hT1]; exact State.heap_pushCell_size _ _
  have d3' : decode c.code (pc + 3) = .ok (.dup, 1) := by rw [hb]; exact d3
  have d4' : decode c.code (pc + 4) = .ok (.ldc_w is, 3) := by rw [hb]; exact d4
  have hstr' : vk_R own is text sa s' := vk_R.warm hW0 hstr
  obtain ⟨U, hsteps, hrun, hend, hW, hsame, ce, hce, hO⟩ := X₁.ctorThrowS hexec htr (own := own) (cls := cls) (names := names) (ic := ic) hown' hcls hnames h (fun x hx => nomatch hx) hfX hkX hcellA (by rw [hhp, hT]; exact Nat.le_refl _) (msg := .ref sa) rfl
    (g := { method := m, pc := pc + 7, locals := ls, stack := .ref sa :: .ref T.heap.size :: .ref T.heap.size :: rest, locked := none }) rfl hsize rfl rfl (rest := rest) rfl
    (by rw [hb]; exact d7) (by rw [hb]; exact d10) hout hRframes (by simp only [List.map_cons, List.sum_cons, hcat]; omega) hlocks
  obtain ⟨f1, f2⟩ := vx_frame hsame
  rw [hhp] at f1 f2
  have hWs : s.WarmedH U.vm := State.WarmedH.trans hW0 hW
  have hcl : s.vm.findClass cls = some ce.cls := by
    have h9 := hO.cls
    rw [hvm] at h9
    exact h9
  have hall : s.sameButNew ({ U with vm := s.vm } : State) locs mc ms := by
    subst hA
    obtain ⟨e1, e2⟩ := hsame
    rw [State.setFrames_setFrames] at e1
    have h2 : (T.setVm s.vm).sameButNew ({ U with vm := s.vm } : State) [] (0 + 1) (0 + 6) := ⟨e1, e2⟩
    have h3 := X.same.trans h2
    rw [List.append_nil] at h3
    exact h3.mono hc hs
  refine ⟨U, ?_, .threw T.heap.size, hrun, hend, Or.inr ⟨T.heap.size, rfl, cls, ce, locs, hx U hWs.alike f1 (fun q hq => f2 q hq (fun z hz => nomatch hz)), hce, hO.vm, hcl, hWs, hall, hf⟩⟩
  refine st1 _ ?_
  show Steps p.tables e below (T1.setTop { method := m, pc := pc + 3, locals := ls, stack := .ref T.heap.size :: rest, locked := none }) _
  jvm_step X₁.here [X₁.here.top, hexec, d3', Value.category]
  exact X₁.ldcStringW hexec (own := own) (text := text) (index := is) (a := sa) hown' hstr'.1 hstr'.2
    (g := { method := m, pc := pc + 4, locals := ls, stack := .ref T.heap.size :: .ref T.heap.size :: rest, locked := none }) rfl d4' _ hsteps
end Ends
section Bodies
variable {l : Launch}
theorem vx_ofW {y : MethodName} {ws ws' : List Cond} {rm : Room} {Pc : Array Value → State → Prop} {Qc : Array Value → State → Outcome → State → Prop} {XC : String → State → State → Prop} {mc ms : Nat} {free : Addr → Prop} {cc : ByteArray} {maxL : Nat} {ret : Option FieldType}
    (hy : plainName y.cls = true) (hw : ws = Cond.code y cc maxL ret :: ws')
    (body : ∀ p e s m args below meth c s₁, BodyLoose p l y (headSpec ws rm) cc maxL ret e s m args below meth c s₁ → c.maxLocals = maxL → (∀ x ∈ c.exceptionTable.toList, False) → Pc args s →
      W p l e (headSpec ws rm).room s m args below meth c s.heap [] 0 0 (vx_MQ below Qc XC args s mc ms free) (entryFrame m args maxL)) : vx_Met l y ws rm Pc Qc XC mc ms free := by
  refine MetFree.of_bodyS (code := cc) (maxLocals := maxL) (ret := ret) hy ?_ ?_
  · intro args s m h hn
    obtain ⟨meth, c, h1, h2, h3, h4, h5, h6, -, -⟩ := Cond.code_spec hn (atoms_spec (ws := ws) h _ (by rw [hw]; exact List.mem_cons_self))
    exact ⟨meth, c, h1, h2, h3, h4, h5, h6⟩
  · intro p e s m args below meth c s₁ B hml hP _
    have hh0 : s₁.heap = s.heap := by rw [B.state]; rfl
    have ht : ∀ x ∈ c.exceptionTable.toList, False := by
      obtain ⟨meth9, c9, h1, h2, -, -, -, -, h7, -⟩ := Cond.code_spec B.named (atoms_spec (ws := ws) B.pre _ (by rw [hw]; exact List.mem_cons_self))
      cases Option.some.inj (h1.symm.trans B.method)
      cases Option.some.inj (h2.symm.trans (Stand.of_body B).code)
      intro x hx
      rw [Array.isEmpty_iff.mp h7] at hx
      cases hx
    obtain ⟨t, a1, o, b1, b2, b3⟩ := body p e s m args below meth c s₁ B hml ht hP s₁ hh0 (Stand.of_body B)
    exact ⟨t, o, a1, b1, b2, b3⟩
/-- the table of a body with handlers -/
theorem vx_table {p : Program} {x y : MethodName} {S : Spec} {cc bytes : ByteArray} {maxL maxL' : Nat} {ret ret' : Option FieldType} {e : Env} {s s₁ : State} {m : MethodId} {args : Array Value} {below : List Frame} {meth : Method} {c : Code} {hh : List (Nat × Nat × Nat × Nat)}
    (B : BodyLoose p l y S cc maxL ret e s m args below meth c s₁) (h : (Cond.codeWith y bytes maxL' ret' hh).before args s = true) : c.exceptionTable.toList = tableOf hh := by
  obtain ⟨m9, meth9, c9, hn9, h1, h2, -, -, h6, -⟩ := Cond.codeWith_spec h
  cases Option.some.inj (hn9.symm.trans B.named)
  cases Option.some.inj (h1.symm.trans B.method)
  cases Option.some.inj (h2.symm.trans (Stand.of_body B).code)
  rw [← h6, table_eq]
end Bodies
end VXA
/-! ===== END ===== -/
/-! ===== BEGIN a static call of a method with an exception table ===== -/
section VXS
variable {p : Program} {l : Launch} {e : Env} {R : Room} {s : State} {m : MethodId} {args : Array Value} {below : List Frame} {meth : Method} {c : Code} {T : State} {H : Heap} {locs : List Loc} {cells slots : Nat}
abbrev vx_CSW (R : Room) (s : State) (args : Array Value) (own : String) (index : Nat) (y : MethodName) (bytes : ByteArray) (maxL : Nat) (ret : Option FieldType) (hh : List (Nat × Nat × Nat × Nat)) (ws : List Cond) (rm : Room) (mc ms n : Nat) : Prop :=
  (rm.cells = mc ∧ rm.slots = ms ∧ rm.frames + 1 ≤ R.frames ∧ 8 + (maxL + 11) + rm.locals ≤ R.locals ∧ (∀ w ∈ ws, ∀ (a' : Array Value) (U : State), s.WarmedH U.vm → w.before a' U = true) ∧ Cond.codeWith y bytes maxL ret hh ∈ ws) ∧
  (Cond.codeWith y bytes maxL ret hh).before args s = true ∧ (Cond.initialized y.cls).before args s = true ∧ (y.cls ≠ "java/lang/invoke/MethodHandle" ∧ y.cls ≠ "java/lang/invoke/VarHandle") ∧
  (∀ sig, parseMethodDescriptor y.desc = some sig → n = sig.parameters.length) ∧ (Cond.methodLink own index y).before args s = true ∧ (Cond.static y).before args s = true
theorem vx_cwSW {own : String} {index maxL mc ms : Nat} {y : MethodName} {bytes : ByteArray} {ret : Option FieldType} {hh : List (Nat × Nat × Nat × Nat)} {Ts ws ws' : List Cond} {rm : Room} (n : Nat) (ht : ∀ w ∈ Ts, w.before args s = true) (hT : GoodIn Ts (va_wsS own index y ws)) (hw : ws = Cond.codeWith y bytes maxL ret hh :: ws') (hrc : rm.cells = mc) (hrs : rm.slots = ms)
    (hd : y.cls ≠ "java/lang/invoke/MethodHandle" ∧ y.cls ≠ "java/lang/invoke/VarHandle" ∧ (parseMethodDescriptor y.desc).map (fun d => d.parameters.length) = some n) (hR : rm.frames + 1 ≤ R.frames ∧ 8 + (maxL + 11) + rm.locals ≤ R.locals) :
    vx_CSW R s args own index y bytes maxL ret hh ws rm mc ms n := by
  have ok : ∀ w ∈ va_wsS own index y ws, w.before args s = true := fun w h => ht w (hT w h).1
  have hG : GoodIn Ts ws := fun w h => hT w (by unfold va_wsS; exact List.mem_append_right _ h)
  have hc : Cond.codeWith y bytes maxL ret hh ∈ ws := by rw [hw]; exact List.mem_cons_self
  refine ⟨⟨hrc, hrs, hR.1, hR.2, pay_in ht hG, hc⟩, ht _ (hG _ hc).1, ok _ (by simp [va_wsS]), ⟨hd.1, hd.2.1⟩, fun sig h => ?_, ok _ (by simp [va_wsS]), ok _ (by simp [va_wsS])⟩
  have h2 := hd.2.2
  rw [h] at h2
  exact (Option.some.inj h2).symm
theorem vx_callSW (X : Stand p l e R s m args below meth c T locs cells slots) (hexec : p.tables.exec = Jvm.exec) {own : String} {index : Nat} {y : MethodName} {bytes : ByteArray} {maxL : Nat} {ret : Option FieldType} {hh : List (Nat × Nat × Nat × Nat)}
    (hown : s.vm.findClass own = some m.cls) (hlink : (Cond.methodLink own index y).before args s = true) (hstat : (Cond.static y).before args s = true) (hinit : (Cond.initialized y.cls).before args s = true)
    (hcode : (Cond.codeWith y bytes maxL ret hh).before args s = true) (hy : y.cls ≠ "java/lang/invoke/MethodHandle" ∧ y.cls ≠ "java/lang/invoke/VarHandle")
    {W9 : Nat} {Pre : Pt → Array Value → Prop} {Post : Pt → Array Value → Option Value → Pt → Prop} (hK : Back l R p e below s args y 3 W9 Pre Post)
    {g : JFrame} (hg : g.method = m) (hsize : g.locals.size = c.maxLocals) {argsL rest : List Value} (hlen : ∀ sig, parseMethodDescriptor y.desc = some sig → argsL.length = sig.parameters.length)
    (hstack : g.stack = argsL.reverse ++ rest) (hW : 2 * g.monitorRoom + (rest.map fun v => v.category).sum ≤ W9) (hdg : decode c.code g.pc = .ok (.invokestatic index, 3))
    (hpre : ∀ vm₁, s.WarmedH vm₁ → Pre ⟨T.setVm vm₁, locs, cells, slots⟩ argsL.toArray) :
    ∃ (v : Option Value) (vm₁ : Vm) (B : Pt), s.WarmedH vm₁ ∧ Stand p l e R s m args below meth c B.U B.locs B.cells B.slots ∧ Post ⟨T.setVm vm₁, locs, cells, slots⟩ argsL.toArray v B ∧
      ∀ target, Steps p.tables e below (B.U.setTop { g with pc := g.pc + 3, stack := v.toList ++ rest }) target → Steps p.tables e below (T.setTop g) target := by
  obtain ⟨mk, methM, cM, hnamed, hmethM, -, -, -, -, -, -, hsigM⟩ := Cond.codeWith_spec hcode
  have hstatic : methM.isStatic = true := Cond.static_spec hnamed hmethM hstat
  obtain ⟨kP, hkP, -⟩ := className_of_methodNamed hnamed
  have hinitP : kP.init = .initialized := Cond.initialized_spec (findClass_of_methodNamed hnamed) hkP hinit
  obtain ⟨vm₁, X₁, hstep₁⟩ := X.invokestatic hexec hown hlink hnamed hmethM hstatic hkP hinitP hy (g := g) hg (argsL := argsL) (rest := rest) (hlen _ hsigM) hstack hdg
  obtain ⟨v, B, X', hpost, hsteps⟩ := hK m meth c ⟨T.setVm vm₁, locs, cells, slots⟩ { g with stack := rest } (.invokestatic index) mk argsL.toArray X₁ hg hsize hdg hW (X₁.named hnamed) (hpre vm₁ X₁.warmed)
  exact ⟨v, vm₁, B, X₁.warmed, X', hpost, fun target h => hstep₁ _ fun acts => by rw [doInvoke_state]; exact hsteps.trans h⟩
theorem vx_runSW {y : MethodName} {bytes cc : ByteArray} {maxL nL mc ms n index : Nat} {ret : Option FieldType} {hh : List (Nat × Nat × Nat × Nat)} {ws : List Cond} {rm : Room} {Pc : Array Value → State → Prop} {Qc : Array Value → State → Outcome → State → Prop} {free : Addr → Prop} {Ts : List Cond} {own : String} {As rest : List Value} {g : JFrame}
    (S : CallFix p m c cc nL s args Ts own) (hM : Met l y ws rm Pc Qc mc ms free) (cw : vx_CSW R s args own index y bytes maxL ret hh ws rm mc ms n) (hp : PreS s H Pc As)
    (hg : g.method = m) (hn : As.length = n) (hsize : g.locals.size = nL) (hstack : g.stack = As.reverse ++ rest) (hW : 2 * g.monitorRoom + (rest.map fun v => v.category).sum ≤ 8) (hdg : decode cc g.pc = .ok (.invokestatic index, 3)) (hf : cells + mc ≤ R.cells ∧ slots + ms ≤ R.slots) :
    va_Run p l e R s m args below meth c H locs cells slots mc ms g rest (Qc As.toArray) (free) := by
  obtain ⟨⟨hrc, hrs, hfr, hlo, hws, hcw⟩, hcode, hini, hy, hlen, hl, hstt⟩ := cw
  have hK : Back l R p e below s args y 3 8 (PreOf R mc ms Pc) (PostOf Qc mc ms free) := va_backW (hh := hh) (bytes := bytes) (maxL := maxL) (ret := ret) hM hp.1 hrc hrs hfr hlo hws hcw (fun a' U hW => word_at hW (Or.inl (by first | rfl | simp [Cond.onTables, Cond.keeps, Cond.steady])) hini)
  obtain ⟨hx, hb, hml, ho, -⟩ := S
  intro T hT X
  obtain ⟨v, vm₁, ⟨U', l2, c2, s2⟩, hW₁, X', ⟨g', mk, t, L, e1, e2, hq, h1, hL, h2, h3⟩, st⟩ := vx_callSW X hx (hh := hh) (bytes := bytes) (maxL := maxL) (ret := ret) ho hl hstt hini hcode hy hK hg (hsize.trans hml.symm) (argsL := As) (rest := rest) (fun sig h => hn.trans (hlen sig h)) hstack hW (by rw [hb]; exact hdg)
    (fun vm₁ hW₁ => ⟨hf.1, hf.2, hp.2 (T.setVm vm₁) hT hW₁⟩)
  dsimp only [Pt.U, Pt.locs, Pt.cells, Pt.slots] at X' e1 e2 h1 h2 h3 st
  subst h1; subst h2; subst h3
  exact ⟨v, (T.setVm vm₁).calling g' mk As.toArray, t, U', L, hT, X', hL, e1, e2, hq, st⟩
/-- not caught here, past rows that name other classes: it goes on to the caller -/
theorem vx_outP {p : Program} {l : Launch} {e : Env} {R : Room} {s : State} {m : MethodId} {args : Array Value} {below : List Frame} {meth : Method} {c : Code} {H : Heap} {locs : List Loc} {cells slots : Nat} {free : Addr → Prop} {ls : Array Slot} {rest : List Value} {Qc : Array Value → State → Outcome → State → Prop} {XC : String → State → State → Prop}
    {pc : Nat} {own E : String} {ce : Cell} {q : Addr} {mc ms : Nat} (hown : s.vm.findClass own = some m.cls) (hlocks : meth.locks = false)
    (hpass : ∀ z ∈ c.exceptionTable.toList, covers z pc = false ∨ (z.catchType ≠ 0 ∧ ∃ nm : String, (Cond.classLink own z.catchType nm).before args s = true ∧ va_Nc E nm s)) (hcell : H[q]? = some ce) (hv : ce.vm = .none) (hcl : s.vm.findClass E = some ce.cls)
    (hx : ∀ t : State, t.heap = H → s.vm.Alike t.vm → XC E s t) (hf : ∀ z ∈ locs, free z.base) (hc : cells ≤ mc) (hs : slots ≤ ms) :
    vx_W p l e R s m args below meth c H locs cells slots (vx_MQ below Qc XC args s mc ms free) (F0 m pc ls rest) q := by
  intro T hT X
  have hpl : e.platform.magicAccessors = ({} : Platform).magicAccessors := by rw [X.admits.platform]
  obtain ⟨vm', hW', X', st⟩ := X.outThrough hlocks q (g := F0 m pc ls rest) rfl rfl rfl (cell := ce) (by rw [hT]; exact hcell) (by rw [hv]; rfl)
    (by obtain ⟨k9, h9, -⟩ := Vm.findClass_spec hcl; exact ⟨k9, h9⟩) (fun z hz => by
      rcases hpass z hz with h | ⟨hz0, nm, hl1, hn1⟩
      · exact Or.inl h
      · obtain ⟨c6, hc6, hcl6⟩ := Cond.classLink_spec hown hl1 e.platform hpl
        obtain ⟨a8, b8, h1, h2, h3⟩ := hn1
        cases Option.some.inj (h1.symm.trans hcl)
        cases Option.some.inj (h2.symm.trans hc6)
        exact Or.inr ⟨hz0, _, hcl6, h3⟩)
  obtain ⟨g₀, hfr⟩ := X'.frames_eq
  have hcell9 : ((T.setVm vm').setFrames (.throwing q :: below)).heap[q]? = some ce := by
    show T.heap[q]? = some ce
    rw [hT]; exact hcell
  have hend : Ended ((T.setVm vm').setFrames (.throwing q :: below)) below (.threw q) := State.frames_setFrames _ (State.cur_lt_of_frames hfr)
  refine ⟨(T.setVm vm').setFrames (.throwing q :: below), ?_, .threw q, X'.here.running, hend, Or.inr ⟨q, rfl, E, ce, locs, hx _ hT (X'.ends _).1.alike, hcell9, hv, hcl, (X'.ends _).1, (X'.ends _).2.mono hc hs, hf⟩⟩
  rw [X.pushThrowing_eq]
  exact st
/-- a thing of a world lies in the heap -/
theorem vx_lt {D : va_G} {cl : List vw_C} {ws : va_W} {H1 : Heap} (h : va_P D cl ws H1) {k : Nat} {q : Nat × va_E} (hk : ws[k]? = some q) : q.1 < H1.size := (h k q hk).lt
end VXS
/-! ===== END ===== -/
/-! ===== BEGIN methods with a table of their own: called by a name, returning or throwing ===== -/
section VXH
/-! vx_backW, vx_callVX, vx_callSX, vx_callVW, vx_runVW, vx_runVX, vx_runSX, vx_ofWH follow the same proofs as their sisters above (Free/Laws.lean, Shelf42/LK1.lean); vx_outP calls Shelf42/NT130.lean (outThrough). -/
section
variable {l : Launch} {R : Room} {p : Program} {e : Env} {below : List Frame} {s : State} {sargs : Array Value} {y : MethodName} {len W9 : Nat}
theorem vx_backW {ws : List Cond} {rm : Room} {Pc : Array Value → State → Prop} {Qc : Array Value → State → Outcome → State → Prop} {XC : String → State → State → Prop} {mc ms : Nat} {free : Addr → Prop} {bytes : ByteArray} {maxL : Nat} {ret : Option FieldType} {hh : List (Nat × Nat × Nat × Nat)}
    (hM : vx_Met l y ws rm Pc Qc XC mc ms free) (hblind : FrameBlind Pc) (hrc : rm.cells = mc) (hrs : rm.slots = ms)
    (hframes : rm.frames + 1 ≤ R.frames) (hlocals : W9 + (maxL + 11) + rm.locals ≤ R.locals)
    (hws : ∀ w ∈ ws, ∀ a' U, s.WarmedH U.vm → w.before a' U = true) (hcode : Cond.codeWith y bytes maxL ret hh ∈ ws) (hinit : ∀ a' U, s.WarmedH U.vm → (Cond.initialized y.cls).before a' U = true) :
    vx_Back l R p e below s sargs y len W9 (PreOf R mc ms Pc) (PostOf Qc mc ms free) (vx_Post XC mc ms free) := by
  intro m meth c A g ig mk a X hg hsize hdg hW hn hp
  have h1 : (headSpec ws rm).pre.before a A.U = true := atoms_intro fun w hw => hws w hw _ _ X.warmed
  have h2 : (Cond.codeWith y bytes maxL ret hh).before a A.U = true := hws _ hcode _ _ X.warmed
  have h3 : (Cond.initialized y.cls).before a A.U = true := hinit _ _ X.warmed
  have h4 : A.cells + (headSpec ws rm).room.cells ≤ R.cells := by rw [show (headSpec ws rm).room.cells = mc from hrc]; exact hp.1
  have h5 : A.slots + (headSpec ws rm).room.slots ≤ R.slots := by rw [show (headSpec ws rm).room.slots = ms from hrs]; exact hp.2.1
  have hPc : Pc a (A.U.calling g mk a) := hblind _ _ _ _ hp.2.2
  obtain ⟨U, Ls, c0, s0⟩ := A
  dsimp only [Pt.U, Pt.locs, Pt.cells, Pt.slots] at h1 h2 h3 h4 h5 X hn hPc ⊢
  obtain ⟨m9, methY, cY, hn9, hmY, hcY, -, hlY, -⟩ := Cond.codeWith_spec h2
  cases Option.some.inj (hn9.symm.trans hn)
  obtain ⟨kY, hkY, -⟩ := className_of_methodNamed hn
  have hinitY : kY.init = .initialized := Cond.initialized_spec (findClass_of_methodNamed hn) hkY h3
  have h : At U g.method c below := by rw [hg]; exact X.here
  have hlocals9 : W9 + (maxL + 11) + (headSpec ws rm).room.locals ≤ R.locals := hlocals
  have happ : (headSpec ws rm).appliesLoose y e.platform (U.calling g mk a) = true :=
    Spec.appliesLoose_calling (g := g) h hdg hn hkY hinitY
      (X.room_calling (g := g) (R' := (headSpec ws rm).room) hsize hmY hcY hframes (by rw [hlY]; omega) h4 h5) h1
  obtain ⟨mid, hmid⟩ := h.above
  have hfr : (U.setTop g).frames = (.java g :: mid) ++ below := by rw [State.frames_setTop' g h.top, hmid]; rfl
  obtain ⟨o, s₂, hsteps, -, hend, hq⟩ := Steps.callFree hM p X.admits X.cas X.clock (acts := []) hfr happ hPc trivial
  have hq' : vx_Q Qc XC mc ms free a (U.calling g mk a) o s₂ := hq
  rw [State.frames_setTop' g h.top] at hend
  obtain ⟨g₀, hg0⟩ := Option.isSome_iff_exists.mp h.top
  obtain ⟨r, hr⟩ := State.topJava?_eq_some.mp hg0
  have hr' : (({ U with heap := s₂.heap, slotsUsed := s₂.slotsUsed } : State).setVm s₂.vm).frames = .java g₀ :: r := hr
  rcases hq' with ⟨hqc, L, hfe, hL⟩ | ⟨q, rfl, E, ce, L, hx, hce, hcv, hcl, hW₂, hsm, hL⟩
  · obtain ⟨⟨v, rfl⟩, hW₂, e2, q2, q3, q4, q5, q6⟩ := id hfe
    have e3 : s₂ = ({ (U.calling g mk a).setFrames s₂.frames with heap := s₂.heap, slotsUsed := s₂.slotsUsed } : State).setVm s₂.vm := by
      have : s₂ = ({ s₂ with vm := (U.calling g mk a).vm } : State).setVm s₂.vm := rfl
      rw [e2] at this
      exact this
    obtain ⟨c₂, i₂, len₂, hc₂, hd₂, hf₂⟩ := hend
    have hW' : U.WarmedH s₂.vm := hW₂
    have hcc : c₂ = c := by
      have h1 : s₂.code? g.method = U.code? g.method := by
        rw [State.code?_eq, State.code?_eq, hW'.alike.method?]
      exact Option.some.inj (hc₂.symm.trans (h1.trans h.code))
    subst hcc
    have hlen : len₂ = len := by rw [hdg] at hd₂; cases hd₂; rfl
    subst hlen
    have hs₂ : s₂ = (({ U with heap := s₂.heap, slotsUsed := s₂.slotsUsed } : State).setVm s₂.vm).setTop { g with pc := g.pc + len₂, stack := v.toList ++ g.stack } := by
      refine e3.trans ?_
      rw [hf₂, State.calling_eq h.top, State.setFrames_setFrames, State.setTop_of_frames _ hr', hr]
      rfl
    have hsame : U.sameButNew ({ U with heap := s₂.heap, slotsUsed := s₂.slotsUsed } : State) L mc ms := by
      refine ⟨?_, q2, q3, q4, q5, q6⟩
      obtain ⟨t, ht, -⟩ := State.frames_cons hr
      show ({ U with heap := s₂.heap, slotsUsed := s₂.slotsUsed } : State) = { U.setFrames U.frames with heap := s₂.heap, slotsUsed := s₂.slotsUsed }
      rw [State.setFrames_self ht]
    subst hg
    refine Or.inl ⟨v, ⟨(({ U with heap := s₂.heap, slotsUsed := s₂.slotsUsed } : State).setVm s₂.vm), Ls ++ L, c0 + mc, s0 + ms⟩,
      ⟨X.admits, X.cas, X.clock, X.frames, X.room, X.hears, X.method, X.code, (X.here.setHeapUsed s₂.heap s₂.slotsUsed).setVm hW'.alike, X.tail, State.WarmedH.trans X.warmed hW', X.limits, X.bytes, X.same.trans (hsame.setVm s.vm)⟩,
      ⟨g, mk, s₂, L, rfl, rfl, hqc, rfl, hL, rfl, rfl⟩, ?_⟩
    show Steps p.tables e below _ ((({ U with heap := s₂.heap, slotsUsed := s₂.slotsUsed } : State).setVm s₂.vm).setTop { g with pc := g.pc + len₂, stack := v.toList ++ g.stack })
    rw [← hs₂]
    exact hsteps
  · obtain ⟨e2, q2, q3, q4, q5, q6⟩ := id hsm
    have e3 : s₂ = ({ (U.calling g mk a).setFrames s₂.frames with heap := s₂.heap, slotsUsed := s₂.slotsUsed } : State).setVm s₂.vm := by
      have : s₂ = ({ s₂ with vm := (U.calling g mk a).vm } : State).setVm s₂.vm := rfl
      rw [e2] at this
      exact this
    have hf₂ : s₂.frames = .throwing q :: .java g :: U.frames.tail := hend
    have hW' : U.WarmedH s₂.vm := hW₂
    have hs₂ : s₂ = ((({ U with heap := s₂.heap, slotsUsed := s₂.slotsUsed } : State).setVm s₂.vm).setTop g).pushFrame (.throwing q) := by
      refine e3.trans ?_
      rw [hf₂, State.calling_eq h.top, State.setFrames_setFrames, State.pushFrame, State.frames_setTop _ hr', State.setTop_of_frames _ hr', State.setFrames_setFrames, hr]
      rfl
    have hsame : U.sameButNew ({ U with heap := s₂.heap, slotsUsed := s₂.slotsUsed } : State) L mc ms := by
      refine ⟨?_, q2, q3, q4, q5, q6⟩
      obtain ⟨t, ht, -⟩ := State.frames_cons hr
      show ({ U with heap := s₂.heap, slotsUsed := s₂.slotsUsed } : State) = { U.setFrames U.frames with heap := s₂.heap, slotsUsed := s₂.slotsUsed }
      rw [State.setFrames_self ht]
    subst hg
    refine Or.inr ⟨q, ⟨(({ U with heap := s₂.heap, slotsUsed := s₂.slotsUsed } : State).setVm s₂.vm), Ls ++ L, c0 + mc, s0 + ms⟩,
      ⟨X.admits, X.cas, X.clock, X.frames, X.room, X.hears, X.method, X.code, (X.here.setHeapUsed s₂.heap s₂.slotsUsed).setVm hW'.alike, X.tail, State.WarmedH.trans X.warmed hW', X.limits, X.bytes, X.same.trans (hsame.setVm s.vm)⟩,
      ⟨g, mk, s₂, L, E, ce, rfl, rfl, hx, hce, hcv, hcl, rfl, hL, rfl, rfl⟩, ?_⟩
    show Steps p.tables e below _ (((({ U with heap := s₂.heap, slotsUsed := s₂.slotsUsed } : State).setVm s₂.vm).setTop g).pushFrame (.throwing q))
    rw [← hs₂]
    exact hsteps
end
variable {p : Program} {l : Launch} {e : Env} {R : Room} {s : State} {m : MethodId} {args : Array Value} {below : List Frame} {meth : Method} {c : Code} {T : State} {H : Heap} {locs : List Loc} {cells slots : Nat}
theorem vx_callVX (X : Stand p l e R s m args below meth c T locs cells slots) (hexec : p.tables.exec = Jvm.exec) {own C : String} {index : Nat} {y : MethodName} {bytes : ByteArray} {maxL : Nat} {ret : Option FieldType} {hh : List (Nat × Nat × Nat × Nat)}
    (hown : s.vm.findClass own = some m.cls) (hlink : (Cond.methodLink own index y).before args s = true) (hinst : (Cond.instanceMethod y).before args s = true) (hsel : (Cond.selects C y y).before args s = true)
    (hcode : (Cond.codeWith y bytes maxL ret hh).before args s = true) (hy : y.cls ≠ "java/lang/invoke/MethodHandle" ∧ y.cls ≠ "java/lang/invoke/VarHandle")
    {W9 : Nat} {Pre : Pt → Array Value → Prop} {Post : Pt → Array Value → Option Value → Pt → Prop} {PostX : Pt → Array Value → Addr → Pt → Prop} (hK : vx_Back l R p e below s args y 3 W9 Pre Post PostX)
    {b : Addr} {cellB : Cell} (hcell : T.heap[b]? = some cellB) (hobj : cellB.vm.isStatics = false) (hcls : s.vm.findClass C = some cellB.cls)
    {g : JFrame} (hg : g.method = m) (hsize : g.locals.size = c.maxLocals) {argsL rest : List Value} (hlen : ∀ sig, parseMethodDescriptor y.desc = some sig → argsL.length = sig.parameters.length)
    (hstack : g.stack = argsL.reverse ++ .ref b :: rest) (hW : 2 * g.monitorRoom + (rest.map fun v => v.category).sum ≤ W9) (hdg : decode c.code g.pc = .ok (.invokevirtual index, 3))
    (hpre : ∀ vm₁, s.WarmedH vm₁ → Pre ⟨T.setVm vm₁, locs, cells, slots⟩ (Value.ref b :: argsL).toArray) :
    (∃ (v : Option Value) (vm₁ : Vm) (B : Pt), s.WarmedH vm₁ ∧ Stand p l e R s m args below meth c B.U B.locs B.cells B.slots ∧ Post ⟨T.setVm vm₁, locs, cells, slots⟩ (Value.ref b :: argsL).toArray v B ∧
      ∀ target, Steps p.tables e below (B.U.setTop { g with pc := g.pc + 3, stack := v.toList ++ rest }) target → Steps p.tables e below (T.setTop g) target) ∨
    (∃ (q : Addr) (vm₁ : Vm) (B : Pt), s.WarmedH vm₁ ∧ Stand p l e R s m args below meth c B.U B.locs B.cells B.slots ∧ PostX ⟨T.setVm vm₁, locs, cells, slots⟩ (Value.ref b :: argsL).toArray q B ∧
      Steps p.tables e below (T.setTop g) ((B.U.setTop { g with stack := rest }).pushFrame (.throwing q))) := by
  obtain ⟨mk, methM, hnamed, hmethM, hstM, habM⟩ := Cond.instanceMethod_spec hinst
  obtain ⟨m8, methM', cM, hn8, hmethM', -, -, -, -, -, -, hsigM⟩ := Cond.codeWith_spec hcode
  cases Option.some.inj (hn8.symm.trans hnamed)
  cases hmethM.symm.trans hmethM'
  obtain ⟨c2, r2, m2, q1, q2, q3, q4, kP, hkP, hkPi⟩ := Cond.selects_spec hsel
  cases hcls.symm.trans q1
  cases (State.methodFound?_of_named hnamed hy).symm.trans q2
  cases hnamed.symm.trans q3
  have hselP : selectMethod e.platform s.vm cellB.cls mk = .method mk := by rw [Launch.admits_selectMethod X.admits]; exact q4
  obtain ⟨vm₁, X₁, hstep₁⟩ := X.invokevirtual hexec hown hlink hnamed hmethM hstM hkP hkPi hy (a := b) (cell := cellB) hcell
    (fun z h => by rw [h] at hobj; cases hobj) hselP hmethM habM hkP hkPi (g := g) hg (argsL := argsL) (rest := rest) (hlen _ hsigM) hstack hdg
  rcases hK m meth c ⟨T.setVm vm₁, locs, cells, slots⟩ { g with stack := rest } (.invokevirtual index) mk (Value.ref b :: argsL).toArray X₁ hg hsize hdg hW (X₁.named hnamed) (hpre vm₁ X₁.warmed) with ⟨v, B, X', hpost, hsteps⟩ | ⟨q, B, X', hpost, hsteps⟩
  · exact Or.inl ⟨v, vm₁, B, X₁.warmed, X', hpost, fun target h => hstep₁ _ fun acts => by rw [doInvoke_state]; exact hsteps.trans h⟩
  · exact Or.inr ⟨q, vm₁, B, X₁.warmed, X', hpost, hstep₁ _ fun acts => by rw [doInvoke_state]; exact hsteps⟩
theorem vx_callSX (X : Stand p l e R s m args below meth c T locs cells slots) (hexec : p.tables.exec = Jvm.exec) {own : String} {index : Nat} {y : MethodName} {bytes : ByteArray} {maxL : Nat} {ret : Option FieldType} {hh : List (Nat × Nat × Nat × Nat)}
    (hown : s.vm.findClass own = some m.cls) (hlink : (Cond.methodLink own index y).before args s = true) (hstat : (Cond.static y).before args s = true) (hinit : (Cond.initialized y.cls).before args s = true)
    (hcode : (Cond.codeWith y bytes maxL ret hh).before args s = true) (hy : y.cls ≠ "java/lang/invoke/MethodHandle" ∧ y.cls ≠ "java/lang/invoke/VarHandle")
    {W9 : Nat} {Pre : Pt → Array Value → Prop} {Post : Pt → Array Value → Option Value → Pt → Prop} {PostX : Pt → Array Value → Addr → Pt → Prop} (hK : vx_Back l R p e below s args y 3 W9 Pre Post PostX)
    {g : JFrame} (hg : g.method = m) (hsize : g.locals.size = c.maxLocals) {argsL rest : List Value} (hlen : ∀ sig, parseMethodDescriptor y.desc = some sig → argsL.length = sig.parameters.length)
    (hstack : g.stack = argsL.reverse ++ rest) (hW : 2 * g.monitorRoom + (rest.map fun v => v.category).sum ≤ W9) (hdg : decode c.code g.pc = .ok (.invokestatic index, 3))
    (hpre : ∀ vm₁, s.WarmedH vm₁ → Pre ⟨T.setVm vm₁, locs, cells, slots⟩ argsL.toArray) :
    (∃ (v : Option Value) (vm₁ : Vm) (B : Pt), s.WarmedH vm₁ ∧ Stand p l e R s m args below meth c B.U B.locs B.cells B.slots ∧ Post ⟨T.setVm vm₁, locs, cells, slots⟩ argsL.toArray v B ∧
      ∀ target, Steps p.tables e below (B.U.setTop { g with pc := g.pc + 3, stack := v.toList ++ rest }) target → Steps p.tables e below (T.setTop g) target) ∨
    (∃ (q : Addr) (vm₁ : Vm) (B : Pt), s.WarmedH vm₁ ∧ Stand p l e R s m args below meth c B.U B.locs B.cells B.slots ∧ PostX ⟨T.setVm vm₁, locs, cells, slots⟩ argsL.toArray q B ∧
      Steps p.tables e below (T.setTop g) ((B.U.setTop { g with stack := rest }).pushFrame (.throwing q))) := by
  obtain ⟨mk, methM, cM, hnamed, hmethM, -, -, -, -, -, -, hsigM⟩ := Cond.codeWith_spec hcode
  have hstatic : methM.isStatic = true := Cond.static_spec hnamed hmethM hstat
  obtain ⟨kP, hkP, -⟩ := className_of_methodNamed hnamed
  have hinitP : kP.init = .initialized := Cond.initialized_spec (findClass_of_methodNamed hnamed) hkP hinit
  obtain ⟨vm₁, X₁, hstep₁⟩ := X.invokestatic hexec hown hlink hnamed hmethM hstatic hkP hinitP hy (g := g) hg (argsL := argsL) (rest := rest) (hlen _ hsigM) hstack hdg
  rcases hK m meth c ⟨T.setVm vm₁, locs, cells, slots⟩ { g with stack := rest } (.invokestatic index) mk argsL.toArray X₁ hg hsize hdg hW (X₁.named hnamed) (hpre vm₁ X₁.warmed) with ⟨v, B, X', hpost, hsteps⟩ | ⟨q, B, X', hpost, hsteps⟩
  · exact Or.inl ⟨v, vm₁, B, X₁.warmed, X', hpost, fun target h => hstep₁ _ fun acts => by rw [doInvoke_state]; exact hsteps.trans h⟩
  · exact Or.inr ⟨q, vm₁, B, X₁.warmed, X', hpost, hstep₁ _ fun acts => by rw [doInvoke_state]; exact hsteps⟩
theorem vx_callVW (X : Stand p l e R s m args below meth c T locs cells slots) (hexec : p.tables.exec = Jvm.exec) {own C : String} {index : Nat} {y : MethodName} {bytes : ByteArray} {maxL : Nat} {ret : Option FieldType} {hh : List (Nat × Nat × Nat × Nat)}
    (hown : s.vm.findClass own = some m.cls) (hlink : (Cond.methodLink own index y).before args s = true) (hinst : (Cond.instanceMethod y).before args s = true) (hsel : (Cond.selects C y y).before args s = true)
    (hcode : (Cond.codeWith y bytes maxL ret hh).before args s = true) (hy : y.cls ≠ "java/lang/invoke/MethodHandle" ∧ y.cls ≠ "java/lang/invoke/VarHandle")
    {W9 : Nat} {Pre : Pt → Array Value → Prop} {Post : Pt → Array Value → Option Value → Pt → Prop} (hK : Back l R p e below s args y 3 W9 Pre Post)
    {b : Addr} {cellB : Cell} (hcell : T.heap[b]? = some cellB) (hobj : cellB.vm.isStatics = false) (hcls : s.vm.findClass C = some cellB.cls)
    {g : JFrame} (hg : g.method = m) (hsize : g.locals.size = c.maxLocals) {argsL rest : List Value} (hlen : ∀ sig, parseMethodDescriptor y.desc = some sig → argsL.length = sig.parameters.length)
    (hstack : g.stack = argsL.reverse ++ .ref b :: rest) (hW : 2 * g.monitorRoom + (rest.map fun v => v.category).sum ≤ W9) (hdg : decode c.code g.pc = .ok (.invokevirtual index, 3))
    (hpre : ∀ vm₁, s.WarmedH vm₁ → Pre ⟨T.setVm vm₁, locs, cells, slots⟩ (Value.ref b :: argsL).toArray) :
    ∃ (v : Option Value) (vm₁ : Vm) (B : Pt), s.WarmedH vm₁ ∧ Stand p l e R s m args below meth c B.U B.locs B.cells B.slots ∧ Post ⟨T.setVm vm₁, locs, cells, slots⟩ (Value.ref b :: argsL).toArray v B ∧
      ∀ target, Steps p.tables e below (B.U.setTop { g with pc := g.pc + 3, stack := v.toList ++ rest }) target → Steps p.tables e below (T.setTop g) target := by
  obtain ⟨mk, methM, hnamed, hmethM, hstM, habM⟩ := Cond.instanceMethod_spec hinst
  obtain ⟨m8, methM', cM, hn8, hmethM', -, -, -, -, -, -, hsigM⟩ := Cond.codeWith_spec hcode
  cases Option.some.inj (hn8.symm.trans hnamed)
  cases hmethM.symm.trans hmethM'
  obtain ⟨c2, r2, m2, q1, q2, q3, q4, kP, hkP, hkPi⟩ := Cond.selects_spec hsel
  cases hcls.symm.trans q1
  cases (State.methodFound?_of_named hnamed hy).symm.trans q2
  cases hnamed.symm.trans q3
  have hselP : selectMethod e.platform s.vm cellB.cls mk = .method mk := by rw [Launch.admits_selectMethod X.admits]; exact q4
  obtain ⟨vm₁, X₁, hstep₁⟩ := X.invokevirtual hexec hown hlink hnamed hmethM hstM hkP hkPi hy (a := b) (cell := cellB) hcell
    (fun z h => by rw [h] at hobj; cases hobj) hselP hmethM habM hkP hkPi (g := g) hg (argsL := argsL) (rest := rest) (hlen _ hsigM) hstack hdg
  obtain ⟨v, B, X', hpost, hsteps⟩ := hK m meth c ⟨T.setVm vm₁, locs, cells, slots⟩ { g with stack := rest } (.invokevirtual index) mk (Value.ref b :: argsL).toArray X₁ hg hsize hdg hW (X₁.named hnamed) (hpre vm₁ X₁.warmed)
  exact ⟨v, vm₁, B, X₁.warmed, X', hpost, fun target h => hstep₁ _ fun acts => by rw [doInvoke_state]; exact hsteps.trans h⟩
abbrev vx_CVW (R : Room) (s : State) (args : Array Value) (own C : String) (index : Nat) (y : MethodName) (bytes : ByteArray) (maxL : Nat) (ret : Option FieldType) (hh : List (Nat × Nat × Nat × Nat)) (ws : List Cond) (rm : Room) (mc ms n : Nat) : Prop :=
  (rm.cells = mc ∧ rm.slots = ms ∧ rm.frames + 1 ≤ R.frames ∧ 8 + (maxL + 11) + rm.locals ≤ R.locals ∧ (∀ w ∈ ws, ∀ (a' : Array Value) (U : State), s.WarmedH U.vm → w.before a' U = true) ∧ Cond.codeWith y bytes maxL ret hh ∈ ws) ∧
  (Cond.codeWith y bytes maxL ret hh).before args s = true ∧ (Cond.initialized y.cls).before args s = true ∧ (y.cls ≠ "java/lang/invoke/MethodHandle" ∧ y.cls ≠ "java/lang/invoke/VarHandle") ∧
  (∀ sig, parseMethodDescriptor y.desc = some sig → n = sig.parameters.length) ∧ (Cond.methodLink own index y).before args s = true ∧ (Cond.instanceMethod y).before args s = true ∧ (Cond.selects C y y).before args s = true
theorem vx_cwVW {own C : String} {index maxL mc ms : Nat} {y : MethodName} {bytes : ByteArray} {ret : Option FieldType} {hh : List (Nat × Nat × Nat × Nat)} {Ts ws ws' : List Cond} {rm : Room} (n : Nat) (ht : ∀ w ∈ Ts, w.before args s = true) (hT : GoodIn Ts (wsV own index C y ws)) (hw : ws = Cond.codeWith y bytes maxL ret hh :: ws') (hrc : rm.cells = mc) (hrs : rm.slots = ms)
    (hd : y.cls = C ∧ y.cls ≠ "java/lang/invoke/MethodHandle" ∧ y.cls ≠ "java/lang/invoke/VarHandle" ∧ (parseMethodDescriptor y.desc).map (fun d => d.parameters.length) = some n) (hR : rm.frames + 1 ≤ R.frames ∧ 8 + (maxL + 11) + rm.locals ≤ R.locals) :
    vx_CVW R s args own C index y bytes maxL ret hh ws rm mc ms n := by
  obtain ⟨hC, hd⟩ := hd
  subst hC
  have ok : ∀ w ∈ wsV own index y.cls y ws, w.before args s = true := fun w h => ht w (hT w h).1
  have hG : GoodIn Ts ws := fun w h => hT w (by unfold wsV; exact List.mem_append_right _ h)
  have hc : Cond.codeWith y bytes maxL ret hh ∈ ws := by rw [hw]; exact List.mem_cons_self
  refine ⟨⟨hrc, hrs, hR.1, hR.2, pay_in ht hG, hc⟩, ht _ (hG _ hc).1, ok _ (by simp [wsV]), ⟨hd.1, hd.2.1⟩, fun sig h => ?_, ok _ (by simp [wsV]), ok _ (by simp [wsV]), ok _ (by simp [wsV])⟩
  have h2 := hd.2.2
  rw [h] at h2
  exact (Option.some.inj h2).symm
theorem vx_runVW {y : MethodName} {bytes cc : ByteArray} {maxL nL mc ms n index : Nat} {ret : Option FieldType} {hh : List (Nat × Nat × Nat × Nat)} {ws : List Cond} {rm : Room} {Pc : Array Value → State → Prop} {Qc : Array Value → State → Outcome → State → Prop} {free : Addr → Prop} {Ts : List Cond} {own C : String} {b : Addr} {As rest : List Value} {g : JFrame}
    (S : CallFix p m c cc nL s args Ts own) (hM : Met l y ws rm Pc Qc mc ms free) (cw : vx_CVW R s args own C index y bytes maxL ret hh ws rm mc ms n) (hp : PreV s H C b Pc As)
    (hg : g.method = m) (hn : As.length = n) (hsize : g.locals.size = nL) (hstack : g.stack = As.reverse ++ .ref b :: rest) (hW : 2 * g.monitorRoom + (rest.map fun v => v.category).sum ≤ 8) (hdg : decode cc g.pc = .ok (.invokevirtual index, 3)) (hf : cells + mc ≤ R.cells ∧ slots + ms ≤ R.slots) :
    va_Run p l e R s m args below meth c H locs cells slots mc ms g rest (Qc (Value.ref b :: As).toArray) free := by
  obtain ⟨⟨hrc, hrs, hfr, hlo, hws, hcw⟩, hcode, hini, hy, hlen, hl, hin, hse⟩ := cw
  have hK : Back l R p e below s args y 3 8 (PreOf R mc ms Pc) (PostOf Qc mc ms free) := va_backW (hh := hh) (bytes := bytes) (maxL := maxL) (ret := ret) hM hp.1 hrc hrs hfr hlo hws hcw (fun a' U hW => word_at hW (Or.inl (by first | rfl | simp [Cond.onTables, Cond.keeps, Cond.steady])) hini)
  obtain ⟨hx, hb, hml, ho, -⟩ := S
  obtain ⟨-, ⟨cellB, hcB, hoB, hclB⟩, hPc⟩ := hp
  intro T hT X
  obtain ⟨v, vm₁, ⟨U', l2, c2, s2⟩, hW₁, X', ⟨g', mk, t, L, e1, e2, hq, h1, hL, h2, h3⟩, st⟩ := vx_callVW X hx (C := C) (hh := hh) (bytes := bytes) (maxL := maxL) (ret := ret) ho hl hin hse hcode hy hK (by rw [hT]; exact hcB) hoB hclB hg (hsize.trans hml.symm) (argsL := As) (rest := rest) (fun sig h => hn.trans (hlen sig h)) hstack hW (by rw [hb]; exact hdg)
    (fun vm₁ hW₁ => ⟨hf.1, hf.2, hPc (T.setVm vm₁) hT hW₁⟩)
  dsimp only [Pt.U, Pt.locs, Pt.cells, Pt.slots] at X' e1 e2 h1 h2 h3 st
  subst h1; subst h2; subst h3
  exact ⟨v, (T.setVm vm₁).calling g' mk (Value.ref b :: As).toArray, t, U', L, hT, X', hL, e1, e2, hq, st⟩
section
variable {y : MethodName} {bytes cc : ByteArray} {maxL nL mc ms n index : Nat} {ret : Option FieldType} {ws : List Cond} {rm : Room} {Pc : Array Value → State → Prop} {Qc : Array Value → State → Outcome → State → Prop} {XC : String → State → State → Prop} {free : Addr → Prop} {Ts : List Cond} {own C : String} {b : Addr} {As rest : List Value} {g : JFrame}
theorem vx_runVX {hh : List (Nat × Nat × Nat × Nat)} (S : CallFix p m c cc nL s args Ts own) (hM : vx_Met l y ws rm Pc Qc XC mc ms free) (cw : vx_CVW R s args own C index y bytes maxL ret hh ws rm mc ms n) (hp : PreV s H C b Pc As)
    (hg : g.method = m) (hn : As.length = n) (hsize : g.locals.size = nL) (hstack : g.stack = As.reverse ++ .ref b :: rest) (hW : 2 * g.monitorRoom + (rest.map fun v => v.category).sum ≤ 8) (hdg : decode cc g.pc = .ok (.invokevirtual index, 3)) (hf : cells + mc ≤ R.cells ∧ slots + ms ≤ R.slots) :
    vx_Run p l e R s m args below meth c H locs cells slots mc ms g rest (Qc (Value.ref b :: As).toArray) XC free := by
  obtain ⟨⟨hrc, hrs, hfr, hlo, hws, hcw⟩, hcode, hini, hy, hlen, hl, hin, hse⟩ := cw
  have hK : vx_Back l R p e below s args y 3 8 (PreOf R mc ms Pc) (PostOf Qc mc ms free) (vx_Post XC mc ms free) := vx_backW (hh := hh) (bytes := bytes) (maxL := maxL) (ret := ret) hM hp.1 hrc hrs hfr hlo hws hcw (fun a' U hW => word_at hW (Or.inl (by first | rfl | simp [Cond.onTables, Cond.keeps, Cond.steady])) hini)
  obtain ⟨hx, hb, hml, ho, -⟩ := S
  obtain ⟨-, ⟨cellB, hcB, hoB, hclB⟩, hPc⟩ := hp
  intro T hT X
  rcases vx_callVX X hx (C := C) (hh := hh) (bytes := bytes) (maxL := maxL) (ret := ret) ho hl hin hse hcode hy hK (by rw [hT]; exact hcB) hoB hclB hg (hsize.trans hml.symm) (argsL := As) (rest := rest) (fun sig h => hn.trans (hlen sig h)) hstack hW (by rw [hb]; exact hdg)
    (fun vm₁ hW₁ => ⟨hf.1, hf.2, hPc (T.setVm vm₁) hT hW₁⟩) with ⟨v, vm₁, ⟨U', l2, c2, s2⟩, hW₁, X', ⟨g', mk, t, L, e1, e2, hq, h1, hL, h2, h3⟩, st⟩ | ⟨q, vm₁, ⟨U', l2, c2, s2⟩, hW₁, X', ⟨g', mk, t, L, E, ce, e1, e2, hq, hce, hcv, hcl, h1, hL, h2, h3⟩, st⟩
  · dsimp only [Pt.U, Pt.locs, Pt.cells, Pt.slots] at X' e1 e2 h1 h2 h3 st
    subst h1; subst h2; subst h3
    exact Or.inl ⟨v, (T.setVm vm₁).calling g' mk (Value.ref b :: As).toArray, t, U', L, hT, X', hL, e1, e2, hq, st⟩
  · dsimp only [Pt.U, Pt.locs, Pt.cells, Pt.slots] at X' e1 e2 h1 h2 h3 st hcl
    subst h1; subst h2; subst h3
    exact Or.inr ⟨q, (T.setVm vm₁).calling g' mk (Value.ref b :: As).toArray, t, U', L, E, ce, hT, X', hL, e1, e2, hq, hce, hcv, vx_cls hW₁ hcl, st⟩
theorem vx_runSX {hh : List (Nat × Nat × Nat × Nat)} (S : CallFix p m c cc nL s args Ts own) (hM : vx_Met l y ws rm Pc Qc XC mc ms free) (cw : vx_CSW R s args own index y bytes maxL ret hh ws rm mc ms n) (hp : PreS s H Pc As)
    (hg : g.method = m) (hn : As.length = n) (hsize : g.locals.size = nL) (hstack : g.stack = As.reverse ++ rest) (hW : 2 * g.monitorRoom + (rest.map fun v => v.category).sum ≤ 8) (hdg : decode cc g.pc = .ok (.invokestatic index, 3)) (hf : cells + mc ≤ R.cells ∧ slots + ms ≤ R.slots) :
    vx_Run p l e R s m args below meth c H locs cells slots mc ms g rest (Qc As.toArray) XC free := by
  obtain ⟨⟨hrc, hrs, hfr, hlo, hws, hcw⟩, hcode, hini, hy, hlen, hl, hstt⟩ := cw
  have hK : vx_Back l R p e below s args y 3 8 (PreOf R mc ms Pc) (PostOf Qc mc ms free) (vx_Post XC mc ms free) := vx_backW (hh := hh) (bytes := bytes) (maxL := maxL) (ret := ret) hM hp.1 hrc hrs hfr hlo hws hcw (fun a' U hW => word_at hW (Or.inl (by first | rfl | simp [Cond.onTables, Cond.keeps, Cond.steady])) hini)
  obtain ⟨hx, hb, hml, ho, -⟩ := S
  intro T hT X
  rcases vx_callSX X hx (hh := hh) (bytes := bytes) (maxL := maxL) (ret := ret) ho hl hstt hini hcode hy hK hg (hsize.trans hml.symm) (argsL := As) (rest := rest) (fun sig h => hn.trans (hlen sig h)) hstack hW (by rw [hb]; exact hdg)
    (fun vm₁ hW₁ => ⟨hf.1, hf.2, hp.2 (T.setVm vm₁) hT hW₁⟩) with ⟨v, vm₁, ⟨U', l2, c2, s2⟩, hW₁, X', ⟨g', mk, t, L, e1, e2, hq, h1, hL, h2, h3⟩, st⟩ | ⟨q, vm₁, ⟨U', l2, c2, s2⟩, hW₁, X', ⟨g', mk, t, L, E, ce, e1, e2, hq, hce, hcv, hcl, h1, hL, h2, h3⟩, st⟩
  · dsimp only [Pt.U, Pt.locs, Pt.cells, Pt.slots] at X' e1 e2 h1 h2 h3 st
    subst h1; subst h2; subst h3
    exact Or.inl ⟨v, (T.setVm vm₁).calling g' mk As.toArray, t, U', L, hT, X', hL, e1, e2, hq, st⟩
  · dsimp only [Pt.U, Pt.locs, Pt.cells, Pt.slots] at X' e1 e2 h1 h2 h3 st hcl
    subst h1; subst h2; subst h3
    exact Or.inr ⟨q, (T.setVm vm₁).calling g' mk As.toArray, t, U', L, E, ce, hT, X', hL, e1, e2, hq, hce, hcv, vx_cls hW₁ hcl, st⟩
end
end VXH
theorem vx_ofWH {l : Launch} {y : MethodName} {ws ws' : List Cond} {rm : Room} {Pc : Array Value → State → Prop} {Qc : Array Value → State → Outcome → State → Prop} {XC : String → State → State → Prop} {mc ms : Nat} {free : Addr → Prop} {cc : ByteArray} {maxL : Nat} {ret : Option FieldType} {hh : List (Nat × Nat × Nat × Nat)}
    (hy : plainName y.cls = true) (hw : ws = Cond.codeWith y cc maxL ret hh :: ws')
    (body : ∀ p e s m args below meth c s₁, BodyLoose p l y (headSpec ws rm) cc maxL ret e s m args below meth c s₁ → c.maxLocals = maxL → Pc args s →
      W p l e (headSpec ws rm).room s m args below meth c s.heap [] 0 0 (vx_MQ below Qc XC args s mc ms free) (entryFrame m args maxL)) : vx_Met l y ws rm Pc Qc XC mc ms free := by
  refine MetFree.of_bodyS (code := cc) (maxLocals := maxL) (ret := ret) hy ?_ ?_
  · intro args s m h hn
    obtain ⟨m9, meth, c, hn9, h1, h2, h3, h4, -, h5, h6, -⟩ := Cond.codeWith_spec (atoms_spec (ws := ws) h _ (by rw [hw]; exact List.mem_cons_self))
    cases hn.symm.trans hn9
    exact ⟨meth, c, h1, h2, h3, h4, h5, h6⟩
  · intro p e s m args below meth c s₁ B hml hP _
    have hh0 : s₁.heap = s.heap := by rw [B.state]; rfl
    obtain ⟨t, a1, o, b1, b2, b3⟩ := body p e s m args below meth c s₁ B hml hP s₁ hh0 (Stand.of_body B)
    exact ⟨t, o, a1, b1, b2, b3⟩
/-! ===== END ===== -/
end
section
def RX0 : String := "FoldedArchive$CommandReader"
def TX0 : u_T := fun k => match k with
  | 0 => ("FoldedArchive$CommandReader", "kinds", "[I", true)
  | 1 => ("FoldedArchive$CommandReader", "operands", "[I", true)
  | 2 => ("FoldedArchive$CommandReader", "count", "I", false)
  | 3 => ("FoldedArchive$CommandReader", "fault", "I", false)
  | 4 => ("FoldedArchive$CommandReader", "position", "I", false)
  | _ => ("FoldedArchive$CommandReader", "operandsRead", "I", false)
def tyX0 : Nat → FieldType := fun k => match k with
  | 0 => .array .int
  | 1 => .array .int
  | 2 => .int
  | 3 => .int
  | 4 => .int
  | _ => .int
abbrev wsX00 : List Cond := u_ws RX0 TX0 6
theorem nmX0 : ∀ a, a < 6 → ∀ b, b < 6 → a ≠ b → (TX0 a).2.1 ≠ (TX0 b).2.1 := by decide +kernel
theorem tyX0_ok : ∀ k, k < 6 → parseFieldDescriptor (TX0 k).2.2.1 = some (tyX0 k) := by decide +kernel
abbrev cX0_init : ByteArray := prog_2_method_1_code
def yX0_init : MethodName := ⟨RX0, "<init>", "()V"⟩
abbrev cX0_kindOf : ByteArray := prog_2_method_2_code
def yX0_kindOf : MethodName := ⟨RX0, "kindOf", "(I)I"⟩
abbrev cX0_operandOf : ByteArray := prog_2_method_3_code
def yX0_operandOf : MethodName := ⟨RX0, "operandOf", "(II)I"⟩
abbrev cX0_read : ByteArray := prog_2_method_4_code
def yX0_read : MethodName := ⟨RX0, "read", "(LFoldedArchive$Row;)V"⟩
abbrev cX0_readCommand : ByteArray := prog_2_method_5_code
def yX0_readCommand : MethodName := ⟨RX0, "readCommand", "(LFoldedArchive$Row;I)V"⟩
abbrev cX0_append : ByteArray := prog_2_method_6_code
def yX0_append : MethodName := ⟨RX0, "append", "(I)V"⟩
abbrev cX0_shapeOf : ByteArray := prog_2_method_7_code
def yX0_shapeOf : MethodName := ⟨RX0, "shapeOf", "(I)Ljava/lang/String;"⟩
abbrev cX0_follows : ByteArray := prog_2_method_8_code
def yX0_follows : MethodName := ⟨RX0, "follows", "(LFoldedArchive$Row;ILjava/lang/String;)Z"⟩
abbrev cX0_followsSign : ByteArray := prog_2_method_9_code
def yX0_followsSign : MethodName := ⟨RX0, "followsSign", "(LFoldedArchive$Row;C)Z"⟩
abbrev cX0_fits : ByteArray := prog_2_method_10_code
def yX0_fits : MethodName := ⟨RX0, "fits", "(CC)Z"⟩
abbrev cX0_numberFrom : ByteArray := prog_2_method_11_code
def yX0_numberFrom : MethodName := ⟨RX0, "numberFrom", "(LFoldedArchive$Row;C)I"⟩
abbrev cX0_takeOperand : ByteArray := prog_2_method_12_code
def yX0_takeOperand : MethodName := ⟨RX0, "takeOperand", "(I)V"⟩
abbrev cX0_isDigit : ByteArray := prog_2_method_13_code
def yX0_isDigit : MethodName := ⟨RX0, "isDigit", "(C)Z"⟩
def RX1 : String := "FoldedArchive$FlowSearch"
def TX1 : u_T := fun k => match k with
  | 0 => ("FoldedArchive$FlowSearch", "spare", "[I", true)
  | 1 => ("FoldedArchive$FlowSearch", "reachedFrom", "[I", true)
  | _ => ("FoldedArchive$FlowSearch", "queue", "[I", true)
def tyX1 : Nat → FieldType := fun k => match k with
  | 0 => .array .int
  | 1 => .array .int
  | _ => .array .int
abbrev wsX10 : List Cond := u_ws RX1 TX1 3
theorem nmX1 : ∀ a, a < 3 → ∀ b, b < 3 → a ≠ b → (TX1 a).2.1 ≠ (TX1 b).2.1 := by decide +kernel
theorem tyX1_ok : ∀ k, k < 3 → parseFieldDescriptor (TX1 k).2.2.1 = some (tyX1 k) := by decide +kernel
abbrev cX1_init : ByteArray := prog_3_method_1_code
def yX1_init : MethodName := ⟨RX1, "<init>", "()V"⟩
abbrev cX1_greatest : ByteArray := prog_3_method_2_code
def yX1_greatest : MethodName := ⟨RX1, "greatest", "(LFoldedArchive$Pipes;II)I"⟩
abbrev cX1_openPipes : ByteArray := prog_3_method_3_code
def yX1_openPipes : MethodName := ⟨RX1, "openPipes", "(LFoldedArchive$Pipes;I)V"⟩
abbrev cX1_inGrid : ByteArray := prog_3_method_4_code
def yX1_inGrid : MethodName := ⟨RX1, "inGrid", "(II)Z"⟩
abbrev cX1_addSpare : ByteArray := prog_3_method_5_code
def yX1_addSpare : MethodName := ⟨RX1, "addSpare", "(III)V"⟩
abbrev cX1_spareOf : ByteArray := prog_3_method_6_code
def yX1_spareOf : MethodName := ⟨RX1, "spareOf", "(II)I"⟩
abbrev cX1_reachesLast : ByteArray := prog_3_method_7_code
def yX1_reachesLast : MethodName := ⟨RX1, "reachesLast", "(I)Z"⟩
abbrev cX1_previousOf : ByteArray := prog_3_method_8_code
def yX1_previousOf : MethodName := ⟨RX1, "previousOf", "(I)I"⟩
abbrev cX1_augment : ByteArray := prog_3_method_9_code
def yX1_augment : MethodName := ⟨RX1, "augment", "(I)I"⟩
abbrev cX1_smallest : ByteArray := prog_3_method_10_code
def yX1_smallest : MethodName := ⟨RX1, "smallest", "(LFoldedArchive$Pipes;I)I"⟩
abbrev cX1_cutSize : ByteArray := prog_3_method_11_code
def yX1_cutSize : MethodName := ⟨RX1, "cutSize", "(LFoldedArchive$Pipes;I)I"⟩
abbrev cX1_contains : ByteArray := prog_3_method_12_code
def yX1_contains : MethodName := ⟨RX1, "contains", "(II)Z"⟩
def RX2 : String := "FoldedArchive$FoldingSearch"
def TX2 : u_T := fun k => match k with
  | 0 => ("FoldedArchive$FoldingSearch", "trial", "LFoldedArchive$Pile;", true)
  | _ => ("FoldedArchive$FoldingSearch", "placed", "[I", true)
def tyX2 : Nat → FieldType := fun k => match k with
  | 0 => .object "FoldedArchive$Pile"
  | _ => .array .int
abbrev wsX20 : List Cond := u_ws RX2 TX2 2
theorem nmX2 : ∀ a, a < 2 → ∀ b, b < 2 → a ≠ b → (TX2 a).2.1 ≠ (TX2 b).2.1 := by decide +kernel
theorem tyX2_ok : ∀ k, k < 2 → parseFieldDescriptor (TX2 k).2.2.1 = some (tyX2 k) := by decide +kernel
abbrev cX2_init : ByteArray := prog_4_method_1_code
def yX2_init : MethodName := ⟨RX2, "<init>", "()V"⟩
abbrev cX2_countByFolding : ByteArray := prog_4_method_2_code
def yX2_countByFolding : MethodName := ⟨RX2, "countByFolding", "(LFoldedArchive$Pile;I)I"⟩
abbrev cX2_foldRest : ByteArray := prog_4_method_3_code
def yX2_foldRest : MethodName := ⟨RX2, "foldRest", "(II)I"⟩
abbrev cX2_countByOrders : ByteArray := prog_4_method_4_code
def yX2_countByOrders : MethodName := ⟨RX2, "countByOrders", "(LFoldedArchive$Pile;I)I"⟩
abbrev cX2_placeRest : ByteArray := prog_4_method_5_code
def yX2_placeRest : MethodName := ⟨RX2, "placeRest", "(II)I"⟩
abbrev cX2_isNextOfPile : ByteArray := prog_4_method_6_code
def yX2_isNextOfPile : MethodName := ⟨RX2, "isNextOfPile", "(II)Z"⟩
abbrev cX2_placeOf : ByteArray := prog_4_method_7_code
def yX2_placeOf : MethodName := ⟨RX2, "placeOf", "(II)I"⟩
abbrev cX2_spanCrosses : ByteArray := prog_4_method_8_code
def yX2_spanCrosses : MethodName := ⟨RX2, "spanCrosses", "(II)Z"⟩
def RX3 : String := "FoldedArchive$History"
def TX3 : u_T := fun k => match k with
  | 0 => ("FoldedArchive$History", "kept", "[LFoldedArchive$State;", true)
  | 1 => ("FoldedArchive$History", "next", "I", false)
  | _ => ("FoldedArchive$History", "count", "I", false)
def tyX3 : Nat → FieldType := fun k => match k with
  | 0 => .array (.object "FoldedArchive$State")
  | 1 => .int
  | _ => .int
abbrev wsX30 : List Cond := u_ws RX3 TX3 3
theorem nmX3 : ∀ a, a < 3 → ∀ b, b < 3 → a ≠ b → (TX3 a).2.1 ≠ (TX3 b).2.1 := by decide +kernel
theorem tyX3_ok : ∀ k, k < 3 → parseFieldDescriptor (TX3 k).2.2.1 = some (tyX3 k) := by decide +kernel
abbrev cX3_init : ByteArray := prog_5_method_1_code
def yX3_init : MethodName := ⟨RX3, "<init>", "()V"⟩
abbrev cX3_stateAt : ByteArray := prog_5_method_2_code
def yX3_stateAt : MethodName := ⟨RX3, "stateAt", "(I)LFoldedArchive$State;"⟩
abbrev cX3_keep : ByteArray := prog_5_method_3_code
def yX3_keep : MethodName := ⟨RX3, "keep", "(LFoldedArchive$State;)V"⟩
abbrev cX3_takeBack : ByteArray := prog_5_method_4_code
def yX3_takeBack : MethodName := ⟨RX3, "takeBack", "(LFoldedArchive$State;)V"⟩
abbrev cX3_forget : ByteArray := prog_5_method_5_code
def yX3_forget : MethodName := ⟨RX3, "forget", "()V"⟩
def RX4 : String := "FoldedArchive$Pile"
def TX4 : u_T := fun k => match k with
  | 0 => ("FoldedArchive$Pile", "folded", "I", false)
  | _ => ("FoldedArchive$Pile", "layers", "[I", true)
def tyX4 : Nat → FieldType := fun k => match k with
  | 0 => .int
  | _ => .array .int
abbrev wsX40 : List Cond := u_ws RX4 TX4 2
theorem nmX4 : ∀ a, a < 2 → ∀ b, b < 2 → a ≠ b → (TX4 a).2.1 ≠ (TX4 b).2.1 := by decide +kernel
theorem tyX4_ok : ∀ k, k < 2 → parseFieldDescriptor (TX4 k).2.2.1 = some (tyX4 k) := by decide +kernel
abbrev cX4_init : ByteArray := prog_6_method_1_code
def yX4_init : MethodName := ⟨RX4, "<init>", "()V"⟩
abbrev cX4_copyFrom : ByteArray := prog_6_method_2_code
def yX4_copyFrom : MethodName := ⟨RX4, "copyFrom", "(LFoldedArchive$Pile;)V"⟩
abbrev cX4_layerHolding : ByteArray := prog_6_method_3_code
def yX4_layerHolding : MethodName := ⟨RX4, "layerHolding", "(I)I"⟩
abbrev cX4_sectionAt : ByteArray := prog_6_method_4_code
def yX4_sectionAt : MethodName := ⟨RX4, "sectionAt", "(I)I"⟩
abbrev cX4_spansCross : ByteArray := prog_6_method_5_code
def yX4_spansCross : MethodName := ⟨RX4, "spansCross", "(IIII)Z"⟩
abbrev cX4_layerAfterInsert : ByteArray := prog_6_method_6_code
def yX4_layerAfterInsert : MethodName := ⟨RX4, "layerAfterInsert", "(II)I"⟩
abbrev cX4_creaseCrossedAt : ByteArray := prog_6_method_7_code
def yX4_creaseCrossedAt : MethodName := ⟨RX4, "creaseCrossedAt", "(I)I"⟩
abbrev cX4_insert : ByteArray := prog_6_method_8_code
def yX4_insert : MethodName := ⟨RX4, "insert", "(I)I"⟩
abbrev cX4_removeLast : ByteArray := prog_6_method_9_code
def yX4_removeLast : MethodName := ⟨RX4, "removeLast", "()I"⟩
def RX5 : String := "FoldedArchive$Pipes"
def TX5 : u_T := fun k => match k with
  | 0 => ("FoldedArchive$Pipes", "count", "I", false)
  | 1 => ("FoldedArchive$Pipes", "starts", "[I", true)
  | 2 => ("FoldedArchive$Pipes", "ends", "[I", true)
  | 3 => ("FoldedArchive$Pipes", "widths", "[I", true)
  | _ => ("FoldedArchive$Pipes", "broken", "[Z", true)
def tyX5 : Nat → FieldType := fun k => match k with
  | 0 => .int
  | 1 => .array .int
  | 2 => .array .int
  | 3 => .array .int
  | _ => .array .boolean
abbrev wsX50 : List Cond := u_ws RX5 TX5 5
theorem nmX5 : ∀ a, a < 5 → ∀ b, b < 5 → a ≠ b → (TX5 a).2.1 ≠ (TX5 b).2.1 := by decide +kernel
theorem tyX5_ok : ∀ k, k < 5 → parseFieldDescriptor (TX5 k).2.2.1 = some (tyX5 k) := by decide +kernel
abbrev cX5_init : ByteArray := prog_7_method_1_code
def yX5_init : MethodName := ⟨RX5, "<init>", "()V"⟩
abbrev cX5_copyFrom : ByteArray := prog_7_method_2_code
def yX5_copyFrom : MethodName := ⟨RX5, "copyFrom", "(LFoldedArchive$Pipes;)V"⟩
abbrev cX5_has : ByteArray := prog_7_method_3_code
def yX5_has : MethodName := ⟨RX5, "has", "(I)Z"⟩
abbrev cX5_startOf : ByteArray := prog_7_method_4_code
def yX5_startOf : MethodName := ⟨RX5, "startOf", "(I)I"⟩
abbrev cX5_endOf : ByteArray := prog_7_method_5_code
def yX5_endOf : MethodName := ⟨RX5, "endOf", "(I)I"⟩
abbrev cX5_widthOf : ByteArray := prog_7_method_6_code
def yX5_widthOf : MethodName := ⟨RX5, "widthOf", "(I)I"⟩
abbrev cX5_brokenAt : ByteArray := prog_7_method_7_code
def yX5_brokenAt : MethodName := ⟨RX5, "brokenAt", "(I)Z"⟩
abbrev cX5_brokenCount : ByteArray := prog_7_method_8_code
def yX5_brokenCount : MethodName := ⟨RX5, "brokenCount", "()I"⟩
abbrev cX5_append : ByteArray := prog_7_method_9_code
def yX5_append : MethodName := ⟨RX5, "append", "(III)I"⟩
abbrev cX5_remove : ByteArray := prog_7_method_10_code
def yX5_remove : MethodName := ⟨RX5, "remove", "(I)I"⟩
abbrev cX5_setBroken : ByteArray := prog_7_method_11_code
def yX5_setBroken : MethodName := ⟨RX5, "setBroken", "(IZ)I"⟩
def RX6 : String := "FoldedArchive$Row"
def TX6 : u_T := fun k => match k with
  | 0 => ("FoldedArchive$Row", "signs", "[C", true)
  | _ => ("FoldedArchive$Row", "length", "I", false)
def tyX6 : Nat → FieldType := fun k => match k with
  | 0 => .array .char
  | _ => .int
abbrev wsX60 : List Cond := u_ws RX6 TX6 2
theorem nmX6 : ∀ a, a < 2 → ∀ b, b < 2 → a ≠ b → (TX6 a).2.1 ≠ (TX6 b).2.1 := by decide +kernel
theorem tyX6_ok : ∀ k, k < 2 → parseFieldDescriptor (TX6 k).2.2.1 = some (tyX6 k) := by decide +kernel
abbrev cX6_init : ByteArray := prog_8_method_1_code
def yX6_init : MethodName := ⟨RX6, "<init>", "(I)V"⟩
abbrev cX6_isFull : ByteArray := prog_8_method_2_code
def yX6_isFull : MethodName := ⟨RX6, "isFull", "()Z"⟩
abbrev cX6_put : ByteArray := prog_8_method_3_code
def yX6_put : MethodName := ⟨RX6, "put", "(C)V"⟩
abbrev cX6_putNumber : ByteArray := prog_8_method_4_code
def yX6_putNumber : MethodName := ⟨RX6, "putNumber", "(I)V"⟩
abbrev cX6_at : ByteArray := prog_8_method_5_code
def yX6_at : MethodName := ⟨RX6, "at", "(I)C"⟩
abbrev cX6_empty : ByteArray := prog_8_method_6_code
def yX6_empty : MethodName := ⟨RX6, "empty", "()V"⟩
def RX7 : String := "FoldedArchive$SearchReader"
def TX7 : u_T := fun k => match k with
  | 0 => ("FoldedArchive$SearchReader", "bearers", "[I", true)
  | 1 => ("FoldedArchive$SearchReader", "everything", "I", false)
  | 2 => ("FoldedArchive$SearchReader", "position", "I", false)
  | _ => ("FoldedArchive$SearchReader", "fault", "I", false)
def tyX7 : Nat → FieldType := fun k => match k with
  | 0 => .array .int
  | 1 => .int
  | 2 => .int
  | _ => .int
abbrev wsX70 : List Cond := u_ws RX7 TX7 4
theorem nmX7 : ∀ a, a < 4 → ∀ b, b < 4 → a ≠ b → (TX7 a).2.1 ≠ (TX7 b).2.1 := by decide +kernel
theorem tyX7_ok : ∀ k, k < 4 → parseFieldDescriptor (TX7 k).2.2.1 = some (tyX7 k) := by decide +kernel
abbrev cX7_init : ByteArray := prog_9_method_1_code
def yX7_init : MethodName := ⟨RX7, "<init>", "()V"⟩
abbrev cX7_askForAll : ByteArray := prog_9_method_2_code
def yX7_askForAll : MethodName := ⟨RX7, "askForAll", "(LFoldedArchive$Strip;)V"⟩
abbrev cX7_askForOne : ByteArray := prog_9_method_3_code
def yX7_askForOne : MethodName := ⟨RX7, "askForOne", "(LFoldedArchive$Strip;I)V"⟩
abbrev cX7_read : ByteArray := prog_9_method_4_code
def yX7_read : MethodName := ⟨RX7, "read", "(LFoldedArchive$Row;)I"⟩
abbrev cX7_readSum : ByteArray := prog_9_method_5_code
def yX7_readSum : MethodName := ⟨RX7, "readSum", "(LFoldedArchive$Row;I)I"⟩
abbrev cX7_readProduct : ByteArray := prog_9_method_6_code
def yX7_readProduct : MethodName := ⟨RX7, "readProduct", "(LFoldedArchive$Row;I)I"⟩
abbrev cX7_startsFactor : ByteArray := prog_9_method_7_code
def yX7_startsFactor : MethodName := ⟨RX7, "startsFactor", "(C)Z"⟩
abbrev cX7_readFactor : ByteArray := prog_9_method_8_code
def yX7_readFactor : MethodName := ⟨RX7, "readFactor", "(LFoldedArchive$Row;I)I"⟩
abbrev cX7_readPlainFactor : ByteArray := prog_9_method_9_code
def yX7_readPlainFactor : MethodName := ⟨RX7, "readPlainFactor", "(LFoldedArchive$Row;I)I"⟩
abbrev cX7_bearersOf : ByteArray := prog_9_method_10_code
def yX7_bearersOf : MethodName := ⟨RX7, "bearersOf", "(I)I"⟩
def RX8 : String := "FoldedArchive$State"
def TX8 : u_T := fun k => match k with
  | 0 => ("FoldedArchive$State", "strip", "LFoldedArchive$Strip;", true)
  | 1 => ("FoldedArchive$State", "pile", "LFoldedArchive$Pile;", true)
  | _ => ("FoldedArchive$State", "pipes", "LFoldedArchive$Pipes;", true)
def tyX8 : Nat → FieldType := fun k => match k with
  | 0 => .object "FoldedArchive$Strip"
  | 1 => .object "FoldedArchive$Pile"
  | _ => .object "FoldedArchive$Pipes"
abbrev wsX80 : List Cond := u_ws RX8 TX8 3
theorem nmX8 : ∀ a, a < 3 → ∀ b, b < 3 → a ≠ b → (TX8 a).2.1 ≠ (TX8 b).2.1 := by decide +kernel
theorem tyX8_ok : ∀ k, k < 3 → parseFieldDescriptor (TX8 k).2.2.1 = some (tyX8 k) := by decide +kernel
abbrev cX8_init : ByteArray := prog_10_method_1_code
def yX8_init : MethodName := ⟨RX8, "<init>", "()V"⟩
abbrev cX8_copyFrom : ByteArray := prog_10_method_2_code
def yX8_copyFrom : MethodName := ⟨RX8, "copyFrom", "(LFoldedArchive$State;)V"⟩
abbrev cX8_judge : ByteArray := prog_10_method_3_code
def yX8_judge : MethodName := ⟨RX8, "judge", "(IIII)I"⟩
abbrev cX8_denied : ByteArray := prog_10_method_4_code
def yX8_denied : MethodName := ⟨RX8, "denied", "(II)I"⟩
abbrev cX8_judgePour : ByteArray := prog_10_method_5_code
def yX8_judgePour : MethodName := ⟨RX8, "judgePour", "(II)I"⟩
abbrev cX8_judgeTerm : ByteArray := prog_10_method_6_code
def yX8_judgeTerm : MethodName := ⟨RX8, "judgeTerm", "(IIZ)I"⟩
abbrev cX8_judgeFold : ByteArray := prog_10_method_7_code
def yX8_judgeFold : MethodName := ⟨RX8, "judgeFold", "(I)I"⟩
abbrev cX8_judgePipe : ByteArray := prog_10_method_8_code
def yX8_judgePipe : MethodName := ⟨RX8, "judgePipe", "(III)I"⟩
abbrev cX8_judgeBroken : ByteArray := prog_10_method_9_code
def yX8_judgeBroken : MethodName := ⟨RX8, "judgeBroken", "(IZ)I"⟩
abbrev cX8_judgeEnds : ByteArray := prog_10_method_10_code
def yX8_judgeEnds : MethodName := ⟨RX8, "judgeEnds", "()I"⟩
abbrev cX8_apply : ByteArray := prog_10_method_11_code
def yX8_apply : MethodName := ⟨RX8, "apply", "(IIIILFoldedArchive$FlowSearch;)I"⟩
abbrev cX8_moveAlongPipes : ByteArray := prog_10_method_12_code
def yX8_moveAlongPipes : MethodName := ⟨RX8, "moveAlongPipes", "(I)I"⟩
abbrev cX8_moveDownPile : ByteArray := prog_10_method_13_code
def yX8_moveDownPile : MethodName := ⟨RX8, "moveDownPile", "()I"⟩
def RX9 : String := "FoldedArchive$Strip"
def TX9 : u_T := fun k => match k with
  | 0 => ("FoldedArchive$Strip", "count", "I", false)
  | 1 => ("FoldedArchive$Strip", "pouredUnits", "I", false)
  | 2 => ("FoldedArchive$Strip", "leakedUnits", "I", false)
  | 3 => ("FoldedArchive$Strip", "water", "[I", true)
  | _ => ("FoldedArchive$Strip", "terms", "[I", true)
def tyX9 : Nat → FieldType := fun k => match k with
  | 0 => .int
  | 1 => .int
  | 2 => .int
  | 3 => .array .int
  | _ => .array .int
abbrev wsX90 : List Cond := u_ws RX9 TX9 5
theorem nmX9 : ∀ a, a < 5 → ∀ b, b < 5 → a ≠ b → (TX9 a).2.1 ≠ (TX9 b).2.1 := by decide +kernel
theorem tyX9_ok : ∀ k, k < 5 → parseFieldDescriptor (TX9 k).2.2.1 = some (tyX9 k) := by decide +kernel
abbrev cX9_init : ByteArray := prog_11_method_1_code
def yX9_init : MethodName := ⟨RX9, "<init>", "()V"⟩
abbrev cX9_copyFrom : ByteArray := prog_11_method_2_code
def yX9_copyFrom : MethodName := ⟨RX9, "copyFrom", "(LFoldedArchive$Strip;)V"⟩
abbrev cX9_isTerm : ByteArray := prog_11_method_3_code
def yX9_isTerm : MethodName := ⟨RX9, "isTerm", "(I)Z"⟩
abbrev cX9_bitOf : ByteArray := prog_11_method_4_code
def yX9_bitOf : MethodName := ⟨RX9, "bitOf", "(I)I"⟩
abbrev cX9_has : ByteArray := prog_11_method_5_code
def yX9_has : MethodName := ⟨RX9, "has", "(I)Z"⟩
abbrev cX9_append : ByteArray := prog_11_method_6_code
def yX9_append : MethodName := ⟨RX9, "append", "()I"⟩
abbrev cX9_waterOf : ByteArray := prog_11_method_7_code
def yX9_waterOf : MethodName := ⟨RX9, "waterOf", "(I)I"⟩
abbrev cX9_termCountOf : ByteArray := prog_11_method_8_code
def yX9_termCountOf : MethodName := ⟨RX9, "termCountOf", "(I)I"⟩
abbrev cX9_bears : ByteArray := prog_11_method_9_code
def yX9_bears : MethodName := ⟨RX9, "bears", "(II)Z"⟩
abbrev cX9_bearersOf : ByteArray := prog_11_method_10_code
def yX9_bearersOf : MethodName := ⟨RX9, "bearersOf", "(I)I"⟩
abbrev cX9_giveTerm : ByteArray := prog_11_method_11_code
def yX9_giveTerm : MethodName := ⟨RX9, "giveTerm", "(II)I"⟩
abbrev cX9_takeTerm : ByteArray := prog_11_method_12_code
def yX9_takeTerm : MethodName := ⟨RX9, "takeTerm", "(II)I"⟩
abbrev cX9_receivePoured : ByteArray := prog_11_method_13_code
def yX9_receivePoured : MethodName := ⟨RX9, "receivePoured", "(II)I"⟩
abbrev cX9_give : ByteArray := prog_11_method_14_code
def yX9_give : MethodName := ⟨RX9, "give", "(II)V"⟩
abbrev cX9_add : ByteArray := prog_11_method_15_code
def yX9_add : MethodName := ⟨RX9, "add", "(II)V"⟩
abbrev cX9_receive : ByteArray := prog_11_method_16_code
def yX9_receive : MethodName := ⟨RX9, "receive", "(II)I"⟩
abbrev cX9_leak : ByteArray := prog_11_method_17_code
def yX9_leak : MethodName := ⟨RX9, "leak", "(I)V"⟩
abbrev cX9_waterSum : ByteArray := prog_11_method_18_code
def yX9_waterSum : MethodName := ⟨RX9, "waterSum", "()I"⟩
abbrev cX9_comesBefore : ByteArray := prog_11_method_19_code
def yX9_comesBefore : MethodName := ⟨RX9, "comesBefore", "(II)Z"⟩
abbrev cX9_rankOf : ByteArray := prog_11_method_20_code
def yX9_rankOf : MethodName := ⟨RX9, "rankOf", "(I)I"⟩
abbrev cX9_sectionAtRank : ByteArray := prog_11_method_21_code
def yX9_sectionAtRank : MethodName := ⟨RX9, "sectionAtRank", "(I)I"⟩
def RX10 : String := "FoldedArchive"
def TX10 : u_T := fun k => match k with
  | 0 => ("FoldedArchive", "state", "LFoldedArchive$State;", true)
  | 1 => ("FoldedArchive", "beforeText", "LFoldedArchive$State;", true)
  | 2 => ("FoldedArchive", "snapshot", "LFoldedArchive$State;", true)
  | 3 => ("FoldedArchive", "history", "LFoldedArchive$History;", true)
  | 4 => ("FoldedArchive", "flows", "LFoldedArchive$FlowSearch;", true)
  | 5 => ("FoldedArchive", "foldings", "LFoldedArchive$FoldingSearch;", true)
  | 6 => ("FoldedArchive", "text", "LFoldedArchive$Row;", true)
  | 7 => ("FoldedArchive", "line", "LFoldedArchive$Row;", true)
  | 8 => ("FoldedArchive", "searches", "LFoldedArchive$SearchReader;", true)
  | 9 => ("FoldedArchive", "commands", "LFoldedArchive$CommandReader;", true)
  | 10 => ("FoldedArchive", "snapshotSaved", "Z", false)
  | 11 => ("FoldedArchive", "keptFault", "I", false)
  | 12 => ("FoldedArchive", "deniedNumber", "I", false)
  | 13 => ("FoldedArchive", "deniedDetail", "I", false)
  | _ => ("FoldedArchive", "deniedCause", "I", false)
def tyX10 : Nat → FieldType := fun k => match k with
  | 0 => .object "FoldedArchive$State"
  | 1 => .object "FoldedArchive$State"
  | 2 => .object "FoldedArchive$State"
  | 3 => .object "FoldedArchive$History"
  | 4 => .object "FoldedArchive$FlowSearch"
  | 5 => .object "FoldedArchive$FoldingSearch"
  | 6 => .object "FoldedArchive$Row"
  | 7 => .object "FoldedArchive$Row"
  | 8 => .object "FoldedArchive$SearchReader"
  | 9 => .object "FoldedArchive$CommandReader"
  | 10 => .boolean
  | 11 => .int
  | 12 => .int
  | 13 => .int
  | _ => .int
abbrev wsX100 : List Cond := u_ws RX10 TX10 15
theorem nmX10 : ∀ a, a < 15 → ∀ b, b < 15 → a ≠ b → (TX10 a).2.1 ≠ (TX10 b).2.1 := by decide +kernel
theorem tyX10_ok : ∀ k, k < 15 → parseFieldDescriptor (TX10 k).2.2.1 = some (tyX10 k) := by decide +kernel
abbrev cX10_init : ByteArray := prog_1_method_1_code
def yX10_init : MethodName := ⟨RX10, "<init>", "()V"⟩
abbrev cX10_addSection : ByteArray := prog_1_method_2_code
def yX10_addSection : MethodName := ⟨RX10, "addSection", "()I"⟩
abbrev cX10_pour : ByteArray := prog_1_method_3_code
def yX10_pour : MethodName := ⟨RX10, "pour", "(II)I"⟩
abbrev cX10_tag : ByteArray := prog_1_method_4_code
def yX10_tag : MethodName := ⟨RX10, "tag", "(IC)I"⟩
abbrev cX10_untag : ByteArray := prog_1_method_5_code
def yX10_untag : MethodName := ⟨RX10, "untag", "(IC)I"⟩
abbrev cX10_sectionCount : ByteArray := prog_1_method_6_code
def yX10_sectionCount : MethodName := ⟨RX10, "sectionCount", "()I"⟩
abbrev cX10_water : ByteArray := prog_1_method_7_code
def yX10_water : MethodName := ⟨RX10, "water", "(I)I"⟩
abbrev cX10_hasTerm : ByteArray := prog_1_method_8_code
def yX10_hasTerm : MethodName := ⟨RX10, "hasTerm", "(IC)Z"⟩
abbrev cX10_sectionsWith : ByteArray := prog_1_method_9_code
def yX10_sectionsWith : MethodName := ⟨RX10, "sectionsWith", "(C)I"⟩
abbrev cX10_sectionByWater : ByteArray := prog_1_method_10_code
def yX10_sectionByWater : MethodName := ⟨RX10, "sectionByWater", "(I)I"⟩
abbrev cX10_fold : ByteArray := prog_1_method_11_code
def yX10_fold : MethodName := ⟨RX10, "fold", "(I)I"⟩
abbrev cX10_unfold : ByteArray := prog_1_method_12_code
def yX10_unfold : MethodName := ⟨RX10, "unfold", "()I"⟩
abbrev cX10_foldedCount : ByteArray := prog_1_method_13_code
def yX10_foldedCount : MethodName := ⟨RX10, "foldedCount", "()I"⟩
abbrev cX10_layerOf : ByteArray := prog_1_method_14_code
def yX10_layerOf : MethodName := ⟨RX10, "layerOf", "(I)I"⟩
abbrev cX10_sectionIn : ByteArray := prog_1_method_15_code
def yX10_sectionIn : MethodName := ⟨RX10, "sectionIn", "(I)I"⟩
abbrev cX10_canFold : ByteArray := prog_1_method_16_code
def yX10_canFold : MethodName := ⟨RX10, "canFold", "(I)Z"⟩
abbrev cX10_completions : ByteArray := prog_1_method_17_code
def yX10_completions : MethodName := ⟨RX10, "completions", "()I"⟩
abbrev cX10_completionsByOrders : ByteArray := prog_1_method_18_code
def yX10_completionsByOrders : MethodName := ⟨RX10, "completionsByOrders", "()I"⟩
abbrev cX10_layPipe : ByteArray := prog_1_method_19_code
def yX10_layPipe : MethodName := ⟨RX10, "layPipe", "(III)I"⟩
abbrev cX10_removePipe : ByteArray := prog_1_method_20_code
def yX10_removePipe : MethodName := ⟨RX10, "removePipe", "(I)I"⟩
abbrev cX10_breakPipe : ByteArray := prog_1_method_21_code
def yX10_breakPipe : MethodName := ⟨RX10, "breakPipe", "(I)I"⟩
abbrev cX10_mendPipe : ByteArray := prog_1_method_22_code
def yX10_mendPipe : MethodName := ⟨RX10, "mendPipe", "(I)I"⟩
abbrev cX10_pipeCount : ByteArray := prog_1_method_23_code
def yX10_pipeCount : MethodName := ⟨RX10, "pipeCount", "()I"⟩
abbrev cX10_pipeFrom : ByteArray := prog_1_method_24_code
def yX10_pipeFrom : MethodName := ⟨RX10, "pipeFrom", "(I)I"⟩
abbrev cX10_pipeTo : ByteArray := prog_1_method_25_code
def yX10_pipeTo : MethodName := ⟨RX10, "pipeTo", "(I)I"⟩
abbrev cX10_capacity : ByteArray := prog_1_method_26_code
def yX10_capacity : MethodName := ⟨RX10, "capacity", "(I)I"⟩
abbrev cX10_isBroken : ByteArray := prog_1_method_27_code
def yX10_isBroken : MethodName := ⟨RX10, "isBroken", "(I)Z"⟩
abbrev cX10_greatestFlow : ByteArray := prog_1_method_28_code
def yX10_greatestFlow : MethodName := ⟨RX10, "greatestFlow", "()I"⟩
abbrev cX10_smallestCut : ByteArray := prog_1_method_29_code
def yX10_smallestCut : MethodName := ⟨RX10, "smallestCut", "()I"⟩
abbrev cX10_lossOf : ByteArray := prog_1_method_30_code
def yX10_lossOf : MethodName := ⟨RX10, "lossOf", "(I)I"⟩
abbrev cX10_drain : ByteArray := prog_1_method_31_code
def yX10_drain : MethodName := ⟨RX10, "drain", "()I"⟩
abbrev cX10_seep : ByteArray := prog_1_method_32_code
def yX10_seep : MethodName := ⟨RX10, "seep", "()I"⟩
abbrev cX10_totalWater : ByteArray := prog_1_method_33_code
def yX10_totalWater : MethodName := ⟨RX10, "totalWater", "()I"⟩
abbrev cX10_totalWaterByAccounts : ByteArray := prog_1_method_34_code
def yX10_totalWaterByAccounts : MethodName := ⟨RX10, "totalWaterByAccounts", "()I"⟩
abbrev cX10_poured : ByteArray := prog_1_method_35_code
def yX10_poured : MethodName := ⟨RX10, "poured", "()I"⟩
abbrev cX10_leaked : ByteArray := prog_1_method_36_code
def yX10_leaked : MethodName := ⟨RX10, "leaked", "()I"⟩
abbrev cX10_meanWater : ByteArray := prog_1_method_37_code
def yX10_meanWater : MethodName := ⟨RX10, "meanWater", "()D"⟩
abbrev cX10_leakedShare : ByteArray := prog_1_method_38_code
def yX10_leakedShare : MethodName := ⟨RX10, "leakedShare", "()F"⟩
abbrev cX10_feed : ByteArray := prog_1_method_39_code
def yX10_feed : MethodName := ⟨RX10, "feed", "(C)I"⟩
abbrev cX10_clearText : ByteArray := prog_1_method_40_code
def yX10_clearText : MethodName := ⟨RX10, "clearText", "()I"⟩
abbrev cX10_search : ByteArray := prog_1_method_41_code
def yX10_search : MethodName := ⟨RX10, "search", "()I"⟩
abbrev cX10_matches : ByteArray := prog_1_method_42_code
def yX10_matches : MethodName := ⟨RX10, "matches", "(I)Z"⟩
abbrev cX10_execute : ByteArray := prog_1_method_43_code
def yX10_execute : MethodName := ⟨RX10, "execute", "()I"⟩
abbrev cX10_faultPosition : ByteArray := prog_1_method_44_code
def yX10_faultPosition : MethodName := ⟨RX10, "faultPosition", "()I"⟩
abbrev cX10_writeSection : ByteArray := prog_1_method_45_code
def yX10_writeSection : MethodName := ⟨RX10, "writeSection", "(I)I"⟩
abbrev cX10_writePile : ByteArray := prog_1_method_46_code
def yX10_writePile : MethodName := ⟨RX10, "writePile", "()I"⟩
abbrev cX10_lineCharacter : ByteArray := prog_1_method_47_code
def yX10_lineCharacter : MethodName := ⟨RX10, "lineCharacter", "(I)C"⟩
abbrev cX10_denial : ByteArray := prog_1_method_48_code
def yX10_denial : MethodName := ⟨RX10, "denial", "()I"⟩
abbrev cX10_denialDetail : ByteArray := prog_1_method_49_code
def yX10_denialDetail : MethodName := ⟨RX10, "denialDetail", "()I"⟩
abbrev cX10_denialCause : ByteArray := prog_1_method_50_code
def yX10_denialCause : MethodName := ⟨RX10, "denialCause", "()I"⟩
abbrev cX10_undo : ByteArray := prog_1_method_51_code
def yX10_undo : MethodName := ⟨RX10, "undo", "()I"⟩
abbrev cX10_undoCount : ByteArray := prog_1_method_52_code
def yX10_undoCount : MethodName := ⟨RX10, "undoCount", "()I"⟩
abbrev cX10_saveSnapshot : ByteArray := prog_1_method_53_code
def yX10_saveSnapshot : MethodName := ⟨RX10, "saveSnapshot", "()I"⟩
abbrev cX10_restoreSnapshot : ByteArray := prog_1_method_54_code
def yX10_restoreSnapshot : MethodName := ⟨RX10, "restoreSnapshot", "()I"⟩
abbrev cX10_change : ByteArray := prog_1_method_55_code
def yX10_change : MethodName := ⟨RX10, "change", "(IIII)I"⟩
abbrev cX10_runCommand : ByteArray := prog_1_method_56_code
def yX10_runCommand : MethodName := ⟨RX10, "runCommand", "(I)I"⟩
abbrev cX10_obey : ByteArray := prog_1_method_57_code
def yX10_obey : MethodName := ⟨RX10, "obey", "(I)V"⟩
abbrev cX10_causeOf : ByteArray := prog_1_method_58_code
def yX10_causeOf : MethodName := ⟨RX10, "causeOf", "(I)I"⟩
abbrev cX10_recordDenial : ByteArray := prog_1_method_59_code
def yX10_recordDenial : MethodName := ⟨RX10, "recordDenial", "(III)V"⟩
abbrev cX10_requireSection : ByteArray := prog_1_method_60_code
def yX10_requireSection : MethodName := ⟨RX10, "requireSection", "(I)V"⟩
abbrev cX10_requirePipe : ByteArray := prog_1_method_61_code
def yX10_requirePipe : MethodName := ⟨RX10, "requirePipe", "(I)V"⟩
abbrev cX10_requireTerm : ByteArray := prog_1_method_62_code
def yX10_requireTerm : MethodName := ⟨RX10, "requireTerm", "(I)V"⟩
abbrev cX10_refuseFault : ByteArray := prog_1_method_63_code
def yX10_refuseFault : MethodName := ⟨RX10, "refuseFault", "(I)V"⟩
def RX11 : String := "FoldedArchiveModel"
def TX11 : u_T := fun k => match k with
  | 0 => ("FoldedArchiveModel", "thrown", "I", false)
  | 1 => ("FoldedArchiveModel", "s", "[I", true)
  | 2 => ("FoldedArchiveModel", "frame", "[I", true)
  | 3 => ("FoldedArchiveModel", "saved", "[I", true)
  | 4 => ("FoldedArchiveModel", "history", "[I", true)
  | 5 => ("FoldedArchiveModel", "kept", "I", false)
  | 6 => ("FoldedArchiveModel", "hasSaved", "Z", false)
  | 7 => ("FoldedArchiveModel", "text", "[I", true)
  | 8 => ("FoldedArchiveModel", "told", "[I", true)
  | 9 => ("FoldedArchiveModel", "out", "[I", true)
  | 10 => ("FoldedArchiveModel", "layers", "[I", true)
  | 11 => ("FoldedArchiveModel", "fed", "I", false)
  | 12 => ("FoldedArchiveModel", "outLength", "I", false)
  | 13 => ("FoldedArchiveModel", "faultAt", "I", false)
  | 14 => ("FoldedArchiveModel", "answer", "I", false)
  | 15 => ("FoldedArchiveModel", "why", "I", false)
  | 16 => ("FoldedArchiveModel", "detail", "I", false)
  | 17 => ("FoldedArchiveModel", "cause", "I", false)
  | 18 => ("FoldedArchiveModel", "spot", "I", false)
  | 19 => ("FoldedArchiveModel", "end", "I", false)
  | 20 => ("FoldedArchiveModel", "commands", "I", false)
  | 21 => ("FoldedArchiveModel", "open", "I", false)
  | _ => ("FoldedArchiveModel", "isWrong", "Z", false)
def tyX11 : Nat → FieldType := fun k => match k with
  | 0 => .int
  | 1 => .array .int
  | 2 => .array .int
  | 3 => .array .int
  | 4 => .array .int
  | 5 => .int
  | 6 => .boolean
  | 7 => .array .int
  | 8 => .array .int
  | 9 => .array .int
  | 10 => .array .int
  | 11 => .int
  | 12 => .int
  | 13 => .int
  | 14 => .int
  | 15 => .int
  | 16 => .int
  | 17 => .int
  | 18 => .int
  | 19 => .int
  | 20 => .int
  | 21 => .int
  | _ => .boolean
abbrev wsX110 : List Cond := u_ws RX11 TX11 23
theorem nmX11 : ∀ a, a < 23 → ∀ b, b < 23 → a ≠ b → (TX11 a).2.1 ≠ (TX11 b).2.1 := by decide +kernel
theorem tyX11_ok : ∀ k, k < 23 → parseFieldDescriptor (TX11 k).2.2.1 = some (tyX11 k) := by decide +kernel
abbrev cX11_init : ByteArray := prog_13_method_1_code
def yX11_init : MethodName := ⟨RX11, "<init>", "()V"⟩
abbrev cX11_thrown : ByteArray := prog_13_method_2_code
def yX11_thrown : MethodName := ⟨RX11, "thrown", "()I"⟩
abbrev cX11_fails : ByteArray := prog_13_method_3_code
def yX11_fails : MethodName := ⟨RX11, "fails", "(I)I"⟩
abbrev cX11_in : ByteArray := prog_13_method_4_code
def yX11_in : MethodName := ⟨RX11, "in", "(III)Z"⟩
abbrev cX11_remembers : ByteArray := prog_13_method_5_code
def yX11_remembers : MethodName := ⟨RX11, "remembers", "()V"⟩
abbrev cX11_changed : ByteArray := prog_13_method_6_code
def yX11_changed : MethodName := ⟨RX11, "changed", "(I)I"⟩
abbrev cX11_done : ByteArray := prog_13_method_7_code
def yX11_done : MethodName := ⟨RX11, "done", "(I)I"⟩
abbrev cX11_denied : ByteArray := prog_13_method_8_code
def yX11_denied : MethodName := ⟨RX11, "denied", "(II)I"⟩
abbrev cX11_ends : ByteArray := prog_13_method_9_code
def yX11_ends : MethodName := ⟨RX11, "ends", "(II)I"⟩
abbrev cX11_isSection : ByteArray := prog_13_method_10_code
def yX11_isSection : MethodName := ⟨RX11, "isSection", "(I)Z"⟩
abbrev cX11_isPipe : ByteArray := prog_13_method_11_code
def yX11_isPipe : MethodName := ⟨RX11, "isPipe", "(I)Z"⟩
abbrev cX11_isTerm : ByteArray := prog_13_method_12_code
def yX11_isTerm : MethodName := ⟨RX11, "isTerm", "(I)Z"⟩
abbrev cX11_has : ByteArray := prog_13_method_13_code
def yX11_has : MethodName := ⟨RX11, "has", "(II)Z"⟩
abbrev cX11_terms : ByteArray := prog_13_method_14_code
def yX11_terms : MethodName := ⟨RX11, "terms", "(I)I"⟩
abbrev cX11_pipe : ByteArray := prog_13_method_15_code
def yX11_pipe : MethodName := ⟨RX11, "pipe", "(II)I"⟩
abbrev cX11_broken : ByteArray := prog_13_method_16_code
def yX11_broken : MethodName := ⟨RX11, "broken", "()I"⟩
abbrev cX11_lays : ByteArray := prog_13_method_17_code
def yX11_lays : MethodName := ⟨RX11, "lays", "(I)V"⟩
abbrev cX11_crossed : ByteArray := prog_13_method_18_code
def yX11_crossed : MethodName := ⟨RX11, "crossed", "(I)I"⟩
abbrev cX11_puts : ByteArray := prog_13_method_19_code
def yX11_puts : MethodName := ⟨RX11, "puts", "(I)V"⟩
abbrev cX11_takes : ByteArray := prog_13_method_20_code
def yX11_takes : MethodName := ⟨RX11, "takes", "()I"⟩
abbrev cX11_ways : ByteArray := prog_13_method_21_code
def yX11_ways : MethodName := ⟨RX11, "ways", "()I"⟩
abbrev cX11_cut : ByteArray := prog_13_method_22_code
def yX11_cut : MethodName := ⟨RX11, "cut", "(I)I"⟩
abbrev cX11_adds : ByteArray := prog_13_method_23_code
def yX11_adds : MethodName := ⟨RX11, "adds", "()I"⟩
abbrev cX11_pours : ByteArray := prog_13_method_24_code
def yX11_pours : MethodName := ⟨RX11, "pours", "(II)I"⟩
abbrev cX11_tags : ByteArray := prog_13_method_25_code
def yX11_tags : MethodName := ⟨RX11, "tags", "(IIZ)I"⟩
abbrev cX11_folds : ByteArray := prog_13_method_26_code
def yX11_folds : MethodName := ⟨RX11, "folds", "(I)I"⟩
abbrev cX11_opens : ByteArray := prog_13_method_27_code
def yX11_opens : MethodName := ⟨RX11, "opens", "()I"⟩
abbrev cX11_pipes : ByteArray := prog_13_method_28_code
def yX11_pipes : MethodName := ⟨RX11, "pipes", "(III)I"⟩
abbrev cX11_cuts : ByteArray := prog_13_method_29_code
def yX11_cuts : MethodName := ⟨RX11, "cuts", "(I)I"⟩
abbrev cX11_turns : ByteArray := prog_13_method_30_code
def yX11_turns : MethodName := ⟨RX11, "turns", "(II)I"⟩
abbrev cX11_comes : ByteArray := prog_13_method_31_code
def yX11_comes : MethodName := ⟨RX11, "comes", "(II)V"⟩
abbrev cX11_drains : ByteArray := prog_13_method_32_code
def yX11_drains : MethodName := ⟨RX11, "drains", "()I"⟩
abbrev cX11_seeps : ByteArray := prog_13_method_33_code
def yX11_seeps : MethodName := ⟨RX11, "seeps", "()I"⟩
abbrev cX11_addSection : ByteArray := prog_13_method_34_code
def yX11_addSection : MethodName := ⟨RX11, "addSection", "()I"⟩
abbrev cX11_pour : ByteArray := prog_13_method_35_code
def yX11_pour : MethodName := ⟨RX11, "pour", "(II)I"⟩
abbrev cX11_tag : ByteArray := prog_13_method_36_code
def yX11_tag : MethodName := ⟨RX11, "tag", "(IC)I"⟩
abbrev cX11_untag : ByteArray := prog_13_method_37_code
def yX11_untag : MethodName := ⟨RX11, "untag", "(IC)I"⟩
abbrev cX11_sectionCount : ByteArray := prog_13_method_38_code
def yX11_sectionCount : MethodName := ⟨RX11, "sectionCount", "()I"⟩
abbrev cX11_water : ByteArray := prog_13_method_39_code
def yX11_water : MethodName := ⟨RX11, "water", "(I)I"⟩
abbrev cX11_hasTerm : ByteArray := prog_13_method_40_code
def yX11_hasTerm : MethodName := ⟨RX11, "hasTerm", "(IC)Z"⟩
abbrev cX11_sectionsWith : ByteArray := prog_13_method_41_code
def yX11_sectionsWith : MethodName := ⟨RX11, "sectionsWith", "(C)I"⟩
abbrev cX11_isAhead : ByteArray := prog_13_method_42_code
def yX11_isAhead : MethodName := ⟨RX11, "isAhead", "(II)Z"⟩
abbrev cX11_sectionByWater : ByteArray := prog_13_method_43_code
def yX11_sectionByWater : MethodName := ⟨RX11, "sectionByWater", "(I)I"⟩
abbrev cX11_fold : ByteArray := prog_13_method_44_code
def yX11_fold : MethodName := ⟨RX11, "fold", "(I)I"⟩
abbrev cX11_unfold : ByteArray := prog_13_method_45_code
def yX11_unfold : MethodName := ⟨RX11, "unfold", "()I"⟩
abbrev cX11_foldedCount : ByteArray := prog_13_method_46_code
def yX11_foldedCount : MethodName := ⟨RX11, "foldedCount", "()I"⟩
abbrev cX11_layerOf : ByteArray := prog_13_method_47_code
def yX11_layerOf : MethodName := ⟨RX11, "layerOf", "(I)I"⟩
abbrev cX11_sectionIn : ByteArray := prog_13_method_48_code
def yX11_sectionIn : MethodName := ⟨RX11, "sectionIn", "(I)I"⟩
abbrev cX11_canFold : ByteArray := prog_13_method_49_code
def yX11_canFold : MethodName := ⟨RX11, "canFold", "(I)Z"⟩
abbrev cX11_completions : ByteArray := prog_13_method_50_code
def yX11_completions : MethodName := ⟨RX11, "completions", "()I"⟩
abbrev cX11_completionsByOrders : ByteArray := prog_13_method_51_code
def yX11_completionsByOrders : MethodName := ⟨RX11, "completionsByOrders", "()I"⟩
abbrev cX11_layPipe : ByteArray := prog_13_method_52_code
def yX11_layPipe : MethodName := ⟨RX11, "layPipe", "(III)I"⟩
abbrev cX11_removePipe : ByteArray := prog_13_method_53_code
def yX11_removePipe : MethodName := ⟨RX11, "removePipe", "(I)I"⟩
abbrev cX11_breakPipe : ByteArray := prog_13_method_54_code
def yX11_breakPipe : MethodName := ⟨RX11, "breakPipe", "(I)I"⟩
abbrev cX11_mendPipe : ByteArray := prog_13_method_55_code
def yX11_mendPipe : MethodName := ⟨RX11, "mendPipe", "(I)I"⟩
abbrev cX11_pipeCount : ByteArray := prog_13_method_56_code
def yX11_pipeCount : MethodName := ⟨RX11, "pipeCount", "()I"⟩
abbrev cX11_asked : ByteArray := prog_13_method_57_code
def yX11_asked : MethodName := ⟨RX11, "asked", "(II)I"⟩
abbrev cX11_pipeFrom : ByteArray := prog_13_method_58_code
def yX11_pipeFrom : MethodName := ⟨RX11, "pipeFrom", "(I)I"⟩
abbrev cX11_pipeTo : ByteArray := prog_13_method_59_code
def yX11_pipeTo : MethodName := ⟨RX11, "pipeTo", "(I)I"⟩
abbrev cX11_capacity : ByteArray := prog_13_method_60_code
def yX11_capacity : MethodName := ⟨RX11, "capacity", "(I)I"⟩
abbrev cX11_isBroken : ByteArray := prog_13_method_61_code
def yX11_isBroken : MethodName := ⟨RX11, "isBroken", "(I)Z"⟩
abbrev cX11_greatestFlow : ByteArray := prog_13_method_62_code
def yX11_greatestFlow : MethodName := ⟨RX11, "greatestFlow", "()I"⟩
abbrev cX11_smallestCut : ByteArray := prog_13_method_63_code
def yX11_smallestCut : MethodName := ⟨RX11, "smallestCut", "()I"⟩
abbrev cX11_lossOf : ByteArray := prog_13_method_64_code
def yX11_lossOf : MethodName := ⟨RX11, "lossOf", "(I)I"⟩
abbrev cX11_drain : ByteArray := prog_13_method_65_code
def yX11_drain : MethodName := ⟨RX11, "drain", "()I"⟩
abbrev cX11_seep : ByteArray := prog_13_method_66_code
def yX11_seep : MethodName := ⟨RX11, "seep", "()I"⟩
abbrev cX11_all : ByteArray := prog_13_method_67_code
def yX11_all : MethodName := ⟨RX11, "all", "()I"⟩
abbrev cX11_totalWater : ByteArray := prog_13_method_68_code
def yX11_totalWater : MethodName := ⟨RX11, "totalWater", "()I"⟩
abbrev cX11_totalWaterByAccounts : ByteArray := prog_13_method_69_code
def yX11_totalWaterByAccounts : MethodName := ⟨RX11, "totalWaterByAccounts", "()I"⟩
abbrev cX11_poured : ByteArray := prog_13_method_70_code
def yX11_poured : MethodName := ⟨RX11, "poured", "()I"⟩
abbrev cX11_leaked : ByteArray := prog_13_method_71_code
def yX11_leaked : MethodName := ⟨RX11, "leaked", "()I"⟩
abbrev cX11_meanWater : ByteArray := prog_13_method_72_code
def yX11_meanWater : MethodName := ⟨RX11, "meanWater", "()D"⟩
abbrev cX11_leakedShare : ByteArray := prog_13_method_73_code
def yX11_leakedShare : MethodName := ⟨RX11, "leakedShare", "()F"⟩
abbrev cX11_feed : ByteArray := prog_13_method_74_code
def yX11_feed : MethodName := ⟨RX11, "feed", "(C)I"⟩
abbrev cX11_clearText : ByteArray := prog_13_method_75_code
def yX11_clearText : MethodName := ⟨RX11, "clearText", "()I"⟩
abbrev cX11_here : ByteArray := prog_13_method_76_code
def yX11_here : MethodName := ⟨RX11, "here", "(I)I"⟩
abbrev cX11_every : ByteArray := prog_13_method_77_code
def yX11_every : MethodName := ⟨RX11, "every", "()I"⟩
abbrev cX11_isFactor : ByteArray := prog_13_method_78_code
def yX11_isFactor : MethodName := ⟨RX11, "isFactor", "()Z"⟩
abbrev cX11_wrongSet : ByteArray := prog_13_method_79_code
def yX11_wrongSet : MethodName := ⟨RX11, "wrongSet", "()I"⟩
abbrev cX11_factor : ByteArray := prog_13_method_80_code
def yX11_factor : MethodName := ⟨RX11, "factor", "()I"⟩
abbrev cX11_product : ByteArray := prog_13_method_81_code
def yX11_product : MethodName := ⟨RX11, "product", "()I"⟩
abbrev cX11_sums : ByteArray := prog_13_method_82_code
def yX11_sums : MethodName := ⟨RX11, "sums", "()I"⟩
abbrev cX11_found : ByteArray := prog_13_method_83_code
def yX11_found : MethodName := ⟨RX11, "found", "()I"⟩
abbrev cX11_search : ByteArray := prog_13_method_84_code
def yX11_search : MethodName := ⟨RX11, "search", "()I"⟩
abbrev cX11_matches : ByteArray := prog_13_method_85_code
def yX11_matches : MethodName := ⟨RX11, "matches", "(I)Z"⟩
abbrev cX11_says : ByteArray := prog_13_method_86_code
def yX11_says : MethodName := ⟨RX11, "says", "(Ljava/lang/String;)V"⟩
abbrev cX11_number : ByteArray := prog_13_method_87_code
def yX11_number : MethodName := ⟨RX11, "number", "(Ljava/lang/String;II)V"⟩
abbrev cX11_term : ByteArray := prog_13_method_88_code
def yX11_term : MethodName := ⟨RX11, "term", "(Ljava/lang/String;)V"⟩
abbrev cX11_readsOne : ByteArray := prog_13_method_89_code
def yX11_readsOne : MethodName := ⟨RX11, "readsOne", "()V"⟩
abbrev cX11_does : ByteArray := prog_13_method_90_code
def yX11_does : MethodName := ⟨RX11, "does", "(I)I"⟩
abbrev cX11_execute : ByteArray := prog_13_method_91_code
def yX11_execute : MethodName := ⟨RX11, "execute", "()I"⟩
abbrev cX11_faultPosition : ByteArray := prog_13_method_92_code
def yX11_faultPosition : MethodName := ⟨RX11, "faultPosition", "()I"⟩
abbrev cX11_writes : ByteArray := prog_13_method_93_code
def yX11_writes : MethodName := ⟨RX11, "writes", "(I)V"⟩
abbrev cX11_writeSection : ByteArray := prog_13_method_94_code
def yX11_writeSection : MethodName := ⟨RX11, "writeSection", "(I)I"⟩
abbrev cX11_writePile : ByteArray := prog_13_method_95_code
def yX11_writePile : MethodName := ⟨RX11, "writePile", "()I"⟩
abbrev cX11_lineCharacter : ByteArray := prog_13_method_96_code
def yX11_lineCharacter : MethodName := ⟨RX11, "lineCharacter", "(I)C"⟩
abbrev cX11_denial : ByteArray := prog_13_method_97_code
def yX11_denial : MethodName := ⟨RX11, "denial", "()I"⟩
abbrev cX11_denialDetail : ByteArray := prog_13_method_98_code
def yX11_denialDetail : MethodName := ⟨RX11, "denialDetail", "()I"⟩
abbrev cX11_denialCause : ByteArray := prog_13_method_99_code
def yX11_denialCause : MethodName := ⟨RX11, "denialCause", "()I"⟩
abbrev cX11_undo : ByteArray := prog_13_method_100_code
def yX11_undo : MethodName := ⟨RX11, "undo", "()I"⟩
abbrev cX11_undoCount : ByteArray := prog_13_method_101_code
def yX11_undoCount : MethodName := ⟨RX11, "undoCount", "()I"⟩
abbrev cX11_saveSnapshot : ByteArray := prog_13_method_102_code
def yX11_saveSnapshot : MethodName := ⟨RX11, "saveSnapshot", "()I"⟩
abbrev cX11_restoreSnapshot : ByteArray := prog_13_method_103_code
def yX11_restoreSnapshot : MethodName := ⟨RX11, "restoreSnapshot", "()I"⟩
def RJx145de : String := "java/io/Serializable"
def RJx00060 : String := "java/lang/ArrayIndexOutOfBoundsException"
abbrev cJx00060_init_a7421 : ByteArray := prog_16_method_2_code
def yJx00060_init_a7421 : MethodName := ⟨RJx00060, "<init>", "(Ljava/lang/String;)V"⟩
def RJx9f9b0 : String := "java/lang/CharSequence"
def RJxb160c : String := "java/lang/Comparable"
def RJ6 : String := "java/lang/Integer"
abbrev cJ6_bitCount_0f7a4 : ByteArray := prog_23_method_49_code
def yJ6_bitCount_0f7a4 : MethodName := ⟨RJ6, "bitCount", "(I)I"⟩
def RJ9 : String := "java/lang/Math"
abbrev cJ9_max_7cf53 : ByteArray := prog_24_method_65_code
def yJ9_max_7cf53 : MethodName := ⟨RJ9, "max", "(II)I"⟩
abbrev cJ9_min_7cf53 : ByteArray := prog_24_method_69_code
def yJ9_min_7cf53 : MethodName := ⟨RJ9, "min", "(II)I"⟩
def RJ0 : String := "java/lang/String"
def TJ0 : u_T := fun k => match k with
  | 0 => ("java/lang/String", "value", "[B", true)
  | _ => ("java/lang/String", "coder", "B", true)
def tyJ0 : Nat → FieldType := fun k => match k with
  | 0 => .array .byte
  | _ => .byte
abbrev wsJ00 : List Cond := u_ws RJ0 TJ0 2
theorem nmJ0 : ∀ a, a < 2 → ∀ b, b < 2 → a ≠ b → (TJ0 a).2.1 ≠ (TJ0 b).2.1 := by decide +kernel
theorem tyJ0_ok : ∀ k, k < 2 → parseFieldDescriptor (TJ0 k).2.2.1 = some (tyJ0 k) := by decide +kernel
abbrev cJ0_length_8abf5 : ByteArray := prog_26_method_54_code
def yJ0_length_8abf5 : MethodName := ⟨RJ0, "length", "()I"⟩
abbrev cJ0_charAt_5068e : ByteArray := prog_26_method_56_code
def yJ0_charAt_5068e : MethodName := ⟨RJ0, "charAt", "(I)C"⟩
abbrev cJ0_coder_7d493 : ByteArray := prog_26_method_152_code
def yJ0_coder_7d493 : MethodName := ⟨RJ0, "coder", "()B"⟩
abbrev cJ0_isLatin1_aae02 : ByteArray := prog_26_method_154_code
def yJ0_isLatin1_aae02 : MethodName := ⟨RJ0, "isLatin1", "()Z"⟩
abbrev cJ0_checkIndex_df160 : ByteArray := prog_26_method_155_code
def yJ0_checkIndex_df160 : MethodName := ⟨RJ0, "checkIndex", "(II)V"⟩
def RJ1 : String := "java/lang/StringLatin1"
abbrev cJ1_charAt_3b067 : ByteArray := prog_27_method_2_code
def yJ1_charAt_3b067 : MethodName := ⟨RJ1, "charAt", "([BI)C"⟩
def RJ2 : String := "java/lang/StringUTF16"
abbrev cJ2_getChar_3b067 : ByteArray := prog_28_method_5_code
def yJ2_getChar_3b067 : MethodName := ⟨RJ2, "getChar", "([BI)C"⟩
abbrev cJ2_length_9d52b : ByteArray := prog_28_method_6_code
def yJ2_length_9d52b : MethodName := ⟨RJ2, "length", "([B)I"⟩
abbrev cJ2_charAt_3b067 : ByteArray := prog_28_method_83_code
def yJ2_charAt_3b067 : MethodName := ⟨RJ2, "charAt", "([BI)C"⟩
abbrev cJ2_checkIndex_2214a : ByteArray := prog_28_method_91_code
def yJ2_checkIndex_2214a : MethodName := ⟨RJ2, "checkIndex", "(I[B)V"⟩
def RJ10 : String := "java/lang/System"
def RJxfd54e : String := "java/lang/constant/Constable"
def RJx3cf43 : String := "java/lang/constant/ConstantDesc"
def RJ3 : String := "jdk/internal/util/Preconditions"
abbrev cJ3_checkIndex_8e157 : ByteArray := prog_35_method_11_code
def yJ3_checkIndex_8e157 : MethodName := ⟨RJ3, "checkIndex", "(IILjava/util/function/BiFunction;)I"⟩
def RL : String := "FoldedArchiveLaw"
abbrev cL_addSection : ByteArray := method_3_code
def yL_addSection : MethodName := ⟨RL, "addSection", "(LFoldedArchive;[J)I"⟩
abbrev cL_pour : ByteArray := method_4_code
def yL_pour : MethodName := ⟨RL, "pour", "(LFoldedArchive;II[J)I"⟩
abbrev cL_tag : ByteArray := method_5_code
def yL_tag : MethodName := ⟨RL, "tag", "(LFoldedArchive;IC[J)I"⟩
abbrev cL_untag : ByteArray := method_6_code
def yL_untag : MethodName := ⟨RL, "untag", "(LFoldedArchive;IC[J)I"⟩
abbrev cL_water : ByteArray := method_7_code
def yL_water : MethodName := ⟨RL, "water", "(LFoldedArchive;I[J)I"⟩
abbrev cL_hasTerm : ByteArray := method_8_code
def yL_hasTerm : MethodName := ⟨RL, "hasTerm", "(LFoldedArchive;IC[J)I"⟩
abbrev cL_sectionsWith : ByteArray := method_9_code
def yL_sectionsWith : MethodName := ⟨RL, "sectionsWith", "(LFoldedArchive;C[J)I"⟩
abbrev cL_sectionByWater : ByteArray := method_10_code
def yL_sectionByWater : MethodName := ⟨RL, "sectionByWater", "(LFoldedArchive;I[J)I"⟩
abbrev cL_fold : ByteArray := method_11_code
def yL_fold : MethodName := ⟨RL, "fold", "(LFoldedArchive;I[J)I"⟩
abbrev cL_unfold : ByteArray := method_12_code
def yL_unfold : MethodName := ⟨RL, "unfold", "(LFoldedArchive;[J)I"⟩
abbrev cL_layerOf : ByteArray := method_13_code
def yL_layerOf : MethodName := ⟨RL, "layerOf", "(LFoldedArchive;I[J)I"⟩
abbrev cL_sectionIn : ByteArray := method_14_code
def yL_sectionIn : MethodName := ⟨RL, "sectionIn", "(LFoldedArchive;I[J)I"⟩
abbrev cL_canFold : ByteArray := method_15_code
def yL_canFold : MethodName := ⟨RL, "canFold", "(LFoldedArchive;I[J)I"⟩
abbrev cL_layPipe : ByteArray := method_16_code
def yL_layPipe : MethodName := ⟨RL, "layPipe", "(LFoldedArchive;III[J)I"⟩
abbrev cL_removePipe : ByteArray := method_17_code
def yL_removePipe : MethodName := ⟨RL, "removePipe", "(LFoldedArchive;I[J)I"⟩
abbrev cL_breakPipe : ByteArray := method_18_code
def yL_breakPipe : MethodName := ⟨RL, "breakPipe", "(LFoldedArchive;I[J)I"⟩
abbrev cL_mendPipe : ByteArray := method_19_code
def yL_mendPipe : MethodName := ⟨RL, "mendPipe", "(LFoldedArchive;I[J)I"⟩
abbrev cL_pipeFrom : ByteArray := method_20_code
def yL_pipeFrom : MethodName := ⟨RL, "pipeFrom", "(LFoldedArchive;I[J)I"⟩
abbrev cL_pipeTo : ByteArray := method_21_code
def yL_pipeTo : MethodName := ⟨RL, "pipeTo", "(LFoldedArchive;I[J)I"⟩
abbrev cL_capacity : ByteArray := method_22_code
def yL_capacity : MethodName := ⟨RL, "capacity", "(LFoldedArchive;I[J)I"⟩
abbrev cL_isBroken : ByteArray := method_23_code
def yL_isBroken : MethodName := ⟨RL, "isBroken", "(LFoldedArchive;I[J)I"⟩
abbrev cL_greatestFlow : ByteArray := method_24_code
def yL_greatestFlow : MethodName := ⟨RL, "greatestFlow", "(LFoldedArchive;[J)I"⟩
abbrev cL_smallestCut : ByteArray := method_25_code
def yL_smallestCut : MethodName := ⟨RL, "smallestCut", "(LFoldedArchive;[J)I"⟩
abbrev cL_lossOf : ByteArray := method_26_code
def yL_lossOf : MethodName := ⟨RL, "lossOf", "(LFoldedArchive;I[J)I"⟩
abbrev cL_drain : ByteArray := method_27_code
def yL_drain : MethodName := ⟨RL, "drain", "(LFoldedArchive;[J)I"⟩
abbrev cL_seep : ByteArray := method_28_code
def yL_seep : MethodName := ⟨RL, "seep", "(LFoldedArchive;[J)I"⟩
abbrev cL_meanWater : ByteArray := method_29_code
def yL_meanWater : MethodName := ⟨RL, "meanWater", "(LFoldedArchive;[D)I"⟩
abbrev cL_leakedShare : ByteArray := method_30_code
def yL_leakedShare : MethodName := ⟨RL, "leakedShare", "(LFoldedArchive;[D)I"⟩
abbrev cL_feed : ByteArray := method_31_code
def yL_feed : MethodName := ⟨RL, "feed", "(LFoldedArchive;C[J)I"⟩
abbrev cL_search : ByteArray := method_32_code
def yL_search : MethodName := ⟨RL, "search", "(LFoldedArchive;[J)I"⟩
abbrev cL_matches : ByteArray := method_33_code
def yL_matches : MethodName := ⟨RL, "matches", "(LFoldedArchive;I[J)I"⟩
abbrev cL_execute : ByteArray := method_34_code
def yL_execute : MethodName := ⟨RL, "execute", "(LFoldedArchive;[J)I"⟩
abbrev cL_faultPosition : ByteArray := method_35_code
def yL_faultPosition : MethodName := ⟨RL, "faultPosition", "(LFoldedArchive;[J)I"⟩
abbrev cL_writeSection : ByteArray := method_36_code
def yL_writeSection : MethodName := ⟨RL, "writeSection", "(LFoldedArchive;I[J)I"⟩
abbrev cL_lineCharacter : ByteArray := method_37_code
def yL_lineCharacter : MethodName := ⟨RL, "lineCharacter", "(LFoldedArchive;I[J)I"⟩
abbrev cL_denial : ByteArray := method_38_code
def yL_denial : MethodName := ⟨RL, "denial", "(LFoldedArchive;[J)I"⟩
abbrev cL_denialDetail : ByteArray := method_39_code
def yL_denialDetail : MethodName := ⟨RL, "denialDetail", "(LFoldedArchive;[J)I"⟩
abbrev cL_denialCause : ByteArray := method_40_code
def yL_denialCause : MethodName := ⟨RL, "denialCause", "(LFoldedArchive;[J)I"⟩
abbrev cL_undo : ByteArray := method_41_code
def yL_undo : MethodName := ⟨RL, "undo", "(LFoldedArchive;[J)I"⟩
abbrev cL_restoreSnapshot : ByteArray := method_42_code
def yL_restoreSnapshot : MethodName := ⟨RL, "restoreSnapshot", "(LFoldedArchive;[J)I"⟩
abbrev cL_law : ByteArray := code
def yL_law : MethodName := ⟨RL, "law", "([I)Z"⟩
end
section
/-! The store: an int for each field and each element of every cell; beside it the long and the double of the law. A cell's shape stands in TT, by its place. -/
abbrev XW : Type := (Nat → Nat → Int32) × Int64 × UInt64
def wset (w : XW) (k j : Nat) (v : Int32) : XW := (fun a c => if a = k ∧ c = j then v else w.1 a c, w.2)
def wcpy (w : XW) (sk sp dk dp n : Nat) : XW := (fun a c => if a = dk ∧ dp ≤ c ∧ c < dp + n then w.1 sk (sp + (c - dp)) else w.1 a c, w.2)
abbrev Sh : Type := Nat × Nat × List (Option Nat)
def TT0 : List Sh := [(0, 10, [some 1, some 12, some 23, some 34, some 124, some 128, some 132, some 134, some 136, some 138, none, none, none, none, none]), (0, 8, [some 2, some 5, some 7]), (0, 9, [none, none, none, some 3, some 4]), (1, 7, []), (1, 7, []), (0, 4, [none, some 6]), (1, 7, []), (0, 5, [none, some 8, some 9, some 10, some 11]), (1, 10, []), (1, 10, []), (1, 10, []), (2, 10, []), (0, 8, [some 13, some 16, some 18]), (0, 9, [none, none, none, some 14, some 15]), (1, 7, []), (1, 7, []), (0, 4, [none, some 17]), (1, 7, []), (0, 5, [none, some 19, some 20, some 21, some 22]), (1, 10, []), (1, 10, []), (1, 10, []), (2, 10, []), (0, 8, [some 24, some 27, some 29]), (0, 9, [none, none, none, some 25, some 26]), (1, 7, []), (1, 7, []), (0, 4, [none, some 28]), (1, 7, []), (0, 5, [none, some 30, some 31, some 32, some 33]), (1, 10, []), (1, 10, []), (1, 10, []), (2, 10, []), (0, 3, [some 35, none, none]), (6, 8, [some 36, some 47, some 58, some 69, some 80, some 91, some 102, some 113]), (0, 8, [some 37, some 40, some 42]), (0, 9, [none, none, none, some 38, some 39])]
def TT1 : List Sh := [(1, 7, []), (1, 7, []), (0, 4, [none, some 41]), (1, 7, []), (0, 5, [none, some 43, some 44, some 45, some 46]), (1, 10, []), (1, 10, []), (1, 10, []), (2, 10, []), (0, 8, [some 48, some 51, some 53]), (0, 9, [none, none, none, some 49, some 50]), (1, 7, []), (1, 7, []), (0, 4, [none, some 52]), (1, 7, []), (0, 5, [none, some 54, some 55, some 56, some 57]), (1, 10, []), (1, 10, []), (1, 10, []), (2, 10, []), (0, 8, [some 59, some 62, some 64]), (0, 9, [none, none, none, some 60, some 61]), (1, 7, []), (1, 7, []), (0, 4, [none, some 63]), (1, 7, []), (0, 5, [none, some 65, some 66, some 67, some 68]), (1, 10, []), (1, 10, []), (1, 10, []), (2, 10, []), (0, 8, [some 70, some 73, some 75]), (0, 9, [none, none, none, some 71, some 72]), (1, 7, []), (1, 7, []), (0, 4, [none, some 74]), (1, 7, []), (0, 5, [none, some 76, some 77, some 78, some 79])]
def TT2 : List Sh := [(1, 10, []), (1, 10, []), (1, 10, []), (2, 10, []), (0, 8, [some 81, some 84, some 86]), (0, 9, [none, none, none, some 82, some 83]), (1, 7, []), (1, 7, []), (0, 4, [none, some 85]), (1, 7, []), (0, 5, [none, some 87, some 88, some 89, some 90]), (1, 10, []), (1, 10, []), (1, 10, []), (2, 10, []), (0, 8, [some 92, some 95, some 97]), (0, 9, [none, none, none, some 93, some 94]), (1, 7, []), (1, 7, []), (0, 4, [none, some 96]), (1, 7, []), (0, 5, [none, some 98, some 99, some 100, some 101]), (1, 10, []), (1, 10, []), (1, 10, []), (2, 10, []), (0, 8, [some 103, some 106, some 108]), (0, 9, [none, none, none, some 104, some 105]), (1, 7, []), (1, 7, []), (0, 4, [none, some 107]), (1, 7, []), (0, 5, [none, some 109, some 110, some 111, some 112]), (1, 10, []), (1, 10, []), (1, 10, []), (2, 10, []), (0, 8, [some 114, some 117, some 119])]
def TT3 : List Sh := [(0, 9, [none, none, none, some 115, some 116]), (1, 7, []), (1, 7, []), (0, 4, [none, some 118]), (1, 7, []), (0, 5, [none, some 120, some 121, some 122, some 123]), (1, 10, []), (1, 10, []), (1, 10, []), (2, 10, []), (0, 1, [some 125, some 126, some 127]), (1, 49, []), (1, 7, []), (1, 7, []), (0, 2, [some 129, some 131]), (0, 4, [none, some 130]), (1, 7, []), (1, 7, []), (0, 6, [some 133, none]), (3, 60, []), (0, 6, [some 135, none]), (3, 14, []), (0, 7, [some 137, none, none, none]), (1, 8, []), (0, 0, [some 139, some 140, none, none, none, none]), (1, 60, []), (1, 180, []), (0, 11, [none, some 142, some 143, some 144, some 145, none, none, some 146, some 147, some 148, some 149, none, none, none, none, none, none, none, none, none, none, none, none]), (1, 66, []), (1, 66, []), (1, 66, []), (1, 528, []), (1, 60, []), (1, 240, []), (1, 40, []), (1, 7, []), (4, 1, []), (5, 1, [])]
def TT : List Sh := TT0 ++ (TT1 ++ (TT2 ++ (TT3)))
def strTab : List (String × Nat × String × List Int32) := [("FoldedArchive$CommandReader", 59, "add", [97, 100, 100]), ("FoldedArchive$CommandReader", 61, "pour D N", [112, 111, 117, 114, 32, 68, 32, 78]), ("FoldedArchive$CommandReader", 63, "tag DT", [116, 97, 103, 32, 68, 84]), ("FoldedArchive$CommandReader", 65, "untag DT", [117, 110, 116, 97, 103, 32, 68, 84]), ("FoldedArchive$CommandReader", 67, "fold D", [102, 111, 108, 100, 32, 68]), ("FoldedArchive$CommandReader", 69, "open", [111, 112, 101, 110]), ("FoldedArchive$CommandReader", 71, "pipe D>D N", [112, 105, 112, 101, 32, 68, 62, 68, 32, 78]), ("FoldedArchive$CommandReader", 73, "cut D", [99, 117, 116, 32, 68]), ("FoldedArchive$CommandReader", 75, "break D", [98, 114, 101, 97, 107, 32, 68]), ("FoldedArchive$CommandReader", 77, "mend D", [109, 101, 110, 100, 32, 68]), ("FoldedArchive$CommandReader", 79, "drain", [100, 114, 97, 105, 110]), ("FoldedArchive$CommandReader", 81, "seep", [115, 101, 101, 112]), ("FoldedArchiveModel", 238, "add", [97, 100, 100]), ("FoldedArchiveModel", 240, "pipe ", [112, 105, 112, 101, 32]), ("FoldedArchiveModel", 242, "pour ", [112, 111, 117, 114, 32]), ("FoldedArchiveModel", 244, ">", [62]), ("FoldedArchiveModel", 246, " ", [32]), ("FoldedArchiveModel", 248, "tag ", [116, 97, 103, 32]), ("FoldedArchiveModel", 253, "untag ", [117, 110, 116, 97, 103, 32]), ("FoldedArchiveModel", 255, "fold ", [102, 111, 108, 100, 32]), ("FoldedArchiveModel", 257, "open", [111, 112, 101, 110]), ("FoldedArchiveModel", 258, "cut ", [99, 117, 116, 32]), ("FoldedArchiveModel", 260, "break ", [98, 114, 101, 97, 107, 32]), ("FoldedArchiveModel", 262, "mend ", [109, 101, 110, 100, 32]), ("FoldedArchiveModel", 264, "drain", [100, 114, 97, 105, 110]), ("FoldedArchiveModel", 266, "seep", [115, 101, 101, 112])]
abbrev vwCl : List vw_C := [(RX0, TX0, 6), (RX1, TX1, 3), (RX2, TX2, 2), (RX3, TX3, 3), (RX4, TX4, 2), (RX5, TX5, 5), (RX6, TX6, 2), (RX7, TX7, 4), (RX8, TX8, 3), (RX9, TX9, 5), (RX10, TX10, 15), (RX11, TX11, 23)]
/-! ===== the shapes' cells ===== -/
def layF (b : Nat) (f : Nat → Int32) : Nat → List (Option Nat) → List Value
  | _, [] => []
  | j, none :: r => .int (f j) :: layF b f (j + 1) r
  | j, some t :: r => .ref (b + t) :: layF b f (j + 1) r
theorem layF_get (b : Nat) (f : Nat → Int32) : ∀ (fs : List (Option Nat)) (j0 j : Nat), (layF b f j0 fs)[j]? = (fs[j]?).map (fun x => match x with | none => .int (f (j0 + j)) | some t => .ref (b + t)) := by
  intro fs
  induction fs with
  | nil => intro j0 j; simp [layF]
  | cons x r ih =>
    intro j0 j
    cases x with
    | none =>
      cases j with
      | zero => simp [layF]
      | succ j => simp only [layF, List.getElem?_cons_succ, ih]; rw [show j0 + 1 + j = j0 + (j + 1) by omega]
    | some t =>
      cases j with
      | zero => simp [layF]
      | succ j => simp only [layF, List.getElem?_cons_succ, ih]; rw [show j0 + 1 + j = j0 + (j + 1) by omega]
theorem layF_len (b : Nat) (f : Nat → Int32) : ∀ (fs : List (Option Nat)) (j0 : Nat), (layF b f j0 fs).length = fs.length := by
  intro fs
  induction fs with
  | nil => intro j0; rfl
  | cons x r ih => intro j0; cases x <;> simp [layF, ih]
theorem layF_set (b : Nat) (f : Nat → Int32) (fs : List (Option Nat)) (j : Nat) (v : Int32) (h : fs[j]? = some none) : (layF b f 0 fs).set j (.int v) = layF b (fun c => if c = j then v else f c) 0 fs := by
  apply List.ext_getElem?
  intro i
  rw [layF_get, List.getElem?_set, layF_get, layF_len]
  have hl : j < fs.length := (List.getElem?_eq_some_iff.mp h).1
  by_cases hij : j = i
  · subst hij
    rw [if_pos rfl, if_pos hl, h]
    simp
  · rw [if_neg hij]
    cases hfi : fs[i]? with
    | none => rfl
    | some x =>
      cases x with
      | none => simp [Ne.symm hij]
      | some t => simp
/-- the launch; where the world begins; the array classes; the classes' numbers; the String constants and their bytes; the script: its place, its length, its ints -/
abbrev GC : Type := Launch × Nat × (Nat → ClassId) × va_G × (Nat → Nat) × (Nat → Nat) × Nat × Nat × (Nat → Int32)
def layE (g : GC) (w : XW) (k : Nat) (q : Sh) : va_E := match q.1 with
  | 0 => .inr (q.2.1, layF g.2.1 (w.1 k) 0 q.2.2)
  | 1 => .inl (g.2.2.1 0, q.2.1, .inl (w.1 k))
  | 2 => .inl (g.2.2.1 1, q.2.1, .inl (w.1 k))
  | 3 => .inl (g.2.2.1 2, q.2.1, .inl (w.1 k))
  | 4 => .inl (g.2.2.1 3, q.2.1, .inr (.inl (fun _ => w.2.1)))
  | 5 => .inl (g.2.2.1 4, q.2.1, .inr (.inr (.inr (.inl (fun _ => w.2.2)))))
  | _ => .inl (g.2.2.1 5, q.2.1, .inr (.inr (.inr (.inr (fun j => (q.2.2.getD j none).map (g.2.1 + ·))))))
theorem layE_same {g : GC} {w w' : XW} {k : Nat} {q : Sh} (h1 : w'.1 k = w.1 k) (h2 : w'.2 = w.2) : layE g w' k q = layE g w k q := by
  unfold layE
  rw [h1, h2]
theorem wset_ne {w : XW} {k j k' : Nat} {v : Int32} (h : k' ≠ k) : (wset w k j v).1 k' = w.1 k' := by
  funext c
  simp [wset, h]
theorem wset_eq {w : XW} {k j : Nat} {v : Int32} : (wset w k j v).1 k = fun c => if c = j then v else w.1 k c := by
  funext c
  simp [wset]
theorem wcpy_ne {w : XW} {sk sp dk dp n k' : Nat} (h : k' ≠ dk) : (wcpy w sk sp dk dp n).1 k' = w.1 k' := by
  funext c
  simp [wcpy, h]
theorem wcpy_eq {w : XW} {sk sp dk dp n : Nat} : (wcpy w sk sp dk dp n).1 dk = va_cpy (w.1 sk) (w.1 dk) sp dp n := by
  funext c
  simp [wcpy, va_cpy]
def tysL (g : GC) : List (ClassId × FieldType) := [(g.2.2.1 0, .int), (g.2.2.1 1, .boolean), (g.2.2.1 2, .char), (g.2.2.1 3, .long), (g.2.2.1 4, .double), (g.2.2.1 5, .object "FoldedArchive$State")]
/-! ===== the world: every cell of TT lies at its place ===== -/
def RW (g : GC) (w : XW) (H : Heap) : Prop := ∀ (k : Nat) (q : Sh), TT[k]? = some q → va_at g.2.2.2.1 vwCl (g.2.1 + k, layE g w k q) H
theorem RW.one {g : GC} {w : XW} {H : Heap} (h : RW g w H) {k : Nat} {q : Sh} (hk : TT[k]? = some q) : va_P g.2.2.2.1 vwCl [(g.2.1 + k, layE g w k q)] H := by
  intro i x hx
  have hz : i < 1 := (List.getElem?_eq_some_iff.mp hx).1
  rw [show i = 0 by omega] at hx
  cases hx
  exact h k q hk
theorem RW.put {g : GC} {w w' : XW} {H H1 : Heap} {k : Nat} {q : Sh} (h : RW g w H) (hk : TT[k]? = some q) (he : va_at g.2.2.2.1 vwCl (g.2.1 + k, layE g w' k q) H1) (oq : ∀ a : Nat, a ≠ g.2.1 + k → H1[a]? = H[a]?) (h1 : ∀ k', k' ≠ k → w'.1 k' = w.1 k') (h2 : w'.2 = w.2 ∨ ∀ (k' : Nat) (q' : Sh), k' ≠ k → TT[k']? = some q' → layE g w' k' q' = layE g w k' q') : RW g w' H1 := by
  intro k' q' hk'
  by_cases hkk : k' = k
  · subst hkk
    cases hk.symm.trans hk'
    exact he
  · have e : layE g w' k' q' = layE g w k' q' := by
      rcases h2 with h2 | h2
      · exact layE_same (h1 k' hkk) h2
      · exact h2 k' q' hkk hk'
    rw [e]
    exact (h k' q' hk').kept (oq _ (fun z => hkk (by simp only at z; omega)))
theorem RW.kept {g : GC} {w : XW} {H H1 : Heap} (h : RW g w H) (hq : ∀ a : Nat, a < H.size → H1[a]? = H[a]?) : RW g w H1 := fun k q hk => (h k q hk).kept (hq _ ((h k q hk).lt))
/-! ===== what lies below: statics of the throws, String constants ===== -/
def GW : List Cond := lw_tbl.filter goodWord
theorem GW_good {w : Cond} (h : w ∈ GW) : (w.onTables && w.keeps) = true ∨ ∃ ty, w = .arrayClass ty := good_of_word (List.mem_filter.mp h).2
theorem GW_of (i : Nat) {w : Cond} (h : lw_tbl[i]? = some w) (hg : goodWord w = true) : w ∈ GW := List.mem_filter.mpr ⟨List.mem_of_getElem? h, hg⟩
def SFs (g : GC) (U : State) (H : Heap) : Prop :=
  vx_Zq Bundle.tN "UNASSIGNED_STACK" Bundle.steD (fun q => g.2.1 ≤ q) U H ∧ vx_Zq Bundle.tN "SUPPRESSED_SENTINEL" Bundle.listD (fun q => g.2.1 ≤ q) U H ∧
  va_Z "java/lang/String" "COMPACT_STRINGS" "Z" (.int 1) (fun q => g.2.1 ≤ q) U H ∧ va_T .int g.2.2.2.2.2.2.1 g.2.2.2.2.2.2.2.1 (fun j => .int (g.2.2.2.2.2.2.2.2 j)) (fun q => g.2.1 ≤ q) U H ∧
  ∀ (i : Nat) (q : String × Nat × String × List Int32), strTab[i]? = some q → va_O "java/lang/String" (g.2.2.2.2.1 i) (fun q => g.2.1 ≤ q) U H ∧ va_OF "java/lang/String" "coder" "B" (.int 0) (g.2.2.2.2.1 i) (fun q => g.2.1 ≤ q) U H ∧ va_OF "java/lang/String" "value" "[B" (.ref (g.2.2.2.2.2.1 i)) (g.2.2.2.2.1 i) (fun q => g.2.1 ≤ q) U H ∧ va_T .byte (g.2.2.2.2.2.1 i) q.2.2.2.length (fun j => .int (q.2.2.2.getD j 0)) (fun q => g.2.1 ≤ q) U H
theorem SFs.moved {g : GC} {u U : State} {H : Heap} (hvm : u.vm.Alike U.vm) (h : SFs g u H) : SFs g U H :=
  ⟨h.1.moved hvm, h.2.1.moved hvm, h.2.2.1.moved hvm, h.2.2.2.1.moved hvm, fun i q hi => ⟨(h.2.2.2.2 i q hi).1.moved hvm, (h.2.2.2.2 i q hi).2.1.moved hvm, (h.2.2.2.2 i q hi).2.2.1.moved hvm, (h.2.2.2.2 i q hi).2.2.2.moved hvm⟩⟩
theorem SFs.kept {g : GC} {U : State} {H H1 : Heap} (h : SFs g U H) (hq : ∀ a : Nat, a < H.size → ¬ (g.2.1 ≤ a) → H1[a]? = H[a]?) : SFs g U H1 :=
  ⟨h.1.kept hq, h.2.1.kept hq, h.2.2.1.kept hq, h.2.2.2.1.kept hq, fun i q hi => ⟨(h.2.2.2.2 i q hi).1.kept hq, (h.2.2.2.2 i q hi).2.1.kept hq, (h.2.2.2.2 i q hi).2.2.1.kept hq, (h.2.2.2.2 i q hi).2.2.2.kept hq⟩⟩
def ncTab : List (String × String) := [("java/lang/IllegalArgumentException", "java/lang/IndexOutOfBoundsException"), ("java/lang/UnsupportedOperationException", "java/lang/IndexOutOfBoundsException"), ("java/lang/UnsupportedOperationException", "java/lang/IllegalArgumentException"), ("java/util/NoSuchElementException", "java/lang/IndexOutOfBoundsException")]
def NGW : List Cond := [.castable "java/lang/IndexOutOfBoundsException" "java/lang/IndexOutOfBoundsException", .castable "java/lang/IllegalArgumentException" "java/lang/IllegalArgumentException", .castable "java/lang/UnsupportedOperationException" "java/lang/UnsupportedOperationException", .castable "java/util/NoSuchElementException" "java/util/NoSuchElementException", .castable "java/lang/ArithmeticException" "java/lang/ArithmeticException", .castable "java/lang/IllegalStateException" "java/lang/IllegalStateException", .declares ⟨"java/lang/RuntimeException", "<init>", "()V"⟩, .declares ⟨"java/lang/Exception", "<init>", "()V"⟩, .declares ⟨"java/lang/Throwable", "<init>", "()V"⟩]
theorem ng_castable {C T : String} {u U : State} {a a' : Array Value} (hvm : u.vm.Alike U.vm) (h : (Cond.castable C T).before a u = true) : (Cond.castable C T).before a' U = true := by
  simp only [Cond.before, Cond.holds, Cond.value, hvm.findClass, hvm.assignable] at h ⊢
  exact h
theorem ng_declares {x : MethodName} {u U : State} {a a' : Array Value} (hvm : u.vm.Alike U.vm) (h : (Cond.declares x).before a u = true) : (Cond.declares x).before a' U = true := by
  have e1 : U.methodNamed? x = u.methodNamed? x := State.methodNamed?_setVm hvm x
  have e2 : U.vm.method? = u.vm.method? := funext hvm.method?
  simp only [Cond.before, Cond.holds, Cond.value, e1, e2] at h ⊢
  exact h
theorem ng_moved {u U : State} {a a' : Array Value} (hvm : u.vm.Alike U.vm) {w : Cond} (hw : w ∈ NGW) (h : w.before a u = true) : w.before a' U = true := by
  simp only [NGW, List.mem_cons, List.not_mem_nil, or_false] at hw
  rcases hw with rfl | rfl | rfl | rfl | rfl | rfl | rfl | rfl | rfl
  · exact ng_castable hvm h
  · exact ng_castable hvm h
  · exact ng_castable hvm h
  · exact ng_castable hvm h
  · exact ng_castable hvm h
  · exact ng_castable hvm h
  · exact ng_declares hvm h
  · exact ng_declares hvm h
  · exact ng_declares hvm h
def STR (g : GC) (U : State) : Prop := (∀ w ∈ NGW, w.before #[] U = true) ∧ (∀ (i : Nat) (q : String × Nat × String × List Int32), strTab[i]? = some q → vk_R q.1 q.2.1 q.2.2.1 (g.2.2.2.2.1 i) U) ∧ ∀ q ∈ ncTab, va_Nc q.1 q.2 U
/-! ===== outcomes, contracts ===== -/
abbrev Out : Type := (Option Value ⊕ String) × XW
def PO (g : GC) (av : List Value) (w : XW) : Array Value → State → Prop := fun v U => v = av.toArray ∧ g.2.1 ≤ U.heap.size ∧ RW g w U.heap ∧ va_K g.2.2.2.1 vwCl (tysL g) U ∧ SFs g U U.heap ∧ STR g U
def QO (g : GC) (o : Out) : Array Value → State → Outcome → State → Prop := fun _ st oc t => (∃ v, o.1 = .inl v ∧ oc = .returned v) ∧ RW g o.2 t.heap ∧ va_F (fun q => g.2.1 ≤ q) st t
def XO (g : GC) (o : Out) : String → State → State → Prop := fun E st t => o.1 = .inr E ∧ RW g o.2 t.heap ∧ va_F (fun q => g.2.1 ≤ q) st t
def MM (g : GC) (hd : Cond) (y : MethodName) (rm : Room) (mc ms : Nat) (av : List Value) (w : XW) (o : Out) : Prop := vx_Met g.1 y (hd :: GW) rm (PO g av w) (QO g o) (XO g o) mc ms (fun q => g.2.1 ≤ q)
theorem PO_blind {g : GC} {av : List Value} {w : XW} : FrameBlind (PO g av w) := fun a U f mk q => ⟨q.1, q.2.1, q.2.2.1, va_K.moved (u := U) (U := U.calling f mk a) (Vm.Alike.refl U.vm) q.2.2.2.1, SFs.moved (u := U) (U := U.calling f mk a) (Vm.Alike.refl U.vm) q.2.2.2.2.1, fun w hw => ng_moved (u := U) (U := U.calling f mk a) (Vm.Alike.refl U.vm) hw (q.2.2.2.2.2.1 w hw), fun i x hx => vk_R.same (u := U) (U := U.calling f mk a) rfl (q.2.2.2.2.2.2.1 i x hx), fun x hx => va_Nc.moved (u := U) (U := U.calling f mk a) (Vm.Alike.refl U.vm) (q.2.2.2.2.2.2.2 x hx)⟩
/-- what holds of a method's frame all along -/
def FX (g : GC) (cc : ByteArray) (nL : Nat) (own : String) (rt : Option FieldType) (hh : List (Nat × Nat × Nat × Nat)) (p : Program) (s : State) (m : MethodId) (args : Array Value) (meth : Method) (c : Code) : Prop :=
  p.tables.exec = Jvm.exec ∧ c.code = cc ∧ c.maxLocals = nL ∧ s.vm.findClass own = some m.cls ∧ (∀ w ∈ GW, w.before args s = true) ∧ va_K g.2.2.2.1 vwCl (tysL g) s ∧ g.2.1 ≤ s.heap.size ∧ SFs g s s.heap ∧ STR g s ∧ meth.locks = false ∧ meth.sig.returnType = rt ∧ g.1.stackTraces = false ∧ c.exceptionTable.toList = tableOf hh
def VB (g : GC) (cc : ByteArray) (nL : Nat) (own : String) (rt : Option FieldType) (hh : List (Nat × Nat × Nat × Nat)) (R : Room) (mc ms : Nat) (o : Out) (kc ks pc : Nat) (lv : List (Nat × Value)) (st : List Value) (w : XW) : Prop :=
  ∀ (p : Program) (e : Env) (s : State) (m : MethodId) (args : Array Value) (below : List Frame) (meth : Method) (c : Code), FX g cc nL own rt hh p s m args meth c →
    ∀ (H : Heap) (locs : List Loc) (ls : Array Slot), RW g w H → va_S (fun q => g.2.1 ≤ q) s.heap H locs → lv_has ls nL lv →
      W p g.1 e R s m args below meth c H locs kc ks (vx_MQ below (QO g o) (XO g o) args s mc ms (fun q => g.2.1 ≤ q)) (F0 m pc ls st)
def VE {ρ : Type} (g : GC) (cc : ByteArray) (nL : Nat) (own : String) (rt : Option FieldType) (hh : List (Nat × Nat × Nat × Nat)) (R : Room) (mc ms : Nat) (out : ρ → Out) (kc ks pc : Nat) (lv : List (Nat × Value)) (st : List Value) (w : XW) (E : Option ρ) : Prop :=
  ∀ r, E = some r → VB g cc nL own rt hh R mc ms (out r) kc ks pc lv st w
/-- an exception has come up at this place -/
def VX {ρ : Type} (g : GC) (cc : ByteArray) (nL : Nat) (own : String) (rt : Option FieldType) (hh : List (Nat × Nat × Nat × Nat)) (R : Room) (mc ms : Nat) (out : ρ → Out) (kc ks pc : Nat) (lv : List (Nat × Value)) (E0 : String) (w : XW) (E : Option ρ) : Prop :=
  ∀ r, E = some r → ∀ (p : Program) (e : Env) (s : State) (m : MethodId) (args : Array Value) (below : List Frame) (meth : Method) (c : Code), FX g cc nL own rt hh p s m args meth c →
    ∀ (H : Heap) (locs : List Loc) (ls : Array Slot) (rest : List Value) (q : Addr) (ce : Cell), RW g w H → va_S (fun q => g.2.1 ≤ q) s.heap H locs → lv_has ls nL lv → H[q]? = some ce → ce.vm = .none → s.vm.findClass E0 = some ce.cls →
      vx_W p g.1 e R s m args below meth c H locs kc ks (vx_MQ below (QO g (out r)) (XO g (out r)) args s mc ms (fun q => g.2.1 ≤ q)) (F0 m pc ls rest) q
/-- the room of a level -/
def rmL (n mc ms : Nat) : Room := { frames := 16 + n, cells := mc, slots := ms, locals := 200 + 64 * n }
section CORE
variable {ρ : Type} {g : GC} {cc : ByteArray} {nL : Nat} {own : String} {rt : Option FieldType} {hh : List (Nat × Nat × Nat × Nat)} {R : Room} {mc ms : Nat} {out : ρ → Out} {kc ks pc : Nat} {lv : List (Nat × Value)} {rest : List Value} {w : XW} {E E1 E2 : Option ρ}
theorem VE.eq {st st' : List Value} (h : st = st') (k : VE g cc nL own rt hh R mc ms out kc ks pc lv st' w E) : VE g cc nL own rt hh R mc ms out kc ks pc lv st w E := h ▸ k
theorem v_none {st : List Value} : VE g cc nL own rt hh R mc ms out kc ks pc lv st w (none : Option ρ) := fun r hr => by cases hr
theorem v_guard {c : Prop} [Decidable c] {st : List Value} (k : c → VE g cc nL own rt hh R mc ms out kc ks pc lv st w E) : VE g cc nL own rt hh R mc ms out kc ks pc lv st w (if c then E else none) := by
  intro r hr
  by_cases h : c
  · rw [if_pos h] at hr
    exact k h r hr
  · rw [if_neg h] at hr
    cases hr
theorem v_widen {st : List Value} (kc' ks' : Nat) (h1 : kc ≤ kc') (h2 : ks ≤ ks') (k : VE g cc nL own rt hh R mc ms out kc' ks' pc lv st w E) : VE g cc nL own rt hh R mc ms out kc ks pc lv st w E :=
  fun r hr p e s m args below meth c F H locs ls hW hS hl => W.widen h1 h2 (k r hr p e s m args below meth c F H locs ls hW hS hl)
/-- fewer locals, in another order: by their places -/
theorem v_sub {st : List Value} {lv' : List (Nat × Value)} (is : List Nat) (h : lv_pick lv is = lv') (k : VE g cc nL own rt hh R mc ms out kc ks pc lv' st w E) : VE g cc nL own rt hh R mc ms out kc ks pc lv st w E :=
  fun r hr p e s m args below meth c F H locs ls hW hS hl => k r hr p e s m args below meth c F H locs ls hW hS (lv_sub hl is h)
theorem v_iconst {n : Int} {v : Int32} (hd : decode cc pc = .ok (.iconst n, 1)) (hv : Int32.ofInt n = v) (k : VE g cc nL own rt hh R mc ms out kc ks (pc + 1) lv (.int v :: rest) w E) : VE g cc nL own rt hh R mc ms out kc ks pc lv (rest) w E := fun r hr p e s m args below meth c F H locs ls hW hS hl => lv_iconst F.1 F.2.1 hd hv (k r hr p e s m args below meth c F H locs ls hW hS hl)
theorem v_bipush {n : Int} {v : Int32} (hd : decode cc pc = .ok (.bipush n, 2)) (hv : (Int8.ofInt n).toInt32 = v) (k : VE g cc nL own rt hh R mc ms out kc ks (pc + 2) lv (.int v :: rest) w E) : VE g cc nL own rt hh R mc ms out kc ks pc lv (rest) w E := fun r hr p e s m args below meth c F H locs ls hW hS hl => lv_bipush F.1 F.2.1 hd hv (k r hr p e s m args below meth c F H locs ls hW hS hl)
theorem v_sipush {n : Int} {v : Int32} (hd : decode cc pc = .ok (.sipush n, 3)) (hv : (Int16.ofInt n).toInt32 = v) (k : VE g cc nL own rt hh R mc ms out kc ks (pc + 3) lv (.int v :: rest) w E) : VE g cc nL own rt hh R mc ms out kc ks pc lv (rest) w E := fun r hr p e s m args below meth c F H locs ls hW hS hl => lv_sipush F.1 F.2.1 hd hv (k r hr p e s m args below meth c F H locs ls hW hS hl)
theorem v_lconst {n : Fin 2} {v : Int64} (hd : decode cc pc = .ok (.lconst n, 1)) (hv : Int64.ofNat (n : Nat) = v) (k : VE g cc nL own rt hh R mc ms out kc ks (pc + 1) lv (.long v :: rest) w E) : VE g cc nL own rt hh R mc ms out kc ks pc lv (rest) w E := fun r hr p e s m args below meth c F H locs ls hW hS hl => lv_lconst F.1 F.2.1 hd hv (k r hr p e s m args below meth c F H locs ls hW hS hl)
theorem v_null  (hd : decode cc pc = .ok (.aconst_null, 1)) (k : VE g cc nL own rt hh R mc ms out kc ks (pc + 1) lv (.null :: rest) w E) : VE g cc nL own rt hh R mc ms out kc ks pc lv (rest) w E := fun r hr p e s m args below meth c F H locs ls hW hS hl => lv_null F.1 F.2.1 hd (k r hr p e s m args below meth c F H locs ls hW hS hl)
theorem v_fconst0  (hd : decode cc pc = .ok (.fconst 0, 1)) (k : VE g cc nL own rt hh R mc ms out kc ks (pc + 1) lv (.float FP.fconst0 :: rest) w E) : VE g cc nL own rt hh R mc ms out kc ks pc lv (rest) w E := fun r hr p e s m args below meth c F H locs ls hW hS hl => lv_fconst0 F.1 F.2.1 hd (k r hr p e s m args below meth c F H locs ls hW hS hl)
theorem v_dconst0  (hd : decode cc pc = .ok (.dconst 0, 1)) (k : VE g cc nL own rt hh R mc ms out kc ks (pc + 1) lv (.double FP.dconst0 :: rest) w E) : VE g cc nL own rt hh R mc ms out kc ks pc lv (rest) w E := fun r hr p e s m args below meth c F H locs ls hW hS hl => lv_dconst0 F.1 F.2.1 hd (k r hr p e s m args below meth c F H locs ls hW hS hl)
theorem v_iload_n {j : Fin 4} {i : Nat} {x : Int32} (hd : decode cc pc = .ok (.iload_n j, 1)) (hi : (j : Nat) = i) (q : Nat) (hq : lv[q]? = some (i, .int x)) (k : VE g cc nL own rt hh R mc ms out kc ks (pc + 1) lv (.int x :: rest) w E) : VE g cc nL own rt hh R mc ms out kc ks pc lv (rest) w E := fun r hr p e s m args below meth c F H locs ls hW hS hl => lv_iload_n F.1 F.2.1 hd hi (lv_at hl q hq) (k r hr p e s m args below meth c F H locs ls hW hS hl)
theorem v_iload {i : Nat} {x : Int32} (hd : decode cc pc = .ok (.iload i, 2)) (q : Nat) (hq : lv[q]? = some (i, .int x)) (k : VE g cc nL own rt hh R mc ms out kc ks (pc + 2) lv (.int x :: rest) w E) : VE g cc nL own rt hh R mc ms out kc ks pc lv (rest) w E := fun r hr p e s m args below meth c F H locs ls hW hS hl => lv_iload F.1 F.2.1 hd (lv_at hl q hq) (k r hr p e s m args below meth c F H locs ls hW hS hl)
theorem v_aload_n {j : Fin 4} {i : Nat} {x : Nat} (hd : decode cc pc = .ok (.aload_n j, 1)) (hi : (j : Nat) = i) (q : Nat) (hq : lv[q]? = some (i, .ref x)) (k : VE g cc nL own rt hh R mc ms out kc ks (pc + 1) lv (.ref x :: rest) w E) : VE g cc nL own rt hh R mc ms out kc ks pc lv (rest) w E := fun r hr p e s m args below meth c F H locs ls hW hS hl => lv_aload_n F.1 F.2.1 hd hi (lv_at hl q hq) (k r hr p e s m args below meth c F H locs ls hW hS hl)
theorem v_aload {i : Nat} {x : Nat} (hd : decode cc pc = .ok (.aload i, 2)) (q : Nat) (hq : lv[q]? = some (i, .ref x)) (k : VE g cc nL own rt hh R mc ms out kc ks (pc + 2) lv (.ref x :: rest) w E) : VE g cc nL own rt hh R mc ms out kc ks pc lv (rest) w E := fun r hr p e s m args below meth c F H locs ls hW hS hl => lv_aload F.1 F.2.1 hd (lv_at hl q hq) (k r hr p e s m args below meth c F H locs ls hW hS hl)
theorem v_fload_n {j : Fin 4} {i : Nat} {x : UInt32} (hd : decode cc pc = .ok (.fload_n j, 1)) (hi : (j : Nat) = i) (q : Nat) (hq : lv[q]? = some (i, .float x)) (k : VE g cc nL own rt hh R mc ms out kc ks (pc + 1) lv (.float x :: rest) w E) : VE g cc nL own rt hh R mc ms out kc ks pc lv (rest) w E := fun r hr p e s m args below meth c F H locs ls hW hS hl => lv_fload_n F.1 F.2.1 hd hi (lv_at hl q hq) (k r hr p e s m args below meth c F H locs ls hW hS hl)
theorem v_fload {i : Nat} {x : UInt32} (hd : decode cc pc = .ok (.fload i, 2)) (q : Nat) (hq : lv[q]? = some (i, .float x)) (k : VE g cc nL own rt hh R mc ms out kc ks (pc + 2) lv (.float x :: rest) w E) : VE g cc nL own rt hh R mc ms out kc ks pc lv (rest) w E := fun r hr p e s m args below meth c F H locs ls hW hS hl => lv_fload F.1 F.2.1 hd (lv_at hl q hq) (k r hr p e s m args below meth c F H locs ls hW hS hl)
theorem v_dload_n {j : Fin 4} {i : Nat} {x : UInt64} (hd : decode cc pc = .ok (.dload_n j, 1)) (hi : (j : Nat) = i) (q : Nat) (hq : lv[q]? = some (i, .double x)) (k : VE g cc nL own rt hh R mc ms out kc ks (pc + 1) lv (.double x :: rest) w E) : VE g cc nL own rt hh R mc ms out kc ks pc lv (rest) w E := fun r hr p e s m args below meth c F H locs ls hW hS hl => lv_dload_n F.1 F.2.1 hd hi (lv_at hl q hq) (k r hr p e s m args below meth c F H locs ls hW hS hl)
theorem v_dload {i : Nat} {x : UInt64} (hd : decode cc pc = .ok (.dload i, 2)) (q : Nat) (hq : lv[q]? = some (i, .double x)) (k : VE g cc nL own rt hh R mc ms out kc ks (pc + 2) lv (.double x :: rest) w E) : VE g cc nL own rt hh R mc ms out kc ks pc lv (rest) w E := fun r hr p e s m args below meth c F H locs ls hW hS hl => lv_dload F.1 F.2.1 hd (lv_at hl q hq) (k r hr p e s m args below meth c F H locs ls hW hS hl)
theorem v_aload_nN {j : Fin 4} {i : Nat} (hd : decode cc pc = .ok (.aload_n j, 1)) (hi : (j : Nat) = i) (q : Nat) (hq : lv[q]? = some (i, .null)) (k : VE g cc nL own rt hh R mc ms out kc ks (pc + 1) lv (.null :: rest) w E) : VE g cc nL own rt hh R mc ms out kc ks pc lv (rest) w E := fun r hr p e s m args below meth c F H locs ls hW hS hl => lv_aload_nN F.1 F.2.1 hd hi (lv_at hl q hq) (k r hr p e s m args below meth c F H locs ls hW hS hl)
theorem v_aloadN {i : Nat} (hd : decode cc pc = .ok (.aload i, 2)) (q : Nat) (hq : lv[q]? = some (i, .null)) (k : VE g cc nL own rt hh R mc ms out kc ks (pc + 2) lv (.null :: rest) w E) : VE g cc nL own rt hh R mc ms out kc ks pc lv (rest) w E := fun r hr p e s m args below meth c F H locs ls hW hS hl => lv_aloadN F.1 F.2.1 hd (lv_at hl q hq) (k r hr p e s m args below meth c F H locs ls hW hS hl)
theorem v_istore_n {j : Fin 4} {i : Nat} {x : Int32} {lv1 : List (Nat × Value)} (hd : decode cc pc = .ok (.istore_n j, 1)) (hi : (j : Nat) = i) (hn : i < nL) (hq : (i, Value.int x) :: lv.filter (fun q => !(q.1 == i) && !(q.1 + 1 == i && q.2.category == 2)) = lv1) (k : VE g cc nL own rt hh R mc ms out kc ks (pc + 1) lv1 rest w E) : VE g cc nL own rt hh R mc ms out kc ks pc lv (.int x :: rest) w E := fun r hr p e s m args below meth c F H locs ls hW hS hl => lv_istore_n F.1 F.2.1 hd hi hl hn hq (fun ls hl => k r hr p e s m args below meth c F H locs ls hW hS hl)
theorem v_istore {i : Nat} {x : Int32} {lv1 : List (Nat × Value)} (hd : decode cc pc = .ok (.istore i, 2)) (hn : i < nL) (hq : (i, Value.int x) :: lv.filter (fun q => !(q.1 == i) && !(q.1 + 1 == i && q.2.category == 2)) = lv1) (k : VE g cc nL own rt hh R mc ms out kc ks (pc + 2) lv1 rest w E) : VE g cc nL own rt hh R mc ms out kc ks pc lv (.int x :: rest) w E := fun r hr p e s m args below meth c F H locs ls hW hS hl => lv_istore F.1 F.2.1 hd hl hn hq (fun ls hl => k r hr p e s m args below meth c F H locs ls hW hS hl)
theorem v_astore_n {j : Fin 4} {i : Nat} {x : Nat} {lv1 : List (Nat × Value)} (hd : decode cc pc = .ok (.astore_n j, 1)) (hi : (j : Nat) = i) (hn : i < nL) (hq : (i, Value.ref x) :: lv.filter (fun q => !(q.1 == i) && !(q.1 + 1 == i && q.2.category == 2)) = lv1) (k : VE g cc nL own rt hh R mc ms out kc ks (pc + 1) lv1 rest w E) : VE g cc nL own rt hh R mc ms out kc ks pc lv (.ref x :: rest) w E := fun r hr p e s m args below meth c F H locs ls hW hS hl => lv_astore_n F.1 F.2.1 hd hi hl hn hq (fun ls hl => k r hr p e s m args below meth c F H locs ls hW hS hl)
theorem v_astore {i : Nat} {x : Nat} {lv1 : List (Nat × Value)} (hd : decode cc pc = .ok (.astore i, 2)) (hn : i < nL) (hq : (i, Value.ref x) :: lv.filter (fun q => !(q.1 == i) && !(q.1 + 1 == i && q.2.category == 2)) = lv1) (k : VE g cc nL own rt hh R mc ms out kc ks (pc + 2) lv1 rest w E) : VE g cc nL own rt hh R mc ms out kc ks pc lv (.ref x :: rest) w E := fun r hr p e s m args below meth c F H locs ls hW hS hl => lv_astore F.1 F.2.1 hd hl hn hq (fun ls hl => k r hr p e s m args below meth c F H locs ls hW hS hl)
theorem v_fstore_n {j : Fin 4} {i : Nat} {x : UInt32} {lv1 : List (Nat × Value)} (hd : decode cc pc = .ok (.fstore_n j, 1)) (hi : (j : Nat) = i) (hn : i < nL) (hq : (i, Value.float x) :: lv.filter (fun q => !(q.1 == i) && !(q.1 + 1 == i && q.2.category == 2)) = lv1) (k : VE g cc nL own rt hh R mc ms out kc ks (pc + 1) lv1 rest w E) : VE g cc nL own rt hh R mc ms out kc ks pc lv (.float x :: rest) w E := fun r hr p e s m args below meth c F H locs ls hW hS hl => lv_fstore_n F.1 F.2.1 hd hi hl hn hq (fun ls hl => k r hr p e s m args below meth c F H locs ls hW hS hl)
theorem v_fstore {i : Nat} {x : UInt32} {lv1 : List (Nat × Value)} (hd : decode cc pc = .ok (.fstore i, 2)) (hn : i < nL) (hq : (i, Value.float x) :: lv.filter (fun q => !(q.1 == i) && !(q.1 + 1 == i && q.2.category == 2)) = lv1) (k : VE g cc nL own rt hh R mc ms out kc ks (pc + 2) lv1 rest w E) : VE g cc nL own rt hh R mc ms out kc ks pc lv (.float x :: rest) w E := fun r hr p e s m args below meth c F H locs ls hW hS hl => lv_fstore F.1 F.2.1 hd hl hn hq (fun ls hl => k r hr p e s m args below meth c F H locs ls hW hS hl)
theorem v_dstore_n {j : Fin 4} {i : Nat} {x : UInt64} {lv1 : List (Nat × Value)} (hd : decode cc pc = .ok (.dstore_n j, 1)) (hi : (j : Nat) = i) (hn : i + 1 < nL) (hq : (i, Value.double x) :: lv.filter (fun q => !(q.1 == i) && (!(q.1 == i + 1) && !(q.1 + 1 == i && q.2.category == 2))) = lv1) (k : VE g cc nL own rt hh R mc ms out kc ks (pc + 1) lv1 rest w E) : VE g cc nL own rt hh R mc ms out kc ks pc lv (.double x :: rest) w E := fun r hr p e s m args below meth c F H locs ls hW hS hl => lv_dstore_n F.1 F.2.1 hd hi hl hn hq (fun ls hl => k r hr p e s m args below meth c F H locs ls hW hS hl)
theorem v_dstore {i : Nat} {x : UInt64} {lv1 : List (Nat × Value)} (hd : decode cc pc = .ok (.dstore i, 2)) (hn : i + 1 < nL) (hq : (i, Value.double x) :: lv.filter (fun q => !(q.1 == i) && (!(q.1 == i + 1) && !(q.1 + 1 == i && q.2.category == 2))) = lv1) (k : VE g cc nL own rt hh R mc ms out kc ks (pc + 2) lv1 rest w E) : VE g cc nL own rt hh R mc ms out kc ks pc lv (.double x :: rest) w E := fun r hr p e s m args below meth c F H locs ls hW hS hl => lv_dstore F.1 F.2.1 hd hl hn hq (fun ls hl => k r hr p e s m args below meth c F H locs ls hW hS hl)
theorem v_astore_nN {j : Fin 4} {i : Nat} {lv1 : List (Nat × Value)} (hd : decode cc pc = .ok (.astore_n j, 1)) (hi : (j : Nat) = i) (hn : i < nL) (hq : (i, Value.null) :: lv.filter (fun q => !(q.1 == i) && !(q.1 + 1 == i && q.2.category == 2)) = lv1) (k : VE g cc nL own rt hh R mc ms out kc ks (pc + 1) lv1 rest w E) : VE g cc nL own rt hh R mc ms out kc ks pc lv (.null :: rest) w E := fun r hr p e s m args below meth c F H locs ls hW hS hl => lv_astore_nN F.1 F.2.1 hd hi hl hn hq (fun ls hl => k r hr p e s m args below meth c F H locs ls hW hS hl)
theorem v_iinc {i q : Nat} {n : Int} {x v : Int32} {lv1 : List (Nat × Value)} (hd : decode cc pc = .ok (.iinc i n, 3)) (hx : lv[q]? = some (i, .int x)) (hv : x + Int32.ofInt n = v) (hn : i < nL) (hq : (i, Value.int v) :: lv.filter (fun q => !(q.1 == i) && !(q.1 + 1 == i && q.2.category == 2)) = lv1) (k : VE g cc nL own rt hh R mc ms out kc ks (pc + 3) lv1 rest w E) : VE g cc nL own rt hh R mc ms out kc ks pc lv rest w E := fun r hr p e s m args below meth c F H locs ls hW hS hl => lv_iinc F.1 F.2.1 hd hl hx hv hn hq (fun ls hl => k r hr p e s m args below meth c F H locs ls hW hS hl)
theorem v_iadd {x y : Int32} (hd : decode cc pc = .ok (.iadd, 1)) (k : VE g cc nL own rt hh R mc ms out kc ks (pc + 1) lv (.int (x + y) :: rest) w E) : VE g cc nL own rt hh R mc ms out kc ks pc lv (.int y :: .int x :: rest) w E := fun r hr p e s m args below meth c F H locs ls hW hS hl => lv_iadd F.1 F.2.1 hd (k r hr p e s m args below meth c F H locs ls hW hS hl)
theorem v_isub {x y : Int32} (hd : decode cc pc = .ok (.isub, 1)) (k : VE g cc nL own rt hh R mc ms out kc ks (pc + 1) lv (.int (x - y) :: rest) w E) : VE g cc nL own rt hh R mc ms out kc ks pc lv (.int y :: .int x :: rest) w E := fun r hr p e s m args below meth c F H locs ls hW hS hl => lv_isub F.1 F.2.1 hd (k r hr p e s m args below meth c F H locs ls hW hS hl)
theorem v_imul {x y : Int32} (hd : decode cc pc = .ok (.imul, 1)) (k : VE g cc nL own rt hh R mc ms out kc ks (pc + 1) lv (.int (x * y) :: rest) w E) : VE g cc nL own rt hh R mc ms out kc ks pc lv (.int y :: .int x :: rest) w E := fun r hr p e s m args below meth c F H locs ls hW hS hl => lv_imul F.1 F.2.1 hd (k r hr p e s m args below meth c F H locs ls hW hS hl)
theorem v_iand {x y : Int32} (hd : decode cc pc = .ok (.iand, 1)) (k : VE g cc nL own rt hh R mc ms out kc ks (pc + 1) lv (.int (x &&& y) :: rest) w E) : VE g cc nL own rt hh R mc ms out kc ks pc lv (.int y :: .int x :: rest) w E := fun r hr p e s m args below meth c F H locs ls hW hS hl => lv_iand F.1 F.2.1 hd (k r hr p e s m args below meth c F H locs ls hW hS hl)
theorem v_ior {x y : Int32} (hd : decode cc pc = .ok (.ior, 1)) (k : VE g cc nL own rt hh R mc ms out kc ks (pc + 1) lv (.int (x ||| y) :: rest) w E) : VE g cc nL own rt hh R mc ms out kc ks pc lv (.int y :: .int x :: rest) w E := fun r hr p e s m args below meth c F H locs ls hW hS hl => lv_ior F.1 F.2.1 hd (k r hr p e s m args below meth c F H locs ls hW hS hl)
theorem v_ixor {x y : Int32} (hd : decode cc pc = .ok (.ixor, 1)) (k : VE g cc nL own rt hh R mc ms out kc ks (pc + 1) lv (.int (x ^^^ y) :: rest) w E) : VE g cc nL own rt hh R mc ms out kc ks pc lv (.int y :: .int x :: rest) w E := fun r hr p e s m args below meth c F H locs ls hW hS hl => lv_ixor F.1 F.2.1 hd (k r hr p e s m args below meth c F H locs ls hW hS hl)
theorem v_ishl {x y : Int32} (hd : decode cc pc = .ok (.ishl, 1)) (k : VE g cc nL own rt hh R mc ms out kc ks (pc + 1) lv (.int (x <<< (y &&& 31)) :: rest) w E) : VE g cc nL own rt hh R mc ms out kc ks pc lv (.int y :: .int x :: rest) w E := fun r hr p e s m args below meth c F H locs ls hW hS hl => lv_ishl F.1 F.2.1 hd (k r hr p e s m args below meth c F H locs ls hW hS hl)
theorem v_ishr {x y : Int32} (hd : decode cc pc = .ok (.ishr, 1)) (k : VE g cc nL own rt hh R mc ms out kc ks (pc + 1) lv (.int (x >>> (y &&& 31)) :: rest) w E) : VE g cc nL own rt hh R mc ms out kc ks pc lv (.int y :: .int x :: rest) w E := fun r hr p e s m args below meth c F H locs ls hW hS hl => lv_ishr F.1 F.2.1 hd (k r hr p e s m args below meth c F H locs ls hW hS hl)
theorem v_idiv {x y : Int32} (hd : decode cc pc = .ok (.idiv, 1)) (hne : ¬ y = 0) (k : VE g cc nL own rt hh R mc ms out kc ks (pc + 1) lv (.int (x / y) :: rest) w E) : VE g cc nL own rt hh R mc ms out kc ks pc lv (.int y :: .int x :: rest) w E := fun r hr p e s m args below meth c F H locs ls hW hS hl => lv_idiv F.1 F.2.1 hd hne (k r hr p e s m args below meth c F H locs ls hW hS hl)
theorem v_irem {x y : Int32} (hd : decode cc pc = .ok (.irem, 1)) (hne : ¬ y = 0) (k : VE g cc nL own rt hh R mc ms out kc ks (pc + 1) lv (.int (x - x / y * y) :: rest) w E) : VE g cc nL own rt hh R mc ms out kc ks pc lv (.int y :: .int x :: rest) w E := fun r hr p e s m args below meth c F H locs ls hW hS hl => lv_irem F.1 F.2.1 hd hne (k r hr p e s m args below meth c F H locs ls hW hS hl)
theorem v_ineg {x : Int32} (hd : decode cc pc = .ok (.ineg, 1)) (k : VE g cc nL own rt hh R mc ms out kc ks (pc + 1) lv (.int (-x) :: rest) w E) : VE g cc nL own rt hh R mc ms out kc ks pc lv (.int x :: rest) w E := fun r hr p e s m args below meth c F H locs ls hW hS hl => lv_ineg F.1 F.2.1 hd (k r hr p e s m args below meth c F H locs ls hW hS hl)
theorem v_i2l {x : Int32} (hd : decode cc pc = .ok (.i2l, 1)) (k : VE g cc nL own rt hh R mc ms out kc ks (pc + 1) lv (.long x.toInt64 :: rest) w E) : VE g cc nL own rt hh R mc ms out kc ks pc lv (.int x :: rest) w E := fun r hr p e s m args below meth c F H locs ls hW hS hl => lv_i2l F.1 F.2.1 hd rfl (k r hr p e s m args below meth c F H locs ls hW hS hl)
theorem v_i2c {x : Int32} (hd : decode cc pc = .ok (.i2c, 1)) (k : VE g cc nL own rt hh R mc ms out kc ks (pc + 1) lv (.int (x.toUInt32 % 65536).toInt32 :: rest) w E) : VE g cc nL own rt hh R mc ms out kc ks pc lv (.int x :: rest) w E := fun r hr p e s m args below meth c F H locs ls hW hS hl => lv_i2c F.1 F.2.1 hd rfl (k r hr p e s m args below meth c F H locs ls hW hS hl)
theorem v_i2f {x : Int32} (hd : decode cc pc = .ok (.i2f, 1)) (k : VE g cc nL own rt hh R mc ms out kc ks (pc + 1) lv (.float (FP.i2f x) :: rest) w E) : VE g cc nL own rt hh R mc ms out kc ks pc lv (.int x :: rest) w E := fun r hr p e s m args below meth c F H locs ls hW hS hl => lv_i2f F.1 F.2.1 hd (k r hr p e s m args below meth c F H locs ls hW hS hl)
theorem v_i2d {x : Int32} (hd : decode cc pc = .ok (.i2d, 1)) (k : VE g cc nL own rt hh R mc ms out kc ks (pc + 1) lv (.double (FP.i2d x) :: rest) w E) : VE g cc nL own rt hh R mc ms out kc ks pc lv (.int x :: rest) w E := fun r hr p e s m args below meth c F H locs ls hW hS hl => lv_i2d F.1 F.2.1 hd (k r hr p e s m args below meth c F H locs ls hW hS hl)
theorem v_fdiv {x y : UInt32} (hd : decode cc pc = .ok (.fdiv, 1)) (hne : vf_n32 (FP.fdiv x y)) (k : VE g cc nL own rt hh R mc ms out kc ks (pc + 1) lv (.float (FP.fdiv x y) :: rest) w E) : VE g cc nL own rt hh R mc ms out kc ks pc lv (.float y :: .float x :: rest) w E := fun r hr p e s m args below meth c F H locs ls hW hS hl => lv_fdiv F.1 F.2.1 hd hne (k r hr p e s m args below meth c F H locs ls hW hS hl)
theorem v_ddiv {x y : UInt64} (hd : decode cc pc = .ok (.ddiv, 1)) (hne : vf_n64 (FP.ddiv x y)) (k : VE g cc nL own rt hh R mc ms out kc ks (pc + 1) lv (.double (FP.ddiv x y) :: rest) w E) : VE g cc nL own rt hh R mc ms out kc ks pc lv (.double y :: .double x :: rest) w E := fun r hr p e s m args below meth c F H locs ls hW hS hl => lv_ddiv F.1 F.2.1 hd hne (k r hr p e s m args below meth c F H locs ls hW hS hl)
theorem v_f2d {x : UInt32} (hd : decode cc pc = .ok (.f2d, 1)) (hne : vf_n64 (FP.f2d x)) (k : VE g cc nL own rt hh R mc ms out kc ks (pc + 1) lv (.double (FP.f2d x) :: rest) w E) : VE g cc nL own rt hh R mc ms out kc ks pc lv (.float x :: rest) w E := fun r hr p e s m args below meth c F H locs ls hW hS hl => lv_f2d F.1 F.2.1 hd hne (k r hr p e s m args below meth c F H locs ls hW hS hl)
theorem v_fcmp {x y : UInt32} {op : CmpOp} (hd : decode cc pc = .ok (.fcmp op, 1)) (k : VE g cc nL own rt hh R mc ms out kc ks (pc + 1) lv (.int (Op.cmpValue (FP.fcmp x y) op) :: rest) w E) : VE g cc nL own rt hh R mc ms out kc ks pc lv (.float y :: .float x :: rest) w E := fun r hr p e s m args below meth c F H locs ls hW hS hl => lv_fcmp F.1 F.2.1 hd (k r hr p e s m args below meth c F H locs ls hW hS hl)
theorem v_dcmp {x y : UInt64} {op : CmpOp} (hd : decode cc pc = .ok (.dcmp op, 1)) (k : VE g cc nL own rt hh R mc ms out kc ks (pc + 1) lv (.int (Op.cmpValue (FP.dcmp x y) op) :: rest) w E) : VE g cc nL own rt hh R mc ms out kc ks pc lv (.double y :: .double x :: rest) w E := fun r hr p e s m args below meth c F H locs ls hW hS hl => lv_dcmp F.1 F.2.1 hd (k r hr p e s m args below meth c F H locs ls hW hS hl)
theorem v_lcmp {x y : Int64} (hd : decode cc pc = .ok (.lcmp, 1)) (k : VE g cc nL own rt hh R mc ms out kc ks (pc + 1) lv (.int (lg_cmp x y) :: rest) w E) : VE g cc nL own rt hh R mc ms out kc ks pc lv (.long y :: .long x :: rest) w E := fun r hr p e s m args below meth c F H locs ls hW hS hl => W.lcmp F.1 F.2.1 hd (k r hr p e s m args below meth c F H locs ls hW hS hl)
theorem v_dup {a : Value} (hd : decode cc pc = .ok (.dup, 1)) (ha : a.category = 1) (k : VE g cc nL own rt hh R mc ms out kc ks (pc + 1) lv (a :: a :: rest) w E) : VE g cc nL own rt hh R mc ms out kc ks pc lv (a :: rest) w E := fun r hr p e s m args below meth c F H locs ls hW hS hl => lv_dup F.1 F.2.1 hd ha (k r hr p e s m args below meth c F H locs ls hW hS hl)
theorem v_pop {a : Value} (hd : decode cc pc = .ok (.pop, 1)) (ha : a.category = 1) (k : VE g cc nL own rt hh R mc ms out kc ks (pc + 1) lv (rest) w E) : VE g cc nL own rt hh R mc ms out kc ks pc lv (a :: rest) w E := fun r hr p e s m args below meth c F H locs ls hW hS hl => lv_pop F.1 F.2.1 hd ha (k r hr p e s m args below meth c F H locs ls hW hS hl)
theorem v_dup2 {a b : Value} (hd : decode cc pc = .ok (.dup2, 1)) (ha : a.category = 1) (hb : b.category = 1) (k : VE g cc nL own rt hh R mc ms out kc ks (pc + 1) lv (a :: b :: a :: b :: rest) w E) : VE g cc nL own rt hh R mc ms out kc ks pc lv (a :: b :: rest) w E := fun r hr p e s m args below meth c F H locs ls hW hS hl => lv_dup2_11 F.1 F.2.1 hd ha hb (k r hr p e s m args below meth c F H locs ls hW hS hl)
theorem v_goto {off : Int} {tgt : Nat} (hd : decode cc pc = .ok (.goto off, 3)) (ht : (pc : Int) + off = (tgt : Int)) (k : VE g cc nL own rt hh R mc ms out kc ks tgt lv rest w E) : VE g cc nL own rt hh R mc ms out kc ks pc lv rest w E := fun r hr p e s m args below meth c F H locs ls hW hS hl => lv_goto F.1 F.2.1 hd ht (k r hr p e s m args below meth c F H locs ls hW hS hl)
theorem v_if_eq {x : Int32} {off : Int} {tgt : Nat} (hd : decode cc pc = .ok (.ifCond .eq off, 3)) (ht : (pc : Int) + off = (tgt : Int)) (kt : VE g cc nL own rt hh R mc ms out kc ks tgt lv rest w E1) (kf : VE g cc nL own rt hh R mc ms out kc ks (pc + 3) lv rest w E2) : VE g cc nL own rt hh R mc ms out kc ks pc lv (.int x :: rest) w (if x = 0 then E1 else E2) := fun r hr p e s m args below meth c F H locs ls hW hS hl => lv_if_eq F.1 F.2.1 hd ht (fun h => kt r (by rw [if_pos h] at hr; exact hr) p e s m args below meth c F H locs ls hW hS hl) (fun h => kf r (by rw [if_neg h] at hr; exact hr) p e s m args below meth c F H locs ls hW hS hl)
theorem v_if_eqT {x : Int32} {off : Int} {tgt : Nat} (hd : decode cc pc = .ok (.ifCond .eq off, 3)) (ht : (pc : Int) + off = (tgt : Int)) (hc : x = 0) (kt : VE g cc nL own rt hh R mc ms out kc ks tgt lv rest w E) : VE g cc nL own rt hh R mc ms out kc ks pc lv (.int x :: rest) w E := fun r hr p e s m args below meth c F H locs ls hW hS hl => lv_if_eq F.1 F.2.1 hd ht (fun _ => kt r hr p e s m args below meth c F H locs ls hW hS hl) (fun h => absurd hc h)
theorem v_if_eqF {x : Int32} {off : Int} {tgt : Nat} (hd : decode cc pc = .ok (.ifCond .eq off, 3)) (ht : (pc : Int) + off = (tgt : Int)) (hc : ¬ (x = 0)) (kf : VE g cc nL own rt hh R mc ms out kc ks (pc + 3) lv rest w E) : VE g cc nL own rt hh R mc ms out kc ks pc lv (.int x :: rest) w E := fun r hr p e s m args below meth c F H locs ls hW hS hl => lv_if_eq F.1 F.2.1 hd ht (fun h => absurd h hc) (fun _ => kf r hr p e s m args below meth c F H locs ls hW hS hl)
theorem v_icmp_eq {x y : Int32} {off : Int} {tgt : Nat} (hd : decode cc pc = .ok (.if_icmp .eq off, 3)) (ht : (pc : Int) + off = (tgt : Int)) (kt : VE g cc nL own rt hh R mc ms out kc ks tgt lv rest w E1) (kf : VE g cc nL own rt hh R mc ms out kc ks (pc + 3) lv rest w E2) : VE g cc nL own rt hh R mc ms out kc ks pc lv (.int y :: .int x :: rest) w (if x = y then E1 else E2) := fun r hr p e s m args below meth c F H locs ls hW hS hl => lv_icmp_eq F.1 F.2.1 hd ht (fun h => kt r (by rw [if_pos h] at hr; exact hr) p e s m args below meth c F H locs ls hW hS hl) (fun h => kf r (by rw [if_neg h] at hr; exact hr) p e s m args below meth c F H locs ls hW hS hl)
theorem v_icmp_eqT {x y : Int32} {off : Int} {tgt : Nat} (hd : decode cc pc = .ok (.if_icmp .eq off, 3)) (ht : (pc : Int) + off = (tgt : Int)) (hc : x = y) (kt : VE g cc nL own rt hh R mc ms out kc ks tgt lv rest w E) : VE g cc nL own rt hh R mc ms out kc ks pc lv (.int y :: .int x :: rest) w E := fun r hr p e s m args below meth c F H locs ls hW hS hl => lv_icmp_eq F.1 F.2.1 hd ht (fun _ => kt r hr p e s m args below meth c F H locs ls hW hS hl) (fun h => absurd hc h)
theorem v_icmp_eqF {x y : Int32} {off : Int} {tgt : Nat} (hd : decode cc pc = .ok (.if_icmp .eq off, 3)) (ht : (pc : Int) + off = (tgt : Int)) (hc : ¬ (x = y)) (kf : VE g cc nL own rt hh R mc ms out kc ks (pc + 3) lv rest w E) : VE g cc nL own rt hh R mc ms out kc ks pc lv (.int y :: .int x :: rest) w E := fun r hr p e s m args below meth c F H locs ls hW hS hl => lv_icmp_eq F.1 F.2.1 hd ht (fun h => absurd h hc) (fun _ => kf r hr p e s m args below meth c F H locs ls hW hS hl)
theorem v_if_ne {x : Int32} {off : Int} {tgt : Nat} (hd : decode cc pc = .ok (.ifCond .ne off, 3)) (ht : (pc : Int) + off = (tgt : Int)) (kt : VE g cc nL own rt hh R mc ms out kc ks tgt lv rest w E1) (kf : VE g cc nL own rt hh R mc ms out kc ks (pc + 3) lv rest w E2) : VE g cc nL own rt hh R mc ms out kc ks pc lv (.int x :: rest) w (if x = 0 then E2 else E1) := fun r hr p e s m args below meth c F H locs ls hW hS hl => lv_if_ne F.1 F.2.1 hd ht (fun h => kt r (by rw [if_neg h] at hr; exact hr) p e s m args below meth c F H locs ls hW hS hl) (fun h => kf r (by rw [if_pos h] at hr; exact hr) p e s m args below meth c F H locs ls hW hS hl)
theorem v_if_neT {x : Int32} {off : Int} {tgt : Nat} (hd : decode cc pc = .ok (.ifCond .ne off, 3)) (ht : (pc : Int) + off = (tgt : Int)) (hc : ¬ (x = 0)) (kt : VE g cc nL own rt hh R mc ms out kc ks tgt lv rest w E) : VE g cc nL own rt hh R mc ms out kc ks pc lv (.int x :: rest) w E := fun r hr p e s m args below meth c F H locs ls hW hS hl => lv_if_ne F.1 F.2.1 hd ht (fun _ => kt r hr p e s m args below meth c F H locs ls hW hS hl) (fun h => absurd h hc)
theorem v_if_neF {x : Int32} {off : Int} {tgt : Nat} (hd : decode cc pc = .ok (.ifCond .ne off, 3)) (ht : (pc : Int) + off = (tgt : Int)) (hc : x = 0) (kf : VE g cc nL own rt hh R mc ms out kc ks (pc + 3) lv rest w E) : VE g cc nL own rt hh R mc ms out kc ks pc lv (.int x :: rest) w E := fun r hr p e s m args below meth c F H locs ls hW hS hl => lv_if_ne F.1 F.2.1 hd ht (fun h => absurd hc h) (fun _ => kf r hr p e s m args below meth c F H locs ls hW hS hl)
theorem v_icmp_ne {x y : Int32} {off : Int} {tgt : Nat} (hd : decode cc pc = .ok (.if_icmp .ne off, 3)) (ht : (pc : Int) + off = (tgt : Int)) (kt : VE g cc nL own rt hh R mc ms out kc ks tgt lv rest w E1) (kf : VE g cc nL own rt hh R mc ms out kc ks (pc + 3) lv rest w E2) : VE g cc nL own rt hh R mc ms out kc ks pc lv (.int y :: .int x :: rest) w (if x = y then E2 else E1) := fun r hr p e s m args below meth c F H locs ls hW hS hl => lv_icmp_ne F.1 F.2.1 hd ht (fun h => kt r (by rw [if_neg h] at hr; exact hr) p e s m args below meth c F H locs ls hW hS hl) (fun h => kf r (by rw [if_pos h] at hr; exact hr) p e s m args below meth c F H locs ls hW hS hl)
theorem v_icmp_neT {x y : Int32} {off : Int} {tgt : Nat} (hd : decode cc pc = .ok (.if_icmp .ne off, 3)) (ht : (pc : Int) + off = (tgt : Int)) (hc : ¬ (x = y)) (kt : VE g cc nL own rt hh R mc ms out kc ks tgt lv rest w E) : VE g cc nL own rt hh R mc ms out kc ks pc lv (.int y :: .int x :: rest) w E := fun r hr p e s m args below meth c F H locs ls hW hS hl => lv_icmp_ne F.1 F.2.1 hd ht (fun _ => kt r hr p e s m args below meth c F H locs ls hW hS hl) (fun h => absurd h hc)
theorem v_icmp_neF {x y : Int32} {off : Int} {tgt : Nat} (hd : decode cc pc = .ok (.if_icmp .ne off, 3)) (ht : (pc : Int) + off = (tgt : Int)) (hc : x = y) (kf : VE g cc nL own rt hh R mc ms out kc ks (pc + 3) lv rest w E) : VE g cc nL own rt hh R mc ms out kc ks pc lv (.int y :: .int x :: rest) w E := fun r hr p e s m args below meth c F H locs ls hW hS hl => lv_icmp_ne F.1 F.2.1 hd ht (fun h => absurd hc h) (fun _ => kf r hr p e s m args below meth c F H locs ls hW hS hl)
theorem v_if_lt {x : Int32} {off : Int} {tgt : Nat} (hd : decode cc pc = .ok (.ifCond .lt off, 3)) (ht : (pc : Int) + off = (tgt : Int)) (kt : VE g cc nL own rt hh R mc ms out kc ks tgt lv rest w E1) (kf : VE g cc nL own rt hh R mc ms out kc ks (pc + 3) lv rest w E2) : VE g cc nL own rt hh R mc ms out kc ks pc lv (.int x :: rest) w (if x < 0 then E1 else E2) := fun r hr p e s m args below meth c F H locs ls hW hS hl => lv_if_lt F.1 F.2.1 hd ht (fun h => kt r (by rw [if_pos h] at hr; exact hr) p e s m args below meth c F H locs ls hW hS hl) (fun h => kf r (by rw [if_neg h] at hr; exact hr) p e s m args below meth c F H locs ls hW hS hl)
theorem v_if_ltT {x : Int32} {off : Int} {tgt : Nat} (hd : decode cc pc = .ok (.ifCond .lt off, 3)) (ht : (pc : Int) + off = (tgt : Int)) (hc : x < 0) (kt : VE g cc nL own rt hh R mc ms out kc ks tgt lv rest w E) : VE g cc nL own rt hh R mc ms out kc ks pc lv (.int x :: rest) w E := fun r hr p e s m args below meth c F H locs ls hW hS hl => lv_if_lt F.1 F.2.1 hd ht (fun _ => kt r hr p e s m args below meth c F H locs ls hW hS hl) (fun h => absurd hc h)
theorem v_if_ltF {x : Int32} {off : Int} {tgt : Nat} (hd : decode cc pc = .ok (.ifCond .lt off, 3)) (ht : (pc : Int) + off = (tgt : Int)) (hc : ¬ (x < 0)) (kf : VE g cc nL own rt hh R mc ms out kc ks (pc + 3) lv rest w E) : VE g cc nL own rt hh R mc ms out kc ks pc lv (.int x :: rest) w E := fun r hr p e s m args below meth c F H locs ls hW hS hl => lv_if_lt F.1 F.2.1 hd ht (fun h => absurd h hc) (fun _ => kf r hr p e s m args below meth c F H locs ls hW hS hl)
theorem v_icmp_lt {x y : Int32} {off : Int} {tgt : Nat} (hd : decode cc pc = .ok (.if_icmp .lt off, 3)) (ht : (pc : Int) + off = (tgt : Int)) (kt : VE g cc nL own rt hh R mc ms out kc ks tgt lv rest w E1) (kf : VE g cc nL own rt hh R mc ms out kc ks (pc + 3) lv rest w E2) : VE g cc nL own rt hh R mc ms out kc ks pc lv (.int y :: .int x :: rest) w (if x < y then E1 else E2) := fun r hr p e s m args below meth c F H locs ls hW hS hl => lv_icmp_lt F.1 F.2.1 hd ht (fun h => kt r (by rw [if_pos h] at hr; exact hr) p e s m args below meth c F H locs ls hW hS hl) (fun h => kf r (by rw [if_neg h] at hr; exact hr) p e s m args below meth c F H locs ls hW hS hl)
theorem v_icmp_ltT {x y : Int32} {off : Int} {tgt : Nat} (hd : decode cc pc = .ok (.if_icmp .lt off, 3)) (ht : (pc : Int) + off = (tgt : Int)) (hc : x < y) (kt : VE g cc nL own rt hh R mc ms out kc ks tgt lv rest w E) : VE g cc nL own rt hh R mc ms out kc ks pc lv (.int y :: .int x :: rest) w E := fun r hr p e s m args below meth c F H locs ls hW hS hl => lv_icmp_lt F.1 F.2.1 hd ht (fun _ => kt r hr p e s m args below meth c F H locs ls hW hS hl) (fun h => absurd hc h)
theorem v_icmp_ltF {x y : Int32} {off : Int} {tgt : Nat} (hd : decode cc pc = .ok (.if_icmp .lt off, 3)) (ht : (pc : Int) + off = (tgt : Int)) (hc : ¬ (x < y)) (kf : VE g cc nL own rt hh R mc ms out kc ks (pc + 3) lv rest w E) : VE g cc nL own rt hh R mc ms out kc ks pc lv (.int y :: .int x :: rest) w E := fun r hr p e s m args below meth c F H locs ls hW hS hl => lv_icmp_lt F.1 F.2.1 hd ht (fun h => absurd h hc) (fun _ => kf r hr p e s m args below meth c F H locs ls hW hS hl)
theorem v_if_ge {x : Int32} {off : Int} {tgt : Nat} (hd : decode cc pc = .ok (.ifCond .ge off, 3)) (ht : (pc : Int) + off = (tgt : Int)) (kt : VE g cc nL own rt hh R mc ms out kc ks tgt lv rest w E1) (kf : VE g cc nL own rt hh R mc ms out kc ks (pc + 3) lv rest w E2) : VE g cc nL own rt hh R mc ms out kc ks pc lv (.int x :: rest) w (if 0 ≤ x then E1 else E2) := fun r hr p e s m args below meth c F H locs ls hW hS hl => lv_if_ge F.1 F.2.1 hd ht (fun h => kt r (by rw [if_pos h] at hr; exact hr) p e s m args below meth c F H locs ls hW hS hl) (fun h => kf r (by rw [if_neg h] at hr; exact hr) p e s m args below meth c F H locs ls hW hS hl)
theorem v_if_geT {x : Int32} {off : Int} {tgt : Nat} (hd : decode cc pc = .ok (.ifCond .ge off, 3)) (ht : (pc : Int) + off = (tgt : Int)) (hc : 0 ≤ x) (kt : VE g cc nL own rt hh R mc ms out kc ks tgt lv rest w E) : VE g cc nL own rt hh R mc ms out kc ks pc lv (.int x :: rest) w E := fun r hr p e s m args below meth c F H locs ls hW hS hl => lv_if_ge F.1 F.2.1 hd ht (fun _ => kt r hr p e s m args below meth c F H locs ls hW hS hl) (fun h => absurd hc h)
theorem v_if_geF {x : Int32} {off : Int} {tgt : Nat} (hd : decode cc pc = .ok (.ifCond .ge off, 3)) (ht : (pc : Int) + off = (tgt : Int)) (hc : ¬ (0 ≤ x)) (kf : VE g cc nL own rt hh R mc ms out kc ks (pc + 3) lv rest w E) : VE g cc nL own rt hh R mc ms out kc ks pc lv (.int x :: rest) w E := fun r hr p e s m args below meth c F H locs ls hW hS hl => lv_if_ge F.1 F.2.1 hd ht (fun h => absurd h hc) (fun _ => kf r hr p e s m args below meth c F H locs ls hW hS hl)
theorem v_icmp_ge {x y : Int32} {off : Int} {tgt : Nat} (hd : decode cc pc = .ok (.if_icmp .ge off, 3)) (ht : (pc : Int) + off = (tgt : Int)) (kt : VE g cc nL own rt hh R mc ms out kc ks tgt lv rest w E1) (kf : VE g cc nL own rt hh R mc ms out kc ks (pc + 3) lv rest w E2) : VE g cc nL own rt hh R mc ms out kc ks pc lv (.int y :: .int x :: rest) w (if y ≤ x then E1 else E2) := fun r hr p e s m args below meth c F H locs ls hW hS hl => lv_icmp_ge F.1 F.2.1 hd ht (fun h => kt r (by rw [if_pos h] at hr; exact hr) p e s m args below meth c F H locs ls hW hS hl) (fun h => kf r (by rw [if_neg h] at hr; exact hr) p e s m args below meth c F H locs ls hW hS hl)
theorem v_icmp_geT {x y : Int32} {off : Int} {tgt : Nat} (hd : decode cc pc = .ok (.if_icmp .ge off, 3)) (ht : (pc : Int) + off = (tgt : Int)) (hc : y ≤ x) (kt : VE g cc nL own rt hh R mc ms out kc ks tgt lv rest w E) : VE g cc nL own rt hh R mc ms out kc ks pc lv (.int y :: .int x :: rest) w E := fun r hr p e s m args below meth c F H locs ls hW hS hl => lv_icmp_ge F.1 F.2.1 hd ht (fun _ => kt r hr p e s m args below meth c F H locs ls hW hS hl) (fun h => absurd hc h)
theorem v_icmp_geF {x y : Int32} {off : Int} {tgt : Nat} (hd : decode cc pc = .ok (.if_icmp .ge off, 3)) (ht : (pc : Int) + off = (tgt : Int)) (hc : ¬ (y ≤ x)) (kf : VE g cc nL own rt hh R mc ms out kc ks (pc + 3) lv rest w E) : VE g cc nL own rt hh R mc ms out kc ks pc lv (.int y :: .int x :: rest) w E := fun r hr p e s m args below meth c F H locs ls hW hS hl => lv_icmp_ge F.1 F.2.1 hd ht (fun h => absurd h hc) (fun _ => kf r hr p e s m args below meth c F H locs ls hW hS hl)
theorem v_if_gt {x : Int32} {off : Int} {tgt : Nat} (hd : decode cc pc = .ok (.ifCond .gt off, 3)) (ht : (pc : Int) + off = (tgt : Int)) (kt : VE g cc nL own rt hh R mc ms out kc ks tgt lv rest w E1) (kf : VE g cc nL own rt hh R mc ms out kc ks (pc + 3) lv rest w E2) : VE g cc nL own rt hh R mc ms out kc ks pc lv (.int x :: rest) w (if 0 < x then E1 else E2) := fun r hr p e s m args below meth c F H locs ls hW hS hl => lv_if_gt F.1 F.2.1 hd ht (fun h => kt r (by rw [if_pos h] at hr; exact hr) p e s m args below meth c F H locs ls hW hS hl) (fun h => kf r (by rw [if_neg h] at hr; exact hr) p e s m args below meth c F H locs ls hW hS hl)
theorem v_if_gtT {x : Int32} {off : Int} {tgt : Nat} (hd : decode cc pc = .ok (.ifCond .gt off, 3)) (ht : (pc : Int) + off = (tgt : Int)) (hc : 0 < x) (kt : VE g cc nL own rt hh R mc ms out kc ks tgt lv rest w E) : VE g cc nL own rt hh R mc ms out kc ks pc lv (.int x :: rest) w E := fun r hr p e s m args below meth c F H locs ls hW hS hl => lv_if_gt F.1 F.2.1 hd ht (fun _ => kt r hr p e s m args below meth c F H locs ls hW hS hl) (fun h => absurd hc h)
theorem v_if_gtF {x : Int32} {off : Int} {tgt : Nat} (hd : decode cc pc = .ok (.ifCond .gt off, 3)) (ht : (pc : Int) + off = (tgt : Int)) (hc : ¬ (0 < x)) (kf : VE g cc nL own rt hh R mc ms out kc ks (pc + 3) lv rest w E) : VE g cc nL own rt hh R mc ms out kc ks pc lv (.int x :: rest) w E := fun r hr p e s m args below meth c F H locs ls hW hS hl => lv_if_gt F.1 F.2.1 hd ht (fun h => absurd h hc) (fun _ => kf r hr p e s m args below meth c F H locs ls hW hS hl)
theorem v_icmp_gt {x y : Int32} {off : Int} {tgt : Nat} (hd : decode cc pc = .ok (.if_icmp .gt off, 3)) (ht : (pc : Int) + off = (tgt : Int)) (kt : VE g cc nL own rt hh R mc ms out kc ks tgt lv rest w E1) (kf : VE g cc nL own rt hh R mc ms out kc ks (pc + 3) lv rest w E2) : VE g cc nL own rt hh R mc ms out kc ks pc lv (.int y :: .int x :: rest) w (if y < x then E1 else E2) := fun r hr p e s m args below meth c F H locs ls hW hS hl => lv_icmp_gt F.1 F.2.1 hd ht (fun h => kt r (by rw [if_pos h] at hr; exact hr) p e s m args below meth c F H locs ls hW hS hl) (fun h => kf r (by rw [if_neg h] at hr; exact hr) p e s m args below meth c F H locs ls hW hS hl)
theorem v_icmp_gtT {x y : Int32} {off : Int} {tgt : Nat} (hd : decode cc pc = .ok (.if_icmp .gt off, 3)) (ht : (pc : Int) + off = (tgt : Int)) (hc : y < x) (kt : VE g cc nL own rt hh R mc ms out kc ks tgt lv rest w E) : VE g cc nL own rt hh R mc ms out kc ks pc lv (.int y :: .int x :: rest) w E := fun r hr p e s m args below meth c F H locs ls hW hS hl => lv_icmp_gt F.1 F.2.1 hd ht (fun _ => kt r hr p e s m args below meth c F H locs ls hW hS hl) (fun h => absurd hc h)
theorem v_icmp_gtF {x y : Int32} {off : Int} {tgt : Nat} (hd : decode cc pc = .ok (.if_icmp .gt off, 3)) (ht : (pc : Int) + off = (tgt : Int)) (hc : ¬ (y < x)) (kf : VE g cc nL own rt hh R mc ms out kc ks (pc + 3) lv rest w E) : VE g cc nL own rt hh R mc ms out kc ks pc lv (.int y :: .int x :: rest) w E := fun r hr p e s m args below meth c F H locs ls hW hS hl => lv_icmp_gt F.1 F.2.1 hd ht (fun h => absurd h hc) (fun _ => kf r hr p e s m args below meth c F H locs ls hW hS hl)
theorem v_if_le {x : Int32} {off : Int} {tgt : Nat} (hd : decode cc pc = .ok (.ifCond .le off, 3)) (ht : (pc : Int) + off = (tgt : Int)) (kt : VE g cc nL own rt hh R mc ms out kc ks tgt lv rest w E1) (kf : VE g cc nL own rt hh R mc ms out kc ks (pc + 3) lv rest w E2) : VE g cc nL own rt hh R mc ms out kc ks pc lv (.int x :: rest) w (if x ≤ 0 then E1 else E2) := fun r hr p e s m args below meth c F H locs ls hW hS hl => lv_if_le F.1 F.2.1 hd ht (fun h => kt r (by rw [if_pos h] at hr; exact hr) p e s m args below meth c F H locs ls hW hS hl) (fun h => kf r (by rw [if_neg h] at hr; exact hr) p e s m args below meth c F H locs ls hW hS hl)
theorem v_if_leT {x : Int32} {off : Int} {tgt : Nat} (hd : decode cc pc = .ok (.ifCond .le off, 3)) (ht : (pc : Int) + off = (tgt : Int)) (hc : x ≤ 0) (kt : VE g cc nL own rt hh R mc ms out kc ks tgt lv rest w E) : VE g cc nL own rt hh R mc ms out kc ks pc lv (.int x :: rest) w E := fun r hr p e s m args below meth c F H locs ls hW hS hl => lv_if_le F.1 F.2.1 hd ht (fun _ => kt r hr p e s m args below meth c F H locs ls hW hS hl) (fun h => absurd hc h)
theorem v_if_leF {x : Int32} {off : Int} {tgt : Nat} (hd : decode cc pc = .ok (.ifCond .le off, 3)) (ht : (pc : Int) + off = (tgt : Int)) (hc : ¬ (x ≤ 0)) (kf : VE g cc nL own rt hh R mc ms out kc ks (pc + 3) lv rest w E) : VE g cc nL own rt hh R mc ms out kc ks pc lv (.int x :: rest) w E := fun r hr p e s m args below meth c F H locs ls hW hS hl => lv_if_le F.1 F.2.1 hd ht (fun h => absurd h hc) (fun _ => kf r hr p e s m args below meth c F H locs ls hW hS hl)
theorem v_icmp_le {x y : Int32} {off : Int} {tgt : Nat} (hd : decode cc pc = .ok (.if_icmp .le off, 3)) (ht : (pc : Int) + off = (tgt : Int)) (kt : VE g cc nL own rt hh R mc ms out kc ks tgt lv rest w E1) (kf : VE g cc nL own rt hh R mc ms out kc ks (pc + 3) lv rest w E2) : VE g cc nL own rt hh R mc ms out kc ks pc lv (.int y :: .int x :: rest) w (if x ≤ y then E1 else E2) := fun r hr p e s m args below meth c F H locs ls hW hS hl => lv_icmp_le F.1 F.2.1 hd ht (fun h => kt r (by rw [if_pos h] at hr; exact hr) p e s m args below meth c F H locs ls hW hS hl) (fun h => kf r (by rw [if_neg h] at hr; exact hr) p e s m args below meth c F H locs ls hW hS hl)
theorem v_icmp_leT {x y : Int32} {off : Int} {tgt : Nat} (hd : decode cc pc = .ok (.if_icmp .le off, 3)) (ht : (pc : Int) + off = (tgt : Int)) (hc : x ≤ y) (kt : VE g cc nL own rt hh R mc ms out kc ks tgt lv rest w E) : VE g cc nL own rt hh R mc ms out kc ks pc lv (.int y :: .int x :: rest) w E := fun r hr p e s m args below meth c F H locs ls hW hS hl => lv_icmp_le F.1 F.2.1 hd ht (fun _ => kt r hr p e s m args below meth c F H locs ls hW hS hl) (fun h => absurd hc h)
theorem v_icmp_leF {x y : Int32} {off : Int} {tgt : Nat} (hd : decode cc pc = .ok (.if_icmp .le off, 3)) (ht : (pc : Int) + off = (tgt : Int)) (hc : ¬ (x ≤ y)) (kf : VE g cc nL own rt hh R mc ms out kc ks (pc + 3) lv rest w E) : VE g cc nL own rt hh R mc ms out kc ks pc lv (.int y :: .int x :: rest) w E := fun r hr p e s m args below meth c F H locs ls hW hS hl => lv_icmp_le F.1 F.2.1 hd ht (fun h => absurd h hc) (fun _ => kf r hr p e s m args below meth c F H locs ls hW hS hl)
theorem v_ifnull {x : Nat} {off : Int} (hd : decode cc pc = .ok (.ifnull off, 3)) (k : VE g cc nL own rt hh R mc ms out kc ks (pc + 3) lv rest w E) : VE g cc nL own rt hh R mc ms out kc ks pc lv (.ref x :: rest) w E := fun r hr p e s m args below meth c F H locs ls hW hS hl => lv_ifnull F.1 F.2.1 hd (k r hr p e s m args below meth c F H locs ls hW hS hl)
theorem v_ifnullN {off : Int} {tgt : Nat} (hd : decode cc pc = .ok (.ifnull off, 3)) (ht : (pc : Int) + off = (tgt : Int)) (k : VE g cc nL own rt hh R mc ms out kc ks tgt lv rest w E) : VE g cc nL own rt hh R mc ms out kc ks pc lv (.null :: rest) w E := fun r hr p e s m args below meth c F H locs ls hW hS hl => lv_ifnullN F.1 F.2.1 hd ht (k r hr p e s m args below meth c F H locs ls hW hS hl)
/-! fields -/
/-- a field's link: its class's number and place, with all that the tables say -/
def FL (own : String) (index ci j : Nat) (d : String) (fin : Bool) : Prop := ∃ (C : String) (T : u_T) (N : Nat) (ty : Nat → FieldType), vwCl[ci]? = some (C, T, N) ∧ (∀ w ∈ u_ws C T N, w ∈ GW) ∧ j < N ∧ Cond.fieldLink own index (T j).1 (T j).2.1 (T j).2.2.1 ∈ GW ∧ (∀ k, k < N → parseFieldDescriptor (T k).2.2.1 = some (ty k)) ∧ (∀ a, a < N → ∀ b, b < N → a ≠ b → (T a).2.1 ≠ (T b).2.1) ∧ (T j).2.2.1 = d ∧ (T j).2.2.2 = fin
theorem v_getI {index ci j k : Nat} {d : String} {fin : Bool} {fs : List (Option Nat)} (hL : FL own index ci j d fin) (hT : TT[k]? = some (0, ci, fs)) (hf : fs[j]? = some none) (hd : decode cc pc = .ok (.getfield index, 3))
    (kk : VE g cc nL own rt hh R mc ms out kc ks (pc + 3) lv (.int (w.1 k j) :: rest) w E) : VE g cc nL own rt hh R mc ms out kc ks pc lv (.ref (g.2.1 + k) :: rest) w E := by
  intro r hr p e s m args below meth c F H locs ls hW hS hl
  obtain ⟨C, T, N, ty, h1, h2, h3, h4, -⟩ := hL
  refine va_get (D := g.2.2.2.1) (cl := vwCl) (tys := tysL g) (ci := ci) (v := .int (w.1 k j)) F.1 F.2.1 F.2.2.2.2.1 h2 F.2.2.2.1 F.2.2.2.2.2.1 (hW.one hT) 0 rfl h1 j h3 (F.2.2.2.2.1 _ h4) (fun _ h9 => h9) ?_ hd (kk r hr p e s m args below meth c F H locs ls hW hS hl)
  show (layF g.2.1 (w.1 k) 0 fs)[j]? = _
  rw [layF_get, hf]
  simp
theorem v_getR {index ci j k t : Nat} {d : String} {fin : Bool} {fs : List (Option Nat)} (hL : FL own index ci j d fin) (hT : TT[k]? = some (0, ci, fs)) (hf : fs[j]? = some (some t)) (hd : decode cc pc = .ok (.getfield index, 3))
    (kk : VE g cc nL own rt hh R mc ms out kc ks (pc + 3) lv (.ref (g.2.1 + t) :: rest) w E) : VE g cc nL own rt hh R mc ms out kc ks pc lv (.ref (g.2.1 + k) :: rest) w E := by
  intro r hr p e s m args below meth c F H locs ls hW hS hl
  obtain ⟨C, T, N, ty, h1, h2, h3, h4, -⟩ := hL
  refine va_get (D := g.2.2.2.1) (cl := vwCl) (tys := tysL g) (ci := ci) (v := .ref (g.2.1 + t)) F.1 F.2.1 F.2.2.2.2.1 h2 F.2.2.2.1 F.2.2.2.2.2.1 (hW.one hT) 0 rfl h1 j h3 (F.2.2.2.2.1 _ h4) (fun _ h9 => h9) ?_ hd (kk r hr p e s m args below meth c F H locs ls hW hS hl)
  show (layF g.2.1 (w.1 k) 0 fs)[j]? = _
  rw [layF_get, hf]
  simp
theorem v_putI {index ci j k : Nat} {d : String} {ty0 : FieldType} {v : Int32} {fs : List (Option Nat)} (hL : FL own index ci j d false) (hT : TT[k]? = some (0, ci, fs)) (hf : fs[j]? = some none) (hty : parseFieldDescriptor d = some ty0) (hn : narrow ty0 (.int v) = .int v) (hfit : fits ty0 (.int v) = true) (hd : decode cc pc = .ok (.putfield index, 3))
    (kk : VE g cc nL own rt hh R mc ms out kc ks (pc + 3) lv rest (wset w k j v) E) : VE g cc nL own rt hh R mc ms out kc ks pc lv (.int v :: .ref (g.2.1 + k) :: rest) w E := by
  intro r hr p e s m args below meth c F H locs ls hW hS hl
  obtain ⟨C, T, N, ty, h1, h2, h3, h4, h5, h6, h7, h8⟩ := hL
  have hts := F.2.2.2.2.1
  have hK := F.2.2.2.2.2.1
  have hap := va_apart (own := own) hts h2 ty h5 h6 hK h1
  obtain ⟨r0, q0, cell, q1, q2, q3, q4⟩ := hW k _ hT
  have hr0 : r0 = (C, T, N) := Option.some.inj (q0.symm.trans h1)
  subst hr0
  obtain ⟨hSi, hfc, kC, hkC, hkind⟩ := hK.1 ci _ h1
  obtain ⟨cf, kf, fi, f, hi, hsl⟩ := hSi j h3
  have hlay := hts _ (h2 _ (u_in_lay h3))
  unfold u_lay at hlay
  rw [if_neg (by rw [h8]; decide)] at hlay
  have hst := (u_facts hfc hkC (u_lays hts h2 h3) hi).1
  have hS6 := u_store hfc hkC hkind hlay hi (by rw [h7]; exact hty) hn hfit
  refine W.putK F.1 F.2.1 (f := f) ⟨F.2.2.2.1, hts _ h4, ⟨_, _, _, hi⟩, hst⟩ (by rw [q2]; exact hS6) q1 q3 (by rw [hsl]; exact k2_hasslot (q4 j h3)) rfl rfl hd fun H' e1 e2 e3 => ?_
  rw [hsl] at e1 ⊢
  have hl2 : j < (layF g.2.1 (w.1 k) 0 fs).length := by rw [layF_len]; exact (List.getElem?_eq_some_iff.mp hf).1
  refine kk r hr p e s m args below meth c F H' _ ls ?_ (hS.put e2 e3 (Nat.le_add_right _ _)) hl
  refine RW.put hW hT ?_ e3 (fun k' hk' => wset_ne hk') (Or.inl rfl)
  refine ⟨_, h1, ?_⟩
  have ev : layF g.2.1 ((wset w k j v).1 k) 0 fs = (layF g.2.1 (w.1 k) 0 fs).set j (.int v) := by
    rw [layF_set _ _ _ _ _ hf, wset_eq]
  rw [ev]
  exact t_OB.to (V := updV (vp_V (layF g.2.1 (w.1 k) 0 fs)) j (.int v)) ⟨_, e1, q2, q3, t_set q4 hap h3 _⟩ (fun i _ => vp_updV_set hl2 _ i)
/-! arrays -/
theorem v_ald_aux {kd : Nat} {n k : Nat} {fs : List (Option Nat)} {H : Heap} {s : State} {i : Int32} {ty : FieldType} (hW : RW g w H) (hK : va_K g.2.2.2.1 vwCl (tysL g) s) (hT : TT[k]? = some (kd, n, fs)) (hkd : kd = 1 ∨ kd = 2 ∨ kd = 3) (hty : (tysL g)[kd - 1]? = some (g.2.2.1 (kd - 1), ty)) :
    H[g.2.1 + k]? = some (vp_cell (g.2.2.1 (kd - 1)) (n, .inl (w.1 k))) ∧ s.isArrayOf (vp_cell (g.2.2.1 (kd - 1)) (n, .inl (w.1 k))) ty := by
  have h := hW k _ hT
  have h2 := (hK.2 _ _ hty).1 n (fun j => .int (w.1 k j))
  refine ⟨?_, h2⟩
  rcases hkd with rfl | rfl | rfl <;> exact h
theorem v_iald {n k : Nat} {fs : List (Option Nat)} {i : Int32} (hT : TT[k]? = some (1, n, fs)) (hin : vp_in i n) (hd : decode cc pc = .ok (.iaload, 1))
    (kk : VE g cc nL own rt hh R mc ms out kc ks (pc + 1) lv (.int (w.1 k i.toNatClampNeg) :: rest) w E) : VE g cc nL own rt hh R mc ms out kc ks pc lv (.int i :: .ref (g.2.1 + k) :: rest) w E := by
  intro r hr p e s m args below meth c F H locs ls hW hS hl
  exact va_iald (D := g.2.2.2.1) (cl := vwCl) (tys := tysL g) F.1 F.2.1 F.2.2.2.2.2.1 (hW.one hT) 0 0 rfl rfl hin hd (kk r hr p e s m args below meth c F H locs ls hW hS hl)
theorem v_zald {n k : Nat} {fs : List (Option Nat)} {i : Int32} (hT : TT[k]? = some (2, n, fs)) (hin : vp_in i n) (hd : decode cc pc = .ok (.baload, 1))
    (kk : VE g cc nL own rt hh R mc ms out kc ks (pc + 1) lv (.int (w.1 k i.toNatClampNeg) :: rest) w E) : VE g cc nL own rt hh R mc ms out kc ks pc lv (.int i :: .ref (g.2.1 + k) :: rest) w E := by
  intro r hr p e s m args below meth c F H locs ls hW hS hl
  exact va_zald (D := g.2.2.2.1) (cl := vwCl) (tys := tysL g) F.1 F.2.1 F.2.2.2.2.2.1 (hW.one hT) 0 1 rfl rfl hin hd (kk r hr p e s m args below meth c F H locs ls hW hS hl)
theorem v_cald {n k : Nat} {fs : List (Option Nat)} {i : Int32} (hT : TT[k]? = some (3, n, fs)) (hin : vp_in i n) (hd : decode cc pc = .ok (.caload, 1))
    (kk : VE g cc nL own rt hh R mc ms out kc ks (pc + 1) lv (.int (w.1 k i.toNatClampNeg) :: rest) w E) : VE g cc nL own rt hh R mc ms out kc ks pc lv (.int i :: .ref (g.2.1 + k) :: rest) w E := by
  intro r hr p e s m args below meth c F H locs ls hW hS hl
  exact va_cald (D := g.2.2.2.1) (cl := vwCl) (tys := tysL g) F.1 F.2.1 F.2.2.2.2.2.1 (hW.one hT) 0 2 rfl rfl hin hd (kk r hr p e s m args below meth c F H locs ls hW hS hl)
theorem v_ast_eq {cA : ClassId} {n i k : Nat} {x : Int32} : (vp_cell cA (n, .inl (w.1 k))).setSlot i (.int x) = vp_cell cA (n, .inl ((wset w k i x).1 k)) := by
  rw [vp_cell_i, vp_cell_i, arrV_store, wset_eq]
  congr 1
  funext q
  by_cases hq : q = i
  · simp [updV, hq]
  · simp [updV, hq]
theorem v_iast {n k : Nat} {fs : List (Option Nat)} {i x : Int32} (hT : TT[k]? = some (1, n, fs)) (hin : vp_in i n) (hd : decode cc pc = .ok (.iastore, 1))
    (kk : VE g cc nL own rt hh R mc ms out kc ks (pc + 1) lv rest (wset w k i.toNatClampNeg x) E) : VE g cc nL own rt hh R mc ms out kc ks pc lv (.int x :: .int i :: .ref (g.2.1 + k) :: rest) w E := by
  intro r hr p e s m args below meth c F H locs ls hW hS hl
  obtain ⟨h1, h2⟩ := v_ald_aux (i := i) (ty := .int) hW F.2.2.2.2.2.1 hT (Or.inl rfl) rfl
  refine W.iast F.1 F.2.1 h1 h2 (fun q => by cases q) (by show ¬ (i < 0 ∨ (arrV _ _ _).slots.size ≤ _); rw [arrV_size]; exact hin) rfl rfl hd fun H1 e1 z oq => ?_
  rw [v_ast_eq] at e1
  exact kk r hr p e s m args below meth c F H1 _ ls (RW.put hW hT e1 oq (fun k' hk' => wset_ne hk') (Or.inl rfl)) (hS.put z oq (Nat.le_add_right _ _)) hl
theorem v_zast {n k : Nat} {fs : List (Option Nat)} {i x : Int32} (hT : TT[k]? = some (2, n, fs)) (hin : vp_in i n) (hd : decode cc pc = .ok (.bastore, 1))
    (kk : VE g cc nL own rt hh R mc ms out kc ks (pc + 1) lv rest (wset w k i.toNatClampNeg (vp_nar .boolean x)) E) : VE g cc nL own rt hh R mc ms out kc ks pc lv (.int x :: .int i :: .ref (g.2.1 + k) :: rest) w E := by
  intro r hr p e s m args below meth c F H locs ls hW hS hl
  obtain ⟨h1, h2⟩ := v_ald_aux (i := i) (ty := .boolean) hW F.2.2.2.2.2.1 hT (Or.inr (Or.inl rfl)) rfl
  refine W.zast F.1 F.2.1 h1 h2 (fun q => by cases q) (by show ¬ (i < 0 ∨ (arrV _ _ _).slots.size ≤ _); rw [arrV_size]; exact hin) rfl rfl hd fun H1 e1 z oq => ?_
  rw [show narrow .boolean (.int x) = .int (vp_nar .boolean x) from rfl, v_ast_eq] at e1
  exact kk r hr p e s m args below meth c F H1 _ ls (RW.put hW hT e1 oq (fun k' hk' => wset_ne hk') (Or.inl rfl)) (hS.put z oq (Nat.le_add_right _ _)) hl
theorem v_cast {n k : Nat} {fs : List (Option Nat)} {i x : Int32} (hT : TT[k]? = some (3, n, fs)) (hin : vp_in i n) (hd : decode cc pc = .ok (.castore, 1))
    (kk : VE g cc nL own rt hh R mc ms out kc ks (pc + 1) lv rest (wset w k i.toNatClampNeg (vp_nar .char x)) E) : VE g cc nL own rt hh R mc ms out kc ks pc lv (.int x :: .int i :: .ref (g.2.1 + k) :: rest) w E := by
  intro r hr p e s m args below meth c F H locs ls hW hS hl
  obtain ⟨h1, h2⟩ := v_ald_aux (i := i) (ty := .char) hW F.2.2.2.2.2.1 hT (Or.inr (Or.inr rfl)) rfl
  refine W.cast F.1 F.2.1 h1 h2 (fun q => by cases q) (by show ¬ (i < 0 ∨ (arrV _ _ _).slots.size ≤ _); rw [arrV_size]; exact hin) rfl rfl hd fun H1 e1 z oq => ?_
  rw [show narrow .char (.int x) = .int (vp_nar .char x) from rfl, v_ast_eq] at e1
  exact kk r hr p e s m args below meth c F H1 _ ls (RW.put hW hT e1 oq (fun k' hk' => wset_ne hk') (Or.inl rfl)) (hS.put z oq (Nat.le_add_right _ _)) hl
theorem v_alen {kd n k : Nat} {fs : List (Option Nat)} {v : Int32} (hT : TT[k]? = some (kd, n, fs)) (hkd : kd = 1 ∨ kd = 3 ∨ kd = 6) (hv : Int32.ofNat n = v) (hd : decode cc pc = .ok (.arraylength, 1))
    (kk : VE g cc nL own rt hh R mc ms out kc ks (pc + 1) lv (.int v :: rest) w E) : VE g cc nL own rt hh R mc ms out kc ks pc lv (.ref (g.2.1 + k) :: rest) w E := by
  intro r hr p e s m args below meth c F H locs ls hW hS hl
  rcases hkd with rfl | rfl | rfl
  · exact va_alen (D := g.2.2.2.1) (cl := vwCl) (tys := tysL g) (x := (n, .inl (w.1 k))) F.1 F.2.1 F.2.2.2.2.2.1 (hW.one hT) 0 0 rfl rfl hv hd (kk r hr p e s m args below meth c F H locs ls hW hS hl)
  · exact va_alen (D := g.2.2.2.1) (cl := vwCl) (tys := tysL g) (x := (n, .inl (w.1 k))) F.1 F.2.1 F.2.2.2.2.2.1 (hW.one hT) 0 2 rfl rfl hv hd (kk r hr p e s m args below meth c F H locs ls hW hS hl)
  · exact va_alen (D := g.2.2.2.1) (cl := vwCl) (tys := tysL g) (x := (n, .inr (.inr (.inr (.inr (fun j => (fs.getD j none).map (g.2.1 + ·))))))) F.1 F.2.1 F.2.2.2.2.2.1 (hW.one hT) 0 5 rfl rfl hv hd (kk r hr p e s m args below meth c F H locs ls hW hS hl)
theorem v_aald {n k t : Nat} {fs : List (Option Nat)} {i : Int32} (hT : TT[k]? = some (6, n, fs)) (hin : vp_in i n) (ht : fs.getD i.toNatClampNeg none = some t) (hd : decode cc pc = .ok (.aaload, 1))
    (kk : VE g cc nL own rt hh R mc ms out kc ks (pc + 1) lv (.ref (g.2.1 + t) :: rest) w E) : VE g cc nL own rt hh R mc ms out kc ks pc lv (.int i :: .ref (g.2.1 + k) :: rest) w E := by
  intro r hr p e s m args below meth c F H locs ls hW hS hl
  refine va_aldq (D := g.2.2.2.1) (cl := vwCl) (tys := tysL g) (f := fun j => (fs.getD j none).map (g.2.1 + ·)) F.1 F.2.1 F.2.2.2.2.2.1 (hW.one hT) 0 5 rfl rfl hin hd ?_
  rw [ht]
  exact kk r hr p e s m args below meth c F H locs ls hW hS hl
/-- System.arraycopy between two int rows, or two boolean rows -/
theorem v_copy {kd k0 k1 n0 n1 index : Nat} {fs0 fs1 : List (Option Nat)} {ty : FieldType} {sp dp n : Int32} (hT0 : TT[k0]? = some (kd, n0, fs0)) (hT1 : TT[k1]? = some (kd, n1, fs1)) (hkd : kd = 1 ∨ kd = 2) (hty : (tysL g)[kd - 1]? = some (g.2.2.1 (kd - 1), ty)) (hprim : refKind ty = false)
    (hlink : Cond.methodLink own index arraycopyName ∈ GW) (hnat : Cond.native arraycopyName ∈ GW) (hstat : Cond.static arraycopyName ∈ GW) (hini : Cond.initialized "java/lang/System" ∈ GW)
    (h1 : ¬ sp < 0) (h2 : ¬ dp < 0) (h3 : ¬ n < 0) (h4 : sp.toNatClampNeg + n.toNatClampNeg ≤ n0) (h5 : dp.toNatClampNeg + n.toNatClampNeg ≤ n1) (hfit : ∀ i, i < n.toNatClampNeg → fits ty (.int (w.1 k0 (sp.toNatClampNeg + i))) = true)
    (hframes : 1 ≤ R.frames) (hlocals : (rest.map fun v => v.category).sum + (nativeFrameWords "java/lang/System" "arraycopy" 5 + 11) ≤ R.locals) (hd : decode cc pc = .ok (.invokestatic index, 3))
    (kk : VE g cc nL own rt hh R mc ms out kc ks (pc + 3) lv rest (wcpy w k0 sp.toNatClampNeg k1 dp.toNatClampNeg n.toNatClampNeg) E) : VE g cc nL own rt hh R mc ms out kc ks pc lv (.int n :: .int dp :: .ref (g.2.1 + k1) :: .int sp :: .ref (g.2.1 + k0) :: rest) w E := by
  intro r hr p e s m args below meth c F H locs ls hW hS hl
  have nn : ∀ z : Int32, ¬ z < 0 → z.toInt = (z.toNatClampNeg : Int) := by
    intro z hz
    have hz0 : (0 : Int) ≤ z.toInt := by
      have := Int32.not_lt.mp hz
      simpa using Int32.le_iff_toInt_le.mp this
    show z.toInt = ((z.toInt.toNat : Nat) : Int)
    omega
  have hts := F.2.2.2.2.1
  have hK := F.2.2.2.2.2.1
  have hkd3 : kd = 1 ∨ kd = 2 ∨ kd = 3 := by rcases hkd with h | h <;> simp [h]
  obtain ⟨hc0, ha0⟩ := v_ald_aux (i := sp) hW hK hT0 hkd3 hty
  obtain ⟨hc1, ha1⟩ := v_ald_aux (i := sp) hW hK hT1 hkd3 hty
  obtain ⟨c0, hc0e⟩ : ∃ z, z = g.2.2.1 (kd - 1) := ⟨_, rfl⟩
  rw [← hc0e] at hc0 ha0 hc1 ha1
  obtain ⟨-, q0, hk0, cm0, hkk0⟩ := ha0
  obtain ⟨-, q1, hk1, cm1, hkk1⟩ := ha1
  intro T hTh X
  obtain ⟨vm', X', step⟩ := X.arraycopy F.1 F.2.2.2.1 (hts _ hlink) (hts _ hnat) (hts _ hstat) (hts _ hini) (src := g.2.1 + k0) (dst := g.2.1 + k1) (cs := vp_cell c0 (n0, .inl (w.1 k0))) (cd := vp_cell c0 (n1, .inl (w.1 k1))) (srcPos := sp) (destPos := dp) (n := n) (by rw [hTh]; exact hc0) (by rw [hTh]; exact hc1)
    (fun _ h => by cases h) (fun _ h => by cases h) (fun h => by cases h) (fun h => by cases h) hk0 hk1 hkk0 hkk1 (by simp [hprim]) h1 h2 h3
    (by rw [nn sp h1, nn n h3]; show ¬ _ > ((arrV c0 n0 (fun j => .int (w.1 k0 j))).slots.size : Int); rw [arrV_size]; omega)
    (by rw [nn dp h2, nn n h3]; show ¬ _ > ((arrV c0 n1 (fun j => .int (w.1 k1 j))).slots.size : Int); rw [arrV_size]; omega)
    (fun vm₁ _ i hi => by
      have e : (vp_cell c0 (n0, .inl (w.1 k0))).slots.getD (sp.toNatClampNeg + i) .null = .int (w.1 k0 (sp.toNatClampNeg + i)) := by
        show (arrV c0 n0 (fun j => .int (w.1 k0 j))).slots.getD _ _ = _
        rw [Array.getD_eq_getD_getElem?, arrV_read _ _ (by omega)]
        rfl
      refine ⟨?_, ?_⟩
      · rw [e]
        exact hfit i hi
      · rw [e]
        exact trivial)
    (g := F0 m pc ls (.int n :: .int dp :: .ref (g.2.1 + k1) :: .int sp :: .ref (g.2.1 + k0) :: rest)) rfl (by rw [F.2.2.1]; exact hl.1) (rest := rest) rfl (by rw [F.2.1]; exact hd) hframes (by show 2 * 0 + _ + _ ≤ _; omega)
  have e1 : copied (vp_cell c0 (n0, .inl (w.1 k0))) (vp_cell c0 (n1, .inl (w.1 k1))) sp dp n = vp_cell c0 (n1, .inl (va_cpy (w.1 k0) (w.1 k1) sp.toNatClampNeg dp.toNatClampNeg n.toNatClampNeg)) := va_copied (fun z => .int z) c0 c0 (w.1 k0) (w.1 k1) h4
  rw [e1] at X' step
  have hlt : g.2.1 + k1 < H.size := (Array.getElem?_eq_some_iff.mp hc1).1
  have hheap : ((T.setVm vm').setCell (g.2.1 + k1) (vp_cell c0 (n1, .inl (va_cpy (w.1 k0) (w.1 k1) sp.toNatClampNeg dp.toNatClampNeg n.toNatClampNeg)))).heap = H.setIfInBounds (g.2.1 + k1) (vp_cell c0 (n1, .inl (va_cpy (w.1 k0) (w.1 k1) sp.toNatClampNeg dp.toNatClampNeg n.toNatClampNeg))) := by rw [← hTh]; rfl
  have oq : ∀ q : Nat, q ≠ g.2.1 + k1 → (H.setIfInBounds (g.2.1 + k1) (vp_cell c0 (n1, .inl (va_cpy (w.1 k0) (w.1 k1) sp.toNatClampNeg dp.toNatClampNeg n.toNatClampNeg))))[q]? = H[q]? := fun q hq => by simp [Array.getElem?_setIfInBounds, Ne.symm hq]
  have hat : (H.setIfInBounds (g.2.1 + k1) (vp_cell c0 (n1, .inl (va_cpy (w.1 k0) (w.1 k1) sp.toNatClampNeg dp.toNatClampNeg n.toNatClampNeg))))[g.2.1 + k1]? = some (vp_cell c0 (n1, .inl (va_cpy (w.1 k0) (w.1 k1) sp.toNatClampNeg dp.toNatClampNeg n.toNatClampNeg))) := by simp [Array.getElem?_setIfInBounds, hlt]
  obtain ⟨t, a1, b1⟩ := kk r hr p e s m args below meth c F _ _ ls (RW.put hW hT1 (by
      have hat2 := hat.trans (congrArg some (congrArg (fun z => vp_cell c0 (n1, .inl z)) (wcpy_eq (w := w) (sk := k0) (sp := sp.toNatClampNeg) (dk := k1) (dp := dp.toNatClampNeg) (n := n.toNatClampNeg)).symm))
      rcases hkd with rfl | rfl
      · subst hc0e; exact hat2
      · subst hc0e; exact hat2) oq (fun k' hk' => wcpy_ne hk') (Or.inl rfl)) ⟨by simp; exact hS.1, fun q g1 g2 => by
      rw [oq q (fun e => g2 (by rw [e]; exact Nat.le_add_right _ _))]
      exact hS.2.1 q g1 g2, fun q hq => by
      rcases List.mem_append.mp hq with h | h
      · exact hS.2.2 q h
      · obtain ⟨z, -, hz⟩ := List.mem_map.mp h
        rw [← hz]
        exact Nat.le_add_right _ _⟩ hl _ hheap X'
  exact ⟨t, step t a1, b1⟩
/-! ends -/
theorem v_end_aux {v : Option Value} {o : Out} {w0 : XW} {s t : State} {args : Array Value} {H : Heap} {locs : List Loc} (ho : o = (.inl v, w0)) (hW : RW g w0 H) (hS : va_S (fun q => g.2.1 ≤ q) s.heap H locs) (ht : t.heap = H) : QO g o args s (.returned v) t := by
  subst ho
  exact ⟨⟨v, rfl, rfl⟩, by rw [ht]; exact hW, hS.F ht⟩
theorem v_iret {v : Int32} {r0 : ρ} (hd : decode cc pc = .ok (.ireturn, 1)) (hr : rt = some .int) (ho : out r0 = (.inl (some (.int v)), w)) (h1 : kc ≤ mc) (h2 : ks ≤ ms) : VE g cc nL own rt hh R mc ms out kc ks pc lv [.int v] w (some r0) := by
  intro r hr0 p e s m args below meth c F H locs ls hW hS hl
  cases hr0
  refine vx_ret (W.widen h1 h2 ?_)
  exact W.iret F.1 F.2.1 (F.2.2.2.2.2.2.2.2.2.2.1.trans hr) (fun t ht _ => v_end_aux ho hW hS ht) hS.2.2 hd F.2.2.2.2.2.2.2.2.2.1
theorem v_zret {v : Int32} {ty : FieldType} {r0 : ρ} (hd : decode cc pc = .ok (.ireturn, 1)) (hr : rt = some ty) (hn : narrow ty (.int v) = .int v) (ho : out r0 = (.inl (some (.int v)), w)) (h1 : kc ≤ mc) (h2 : ks ≤ ms) : VE g cc nL own rt hh R mc ms out kc ks pc lv [.int v] w (some r0) := by
  intro r hr0 p e s m args below meth c F H locs ls hW hS hl
  cases hr0
  refine vx_ret (W.widen h1 h2 ?_)
  exact W.zret F.1 F.2.1 (F.2.2.2.2.2.2.2.2.2.2.1.trans hr) hn (fun t ht _ => v_end_aux ho hW hS ht) hS.2.2 hd F.2.2.2.2.2.2.2.2.2.1
theorem v_vret {r0 : ρ} (hd : decode cc pc = .ok (.return_, 1)) (hr : rt = none) (ho : out r0 = (.inl none, w)) (h1 : kc ≤ mc) (h2 : ks ≤ ms) : VE g cc nL own rt hh R mc ms out kc ks pc lv [] w (some r0) := by
  intro r hr0 p e s m args below meth c F H locs ls hW hS hl
  cases hr0
  refine vx_ret (W.widen h1 h2 ?_)
  exact W.vret F.1 F.2.1 (F.2.2.2.2.2.2.2.2.2.2.1.trans hr) (fun t ht _ => v_end_aux ho hW hS ht) hS.2.2 hd F.2.2.2.2.2.2.2.2.2.1
theorem v_aret {v : Value} {ty : FieldType} {r0 : ρ} (hd : decode cc pc = .ok (.areturn, 1)) (hr : rt = some ty) (hrt : (∃ n, ty = .object n) ∨ ∃ t, ty = .array t) (hv : v = .null ∨ ∃ a, v = .ref a) (ho : out r0 = (.inl (some v), w)) (h1 : kc ≤ mc) (h2 : ks ≤ ms) : VE g cc nL own rt hh R mc ms out kc ks pc lv [v] w (some r0) := by
  intro r hr0 p e s m args below meth c F H locs ls hW hS hl
  cases hr0
  refine vx_ret (W.widen h1 h2 ?_)
  exact W.aret F.1 F.2.1 (F.2.2.2.2.2.2.2.2.2.2.1.trans hr) hrt hv (fun t ht _ => v_end_aux ho hW hS ht) hS.2.2 hd F.2.2.2.2.2.2.2.2.2.1
theorem v_dret {v : UInt64} {r0 : ρ} (hd : decode cc pc = .ok (.dreturn, 1)) (hr : rt = some .double) (ho : out r0 = (.inl (some (.double v)), w)) (h1 : kc ≤ mc) (h2 : ks ≤ ms) : VE g cc nL own rt hh R mc ms out kc ks pc lv [.double v] w (some r0) := by
  intro r hr0 p e s m args below meth c F H locs ls hW hS hl
  cases hr0
  refine vx_ret (W.widen h1 h2 ?_)
  exact W.dret F.1 F.2.1 (F.2.2.2.2.2.2.2.2.2.2.1.trans hr) (fun t ht _ => v_end_aux ho hW hS ht) hS.2.2 hd F.2.2.2.2.2.2.2.2.2.1
theorem v_fret {v : UInt32} {r0 : ρ} (hd : decode cc pc = .ok (.freturn, 1)) (hr : rt = some .float) (ho : out r0 = (.inl (some (.float v)), w)) (h1 : kc ≤ mc) (h2 : ks ≤ ms) : VE g cc nL own rt hh R mc ms out kc ks pc lv [.float v] w (some r0) := by
  intro r hr0 p e s m args below meth c F H locs ls hW hS hl
  cases hr0
  refine vx_ret (W.widen h1 h2 ?_)
  exact W.fret F.1 F.2.1 (F.2.2.2.2.2.2.2.2.2.2.1.trans hr) (fun t ht _ => v_end_aux ho hW hS ht) hS.2.2 hd F.2.2.2.2.2.2.2.2.2.1
/-- throw new E() -/
theorem v_throw {cls : String} {names : List String} {ik ic : Nat} {r0 : ρ} (hh0 : hh = []) (hcls : Bundle.fit cls = true) (hnames : ∀ n ∈ names, Bundle.fit n = true) (hk : Cond.classLink own ik cls ∈ GW) (hini : Cond.initialized cls ∈ GW) (hat : ∀ w ∈ vx_at0 own ic cls names, w ∈ GW ∨ w ∈ NGW)
    (hgood : ∀ w ∈ Cond.classLink own ik cls :: Cond.initialized cls :: vx_at0 own ic cls names, vx_ot w = true)
    (d0 : decode cc pc = .ok (.new ik, 3)) (d3 : decode cc (pc + 3) = .ok (.dup, 1)) (d4 : decode cc (pc + 4) = .ok (.invokespecial ic, 3)) (d7 : decode cc (pc + 7) = .ok (.athrow, 1))
    (hRframes : names.length + 3 < R.frames) (hRlocals : (rest.map fun v => v.category).sum + (13 * (names.length + 1) + 42) ≤ R.locals) (hRcells : kc + 1 ≤ R.cells) (hRslots : ks + 6 ≤ R.slots) (ho : out r0 = (.inr cls, w)) (h1 : kc + 1 ≤ mc) (h2 : ks + 6 ≤ ms) :
    VE g cc nL own rt hh R mc ms out kc ks pc lv rest w (some r0) := by
  intro r hr0 p e s m args below meth c F H locs ls hW hS hl
  cases hr0
  have hts := F.2.2.2.2.1
  have htab : c.exceptionTable.toList = tableOf hh := F.2.2.2.2.2.2.2.2.2.2.2.2
  rw [hh0] at htab
  refine vx_throw0 (A := fun q => g.2.1 ≤ q) F.1 F.2.1 F.2.2.2.2.2.2.2.2.2.2.2.1 F.2.2.2.1 hcls hnames (hts _ hk) (hts _ hini) (fun z hz => (hat z hz).elim (hts _) (fun h9 => ng_moved (u := s) (U := s) (Vm.Alike.refl s.vm) h9 (F.2.2.2.2.2.2.2.2.1.1 z h9))) hgood F.2.2.2.2.2.2.2.1.1 F.2.2.2.2.2.2.2.1.2.1 hS (by rw [F.2.2.1]; exact hl.1) d0 d3 d4 d7 (fun x hx => by rw [htab] at hx; cases hx) hRframes hRlocals hRcells hRslots F.2.2.2.2.2.2.2.2.2.1 ?_ hS.2.2 h1 h2
  intro t _ hz hq
  rw [ho]
  refine ⟨rfl, hW.kept hq, Nat.le_trans hS.1 hz, fun q g1 g2 => ?_⟩
  rw [hq q (Nat.lt_of_lt_of_le g1 hS.1)]
  exact hS.2.1 q g1 g2
/-! calls -/
theorem v_pre {av : List Value} {s U : State} {H : Heap} {locs : List Loc} {p : Program} {m : MethodId} {args : Array Value} {meth : Method} {c : Code} (F : FX g cc nL own rt hh p s m args meth c) (hW : RW g w H) (hS : va_S (fun q => g.2.1 ≤ q) s.heap H locs) (hU : U.heap = H) (hX : s.WarmedH U.vm) : PO g av w av.toArray U :=
  ⟨rfl, by rw [hU]; exact Nat.le_trans F.2.2.2.2.2.2.1 hS.1, by rw [hU]; exact hW, va_K.moved hX.alike F.2.2.2.2.2.1, by rw [hU]; exact SFs.moved hX.alike (F.2.2.2.2.2.2.2.1.kept hS.2.1), fun w hw => ng_moved hX.alike hw (F.2.2.2.2.2.2.2.2.1.1 w hw), fun i x hx => vk_R.warm hX (F.2.2.2.2.2.2.2.2.1.2.1 i x hx), fun x hx => va_Nc.moved hX.alike (F.2.2.2.2.2.2.2.2.1.2.2 x hx)⟩
theorem v_run_aux {p : Program} {e : Env} {s : State} {m : MethodId} {args : Array Value} {below : List Frame} {meth : Method} {c : Code} {H : Heap} {locs : List Loc} {ls : Array Slot} {mcy msy : Nat} {st0 : List Value} {a : Array Value} {o : Out} {Q : State → Prop}
    (hr : vx_Run p g.1 e R s m args below meth c H locs kc ks mcy msy (F0 m pc ls st0) rest (QO g o a) (XO g o) (fun q => g.2.1 ≤ q)) (hS : va_S (fun q => g.2.1 ≤ q) s.heap H locs)
    (kk : ∀ v w', o = (.inl v, w') → ∀ (H1 : Heap) (locs1 : List Loc), RW g w' H1 → va_S (fun q => g.2.1 ≤ q) s.heap H1 locs1 → W p g.1 e R s m args below meth c H1 locs1 (kc + mcy) (ks + msy) Q (F0 m (pc + 3) ls (v.toList ++ rest)))
    (kx : ∀ E0 w', o = (.inr E0, w') → ∀ (H1 : Heap) (locs1 : List Loc) (q : Addr) (ce : Cell), RW g w' H1 → va_S (fun q => g.2.1 ≤ q) s.heap H1 locs1 → H1[q]? = some ce → ce.vm = .none → s.vm.findClass E0 = some ce.cls → vx_W p g.1 e R s m args below meth c H1 locs1 (kc + mcy) (ks + msy) Q (F0 m pc ls rest) q) :
    W p g.1 e R s m args below meth c H locs kc ks Q (F0 m pc ls st0) := by
  obtain ⟨o1, w1⟩ := o
  intro T hT X
  rcases hr T hT X with ⟨v, st₀, t, T', L, h0, X', hL, e1, e2, ⟨⟨v', hv1, hv2⟩, hRW, hF⟩, st⟩ | ⟨q, st₀, t, T', L, E0, ce, h0, X', hL, e1, e2, ⟨hx1, hRW, hF⟩, hce, hcv, hcl, st⟩
  · cases hv2
    obtain ⟨-, -, k3⟩ := vx_keep (A1 := fun q => g.2.1 ≤ q) h0 e1 hS (fun _ _ h => h) (fun _ h => h) hL hF
    dsimp only at hv1
    subst hv1
    obtain ⟨t2, a1, b1⟩ := kk v w1 rfl T'.heap (locs ++ L) (by rw [e1]; exact hRW) k3 T' rfl X'
    exact ⟨t2, st t2 a1, b1⟩
  · obtain ⟨-, -, k3⟩ := vx_keep (A1 := fun q => g.2.1 ≤ q) h0 e1 hS (fun _ _ h => h) (fun _ h => h) hL hF
    dsimp only at hx1
    subst hx1
    obtain ⟨t2, a1, b1⟩ := kx E0 w1 rfl T'.heap (locs ++ L) q ce (by rw [e1]; exact hRW) k3 (by rw [e1]; exact hce) hcv hcl T' rfl X'
    exact ⟨t2, st.trans a1, b1⟩
/-- what the tables say of a virtual call -/
def CV (own : String) (index : Nat) (y : MethodName) (cy : ByteArray) (nLy : Nat) (ry : Option FieldType) (n : Nat) : Prop := Cond.methodLink own index y ∈ GW ∧ Cond.instanceMethod y ∈ GW ∧ Cond.selects y.cls y y ∈ GW ∧ Cond.initialized y.cls ∈ GW ∧ Cond.code y cy nLy ry ∈ GW ∧ (y.cls ≠ "java/lang/invoke/MethodHandle" ∧ y.cls ≠ "java/lang/invoke/VarHandle") ∧ (parseMethodDescriptor y.desc).map (fun d => d.parameters.length) = some n
def CS (own : String) (index : Nat) (y : MethodName) (cy : ByteArray) (nLy : Nat) (ry : Option FieldType) (n : Nat) : Prop := Cond.methodLink own index y ∈ GW ∧ Cond.static y ∈ GW ∧ Cond.initialized y.cls ∈ GW ∧ Cond.code y cy nLy ry ∈ GW ∧ (y.cls ≠ "java/lang/invoke/MethodHandle" ∧ y.cls ≠ "java/lang/invoke/VarHandle") ∧ (parseMethodDescriptor y.desc).map (fun d => d.parameters.length) = some n
theorem GW_pay {s : State} {args : Array Value} {hd : Cond} (hhd : hd ∈ GW) (hts : ∀ w ∈ GW, w.before args s = true) : ∀ w ∈ hd :: GW, ∀ (a' : Array Value) (U : State), s.WarmedH U.vm → w.before a' U = true := by
  refine pay_in hts (fun w hw => ?_)
  have h : w ∈ GW := by
    rcases List.mem_cons.mp hw with e | e
    · rw [e]; exact hhd
    · exact e
  exact ⟨h, GW_good h⟩
theorem v_len {y : MethodName} {n : Nat} (h : (parseMethodDescriptor y.desc).map (fun d => d.parameters.length) = some n) : ∀ sig, parseMethodDescriptor y.desc = some sig → n = sig.parameters.length := by
  intro sig h2
  rw [h2] at h
  exact (Option.some.inj h).symm
/-- the room of a callee, and what it may make -/
abbrev CR (R : Room) (nLy mcy msy : Nat) (rm : Room) (kc ks : Nat) : Prop := (rm.cells = mcy ∧ rm.slots = msy ∧ rm.frames + 1 ≤ R.frames ∧ 8 + (nLy + 11) + rm.locals ≤ R.locals) ∧ kc + mcy ≤ R.cells ∧ ks + msy ≤ R.slots
theorem v_runV {index nLy n mcy msy k ci N : Nat} {y : MethodName} {cy : ByteArray} {ry : Option FieldType} {rm : Room} {As : List Value} {fs : List (Option Nat)} {T : u_T} {o : Out} {p : Program} {e : Env} {s : State} {m : MethodId} {args : Array Value} {below : List Frame} {meth : Method} {c : Code} {H : Heap} {locs : List Loc} {ls : Array Slot}
    (F : FX g cc nL own rt hh p s m args meth c) (hc : CV own index y cy nLy ry n) (hM : MM g (.code y cy nLy ry) y rm mcy msy (.ref (g.2.1 + k) :: As) w o) (hT : TT[k]? = some (0, ci, fs)) (hC : vwCl[ci]? = some (y.cls, T, N)) (hn : As.length = n) (hst : (rest.map fun v => v.category).sum ≤ 8)
    (hd : decode cc pc = .ok (.invokevirtual index, 3)) (hR : CR R nLy mcy msy rm kc ks) (hW : RW g w H) (hS : va_S (fun q => g.2.1 ≤ q) s.heap H locs) (hl : ls.size = nL) :
    vx_Run p g.1 e R s m args below meth c H locs kc ks mcy msy (F0 m pc ls (As.reverse ++ .ref (g.2.1 + k) :: rest)) rest (QO g o (Value.ref (g.2.1 + k) :: As).toArray) (XO g o) (fun q => g.2.1 ≤ q) := by
  have hts := F.2.2.2.2.1
  obtain ⟨c1, c2, c3, c4, c5, c6, c7⟩ := hc
  exact vx_runV (Ts := GW) (nL := nL) (C := y.cls) (n := n) (bytes := cy) (maxL := nLy) (ret := ry) ⟨F.1, F.2.1, F.2.2.1, F.2.2.2.1, hts⟩ hM
    ⟨⟨hR.1.1, hR.1.2.1, hR.1.2.2.1, hR.1.2.2.2, GW_pay c5 hts, List.mem_cons_self, hts _ c5, hts _ c4, c6, v_len c7, hts _ c1⟩, hts _ c2, hts _ c3⟩
    ⟨PO_blind, va_recv (q0 := 0) F.2.2.2.2.2.1 (hW.one hT) hC rfl, fun U hU hX => v_pre F hW hS hU hX⟩ rfl hn hl rfl (by show 2 * 0 + _ ≤ 8; omega) hd hR.2
theorem v_runS {index nLy n mcy msy : Nat} {y : MethodName} {cy : ByteArray} {ry : Option FieldType} {rm : Room} {As : List Value} {o : Out} {p : Program} {e : Env} {s : State} {m : MethodId} {args : Array Value} {below : List Frame} {meth : Method} {c : Code} {H : Heap} {locs : List Loc} {ls : Array Slot}
    (F : FX g cc nL own rt hh p s m args meth c) (hc : CS own index y cy nLy ry n) (hM : MM g (.code y cy nLy ry) y rm mcy msy As w o) (hn : As.length = n) (hst : (rest.map fun v => v.category).sum ≤ 8)
    (hd : decode cc pc = .ok (.invokestatic index, 3)) (hR : CR R nLy mcy msy rm kc ks) (hW : RW g w H) (hS : va_S (fun q => g.2.1 ≤ q) s.heap H locs) (hl : ls.size = nL) :
    vx_Run p g.1 e R s m args below meth c H locs kc ks mcy msy (F0 m pc ls (As.reverse ++ rest)) rest (QO g o As.toArray) (XO g o) (fun q => g.2.1 ≤ q) := by
  have hts := F.2.2.2.2.1
  obtain ⟨c1, c2, c4, c5, c6, c7⟩ := hc
  exact vx_runS (Ts := GW) (nL := nL) (n := n) (bytes := cy) (maxL := nLy) (ret := ry) ⟨F.1, F.2.1, F.2.2.1, F.2.2.2.1, hts⟩ hM
    ⟨⟨hR.1.1, hR.1.2.1, hR.1.2.2.1, hR.1.2.2.2, GW_pay c5 hts, List.mem_cons_self, hts _ c5, hts _ c4, c6, v_len c7, hts _ c1⟩, hts _ c2⟩
    ⟨PO_blind, fun U hU hX => v_pre F hW hS hU hX⟩ rfl hn hl rfl (by show 2 * 0 + _ ≤ 8; omega) hd hR.2
/-- a virtual call whose callee is F: it returns v in the store w', or throws -/
theorem v_callV {ρF : Type} {Fy : Option ρF} {outF : ρF → Out} {K : ρF → Option ρ} {index nLy n mcy msy k ci N : Nat} {y : MethodName} {cy : ByteArray} {ry : Option FieldType} {rm : Room} {As st : List Value} {fs : List (Option Nat)} {T : u_T}
    (hc : CV own index y cy nLy ry n) (hM : ∀ q, Fy = some q → MM g (.code y cy nLy ry) y rm mcy msy (.ref (g.2.1 + k) :: As) w (outF q)) (hT : TT[k]? = some (0, ci, fs)) (hC : vwCl[ci]? = some (y.cls, T, N)) (hn : As.length = n) (hs : st = As.reverse ++ .ref (g.2.1 + k) :: rest) (hst : (rest.map fun v => v.category).sum ≤ 8)
    (hd : decode cc pc = .ok (.invokevirtual index, 3)) (hR : CR R nLy mcy msy rm kc ks)
    (kk : ∀ q v w', outF q = (.inl v, w') → VE g cc nL own rt hh R mc ms out (kc + mcy) (ks + msy) (pc + 3) lv (v.toList ++ rest) w' (K q))
    (kx : ∀ q E0 w', outF q = (.inr E0, w') → VX g cc nL own rt hh R mc ms out (kc + mcy) (ks + msy) pc lv E0 w' (K q)) :
    VE g cc nL own rt hh R mc ms out kc ks pc lv st w (Fy.bind K) := by
  intro r hr p e s m args below meth c F H locs ls hW hS hl
  cases hF : Fy with
  | none => rw [hF] at hr; cases hr
  | some q =>
    rw [hF] at hr
    have hr' : K q = some r := hr
    subst hs
    exact v_run_aux (v_runV F hc (hM q hF) hT hC hn hst hd hR hW hS hl.1) hS
      (fun v w' ho H1 locs1 hW1 hS1 => kk q v w' ho r hr' p e s m args below meth c F H1 locs1 ls hW1 hS1 hl)
      (fun E0 w' ho H1 locs1 a ce hW1 hS1 h1 h2 h3 => kx q E0 w' ho r hr' p e s m args below meth c F H1 locs1 ls rest a ce hW1 hS1 hl h1 h2 h3)
theorem v_callS {ρF : Type} {Fy : Option ρF} {outF : ρF → Out} {K : ρF → Option ρ} {index nLy n mcy msy : Nat} {y : MethodName} {cy : ByteArray} {ry : Option FieldType} {rm : Room} {As st : List Value}
    (hc : CS own index y cy nLy ry n) (hM : ∀ q, Fy = some q → MM g (.code y cy nLy ry) y rm mcy msy As w (outF q)) (hn : As.length = n) (hs : st = As.reverse ++ rest) (hst : (rest.map fun v => v.category).sum ≤ 8)
    (hd : decode cc pc = .ok (.invokestatic index, 3)) (hR : CR R nLy mcy msy rm kc ks)
    (kk : ∀ q v w', outF q = (.inl v, w') → VE g cc nL own rt hh R mc ms out (kc + mcy) (ks + msy) (pc + 3) lv (v.toList ++ rest) w' (K q))
    (kx : ∀ q E0 w', outF q = (.inr E0, w') → VX g cc nL own rt hh R mc ms out (kc + mcy) (ks + msy) pc lv E0 w' (K q)) :
    VE g cc nL own rt hh R mc ms out kc ks pc lv st w (Fy.bind K) := by
  intro r hr p e s m args below meth c F H locs ls hW hS hl
  cases hF : Fy with
  | none => rw [hF] at hr; cases hr
  | some q =>
    rw [hF] at hr
    have hr' : K q = some r := hr
    subst hs
    exact v_run_aux (v_runS F hc (hM q hF) hn hst hd hR hW hS hl.1) hS
      (fun v w' ho H1 locs1 hW1 hS1 => kk q v w' ho r hr' p e s m args below meth c F H1 locs1 ls hW1 hS1 hl)
      (fun E0 w' ho H1 locs1 a ce hW1 hS1 h1 h2 h3 => kx q E0 w' ho r hr' p e s m args below meth c F H1 locs1 ls rest a ce hW1 hS1 hl h1 h2 h3)
/-- not caught here -/
theorem v_out {E0 : String} {r0 : ρ} (hh0 : hh = []) (ho : out r0 = (.inr E0, w)) (h1 : kc ≤ mc) (h2 : ks ≤ ms) : VX g cc nL own rt hh R mc ms out kc ks pc lv E0 w (some r0) := by
  intro r hr0 p e s m args below meth c F H locs ls rest q ce hW hS hl hce hcv hcl
  cases hr0
  have htab : c.exceptionTable.toList = tableOf hh := F.2.2.2.2.2.2.2.2.2.2.2.2
  rw [hh0] at htab
  refine vx_out (fun x hx => by rw [htab] at hx; cases hx) F.2.2.2.2.2.2.2.2.2.1 hce hcv hcl (fun t ht _ => ?_) hS.2.2 h1 h2
  rw [ho]
  exact ⟨rfl, by rw [ht]; exact hW, hS.F ht⟩
/-! the kinds of outcome: an int, nothing, a reference or null, each perhaps an exception -/
abbrev oI (q : Int32 × XW) : Out := (.inl (some (.int q.1)), q.2)
abbrev oV (q : XW) : Out := (.inl none, q)
abbrev oD (q : UInt64 × XW) : Out := (.inl (some (.double q.1)), q.2)
abbrev oF (q : UInt32 × XW) : Out := (.inl (some (.float q.1)), q.2)
abbrev oQ (g : GC) (q : Option Nat × XW) : Out := (.inl (some (match q.1 with | none => .null | some t => .ref (g.2.1 + t))), q.2)
/-- a String constant, by its place in strTab -/
abbrev oS (g : GC) (q : Nat × XW) : Out := (.inl (some (.ref (g.2.2.2.2.1 q.1))), q.2)
abbrev oIX (q : (Int32 × XW) ⊕ (String × XW)) : Out := match q with | .inl q => oI q | .inr x => (.inr x.1, x.2)
abbrev oVX (q : XW ⊕ (String × XW)) : Out := match q with | .inl q => oV q | .inr x => (.inr x.1, x.2)
abbrev oDX (q : (UInt64 × XW) ⊕ (String × XW)) : Out := match q with | .inl q => oD q | .inr x => (.inr x.1, x.2)
abbrev oFX (q : (UInt32 × XW) ⊕ (String × XW)) : Out := match q with | .inl q => oF q | .inr x => (.inr x.1, x.2)
/-! go on behind a call -/
def bI {ρ : Type} (F : Option (Int32 × XW)) (K : Int32 → XW → Option ρ) : Option ρ := F.bind fun q => K q.1 q.2
def bV {ρ : Type} (F : Option XW) (K : XW → Option ρ) : Option ρ := F.bind fun q => K q
def bQ {ρ : Type} (F : Option (Option Nat × XW)) (K0 : XW → Option ρ) (K1 : Nat → XW → Option ρ) : Option ρ := F.bind fun q => match q.1 with | none => K0 q.2 | some t => K1 t q.2
def bS {ρ : Type} (F : Option (Nat × XW)) (K : Nat → XW → Option ρ) : Option ρ := F.bind fun q => K q.1 q.2
def bIX {β : Type} (F : Option ((Int32 × XW) ⊕ (String × XW))) (K : Int32 → XW → Option (β ⊕ (String × XW))) : Option (β ⊕ (String × XW)) := F.bind fun q => match q with | .inl a => K a.1 a.2 | .inr x => some (.inr x)
def bVX {β : Type} (F : Option (XW ⊕ (String × XW))) (K : XW → Option (β ⊕ (String × XW))) : Option (β ⊕ (String × XW)) := F.bind fun q => match q with | .inl a => K a | .inr x => some (.inr x)
/-- a guard, an index in its row -/
abbrev inB (i : Int32) (n : Nat) : Prop := ¬ (i < 0 ∨ n ≤ i.toNatClampNeg)
abbrev fitsZ (w : XW) (k n : Nat) : Prop := ∀ i, i < n → fits .boolean (.int (w.1 k ((0 : Int32).toNatClampNeg + i))) = true
section CALLS
variable {index nLy n mcy msy k ci N : Nat} {y : MethodName} {cy : ByteArray} {ry : Option FieldType} {rm : Room} {As st : List Value} {fs : List (Option Nat)} {T : u_T}
theorem v_callVi {Fy : Option (Int32 × XW)} {K : Int32 → XW → Option ρ} (hc : CV own index y cy nLy ry n) (hM : ∀ q, Fy = some q → MM g (.code y cy nLy ry) y rm mcy msy (.ref (g.2.1 + k) :: As) w (oI q)) (hT : TT[k]? = some (0, ci, fs)) (hC : vwCl[ci]? = some (y.cls, T, N)) (hn : As.length = n) (hs : st = As.reverse ++ .ref (g.2.1 + k) :: rest) (hst : (rest.map fun v => v.category).sum ≤ 8) (hd : decode cc pc = .ok (.invokevirtual index, 3)) (hR : CR R nLy mcy msy rm kc ks)
    (kk : ∀ x w', VE g cc nL own rt hh R mc ms out (kc + mcy) (ks + msy) (pc + 3) lv (.int x :: rest) w' (K x w')) : VE g cc nL own rt hh R mc ms out kc ks pc lv st w (bI Fy K) :=
  v_callV hc hM hT hC hn hs hst hd hR (fun q v w' h => by cases h; exact kk q.1 q.2) (fun q E0 w' h => by cases h)
theorem v_callVv {Fy : Option XW} {K : XW → Option ρ} (hc : CV own index y cy nLy ry n) (hM : ∀ q, Fy = some q → MM g (.code y cy nLy ry) y rm mcy msy (.ref (g.2.1 + k) :: As) w (oV q)) (hT : TT[k]? = some (0, ci, fs)) (hC : vwCl[ci]? = some (y.cls, T, N)) (hn : As.length = n) (hs : st = As.reverse ++ .ref (g.2.1 + k) :: rest) (hst : (rest.map fun v => v.category).sum ≤ 8) (hd : decode cc pc = .ok (.invokevirtual index, 3)) (hR : CR R nLy mcy msy rm kc ks)
    (kk : ∀ w', VE g cc nL own rt hh R mc ms out (kc + mcy) (ks + msy) (pc + 3) lv rest w' (K w')) : VE g cc nL own rt hh R mc ms out kc ks pc lv st w (bV Fy K) :=
  v_callV hc hM hT hC hn hs hst hd hR (fun q v w' h => by cases h; exact kk q) (fun q E0 w' h => by cases h)
theorem v_callVq {Fy : Option (Option Nat × XW)} {K0 : XW → Option ρ} {K1 : Nat → XW → Option ρ} (hc : CV own index y cy nLy ry n) (hM : ∀ q, Fy = some q → MM g (.code y cy nLy ry) y rm mcy msy (.ref (g.2.1 + k) :: As) w (oQ g q)) (hT : TT[k]? = some (0, ci, fs)) (hC : vwCl[ci]? = some (y.cls, T, N)) (hn : As.length = n) (hs : st = As.reverse ++ .ref (g.2.1 + k) :: rest) (hst : (rest.map fun v => v.category).sum ≤ 8) (hd : decode cc pc = .ok (.invokevirtual index, 3)) (hR : CR R nLy mcy msy rm kc ks)
    (k0 : ∀ w', VE g cc nL own rt hh R mc ms out (kc + mcy) (ks + msy) (pc + 3) lv (.null :: rest) w' (K0 w')) (k1 : ∀ t w', VE g cc nL own rt hh R mc ms out (kc + mcy) (ks + msy) (pc + 3) lv (.ref (g.2.1 + t) :: rest) w' (K1 t w')) : VE g cc nL own rt hh R mc ms out kc ks pc lv st w (bQ Fy K0 K1) :=
  v_callV hc hM hT hC hn hs hst hd hR (fun q v w' h => by
    obtain ⟨q1, q2⟩ := q
    cases q1 with
    | none => cases h; exact k0 q2
    | some t => cases h; exact k1 t q2) (fun q E0 w' h => by cases h)
theorem v_callVix {β : Type} {out : (β ⊕ (String × XW)) → Out} {Fy : Option ((Int32 × XW) ⊕ (String × XW))} {K : Int32 → XW → Option (β ⊕ (String × XW))} (hh0 : hh = []) (hox : ∀ x, out (.inr x) = (.inr x.1, x.2)) (h1 : kc + mcy ≤ mc) (h2 : ks + msy ≤ ms) (hc : CV own index y cy nLy ry n) (hM : ∀ q, Fy = some q → MM g (.code y cy nLy ry) y rm mcy msy (.ref (g.2.1 + k) :: As) w (oIX q)) (hT : TT[k]? = some (0, ci, fs)) (hC : vwCl[ci]? = some (y.cls, T, N)) (hn : As.length = n) (hs : st = As.reverse ++ .ref (g.2.1 + k) :: rest) (hst : (rest.map fun v => v.category).sum ≤ 8) (hd : decode cc pc = .ok (.invokevirtual index, 3)) (hR : CR R nLy mcy msy rm kc ks)
    (kk : ∀ x w', VE g cc nL own rt hh R mc ms out (kc + mcy) (ks + msy) (pc + 3) lv (.int x :: rest) w' (K x w')) : VE g cc nL own rt hh R mc ms out kc ks pc lv st w (bIX Fy K) :=
  v_callV hc hM hT hC hn hs hst hd hR (fun q v w' h => by
    cases q with
    | inl q => cases h; exact kk q.1 q.2
    | inr x => cases h) (fun q E0 w' h => by
    cases q with
    | inl q => cases h
    | inr x => cases h; exact v_out hh0 (hox x) h1 h2)
theorem v_callVvx {β : Type} {out : (β ⊕ (String × XW)) → Out} {Fy : Option (XW ⊕ (String × XW))} {K : XW → Option (β ⊕ (String × XW))} (hh0 : hh = []) (hox : ∀ x, out (.inr x) = (.inr x.1, x.2)) (h1 : kc + mcy ≤ mc) (h2 : ks + msy ≤ ms) (hc : CV own index y cy nLy ry n) (hM : ∀ q, Fy = some q → MM g (.code y cy nLy ry) y rm mcy msy (.ref (g.2.1 + k) :: As) w (oVX q)) (hT : TT[k]? = some (0, ci, fs)) (hC : vwCl[ci]? = some (y.cls, T, N)) (hn : As.length = n) (hs : st = As.reverse ++ .ref (g.2.1 + k) :: rest) (hst : (rest.map fun v => v.category).sum ≤ 8) (hd : decode cc pc = .ok (.invokevirtual index, 3)) (hR : CR R nLy mcy msy rm kc ks)
    (kk : ∀ w', VE g cc nL own rt hh R mc ms out (kc + mcy) (ks + msy) (pc + 3) lv rest w' (K w')) : VE g cc nL own rt hh R mc ms out kc ks pc lv st w (bVX Fy K) :=
  v_callV hc hM hT hC hn hs hst hd hR (fun q v w' h => by
    cases q with
    | inl q => cases h; exact kk _
    | inr x => cases h) (fun q E0 w' h => by
    cases q with
    | inl q => cases h
    | inr x => cases h; exact v_out hh0 (hox x) h1 h2)
theorem v_callSi {Fy : Option (Int32 × XW)} {K : Int32 → XW → Option ρ} (hc : CS own index y cy nLy ry n) (hM : ∀ q, Fy = some q → MM g (.code y cy nLy ry) y rm mcy msy As w (oI q)) (hn : As.length = n) (hs : st = As.reverse ++ rest) (hst : (rest.map fun v => v.category).sum ≤ 8) (hd : decode cc pc = .ok (.invokestatic index, 3)) (hR : CR R nLy mcy msy rm kc ks)
    (kk : ∀ x w', VE g cc nL own rt hh R mc ms out (kc + mcy) (ks + msy) (pc + 3) lv (.int x :: rest) w' (K x w')) : VE g cc nL own rt hh R mc ms out kc ks pc lv st w (bI Fy K) :=
  v_callS hc hM hn hs hst hd hR (fun q v w' h => by cases h; exact kk q.1 q.2) (fun q E0 w' h => by cases h)
theorem v_callSs {Fy : Option (Nat × XW)} {K : Nat → XW → Option ρ} (hc : CS own index y cy nLy ry n) (hM : ∀ q, Fy = some q → MM g (.code y cy nLy ry) y rm mcy msy As w (oS g q)) (hn : As.length = n) (hs : st = As.reverse ++ rest) (hst : (rest.map fun v => v.category).sum ≤ 8) (hd : decode cc pc = .ok (.invokestatic index, 3)) (hR : CR R nLy mcy msy rm kc ks)
    (kk : ∀ x w', VE g cc nL own rt hh R mc ms out (kc + mcy) (ks + msy) (pc + 3) lv (.ref (g.2.2.2.2.1 x) :: rest) w' (K x w')) : VE g cc nL own rt hh R mc ms out kc ks pc lv st w (bS Fy K) :=
  v_callS hc hM hn hs hst hd hR (fun q v w' h => by cases h; exact kk q.1 q.2) (fun q E0 w' h => by cases h)
end CALLS
/-! constants, Strings, the script, the law's long and double -/
theorem v_ldc {index : Nat} {v : Int32} (hw : Cond.constant own index v ∈ GW) (hd : decode cc pc = .ok (.ldc index, 2)) (k : VE g cc nL own rt hh R mc ms out kc ks (pc + 2) lv (.int v :: rest) w E) : VE g cc nL own rt hh R mc ms out kc ks pc lv rest w E :=
  fun r hr p e s m args below meth c F H locs ls hW hS hl => lv_ldc F.1 F.2.1 F.2.2.2.1 (F.2.2.2.2.1 _ hw) hd (k r hr p e s m args below meth c F H locs ls hW hS hl)
theorem v_ldcw {index : Nat} {v : Int32} (hw : Cond.constant own index v ∈ GW) (hd : decode cc pc = .ok (.ldc_w index, 3)) (k : VE g cc nL own rt hh R mc ms out kc ks (pc + 3) lv (.int v :: rest) w E) : VE g cc nL own rt hh R mc ms out kc ks pc lv rest w E :=
  fun r hr p e s m args below meth c F H locs ls hW hS hl => lv_ldcw F.1 F.2.1 F.2.2.2.1 (F.2.2.2.2.1 _ hw) hd (k r hr p e s m args below meth c F H locs ls hW hS hl)
theorem v_ldcS {index i : Nat} {tx : String} {bs : List Int32} (hi : strTab[i]? = some (own, index, tx, bs)) (hd : decode cc pc = .ok (.ldc index, 2)) (k : VE g cc nL own rt hh R mc ms out kc ks (pc + 2) lv (.ref (g.2.2.2.2.1 i) :: rest) w E) : VE g cc nL own rt hh R mc ms out kc ks pc lv rest w E :=
  fun r hr p e s m args below meth c F H locs ls hW hS hl => va_ldcS F.1 F.2.1 F.2.2.2.1 (F.2.2.2.2.2.2.2.2.1.2.1 i _ hi) hd (k r hr p e s m args below meth c F H locs ls hW hS hl)
theorem v_ldcSw {index i : Nat} {tx : String} {bs : List Int32} (hi : strTab[i]? = some (own, index, tx, bs)) (hd : decode cc pc = .ok (.ldc_w index, 3)) (k : VE g cc nL own rt hh R mc ms out kc ks (pc + 3) lv (.ref (g.2.2.2.2.1 i) :: rest) w E) : VE g cc nL own rt hh R mc ms out kc ks pc lv rest w E := by
  intro r hr p e s m args below meth c F H locs ls hW hS hl T hT X
  obtain ⟨t, a1, b1⟩ := k r hr p e s m args below meth c F H locs ls hW hS hl T hT X
  have hz := F.2.2.2.2.2.2.2.2.1.2.1 i _ hi
  have hz0 : (Cond.stringRef own index tx).before args s = true := hz.1
  exact ⟨t, X.ldcStringW F.1 F.2.2.2.1 (text := tx) (a := g.2.2.2.2.1 i) hz.1 hz.2 (g := F0 m pc ls rest) rfl (by rw [F.2.1]; exact hd) t a1, b1⟩
theorem v_iushr {x y : Int32} (hd : decode cc pc = .ok (.iushr, 1)) (k : VE g cc nL own rt hh R mc ms out kc ks (pc + 1) lv (.int (x.toUInt32 >>> (y.toUInt32 &&& Int32.toUInt32 31)).toInt32 :: rest) w E) : VE g cc nL own rt hh R mc ms out kc ks pc lv (.int y :: .int x :: rest) w E :=
  fun r hr p e s m args below meth c F H locs ls hW hS hl => lv_iushr F.1 F.2.1 hd rfl (k r hr p e s m args below meth c F H locs ls hW hS hl)
theorem v_sld {i : Int32} (hin : vp_in i g.2.2.2.2.2.2.2.1) (hd : decode cc pc = .ok (.iaload, 1)) (k : VE g cc nL own rt hh R mc ms out kc ks (pc + 1) lv (.int (g.2.2.2.2.2.2.2.2 i.toNatClampNeg) :: rest) w E) : VE g cc nL own rt hh R mc ms out kc ks pc lv (.int i :: .ref g.2.2.2.2.2.2.1 :: rest) w E :=
  fun r hr p e s m args below meth c F H locs ls hW hS hl => va_ti F.1 F.2.1 F.2.2.2.2.2.2.2.1.2.2.2.1 hS hin rfl hd (k r hr p e s m args below meth c F H locs ls hW hS hl)
theorem v_slen (hd : decode cc pc = .ok (.arraylength, 1)) (k : VE g cc nL own rt hh R mc ms out kc ks (pc + 1) lv (.int (Int32.ofNat g.2.2.2.2.2.2.2.1) :: rest) w E) : VE g cc nL own rt hh R mc ms out kc ks pc lv (.ref g.2.2.2.2.2.2.1 :: rest) w E :=
  fun r hr p e s m args below meth c F H locs ls hW hS hl => va_tlen F.1 F.2.1 F.2.2.2.2.2.2.2.1.2.2.2.1 hS rfl hd (k r hr p e s m args below meth c F H locs ls hW hS hl)
/-- the only cell of a kind keeps the others -/
theorem lay_other {g : GC} {w w' : XW} {k : Nat} {q : Sh} (hq : q.1 ≠ 4 ∧ q.1 ≠ 5) (h1 : w'.1 k = w.1 k) : layE g w' k q = layE g w k q := by
  obtain ⟨q1, q2⟩ := q
  unfold layE
  rw [h1]
  match q1, hq with
  | 0, _ => rfl
  | 1, _ => rfl
  | 2, _ => rfl
  | 3, _ => rfl
  | 4, h => exact absurd rfl h.1
  | 5, h => exact absurd rfl h.2
  | n + 6, _ => rfl
theorem TT_45 : ∀ k q, TT[k]? = some q → (k ≠ 150 → q.1 ≠ 4) ∧ (k ≠ 151 → q.1 ≠ 5) := by
  have h : ∀ k, k < 152 → ∀ q ∈ TT[k]?, (k ≠ 150 → q.1 ≠ 4) ∧ (k ≠ 151 → q.1 ≠ 5) := by decide +kernel
  intro k q hk
  have hl : k < TT.length := (List.getElem?_eq_some_iff.mp hk).1
  exact h k (by have : TT.length = 152 := by decide +kernel
                omega) q hk
theorem TT_150 : TT[150]? = some (4, 1, []) := by decide +kernel
theorem TT_151 : TT[151]? = some (5, 1, []) := by decide +kernel
theorem arrV_one {cA : ClassId} {f h : Nat → Value} (e : f 0 = h 0) : arrV cA 1 f = arrV cA 1 h := by
  unfold arrV
  congr 1
  apply Array.ext (by simp)
  intro i hi _
  have h0 : i = 0 := by simp at hi; omega
  subst h0
  simpa using e
theorem v_last0 {x : Int64} (hd : decode cc pc = .ok (.lastore, 1)) (kk : VE g cc nL own rt hh R mc ms out kc ks (pc + 1) lv rest (w.1, x, w.2.2) E) : VE g cc nL own rt hh R mc ms out kc ks pc lv (.long x :: .int 0 :: .ref (g.2.1 + 150) :: rest) w E := by
  intro r hr p e s m args below meth c F H locs ls hW hS hl
  have h1 := hW 150 _ TT_150
  have h2 := (F.2.2.2.2.2.1.2 3 _ rfl).1 1 (fun _ => .long w.2.1)
  refine W.last F.1 F.2.1 h1 h2 (fun q => by cases q) (by show ¬ ((0 : Int32) < 0 ∨ (arrV _ _ _).slots.size ≤ _); rw [arrV_size]; exact (by decide : ¬ ((0 : Int32) < 0 ∨ 1 ≤ (0 : Int32).toNatClampNeg))) rfl rfl hd fun H1 e1 z oq => ?_
  refine kk r hr p e s m args below meth c F H1 _ ls (RW.put hW TT_150 ?_ oq (fun _ _ => rfl) (Or.inr fun k' q' hk' hq' => ?_)) (hS.put z oq (Nat.le_add_right _ _)) hl
  · show H1[_]? = some (vp_cell _ _)
    rw [e1, vp_cell_l, vp_cell_l, arrV_store]
    exact congrArg some (arrV_one rfl)
  · obtain ⟨q1, q2⟩ := TT_45 k' q' hq'
    obtain ⟨a1, a2⟩ := q'
    unfold layE
    match a1, q1 hk' with
    | 0, _ => rfl
    | 1, _ => rfl
    | 2, _ => rfl
    | 3, _ => rfl
    | 4, h => exact absurd rfl h
    | 5, _ => rfl
    | n + 6, _ => rfl
theorem v_dast0 {x : UInt64} (hd : decode cc pc = .ok (.dastore, 1)) (kk : VE g cc nL own rt hh R mc ms out kc ks (pc + 1) lv rest (w.1, w.2.1, x) E) : VE g cc nL own rt hh R mc ms out kc ks pc lv (.double x :: .int 0 :: .ref (g.2.1 + 151) :: rest) w E := by
  intro r hr p e s m args below meth c F H locs ls hW hS hl
  have h1 := hW 151 _ TT_151
  have h2 := (F.2.2.2.2.2.1.2 4 _ rfl).1 1 (fun _ => .double w.2.2)
  refine W.dast F.1 F.2.1 h1 h2 (fun q => by cases q) (by show ¬ ((0 : Int32) < 0 ∨ (arrV _ _ _).slots.size ≤ _); rw [arrV_size]; exact (by decide : ¬ ((0 : Int32) < 0 ∨ 1 ≤ (0 : Int32).toNatClampNeg))) rfl rfl hd fun H1 e1 z oq => ?_
  refine kk r hr p e s m args below meth c F H1 _ ls (RW.put hW TT_151 ?_ oq (fun _ _ => rfl) (Or.inr fun k' q' hk' hq' => ?_)) (hS.put z oq (Nat.le_add_right _ _)) hl
  · show H1[_]? = some (vp_cell _ _)
    rw [e1, vp_cell_d, vp_cell_d, arrV_store]
    exact congrArg some (arrV_one rfl)
  · obtain ⟨q1, q2⟩ := TT_45 k' q' hq'
    obtain ⟨a1, a2⟩ := q'
    unfold layE
    match a1, q2 hk' with
    | 0, _ => rfl
    | 1, _ => rfl
    | 2, _ => rfl
    | 3, _ => rfl
    | 4, _ => rfl
    | 5, h => exact absurd rfl h
    | n + 6, _ => rfl
theorem vp_in01 : vp_in 0 1 := by unfold vp_in; decide
theorem v_lald0 (hd : decode cc pc = .ok (.laload, 1)) (k : VE g cc nL own rt hh R mc ms out kc ks (pc + 1) lv (.long w.2.1 :: rest) w E) : VE g cc nL own rt hh R mc ms out kc ks pc lv (.int 0 :: .ref (g.2.1 + 150) :: rest) w E :=
  fun r hr p e s m args below meth c F H locs ls hW hS hl => va_lald (D := g.2.2.2.1) (cl := vwCl) (tys := tysL g) (f := fun _ => w.2.1) F.1 F.2.1 F.2.2.2.2.2.1 (hW.one TT_150) 0 3 rfl rfl vp_in01 hd (k r hr p e s m args below meth c F H locs ls hW hS hl)
theorem v_dald0 (hd : decode cc pc = .ok (.daload, 1)) (k : VE g cc nL own rt hh R mc ms out kc ks (pc + 1) lv (.double w.2.2 :: rest) w E) : VE g cc nL own rt hh R mc ms out kc ks pc lv (.int 0 :: .ref (g.2.1 + 151) :: rest) w E :=
  fun r hr p e s m args below meth c F H locs ls hW hS hl => va_dald (D := g.2.2.2.1) (cl := vwCl) (tys := tysL g) (f := fun _ => w.2.2) F.1 F.2.1 F.2.2.2.2.2.1 (hW.one TT_151) 0 4 rfl rfl vp_in01 hd (k r hr p e s m args below meth c F H locs ls hW hS hl)
/-! Math.min, Math.max -/
theorem v_min {index : Nat} {x y : Int32} (h1 : Cond.methodLink own index Lib.Math.min.name ∈ GW) (h2 : Cond.static Lib.Math.min.name ∈ GW) (h3 : Cond.initialized "java/lang/Math" ∈ GW) (h4 : Cond.code Lib.Math.min.name Lib.Math.min.code 2 (some .int) ∈ GW) (hd : decode cc pc = .ok (.invokestatic index, 3)) (hf : 1 ≤ R.frames) (hlo : (rest.map fun v => v.category).sum + 13 ≤ R.locals) (hkc : kc ≤ R.cells) (hks : ks ≤ R.slots)
    (k : VE g cc nL own rt hh R mc ms out kc ks (pc + 3) lv (.int (if y < x then y else x) :: rest) w E) : VE g cc nL own rt hh R mc ms out kc ks pc lv (.int y :: .int x :: rest) w E :=
  fun r hr p e s m args below meth c F H locs ls hW hS hl => va_mmin F.1 F.2.1 (by rw [F.2.2.1]; exact hl.1.symm) F.2.2.2.1 (F.2.2.2.2.1 _ h1) (F.2.2.2.2.1 _ h2) (F.2.2.2.2.1 _ h3) (F.2.2.2.2.1 _ h4) hf hlo hkc hks hd (k r hr p e s m args below meth c F H locs ls hW hS hl)
theorem v_max {index : Nat} {x y : Int32} (h1 : Cond.methodLink own index Lib.Math.max.name ∈ GW) (h2 : Cond.static Lib.Math.max.name ∈ GW) (h3 : Cond.initialized "java/lang/Math" ∈ GW) (h4 : Cond.code Lib.Math.max.name Lib.Math.max.code 2 (some .int) ∈ GW) (hd : decode cc pc = .ok (.invokestatic index, 3)) (hf : 1 ≤ R.frames) (hlo : (rest.map fun v => v.category).sum + 13 ≤ R.locals) (hkc : kc ≤ R.cells) (hks : ks ≤ R.slots)
    (k : VE g cc nL own rt hh R mc ms out kc ks (pc + 3) lv (.int (if x < y then y else x) :: rest) w E) : VE g cc nL own rt hh R mc ms out kc ks pc lv (.int y :: .int x :: rest) w E :=
  fun r hr p e s m args below meth c F H locs ls hW hS hl => va_mmax F.1 F.2.1 (by rw [F.2.2.1]; exact hl.1.symm) F.2.2.2.1 (F.2.2.2.2.1 _ h1) (F.2.2.2.2.1 _ h2) (F.2.2.2.2.1 _ h3) (F.2.2.2.2.1 _ h4) hf hlo hkc hks hd (k r hr p e s m args below meth c F H locs ls hW hS hl)
/-! a method's contract out of its walk -/
theorem MM_of {y : MethodName} {av : List Value} {o : Out} (hl : g.1.stackTraces = false) (hy : plainName y.cls = true) (hcode : Cond.code y cc nL rt ∈ GW) (ho : y.cls = own) (hav : (lg_sl av).length ≤ nL)
    (body : VB g cc nL own rt [] R mc ms o 0 0 0 (lv_args 0 av) [] w) (hR : R.cells = mc ∧ R.slots = ms) : MM g (.code y cc nL rt) y R mc ms av w o := by
  refine vx_ofW (cc := cc) (maxL := nL) (ret := rt) hy rfl ?_
  intro p e s m args below meth c s₁ B hml htab hP
  obtain ⟨rfl, hb, hW, hK, hSF, hSTR⟩ := hP
  have hts := atoms_spec (ws := .code y cc nL rt :: GW) B.pre
  have hown : s.vm.findClass own = some m.cls := ho ▸ findClass_of_methodNamed B.named
  have F : FX g cc nL own rt [] p s m av.toArray meth c := ⟨B.exec, B.bytes, hml, hown, fun z hz => hts z (List.mem_cons_of_mem _ hz), hK, hb, hSF, hSTR, B.notSynchronized, B.returns, hl, by
    cases hct : c.exceptionTable.toList with
    | nil => rfl
    | cons x l => exact absurd (htab x (by rw [hct]; exact List.mem_cons_self)) id⟩
  rw [lg_entry_eq]
  exact body p e s m av.toArray below meth c F s.heap [] _ hW va_S.rf (lv_entry av hav)
theorem v_split {c : Prop} [Decidable c] {st : List Value} (h1 : c → VE g cc nL own rt hh R mc ms out kc ks pc lv st w E1) (h2 : ¬ c → VE g cc nL own rt hh R mc ms out kc ks pc lv st w E2) : VE g cc nL own rt hh R mc ms out kc ks pc lv st w (if c then E1 else E2) := by
  intro r hr
  by_cases h : c
  · rw [if_pos h] at hr
    exact h1 h r hr
  · rw [if_neg h] at hr
    exact h2 h r hr
theorem v_tsIn {dflt lo hi : Int} {offs : Array Int} {len : Nat} {x : Int32} (v : Int32) {off : Int} {tgt : Nat} (hx : x = v) (hd : decode cc pc = .ok (.tableswitch dflt lo hi offs, len)) (h1 : ¬ v.toInt < lo) (h2 : ¬ hi < v.toInt) (ho : offs[(v.toInt - lo).toNat]? = some off) (ht : (pc : Int) + off = (tgt : Int)) (k : VE g cc nL own rt hh R mc ms out kc ks tgt lv rest w E) : VE g cc nL own rt hh R mc ms out kc ks pc lv (.int x :: rest) w E := by
  subst hx
  exact fun r hr p e s m args below meth c F H locs ls hW hS hl => lv_tableIn F.1 F.2.1 hd h1 h2 ho ht (k r hr p e s m args below meth c F H locs ls hW hS hl)
theorem v_tsOut {dflt lo hi : Int} {offs : Array Int} {len : Nat} {x : Int32} {tgt : Nat} (hd : decode cc pc = .ok (.tableswitch dflt lo hi offs, len)) (h : x.toInt < lo ∨ hi < x.toInt) (ht : (pc : Int) + dflt = (tgt : Int)) (k : VE g cc nL own rt hh R mc ms out kc ks tgt lv rest w E) : VE g cc nL own rt hh R mc ms out kc ks pc lv (.int x :: rest) w E :=
  fun r hr p e s m args below meth c F H locs ls hW hS hl => lv_tableOut F.1 F.2.1 hd h ht (k r hr p e s m args below meth c F H locs ls hW hS hl)
theorem v_tsNe {x : Int32} {z : Int} {v : Int32} (hv : v.toInt = z) (h : ¬ x = v) : x.toInt ≠ z := fun e => h (Int32.toInt_inj.mp (e.trans hv.symm))
theorem CR_rm {n n' nLy mc ms mcy msy kc ks : Nat} (h : n' < n) (hm : nLy ≤ 45) (hc : kc + mcy ≤ mc) (hs : ks + msy ≤ ms) : CR (rmL n mc ms) nLy mcy msy (rmL n' mcy msy) kc ks :=
  ⟨⟨rfl, rfl, by show 16 + n' + 1 ≤ 16 + n; omega, by show 8 + (nLy + 11) + (200 + 64 * n') ≤ 200 + 64 * n; omega⟩, hc, hs⟩
end CORE
end
section
/-! words of the tables, by their places; what they say of fields and calls; shapes by number -/
def exN : List String := ["java/lang/RuntimeException", "java/lang/Exception"]
theorem exN_ok : ∀ n ∈ exN, Bundle.fit n = true := by decide
theorem GW_all (ws : List Cond) (h : ws.all (fun w => (decide (w ∈ lw_tbl) && goodWord w) || decide (w ∈ NGW)) = true) : ∀ w ∈ ws, w ∈ GW ∨ w ∈ NGW := fun w hw => by
  have h2 := List.all_eq_true.mp h w hw
  simp only [Bool.or_eq_true, Bool.and_eq_true, decide_eq_true_eq] at h2
  rcases h2 with h2 | h2
  · exact Or.inl (List.mem_filter.mpr h2)
  · exact Or.inr h2
theorem GW_s1 {w : Cond} (h : w ∈ lw_tbl) (hg : goodWord w = true) : w ∈ GW := List.mem_filter.mpr ⟨h, hg⟩
theorem GW_t1 (i : Nat) {w : Cond} (h : tables_1_1[i]? = some w) (hg : goodWord w = true) : w ∈ GW := GW_s1 (List.mem_append_right _ (List.mem_append_left _ (List.mem_of_getElem? h))) hg
theorem GW_t2 (i : Nat) {w : Cond} (h : tables_1_2[i]? = some w) (hg : goodWord w = true) : w ∈ GW := GW_s1 (List.mem_append_right _ (List.mem_append_right _ (List.mem_append_left _ (List.mem_of_getElem? h)))) hg
theorem GW_t3 (i : Nat) {w : Cond} (h : tables_1_3[i]? = some w) (hg : goodWord w = true) : w ∈ GW := GW_s1 (List.mem_append_right _ (List.mem_append_right _ (List.mem_append_right _ (List.mem_append_left _ (List.mem_of_getElem? h))))) hg
theorem GW_t4 (i : Nat) {w : Cond} (h : tables_1_4[i]? = some w) (hg : goodWord w = true) : w ∈ GW := GW_s1 (List.mem_append_right _ (List.mem_append_right _ (List.mem_append_right _ (List.mem_append_right _ (List.mem_append_left _ (List.mem_of_getElem? h)))))) hg
theorem GW_t5 (i : Nat) {w : Cond} (h : tables_1_5[i]? = some w) (hg : goodWord w = true) : w ∈ GW := GW_s1 (List.mem_append_right _ (List.mem_append_right _ (List.mem_append_right _ (List.mem_append_right _ (List.mem_append_right _ (List.mem_append_left _ (List.mem_of_getElem? h))))))) hg
theorem GW_t6 (i : Nat) {w : Cond} (h : tables_1_6[i]? = some w) (hg : goodWord w = true) : w ∈ GW := GW_s1 (List.mem_append_right _ (List.mem_append_right _ (List.mem_append_right _ (List.mem_append_right _ (List.mem_append_right _ (List.mem_append_right _ (List.mem_append_left _ (List.mem_of_getElem? h)))))))) hg
theorem GW_t7 (i : Nat) {w : Cond} (h : tables_1_7[i]? = some w) (hg : goodWord w = true) : w ∈ GW := GW_s1 (List.mem_append_right _ (List.mem_append_right _ (List.mem_append_right _ (List.mem_append_right _ (List.mem_append_right _ (List.mem_append_right _ (List.mem_append_right _ (List.mem_append_left _ (List.mem_of_getElem? h))))))))) hg
theorem GW_t8 (i : Nat) {w : Cond} (h : tables_1_8[i]? = some w) (hg : goodWord w = true) : w ∈ GW := GW_s1 (List.mem_append_right _ (List.mem_append_right _ (List.mem_append_right _ (List.mem_append_right _ (List.mem_append_right _ (List.mem_append_right _ (List.mem_append_right _ (List.mem_append_right _ (List.mem_of_getElem? h))))))))) hg
theorem GW_pr (i : Nat) {q : MethodName × Nat} (h : lw_privs[i]? = some q) : Cond.selects q.1.cls q.1 q.1 ∈ GW := GW_s1 (List.mem_append_left _ (List.mem_map.mpr ⟨q, List.mem_of_getElem? h, rfl⟩)) rfl
def rowN (k : Nat) : Nat := (TT.getD (k + 1) (0, 0, [])).2.1
def isX9 (k : Nat) : Prop := TT[k]? = some (0, 9, [none, none, none, some (k + 1), some (k + 2)]) ∧ TT[k + 1]? = some (1, 7, []) ∧ TT[k + 2]? = some (1, 7, [])
def isX4 (k : Nat) : Prop := TT[k]? = some (0, 4, [none, some (k + 1)]) ∧ TT[k + 1]? = some (1, 7, [])
def isX5 (k : Nat) : Prop := TT[k]? = some (0, 5, [none, some (k + 1), some (k + 2), some (k + 3), some (k + 4)]) ∧ TT[k + 1]? = some (1, 10, []) ∧ TT[k + 2]? = some (1, 10, []) ∧ TT[k + 3]? = some (1, 10, []) ∧ TT[k + 4]? = some (2, 10, [])
def isX6 (k : Nat) : Prop := TT[k]? = some (0, 6, [some (k + 1), none]) ∧ TT[k + 1]? = some (3, rowN k, [])
def isX8 (k : Nat) : Prop := TT[k]? = some (0, 8, [some (k + 1), some (k + 4), some (k + 6)]) ∧ isX9 (k + 1) ∧ isX4 (k + 4) ∧ isX5 (k + 6)
theorem CR_t1 (n a b : Nat) : exN.length + 3 < (rmL n a b).frames := by show 2 + 3 < 16 + n; omega
theorem CR_t2 {rest : List Value} (h : (rest.map fun v => v.category).sum ≤ 8) (n a b : Nat) : (rest.map fun v => v.category).sum + (13 * (exN.length + 1) + 42) ≤ (rmL n a b).locals := by show _ + (13 * (2 + 1) + 42) ≤ 200 + 64 * n; omega
theorem CR_f1 (n a b : Nat) : 1 ≤ (rmL n a b).frames := by show 1 ≤ 16 + n; omega
theorem CR_f2 {rest : List Value} (h : (rest.map fun v => v.category).sum ≤ 8) (n a b : Nat) : (rest.map fun v => v.category).sum + 13 ≤ (rmL n a b).locals := by show _ + 13 ≤ 200 + 64 * n; omega
theorem CR_f3 {rest : List Value} (h : (rest.map fun v => v.category).sum ≤ 8) (n a b : Nat) : (rest.map fun v => v.category).sum + (nativeFrameWords "java/lang/System" "arraycopy" 5 + 11) ≤ (rmL n a b).locals := by
  have : nativeFrameWords "java/lang/System" "arraycopy" 5 ≤ 100 := by decide
  show _ + (nativeFrameWords "java/lang/System" "arraycopy" 5 + 11) ≤ 200 + 64 * n
  omega
abbrev okF64 (x : UInt64) : Prop := (x &&& 9223372036854775807 ≤ 9218868437227405312)
abbrev okF32 (x : UInt32) : Prop := (x &&& 2147483647 ≤ 2139095040)
theorem okF64_ok {x : UInt64} (h : okF64 x) : vf_n64 x := by simpa [vf_n64] using h
theorem okF32_ok {x : UInt32} (h : okF32 x) : vf_n32 x := by simpa [vf_n32] using h
theorem nar_ok {x : Int32} (h : vp_nar .boolean x = x) : narrow .boolean (.int x) = .int x := congrArg Value.int h
theorem narB_ok {x : Int32} (h : vp_nar .boolean x = x) : narrow .boolean (.int x) = .int x := congrArg Value.int h
theorem narC_ok {x : Int32} (h : vp_nar .char x = x) : narrow .char (.int x) = .int x := congrArg Value.int h
theorem aald8 {i : Int32} (h : inB i 8) : [some 36, some 47, some 58, some 69, some 80, some 91, some 102, some 113].getD i.toNatClampNeg none = some (36 + 11 * i.toNatClampNeg) := by
  have h8 : i.toNatClampNeg < 8 := by
    rcases Nat.lt_or_ge i.toNatClampNeg 8 with q | q
    · exact q
    · exact absurd (Or.inr q) h
  generalize i.toNatClampNeg = j at h8
  match j, h8 with
  | 0, _ => rfl
  | 1, _ => rfl
  | 2, _ => rfl
  | 3, _ => rfl
  | 4, _ => rfl
  | 5, _ => rfl
  | 6, _ => rfl
  | 7, _ => rfl
abbrev stOK (t : Nat) : Prop := t = 36 ∨ t = 47 ∨ t = 58 ∨ t = 69 ∨ t = 80 ∨ t = 91 ∨ t = 102 ∨ t = 113
theorem gw_314 : Cond.fieldLink "FoldedArchive$CommandReader" 18 "FoldedArchive$CommandReader" "count" "I" ∈ GW := GW_t1 226 rfl rfl
theorem gw_320 : Cond.laysFinal "FoldedArchive$CommandReader" "FoldedArchive$CommandReader" "kinds" "[I" ∈ GW := GW_t1 232 rfl rfl
theorem gw_322 : Cond.laysFinal "FoldedArchive$CommandReader" "FoldedArchive$CommandReader" "operands" "[I" ∈ GW := GW_t1 234 rfl rfl
theorem gw_324 : Cond.lays "FoldedArchive$CommandReader" "FoldedArchive$CommandReader" "count" "I" ∈ GW := GW_t1 236 rfl rfl
theorem gw_326 : Cond.lays "FoldedArchive$CommandReader" "FoldedArchive$CommandReader" "fault" "I" ∈ GW := GW_t1 238 rfl rfl
theorem gw_328 : Cond.lays "FoldedArchive$CommandReader" "FoldedArchive$CommandReader" "position" "I" ∈ GW := GW_t2 0 rfl rfl
theorem gw_330 : Cond.lays "FoldedArchive$CommandReader" "FoldedArchive$CommandReader" "operandsRead" "I" ∈ GW := GW_t2 2 rfl rfl
theorem inG_X0 : ∀ w ∈ u_ws RX0 TX0 6, w ∈ GW := by
  have e : u_ws RX0 TX0 6 = [u_lay RX0 TX0 0, u_lay RX0 TX0 1, u_lay RX0 TX0 2, u_lay RX0 TX0 3, u_lay RX0 TX0 4, u_lay RX0 TX0 5] := rfl
  rw [e]
  exact List.forall_mem_cons.mpr ⟨gw_320, List.forall_mem_cons.mpr ⟨gw_322, List.forall_mem_cons.mpr ⟨gw_324, List.forall_mem_cons.mpr ⟨gw_326, List.forall_mem_cons.mpr ⟨gw_328, List.forall_mem_cons.mpr ⟨gw_330, fun _ h => absurd h List.not_mem_nil⟩⟩⟩⟩⟩⟩
theorem fl_X0_18 : FL RX0 18 0 2 "I" false := ⟨RX0, TX0, 6, tyX0, rfl, inG_X0, by decide, gw_314, tyX0_ok, nmX0, rfl, rfl⟩
theorem tt_138 : TT[138]? = some (0, 0, [some 139, some 140, none, none, none, none]) := by decide +kernel
theorem gw_312 : Cond.fieldLink "FoldedArchive$CommandReader" 9 "FoldedArchive$CommandReader" "kinds" "[I" ∈ GW := GW_t1 224 rfl rfl
theorem fl_X0_9 : FL RX0 9 0 0 "[I" true := ⟨RX0, TX0, 6, tyX0, rfl, inG_X0, by decide, gw_312, tyX0_ok, nmX0, rfl, rfl⟩
theorem tt_139 : TT[139]? = some (1, 60, []) := by decide +kernel
theorem gw_1357 : Cond.code yX0_kindOf cX0_kindOf 2 (some .int) ∈ GW := GW_t6 69 rfl rfl
theorem gw_313 : Cond.fieldLink "FoldedArchive$CommandReader" 15 "FoldedArchive$CommandReader" "operands" "[I" ∈ GW := GW_t1 225 rfl rfl
theorem fl_X0_15 : FL RX0 15 0 1 "[I" true := ⟨RX0, TX0, 6, tyX0, rfl, inG_X0, by decide, gw_313, tyX0_ok, nmX0, rfl, rfl⟩
theorem tt_140 : TT[140]? = some (1, 180, []) := by decide +kernel
theorem gw_1361 : Cond.code yX0_operandOf cX0_operandOf 4 (some .int) ∈ GW := GW_t6 73 rfl rfl
theorem gw_1260 : Cond.code yX0_shapeOf cX0_shapeOf 1 (some (.object "java/lang/String")) ∈ GW := GW_t5 212 rfl rfl
theorem gw_276 : Cond.fieldLink "FoldedArchive$Row" 21 "FoldedArchive$Row" "length" "I" ∈ GW := GW_t1 188 rfl rfl
theorem gw_280 : Cond.laysFinal "FoldedArchive$Row" "FoldedArchive$Row" "signs" "[C" ∈ GW := GW_t1 192 rfl rfl
theorem gw_282 : Cond.lays "FoldedArchive$Row" "FoldedArchive$Row" "length" "I" ∈ GW := GW_t1 194 rfl rfl
theorem inG_X6 : ∀ w ∈ u_ws RX6 TX6 2, w ∈ GW := by
  have e : u_ws RX6 TX6 2 = [u_lay RX6 TX6 0, u_lay RX6 TX6 1] := rfl
  rw [e]
  exact List.forall_mem_cons.mpr ⟨gw_280, List.forall_mem_cons.mpr ⟨gw_282, fun _ h => absurd h List.not_mem_nil⟩⟩
theorem fl_X6_21 : FL RX6 21 6 1 "I" false := ⟨RX6, TX6, 2, tyX6, rfl, inG_X6, by decide, gw_276, tyX6_ok, nmX6, rfl, rfl⟩
theorem gw_275 : Cond.fieldLink "FoldedArchive$Row" 15 "FoldedArchive$Row" "signs" "[C" ∈ GW := GW_t1 187 rfl rfl
theorem fl_X6_15 : FL RX6 15 6 0 "[C" true := ⟨RX6, TX6, 2, tyX6, rfl, inG_X6, by decide, gw_275, tyX6_ok, nmX6, rfl, rfl⟩
theorem gw_1214 : Cond.code yX6_at cX6_at 2 (some .char) ∈ GW := GW_t5 166 rfl rfl
theorem gw_1335 : Cond.code yX0_isDigit cX0_isDigit 1 (some .boolean) ∈ GW := GW_t6 47 rfl rfl
theorem gw_569 : Cond.code yX9_isTerm cX9_isTerm 1 (some .boolean) ∈ GW := GW_t3 1 rfl rfl
theorem gw_1333 : Cond.methodLink "FoldedArchive$CommandReader" 109 yX0_isDigit ∈ GW := GW_t6 45 rfl rfl
theorem gw_1334 : Cond.static yX0_isDigit ∈ GW := GW_t6 46 rfl rfl
theorem gw_100 : Cond.initialized "FoldedArchive$CommandReader" ∈ GW := GW_t1 12 rfl rfl
theorem cs_X0_109 : CS RX0 109 yX0_isDigit cX0_isDigit 1 (some .boolean) 1 := ⟨gw_1333, gw_1334, gw_100, gw_1335, by decide +kernel, by decide +kernel⟩
theorem gw_1336 : Cond.methodLink "FoldedArchive$CommandReader" 113 yX9_isTerm ∈ GW := GW_t6 48 rfl rfl
theorem gw_568 : Cond.static yX9_isTerm ∈ GW := GW_t3 0 rfl rfl
theorem gw_91 : Cond.initialized "FoldedArchive$Strip" ∈ GW := GW_t1 3 rfl rfl
theorem cs_X0_113 : CS RX0 113 yX9_isTerm cX9_isTerm 1 (some .boolean) 1 := ⟨gw_1336, gw_568, gw_91, gw_569, by decide +kernel, by decide +kernel⟩
theorem gw_1332 : Cond.code yX0_fits cX0_fits 2 (some .boolean) ∈ GW := GW_t6 44 rfl rfl
theorem gw_319 : Cond.fieldLink "FoldedArchive$CommandReader" 83 "FoldedArchive$CommandReader" "operandsRead" "I" ∈ GW := GW_t1 231 rfl rfl
theorem fl_X0_83 : FL RX0 83 0 5 "I" false := ⟨RX0, TX0, 6, tyX0, rfl, inG_X0, by decide, gw_319, tyX0_ok, nmX0, rfl, rfl⟩
theorem gw_1340 : Cond.code yX0_takeOperand cX0_takeOperand 3 none ∈ GW := GW_t6 52 rfl rfl
theorem gw_318 : Cond.fieldLink "FoldedArchive$CommandReader" 29 "FoldedArchive$CommandReader" "position" "I" ∈ GW := GW_t1 230 rfl rfl
theorem fl_X0_29 : FL RX0 29 0 4 "I" false := ⟨RX0, TX0, 6, tyX0, rfl, inG_X0, by decide, gw_318, tyX0_ok, nmX0, rfl, rfl⟩
theorem gw_1329 : Cond.methodLink "FoldedArchive$CommandReader" 37 yX6_at ∈ GW := GW_t6 41 rfl rfl
theorem gw_1212 : Cond.instanceMethod yX6_at ∈ GW := GW_t5 164 rfl rfl
theorem gw_1213 : Cond.selects yX6_at.cls yX6_at yX6_at ∈ GW := GW_t5 165 rfl rfl
theorem gw_97 : Cond.initialized "FoldedArchive$Row" ∈ GW := GW_t1 9 rfl rfl
theorem cv_X0_37 : CV RX0 37 yX6_at cX6_at 2 (some .char) 1 := ⟨gw_1329, gw_1212, gw_1213, gw_97, gw_1214, by decide +kernel, by decide +kernel⟩
theorem tt_132 : TT[132]? = some (0, 6, [some 133, none]) := by decide +kernel
theorem tt_133 : TT[133]? = some (3, 60, []) := by decide +kernel
theorem is6_132 : isX6 132 := ⟨tt_132, tt_133⟩
theorem gw_1344 : Cond.code yX0_numberFrom cX0_numberFrom 4 (some .int) ∈ GW := GW_t6 56 rfl rfl
theorem gw_1330 : Cond.methodLink "FoldedArchive$CommandReader" 98 yX0_fits ∈ GW := GW_t6 42 rfl rfl
theorem gw_1331 : Cond.static yX0_fits ∈ GW := GW_t6 43 rfl rfl
theorem cs_X0_98 : CS RX0 98 yX0_fits cX0_fits 2 (some .boolean) 2 := ⟨gw_1330, gw_1331, gw_100, gw_1332, by decide +kernel, by decide +kernel⟩
theorem gw_1341 : Cond.methodLink "FoldedArchive$CommandReader" 105 yX0_numberFrom ∈ GW := GW_t6 53 rfl rfl
theorem gw_1343 : Cond.instanceMethod yX0_numberFrom ∈ GW := GW_t6 55 rfl rfl
theorem gw_39 : Cond.selects yX0_numberFrom.cls yX0_numberFrom yX0_numberFrom ∈ GW := GW_pr 39 (q := (yX0_numberFrom, 6)) rfl
theorem cv_X0_105 : CV RX0 105 yX0_numberFrom cX0_numberFrom 4 (some .int) 2 := ⟨gw_1341, gw_1343, gw_39, gw_100, gw_1344, by decide +kernel, by decide +kernel⟩
theorem gw_1337 : Cond.methodLink "FoldedArchive$CommandReader" 102 yX0_takeOperand ∈ GW := GW_t6 49 rfl rfl
theorem gw_1339 : Cond.instanceMethod yX0_takeOperand ∈ GW := GW_t6 51 rfl rfl
theorem gw_38 : Cond.selects yX0_takeOperand.cls yX0_takeOperand yX0_takeOperand ∈ GW := GW_pr 38 (q := (yX0_takeOperand, 6)) rfl
theorem cv_X0_102 : CV RX0 102 yX0_takeOperand cX0_takeOperand 3 none 1 := ⟨gw_1337, gw_1339, gw_38, gw_100, gw_1340, by decide +kernel, by decide +kernel⟩
theorem gw_1328 : Cond.code yX0_followsSign cX0_followsSign 4 (some .boolean) ∈ GW := GW_t6 40 rfl rfl
theorem gw_1325 : Cond.methodLink "FoldedArchive$CommandReader" 94 yX0_followsSign ∈ GW := GW_t6 37 rfl rfl
theorem gw_1327 : Cond.instanceMethod yX0_followsSign ∈ GW := GW_t6 39 rfl rfl
theorem gw_37 : Cond.selects yX0_followsSign.cls yX0_followsSign yX0_followsSign ∈ GW := GW_pr 37 (q := (yX0_followsSign, 6)) rfl
theorem cv_X0_94 : CV RX0 94 yX0_followsSign cX0_followsSign 4 (some .boolean) 2 := ⟨gw_1325, gw_1327, gw_37, gw_100, gw_1328, by decide +kernel, by decide +kernel⟩
theorem gw_1276 : Cond.code yX0_follows cX0_follows 5 (some .boolean) ∈ GW := GW_t5 228 rfl rfl
theorem gw_1348 : Cond.code yX0_append cX0_append 2 none ∈ GW := GW_t6 60 rfl rfl
theorem gw_316 : Cond.fieldLink "FoldedArchive$CommandReader" 22 "FoldedArchive$CommandReader" "fault" "I" ∈ GW := GW_t1 228 rfl rfl
theorem fl_X0_22 : FL RX0 22 0 3 "I" false := ⟨RX0, TX0, 6, tyX0, rfl, inG_X0, by decide, gw_316, tyX0_ok, nmX0, rfl, rfl⟩
theorem gw_1258 : Cond.methodLink "FoldedArchive$CommandReader" 41 yX0_shapeOf ∈ GW := GW_t5 210 rfl rfl
theorem gw_1259 : Cond.static yX0_shapeOf ∈ GW := GW_t5 211 rfl rfl
theorem cs_X0_41 : CS RX0 41 yX0_shapeOf cX0_shapeOf 1 (some (.object "java/lang/String")) 1 := ⟨gw_1258, gw_1259, gw_100, gw_1260, by decide +kernel, by decide +kernel⟩
theorem gw_1273 : Cond.methodLink "FoldedArchive$CommandReader" 45 yX0_follows ∈ GW := GW_t5 225 rfl rfl
theorem gw_1275 : Cond.instanceMethod yX0_follows ∈ GW := GW_t5 227 rfl rfl
theorem gw_36 : Cond.selects yX0_follows.cls yX0_follows yX0_follows ∈ GW := GW_pr 36 (q := (yX0_follows, 6)) rfl
theorem cv_X0_45 : CV RX0 45 yX0_follows cX0_follows 5 (some .boolean) 3 := ⟨gw_1273, gw_1275, gw_36, gw_100, gw_1276, by decide +kernel, by decide +kernel⟩
theorem gw_1349 : Cond.methodLink "FoldedArchive$CommandReader" 53 Lib.Math.max.name ∈ GW := GW_t6 61 rfl rfl
theorem gw_273 : Cond.static Lib.Math.max.name ∈ GW := GW_t1 185 rfl rfl
theorem gw_98 : Cond.initialized "java/lang/Math" ∈ GW := GW_t1 10 rfl rfl
theorem gw_274 : Cond.code Lib.Math.max.name Lib.Math.max.code 2 (some .int) ∈ GW := GW_t1 186 rfl rfl
theorem gw_1345 : Cond.methodLink "FoldedArchive$CommandReader" 49 yX0_append ∈ GW := GW_t6 57 rfl rfl
theorem gw_1347 : Cond.instanceMethod yX0_append ∈ GW := GW_t6 59 rfl rfl
theorem gw_40 : Cond.selects yX0_append.cls yX0_append yX0_append ∈ GW := GW_pr 40 (q := (yX0_append, 6)) rfl
theorem cv_X0_49 : CV RX0 49 yX0_append cX0_append 2 none 1 := ⟨gw_1345, gw_1347, gw_40, gw_100, gw_1348, by decide +kernel, by decide +kernel⟩
theorem gw_1257 : Cond.code yX0_readCommand cX0_readCommand 5 none ∈ GW := GW_t5 209 rfl rfl
theorem gw_1254 : Cond.methodLink "FoldedArchive$CommandReader" 25 yX0_readCommand ∈ GW := GW_t5 206 rfl rfl
theorem gw_1256 : Cond.instanceMethod yX0_readCommand ∈ GW := GW_t5 208 rfl rfl
theorem gw_35 : Cond.selects yX0_readCommand.cls yX0_readCommand yX0_readCommand ∈ GW := GW_pr 35 (q := (yX0_readCommand, 6)) rfl
theorem cv_X0_25 : CV RX0 25 yX0_readCommand cX0_readCommand 5 none 2 := ⟨gw_1254, gw_1256, gw_35, gw_100, gw_1257, by decide +kernel, by decide +kernel⟩
theorem gw_278 : Cond.fieldLink "FoldedArchive$CommandReader" 32 "FoldedArchive$Row" "length" "I" ∈ GW := GW_t1 190 rfl rfl
theorem fl_X0_32 : FL RX0 32 6 1 "I" false := ⟨RX6, TX6, 2, tyX6, rfl, inG_X6, by decide, gw_278, tyX6_ok, nmX6, rfl, rfl⟩
theorem gw_1253 : Cond.code yX0_read cX0_read 4 none ∈ GW := GW_t5 205 rfl rfl
theorem gw_182 : Cond.fieldLink "FoldedArchive$Pipes" 25 "FoldedArchive$Pipes" "count" "I" ∈ GW := GW_t1 94 rfl rfl
theorem gw_190 : Cond.lays "FoldedArchive$Pipes" "FoldedArchive$Pipes" "count" "I" ∈ GW := GW_t1 102 rfl rfl
theorem gw_192 : Cond.laysFinal "FoldedArchive$Pipes" "FoldedArchive$Pipes" "starts" "[I" ∈ GW := GW_t1 104 rfl rfl
theorem gw_194 : Cond.laysFinal "FoldedArchive$Pipes" "FoldedArchive$Pipes" "ends" "[I" ∈ GW := GW_t1 106 rfl rfl
theorem gw_196 : Cond.laysFinal "FoldedArchive$Pipes" "FoldedArchive$Pipes" "widths" "[I" ∈ GW := GW_t1 108 rfl rfl
theorem gw_198 : Cond.laysFinal "FoldedArchive$Pipes" "FoldedArchive$Pipes" "broken" "[Z" ∈ GW := GW_t1 110 rfl rfl
theorem inG_X5 : ∀ w ∈ u_ws RX5 TX5 5, w ∈ GW := by
  have e : u_ws RX5 TX5 5 = [u_lay RX5 TX5 0, u_lay RX5 TX5 1, u_lay RX5 TX5 2, u_lay RX5 TX5 3, u_lay RX5 TX5 4] := rfl
  rw [e]
  exact List.forall_mem_cons.mpr ⟨gw_190, List.forall_mem_cons.mpr ⟨gw_192, List.forall_mem_cons.mpr ⟨gw_194, List.forall_mem_cons.mpr ⟨gw_196, List.forall_mem_cons.mpr ⟨gw_198, fun _ h => absurd h List.not_mem_nil⟩⟩⟩⟩⟩
theorem fl_X5_25 : FL RX5 25 5 0 "I" false := ⟨RX5, TX5, 5, tyX5, rfl, inG_X5, by decide, gw_182, tyX5_ok, nmX5, rfl, rfl⟩
theorem gw_600 : Cond.code yX5_has cX5_has 2 (some .boolean) ∈ GW := GW_t3 32 rfl rfl
theorem gw_609 : Cond.methodLink "FoldedArchive$Pipes" 35 yX5_has ∈ GW := GW_t3 41 rfl rfl
theorem gw_598 : Cond.instanceMethod yX5_has ∈ GW := GW_t3 30 rfl rfl
theorem gw_599 : Cond.selects yX5_has.cls yX5_has yX5_has ∈ GW := GW_t3 31 rfl rfl
theorem gw_93 : Cond.initialized "FoldedArchive$Pipes" ∈ GW := GW_t1 5 rfl rfl
theorem cv_X5_35 : CV RX5 35 yX5_has cX5_has 2 (some .boolean) 1 := ⟨gw_609, gw_598, gw_599, gw_93, gw_600, by decide +kernel, by decide +kernel⟩
theorem gw_189 : Cond.fieldLink "FoldedArchive$Pipes" 21 "FoldedArchive$Pipes" "broken" "[Z" ∈ GW := GW_t1 101 rfl rfl
theorem fl_X5_21 : FL RX5 21 5 4 "[Z" true := ⟨RX5, TX5, 5, tyX5, rfl, inG_X5, by decide, gw_189, tyX5_ok, nmX5, rfl, rfl⟩
theorem gw_608 : Cond.code yX5_brokenAt cX5_brokenAt 2 (some .boolean) ∈ GW := GW_t3 40 rfl rfl
theorem gw_186 : Cond.fieldLink "FoldedArchive$Pipes" 9 "FoldedArchive$Pipes" "starts" "[I" ∈ GW := GW_t1 98 rfl rfl
theorem fl_X5_9 : FL RX5 9 5 1 "[I" true := ⟨RX5, TX5, 5, tyX5, rfl, inG_X5, by decide, gw_186, tyX5_ok, nmX5, rfl, rfl⟩
theorem gw_790 : Cond.code yX5_startOf cX5_startOf 2 (some .int) ∈ GW := GW_t3 222 rfl rfl
theorem gw_187 : Cond.fieldLink "FoldedArchive$Pipes" 15 "FoldedArchive$Pipes" "ends" "[I" ∈ GW := GW_t1 99 rfl rfl
theorem fl_X5_15 : FL RX5 15 5 2 "[I" true := ⟨RX5, TX5, 5, tyX5, rfl, inG_X5, by decide, gw_187, tyX5_ok, nmX5, rfl, rfl⟩
theorem gw_794 : Cond.code yX5_endOf cX5_endOf 2 (some .int) ∈ GW := GW_t3 226 rfl rfl
theorem gw_188 : Cond.fieldLink "FoldedArchive$Pipes" 18 "FoldedArchive$Pipes" "widths" "[I" ∈ GW := GW_t1 100 rfl rfl
theorem fl_X5_18 : FL RX5 18 5 3 "[I" true := ⟨RX5, TX5, 5, tyX5, rfl, inG_X5, by decide, gw_188, tyX5_ok, nmX5, rfl, rfl⟩
theorem gw_613 : Cond.code yX5_widthOf cX5_widthOf 2 (some .int) ∈ GW := GW_t3 45 rfl rfl
theorem gw_802 : Cond.code yX1_inGrid cX1_inGrid 2 (some .boolean) ∈ GW := GW_t3 234 rfl rfl
theorem gw_800 : Cond.methodLink "FoldedArchive$FlowSearch" 55 yX1_inGrid ∈ GW := GW_t3 232 rfl rfl
theorem gw_801 : Cond.static yX1_inGrid ∈ GW := GW_t3 233 rfl rfl
theorem gw_95 : Cond.initialized "FoldedArchive$FlowSearch" ∈ GW := GW_t1 7 rfl rfl
theorem cs_X1_55 : CS RX1 55 yX1_inGrid cX1_inGrid 2 (some .boolean) 2 := ⟨gw_800, gw_801, gw_95, gw_802, by decide +kernel, by decide +kernel⟩
theorem gw_241 : Cond.fieldLink "FoldedArchive$FlowSearch" 9 "FoldedArchive$FlowSearch" "spare" "[I" ∈ GW := GW_t1 153 rfl rfl
theorem gw_244 : Cond.laysFinal "FoldedArchive$FlowSearch" "FoldedArchive$FlowSearch" "spare" "[I" ∈ GW := GW_t1 156 rfl rfl
theorem gw_246 : Cond.laysFinal "FoldedArchive$FlowSearch" "FoldedArchive$FlowSearch" "reachedFrom" "[I" ∈ GW := GW_t1 158 rfl rfl
theorem gw_248 : Cond.laysFinal "FoldedArchive$FlowSearch" "FoldedArchive$FlowSearch" "queue" "[I" ∈ GW := GW_t1 160 rfl rfl
theorem inG_X1 : ∀ w ∈ u_ws RX1 TX1 3, w ∈ GW := by
  have e : u_ws RX1 TX1 3 = [u_lay RX1 TX1 0, u_lay RX1 TX1 1, u_lay RX1 TX1 2] := rfl
  rw [e]
  exact List.forall_mem_cons.mpr ⟨gw_244, List.forall_mem_cons.mpr ⟨gw_246, List.forall_mem_cons.mpr ⟨gw_248, fun _ h => absurd h List.not_mem_nil⟩⟩⟩
theorem fl_X1_9 : FL RX1 9 1 0 "[I" true := ⟨RX1, TX1, 3, tyX1, rfl, inG_X1, by decide, gw_241, tyX1_ok, nmX1, rfl, rfl⟩
theorem tt_124 : TT[124]? = some (0, 1, [some 125, some 126, some 127]) := by decide +kernel
theorem tt_125 : TT[125]? = some (1, 49, []) := by decide +kernel
theorem gw_799 : Cond.code yX1_addSpare cX1_addSpare 4 none ∈ GW := GW_t3 231 rfl rfl
theorem gw_183 : Cond.fieldLink "FoldedArchive$FlowSearch" 33 "FoldedArchive$Pipes" "count" "I" ∈ GW := GW_t1 95 rfl rfl
theorem fl_X1_33 : FL RX1 33 5 0 "I" false := ⟨RX5, TX5, 5, tyX5, rfl, inG_X5, by decide, gw_183, tyX5_ok, nmX5, rfl, rfl⟩
theorem gw_786 : Cond.methodLink "FoldedArchive$FlowSearch" 39 yX5_brokenAt ∈ GW := GW_t3 218 rfl rfl
theorem gw_606 : Cond.instanceMethod yX5_brokenAt ∈ GW := GW_t3 38 rfl rfl
theorem gw_607 : Cond.selects yX5_brokenAt.cls yX5_brokenAt yX5_brokenAt ∈ GW := GW_t3 39 rfl rfl
theorem cv_X1_39 : CV RX1 39 yX5_brokenAt cX5_brokenAt 2 (some .boolean) 1 := ⟨gw_786, gw_606, gw_607, gw_93, gw_608, by decide +kernel, by decide +kernel⟩
theorem gw_787 : Cond.methodLink "FoldedArchive$FlowSearch" 42 yX5_startOf ∈ GW := GW_t3 219 rfl rfl
theorem gw_788 : Cond.instanceMethod yX5_startOf ∈ GW := GW_t3 220 rfl rfl
theorem gw_789 : Cond.selects yX5_startOf.cls yX5_startOf yX5_startOf ∈ GW := GW_t3 221 rfl rfl
theorem cv_X1_42 : CV RX1 42 yX5_startOf cX5_startOf 2 (some .int) 1 := ⟨gw_787, gw_788, gw_789, gw_93, gw_790, by decide +kernel, by decide +kernel⟩
theorem gw_791 : Cond.methodLink "FoldedArchive$FlowSearch" 45 yX5_endOf ∈ GW := GW_t3 223 rfl rfl
theorem gw_792 : Cond.instanceMethod yX5_endOf ∈ GW := GW_t3 224 rfl rfl
theorem gw_793 : Cond.selects yX5_endOf.cls yX5_endOf yX5_endOf ∈ GW := GW_t3 225 rfl rfl
theorem cv_X1_45 : CV RX1 45 yX5_endOf cX5_endOf 2 (some .int) 1 := ⟨gw_791, gw_792, gw_793, gw_93, gw_794, by decide +kernel, by decide +kernel⟩
theorem gw_795 : Cond.methodLink "FoldedArchive$FlowSearch" 48 yX5_widthOf ∈ GW := GW_t3 227 rfl rfl
theorem gw_611 : Cond.instanceMethod yX5_widthOf ∈ GW := GW_t3 43 rfl rfl
theorem gw_612 : Cond.selects yX5_widthOf.cls yX5_widthOf yX5_widthOf ∈ GW := GW_t3 44 rfl rfl
theorem cv_X1_48 : CV RX1 48 yX5_widthOf cX5_widthOf 2 (some .int) 1 := ⟨gw_795, gw_611, gw_612, gw_93, gw_613, by decide +kernel, by decide +kernel⟩
theorem gw_796 : Cond.methodLink "FoldedArchive$FlowSearch" 51 yX1_addSpare ∈ GW := GW_t3 228 rfl rfl
theorem gw_798 : Cond.instanceMethod yX1_addSpare ∈ GW := GW_t3 230 rfl rfl
theorem gw_17 : Cond.selects yX1_addSpare.cls yX1_addSpare yX1_addSpare ∈ GW := GW_pr 17 (q := (yX1_addSpare, 3)) rfl
theorem cv_X1_51 : CV RX1 51 yX1_addSpare cX1_addSpare 4 none 3 := ⟨gw_796, gw_798, gw_17, gw_95, gw_799, by decide +kernel, by decide +kernel⟩
theorem gw_785 : Cond.code yX1_openPipes cX1_openPipes 4 none ∈ GW := GW_t3 217 rfl rfl
theorem gw_810 : Cond.code yX1_spareOf cX1_spareOf 3 (some .int) ∈ GW := GW_t4 2 rfl rfl
theorem gw_242 : Cond.fieldLink "FoldedArchive$FlowSearch" 15 "FoldedArchive$FlowSearch" "reachedFrom" "[I" ∈ GW := GW_t1 154 rfl rfl
theorem fl_X1_15 : FL RX1 15 1 1 "[I" true := ⟨RX1, TX1, 3, tyX1, rfl, inG_X1, by decide, gw_242, tyX1_ok, nmX1, rfl, rfl⟩
theorem tt_126 : TT[126]? = some (1, 7, []) := by decide +kernel
theorem gw_814 : Cond.code yX1_previousOf cX1_previousOf 2 (some .int) ∈ GW := GW_t4 6 rfl rfl
theorem gw_243 : Cond.fieldLink "FoldedArchive$FlowSearch" 18 "FoldedArchive$FlowSearch" "queue" "[I" ∈ GW := GW_t1 155 rfl rfl
theorem fl_X1_18 : FL RX1 18 1 2 "[I" true := ⟨RX1, TX1, 3, tyX1, rfl, inG_X1, by decide, gw_243, tyX1_ok, nmX1, rfl, rfl⟩
theorem tt_127 : TT[127]? = some (1, 7, []) := by decide +kernel
theorem gw_811 : Cond.methodLink "FoldedArchive$FlowSearch" 63 yX1_previousOf ∈ GW := GW_t4 3 rfl rfl
theorem gw_813 : Cond.instanceMethod yX1_previousOf ∈ GW := GW_t4 5 rfl rfl
theorem gw_20 : Cond.selects yX1_previousOf.cls yX1_previousOf yX1_previousOf ∈ GW := GW_pr 20 (q := (yX1_previousOf, 3)) rfl
theorem cv_X1_63 : CV RX1 63 yX1_previousOf cX1_previousOf 2 (some .int) 1 := ⟨gw_811, gw_813, gw_20, gw_95, gw_814, by decide +kernel, by decide +kernel⟩
theorem gw_807 : Cond.methodLink "FoldedArchive$FlowSearch" 59 yX1_spareOf ∈ GW := GW_t3 239 rfl rfl
theorem gw_809 : Cond.instanceMethod yX1_spareOf ∈ GW := GW_t4 1 rfl rfl
theorem gw_19 : Cond.selects yX1_spareOf.cls yX1_spareOf yX1_spareOf ∈ GW := GW_pr 19 (q := (yX1_spareOf, 3)) rfl
theorem cv_X1_59 : CV RX1 59 yX1_spareOf cX1_spareOf 3 (some .int) 2 := ⟨gw_807, gw_809, gw_19, gw_95, gw_810, by decide +kernel, by decide +kernel⟩
theorem gw_806 : Cond.code yX1_reachesLast cX1_reachesLast 6 (some .boolean) ∈ GW := GW_t3 238 rfl rfl
theorem gw_819 : Cond.methodLink "FoldedArchive$FlowSearch" 66 Lib.Math.min.name ∈ GW := GW_t4 11 rfl rfl
theorem gw_403 : Cond.static Lib.Math.min.name ∈ GW := GW_t2 75 rfl rfl
theorem gw_404 : Cond.code Lib.Math.min.name Lib.Math.min.code 2 (some .int) ∈ GW := GW_t2 76 rfl rfl
theorem gw_818 : Cond.code yX1_augment cX1_augment 6 (some .int) ∈ GW := GW_t4 10 rfl rfl
theorem gw_782 : Cond.methodLink "FoldedArchive$FlowSearch" 21 yX1_openPipes ∈ GW := GW_t3 214 rfl rfl
theorem gw_784 : Cond.instanceMethod yX1_openPipes ∈ GW := GW_t3 216 rfl rfl
theorem gw_16 : Cond.selects yX1_openPipes.cls yX1_openPipes yX1_openPipes ∈ GW := GW_pr 16 (q := (yX1_openPipes, 3)) rfl
theorem cv_X1_21 : CV RX1 21 yX1_openPipes cX1_openPipes 4 none 2 := ⟨gw_782, gw_784, gw_16, gw_95, gw_785, by decide +kernel, by decide +kernel⟩
theorem gw_803 : Cond.methodLink "FoldedArchive$FlowSearch" 25 yX1_reachesLast ∈ GW := GW_t3 235 rfl rfl
theorem gw_805 : Cond.instanceMethod yX1_reachesLast ∈ GW := GW_t3 237 rfl rfl
theorem gw_18 : Cond.selects yX1_reachesLast.cls yX1_reachesLast yX1_reachesLast ∈ GW := GW_pr 18 (q := (yX1_reachesLast, 3)) rfl
theorem cv_X1_25 : CV RX1 25 yX1_reachesLast cX1_reachesLast 6 (some .boolean) 1 := ⟨gw_803, gw_805, gw_18, gw_95, gw_806, by decide +kernel, by decide +kernel⟩
theorem gw_815 : Cond.methodLink "FoldedArchive$FlowSearch" 29 yX1_augment ∈ GW := GW_t4 7 rfl rfl
theorem gw_817 : Cond.instanceMethod yX1_augment ∈ GW := GW_t4 9 rfl rfl
theorem gw_21 : Cond.selects yX1_augment.cls yX1_augment yX1_augment ∈ GW := GW_pr 21 (q := (yX1_augment, 3)) rfl
theorem cv_X1_29 : CV RX1 29 yX1_augment cX1_augment 6 (some .int) 1 := ⟨gw_815, gw_817, gw_21, gw_95, gw_818, by decide +kernel, by decide +kernel⟩
theorem gw_781 : Cond.code yX1_greatest cX1_greatest 6 (some .int) ∈ GW := GW_t3 213 rfl rfl
theorem gw_1100 : Cond.code yX1_contains cX1_contains 2 (some .boolean) ∈ GW := GW_t5 52 rfl rfl
theorem gw_1098 : Cond.methodLink "FoldedArchive$FlowSearch" 75 yX1_contains ∈ GW := GW_t5 50 rfl rfl
theorem gw_1099 : Cond.static yX1_contains ∈ GW := GW_t5 51 rfl rfl
theorem cs_X1_75 : CS RX1 75 yX1_contains cX1_contains 2 (some .boolean) 2 := ⟨gw_1098, gw_1099, gw_95, gw_1100, by decide +kernel, by decide +kernel⟩
theorem gw_1097 : Cond.code yX1_cutSize cX1_cutSize 5 (some .int) ∈ GW := GW_t5 49 rfl rfl
theorem gw_1095 : Cond.methodLink "FoldedArchive$FlowSearch" 71 yX1_cutSize ∈ GW := GW_t5 47 rfl rfl
theorem gw_1096 : Cond.static yX1_cutSize ∈ GW := GW_t5 48 rfl rfl
theorem cs_X1_71 : CS RX1 71 yX1_cutSize cX1_cutSize 5 (some .int) 2 := ⟨gw_1095, gw_1096, gw_95, gw_1097, by decide +kernel, by decide +kernel⟩
theorem gw_1094 : Cond.code yX1_smallest cX1_smallest 5 (some .int) ∈ GW := GW_t5 46 rfl rfl
theorem gw_166 : Cond.fieldLink "FoldedArchive$Pile" 15 "FoldedArchive$Pile" "folded" "I" ∈ GW := GW_t1 78 rfl rfl
theorem gw_171 : Cond.lays "FoldedArchive$Pile" "FoldedArchive$Pile" "folded" "I" ∈ GW := GW_t1 83 rfl rfl
theorem gw_173 : Cond.laysFinal "FoldedArchive$Pile" "FoldedArchive$Pile" "layers" "[I" ∈ GW := GW_t1 85 rfl rfl
theorem inG_X4 : ∀ w ∈ u_ws RX4 TX4 2, w ∈ GW := by
  have e : u_ws RX4 TX4 2 = [u_lay RX4 TX4 0, u_lay RX4 TX4 1] := rfl
  rw [e]
  exact List.forall_mem_cons.mpr ⟨gw_171, List.forall_mem_cons.mpr ⟨gw_173, fun _ h => absurd h List.not_mem_nil⟩⟩
theorem fl_X4_15 : FL RX4 15 4 0 "I" false := ⟨RX4, TX4, 2, tyX4, rfl, inG_X4, by decide, gw_166, tyX4_ok, nmX4, rfl, rfl⟩
theorem gw_170 : Cond.fieldLink "FoldedArchive$Pile" 9 "FoldedArchive$Pile" "layers" "[I" ∈ GW := GW_t1 82 rfl rfl
theorem fl_X4_9 : FL RX4 9 4 1 "[I" true := ⟨RX4, TX4, 2, tyX4, rfl, inG_X4, by decide, gw_170, tyX4_ok, nmX4, rfl, rfl⟩
theorem gw_399 : Cond.methodLink "FoldedArchive$Pile" 19 arraycopyName ∈ GW := GW_t2 71 rfl rfl
theorem gw_401 : Cond.native arraycopyName ∈ GW := GW_t2 73 rfl rfl
theorem gw_400 : Cond.static arraycopyName ∈ GW := GW_t2 72 rfl rfl
theorem gw_109 : Cond.initialized "java/lang/System" ∈ GW := GW_t1 21 rfl rfl
theorem gw_398 : Cond.code yX4_copyFrom cX4_copyFrom 2 none ∈ GW := GW_t2 70 rfl rfl
theorem gw_420 : Cond.code yX4_layerHolding cX4_layerHolding 2 (some .int) ∈ GW := GW_t2 92 rfl rfl
theorem gw_417 : Cond.methodLink "FoldedArchive$Pile" 34 yX4_layerHolding ∈ GW := GW_t2 89 rfl rfl
theorem gw_418 : Cond.instanceMethod yX4_layerHolding ∈ GW := GW_t2 90 rfl rfl
theorem gw_419 : Cond.selects yX4_layerHolding.cls yX4_layerHolding yX4_layerHolding ∈ GW := GW_t2 91 rfl rfl
theorem gw_92 : Cond.initialized "FoldedArchive$Pile" ∈ GW := GW_t1 4 rfl rfl
theorem cv_X4_34 : CV RX4 34 yX4_layerHolding cX4_layerHolding 2 (some .int) 1 := ⟨gw_417, gw_418, gw_419, gw_92, gw_420, by decide +kernel, by decide +kernel⟩
theorem gw_416 : Cond.code yX4_layerAfterInsert cX4_layerAfterInsert 4 (some .int) ∈ GW := GW_t2 88 rfl rfl
theorem gw_424 : Cond.methodLink "FoldedArchive$Pile" 25 Lib.Math.min.name ∈ GW := GW_t2 96 rfl rfl
theorem gw_425 : Cond.methodLink "FoldedArchive$Pile" 31 Lib.Math.max.name ∈ GW := GW_t2 97 rfl rfl
theorem gw_423 : Cond.code yX4_spansCross cX4_spansCross 8 (some .boolean) ∈ GW := GW_t2 95 rfl rfl
theorem gw_413 : Cond.methodLink "FoldedArchive$Pile" 38 yX4_layerAfterInsert ∈ GW := GW_t2 85 rfl rfl
theorem gw_415 : Cond.instanceMethod yX4_layerAfterInsert ∈ GW := GW_t2 87 rfl rfl
theorem gw_1 : Cond.selects yX4_layerAfterInsert.cls yX4_layerAfterInsert yX4_layerAfterInsert ∈ GW := GW_pr 1 (q := (yX4_layerAfterInsert, 2)) rfl
theorem cv_X4_38 : CV RX4 38 yX4_layerAfterInsert cX4_layerAfterInsert 4 (some .int) 2 := ⟨gw_413, gw_415, gw_1, gw_92, gw_416, by decide +kernel, by decide +kernel⟩
theorem gw_421 : Cond.methodLink "FoldedArchive$Pile" 41 yX4_spansCross ∈ GW := GW_t2 93 rfl rfl
theorem gw_422 : Cond.static yX4_spansCross ∈ GW := GW_t2 94 rfl rfl
theorem cs_X4_41 : CS RX4 41 yX4_spansCross cX4_spansCross 8 (some .boolean) 4 := ⟨gw_421, gw_422, gw_92, gw_423, by decide +kernel, by decide +kernel⟩
theorem gw_412 : Cond.code yX4_creaseCrossedAt cX4_creaseCrossedAt 7 (some .int) ∈ GW := GW_t2 84 rfl rfl
theorem gw_429 : Cond.code yX4_insert cX4_insert 3 (some .int) ∈ GW := GW_t2 101 rfl rfl
theorem gw_433 : Cond.code yX4_removeLast cX4_removeLast 3 (some .int) ∈ GW := GW_t2 105 rfl rfl
theorem gw_259 : Cond.fieldLink "FoldedArchive$FoldingSearch" 12 "FoldedArchive$FoldingSearch" "trial" "LFoldedArchive$Pile;" ∈ GW := GW_t1 171 rfl rfl
theorem gw_261 : Cond.laysFinal "FoldedArchive$FoldingSearch" "FoldedArchive$FoldingSearch" "trial" "LFoldedArchive$Pile;" ∈ GW := GW_t1 173 rfl rfl
theorem gw_263 : Cond.laysFinal "FoldedArchive$FoldingSearch" "FoldedArchive$FoldingSearch" "placed" "[I" ∈ GW := GW_t1 175 rfl rfl
theorem inG_X2 : ∀ w ∈ u_ws RX2 TX2 2, w ∈ GW := by
  have e : u_ws RX2 TX2 2 = [u_lay RX2 TX2 0, u_lay RX2 TX2 1] := rfl
  rw [e]
  exact List.forall_mem_cons.mpr ⟨gw_261, List.forall_mem_cons.mpr ⟨gw_263, fun _ h => absurd h List.not_mem_nil⟩⟩
theorem fl_X2_12 : FL RX2 12 2 0 "LFoldedArchive$Pile;" true := ⟨RX2, TX2, 2, tyX2, rfl, inG_X2, by decide, gw_259, tyX2_ok, nmX2, rfl, rfl⟩
theorem tt_128 : TT[128]? = some (0, 2, [some 129, some 131]) := by decide +kernel
theorem gw_409 : Cond.methodLink "FoldedArchive$FoldingSearch" 39 yX4_creaseCrossedAt ∈ GW := GW_t2 81 rfl rfl
theorem gw_410 : Cond.instanceMethod yX4_creaseCrossedAt ∈ GW := GW_t2 82 rfl rfl
theorem gw_411 : Cond.selects yX4_creaseCrossedAt.cls yX4_creaseCrossedAt yX4_creaseCrossedAt ∈ GW := GW_t2 83 rfl rfl
theorem cv_X2_39 : CV RX2 39 yX4_creaseCrossedAt cX4_creaseCrossedAt 7 (some .int) 1 := ⟨gw_409, gw_410, gw_411, gw_92, gw_412, by decide +kernel, by decide +kernel⟩
theorem tt_129 : TT[129]? = some (0, 4, [none, some 130]) := by decide +kernel
theorem tt_130 : TT[130]? = some (1, 7, []) := by decide +kernel
theorem is4_129 : isX4 129 := ⟨tt_129, tt_130⟩
theorem gw_426 : Cond.methodLink "FoldedArchive$FoldingSearch" 43 yX4_insert ∈ GW := GW_t2 98 rfl rfl
theorem gw_427 : Cond.instanceMethod yX4_insert ∈ GW := GW_t2 99 rfl rfl
theorem gw_428 : Cond.selects yX4_insert.cls yX4_insert yX4_insert ∈ GW := GW_t2 100 rfl rfl
theorem cv_X2_43 : CV RX2 43 yX4_insert cX4_insert 3 (some .int) 1 := ⟨gw_426, gw_427, gw_428, gw_92, gw_429, by decide +kernel, by decide +kernel⟩
theorem gw_405 : Cond.methodLink "FoldedArchive$FoldingSearch" 36 yX2_foldRest ∈ GW := GW_t2 77 rfl rfl
theorem gw_407 : Cond.instanceMethod yX2_foldRest ∈ GW := GW_t2 79 rfl rfl
theorem gw_0 : Cond.selects yX2_foldRest.cls yX2_foldRest yX2_foldRest ∈ GW := GW_pr 0 (q := (yX2_foldRest, 2)) rfl
theorem gw_96 : Cond.initialized "FoldedArchive$FoldingSearch" ∈ GW := GW_t1 8 rfl rfl
theorem gw_408 : Cond.code yX2_foldRest cX2_foldRest 5 (some .int) ∈ GW := GW_t2 80 rfl rfl
theorem cv_X2_36 : CV RX2 36 yX2_foldRest cX2_foldRest 5 (some .int) 2 := ⟨gw_405, gw_407, gw_0, gw_96, gw_408, by decide +kernel, by decide +kernel⟩
theorem gw_430 : Cond.methodLink "FoldedArchive$FoldingSearch" 46 yX4_removeLast ∈ GW := GW_t2 102 rfl rfl
theorem gw_431 : Cond.instanceMethod yX4_removeLast ∈ GW := GW_t2 103 rfl rfl
theorem gw_432 : Cond.selects yX4_removeLast.cls yX4_removeLast yX4_removeLast ∈ GW := GW_t2 104 rfl rfl
theorem cv_X2_46 : CV RX2 46 yX4_removeLast cX4_removeLast 3 (some .int) 0 := ⟨gw_430, gw_431, gw_432, gw_92, gw_433, by decide +kernel, by decide +kernel⟩
theorem gw_395 : Cond.methodLink "FoldedArchive$FoldingSearch" 22 yX4_copyFrom ∈ GW := GW_t2 67 rfl rfl
theorem gw_396 : Cond.instanceMethod yX4_copyFrom ∈ GW := GW_t2 68 rfl rfl
theorem gw_397 : Cond.selects yX4_copyFrom.cls yX4_copyFrom yX4_copyFrom ∈ GW := GW_t2 69 rfl rfl
theorem cv_X2_22 : CV RX2 22 yX4_copyFrom cX4_copyFrom 2 none 1 := ⟨gw_395, gw_396, gw_397, gw_92, gw_398, by decide +kernel, by decide +kernel⟩
theorem gw_167 : Cond.fieldLink "FoldedArchive$FoldingSearch" 26 "FoldedArchive$Pile" "folded" "I" ∈ GW := GW_t1 79 rfl rfl
theorem fl_X2_26 : FL RX2 26 4 0 "I" false := ⟨RX4, TX4, 2, tyX4, rfl, inG_X4, by decide, gw_167, tyX4_ok, nmX4, rfl, rfl⟩
theorem gw_402 : Cond.methodLink "FoldedArchive$FoldingSearch" 30 Lib.Math.min.name ∈ GW := GW_t2 74 rfl rfl
theorem gw_394 : Cond.code yX2_countByFolding cX2_countByFolding 3 (some .int) ∈ GW := GW_t2 66 rfl rfl
theorem gw_450 : Cond.methodLink "FoldedArchive$FoldingSearch" 60 yX4_layerHolding ∈ GW := GW_t2 122 rfl rfl
theorem cv_X2_60 : CV RX2 60 yX4_layerHolding cX4_layerHolding 2 (some .int) 1 := ⟨gw_450, gw_418, gw_419, gw_92, gw_420, by decide +kernel, by decide +kernel⟩
theorem gw_260 : Cond.fieldLink "FoldedArchive$FoldingSearch" 18 "FoldedArchive$FoldingSearch" "placed" "[I" ∈ GW := GW_t1 172 rfl rfl
theorem fl_X2_18 : FL RX2 18 2 1 "[I" true := ⟨RX2, TX2, 2, tyX2, rfl, inG_X2, by decide, gw_260, tyX2_ok, nmX2, rfl, rfl⟩
theorem tt_131 : TT[131]? = some (1, 7, []) := by decide +kernel
theorem gw_449 : Cond.code yX2_isNextOfPile cX2_isNextOfPile 5 (some .boolean) ∈ GW := GW_t2 121 rfl rfl
theorem gw_458 : Cond.code yX2_placeOf cX2_placeOf 3 (some .int) ∈ GW := GW_t2 130 rfl rfl
theorem gw_455 : Cond.methodLink "FoldedArchive$FoldingSearch" 63 yX2_placeOf ∈ GW := GW_t2 127 rfl rfl
theorem gw_457 : Cond.instanceMethod yX2_placeOf ∈ GW := GW_t2 129 rfl rfl
theorem gw_5 : Cond.selects yX2_placeOf.cls yX2_placeOf yX2_placeOf ∈ GW := GW_pr 5 (q := (yX2_placeOf, 2)) rfl
theorem cv_X2_63 : CV RX2 63 yX2_placeOf cX2_placeOf 3 (some .int) 2 := ⟨gw_455, gw_457, gw_5, gw_96, gw_458, by decide +kernel, by decide +kernel⟩
theorem gw_459 : Cond.methodLink "FoldedArchive$FoldingSearch" 66 yX4_spansCross ∈ GW := GW_t2 131 rfl rfl
theorem cs_X2_66 : CS RX2 66 yX4_spansCross cX4_spansCross 8 (some .boolean) 4 := ⟨gw_459, gw_422, gw_92, gw_423, by decide +kernel, by decide +kernel⟩
theorem gw_454 : Cond.code yX2_spanCrosses cX2_spanCrosses 7 (some .boolean) ∈ GW := GW_t2 126 rfl rfl
theorem gw_446 : Cond.methodLink "FoldedArchive$FoldingSearch" 53 yX2_isNextOfPile ∈ GW := GW_t2 118 rfl rfl
theorem gw_448 : Cond.instanceMethod yX2_isNextOfPile ∈ GW := GW_t2 120 rfl rfl
theorem gw_3 : Cond.selects yX2_isNextOfPile.cls yX2_isNextOfPile yX2_isNextOfPile ∈ GW := GW_pr 3 (q := (yX2_isNextOfPile, 2)) rfl
theorem cv_X2_53 : CV RX2 53 yX2_isNextOfPile cX2_isNextOfPile 5 (some .boolean) 2 := ⟨gw_446, gw_448, gw_3, gw_96, gw_449, by decide +kernel, by decide +kernel⟩
theorem gw_451 : Cond.methodLink "FoldedArchive$FoldingSearch" 57 yX2_spanCrosses ∈ GW := GW_t2 123 rfl rfl
theorem gw_453 : Cond.instanceMethod yX2_spanCrosses ∈ GW := GW_t2 125 rfl rfl
theorem gw_4 : Cond.selects yX2_spanCrosses.cls yX2_spanCrosses yX2_spanCrosses ∈ GW := GW_pr 4 (q := (yX2_spanCrosses, 2)) rfl
theorem cv_X2_57 : CV RX2 57 yX2_spanCrosses cX2_spanCrosses 7 (some .boolean) 2 := ⟨gw_451, gw_453, gw_4, gw_96, gw_454, by decide +kernel, by decide +kernel⟩
theorem gw_442 : Cond.methodLink "FoldedArchive$FoldingSearch" 50 yX2_placeRest ∈ GW := GW_t2 114 rfl rfl
theorem gw_444 : Cond.instanceMethod yX2_placeRest ∈ GW := GW_t2 116 rfl rfl
theorem gw_2 : Cond.selects yX2_placeRest.cls yX2_placeRest yX2_placeRest ∈ GW := GW_pr 2 (q := (yX2_placeRest, 2)) rfl
theorem gw_445 : Cond.code yX2_placeRest cX2_placeRest 5 (some .int) ∈ GW := GW_t2 117 rfl rfl
theorem cv_X2_50 : CV RX2 50 yX2_placeRest cX2_placeRest 5 (some .int) 2 := ⟨gw_442, gw_444, gw_2, gw_96, gw_445, by decide +kernel, by decide +kernel⟩
theorem gw_441 : Cond.code yX2_countByOrders cX2_countByOrders 5 (some .int) ∈ GW := GW_t2 113 rfl rfl
theorem gw_224 : Cond.fieldLink "FoldedArchive$History" 11 "FoldedArchive$History" "kept" "[LFoldedArchive$State;" ∈ GW := GW_t1 136 rfl rfl
theorem gw_228 : Cond.laysFinal "FoldedArchive$History" "FoldedArchive$History" "kept" "[LFoldedArchive$State;" ∈ GW := GW_t1 140 rfl rfl
theorem gw_230 : Cond.lays "FoldedArchive$History" "FoldedArchive$History" "next" "I" ∈ GW := GW_t1 142 rfl rfl
theorem gw_232 : Cond.lays "FoldedArchive$History" "FoldedArchive$History" "count" "I" ∈ GW := GW_t1 144 rfl rfl
theorem inG_X3 : ∀ w ∈ u_ws RX3 TX3 3, w ∈ GW := by
  have e : u_ws RX3 TX3 3 = [u_lay RX3 TX3 0, u_lay RX3 TX3 1, u_lay RX3 TX3 2] := rfl
  rw [e]
  exact List.forall_mem_cons.mpr ⟨gw_228, List.forall_mem_cons.mpr ⟨gw_230, List.forall_mem_cons.mpr ⟨gw_232, fun _ h => absurd h List.not_mem_nil⟩⟩⟩
theorem fl_X3_11 : FL RX3 11 3 0 "[LFoldedArchive$State;" true := ⟨RX3, TX3, 3, tyX3, rfl, inG_X3, by decide, gw_224, tyX3_ok, nmX3, rfl, rfl⟩
theorem tt_34 : TT[34]? = some (0, 3, [some 35, none, none]) := by decide +kernel
theorem tt_35 : TT[35]? = some (6, 8, [some 36, some 47, some 58, some 69, some 80, some 91, some 102, some 113]) := by decide +kernel
theorem gw_731 : Cond.code yX3_stateAt cX3_stateAt 2 (some (.object "FoldedArchive$State")) ∈ GW := GW_t3 163 rfl rfl
theorem gw_138 : Cond.fieldLink "FoldedArchive$Strip" 18 "FoldedArchive$Strip" "count" "I" ∈ GW := GW_t1 50 rfl rfl
theorem gw_148 : Cond.lays "FoldedArchive$Strip" "FoldedArchive$Strip" "count" "I" ∈ GW := GW_t1 60 rfl rfl
theorem gw_150 : Cond.lays "FoldedArchive$Strip" "FoldedArchive$Strip" "pouredUnits" "I" ∈ GW := GW_t1 62 rfl rfl
theorem gw_152 : Cond.lays "FoldedArchive$Strip" "FoldedArchive$Strip" "leakedUnits" "I" ∈ GW := GW_t1 64 rfl rfl
theorem gw_154 : Cond.laysFinal "FoldedArchive$Strip" "FoldedArchive$Strip" "water" "[I" ∈ GW := GW_t1 66 rfl rfl
theorem gw_156 : Cond.laysFinal "FoldedArchive$Strip" "FoldedArchive$Strip" "terms" "[I" ∈ GW := GW_t1 68 rfl rfl
theorem inG_X9 : ∀ w ∈ u_ws RX9 TX9 5, w ∈ GW := by
  have e : u_ws RX9 TX9 5 = [u_lay RX9 TX9 0, u_lay RX9 TX9 1, u_lay RX9 TX9 2, u_lay RX9 TX9 3, u_lay RX9 TX9 4] := rfl
  rw [e]
  exact List.forall_mem_cons.mpr ⟨gw_148, List.forall_mem_cons.mpr ⟨gw_150, List.forall_mem_cons.mpr ⟨gw_152, List.forall_mem_cons.mpr ⟨gw_154, List.forall_mem_cons.mpr ⟨gw_156, fun _ h => absurd h List.not_mem_nil⟩⟩⟩⟩⟩
theorem fl_X9_18 : FL RX9 18 9 0 "I" false := ⟨RX9, TX9, 5, tyX9, rfl, inG_X9, by decide, gw_138, tyX9_ok, nmX9, rfl, rfl⟩
theorem gw_142 : Cond.fieldLink "FoldedArchive$Strip" 22 "FoldedArchive$Strip" "pouredUnits" "I" ∈ GW := GW_t1 54 rfl rfl
theorem fl_X9_22 : FL RX9 22 9 1 "I" false := ⟨RX9, TX9, 5, tyX9, rfl, inG_X9, by decide, gw_142, tyX9_ok, nmX9, rfl, rfl⟩
theorem gw_144 : Cond.fieldLink "FoldedArchive$Strip" 25 "FoldedArchive$Strip" "leakedUnits" "I" ∈ GW := GW_t1 56 rfl rfl
theorem fl_X9_25 : FL RX9 25 9 2 "I" false := ⟨RX9, TX9, 5, tyX9, rfl, inG_X9, by decide, gw_144, tyX9_ok, nmX9, rfl, rfl⟩
theorem gw_146 : Cond.fieldLink "FoldedArchive$Strip" 9 "FoldedArchive$Strip" "water" "[I" ∈ GW := GW_t1 58 rfl rfl
theorem fl_X9_9 : FL RX9 9 9 3 "[I" true := ⟨RX9, TX9, 5, tyX9, rfl, inG_X9, by decide, gw_146, tyX9_ok, nmX9, rfl, rfl⟩
theorem gw_524 : Cond.methodLink "FoldedArchive$Strip" 28 arraycopyName ∈ GW := GW_t2 196 rfl rfl
theorem gw_147 : Cond.fieldLink "FoldedArchive$Strip" 15 "FoldedArchive$Strip" "terms" "[I" ∈ GW := GW_t1 59 rfl rfl
theorem fl_X9_15 : FL RX9 15 9 4 "[I" true := ⟨RX9, TX9, 5, tyX9, rfl, inG_X9, by decide, gw_147, tyX9_ok, nmX9, rfl, rfl⟩
theorem gw_523 : Cond.code yX9_copyFrom cX9_copyFrom 2 none ∈ GW := GW_t2 195 rfl rfl
theorem gw_530 : Cond.methodLink "FoldedArchive$Pipes" 29 arraycopyName ∈ GW := GW_t2 202 rfl rfl
theorem gw_529 : Cond.code yX5_copyFrom cX5_copyFrom 2 none ∈ GW := GW_t2 201 rfl rfl
theorem gw_202 : Cond.fieldLink "FoldedArchive$State" 12 "FoldedArchive$State" "strip" "LFoldedArchive$Strip;" ∈ GW := GW_t1 114 rfl rfl
theorem gw_208 : Cond.laysFinal "FoldedArchive$State" "FoldedArchive$State" "strip" "LFoldedArchive$Strip;" ∈ GW := GW_t1 120 rfl rfl
theorem gw_210 : Cond.laysFinal "FoldedArchive$State" "FoldedArchive$State" "pile" "LFoldedArchive$Pile;" ∈ GW := GW_t1 122 rfl rfl
theorem gw_212 : Cond.laysFinal "FoldedArchive$State" "FoldedArchive$State" "pipes" "LFoldedArchive$Pipes;" ∈ GW := GW_t1 124 rfl rfl
theorem inG_X8 : ∀ w ∈ u_ws RX8 TX8 3, w ∈ GW := by
  have e : u_ws RX8 TX8 3 = [u_lay RX8 TX8 0, u_lay RX8 TX8 1, u_lay RX8 TX8 2] := rfl
  rw [e]
  exact List.forall_mem_cons.mpr ⟨gw_208, List.forall_mem_cons.mpr ⟨gw_210, List.forall_mem_cons.mpr ⟨gw_212, fun _ h => absurd h List.not_mem_nil⟩⟩⟩
theorem fl_X8_12 : FL RX8 12 8 0 "LFoldedArchive$Strip;" true := ⟨RX8, TX8, 3, tyX8, rfl, inG_X8, by decide, gw_202, tyX8_ok, nmX8, rfl, rfl⟩
theorem gw_520 : Cond.methodLink "FoldedArchive$State" 32 yX9_copyFrom ∈ GW := GW_t2 192 rfl rfl
theorem gw_521 : Cond.instanceMethod yX9_copyFrom ∈ GW := GW_t2 193 rfl rfl
theorem gw_522 : Cond.selects yX9_copyFrom.cls yX9_copyFrom yX9_copyFrom ∈ GW := GW_t2 194 rfl rfl
theorem cv_X8_32 : CV RX8 32 yX9_copyFrom cX9_copyFrom 2 none 1 := ⟨gw_520, gw_521, gw_522, gw_91, gw_523, by decide +kernel, by decide +kernel⟩
theorem gw_204 : Cond.fieldLink "FoldedArchive$State" 21 "FoldedArchive$State" "pile" "LFoldedArchive$Pile;" ∈ GW := GW_t1 116 rfl rfl
theorem fl_X8_21 : FL RX8 21 8 1 "LFoldedArchive$Pile;" true := ⟨RX8, TX8, 3, tyX8, rfl, inG_X8, by decide, gw_204, tyX8_ok, nmX8, rfl, rfl⟩
theorem gw_525 : Cond.methodLink "FoldedArchive$State" 36 yX4_copyFrom ∈ GW := GW_t2 197 rfl rfl
theorem cv_X8_36 : CV RX8 36 yX4_copyFrom cX4_copyFrom 2 none 1 := ⟨gw_525, gw_396, gw_397, gw_92, gw_398, by decide +kernel, by decide +kernel⟩
theorem gw_206 : Cond.fieldLink "FoldedArchive$State" 28 "FoldedArchive$State" "pipes" "LFoldedArchive$Pipes;" ∈ GW := GW_t1 118 rfl rfl
theorem fl_X8_28 : FL RX8 28 8 2 "LFoldedArchive$Pipes;" true := ⟨RX8, TX8, 3, tyX8, rfl, inG_X8, by decide, gw_206, tyX8_ok, nmX8, rfl, rfl⟩
theorem gw_526 : Cond.methodLink "FoldedArchive$State" 39 yX5_copyFrom ∈ GW := GW_t2 198 rfl rfl
theorem gw_527 : Cond.instanceMethod yX5_copyFrom ∈ GW := GW_t2 199 rfl rfl
theorem gw_528 : Cond.selects yX5_copyFrom.cls yX5_copyFrom yX5_copyFrom ∈ GW := GW_t2 200 rfl rfl
theorem cv_X8_39 : CV RX8 39 yX5_copyFrom cX5_copyFrom 2 none 1 := ⟨gw_526, gw_527, gw_528, gw_93, gw_529, by decide +kernel, by decide +kernel⟩
theorem gw_519 : Cond.code yX8_copyFrom cX8_copyFrom 2 none ∈ GW := GW_t2 191 rfl rfl
theorem gw_225 : Cond.fieldLink "FoldedArchive$History" 18 "FoldedArchive$History" "next" "I" ∈ GW := GW_t1 137 rfl rfl
theorem fl_X3_18 : FL RX3 18 3 1 "I" false := ⟨RX3, TX3, 3, tyX3, rfl, inG_X3, by decide, gw_225, tyX3_ok, nmX3, rfl, rfl⟩
theorem gw_728 : Cond.methodLink "FoldedArchive$History" 22 yX3_stateAt ∈ GW := GW_t3 160 rfl rfl
theorem gw_730 : Cond.instanceMethod yX3_stateAt ∈ GW := GW_t3 162 rfl rfl
theorem gw_14 : Cond.selects yX3_stateAt.cls yX3_stateAt yX3_stateAt ∈ GW := GW_pr 14 (q := (yX3_stateAt, 3)) rfl
theorem gw_94 : Cond.initialized "FoldedArchive$History" ∈ GW := GW_t1 6 rfl rfl
theorem cv_X3_22 : CV RX3 22 yX3_stateAt cX3_stateAt 2 (some (.object "FoldedArchive$State")) 1 := ⟨gw_728, gw_730, gw_14, gw_94, gw_731, by decide +kernel, by decide +kernel⟩
theorem gw_226 : Cond.fieldLink "FoldedArchive$History" 30 "FoldedArchive$History" "count" "I" ∈ GW := GW_t1 138 rfl rfl
theorem fl_X3_30 : FL RX3 30 3 2 "I" false := ⟨RX3, TX3, 3, tyX3, rfl, inG_X3, by decide, gw_226, tyX3_ok, nmX3, rfl, rfl⟩
theorem gw_733 : Cond.methodLink "FoldedArchive$History" 33 Lib.Math.min.name ∈ GW := GW_t3 165 rfl rfl
theorem gw_732 : Cond.methodLink "FoldedArchive$History" 26 yX8_copyFrom ∈ GW := GW_t3 164 rfl rfl
theorem gw_517 : Cond.instanceMethod yX8_copyFrom ∈ GW := GW_t2 189 rfl rfl
theorem gw_518 : Cond.selects yX8_copyFrom.cls yX8_copyFrom yX8_copyFrom ∈ GW := GW_t2 190 rfl rfl
theorem gw_90 : Cond.initialized "FoldedArchive$State" ∈ GW := GW_t1 2 rfl rfl
theorem cv_X3_26 : CV RX3 26 yX8_copyFrom cX8_copyFrom 2 none 1 := ⟨gw_732, gw_517, gw_518, gw_90, gw_519, by decide +kernel, by decide +kernel⟩
theorem gw_727 : Cond.code yX3_keep cX3_keep 3 none ∈ GW := GW_t3 159 rfl rfl
theorem gw_1418 : Cond.code yX3_takeBack cX3_takeBack 3 none ∈ GW := GW_t6 130 rfl rfl
theorem gw_1429 : Cond.code yX3_forget cX3_forget 1 none ∈ GW := GW_t6 141 rfl rfl
theorem gw_499 : Cond.code yX4_sectionAt cX4_sectionAt 3 (some .int) ∈ GW := GW_t2 171 rfl rfl
theorem gw_777 : Cond.code yX5_brokenCount cX5_brokenCount 3 (some .int) ∈ GW := GW_t3 209 rfl rfl
theorem gw_765 : Cond.code yX5_append cX5_append 4 (some .int) ∈ GW := GW_t3 197 rfl rfl
theorem gw_769 : Cond.code yX5_remove cX5_remove 3 (some .int) ∈ GW := GW_t3 201 rfl rfl
theorem gw_774 : Cond.methodLink "FoldedArchive$Pipes" 39 yX5_brokenCount ∈ GW := GW_t3 206 rfl rfl
theorem gw_775 : Cond.instanceMethod yX5_brokenCount ∈ GW := GW_t3 207 rfl rfl
theorem gw_776 : Cond.selects yX5_brokenCount.cls yX5_brokenCount yX5_brokenCount ∈ GW := GW_t3 208 rfl rfl
theorem cv_X5_39 : CV RX5 39 yX5_brokenCount cX5_brokenCount 3 (some .int) 0 := ⟨gw_774, gw_775, gw_776, gw_93, gw_777, by decide +kernel, by decide +kernel⟩
theorem gw_773 : Cond.code yX5_setBroken cX5_setBroken 3 (some .int) ∈ GW := GW_t3 205 rfl rfl
theorem gw_1166 : Cond.code yX6_isFull cX6_isFull 1 (some .boolean) ∈ GW := GW_t5 118 rfl rfl
theorem gw_507 : Cond.code yX6_put cX6_put 2 none ∈ GW := GW_t2 179 rfl rfl
theorem gw_504 : Cond.methodLink "FoldedArchive$Row" 25 yX6_put ∈ GW := GW_t2 176 rfl rfl
theorem gw_505 : Cond.instanceMethod yX6_put ∈ GW := GW_t2 177 rfl rfl
theorem gw_506 : Cond.selects yX6_put.cls yX6_put yX6_put ∈ GW := GW_t2 178 rfl rfl
theorem cv_X6_25 : CV RX6 25 yX6_put cX6_put 2 none 1 := ⟨gw_504, gw_505, gw_506, gw_97, gw_507, by decide +kernel, by decide +kernel⟩
theorem gw_503 : Cond.code yX6_putNumber cX6_putNumber 2 none ∈ GW := GW_t2 175 rfl rfl
theorem gw_491 : Cond.code yX6_empty cX6_empty 1 none ∈ GW := GW_t2 163 rfl rfl
theorem gw_557 : Cond.code yX9_has cX9_has 2 (some .boolean) ∈ GW := GW_t2 229 rfl rfl
theorem gw_577 : Cond.methodLink "FoldedArchive$Strip" 34 yX9_isTerm ∈ GW := GW_t3 9 rfl rfl
theorem cs_X9_34 : CS RX9 34 yX9_isTerm cX9_isTerm 1 (some .boolean) 1 := ⟨gw_577, gw_568, gw_91, gw_569, by decide +kernel, by decide +kernel⟩
theorem gw_576 : Cond.code yX9_bitOf cX9_bitOf 1 (some .int) ∈ GW := GW_t3 8 rfl rfl
theorem gw_562 : Cond.methodLink "FoldedArchive$Strip" 38 yX9_has ∈ GW := GW_t2 234 rfl rfl
theorem gw_555 : Cond.instanceMethod yX9_has ∈ GW := GW_t2 227 rfl rfl
theorem gw_556 : Cond.selects yX9_has.cls yX9_has yX9_has ∈ GW := GW_t2 228 rfl rfl
theorem cv_X9_38 : CV RX9 38 yX9_has cX9_has 2 (some .boolean) 1 := ⟨gw_562, gw_555, gw_556, gw_91, gw_557, by decide +kernel, by decide +kernel⟩
theorem gw_574 : Cond.methodLink "FoldedArchive$Strip" 47 yX9_bitOf ∈ GW := GW_t3 6 rfl rfl
theorem gw_575 : Cond.static yX9_bitOf ∈ GW := GW_t3 7 rfl rfl
theorem cs_X9_47 : CS RX9 47 yX9_bitOf cX9_bitOf 1 (some .int) 1 := ⟨gw_574, gw_575, gw_91, gw_576, by decide +kernel, by decide +kernel⟩
theorem gw_573 : Cond.code yX9_bears cX9_bears 3 (some .boolean) ∈ GW := GW_t3 5 rfl rfl
theorem gw_936 : Cond.methodLink "FoldedArchive$Strip" 50 yX9_bears ∈ GW := GW_t4 128 rfl rfl
theorem gw_571 : Cond.instanceMethod yX9_bears ∈ GW := GW_t3 3 rfl rfl
theorem gw_572 : Cond.selects yX9_bears.cls yX9_bears yX9_bears ∈ GW := GW_t3 4 rfl rfl
theorem cv_X9_50 : CV RX9 50 yX9_bears cX9_bears 3 (some .boolean) 2 := ⟨gw_936, gw_571, gw_572, gw_91, gw_573, by decide +kernel, by decide +kernel⟩
theorem gw_935 : Cond.code yX9_bearersOf cX9_bearersOf 4 (some .int) ∈ GW := GW_t4 127 rfl rfl
theorem gw_139 : Cond.fieldLink "FoldedArchive$SearchReader" 15 "FoldedArchive$Strip" "count" "I" ∈ GW := GW_t1 51 rfl rfl
theorem fl_X7_15 : FL RX7 15 9 0 "I" false := ⟨RX9, TX9, 5, tyX9, rfl, inG_X9, by decide, gw_139, tyX9_ok, nmX9, rfl, rfl⟩
theorem gw_293 : Cond.fieldLink "FoldedArchive$SearchReader" 21 "FoldedArchive$SearchReader" "everything" "I" ∈ GW := GW_t1 205 rfl rfl
theorem gw_297 : Cond.laysFinal "FoldedArchive$SearchReader" "FoldedArchive$SearchReader" "bearers" "[I" ∈ GW := GW_t1 209 rfl rfl
theorem gw_299 : Cond.lays "FoldedArchive$SearchReader" "FoldedArchive$SearchReader" "everything" "I" ∈ GW := GW_t1 211 rfl rfl
theorem gw_301 : Cond.lays "FoldedArchive$SearchReader" "FoldedArchive$SearchReader" "position" "I" ∈ GW := GW_t1 213 rfl rfl
theorem gw_303 : Cond.lays "FoldedArchive$SearchReader" "FoldedArchive$SearchReader" "fault" "I" ∈ GW := GW_t1 215 rfl rfl
theorem inG_X7 : ∀ w ∈ u_ws RX7 TX7 4, w ∈ GW := by
  have e : u_ws RX7 TX7 4 = [u_lay RX7 TX7 0, u_lay RX7 TX7 1, u_lay RX7 TX7 2, u_lay RX7 TX7 3] := rfl
  rw [e]
  exact List.forall_mem_cons.mpr ⟨gw_297, List.forall_mem_cons.mpr ⟨gw_299, List.forall_mem_cons.mpr ⟨gw_301, List.forall_mem_cons.mpr ⟨gw_303, fun _ h => absurd h List.not_mem_nil⟩⟩⟩⟩
theorem fl_X7_21 : FL RX7 21 7 1 "I" false := ⟨RX7, TX7, 4, tyX7, rfl, inG_X7, by decide, gw_293, tyX7_ok, nmX7, rfl, rfl⟩
theorem tt_136 : TT[136]? = some (0, 7, [some 137, none, none, none]) := by decide +kernel
theorem gw_292 : Cond.fieldLink "FoldedArchive$SearchReader" 9 "FoldedArchive$SearchReader" "bearers" "[I" ∈ GW := GW_t1 204 rfl rfl
theorem fl_X7_9 : FL RX7 9 7 0 "[I" true := ⟨RX7, TX7, 4, tyX7, rfl, inG_X7, by decide, gw_292, tyX7_ok, nmX7, rfl, rfl⟩
theorem gw_1194 : Cond.methodLink "FoldedArchive$SearchReader" 24 yX9_bearersOf ∈ GW := GW_t5 146 rfl rfl
theorem gw_933 : Cond.instanceMethod yX9_bearersOf ∈ GW := GW_t4 125 rfl rfl
theorem gw_934 : Cond.selects yX9_bearersOf.cls yX9_bearersOf yX9_bearersOf ∈ GW := GW_t4 126 rfl rfl
theorem cv_X7_24 : CV RX7 24 yX9_bearersOf cX9_bearersOf 4 (some .int) 1 := ⟨gw_1194, gw_933, gw_934, gw_91, gw_935, by decide +kernel, by decide +kernel⟩
theorem tt_137 : TT[137]? = some (1, 8, []) := by decide +kernel
theorem gw_1193 : Cond.code yX7_askForAll cX7_askForAll 3 none ∈ GW := GW_t5 145 rfl rfl
theorem gw_1242 : Cond.methodLink "FoldedArchive$SearchReader" 28 yX9_bears ∈ GW := GW_t5 194 rfl rfl
theorem cv_X7_28 : CV RX7 28 yX9_bears cX9_bears 3 (some .boolean) 2 := ⟨gw_1242, gw_571, gw_572, gw_91, gw_573, by decide +kernel, by decide +kernel⟩
theorem gw_1241 : Cond.code yX7_askForOne cX7_askForOne 4 none ∈ GW := GW_t5 193 rfl rfl
theorem gw_1223 : Cond.code yX7_bearersOf cX7_bearersOf 3 (some .int) ∈ GW := GW_t5 175 rfl rfl
theorem gw_294 : Cond.fieldLink "FoldedArchive$SearchReader" 32 "FoldedArchive$SearchReader" "position" "I" ∈ GW := GW_t1 206 rfl rfl
theorem fl_X7_32 : FL RX7 32 7 2 "I" false := ⟨RX7, TX7, 4, tyX7, rfl, inG_X7, by decide, gw_294, tyX7_ok, nmX7, rfl, rfl⟩
theorem gw_1211 : Cond.methodLink "FoldedArchive$SearchReader" 50 yX6_at ∈ GW := GW_t5 163 rfl rfl
theorem cv_X7_50 : CV RX7 50 yX6_at cX6_at 2 (some .char) 1 := ⟨gw_1211, gw_1212, gw_1213, gw_97, gw_1214, by decide +kernel, by decide +kernel⟩
theorem gw_1219 : Cond.methodLink "FoldedArchive$SearchReader" 61 yX9_isTerm ∈ GW := GW_t5 171 rfl rfl
theorem cs_X7_61 : CS RX7 61 yX9_isTerm cX9_isTerm 1 (some .boolean) 1 := ⟨gw_1219, gw_568, gw_91, gw_569, by decide +kernel, by decide +kernel⟩
theorem gw_295 : Cond.fieldLink "FoldedArchive$SearchReader" 35 "FoldedArchive$SearchReader" "fault" "I" ∈ GW := GW_t1 207 rfl rfl
theorem fl_X7_35 : FL RX7 35 7 3 "I" false := ⟨RX7, TX7, 4, tyX7, rfl, inG_X7, by decide, gw_295, tyX7_ok, nmX7, rfl, rfl⟩
theorem gw_1199 : Cond.methodLink "FoldedArchive$SearchReader" 38 yX7_readSum ∈ GW := GW_t5 151 rfl rfl
theorem gw_1201 : Cond.instanceMethod yX7_readSum ∈ GW := GW_t5 153 rfl rfl
theorem gw_29 : Cond.selects yX7_readSum.cls yX7_readSum yX7_readSum ∈ GW := GW_pr 29 (q := (yX7_readSum, 4)) rfl
theorem gw_99 : Cond.initialized "FoldedArchive$SearchReader" ∈ GW := GW_t1 11 rfl rfl
theorem gw_1202 : Cond.code yX7_readSum cX7_readSum 5 (some .int) ∈ GW := GW_t5 154 rfl rfl
theorem cv_X7_38 : CV RX7 38 yX7_readSum cX7_readSum 5 (some .int) 2 := ⟨gw_1199, gw_1201, gw_29, gw_99, gw_1202, by decide +kernel, by decide +kernel⟩
theorem gw_1220 : Cond.methodLink "FoldedArchive$SearchReader" 68 yX7_bearersOf ∈ GW := GW_t5 172 rfl rfl
theorem gw_1222 : Cond.instanceMethod yX7_bearersOf ∈ GW := GW_t5 174 rfl rfl
theorem gw_33 : Cond.selects yX7_bearersOf.cls yX7_bearersOf yX7_bearersOf ∈ GW := GW_pr 33 (q := (yX7_bearersOf, 4)) rfl
theorem cv_X7_68 : CV RX7 68 yX7_bearersOf cX7_bearersOf 3 (some .int) 1 := ⟨gw_1220, gw_1222, gw_33, gw_99, gw_1223, by decide +kernel, by decide +kernel⟩
theorem gw_1218 : Cond.code yX7_readPlainFactor cX7_readPlainFactor 5 (some .int) ∈ GW := GW_t5 170 rfl rfl
theorem gw_1215 : Cond.methodLink "FoldedArchive$SearchReader" 65 yX7_readPlainFactor ∈ GW := GW_t5 167 rfl rfl
theorem gw_1217 : Cond.instanceMethod yX7_readPlainFactor ∈ GW := GW_t5 169 rfl rfl
theorem gw_32 : Cond.selects yX7_readPlainFactor.cls yX7_readPlainFactor yX7_readPlainFactor ∈ GW := GW_pr 32 (q := (yX7_readPlainFactor, 4)) rfl
theorem cv_X7_65 : CV RX7 65 yX7_readPlainFactor cX7_readPlainFactor 5 (some .int) 2 := ⟨gw_1215, gw_1217, gw_32, gw_99, gw_1218, by decide +kernel, by decide +kernel⟩
theorem gw_1210 : Cond.code yX7_readFactor cX7_readFactor 5 (some .int) ∈ GW := GW_t5 162 rfl rfl
theorem gw_1226 : Cond.code yX7_startsFactor cX7_startsFactor 1 (some .boolean) ∈ GW := GW_t5 178 rfl rfl
theorem gw_1207 : Cond.methodLink "FoldedArchive$SearchReader" 54 yX7_readFactor ∈ GW := GW_t5 159 rfl rfl
theorem gw_1209 : Cond.instanceMethod yX7_readFactor ∈ GW := GW_t5 161 rfl rfl
theorem gw_31 : Cond.selects yX7_readFactor.cls yX7_readFactor yX7_readFactor ∈ GW := GW_pr 31 (q := (yX7_readFactor, 4)) rfl
theorem cv_X7_54 : CV RX7 54 yX7_readFactor cX7_readFactor 5 (some .int) 2 := ⟨gw_1207, gw_1209, gw_31, gw_99, gw_1210, by decide +kernel, by decide +kernel⟩
theorem gw_1224 : Cond.methodLink "FoldedArchive$SearchReader" 57 yX7_startsFactor ∈ GW := GW_t5 176 rfl rfl
theorem gw_1225 : Cond.static yX7_startsFactor ∈ GW := GW_t5 177 rfl rfl
theorem cs_X7_57 : CS RX7 57 yX7_startsFactor cX7_startsFactor 1 (some .boolean) 1 := ⟨gw_1224, gw_1225, gw_99, gw_1226, by decide +kernel, by decide +kernel⟩
theorem gw_1206 : Cond.code yX7_readProduct cX7_readProduct 5 (some .int) ∈ GW := GW_t5 158 rfl rfl
theorem gw_1203 : Cond.methodLink "FoldedArchive$SearchReader" 47 yX7_readProduct ∈ GW := GW_t5 155 rfl rfl
theorem gw_1205 : Cond.instanceMethod yX7_readProduct ∈ GW := GW_t5 157 rfl rfl
theorem gw_30 : Cond.selects yX7_readProduct.cls yX7_readProduct yX7_readProduct ∈ GW := GW_pr 30 (q := (yX7_readProduct, 4)) rfl
theorem cv_X7_47 : CV RX7 47 yX7_readProduct cX7_readProduct 5 (some .int) 2 := ⟨gw_1203, gw_1205, gw_30, gw_99, gw_1206, by decide +kernel, by decide +kernel⟩
theorem gw_277 : Cond.fieldLink "FoldedArchive$SearchReader" 42 "FoldedArchive$Row" "length" "I" ∈ GW := GW_t1 189 rfl rfl
theorem fl_X7_42 : FL RX7 42 6 1 "I" false := ⟨RX6, TX6, 2, tyX6, rfl, inG_X6, by decide, gw_277, tyX6_ok, nmX6, rfl, rfl⟩
theorem gw_1198 : Cond.code yX7_read cX7_read 3 (some .int) ∈ GW := GW_t5 150 rfl rfl
theorem gw_549 : Cond.code yX8_denied cX8_denied 2 (some .int) ∈ GW := GW_t2 221 rfl rfl
theorem gw_561 : Cond.code yX9_waterOf cX9_waterOf 2 (some .int) ∈ GW := GW_t2 233 rfl rfl
theorem gw_554 : Cond.methodLink "FoldedArchive$State" 80 yX9_has ∈ GW := GW_t2 226 rfl rfl
theorem cv_X8_80 : CV RX8 80 yX9_has cX9_has 2 (some .boolean) 1 := ⟨gw_554, gw_555, gw_556, gw_91, gw_557, by decide +kernel, by decide +kernel⟩
theorem gw_558 : Cond.methodLink "FoldedArchive$State" 81 yX9_waterOf ∈ GW := GW_t2 230 rfl rfl
theorem gw_559 : Cond.instanceMethod yX9_waterOf ∈ GW := GW_t2 231 rfl rfl
theorem gw_560 : Cond.selects yX9_waterOf.cls yX9_waterOf yX9_waterOf ∈ GW := GW_t2 232 rfl rfl
theorem cv_X8_81 : CV RX8 81 yX9_waterOf cX9_waterOf 2 (some .int) 1 := ⟨gw_558, gw_559, gw_560, gw_91, gw_561, by decide +kernel, by decide +kernel⟩
theorem gw_547 : Cond.methodLink "FoldedArchive$State" 46 yX8_denied ∈ GW := GW_t2 219 rfl rfl
theorem gw_548 : Cond.static yX8_denied ∈ GW := GW_t2 220 rfl rfl
theorem cs_X8_46 : CS RX8 46 yX8_denied cX8_denied 2 (some .int) 2 := ⟨gw_547, gw_548, gw_90, gw_549, by decide +kernel, by decide +kernel⟩
theorem gw_553 : Cond.code yX8_judgePour cX8_judgePour 3 (some .int) ∈ GW := GW_t2 225 rfl rfl
theorem gw_585 : Cond.constant "java/lang/Integer" 265 1431655765 ∈ GW := GW_t3 17 rfl rfl
theorem gw_586 : Cond.constant "java/lang/Integer" 266 858993459 ∈ GW := GW_t3 18 rfl rfl
theorem gw_587 : Cond.constant "java/lang/Integer" 267 252645135 ∈ GW := GW_t3 19 rfl rfl
theorem gw_584 : Cond.code yJ6_bitCount_0f7a4 cJ6_bitCount_0f7a4 1 (some .int) ∈ GW := GW_t3 16 rfl rfl
theorem gw_582 : Cond.methodLink "FoldedArchive$Strip" 41 yJ6_bitCount_0f7a4 ∈ GW := GW_t3 14 rfl rfl
theorem gw_583 : Cond.static yJ6_bitCount_0f7a4 ∈ GW := GW_t3 15 rfl rfl
theorem gw_102 : Cond.initialized "java/lang/Integer" ∈ GW := GW_t1 14 rfl rfl
theorem cs_X9_41 : CS RX9 41 yJ6_bitCount_0f7a4 cJ6_bitCount_0f7a4 1 (some .int) 1 := ⟨gw_582, gw_583, gw_102, gw_584, by decide +kernel, by decide +kernel⟩
theorem gw_581 : Cond.code yX9_termCountOf cX9_termCountOf 2 (some .int) ∈ GW := GW_t3 13 rfl rfl
theorem gw_567 : Cond.methodLink "FoldedArchive$State" 84 yX9_isTerm ∈ GW := GW_t2 239 rfl rfl
theorem cs_X8_84 : CS RX8 84 yX9_isTerm cX9_isTerm 1 (some .boolean) 1 := ⟨gw_567, gw_568, gw_91, gw_569, by decide +kernel, by decide +kernel⟩
theorem gw_570 : Cond.methodLink "FoldedArchive$State" 87 yX9_bears ∈ GW := GW_t3 2 rfl rfl
theorem cv_X8_87 : CV RX8 87 yX9_bears cX9_bears 3 (some .boolean) 2 := ⟨gw_570, gw_571, gw_572, gw_91, gw_573, by decide +kernel, by decide +kernel⟩
theorem gw_578 : Cond.methodLink "FoldedArchive$State" 91 yX9_termCountOf ∈ GW := GW_t3 10 rfl rfl
theorem gw_579 : Cond.instanceMethod yX9_termCountOf ∈ GW := GW_t3 11 rfl rfl
theorem gw_580 : Cond.selects yX9_termCountOf.cls yX9_termCountOf yX9_termCountOf ∈ GW := GW_t3 12 rfl rfl
theorem cv_X8_91 : CV RX8 91 yX9_termCountOf cX9_termCountOf 2 (some .int) 1 := ⟨gw_578, gw_579, gw_580, gw_91, gw_581, by decide +kernel, by decide +kernel⟩
theorem gw_566 : Cond.code yX8_judgeTerm cX8_judgeTerm 4 (some .int) ∈ GW := GW_t2 238 rfl rfl
theorem gw_168 : Cond.fieldLink "FoldedArchive$State" 77 "FoldedArchive$Pile" "folded" "I" ∈ GW := GW_t1 80 rfl rfl
theorem fl_X8_77 : FL RX8 77 4 0 "I" false := ⟨RX4, TX4, 2, tyX4, rfl, inG_X4, by decide, gw_168, tyX4_ok, nmX4, rfl, rfl⟩
theorem gw_140 : Cond.fieldLink "FoldedArchive$State" 42 "FoldedArchive$Strip" "count" "I" ∈ GW := GW_t1 52 rfl rfl
theorem fl_X8_42 : FL RX8 42 9 0 "I" false := ⟨RX9, TX9, 5, tyX9, rfl, inG_X9, by decide, gw_140, tyX9_ok, nmX9, rfl, rfl⟩
theorem gw_592 : Cond.methodLink "FoldedArchive$State" 94 yX4_creaseCrossedAt ∈ GW := GW_t3 24 rfl rfl
theorem cv_X8_94 : CV RX8 94 yX4_creaseCrossedAt cX4_creaseCrossedAt 7 (some .int) 1 := ⟨gw_592, gw_410, gw_411, gw_92, gw_412, by decide +kernel, by decide +kernel⟩
theorem gw_591 : Cond.code yX8_judgeFold cX8_judgeFold 3 (some .int) ∈ GW := GW_t3 23 rfl rfl
theorem gw_184 : Cond.fieldLink "FoldedArchive$State" 97 "FoldedArchive$Pipes" "count" "I" ∈ GW := GW_t1 96 rfl rfl
theorem fl_X8_97 : FL RX8 97 5 0 "I" false := ⟨RX5, TX5, 5, tyX5, rfl, inG_X5, by decide, gw_184, tyX5_ok, nmX5, rfl, rfl⟩
theorem gw_596 : Cond.code yX8_judgePipe cX8_judgePipe 4 (some .int) ∈ GW := GW_t3 28 rfl rfl
theorem gw_597 : Cond.methodLink "FoldedArchive$State" 65 yX5_has ∈ GW := GW_t3 29 rfl rfl
theorem cv_X8_65 : CV RX8 65 yX5_has cX5_has 2 (some .boolean) 1 := ⟨gw_597, gw_598, gw_599, gw_93, gw_600, by decide +kernel, by decide +kernel⟩
theorem gw_605 : Cond.methodLink "FoldedArchive$State" 98 yX5_brokenAt ∈ GW := GW_t3 37 rfl rfl
theorem cv_X8_98 : CV RX8 98 yX5_brokenAt cX5_brokenAt 2 (some .boolean) 1 := ⟨gw_605, gw_606, gw_607, gw_93, gw_608, by decide +kernel, by decide +kernel⟩
theorem gw_610 : Cond.methodLink "FoldedArchive$State" 101 yX5_widthOf ∈ GW := GW_t3 42 rfl rfl
theorem cv_X8_101 : CV RX8 101 yX5_widthOf cX5_widthOf 2 (some .int) 1 := ⟨gw_610, gw_611, gw_612, gw_93, gw_613, by decide +kernel, by decide +kernel⟩
theorem gw_604 : Cond.code yX8_judgeBroken cX8_judgeBroken 3 (some .int) ∈ GW := GW_t3 36 rfl rfl
theorem gw_617 : Cond.code yX8_judgeEnds cX8_judgeEnds 1 (some .int) ∈ GW := GW_t3 49 rfl rfl
theorem gw_550 : Cond.methodLink "FoldedArchive$State" 50 yX8_judgePour ∈ GW := GW_t2 222 rfl rfl
theorem gw_552 : Cond.instanceMethod yX8_judgePour ∈ GW := GW_t2 224 rfl rfl
theorem gw_7 : Cond.selects yX8_judgePour.cls yX8_judgePour yX8_judgePour ∈ GW := GW_pr 7 (q := (yX8_judgePour, 3)) rfl
theorem cv_X8_50 : CV RX8 50 yX8_judgePour cX8_judgePour 3 (some .int) 2 := ⟨gw_550, gw_552, gw_7, gw_90, gw_553, by decide +kernel, by decide +kernel⟩
theorem gw_563 : Cond.methodLink "FoldedArchive$State" 53 yX8_judgeTerm ∈ GW := GW_t2 235 rfl rfl
theorem gw_565 : Cond.instanceMethod yX8_judgeTerm ∈ GW := GW_t2 237 rfl rfl
theorem gw_8 : Cond.selects yX8_judgeTerm.cls yX8_judgeTerm yX8_judgeTerm ∈ GW := GW_pr 8 (q := (yX8_judgeTerm, 3)) rfl
theorem cv_X8_53 : CV RX8 53 yX8_judgeTerm cX8_judgeTerm 4 (some .int) 3 := ⟨gw_563, gw_565, gw_8, gw_90, gw_566, by decide +kernel, by decide +kernel⟩
theorem gw_588 : Cond.methodLink "FoldedArchive$State" 57 yX8_judgeFold ∈ GW := GW_t3 20 rfl rfl
theorem gw_589 : Cond.instanceMethod yX8_judgeFold ∈ GW := GW_t3 21 rfl rfl
theorem gw_590 : Cond.selects yX8_judgeFold.cls yX8_judgeFold yX8_judgeFold ∈ GW := GW_t3 22 rfl rfl
theorem cv_X8_57 : CV RX8 57 yX8_judgeFold cX8_judgeFold 3 (some .int) 1 := ⟨gw_588, gw_589, gw_590, gw_90, gw_591, by decide +kernel, by decide +kernel⟩
theorem gw_593 : Cond.methodLink "FoldedArchive$State" 61 yX8_judgePipe ∈ GW := GW_t3 25 rfl rfl
theorem gw_595 : Cond.instanceMethod yX8_judgePipe ∈ GW := GW_t3 27 rfl rfl
theorem gw_9 : Cond.selects yX8_judgePipe.cls yX8_judgePipe yX8_judgePipe ∈ GW := GW_pr 9 (q := (yX8_judgePipe, 3)) rfl
theorem cv_X8_61 : CV RX8 61 yX8_judgePipe cX8_judgePipe 4 (some .int) 3 := ⟨gw_593, gw_595, gw_9, gw_90, gw_596, by decide +kernel, by decide +kernel⟩
theorem gw_601 : Cond.methodLink "FoldedArchive$State" 69 yX8_judgeBroken ∈ GW := GW_t3 33 rfl rfl
theorem gw_603 : Cond.instanceMethod yX8_judgeBroken ∈ GW := GW_t3 35 rfl rfl
theorem gw_10 : Cond.selects yX8_judgeBroken.cls yX8_judgeBroken yX8_judgeBroken ∈ GW := GW_pr 10 (q := (yX8_judgeBroken, 3)) rfl
theorem cv_X8_69 : CV RX8 69 yX8_judgeBroken cX8_judgeBroken 3 (some .int) 2 := ⟨gw_601, gw_603, gw_10, gw_90, gw_604, by decide +kernel, by decide +kernel⟩
theorem gw_614 : Cond.methodLink "FoldedArchive$State" 73 yX8_judgeEnds ∈ GW := GW_t3 46 rfl rfl
theorem gw_615 : Cond.instanceMethod yX8_judgeEnds ∈ GW := GW_t3 47 rfl rfl
theorem gw_616 : Cond.selects yX8_judgeEnds.cls yX8_judgeEnds yX8_judgeEnds ∈ GW := GW_t3 48 rfl rfl
theorem cv_X8_73 : CV RX8 73 yX8_judgeEnds cX8_judgeEnds 1 (some .int) 0 := ⟨gw_614, gw_615, gw_616, gw_90, gw_617, by decide +kernel, by decide +kernel⟩
theorem gw_546 : Cond.code yX8_judge cX8_judge 5 (some .int) ∈ GW := GW_t2 218 rfl rfl
theorem gw_741 : Cond.code yX9_append cX9_append 1 (some .int) ∈ GW := GW_t3 173 rfl rfl
theorem gw_749 : Cond.code yX9_add cX9_add 3 none ∈ GW := GW_t3 181 rfl rfl
theorem gw_746 : Cond.methodLink "FoldedArchive$Strip" 57 yX9_add ∈ GW := GW_t3 178 rfl rfl
theorem gw_748 : Cond.instanceMethod yX9_add ∈ GW := GW_t3 180 rfl rfl
theorem gw_15 : Cond.selects yX9_add.cls yX9_add yX9_add ∈ GW := GW_pr 15 (q := (yX9_add, 5)) rfl
theorem cv_X9_57 : CV RX9 57 yX9_add cX9_add 3 none 2 := ⟨gw_746, gw_748, gw_15, gw_91, gw_749, by decide +kernel, by decide +kernel⟩
theorem gw_750 : Cond.methodLink "FoldedArchive$Strip" 61 yX9_waterOf ∈ GW := GW_t3 182 rfl rfl
theorem cv_X9_61 : CV RX9 61 yX9_waterOf cX9_waterOf 2 (some .int) 1 := ⟨gw_750, gw_559, gw_560, gw_91, gw_561, by decide +kernel, by decide +kernel⟩
theorem gw_745 : Cond.code yX9_receivePoured cX9_receivePoured 3 (some .int) ∈ GW := GW_t3 177 rfl rfl
theorem gw_755 : Cond.methodLink "FoldedArchive$Strip" 54 yX9_termCountOf ∈ GW := GW_t3 187 rfl rfl
theorem cv_X9_54 : CV RX9 54 yX9_termCountOf cX9_termCountOf 2 (some .int) 1 := ⟨gw_755, gw_579, gw_580, gw_91, gw_581, by decide +kernel, by decide +kernel⟩
theorem gw_754 : Cond.code yX9_giveTerm cX9_giveTerm 3 (some .int) ∈ GW := GW_t3 186 rfl rfl
theorem gw_759 : Cond.code yX9_takeTerm cX9_takeTerm 3 (some .int) ∈ GW := GW_t3 191 rfl rfl
theorem gw_829 : Cond.code yX9_give cX9_give 3 none ∈ GW := GW_t4 21 rfl rfl
theorem gw_834 : Cond.methodLink "FoldedArchive$Strip" 64 Lib.Math.min.name ∈ GW := GW_t4 26 rfl rfl
theorem gw_833 : Cond.code yX9_receive cX9_receive 4 (some .int) ∈ GW := GW_t4 25 rfl rfl
theorem gw_838 : Cond.code yX9_leak cX9_leak 2 none ∈ GW := GW_t4 30 rfl rfl
theorem gw_824 : Cond.methodLink "FoldedArchive$State" 142 Lib.Math.min.name ∈ GW := GW_t4 16 rfl rfl
theorem gw_825 : Cond.methodLink "FoldedArchive$State" 147 yX5_brokenCount ∈ GW := GW_t4 17 rfl rfl
theorem cv_X8_147 : CV RX8 147 yX5_brokenCount cX5_brokenCount 3 (some .int) 0 := ⟨gw_825, gw_775, gw_776, gw_93, gw_777, by decide +kernel, by decide +kernel⟩
theorem gw_826 : Cond.methodLink "FoldedArchive$State" 150 yX9_give ∈ GW := GW_t4 18 rfl rfl
theorem gw_827 : Cond.instanceMethod yX9_give ∈ GW := GW_t4 19 rfl rfl
theorem gw_828 : Cond.selects yX9_give.cls yX9_give yX9_give ∈ GW := GW_t4 20 rfl rfl
theorem cv_X8_150 : CV RX8 150 yX9_give cX9_give 3 none 2 := ⟨gw_826, gw_827, gw_828, gw_91, gw_829, by decide +kernel, by decide +kernel⟩
theorem gw_830 : Cond.methodLink "FoldedArchive$State" 154 yX9_receive ∈ GW := GW_t4 22 rfl rfl
theorem gw_831 : Cond.instanceMethod yX9_receive ∈ GW := GW_t4 23 rfl rfl
theorem gw_832 : Cond.selects yX9_receive.cls yX9_receive yX9_receive ∈ GW := GW_t4 24 rfl rfl
theorem cv_X8_154 : CV RX8 154 yX9_receive cX9_receive 4 (some .int) 2 := ⟨gw_830, gw_831, gw_832, gw_91, gw_833, by decide +kernel, by decide +kernel⟩
theorem gw_835 : Cond.methodLink "FoldedArchive$State" 157 yX9_leak ∈ GW := GW_t4 27 rfl rfl
theorem gw_836 : Cond.instanceMethod yX9_leak ∈ GW := GW_t4 28 rfl rfl
theorem gw_837 : Cond.selects yX9_leak.cls yX9_leak yX9_leak ∈ GW := GW_t4 29 rfl rfl
theorem cv_X8_157 : CV RX8 157 yX9_leak cX9_leak 2 none 1 := ⟨gw_835, gw_836, gw_837, gw_91, gw_838, by decide +kernel, by decide +kernel⟩
theorem gw_823 : Cond.code yX8_moveAlongPipes cX8_moveAlongPipes 4 (some .int) ∈ GW := GW_t4 15 rfl rfl
theorem gw_843 : Cond.methodLink "FoldedArchive$State" 161 yX4_sectionAt ∈ GW := GW_t4 35 rfl rfl
theorem gw_497 : Cond.instanceMethod yX4_sectionAt ∈ GW := GW_t2 169 rfl rfl
theorem gw_498 : Cond.selects yX4_sectionAt.cls yX4_sectionAt yX4_sectionAt ∈ GW := GW_t2 170 rfl rfl
theorem cv_X8_161 : CV RX8 161 yX4_sectionAt cX4_sectionAt 3 (some .int) 1 := ⟨gw_843, gw_497, gw_498, gw_92, gw_499, by decide +kernel, by decide +kernel⟩
theorem gw_842 : Cond.code yX8_moveDownPile cX8_moveDownPile 5 (some .int) ∈ GW := GW_t4 34 rfl rfl
theorem gw_738 : Cond.methodLink "FoldedArchive$State" 104 yX9_append ∈ GW := GW_t3 170 rfl rfl
theorem gw_739 : Cond.instanceMethod yX9_append ∈ GW := GW_t3 171 rfl rfl
theorem gw_740 : Cond.selects yX9_append.cls yX9_append yX9_append ∈ GW := GW_t3 172 rfl rfl
theorem cv_X8_104 : CV RX8 104 yX9_append cX9_append 1 (some .int) 0 := ⟨gw_738, gw_739, gw_740, gw_91, gw_741, by decide +kernel, by decide +kernel⟩
theorem gw_742 : Cond.methodLink "FoldedArchive$State" 107 yX9_receivePoured ∈ GW := GW_t3 174 rfl rfl
theorem gw_743 : Cond.instanceMethod yX9_receivePoured ∈ GW := GW_t3 175 rfl rfl
theorem gw_744 : Cond.selects yX9_receivePoured.cls yX9_receivePoured yX9_receivePoured ∈ GW := GW_t3 176 rfl rfl
theorem cv_X8_107 : CV RX8 107 yX9_receivePoured cX9_receivePoured 3 (some .int) 2 := ⟨gw_742, gw_743, gw_744, gw_91, gw_745, by decide +kernel, by decide +kernel⟩
theorem gw_751 : Cond.methodLink "FoldedArchive$State" 110 yX9_giveTerm ∈ GW := GW_t3 183 rfl rfl
theorem gw_752 : Cond.instanceMethod yX9_giveTerm ∈ GW := GW_t3 184 rfl rfl
theorem gw_753 : Cond.selects yX9_giveTerm.cls yX9_giveTerm yX9_giveTerm ∈ GW := GW_t3 185 rfl rfl
theorem cv_X8_110 : CV RX8 110 yX9_giveTerm cX9_giveTerm 3 (some .int) 2 := ⟨gw_751, gw_752, gw_753, gw_91, gw_754, by decide +kernel, by decide +kernel⟩
theorem gw_756 : Cond.methodLink "FoldedArchive$State" 113 yX9_takeTerm ∈ GW := GW_t3 188 rfl rfl
theorem gw_757 : Cond.instanceMethod yX9_takeTerm ∈ GW := GW_t3 189 rfl rfl
theorem gw_758 : Cond.selects yX9_takeTerm.cls yX9_takeTerm yX9_takeTerm ∈ GW := GW_t3 190 rfl rfl
theorem cv_X8_113 : CV RX8 113 yX9_takeTerm cX9_takeTerm 3 (some .int) 2 := ⟨gw_756, gw_757, gw_758, gw_91, gw_759, by decide +kernel, by decide +kernel⟩
theorem gw_760 : Cond.methodLink "FoldedArchive$State" 116 yX4_insert ∈ GW := GW_t3 192 rfl rfl
theorem cv_X8_116 : CV RX8 116 yX4_insert cX4_insert 3 (some .int) 1 := ⟨gw_760, gw_427, gw_428, gw_92, gw_429, by decide +kernel, by decide +kernel⟩
theorem gw_761 : Cond.methodLink "FoldedArchive$State" 119 yX4_removeLast ∈ GW := GW_t3 193 rfl rfl
theorem cv_X8_119 : CV RX8 119 yX4_removeLast cX4_removeLast 3 (some .int) 0 := ⟨gw_761, gw_431, gw_432, gw_92, gw_433, by decide +kernel, by decide +kernel⟩
theorem gw_762 : Cond.methodLink "FoldedArchive$State" 122 yX5_append ∈ GW := GW_t3 194 rfl rfl
theorem gw_763 : Cond.instanceMethod yX5_append ∈ GW := GW_t3 195 rfl rfl
theorem gw_764 : Cond.selects yX5_append.cls yX5_append yX5_append ∈ GW := GW_t3 196 rfl rfl
theorem cv_X8_122 : CV RX8 122 yX5_append cX5_append 4 (some .int) 3 := ⟨gw_762, gw_763, gw_764, gw_93, gw_765, by decide +kernel, by decide +kernel⟩
theorem gw_766 : Cond.methodLink "FoldedArchive$State" 124 yX5_remove ∈ GW := GW_t3 198 rfl rfl
theorem gw_767 : Cond.instanceMethod yX5_remove ∈ GW := GW_t3 199 rfl rfl
theorem gw_768 : Cond.selects yX5_remove.cls yX5_remove yX5_remove ∈ GW := GW_t3 200 rfl rfl
theorem cv_X8_124 : CV RX8 124 yX5_remove cX5_remove 3 (some .int) 1 := ⟨gw_766, gw_767, gw_768, gw_93, gw_769, by decide +kernel, by decide +kernel⟩
theorem gw_770 : Cond.methodLink "FoldedArchive$State" 127 yX5_setBroken ∈ GW := GW_t3 202 rfl rfl
theorem gw_771 : Cond.instanceMethod yX5_setBroken ∈ GW := GW_t3 203 rfl rfl
theorem gw_772 : Cond.selects yX5_setBroken.cls yX5_setBroken yX5_setBroken ∈ GW := GW_t3 204 rfl rfl
theorem cv_X8_127 : CV RX8 127 yX5_setBroken cX5_setBroken 3 (some .int) 2 := ⟨gw_770, gw_771, gw_772, gw_93, gw_773, by decide +kernel, by decide +kernel⟩
theorem gw_778 : Cond.methodLink "FoldedArchive$State" 130 yX1_greatest ∈ GW := GW_t3 210 rfl rfl
theorem gw_779 : Cond.instanceMethod yX1_greatest ∈ GW := GW_t3 211 rfl rfl
theorem gw_780 : Cond.selects yX1_greatest.cls yX1_greatest yX1_greatest ∈ GW := GW_t3 212 rfl rfl
theorem cv_X8_130 : CV RX8 130 yX1_greatest cX1_greatest 6 (some .int) 3 := ⟨gw_778, gw_779, gw_780, gw_95, gw_781, by decide +kernel, by decide +kernel⟩
theorem gw_820 : Cond.methodLink "FoldedArchive$State" 136 yX8_moveAlongPipes ∈ GW := GW_t4 12 rfl rfl
theorem gw_822 : Cond.instanceMethod yX8_moveAlongPipes ∈ GW := GW_t4 14 rfl rfl
theorem gw_22 : Cond.selects yX8_moveAlongPipes.cls yX8_moveAlongPipes yX8_moveAlongPipes ∈ GW := GW_pr 22 (q := (yX8_moveAlongPipes, 3)) rfl
theorem cv_X8_136 : CV RX8 136 yX8_moveAlongPipes cX8_moveAlongPipes 4 (some .int) 1 := ⟨gw_820, gw_822, gw_22, gw_90, gw_823, by decide +kernel, by decide +kernel⟩
theorem gw_839 : Cond.methodLink "FoldedArchive$State" 139 yX8_moveDownPile ∈ GW := GW_t4 31 rfl rfl
theorem gw_841 : Cond.instanceMethod yX8_moveDownPile ∈ GW := GW_t4 33 rfl rfl
theorem gw_23 : Cond.selects yX8_moveDownPile.cls yX8_moveDownPile yX8_moveDownPile ∈ GW := GW_pr 23 (q := (yX8_moveDownPile, 3)) rfl
theorem cv_X8_139 : CV RX8 139 yX8_moveDownPile cX8_moveDownPile 5 (some .int) 0 := ⟨gw_839, gw_841, gw_23, gw_90, gw_842, by decide +kernel, by decide +kernel⟩
theorem gw_737 : Cond.code yX8_apply cX8_apply 6 (some .int) ∈ GW := GW_t3 169 rfl rfl
theorem gw_471 : Cond.code yX9_waterSum cX9_waterSum 3 (some .int) ∈ GW := GW_t2 143 rfl rfl
theorem gw_957 : Cond.code yX9_comesBefore cX9_comesBefore 3 (some .boolean) ∈ GW := GW_t4 149 rfl rfl
theorem gw_954 : Cond.methodLink "FoldedArchive$Strip" 70 yX9_comesBefore ∈ GW := GW_t4 146 rfl rfl
theorem gw_956 : Cond.instanceMethod yX9_comesBefore ∈ GW := GW_t4 148 rfl rfl
theorem gw_27 : Cond.selects yX9_comesBefore.cls yX9_comesBefore yX9_comesBefore ∈ GW := GW_pr 27 (q := (yX9_comesBefore, 5)) rfl
theorem cv_X9_70 : CV RX9 70 yX9_comesBefore cX9_comesBefore 3 (some .boolean) 2 := ⟨gw_954, gw_956, gw_27, gw_91, gw_957, by decide +kernel, by decide +kernel⟩
theorem gw_953 : Cond.code yX9_rankOf cX9_rankOf 4 (some .int) ∈ GW := GW_t4 145 rfl rfl
theorem gw_950 : Cond.methodLink "FoldedArchive$Strip" 73 yX9_rankOf ∈ GW := GW_t4 142 rfl rfl
theorem gw_952 : Cond.instanceMethod yX9_rankOf ∈ GW := GW_t4 144 rfl rfl
theorem gw_26 : Cond.selects yX9_rankOf.cls yX9_rankOf yX9_rankOf ∈ GW := GW_pr 26 (q := (yX9_rankOf, 5)) rfl
theorem cv_X9_73 : CV RX9 73 yX9_rankOf cX9_rankOf 4 (some .int) 1 := ⟨gw_950, gw_952, gw_26, gw_91, gw_953, by decide +kernel, by decide +kernel⟩
theorem gw_949 : Cond.code yX9_sectionAtRank cX9_sectionAtRank 3 (some .int) ∈ GW := GW_t4 141 rfl rfl
theorem gw_345 : Cond.fieldLink "FoldedArchive" 77 "FoldedArchive" "deniedNumber" "I" ∈ GW := GW_t2 17 rfl rfl
theorem gw_348 : Cond.laysFinal "FoldedArchive" "FoldedArchive" "state" "LFoldedArchive$State;" ∈ GW := GW_t2 20 rfl rfl
theorem gw_350 : Cond.laysFinal "FoldedArchive" "FoldedArchive" "beforeText" "LFoldedArchive$State;" ∈ GW := GW_t2 22 rfl rfl
theorem gw_352 : Cond.laysFinal "FoldedArchive" "FoldedArchive" "snapshot" "LFoldedArchive$State;" ∈ GW := GW_t2 24 rfl rfl
theorem gw_354 : Cond.laysFinal "FoldedArchive" "FoldedArchive" "history" "LFoldedArchive$History;" ∈ GW := GW_t2 26 rfl rfl
theorem gw_356 : Cond.laysFinal "FoldedArchive" "FoldedArchive" "flows" "LFoldedArchive$FlowSearch;" ∈ GW := GW_t2 28 rfl rfl
theorem gw_358 : Cond.laysFinal "FoldedArchive" "FoldedArchive" "foldings" "LFoldedArchive$FoldingSearch;" ∈ GW := GW_t2 30 rfl rfl
theorem gw_360 : Cond.laysFinal "FoldedArchive" "FoldedArchive" "text" "LFoldedArchive$Row;" ∈ GW := GW_t2 32 rfl rfl
theorem gw_362 : Cond.laysFinal "FoldedArchive" "FoldedArchive" "line" "LFoldedArchive$Row;" ∈ GW := GW_t2 34 rfl rfl
theorem gw_364 : Cond.laysFinal "FoldedArchive" "FoldedArchive" "searches" "LFoldedArchive$SearchReader;" ∈ GW := GW_t2 36 rfl rfl
theorem gw_366 : Cond.laysFinal "FoldedArchive" "FoldedArchive" "commands" "LFoldedArchive$CommandReader;" ∈ GW := GW_t2 38 rfl rfl
theorem gw_368 : Cond.lays "FoldedArchive" "FoldedArchive" "snapshotSaved" "Z" ∈ GW := GW_t2 40 rfl rfl
theorem gw_370 : Cond.lays "FoldedArchive" "FoldedArchive" "keptFault" "I" ∈ GW := GW_t2 42 rfl rfl
theorem gw_372 : Cond.lays "FoldedArchive" "FoldedArchive" "deniedNumber" "I" ∈ GW := GW_t2 44 rfl rfl
theorem gw_374 : Cond.lays "FoldedArchive" "FoldedArchive" "deniedDetail" "I" ∈ GW := GW_t2 46 rfl rfl
theorem gw_376 : Cond.lays "FoldedArchive" "FoldedArchive" "deniedCause" "I" ∈ GW := GW_t2 48 rfl rfl
theorem inG_X10 : ∀ w ∈ u_ws RX10 TX10 15, w ∈ GW := by
  have e : u_ws RX10 TX10 15 = [u_lay RX10 TX10 0, u_lay RX10 TX10 1, u_lay RX10 TX10 2, u_lay RX10 TX10 3, u_lay RX10 TX10 4, u_lay RX10 TX10 5, u_lay RX10 TX10 6, u_lay RX10 TX10 7, u_lay RX10 TX10 8, u_lay RX10 TX10 9, u_lay RX10 TX10 10, u_lay RX10 TX10 11, u_lay RX10 TX10 12, u_lay RX10 TX10 13, u_lay RX10 TX10 14] := rfl
  rw [e]
  exact List.forall_mem_cons.mpr ⟨gw_348, List.forall_mem_cons.mpr ⟨gw_350, List.forall_mem_cons.mpr ⟨gw_352, List.forall_mem_cons.mpr ⟨gw_354, List.forall_mem_cons.mpr ⟨gw_356, List.forall_mem_cons.mpr ⟨gw_358, List.forall_mem_cons.mpr ⟨gw_360, List.forall_mem_cons.mpr ⟨gw_362, List.forall_mem_cons.mpr ⟨gw_364, List.forall_mem_cons.mpr ⟨gw_366, List.forall_mem_cons.mpr ⟨gw_368, List.forall_mem_cons.mpr ⟨gw_370, List.forall_mem_cons.mpr ⟨gw_372, List.forall_mem_cons.mpr ⟨gw_374, List.forall_mem_cons.mpr ⟨gw_376, fun _ h => absurd h List.not_mem_nil⟩⟩⟩⟩⟩⟩⟩⟩⟩⟩⟩⟩⟩⟩⟩
theorem fl_X10_77 : FL RX10 77 10 12 "I" false := ⟨RX10, TX10, 15, tyX10, rfl, inG_X10, by decide, gw_345, tyX10_ok, nmX10, rfl, rfl⟩
theorem tt_0 : TT[0]? = some (0, 10, [some 1, some 12, some 23, some 34, some 124, some 128, some 132, some 134, some 136, some 138, none, none, none, none, none]) := by decide +kernel
theorem gw_346 : Cond.fieldLink "FoldedArchive" 80 "FoldedArchive" "deniedDetail" "I" ∈ GW := GW_t2 18 rfl rfl
theorem fl_X10_80 : FL RX10 80 10 13 "I" false := ⟨RX10, TX10, 15, tyX10, rfl, inG_X10, by decide, gw_346, tyX10_ok, nmX10, rfl, rfl⟩
theorem gw_347 : Cond.fieldLink "FoldedArchive" 83 "FoldedArchive" "deniedCause" "I" ∈ GW := GW_t2 19 rfl rfl
theorem fl_X10_83 : FL RX10 83 10 14 "I" false := ⟨RX10, TX10, 15, tyX10, rfl, inG_X10, by decide, gw_347, tyX10_ok, nmX10, rfl, rfl⟩
theorem gw_708 : Cond.code yX10_recordDenial cX10_recordDenial 4 none ∈ GW := GW_t3 140 rfl rfl
theorem gw_705 : Cond.methodLink "FoldedArchive" 255 yX10_recordDenial ∈ GW := GW_t3 137 rfl rfl
theorem gw_707 : Cond.instanceMethod yX10_recordDenial ∈ GW := GW_t3 139 rfl rfl
theorem gw_13 : Cond.selects yX10_recordDenial.cls yX10_recordDenial yX10_recordDenial ∈ GW := GW_pr 13 (q := (yX10_recordDenial, 15)) rfl
theorem gw_89 : Cond.initialized "FoldedArchive" ∈ GW := GW_t1 1 rfl rfl
theorem cv_X10_255 : CV RX10 255 yX10_recordDenial cX10_recordDenial 4 none 3 := ⟨gw_705, gw_707, gw_13, gw_89, gw_708, by decide +kernel, by decide +kernel⟩
theorem gw_709 : Cond.classLink "FoldedArchive" 259 "java/lang/UnsupportedOperationException" ∈ GW := GW_t3 141 rfl rfl
theorem gw_108 : Cond.initialized "java/lang/UnsupportedOperationException" ∈ GW := GW_t1 20 rfl rfl
theorem xg_X10_259 : ∀ w ∈ vx_at0 RX10 261 "java/lang/UnsupportedOperationException" exN, w ∈ GW ∨ w ∈ NGW := GW_all _ (by decide +kernel)
theorem xo_X10_259 : ∀ w ∈ Cond.classLink RX10 259 "java/lang/UnsupportedOperationException" :: Cond.initialized "java/lang/UnsupportedOperationException" :: vx_at0 RX10 261 "java/lang/UnsupportedOperationException" exN, vx_ot w = true := List.all_eq_true.mp (by decide +kernel)
theorem gw_690 : Cond.classLink "FoldedArchive" 293 "java/lang/IllegalArgumentException" ∈ GW := GW_t3 122 rfl rfl
theorem gw_107 : Cond.initialized "java/lang/IllegalArgumentException" ∈ GW := GW_t1 19 rfl rfl
theorem xg_X10_293 : ∀ w ∈ vx_at0 RX10 295 "java/lang/IllegalArgumentException" exN, w ∈ GW ∨ w ∈ NGW := GW_all _ (by decide +kernel)
theorem xo_X10_293 : ∀ w ∈ Cond.classLink RX10 293 "java/lang/IllegalArgumentException" :: Cond.initialized "java/lang/IllegalArgumentException" :: vx_at0 RX10 295 "java/lang/IllegalArgumentException" exN, vx_ot w = true := List.all_eq_true.mp (by decide +kernel)
theorem gw_622 : Cond.classLink "FoldedArchive" 142 "java/lang/IndexOutOfBoundsException" ∈ GW := GW_t3 54 rfl rfl
theorem gw_106 : Cond.initialized "java/lang/IndexOutOfBoundsException" ∈ GW := GW_t1 18 rfl rfl
theorem xg_X10_142 : ∀ w ∈ vx_at0 RX10 144 "java/lang/IndexOutOfBoundsException" exN, w ∈ GW ∨ w ∈ NGW := GW_all _ (by decide +kernel)
theorem xo_X10_142 : ∀ w ∈ Cond.classLink RX10 142 "java/lang/IndexOutOfBoundsException" :: Cond.initialized "java/lang/IndexOutOfBoundsException" :: vx_at0 RX10 144 "java/lang/IndexOutOfBoundsException" exN, vx_ot w = true := List.all_eq_true.mp (by decide +kernel)
theorem gw_621 : Cond.code yX10_obey cX10_obey 2 none ∈ GW := GW_t3 53 rfl rfl
theorem gw_333 : Cond.fieldLink "FoldedArchive" 10 "FoldedArchive" "state" "LFoldedArchive$State;" ∈ GW := GW_t2 5 rfl rfl
theorem fl_X10_10 : FL RX10 10 10 0 "LFoldedArchive$State;" true := ⟨RX10, TX10, 15, tyX10, rfl, inG_X10, by decide, gw_333, tyX10_ok, nmX10, rfl, rfl⟩
theorem gw_543 : Cond.methodLink "FoldedArchive" 279 yX8_judge ∈ GW := GW_t2 215 rfl rfl
theorem gw_544 : Cond.instanceMethod yX8_judge ∈ GW := GW_t2 216 rfl rfl
theorem gw_545 : Cond.selects yX8_judge.cls yX8_judge yX8_judge ∈ GW := GW_t2 217 rfl rfl
theorem cv_X10_279 : CV RX10 279 yX8_judge cX8_judge 5 (some .int) 4 := ⟨gw_543, gw_544, gw_545, gw_90, gw_546, by decide +kernel, by decide +kernel⟩
theorem tt_1 : TT[1]? = some (0, 8, [some 2, some 5, some 7]) := by decide +kernel
theorem tt_2 : TT[2]? = some (0, 9, [none, none, none, some 3, some 4]) := by decide +kernel
theorem tt_3 : TT[3]? = some (1, 7, []) := by decide +kernel
theorem tt_4 : TT[4]? = some (1, 7, []) := by decide +kernel
theorem is9_2 : isX9 2 := ⟨tt_2, tt_3, tt_4⟩
theorem tt_5 : TT[5]? = some (0, 4, [none, some 6]) := by decide +kernel
theorem tt_6 : TT[6]? = some (1, 7, []) := by decide +kernel
theorem is4_5 : isX4 5 := ⟨tt_5, tt_6⟩
theorem tt_7 : TT[7]? = some (0, 5, [none, some 8, some 9, some 10, some 11]) := by decide +kernel
theorem tt_8 : TT[8]? = some (1, 10, []) := by decide +kernel
theorem tt_9 : TT[9]? = some (1, 10, []) := by decide +kernel
theorem tt_10 : TT[10]? = some (1, 10, []) := by decide +kernel
theorem tt_11 : TT[11]? = some (2, 10, []) := by decide +kernel
theorem is5_7 : isX5 7 := ⟨tt_7, tt_8, tt_9, tt_10, tt_11⟩
theorem is8_1 : isX8 1 := ⟨tt_1, is9_2, is4_5, is5_7⟩
theorem gw_618 : Cond.methodLink "FoldedArchive" 182 yX10_obey ∈ GW := GW_t3 50 rfl rfl
theorem gw_620 : Cond.instanceMethod yX10_obey ∈ GW := GW_t3 52 rfl rfl
theorem gw_11 : Cond.selects yX10_obey.cls yX10_obey yX10_obey ∈ GW := GW_pr 11 (q := (yX10_obey, 15)) rfl
theorem cv_X10_182 : CV RX10 182 yX10_obey cX10_obey 2 none 1 := ⟨gw_618, gw_620, gw_11, gw_89, gw_621, by decide +kernel, by decide +kernel⟩
theorem gw_336 : Cond.fieldLink "FoldedArchive" 25 "FoldedArchive" "history" "LFoldedArchive$History;" ∈ GW := GW_t2 8 rfl rfl
theorem fl_X10_25 : FL RX10 25 10 3 "LFoldedArchive$History;" true := ⟨RX10, TX10, 15, tyX10, rfl, inG_X10, by decide, gw_336, tyX10_ok, nmX10, rfl, rfl⟩
theorem gw_724 : Cond.methodLink "FoldedArchive" 262 yX3_keep ∈ GW := GW_t3 156 rfl rfl
theorem gw_725 : Cond.instanceMethod yX3_keep ∈ GW := GW_t3 157 rfl rfl
theorem gw_726 : Cond.selects yX3_keep.cls yX3_keep yX3_keep ∈ GW := GW_t3 158 rfl rfl
theorem cv_X10_262 : CV RX10 262 yX3_keep cX3_keep 3 none 1 := ⟨gw_724, gw_725, gw_726, gw_94, gw_727, by decide +kernel, by decide +kernel⟩
theorem gw_337 : Cond.fieldLink "FoldedArchive" 32 "FoldedArchive" "flows" "LFoldedArchive$FlowSearch;" ∈ GW := GW_t2 9 rfl rfl
theorem fl_X10_32 : FL RX10 32 10 4 "LFoldedArchive$FlowSearch;" true := ⟨RX10, TX10, 15, tyX10, rfl, inG_X10, by decide, gw_337, tyX10_ok, nmX10, rfl, rfl⟩
theorem gw_734 : Cond.methodLink "FoldedArchive" 282 yX8_apply ∈ GW := GW_t3 166 rfl rfl
theorem gw_735 : Cond.instanceMethod yX8_apply ∈ GW := GW_t3 167 rfl rfl
theorem gw_736 : Cond.selects yX8_apply.cls yX8_apply yX8_apply ∈ GW := GW_t3 168 rfl rfl
theorem cv_X10_282 : CV RX10 282 yX8_apply cX8_apply 6 (some .int) 5 := ⟨gw_734, gw_735, gw_736, gw_90, gw_737, by decide +kernel, by decide +kernel⟩
theorem gw_542 : Cond.code yX10_change cX10_change 5 (some .int) ∈ GW := GW_t2 214 rfl rfl
theorem gw_539 : Cond.methodLink "FoldedArchive" 86 yX10_change ∈ GW := GW_t2 211 rfl rfl
theorem gw_541 : Cond.instanceMethod yX10_change ∈ GW := GW_t2 213 rfl rfl
theorem gw_6 : Cond.selects yX10_change.cls yX10_change yX10_change ∈ GW := GW_pr 6 (q := (yX10_change, 15)) rfl
theorem cv_X10_86 : CV RX10 86 yX10_change cX10_change 5 (some .int) 4 := ⟨gw_539, gw_541, gw_6, gw_89, gw_542, by decide +kernel, by decide +kernel⟩
theorem gw_538 : Cond.code yX10_addSection cX10_addSection 1 (some .int) ∈ GW := GW_t2 210 rfl rfl
theorem gw_884 : Cond.code yX10_pour cX10_pour 3 (some .int) ∈ GW := GW_t4 76 rfl rfl
theorem gw_891 : Cond.code yX10_tag cX10_tag 3 (some .int) ∈ GW := GW_t4 83 rfl rfl
theorem gw_898 : Cond.code yX10_untag cX10_untag 3 (some .int) ∈ GW := GW_t4 90 rfl rfl
theorem gw_203 : Cond.fieldLink "FoldedArchive" 90 "FoldedArchive$State" "strip" "LFoldedArchive$Strip;" ∈ GW := GW_t1 115 rfl rfl
theorem fl_X10_90 : FL RX10 90 8 0 "LFoldedArchive$Strip;" true := ⟨RX8, TX8, 3, tyX8, rfl, inG_X8, by decide, gw_203, tyX8_ok, nmX8, rfl, rfl⟩
theorem gw_141 : Cond.fieldLink "FoldedArchive" 94 "FoldedArchive$Strip" "count" "I" ∈ GW := GW_t1 53 rfl rfl
theorem fl_X10_94 : FL RX10 94 9 0 "I" false := ⟨RX9, TX9, 5, tyX9, rfl, inG_X9, by decide, gw_141, tyX9_ok, nmX9, rfl, rfl⟩
theorem gw_382 : Cond.code yX10_sectionCount cX10_sectionCount 1 (some .int) ∈ GW := GW_t2 54 rfl rfl
theorem gw_910 : Cond.methodLink "FoldedArchive" 296 yX9_has ∈ GW := GW_t4 102 rfl rfl
theorem cv_X10_296 : CV RX10 296 yX9_has cX9_has 2 (some .boolean) 1 := ⟨gw_910, gw_555, gw_556, gw_91, gw_557, by decide +kernel, by decide +kernel⟩
theorem gw_909 : Cond.code yX10_requireSection cX10_requireSection 2 none ∈ GW := GW_t4 101 rfl rfl
theorem gw_906 : Cond.methodLink "FoldedArchive" 99 yX10_requireSection ∈ GW := GW_t4 98 rfl rfl
theorem gw_908 : Cond.instanceMethod yX10_requireSection ∈ GW := GW_t4 100 rfl rfl
theorem gw_24 : Cond.selects yX10_requireSection.cls yX10_requireSection yX10_requireSection ∈ GW := GW_pr 24 (q := (yX10_requireSection, 15)) rfl
theorem cv_X10_99 : CV RX10 99 yX10_requireSection cX10_requireSection 2 none 1 := ⟨gw_906, gw_908, gw_24, gw_89, gw_909, by decide +kernel, by decide +kernel⟩
theorem gw_911 : Cond.methodLink "FoldedArchive" 102 yX9_waterOf ∈ GW := GW_t4 103 rfl rfl
theorem cv_X10_102 : CV RX10 102 yX9_waterOf cX9_waterOf 2 (some .int) 1 := ⟨gw_911, gw_559, gw_560, gw_91, gw_561, by decide +kernel, by decide +kernel⟩
theorem gw_905 : Cond.code yX10_water cX10_water 2 (some .int) ∈ GW := GW_t4 97 rfl rfl
theorem gw_923 : Cond.methodLink "FoldedArchive" 300 yX9_isTerm ∈ GW := GW_t4 115 rfl rfl
theorem cs_X10_300 : CS RX10 300 yX9_isTerm cX9_isTerm 1 (some .boolean) 1 := ⟨gw_923, gw_568, gw_91, gw_569, by decide +kernel, by decide +kernel⟩
theorem gw_922 : Cond.code yX10_requireTerm cX10_requireTerm 2 none ∈ GW := GW_t4 114 rfl rfl
theorem gw_919 : Cond.methodLink "FoldedArchive" 106 yX10_requireTerm ∈ GW := GW_t4 111 rfl rfl
theorem gw_921 : Cond.instanceMethod yX10_requireTerm ∈ GW := GW_t4 113 rfl rfl
theorem gw_25 : Cond.selects yX10_requireTerm.cls yX10_requireTerm yX10_requireTerm ∈ GW := GW_pr 25 (q := (yX10_requireTerm, 15)) rfl
theorem cv_X10_106 : CV RX10 106 yX10_requireTerm cX10_requireTerm 2 none 1 := ⟨gw_919, gw_921, gw_25, gw_89, gw_922, by decide +kernel, by decide +kernel⟩
theorem gw_924 : Cond.methodLink "FoldedArchive" 109 yX9_bears ∈ GW := GW_t4 116 rfl rfl
theorem cv_X10_109 : CV RX10 109 yX9_bears cX9_bears 3 (some .boolean) 2 := ⟨gw_924, gw_571, gw_572, gw_91, gw_573, by decide +kernel, by decide +kernel⟩
theorem gw_918 : Cond.code yX10_hasTerm cX10_hasTerm 3 (some .boolean) ∈ GW := GW_t4 110 rfl rfl
theorem gw_932 : Cond.methodLink "FoldedArchive" 113 yX9_bearersOf ∈ GW := GW_t4 124 rfl rfl
theorem cv_X10_113 : CV RX10 113 yX9_bearersOf cX9_bearersOf 4 (some .int) 1 := ⟨gw_932, gw_933, gw_934, gw_91, gw_935, by decide +kernel, by decide +kernel⟩
theorem gw_937 : Cond.methodLink "FoldedArchive" 116 yJ6_bitCount_0f7a4 ∈ GW := GW_t4 129 rfl rfl
theorem cs_X10_116 : CS RX10 116 yJ6_bitCount_0f7a4 cJ6_bitCount_0f7a4 1 (some .int) 1 := ⟨gw_937, gw_583, gw_102, gw_584, by decide +kernel, by decide +kernel⟩
theorem gw_931 : Cond.code yX10_sectionsWith cX10_sectionsWith 2 (some .int) ∈ GW := GW_t4 123 rfl rfl
theorem gw_946 : Cond.methodLink "FoldedArchive" 121 yX9_sectionAtRank ∈ GW := GW_t4 138 rfl rfl
theorem gw_947 : Cond.instanceMethod yX9_sectionAtRank ∈ GW := GW_t4 139 rfl rfl
theorem gw_948 : Cond.selects yX9_sectionAtRank.cls yX9_sectionAtRank yX9_sectionAtRank ∈ GW := GW_t4 140 rfl rfl
theorem cv_X10_121 : CV RX10 121 yX9_sectionAtRank cX9_sectionAtRank 3 (some .int) 1 := ⟨gw_946, gw_947, gw_948, gw_91, gw_949, by decide +kernel, by decide +kernel⟩
theorem gw_958 : Cond.classLink "FoldedArchive" 124 "java/util/NoSuchElementException" ∈ GW := GW_t4 150 rfl rfl
theorem gw_112 : Cond.initialized "java/util/NoSuchElementException" ∈ GW := GW_t1 24 rfl rfl
theorem xg_X10_124 : ∀ w ∈ vx_at0 RX10 126 "java/util/NoSuchElementException" exN, w ∈ GW ∨ w ∈ NGW := GW_all _ (by decide +kernel)
theorem xo_X10_124 : ∀ w ∈ Cond.classLink RX10 124 "java/util/NoSuchElementException" :: Cond.initialized "java/util/NoSuchElementException" :: vx_at0 RX10 126 "java/util/NoSuchElementException" exN, vx_ot w = true := List.all_eq_true.mp (by decide +kernel)
theorem gw_945 : Cond.code yX10_sectionByWater cX10_sectionByWater 3 (some .int) ∈ GW := GW_t4 137 rfl rfl
theorem gw_979 : Cond.code yX10_fold cX10_fold 2 (some .int) ∈ GW := GW_t4 171 rfl rfl
theorem gw_986 : Cond.code yX10_unfold cX10_unfold 1 (some .int) ∈ GW := GW_t4 178 rfl rfl
theorem gw_205 : Cond.fieldLink "FoldedArchive" 127 "FoldedArchive$State" "pile" "LFoldedArchive$Pile;" ∈ GW := GW_t1 117 rfl rfl
theorem fl_X10_127 : FL RX10 127 8 1 "LFoldedArchive$Pile;" true := ⟨RX8, TX8, 3, tyX8, rfl, inG_X8, by decide, gw_205, tyX8_ok, nmX8, rfl, rfl⟩
theorem gw_169 : Cond.fieldLink "FoldedArchive" 131 "FoldedArchive$Pile" "folded" "I" ∈ GW := GW_t1 81 rfl rfl
theorem fl_X10_131 : FL RX10 131 4 0 "I" false := ⟨RX4, TX4, 2, tyX4, rfl, inG_X4, by decide, gw_169, tyX4_ok, nmX4, rfl, rfl⟩
theorem gw_386 : Cond.code yX10_foldedCount cX10_foldedCount 1 (some .int) ∈ GW := GW_t2 58 rfl rfl
theorem gw_994 : Cond.methodLink "FoldedArchive" 136 yX4_layerHolding ∈ GW := GW_t4 186 rfl rfl
theorem cv_X10_136 : CV RX10 136 yX4_layerHolding cX4_layerHolding 2 (some .int) 1 := ⟨gw_994, gw_418, gw_419, gw_92, gw_420, by decide +kernel, by decide +kernel⟩
theorem gw_993 : Cond.code yX10_layerOf cX10_layerOf 3 (some .int) ∈ GW := GW_t4 185 rfl rfl
theorem gw_496 : Cond.methodLink "FoldedArchive" 139 yX4_sectionAt ∈ GW := GW_t2 168 rfl rfl
theorem cv_X10_139 : CV RX10 139 yX4_sectionAt cX4_sectionAt 3 (some .int) 1 := ⟨gw_496, gw_497, gw_498, gw_92, gw_499, by decide +kernel, by decide +kernel⟩
theorem gw_1001 : Cond.code yX10_sectionIn cX10_sectionIn 3 (some .int) ∈ GW := GW_t4 193 rfl rfl
theorem gw_1009 : Cond.methodLink "FoldedArchive" 145 yX8_judgeFold ∈ GW := GW_t4 201 rfl rfl
theorem cv_X10_145 : CV RX10 145 yX8_judgeFold cX8_judgeFold 3 (some .int) 1 := ⟨gw_1009, gw_589, gw_590, gw_90, gw_591, by decide +kernel, by decide +kernel⟩
theorem gw_1008 : Cond.code yX10_canFold cX10_canFold 3 (some .boolean) ∈ GW := GW_t4 200 rfl rfl
theorem gw_338 : Cond.fieldLink "FoldedArchive" 39 "FoldedArchive" "foldings" "LFoldedArchive$FoldingSearch;" ∈ GW := GW_t2 10 rfl rfl
theorem fl_X10_39 : FL RX10 39 10 5 "LFoldedArchive$FoldingSearch;" true := ⟨RX10, TX10, 15, tyX10, rfl, inG_X10, by decide, gw_338, tyX10_ok, nmX10, rfl, rfl⟩
theorem gw_391 : Cond.methodLink "FoldedArchive" 148 yX2_countByFolding ∈ GW := GW_t2 63 rfl rfl
theorem gw_392 : Cond.instanceMethod yX2_countByFolding ∈ GW := GW_t2 64 rfl rfl
theorem gw_393 : Cond.selects yX2_countByFolding.cls yX2_countByFolding yX2_countByFolding ∈ GW := GW_t2 65 rfl rfl
theorem cv_X10_148 : CV RX10 148 yX2_countByFolding cX2_countByFolding 3 (some .int) 2 := ⟨gw_391, gw_392, gw_393, gw_96, gw_394, by decide +kernel, by decide +kernel⟩
theorem gw_390 : Cond.code yX10_completions cX10_completions 1 (some .int) ∈ GW := GW_t2 62 rfl rfl
theorem gw_438 : Cond.methodLink "FoldedArchive" 152 yX2_countByOrders ∈ GW := GW_t2 110 rfl rfl
theorem gw_439 : Cond.instanceMethod yX2_countByOrders ∈ GW := GW_t2 111 rfl rfl
theorem gw_440 : Cond.selects yX2_countByOrders.cls yX2_countByOrders yX2_countByOrders ∈ GW := GW_t2 112 rfl rfl
theorem cv_X10_152 : CV RX10 152 yX2_countByOrders cX2_countByOrders 5 (some .int) 2 := ⟨gw_438, gw_439, gw_440, gw_96, gw_441, by decide +kernel, by decide +kernel⟩
theorem gw_437 : Cond.code yX10_completionsByOrders cX10_completionsByOrders 1 (some .int) ∈ GW := GW_t2 109 rfl rfl
theorem gw_1016 : Cond.code yX10_layPipe cX10_layPipe 4 (some .int) ∈ GW := GW_t4 208 rfl rfl
theorem gw_1023 : Cond.code yX10_removePipe cX10_removePipe 2 (some .int) ∈ GW := GW_t4 215 rfl rfl
theorem gw_1030 : Cond.code yX10_breakPipe cX10_breakPipe 2 (some .int) ∈ GW := GW_t4 222 rfl rfl
theorem gw_1037 : Cond.code yX10_mendPipe cX10_mendPipe 2 (some .int) ∈ GW := GW_t4 229 rfl rfl
theorem gw_207 : Cond.fieldLink "FoldedArchive" 155 "FoldedArchive$State" "pipes" "LFoldedArchive$Pipes;" ∈ GW := GW_t1 119 rfl rfl
theorem fl_X10_155 : FL RX10 155 8 2 "LFoldedArchive$Pipes;" true := ⟨RX8, TX8, 3, tyX8, rfl, inG_X8, by decide, gw_207, tyX8_ok, nmX8, rfl, rfl⟩
theorem gw_185 : Cond.fieldLink "FoldedArchive" 159 "FoldedArchive$Pipes" "count" "I" ∈ GW := GW_t1 97 rfl rfl
theorem fl_X10_159 : FL RX10 159 5 0 "I" false := ⟨RX5, TX5, 5, tyX5, rfl, inG_X5, by decide, gw_185, tyX5_ok, nmX5, rfl, rfl⟩
theorem gw_463 : Cond.code yX10_pipeCount cX10_pipeCount 1 (some .int) ∈ GW := GW_t2 135 rfl rfl
theorem gw_1049 : Cond.methodLink "FoldedArchive" 299 yX5_has ∈ GW := GW_t5 1 rfl rfl
theorem cv_X10_299 : CV RX10 299 yX5_has cX5_has 2 (some .boolean) 1 := ⟨gw_1049, gw_598, gw_599, gw_93, gw_600, by decide +kernel, by decide +kernel⟩
theorem gw_1048 : Cond.code yX10_requirePipe cX10_requirePipe 2 none ∈ GW := GW_t5 0 rfl rfl
theorem gw_1045 : Cond.methodLink "FoldedArchive" 162 yX10_requirePipe ∈ GW := GW_t4 237 rfl rfl
theorem gw_1047 : Cond.instanceMethod yX10_requirePipe ∈ GW := GW_t4 239 rfl rfl
theorem gw_28 : Cond.selects yX10_requirePipe.cls yX10_requirePipe yX10_requirePipe ∈ GW := GW_pr 28 (q := (yX10_requirePipe, 15)) rfl
theorem cv_X10_162 : CV RX10 162 yX10_requirePipe cX10_requirePipe 2 none 1 := ⟨gw_1045, gw_1047, gw_28, gw_89, gw_1048, by decide +kernel, by decide +kernel⟩
theorem gw_1050 : Cond.methodLink "FoldedArchive" 165 yX5_startOf ∈ GW := GW_t5 2 rfl rfl
theorem cv_X10_165 : CV RX10 165 yX5_startOf cX5_startOf 2 (some .int) 1 := ⟨gw_1050, gw_788, gw_789, gw_93, gw_790, by decide +kernel, by decide +kernel⟩
theorem gw_1044 : Cond.code yX10_pipeFrom cX10_pipeFrom 2 (some .int) ∈ GW := GW_t4 236 rfl rfl
theorem gw_1058 : Cond.methodLink "FoldedArchive" 168 yX5_endOf ∈ GW := GW_t5 10 rfl rfl
theorem cv_X10_168 : CV RX10 168 yX5_endOf cX5_endOf 2 (some .int) 1 := ⟨gw_1058, gw_792, gw_793, gw_93, gw_794, by decide +kernel, by decide +kernel⟩
theorem gw_1057 : Cond.code yX10_pipeTo cX10_pipeTo 2 (some .int) ∈ GW := GW_t5 9 rfl rfl
theorem gw_1066 : Cond.methodLink "FoldedArchive" 171 yX5_widthOf ∈ GW := GW_t5 18 rfl rfl
theorem cv_X10_171 : CV RX10 171 yX5_widthOf cX5_widthOf 2 (some .int) 1 := ⟨gw_1066, gw_611, gw_612, gw_93, gw_613, by decide +kernel, by decide +kernel⟩
theorem gw_1065 : Cond.code yX10_capacity cX10_capacity 2 (some .int) ∈ GW := GW_t5 17 rfl rfl
theorem gw_1074 : Cond.methodLink "FoldedArchive" 174 yX5_brokenAt ∈ GW := GW_t5 26 rfl rfl
theorem cv_X10_174 : CV RX10 174 yX5_brokenAt cX5_brokenAt 2 (some .boolean) 1 := ⟨gw_1074, gw_606, gw_607, gw_93, gw_608, by decide +kernel, by decide +kernel⟩
theorem gw_1073 : Cond.code yX10_isBroken cX10_isBroken 2 (some .boolean) ∈ GW := GW_t5 25 rfl rfl
theorem gw_1082 : Cond.methodLink "FoldedArchive" 178 yX8_judgeEnds ∈ GW := GW_t5 34 rfl rfl
theorem cv_X10_178 : CV RX10 178 yX8_judgeEnds cX8_judgeEnds 1 (some .int) 0 := ⟨gw_1082, gw_615, gw_616, gw_90, gw_617, by decide +kernel, by decide +kernel⟩
theorem gw_1083 : Cond.methodLink "FoldedArchive" 185 yX1_greatest ∈ GW := GW_t5 35 rfl rfl
theorem cv_X10_185 : CV RX10 185 yX1_greatest cX1_greatest 6 (some .int) 3 := ⟨gw_1083, gw_779, gw_780, gw_95, gw_781, by decide +kernel, by decide +kernel⟩
theorem gw_1081 : Cond.code yX10_greatestFlow cX10_greatestFlow 1 (some .int) ∈ GW := GW_t5 33 rfl rfl
theorem gw_1091 : Cond.methodLink "FoldedArchive" 189 yX1_smallest ∈ GW := GW_t5 43 rfl rfl
theorem gw_1092 : Cond.instanceMethod yX1_smallest ∈ GW := GW_t5 44 rfl rfl
theorem gw_1093 : Cond.selects yX1_smallest.cls yX1_smallest yX1_smallest ∈ GW := GW_t5 45 rfl rfl
theorem cv_X10_189 : CV RX10 189 yX1_smallest cX1_smallest 5 (some .int) 2 := ⟨gw_1091, gw_1092, gw_1093, gw_95, gw_1094, by decide +kernel, by decide +kernel⟩
theorem gw_1090 : Cond.code yX10_smallestCut cX10_smallestCut 1 (some .int) ∈ GW := GW_t5 42 rfl rfl
theorem gw_1107 : Cond.code yX10_lossOf cX10_lossOf 3 (some .int) ∈ GW := GW_t5 59 rfl rfl
theorem gw_1114 : Cond.code yX10_drain cX10_drain 1 (some .int) ∈ GW := GW_t5 66 rfl rfl
theorem gw_1121 : Cond.code yX10_seep cX10_seep 1 (some .int) ∈ GW := GW_t5 73 rfl rfl
theorem gw_468 : Cond.methodLink "FoldedArchive" 193 yX9_waterSum ∈ GW := GW_t2 140 rfl rfl
theorem gw_469 : Cond.instanceMethod yX9_waterSum ∈ GW := GW_t2 141 rfl rfl
theorem gw_470 : Cond.selects yX9_waterSum.cls yX9_waterSum yX9_waterSum ∈ GW := GW_t2 142 rfl rfl
theorem cv_X10_193 : CV RX10 193 yX9_waterSum cX9_waterSum 3 (some .int) 0 := ⟨gw_468, gw_469, gw_470, gw_91, gw_471, by decide +kernel, by decide +kernel⟩
theorem gw_467 : Cond.code yX10_totalWater cX10_totalWater 1 (some .int) ∈ GW := GW_t2 139 rfl rfl
theorem gw_143 : Cond.fieldLink "FoldedArchive" 196 "FoldedArchive$Strip" "pouredUnits" "I" ∈ GW := GW_t1 55 rfl rfl
theorem fl_X10_196 : FL RX10 196 9 1 "I" false := ⟨RX9, TX9, 5, tyX9, rfl, inG_X9, by decide, gw_143, tyX9_ok, nmX9, rfl, rfl⟩
theorem gw_145 : Cond.fieldLink "FoldedArchive" 199 "FoldedArchive$Strip" "leakedUnits" "I" ∈ GW := GW_t1 57 rfl rfl
theorem fl_X10_199 : FL RX10 199 9 2 "I" false := ⟨RX9, TX9, 5, tyX9, rfl, inG_X9, by decide, gw_145, tyX9_ok, nmX9, rfl, rfl⟩
theorem gw_475 : Cond.code yX10_totalWaterByAccounts cX10_totalWaterByAccounts 1 (some .int) ∈ GW := GW_t2 147 rfl rfl
theorem gw_479 : Cond.code yX10_poured cX10_poured 1 (some .int) ∈ GW := GW_t2 151 rfl rfl
theorem gw_483 : Cond.code yX10_leaked cX10_leaked 1 (some .int) ∈ GW := GW_t2 155 rfl rfl
theorem gw_1143 : Cond.classLink "FoldedArchive" 202 "java/lang/ArithmeticException" ∈ GW := GW_t5 95 rfl rfl
theorem gw_113 : Cond.initialized "java/lang/ArithmeticException" ∈ GW := GW_t1 25 rfl rfl
theorem xg_X10_202 : ∀ w ∈ vx_at0 RX10 204 "java/lang/ArithmeticException" exN, w ∈ GW ∨ w ∈ NGW := GW_all _ (by decide +kernel)
theorem xo_X10_202 : ∀ w ∈ Cond.classLink RX10 202 "java/lang/ArithmeticException" :: Cond.initialized "java/lang/ArithmeticException" :: vx_at0 RX10 204 "java/lang/ArithmeticException" exN, vx_ot w = true := List.all_eq_true.mp (by decide +kernel)
theorem gw_1142 : Cond.code yX10_meanWater cX10_meanWater 1 (some .double) ∈ GW := GW_t5 94 rfl rfl
theorem gw_1154 : Cond.code yX10_leakedShare cX10_leakedShare 1 (some .float) ∈ GW := GW_t5 106 rfl rfl
theorem gw_339 : Cond.fieldLink "FoldedArchive" 48 "FoldedArchive" "text" "LFoldedArchive$Row;" ∈ GW := GW_t2 11 rfl rfl
theorem fl_X10_48 : FL RX10 48 10 6 "LFoldedArchive$Row;" true := ⟨RX10, TX10, 15, tyX10, rfl, inG_X10, by decide, gw_339, tyX10_ok, nmX10, rfl, rfl⟩
theorem gw_1163 : Cond.methodLink "FoldedArchive" 205 yX6_isFull ∈ GW := GW_t5 115 rfl rfl
theorem gw_1164 : Cond.instanceMethod yX6_isFull ∈ GW := GW_t5 116 rfl rfl
theorem gw_1165 : Cond.selects yX6_isFull.cls yX6_isFull yX6_isFull ∈ GW := GW_t5 117 rfl rfl
theorem cv_X10_205 : CV RX10 205 yX6_isFull cX6_isFull 1 (some .boolean) 0 := ⟨gw_1163, gw_1164, gw_1165, gw_97, gw_1166, by decide +kernel, by decide +kernel⟩
theorem gw_1182 : Cond.methodLink "FoldedArchive" 212 yX6_put ∈ GW := GW_t5 134 rfl rfl
theorem cv_X10_212 : CV RX10 212 yX6_put cX6_put 2 none 1 := ⟨gw_1182, gw_505, gw_506, gw_97, gw_507, by decide +kernel, by decide +kernel⟩
theorem gw_279 : Cond.fieldLink "FoldedArchive" 216 "FoldedArchive$Row" "length" "I" ∈ GW := GW_t1 191 rfl rfl
theorem fl_X10_216 : FL RX10 216 6 1 "I" false := ⟨RX6, TX6, 2, tyX6, rfl, inG_X6, by decide, gw_279, tyX6_ok, nmX6, rfl, rfl⟩
theorem gw_1167 : Cond.classLink "FoldedArchive" 209 "java/lang/IllegalStateException" ∈ GW := GW_t5 119 rfl rfl
theorem gw_114 : Cond.initialized "java/lang/IllegalStateException" ∈ GW := GW_t1 26 rfl rfl
theorem xg_X10_209 : ∀ w ∈ vx_at0 RX10 211 "java/lang/IllegalStateException" exN, w ∈ GW ∨ w ∈ NGW := GW_all _ (by decide +kernel)
theorem xo_X10_209 : ∀ w ∈ Cond.classLink RX10 209 "java/lang/IllegalStateException" :: Cond.initialized "java/lang/IllegalStateException" :: vx_at0 RX10 211 "java/lang/IllegalStateException" exN, vx_ot w = true := List.all_eq_true.mp (by decide +kernel)
theorem gw_1162 : Cond.code yX10_feed cX10_feed 2 (some .int) ∈ GW := GW_t5 114 rfl rfl
theorem gw_488 : Cond.methodLink "FoldedArchive" 219 yX6_empty ∈ GW := GW_t2 160 rfl rfl
theorem gw_489 : Cond.instanceMethod yX6_empty ∈ GW := GW_t2 161 rfl rfl
theorem gw_490 : Cond.selects yX6_empty.cls yX6_empty yX6_empty ∈ GW := GW_t2 162 rfl rfl
theorem cv_X10_219 : CV RX10 219 yX6_empty cX6_empty 1 none 0 := ⟨gw_488, gw_489, gw_490, gw_97, gw_491, by decide +kernel, by decide +kernel⟩
theorem gw_487 : Cond.code yX10_clearText cX10_clearText 2 (some .int) ∈ GW := GW_t2 159 rfl rfl
theorem gw_344 : Cond.fieldLink "FoldedArchive" 73 "FoldedArchive" "keptFault" "I" ∈ GW := GW_t2 16 rfl rfl
theorem fl_X10_73 : FL RX10 73 10 11 "I" false := ⟨RX10, TX10, 15, tyX10, rfl, inG_X10, by decide, gw_344, tyX10_ok, nmX10, rfl, rfl⟩
theorem gw_1230 : Cond.code yX10_refuseFault cX10_refuseFault 2 none ∈ GW := GW_t5 182 rfl rfl
theorem gw_341 : Cond.fieldLink "FoldedArchive" 58 "FoldedArchive" "searches" "LFoldedArchive$SearchReader;" ∈ GW := GW_t2 13 rfl rfl
theorem fl_X10_58 : FL RX10 58 10 8 "LFoldedArchive$SearchReader;" true := ⟨RX10, TX10, 15, tyX10, rfl, inG_X10, by decide, gw_341, tyX10_ok, nmX10, rfl, rfl⟩
theorem gw_1190 : Cond.methodLink "FoldedArchive" 222 yX7_askForAll ∈ GW := GW_t5 142 rfl rfl
theorem gw_1191 : Cond.instanceMethod yX7_askForAll ∈ GW := GW_t5 143 rfl rfl
theorem gw_1192 : Cond.selects yX7_askForAll.cls yX7_askForAll yX7_askForAll ∈ GW := GW_t5 144 rfl rfl
theorem cv_X10_222 : CV RX10 222 yX7_askForAll cX7_askForAll 3 none 1 := ⟨gw_1190, gw_1191, gw_1192, gw_99, gw_1193, by decide +kernel, by decide +kernel⟩
theorem gw_1195 : Cond.methodLink "FoldedArchive" 226 yX7_read ∈ GW := GW_t5 147 rfl rfl
theorem gw_1196 : Cond.instanceMethod yX7_read ∈ GW := GW_t5 148 rfl rfl
theorem gw_1197 : Cond.selects yX7_read.cls yX7_read yX7_read ∈ GW := GW_t5 149 rfl rfl
theorem cv_X10_226 : CV RX10 226 yX7_read cX7_read 3 (some .int) 1 := ⟨gw_1195, gw_1196, gw_1197, gw_99, gw_1198, by decide +kernel, by decide +kernel⟩
theorem gw_296 : Cond.fieldLink "FoldedArchive" 230 "FoldedArchive$SearchReader" "fault" "I" ∈ GW := GW_t1 208 rfl rfl
theorem fl_X10_230 : FL RX10 230 7 3 "I" false := ⟨RX7, TX7, 4, tyX7, rfl, inG_X7, by decide, gw_296, tyX7_ok, nmX7, rfl, rfl⟩
theorem gw_1227 : Cond.methodLink "FoldedArchive" 233 yX10_refuseFault ∈ GW := GW_t5 179 rfl rfl
theorem gw_1229 : Cond.instanceMethod yX10_refuseFault ∈ GW := GW_t5 181 rfl rfl
theorem gw_34 : Cond.selects yX10_refuseFault.cls yX10_refuseFault yX10_refuseFault ∈ GW := GW_pr 34 (q := (yX10_refuseFault, 15)) rfl
theorem cv_X10_233 : CV RX10 233 yX10_refuseFault cX10_refuseFault 2 none 1 := ⟨gw_1227, gw_1229, gw_34, gw_89, gw_1230, by decide +kernel, by decide +kernel⟩
theorem gw_1189 : Cond.code yX10_search cX10_search 2 (some .int) ∈ GW := GW_t5 141 rfl rfl
theorem gw_1238 : Cond.methodLink "FoldedArchive" 236 yX7_askForOne ∈ GW := GW_t5 190 rfl rfl
theorem gw_1239 : Cond.instanceMethod yX7_askForOne ∈ GW := GW_t5 191 rfl rfl
theorem gw_1240 : Cond.selects yX7_askForOne.cls yX7_askForOne yX7_askForOne ∈ GW := GW_t5 192 rfl rfl
theorem cv_X10_236 : CV RX10 236 yX7_askForOne cX7_askForOne 4 none 2 := ⟨gw_1238, gw_1239, gw_1240, gw_99, gw_1241, by decide +kernel, by decide +kernel⟩
theorem gw_1237 : Cond.code yX10_matches cX10_matches 3 (some .boolean) ∈ GW := GW_t5 189 rfl rfl
theorem gw_342 : Cond.fieldLink "FoldedArchive" 65 "FoldedArchive" "commands" "LFoldedArchive$CommandReader;" ∈ GW := GW_t2 14 rfl rfl
theorem fl_X10_65 : FL RX10 65 10 9 "LFoldedArchive$CommandReader;" true := ⟨RX10, TX10, 15, tyX10, rfl, inG_X10, by decide, gw_342, tyX10_ok, nmX10, rfl, rfl⟩
theorem gw_1354 : Cond.methodLink "FoldedArchive" 286 yX0_kindOf ∈ GW := GW_t6 66 rfl rfl
theorem gw_1355 : Cond.instanceMethod yX0_kindOf ∈ GW := GW_t6 67 rfl rfl
theorem gw_1356 : Cond.selects yX0_kindOf.cls yX0_kindOf yX0_kindOf ∈ GW := GW_t6 68 rfl rfl
theorem cv_X10_286 : CV RX10 286 yX0_kindOf cX0_kindOf 2 (some .int) 1 := ⟨gw_1354, gw_1355, gw_1356, gw_100, gw_1357, by decide +kernel, by decide +kernel⟩
theorem gw_1358 : Cond.methodLink "FoldedArchive" 289 yX0_operandOf ∈ GW := GW_t6 70 rfl rfl
theorem gw_1359 : Cond.instanceMethod yX0_operandOf ∈ GW := GW_t6 71 rfl rfl
theorem gw_1360 : Cond.selects yX0_operandOf.cls yX0_operandOf yX0_operandOf ∈ GW := GW_t6 72 rfl rfl
theorem cv_X10_289 : CV RX10 289 yX0_operandOf cX0_operandOf 4 (some .int) 2 := ⟨gw_1358, gw_1359, gw_1360, gw_100, gw_1361, by decide +kernel, by decide +kernel⟩
theorem gw_1353 : Cond.code yX10_runCommand cX10_runCommand 7 (some .int) ∈ GW := GW_t6 65 rfl rfl
theorem gw_1364 : Cond.code yX10_causeOf cX10_causeOf 1 (some .int) ∈ GW := GW_t6 76 rfl rfl
theorem gw_1250 : Cond.methodLink "FoldedArchive" 240 yX0_read ∈ GW := GW_t5 202 rfl rfl
theorem gw_1251 : Cond.instanceMethod yX0_read ∈ GW := GW_t5 203 rfl rfl
theorem gw_1252 : Cond.selects yX0_read.cls yX0_read yX0_read ∈ GW := GW_t5 204 rfl rfl
theorem cv_X10_240 : CV RX10 240 yX0_read cX0_read 4 none 1 := ⟨gw_1250, gw_1251, gw_1252, gw_100, gw_1253, by decide +kernel, by decide +kernel⟩
theorem gw_317 : Cond.fieldLink "FoldedArchive" 243 "FoldedArchive$CommandReader" "fault" "I" ∈ GW := GW_t1 229 rfl rfl
theorem fl_X10_243 : FL RX10 243 0 3 "I" false := ⟨RX0, TX0, 6, tyX0, rfl, inG_X0, by decide, gw_317, tyX0_ok, nmX0, rfl, rfl⟩
theorem gw_334 : Cond.fieldLink "FoldedArchive" 16 "FoldedArchive" "beforeText" "LFoldedArchive$State;" ∈ GW := GW_t2 6 rfl rfl
theorem fl_X10_16 : FL RX10 16 10 1 "LFoldedArchive$State;" true := ⟨RX10, TX10, 15, tyX10, rfl, inG_X10, by decide, gw_334, tyX10_ok, nmX10, rfl, rfl⟩
theorem gw_516 : Cond.methodLink "FoldedArchive" 244 yX8_copyFrom ∈ GW := GW_t2 188 rfl rfl
theorem cv_X10_244 : CV RX10 244 yX8_copyFrom cX8_copyFrom 2 none 1 := ⟨gw_516, gw_517, gw_518, gw_90, gw_519, by decide +kernel, by decide +kernel⟩
theorem tt_12 : TT[12]? = some (0, 8, [some 13, some 16, some 18]) := by decide +kernel
theorem tt_13 : TT[13]? = some (0, 9, [none, none, none, some 14, some 15]) := by decide +kernel
theorem tt_14 : TT[14]? = some (1, 7, []) := by decide +kernel
theorem tt_15 : TT[15]? = some (1, 7, []) := by decide +kernel
theorem is9_13 : isX9 13 := ⟨tt_13, tt_14, tt_15⟩
theorem tt_16 : TT[16]? = some (0, 4, [none, some 17]) := by decide +kernel
theorem tt_17 : TT[17]? = some (1, 7, []) := by decide +kernel
theorem is4_16 : isX4 16 := ⟨tt_16, tt_17⟩
theorem tt_18 : TT[18]? = some (0, 5, [none, some 19, some 20, some 21, some 22]) := by decide +kernel
theorem tt_19 : TT[19]? = some (1, 10, []) := by decide +kernel
theorem tt_20 : TT[20]? = some (1, 10, []) := by decide +kernel
theorem tt_21 : TT[21]? = some (1, 10, []) := by decide +kernel
theorem tt_22 : TT[22]? = some (2, 10, []) := by decide +kernel
theorem is5_18 : isX5 18 := ⟨tt_18, tt_19, tt_20, tt_21, tt_22⟩
theorem is8_12 : isX8 12 := ⟨tt_12, is9_13, is4_16, is5_18⟩
theorem gw_315 : Cond.fieldLink "FoldedArchive" 248 "FoldedArchive$CommandReader" "count" "I" ∈ GW := GW_t1 227 rfl rfl
theorem fl_X10_248 : FL RX10 248 0 2 "I" false := ⟨RX0, TX0, 6, tyX0, rfl, inG_X0, by decide, gw_315, tyX0_ok, nmX0, rfl, rfl⟩
theorem gw_1350 : Cond.methodLink "FoldedArchive" 249 yX10_runCommand ∈ GW := GW_t6 62 rfl rfl
theorem gw_1352 : Cond.instanceMethod yX10_runCommand ∈ GW := GW_t6 64 rfl rfl
theorem gw_41 : Cond.selects yX10_runCommand.cls yX10_runCommand yX10_runCommand ∈ GW := GW_pr 41 (q := (yX10_runCommand, 15)) rfl
theorem cv_X10_249 : CV RX10 249 yX10_runCommand cX10_runCommand 7 (some .int) 1 := ⟨gw_1350, gw_1352, gw_41, gw_89, gw_1353, by decide +kernel, by decide +kernel⟩
theorem gw_1362 : Cond.methodLink "FoldedArchive" 252 yX10_causeOf ∈ GW := GW_t6 74 rfl rfl
theorem gw_1363 : Cond.static yX10_causeOf ∈ GW := GW_t6 75 rfl rfl
theorem cs_X10_252 : CS RX10 252 yX10_causeOf cX10_causeOf 1 (some .int) 1 := ⟨gw_1362, gw_1363, gw_89, gw_1364, by decide +kernel, by decide +kernel⟩
theorem gw_1249 : Cond.code yX10_execute cX10_execute 3 (some .int) ∈ GW := GW_t5 201 rfl rfl
theorem gw_1371 : Cond.code yX10_faultPosition cX10_faultPosition 1 (some .int) ∈ GW := GW_t6 83 rfl rfl
theorem gw_340 : Cond.fieldLink "FoldedArchive" 52 "FoldedArchive" "line" "LFoldedArchive$Row;" ∈ GW := GW_t2 12 rfl rfl
theorem fl_X10_52 : FL RX10 52 10 7 "LFoldedArchive$Row;" true := ⟨RX10, TX10, 15, tyX10, rfl, inG_X10, by decide, gw_340, tyX10_ok, nmX10, rfl, rfl⟩
theorem tt_134 : TT[134]? = some (0, 6, [some 135, none]) := by decide +kernel
theorem tt_135 : TT[135]? = some (3, 14, []) := by decide +kernel
theorem is6_134 : isX6 134 := ⟨tt_134, tt_135⟩
theorem gw_500 : Cond.methodLink "FoldedArchive" 265 yX6_putNumber ∈ GW := GW_t2 172 rfl rfl
theorem gw_501 : Cond.instanceMethod yX6_putNumber ∈ GW := GW_t2 173 rfl rfl
theorem gw_502 : Cond.selects yX6_putNumber.cls yX6_putNumber yX6_putNumber ∈ GW := GW_t2 174 rfl rfl
theorem cv_X10_265 : CV RX10 265 yX6_putNumber cX6_putNumber 2 none 1 := ⟨gw_500, gw_501, gw_502, gw_97, gw_503, by decide +kernel, by decide +kernel⟩
theorem gw_1378 : Cond.code yX10_writeSection cX10_writeSection 3 (some .int) ∈ GW := GW_t6 90 rfl rfl
theorem gw_495 : Cond.code yX10_writePile cX10_writePile 2 (some .int) ∈ GW := GW_t2 167 rfl rfl
theorem gw_1386 : Cond.methodLink "FoldedArchive" 268 yX6_at ∈ GW := GW_t6 98 rfl rfl
theorem cv_X10_268 : CV RX10 268 yX6_at cX6_at 2 (some .char) 1 := ⟨gw_1386, gw_1212, gw_1213, gw_97, gw_1214, by decide +kernel, by decide +kernel⟩
theorem gw_1385 : Cond.code yX10_lineCharacter cX10_lineCharacter 2 (some .char) ∈ GW := GW_t6 97 rfl rfl
theorem gw_1393 : Cond.code yX10_denial cX10_denial 1 (some .int) ∈ GW := GW_t6 105 rfl rfl
theorem gw_1400 : Cond.code yX10_denialDetail cX10_denialDetail 1 (some .int) ∈ GW := GW_t6 112 rfl rfl
theorem gw_1407 : Cond.code yX10_denialCause cX10_denialCause 1 (some .int) ∈ GW := GW_t6 119 rfl rfl
theorem gw_227 : Cond.fieldLink "FoldedArchive" 272 "FoldedArchive$History" "count" "I" ∈ GW := GW_t1 139 rfl rfl
theorem fl_X10_272 : FL RX10 272 3 2 "I" false := ⟨RX3, TX3, 3, tyX3, rfl, inG_X3, by decide, gw_227, tyX3_ok, nmX3, rfl, rfl⟩
theorem gw_1415 : Cond.methodLink "FoldedArchive" 273 yX3_takeBack ∈ GW := GW_t6 127 rfl rfl
theorem gw_1416 : Cond.instanceMethod yX3_takeBack ∈ GW := GW_t6 128 rfl rfl
theorem gw_1417 : Cond.selects yX3_takeBack.cls yX3_takeBack yX3_takeBack ∈ GW := GW_t6 129 rfl rfl
theorem cv_X10_273 : CV RX10 273 yX3_takeBack cX3_takeBack 3 none 1 := ⟨gw_1415, gw_1416, gw_1417, gw_94, gw_1418, by decide +kernel, by decide +kernel⟩
theorem gw_1414 : Cond.code yX10_undo cX10_undo 1 (some .int) ∈ GW := GW_t6 126 rfl rfl
theorem gw_511 : Cond.code yX10_undoCount cX10_undoCount 1 (some .int) ∈ GW := GW_t2 183 rfl rfl
theorem gw_335 : Cond.fieldLink "FoldedArchive" 19 "FoldedArchive" "snapshot" "LFoldedArchive$State;" ∈ GW := GW_t2 7 rfl rfl
theorem fl_X10_19 : FL RX10 19 10 2 "LFoldedArchive$State;" true := ⟨RX10, TX10, 15, tyX10, rfl, inG_X10, by decide, gw_335, tyX10_ok, nmX10, rfl, rfl⟩
theorem tt_23 : TT[23]? = some (0, 8, [some 24, some 27, some 29]) := by decide +kernel
theorem tt_24 : TT[24]? = some (0, 9, [none, none, none, some 25, some 26]) := by decide +kernel
theorem tt_25 : TT[25]? = some (1, 7, []) := by decide +kernel
theorem tt_26 : TT[26]? = some (1, 7, []) := by decide +kernel
theorem is9_24 : isX9 24 := ⟨tt_24, tt_25, tt_26⟩
theorem tt_27 : TT[27]? = some (0, 4, [none, some 28]) := by decide +kernel
theorem tt_28 : TT[28]? = some (1, 7, []) := by decide +kernel
theorem is4_27 : isX4 27 := ⟨tt_27, tt_28⟩
theorem tt_29 : TT[29]? = some (0, 5, [none, some 30, some 31, some 32, some 33]) := by decide +kernel
theorem tt_30 : TT[30]? = some (1, 10, []) := by decide +kernel
theorem tt_31 : TT[31]? = some (1, 10, []) := by decide +kernel
theorem tt_32 : TT[32]? = some (1, 10, []) := by decide +kernel
theorem tt_33 : TT[33]? = some (2, 10, []) := by decide +kernel
theorem is5_29 : isX5 29 := ⟨tt_29, tt_30, tt_31, tt_32, tt_33⟩
theorem is8_23 : isX8 23 := ⟨tt_23, is9_24, is4_27, is5_29⟩
theorem gw_343 : Cond.fieldLink "FoldedArchive" 69 "FoldedArchive" "snapshotSaved" "Z" ∈ GW := GW_t2 15 rfl rfl
theorem fl_X10_69 : FL RX10 69 10 10 "Z" false := ⟨RX10, TX10, 15, tyX10, rfl, inG_X10, by decide, gw_343, tyX10_ok, nmX10, rfl, rfl⟩
theorem gw_515 : Cond.code yX10_saveSnapshot cX10_saveSnapshot 1 (some .int) ∈ GW := GW_t2 187 rfl rfl
theorem gw_1426 : Cond.methodLink "FoldedArchive" 276 yX3_forget ∈ GW := GW_t6 138 rfl rfl
theorem gw_1427 : Cond.instanceMethod yX3_forget ∈ GW := GW_t6 139 rfl rfl
theorem gw_1428 : Cond.selects yX3_forget.cls yX3_forget yX3_forget ∈ GW := GW_t6 140 rfl rfl
theorem cv_X10_276 : CV RX10 276 yX3_forget cX3_forget 1 none 0 := ⟨gw_1426, gw_1427, gw_1428, gw_94, gw_1429, by decide +kernel, by decide +kernel⟩
theorem gw_1425 : Cond.code yX10_restoreSnapshot cX10_restoreSnapshot 1 (some .int) ∈ GW := GW_t6 137 rfl rfl
theorem gw_1436 : Cond.fieldLink "FoldedArchiveModel" 38 "FoldedArchiveModel" "thrown" "I" ∈ GW := GW_t6 148 rfl rfl
theorem gw_1459 : Cond.lays "FoldedArchiveModel" "FoldedArchiveModel" "thrown" "I" ∈ GW := GW_t6 171 rfl rfl
theorem gw_1461 : Cond.laysFinal "FoldedArchiveModel" "FoldedArchiveModel" "s" "[I" ∈ GW := GW_t6 173 rfl rfl
theorem gw_1463 : Cond.laysFinal "FoldedArchiveModel" "FoldedArchiveModel" "frame" "[I" ∈ GW := GW_t6 175 rfl rfl
theorem gw_1465 : Cond.laysFinal "FoldedArchiveModel" "FoldedArchiveModel" "saved" "[I" ∈ GW := GW_t6 177 rfl rfl
theorem gw_1467 : Cond.laysFinal "FoldedArchiveModel" "FoldedArchiveModel" "history" "[I" ∈ GW := GW_t6 179 rfl rfl
theorem gw_1469 : Cond.lays "FoldedArchiveModel" "FoldedArchiveModel" "kept" "I" ∈ GW := GW_t6 181 rfl rfl
theorem gw_1471 : Cond.lays "FoldedArchiveModel" "FoldedArchiveModel" "hasSaved" "Z" ∈ GW := GW_t6 183 rfl rfl
theorem gw_1473 : Cond.laysFinal "FoldedArchiveModel" "FoldedArchiveModel" "text" "[I" ∈ GW := GW_t6 185 rfl rfl
theorem gw_1475 : Cond.laysFinal "FoldedArchiveModel" "FoldedArchiveModel" "told" "[I" ∈ GW := GW_t6 187 rfl rfl
theorem gw_1477 : Cond.laysFinal "FoldedArchiveModel" "FoldedArchiveModel" "out" "[I" ∈ GW := GW_t6 189 rfl rfl
theorem gw_1479 : Cond.laysFinal "FoldedArchiveModel" "FoldedArchiveModel" "layers" "[I" ∈ GW := GW_t6 191 rfl rfl
theorem gw_1481 : Cond.lays "FoldedArchiveModel" "FoldedArchiveModel" "fed" "I" ∈ GW := GW_t6 193 rfl rfl
theorem gw_1483 : Cond.lays "FoldedArchiveModel" "FoldedArchiveModel" "outLength" "I" ∈ GW := GW_t6 195 rfl rfl
theorem gw_1485 : Cond.lays "FoldedArchiveModel" "FoldedArchiveModel" "faultAt" "I" ∈ GW := GW_t6 197 rfl rfl
theorem gw_1487 : Cond.lays "FoldedArchiveModel" "FoldedArchiveModel" "answer" "I" ∈ GW := GW_t6 199 rfl rfl
theorem gw_1489 : Cond.lays "FoldedArchiveModel" "FoldedArchiveModel" "why" "I" ∈ GW := GW_t6 201 rfl rfl
theorem gw_1491 : Cond.lays "FoldedArchiveModel" "FoldedArchiveModel" "detail" "I" ∈ GW := GW_t6 203 rfl rfl
theorem gw_1493 : Cond.lays "FoldedArchiveModel" "FoldedArchiveModel" "cause" "I" ∈ GW := GW_t6 205 rfl rfl
theorem gw_1495 : Cond.lays "FoldedArchiveModel" "FoldedArchiveModel" "spot" "I" ∈ GW := GW_t6 207 rfl rfl
theorem gw_1497 : Cond.lays "FoldedArchiveModel" "FoldedArchiveModel" "end" "I" ∈ GW := GW_t6 209 rfl rfl
theorem gw_1499 : Cond.lays "FoldedArchiveModel" "FoldedArchiveModel" "commands" "I" ∈ GW := GW_t6 211 rfl rfl
theorem gw_1501 : Cond.lays "FoldedArchiveModel" "FoldedArchiveModel" "open" "I" ∈ GW := GW_t6 213 rfl rfl
theorem gw_1503 : Cond.lays "FoldedArchiveModel" "FoldedArchiveModel" "isWrong" "Z" ∈ GW := GW_t6 215 rfl rfl
theorem inG_X11 : ∀ w ∈ u_ws RX11 TX11 23, w ∈ GW := by
  have e : u_ws RX11 TX11 23 = [u_lay RX11 TX11 0, u_lay RX11 TX11 1, u_lay RX11 TX11 2, u_lay RX11 TX11 3, u_lay RX11 TX11 4, u_lay RX11 TX11 5, u_lay RX11 TX11 6, u_lay RX11 TX11 7, u_lay RX11 TX11 8, u_lay RX11 TX11 9, u_lay RX11 TX11 10, u_lay RX11 TX11 11, u_lay RX11 TX11 12, u_lay RX11 TX11 13, u_lay RX11 TX11 14, u_lay RX11 TX11 15, u_lay RX11 TX11 16, u_lay RX11 TX11 17, u_lay RX11 TX11 18, u_lay RX11 TX11 19, u_lay RX11 TX11 20, u_lay RX11 TX11 21, u_lay RX11 TX11 22] := rfl
  rw [e]
  exact List.forall_mem_cons.mpr ⟨gw_1459, List.forall_mem_cons.mpr ⟨gw_1461, List.forall_mem_cons.mpr ⟨gw_1463, List.forall_mem_cons.mpr ⟨gw_1465, List.forall_mem_cons.mpr ⟨gw_1467, List.forall_mem_cons.mpr ⟨gw_1469, List.forall_mem_cons.mpr ⟨gw_1471, List.forall_mem_cons.mpr ⟨gw_1473, List.forall_mem_cons.mpr ⟨gw_1475, List.forall_mem_cons.mpr ⟨gw_1477, List.forall_mem_cons.mpr ⟨gw_1479, List.forall_mem_cons.mpr ⟨gw_1481, List.forall_mem_cons.mpr ⟨gw_1483, List.forall_mem_cons.mpr ⟨gw_1485, List.forall_mem_cons.mpr ⟨gw_1487, List.forall_mem_cons.mpr ⟨gw_1489, List.forall_mem_cons.mpr ⟨gw_1491, List.forall_mem_cons.mpr ⟨gw_1493, List.forall_mem_cons.mpr ⟨gw_1495, List.forall_mem_cons.mpr ⟨gw_1497, List.forall_mem_cons.mpr ⟨gw_1499, List.forall_mem_cons.mpr ⟨gw_1501, List.forall_mem_cons.mpr ⟨gw_1503, fun _ h => absurd h List.not_mem_nil⟩⟩⟩⟩⟩⟩⟩⟩⟩⟩⟩⟩⟩⟩⟩⟩⟩⟩⟩⟩⟩⟩⟩
theorem fl_X11_38 : FL RX11 38 11 0 "I" false := ⟨RX11, TX11, 23, tyX11, rfl, inG_X11, by decide, gw_1436, tyX11_ok, nmX11, rfl, rfl⟩
theorem tt_141 : TT[141]? = some (0, 11, [none, some 142, some 143, some 144, some 145, none, none, some 146, some 147, some 148, some 149, none, none, none, none, none, none, none, none, none, none, none, none]) := by decide +kernel
theorem gw_1509 : Cond.code yX11_thrown cX11_thrown 1 (some .int) ∈ GW := GW_t6 221 rfl rfl
theorem gw_1541 : Cond.code yX11_fails cX11_fails 2 (some .int) ∈ GW := GW_t7 13 rfl rfl
theorem gw_1556 : Cond.code yX11_in cX11_in 3 (some .boolean) ∈ GW := GW_t7 28 rfl rfl
theorem gw_1438 : Cond.fieldLink "FoldedArchiveModel" 13 "FoldedArchiveModel" "frame" "[I" ∈ GW := GW_t6 150 rfl rfl
theorem fl_X11_13 : FL RX11 13 11 2 "[I" true := ⟨RX11, TX11, 23, tyX11, rfl, inG_X11, by decide, gw_1438, tyX11_ok, nmX11, rfl, rfl⟩
theorem gw_1437 : Cond.fieldLink "FoldedArchiveModel" 7 "FoldedArchiveModel" "s" "[I" ∈ GW := GW_t6 149 rfl rfl
theorem fl_X11_7 : FL RX11 7 11 1 "[I" true := ⟨RX11, TX11, 23, tyX11, rfl, inG_X11, by decide, gw_1437, tyX11_ok, nmX11, rfl, rfl⟩
theorem tt_142 : TT[142]? = some (1, 66, []) := by decide +kernel
theorem tt_143 : TT[143]? = some (1, 66, []) := by decide +kernel
theorem gw_1517 : Cond.code yX11_remembers cX11_remembers 2 none ∈ GW := GW_t6 229 rfl rfl
theorem gw_1441 : Cond.fieldLink "FoldedArchiveModel" 41 "FoldedArchiveModel" "kept" "I" ∈ GW := GW_t6 153 rfl rfl
theorem fl_X11_41 : FL RX11 41 11 5 "I" false := ⟨RX11, TX11, 23, tyX11, rfl, inG_X11, by decide, gw_1441, tyX11_ok, nmX11, rfl, rfl⟩
theorem gw_1440 : Cond.fieldLink "FoldedArchiveModel" 19 "FoldedArchiveModel" "history" "[I" ∈ GW := GW_t6 152 rfl rfl
theorem fl_X11_19 : FL RX11 19 11 4 "[I" true := ⟨RX11, TX11, 23, tyX11, rfl, inG_X11, by decide, gw_1440, tyX11_ok, nmX11, rfl, rfl⟩
theorem tt_145 : TT[145]? = some (1, 528, []) := by decide +kernel
theorem gw_1537 : Cond.code yX11_changed cX11_changed 3 (some .int) ∈ GW := GW_t7 9 rfl rfl
theorem gw_1450 : Cond.fieldLink "FoldedArchiveModel" 44 "FoldedArchiveModel" "answer" "I" ∈ GW := GW_t6 162 rfl rfl
theorem fl_X11_44 : FL RX11 44 11 14 "I" false := ⟨RX11, TX11, 23, tyX11, rfl, inG_X11, by decide, gw_1450, tyX11_ok, nmX11, rfl, rfl⟩
theorem gw_1529 : Cond.code yX11_done cX11_done 2 (some .int) ∈ GW := GW_t7 1 rfl rfl
theorem gw_1451 : Cond.fieldLink "FoldedArchiveModel" 47 "FoldedArchiveModel" "why" "I" ∈ GW := GW_t6 163 rfl rfl
theorem fl_X11_47 : FL RX11 47 11 15 "I" false := ⟨RX11, TX11, 23, tyX11, rfl, inG_X11, by decide, gw_1451, tyX11_ok, nmX11, rfl, rfl⟩
theorem gw_1452 : Cond.fieldLink "FoldedArchiveModel" 50 "FoldedArchiveModel" "detail" "I" ∈ GW := GW_t6 164 rfl rfl
theorem fl_X11_50 : FL RX11 50 11 16 "I" false := ⟨RX11, TX11, 23, tyX11, rfl, inG_X11, by decide, gw_1452, tyX11_ok, nmX11, rfl, rfl⟩
theorem gw_1453 : Cond.fieldLink "FoldedArchiveModel" 53 "FoldedArchiveModel" "cause" "I" ∈ GW := GW_t6 165 rfl rfl
theorem fl_X11_53 : FL RX11 53 11 17 "I" false := ⟨RX11, TX11, 23, tyX11, rfl, inG_X11, by decide, gw_1453, tyX11_ok, nmX11, rfl, rfl⟩
theorem gw_1525 : Cond.code yX11_denied cX11_denied 3 (some .int) ∈ GW := GW_t6 237 rfl rfl
theorem gw_1538 : Cond.methodLink "FoldedArchiveModel" 60 yX11_fails ∈ GW := GW_t7 10 rfl rfl
theorem gw_1540 : Cond.instanceMethod yX11_fails ∈ GW := GW_t7 12 rfl rfl
theorem gw_48 : Cond.selects yX11_fails.cls yX11_fails yX11_fails ∈ GW := GW_pr 48 (q := (yX11_fails, 23)) rfl
theorem gw_101 : Cond.initialized "FoldedArchiveModel" ∈ GW := GW_t1 13 rfl rfl
theorem cv_X11_60 : CV RX11 60 yX11_fails cX11_fails 2 (some .int) 1 := ⟨gw_1538, gw_1540, gw_48, gw_101, gw_1541, by decide +kernel, by decide +kernel⟩
theorem gw_1534 : Cond.methodLink "FoldedArchiveModel" 56 yX11_changed ∈ GW := GW_t7 6 rfl rfl
theorem gw_1536 : Cond.instanceMethod yX11_changed ∈ GW := GW_t7 8 rfl rfl
theorem gw_47 : Cond.selects yX11_changed.cls yX11_changed yX11_changed ∈ GW := GW_pr 47 (q := (yX11_changed, 23)) rfl
theorem cv_X11_56 : CV RX11 56 yX11_changed cX11_changed 3 (some .int) 1 := ⟨gw_1534, gw_1536, gw_47, gw_101, gw_1537, by decide +kernel, by decide +kernel⟩
theorem gw_1533 : Cond.code yX11_ends cX11_ends 3 (some .int) ∈ GW := GW_t7 5 rfl rfl
theorem gw_1554 : Cond.methodLink "FoldedArchiveModel" 63 yX11_in ∈ GW := GW_t7 26 rfl rfl
theorem gw_1555 : Cond.static yX11_in ∈ GW := GW_t7 27 rfl rfl
theorem cs_X11_63 : CS RX11 63 yX11_in cX11_in 3 (some .boolean) 3 := ⟨gw_1554, gw_1555, gw_101, gw_1556, by decide +kernel, by decide +kernel⟩
theorem gw_1553 : Cond.code yX11_isSection cX11_isSection 2 (some .boolean) ∈ GW := GW_t7 25 rfl rfl
theorem gw_1684 : Cond.code yX11_isPipe cX11_isPipe 2 (some .boolean) ∈ GW := GW_t7 156 rfl rfl
theorem gw_1567 : Cond.code yX11_isTerm cX11_isTerm 1 (some .boolean) ∈ GW := GW_t7 39 rfl rfl
theorem gw_1571 : Cond.code yX11_has cX11_has 3 (some .boolean) ∈ GW := GW_t7 43 rfl rfl
theorem gw_1568 : Cond.methodLink "FoldedArchiveModel" 67 yX11_has ∈ GW := GW_t7 40 rfl rfl
theorem gw_1570 : Cond.instanceMethod yX11_has ∈ GW := GW_t7 42 rfl rfl
theorem gw_52 : Cond.selects yX11_has.cls yX11_has yX11_has ∈ GW := GW_pr 52 (q := (yX11_has, 23)) rfl
theorem cv_X11_67 : CV RX11 67 yX11_has cX11_has 3 (some .boolean) 2 := ⟨gw_1568, gw_1570, gw_52, gw_101, gw_1571, by decide +kernel, by decide +kernel⟩
theorem gw_1575 : Cond.code yX11_terms cX11_terms 4 (some .int) ∈ GW := GW_t7 47 rfl rfl
theorem gw_1696 : Cond.code yX11_pipe cX11_pipe 3 (some .int) ∈ GW := GW_t7 168 rfl rfl
theorem gw_1693 : Cond.methodLink "FoldedArchiveModel" 71 yX11_pipe ∈ GW := GW_t7 165 rfl rfl
theorem gw_1695 : Cond.instanceMethod yX11_pipe ∈ GW := GW_t7 167 rfl rfl
theorem gw_66 : Cond.selects yX11_pipe.cls yX11_pipe yX11_pipe ∈ GW := GW_pr 66 (q := (yX11_pipe, 23)) rfl
theorem cv_X11_71 : CV RX11 71 yX11_pipe cX11_pipe 3 (some .int) 2 := ⟨gw_1693, gw_1695, gw_66, gw_101, gw_1696, by decide +kernel, by decide +kernel⟩
theorem gw_1700 : Cond.code yX11_broken cX11_broken 3 (some .int) ∈ GW := GW_t7 172 rfl rfl
theorem gw_1446 : Cond.fieldLink "FoldedArchiveModel" 31 "FoldedArchiveModel" "layers" "[I" ∈ GW := GW_t6 158 rfl rfl
theorem fl_X11_31 : FL RX11 31 11 10 "[I" true := ⟨RX11, TX11, 23, tyX11, rfl, inG_X11, by decide, gw_1446, tyX11_ok, nmX11, rfl, rfl⟩
theorem tt_149 : TT[149]? = some (1, 7, []) := by decide +kernel
theorem gw_1619 : Cond.code yX11_lays cX11_lays 3 none ∈ GW := GW_t7 91 rfl rfl
theorem gw_1616 : Cond.methodLink "FoldedArchiveModel" 75 yX11_lays ∈ GW := GW_t7 88 rfl rfl
theorem gw_1618 : Cond.instanceMethod yX11_lays ∈ GW := GW_t7 90 rfl rfl
theorem gw_57 : Cond.selects yX11_lays.cls yX11_lays yX11_lays ∈ GW := GW_pr 57 (q := (yX11_lays, 23)) rfl
theorem cv_X11_75 : CV RX11 75 yX11_lays cX11_lays 3 none 1 := ⟨gw_1616, gw_1618, gw_57, gw_101, gw_1619, by decide +kernel, by decide +kernel⟩
theorem gw_1615 : Cond.code yX11_crossed cX11_crossed 8 (some .int) ∈ GW := GW_t7 87 rfl rfl
theorem gw_1623 : Cond.code yX11_puts cX11_puts 4 none ∈ GW := GW_t7 95 rfl rfl
theorem gw_1635 : Cond.code yX11_takes cX11_takes 4 (some .int) ∈ GW := GW_t7 107 rfl rfl
theorem gw_1612 : Cond.methodLink "FoldedArchiveModel" 79 yX11_crossed ∈ GW := GW_t7 84 rfl rfl
theorem gw_1614 : Cond.instanceMethod yX11_crossed ∈ GW := GW_t7 86 rfl rfl
theorem gw_56 : Cond.selects yX11_crossed.cls yX11_crossed yX11_crossed ∈ GW := GW_pr 56 (q := (yX11_crossed, 23)) rfl
theorem cv_X11_79 : CV RX11 79 yX11_crossed cX11_crossed 8 (some .int) 1 := ⟨gw_1612, gw_1614, gw_56, gw_101, gw_1615, by decide +kernel, by decide +kernel⟩
theorem gw_1620 : Cond.methodLink "FoldedArchiveModel" 82 yX11_puts ∈ GW := GW_t7 92 rfl rfl
theorem gw_1622 : Cond.instanceMethod yX11_puts ∈ GW := GW_t7 94 rfl rfl
theorem gw_58 : Cond.selects yX11_puts.cls yX11_puts yX11_puts ∈ GW := GW_pr 58 (q := (yX11_puts, 23)) rfl
theorem cv_X11_82 : CV RX11 82 yX11_puts cX11_puts 4 none 1 := ⟨gw_1620, gw_1622, gw_58, gw_101, gw_1623, by decide +kernel, by decide +kernel⟩
theorem gw_1656 : Cond.methodLink "FoldedArchiveModel" 85 yX11_ways ∈ GW := GW_t7 128 rfl rfl
theorem gw_1658 : Cond.instanceMethod yX11_ways ∈ GW := GW_t7 130 rfl rfl
theorem gw_61 : Cond.selects yX11_ways.cls yX11_ways yX11_ways ∈ GW := GW_pr 61 (q := (yX11_ways, 23)) rfl
theorem gw_1659 : Cond.code yX11_ways cX11_ways 5 (some .int) ∈ GW := GW_t7 131 rfl rfl
theorem cv_X11_85 : CV RX11 85 yX11_ways cX11_ways 5 (some .int) 0 := ⟨gw_1656, gw_1658, gw_61, gw_101, gw_1659, by decide +kernel, by decide +kernel⟩
theorem gw_1632 : Cond.methodLink "FoldedArchiveModel" 89 yX11_takes ∈ GW := GW_t7 104 rfl rfl
theorem gw_1634 : Cond.instanceMethod yX11_takes ∈ GW := GW_t7 106 rfl rfl
theorem gw_60 : Cond.selects yX11_takes.cls yX11_takes yX11_takes ∈ GW := GW_pr 60 (q := (yX11_takes, 23)) rfl
theorem cv_X11_89 : CV RX11 89 yX11_takes cX11_takes 4 (some .int) 0 := ⟨gw_1632, gw_1634, gw_60, gw_101, gw_1635, by decide +kernel, by decide +kernel⟩
theorem gw_1736 : Cond.code yX11_cut cX11_cut 8 (some .int) ∈ GW := GW_t7 208 rfl rfl
theorem gw_1526 : Cond.methodLink "FoldedArchiveModel" 95 yX11_done ∈ GW := GW_t6 238 rfl rfl
theorem gw_1528 : Cond.instanceMethod yX11_done ∈ GW := GW_t7 0 rfl rfl
theorem gw_45 : Cond.selects yX11_done.cls yX11_done yX11_done ∈ GW := GW_pr 45 (q := (yX11_done, 23)) rfl
theorem cv_X11_95 : CV RX11 95 yX11_done cX11_done 2 (some .int) 1 := ⟨gw_1526, gw_1528, gw_45, gw_101, gw_1529, by decide +kernel, by decide +kernel⟩
theorem gw_1522 : Cond.methodLink "FoldedArchiveModel" 92 yX11_denied ∈ GW := GW_t6 234 rfl rfl
theorem gw_1524 : Cond.instanceMethod yX11_denied ∈ GW := GW_t6 236 rfl rfl
theorem gw_44 : Cond.selects yX11_denied.cls yX11_denied yX11_denied ∈ GW := GW_pr 44 (q := (yX11_denied, 23)) rfl
theorem cv_X11_92 : CV RX11 92 yX11_denied cX11_denied 3 (some .int) 2 := ⟨gw_1522, gw_1524, gw_44, gw_101, gw_1525, by decide +kernel, by decide +kernel⟩
theorem gw_1521 : Cond.code yX11_adds cX11_adds 2 (some .int) ∈ GW := GW_t6 233 rfl rfl
theorem gw_1550 : Cond.methodLink "FoldedArchiveModel" 98 yX11_isSection ∈ GW := GW_t7 22 rfl rfl
theorem gw_1552 : Cond.instanceMethod yX11_isSection ∈ GW := GW_t7 24 rfl rfl
theorem gw_50 : Cond.selects yX11_isSection.cls yX11_isSection yX11_isSection ∈ GW := GW_pr 50 (q := (yX11_isSection, 23)) rfl
theorem cv_X11_98 : CV RX11 98 yX11_isSection cX11_isSection 2 (some .boolean) 1 := ⟨gw_1550, gw_1552, gw_50, gw_101, gw_1553, by decide +kernel, by decide +kernel⟩
theorem gw_1549 : Cond.code yX11_pours cX11_pours 3 (some .int) ∈ GW := GW_t7 21 rfl rfl
theorem gw_1565 : Cond.methodLink "FoldedArchiveModel" 102 yX11_isTerm ∈ GW := GW_t7 37 rfl rfl
theorem gw_1566 : Cond.static yX11_isTerm ∈ GW := GW_t7 38 rfl rfl
theorem cs_X11_102 : CS RX11 102 yX11_isTerm cX11_isTerm 1 (some .boolean) 1 := ⟨gw_1565, gw_1566, gw_101, gw_1567, by decide +kernel, by decide +kernel⟩
theorem gw_1572 : Cond.methodLink "FoldedArchiveModel" 105 yX11_terms ∈ GW := GW_t7 44 rfl rfl
theorem gw_1574 : Cond.instanceMethod yX11_terms ∈ GW := GW_t7 46 rfl rfl
theorem gw_53 : Cond.selects yX11_terms.cls yX11_terms yX11_terms ∈ GW := GW_pr 53 (q := (yX11_terms, 23)) rfl
theorem cv_X11_105 : CV RX11 105 yX11_terms cX11_terms 4 (some .int) 1 := ⟨gw_1572, gw_1574, gw_53, gw_101, gw_1575, by decide +kernel, by decide +kernel⟩
theorem gw_1564 : Cond.code yX11_tags cX11_tags 4 (some .int) ∈ GW := GW_t7 36 rfl rfl
theorem gw_1611 : Cond.code yX11_folds cX11_folds 3 (some .int) ∈ GW := GW_t7 83 rfl rfl
theorem gw_1631 : Cond.code yX11_opens cX11_opens 1 (some .int) ∈ GW := GW_t7 103 rfl rfl
theorem gw_1672 : Cond.code yX11_pipes cX11_pipes 5 (some .int) ∈ GW := GW_t7 144 rfl rfl
theorem gw_1681 : Cond.methodLink "FoldedArchiveModel" 108 yX11_isPipe ∈ GW := GW_t7 153 rfl rfl
theorem gw_1683 : Cond.instanceMethod yX11_isPipe ∈ GW := GW_t7 155 rfl rfl
theorem gw_64 : Cond.selects yX11_isPipe.cls yX11_isPipe yX11_isPipe ∈ GW := GW_pr 64 (q := (yX11_isPipe, 23)) rfl
theorem cv_X11_108 : CV RX11 108 yX11_isPipe cX11_isPipe 2 (some .boolean) 1 := ⟨gw_1681, gw_1683, gw_64, gw_101, gw_1684, by decide +kernel, by decide +kernel⟩
theorem gw_1680 : Cond.code yX11_cuts cX11_cuts 4 (some .int) ∈ GW := GW_t7 152 rfl rfl
theorem gw_1697 : Cond.methodLink "FoldedArchiveModel" 111 yX11_broken ∈ GW := GW_t7 169 rfl rfl
theorem gw_1699 : Cond.instanceMethod yX11_broken ∈ GW := GW_t7 171 rfl rfl
theorem gw_67 : Cond.selects yX11_broken.cls yX11_broken yX11_broken ∈ GW := GW_pr 67 (q := (yX11_broken, 23)) rfl
theorem cv_X11_111 : CV RX11 111 yX11_broken cX11_broken 3 (some .int) 0 := ⟨gw_1697, gw_1699, gw_67, gw_101, gw_1700, by decide +kernel, by decide +kernel⟩
theorem gw_1692 : Cond.code yX11_turns cX11_turns 3 (some .int) ∈ GW := GW_t7 164 rfl rfl
theorem gw_1757 : Cond.code yX11_comes cX11_comes 4 none ∈ GW := GW_t7 229 rfl rfl
theorem gw_1733 : Cond.methodLink "FoldedArchiveModel" 114 yX11_cut ∈ GW := GW_t7 205 rfl rfl
theorem gw_1735 : Cond.instanceMethod yX11_cut ∈ GW := GW_t7 207 rfl rfl
theorem gw_69 : Cond.selects yX11_cut.cls yX11_cut yX11_cut ∈ GW := GW_pr 69 (q := (yX11_cut, 23)) rfl
theorem cv_X11_114 : CV RX11 114 yX11_cut cX11_cut 8 (some .int) 1 := ⟨gw_1733, gw_1735, gw_69, gw_101, gw_1736, by decide +kernel, by decide +kernel⟩
theorem gw_1754 : Cond.methodLink "FoldedArchiveModel" 117 yX11_comes ∈ GW := GW_t7 226 rfl rfl
theorem gw_1756 : Cond.instanceMethod yX11_comes ∈ GW := GW_t7 228 rfl rfl
theorem gw_71 : Cond.selects yX11_comes.cls yX11_comes yX11_comes ∈ GW := GW_pr 71 (q := (yX11_comes, 23)) rfl
theorem cv_X11_117 : CV RX11 117 yX11_comes cX11_comes 4 none 2 := ⟨gw_1754, gw_1756, gw_71, gw_101, gw_1757, by decide +kernel, by decide +kernel⟩
theorem gw_1753 : Cond.code yX11_drains cX11_drains 5 (some .int) ∈ GW := GW_t7 225 rfl rfl
theorem gw_1765 : Cond.code yX11_seeps cX11_seeps 5 (some .int) ∈ GW := GW_t7 237 rfl rfl
theorem gw_1514 : Cond.methodLink "FoldedArchiveModel" 121 yX11_remembers ∈ GW := GW_t6 226 rfl rfl
theorem gw_1516 : Cond.instanceMethod yX11_remembers ∈ GW := GW_t6 228 rfl rfl
theorem gw_42 : Cond.selects yX11_remembers.cls yX11_remembers yX11_remembers ∈ GW := GW_pr 42 (q := (yX11_remembers, 23)) rfl
theorem cv_X11_121 : CV RX11 121 yX11_remembers cX11_remembers 2 none 0 := ⟨gw_1514, gw_1516, gw_42, gw_101, gw_1517, by decide +kernel, by decide +kernel⟩
theorem gw_1518 : Cond.methodLink "FoldedArchiveModel" 124 yX11_adds ∈ GW := GW_t6 230 rfl rfl
theorem gw_1520 : Cond.instanceMethod yX11_adds ∈ GW := GW_t6 232 rfl rfl
theorem gw_43 : Cond.selects yX11_adds.cls yX11_adds yX11_adds ∈ GW := GW_pr 43 (q := (yX11_adds, 23)) rfl
theorem cv_X11_124 : CV RX11 124 yX11_adds cX11_adds 2 (some .int) 0 := ⟨gw_1518, gw_1520, gw_43, gw_101, gw_1521, by decide +kernel, by decide +kernel⟩
theorem gw_1530 : Cond.methodLink "FoldedArchiveModel" 127 yX11_ends ∈ GW := GW_t7 2 rfl rfl
theorem gw_1532 : Cond.instanceMethod yX11_ends ∈ GW := GW_t7 4 rfl rfl
theorem gw_46 : Cond.selects yX11_ends.cls yX11_ends yX11_ends ∈ GW := GW_pr 46 (q := (yX11_ends, 23)) rfl
theorem cv_X11_127 : CV RX11 127 yX11_ends cX11_ends 3 (some .int) 2 := ⟨gw_1530, gw_1532, gw_46, gw_101, gw_1533, by decide +kernel, by decide +kernel⟩
theorem gw_1513 : Cond.code yX11_addSection cX11_addSection 1 (some .int) ∈ GW := GW_t6 225 rfl rfl
theorem gw_1546 : Cond.methodLink "FoldedArchiveModel" 130 yX11_pours ∈ GW := GW_t7 18 rfl rfl
theorem gw_1548 : Cond.instanceMethod yX11_pours ∈ GW := GW_t7 20 rfl rfl
theorem gw_49 : Cond.selects yX11_pours.cls yX11_pours yX11_pours ∈ GW := GW_pr 49 (q := (yX11_pours, 23)) rfl
theorem cv_X11_130 : CV RX11 130 yX11_pours cX11_pours 3 (some .int) 2 := ⟨gw_1546, gw_1548, gw_49, gw_101, gw_1549, by decide +kernel, by decide +kernel⟩
theorem gw_1545 : Cond.code yX11_pour cX11_pour 3 (some .int) ∈ GW := GW_t7 17 rfl rfl
theorem gw_1561 : Cond.methodLink "FoldedArchiveModel" 133 yX11_tags ∈ GW := GW_t7 33 rfl rfl
theorem gw_1563 : Cond.instanceMethod yX11_tags ∈ GW := GW_t7 35 rfl rfl
theorem gw_51 : Cond.selects yX11_tags.cls yX11_tags yX11_tags ∈ GW := GW_pr 51 (q := (yX11_tags, 23)) rfl
theorem cv_X11_133 : CV RX11 133 yX11_tags cX11_tags 4 (some .int) 3 := ⟨gw_1561, gw_1563, gw_51, gw_101, gw_1564, by decide +kernel, by decide +kernel⟩
theorem gw_1560 : Cond.code yX11_tag cX11_tag 3 (some .int) ∈ GW := GW_t7 32 rfl rfl
theorem gw_1579 : Cond.code yX11_untag cX11_untag 3 (some .int) ∈ GW := GW_t7 51 rfl rfl
theorem gw_1583 : Cond.code yX11_sectionCount cX11_sectionCount 1 (some .int) ∈ GW := GW_t7 55 rfl rfl
theorem gw_1587 : Cond.code yX11_water cX11_water 2 (some .int) ∈ GW := GW_t7 59 rfl rfl
theorem gw_1591 : Cond.code yX11_hasTerm cX11_hasTerm 3 (some .boolean) ∈ GW := GW_t7 63 rfl rfl
theorem gw_1595 : Cond.code yX11_sectionsWith cX11_sectionsWith 4 (some .int) ∈ GW := GW_t7 67 rfl rfl
theorem gw_1603 : Cond.code yX11_isAhead cX11_isAhead 3 (some .boolean) ∈ GW := GW_t7 75 rfl rfl
theorem gw_1600 : Cond.methodLink "FoldedArchiveModel" 137 yX11_isAhead ∈ GW := GW_t7 72 rfl rfl
theorem gw_1602 : Cond.instanceMethod yX11_isAhead ∈ GW := GW_t7 74 rfl rfl
theorem gw_54 : Cond.selects yX11_isAhead.cls yX11_isAhead yX11_isAhead ∈ GW := GW_pr 54 (q := (yX11_isAhead, 23)) rfl
theorem cv_X11_137 : CV RX11 137 yX11_isAhead cX11_isAhead 3 (some .boolean) 2 := ⟨gw_1600, gw_1602, gw_54, gw_101, gw_1603, by decide +kernel, by decide +kernel⟩
theorem gw_1599 : Cond.code yX11_sectionByWater cX11_sectionByWater 5 (some .int) ∈ GW := GW_t7 71 rfl rfl
theorem gw_1608 : Cond.methodLink "FoldedArchiveModel" 140 yX11_folds ∈ GW := GW_t7 80 rfl rfl
theorem gw_1610 : Cond.instanceMethod yX11_folds ∈ GW := GW_t7 82 rfl rfl
theorem gw_55 : Cond.selects yX11_folds.cls yX11_folds yX11_folds ∈ GW := GW_pr 55 (q := (yX11_folds, 23)) rfl
theorem cv_X11_140 : CV RX11 140 yX11_folds cX11_folds 3 (some .int) 1 := ⟨gw_1608, gw_1610, gw_55, gw_101, gw_1611, by decide +kernel, by decide +kernel⟩
theorem gw_1607 : Cond.code yX11_fold cX11_fold 2 (some .int) ∈ GW := GW_t7 79 rfl rfl
theorem gw_1628 : Cond.methodLink "FoldedArchiveModel" 143 yX11_opens ∈ GW := GW_t7 100 rfl rfl
theorem gw_1630 : Cond.instanceMethod yX11_opens ∈ GW := GW_t7 102 rfl rfl
theorem gw_59 : Cond.selects yX11_opens.cls yX11_opens yX11_opens ∈ GW := GW_pr 59 (q := (yX11_opens, 23)) rfl
theorem cv_X11_143 : CV RX11 143 yX11_opens cX11_opens 1 (some .int) 0 := ⟨gw_1628, gw_1630, gw_59, gw_101, gw_1631, by decide +kernel, by decide +kernel⟩
theorem gw_1627 : Cond.code yX11_unfold cX11_unfold 1 (some .int) ∈ GW := GW_t7 99 rfl rfl
theorem gw_1639 : Cond.code yX11_foldedCount cX11_foldedCount 1 (some .int) ∈ GW := GW_t7 111 rfl rfl
theorem gw_1643 : Cond.code yX11_layerOf cX11_layerOf 3 (some .int) ∈ GW := GW_t7 115 rfl rfl
theorem gw_1647 : Cond.code yX11_sectionIn cX11_sectionIn 2 (some .int) ∈ GW := GW_t7 119 rfl rfl
theorem gw_1651 : Cond.code yX11_canFold cX11_canFold 2 (some .boolean) ∈ GW := GW_t7 123 rfl rfl
theorem gw_1655 : Cond.code yX11_completions cX11_completions 1 (some .int) ∈ GW := GW_t7 127 rfl rfl
theorem gw_1664 : Cond.methodLink "FoldedArchiveModel" 146 yX11_completions ∈ GW := GW_t7 136 rfl rfl
theorem gw_1653 : Cond.instanceMethod yX11_completions ∈ GW := GW_t7 125 rfl rfl
theorem gw_1654 : Cond.selects yX11_completions.cls yX11_completions yX11_completions ∈ GW := GW_t7 126 rfl rfl
theorem cv_X11_146 : CV RX11 146 yX11_completions cX11_completions 1 (some .int) 0 := ⟨gw_1664, gw_1653, gw_1654, gw_101, gw_1655, by decide +kernel, by decide +kernel⟩
theorem gw_1663 : Cond.code yX11_completionsByOrders cX11_completionsByOrders 1 (some .int) ∈ GW := GW_t7 135 rfl rfl
theorem gw_1669 : Cond.methodLink "FoldedArchiveModel" 149 yX11_pipes ∈ GW := GW_t7 141 rfl rfl
theorem gw_1671 : Cond.instanceMethod yX11_pipes ∈ GW := GW_t7 143 rfl rfl
theorem gw_62 : Cond.selects yX11_pipes.cls yX11_pipes yX11_pipes ∈ GW := GW_pr 62 (q := (yX11_pipes, 23)) rfl
theorem cv_X11_149 : CV RX11 149 yX11_pipes cX11_pipes 5 (some .int) 3 := ⟨gw_1669, gw_1671, gw_62, gw_101, gw_1672, by decide +kernel, by decide +kernel⟩
theorem gw_1668 : Cond.code yX11_layPipe cX11_layPipe 4 (some .int) ∈ GW := GW_t7 140 rfl rfl
theorem gw_1677 : Cond.methodLink "FoldedArchiveModel" 153 yX11_cuts ∈ GW := GW_t7 149 rfl rfl
theorem gw_1679 : Cond.instanceMethod yX11_cuts ∈ GW := GW_t7 151 rfl rfl
theorem gw_63 : Cond.selects yX11_cuts.cls yX11_cuts yX11_cuts ∈ GW := GW_pr 63 (q := (yX11_cuts, 23)) rfl
theorem cv_X11_153 : CV RX11 153 yX11_cuts cX11_cuts 4 (some .int) 1 := ⟨gw_1677, gw_1679, gw_63, gw_101, gw_1680, by decide +kernel, by decide +kernel⟩
theorem gw_1676 : Cond.code yX11_removePipe cX11_removePipe 2 (some .int) ∈ GW := GW_t7 148 rfl rfl
theorem gw_1689 : Cond.methodLink "FoldedArchiveModel" 156 yX11_turns ∈ GW := GW_t7 161 rfl rfl
theorem gw_1691 : Cond.instanceMethod yX11_turns ∈ GW := GW_t7 163 rfl rfl
theorem gw_65 : Cond.selects yX11_turns.cls yX11_turns yX11_turns ∈ GW := GW_pr 65 (q := (yX11_turns, 23)) rfl
theorem cv_X11_156 : CV RX11 156 yX11_turns cX11_turns 3 (some .int) 2 := ⟨gw_1689, gw_1691, gw_65, gw_101, gw_1692, by decide +kernel, by decide +kernel⟩
theorem gw_1688 : Cond.code yX11_breakPipe cX11_breakPipe 2 (some .int) ∈ GW := GW_t7 160 rfl rfl
theorem gw_1704 : Cond.code yX11_mendPipe cX11_mendPipe 2 (some .int) ∈ GW := GW_t7 176 rfl rfl
theorem gw_1708 : Cond.code yX11_pipeCount cX11_pipeCount 1 (some .int) ∈ GW := GW_t7 180 rfl rfl
theorem gw_1716 : Cond.code yX11_asked cX11_asked 3 (some .int) ∈ GW := GW_t7 188 rfl rfl
theorem gw_1713 : Cond.methodLink "FoldedArchiveModel" 159 yX11_asked ∈ GW := GW_t7 185 rfl rfl
theorem gw_1715 : Cond.instanceMethod yX11_asked ∈ GW := GW_t7 187 rfl rfl
theorem gw_68 : Cond.selects yX11_asked.cls yX11_asked yX11_asked ∈ GW := GW_pr 68 (q := (yX11_asked, 23)) rfl
theorem cv_X11_159 : CV RX11 159 yX11_asked cX11_asked 3 (some .int) 2 := ⟨gw_1713, gw_1715, gw_68, gw_101, gw_1716, by decide +kernel, by decide +kernel⟩
theorem gw_1712 : Cond.code yX11_pipeFrom cX11_pipeFrom 2 (some .int) ∈ GW := GW_t7 184 rfl rfl
theorem gw_1720 : Cond.code yX11_pipeTo cX11_pipeTo 2 (some .int) ∈ GW := GW_t7 192 rfl rfl
theorem gw_1724 : Cond.code yX11_capacity cX11_capacity 2 (some .int) ∈ GW := GW_t7 196 rfl rfl
theorem gw_1728 : Cond.code yX11_isBroken cX11_isBroken 2 (some .boolean) ∈ GW := GW_t7 200 rfl rfl
theorem gw_1732 : Cond.code yX11_greatestFlow cX11_greatestFlow 2 (some .int) ∈ GW := GW_t7 204 rfl rfl
theorem gw_1741 : Cond.methodLink "FoldedArchiveModel" 162 yX11_greatestFlow ∈ GW := GW_t7 213 rfl rfl
theorem gw_1730 : Cond.instanceMethod yX11_greatestFlow ∈ GW := GW_t7 202 rfl rfl
theorem gw_1731 : Cond.selects yX11_greatestFlow.cls yX11_greatestFlow yX11_greatestFlow ∈ GW := GW_t7 203 rfl rfl
theorem cv_X11_162 : CV RX11 162 yX11_greatestFlow cX11_greatestFlow 2 (some .int) 0 := ⟨gw_1741, gw_1730, gw_1731, gw_101, gw_1732, by decide +kernel, by decide +kernel⟩
theorem gw_1740 : Cond.code yX11_smallestCut cX11_smallestCut 1 (some .int) ∈ GW := GW_t7 212 rfl rfl
theorem gw_1745 : Cond.code yX11_lossOf cX11_lossOf 2 (some .int) ∈ GW := GW_t7 217 rfl rfl
theorem gw_1750 : Cond.methodLink "FoldedArchiveModel" 165 yX11_drains ∈ GW := GW_t7 222 rfl rfl
theorem gw_1752 : Cond.instanceMethod yX11_drains ∈ GW := GW_t7 224 rfl rfl
theorem gw_70 : Cond.selects yX11_drains.cls yX11_drains yX11_drains ∈ GW := GW_pr 70 (q := (yX11_drains, 23)) rfl
theorem cv_X11_165 : CV RX11 165 yX11_drains cX11_drains 5 (some .int) 0 := ⟨gw_1750, gw_1752, gw_70, gw_101, gw_1753, by decide +kernel, by decide +kernel⟩
theorem gw_1749 : Cond.code yX11_drain cX11_drain 1 (some .int) ∈ GW := GW_t7 221 rfl rfl
theorem gw_1762 : Cond.methodLink "FoldedArchiveModel" 168 yX11_seeps ∈ GW := GW_t7 234 rfl rfl
theorem gw_1764 : Cond.instanceMethod yX11_seeps ∈ GW := GW_t7 236 rfl rfl
theorem gw_72 : Cond.selects yX11_seeps.cls yX11_seeps yX11_seeps ∈ GW := GW_pr 72 (q := (yX11_seeps, 23)) rfl
theorem cv_X11_168 : CV RX11 168 yX11_seeps cX11_seeps 5 (some .int) 0 := ⟨gw_1762, gw_1764, gw_72, gw_101, gw_1765, by decide +kernel, by decide +kernel⟩
theorem gw_1761 : Cond.code yX11_seep cX11_seep 1 (some .int) ∈ GW := GW_t7 233 rfl rfl
theorem gw_1773 : Cond.code yX11_all cX11_all 3 (some .int) ∈ GW := GW_t8 5 rfl rfl
theorem gw_1770 : Cond.methodLink "FoldedArchiveModel" 171 yX11_all ∈ GW := GW_t8 2 rfl rfl
theorem gw_1772 : Cond.instanceMethod yX11_all ∈ GW := GW_t8 4 rfl rfl
theorem gw_73 : Cond.selects yX11_all.cls yX11_all yX11_all ∈ GW := GW_pr 73 (q := (yX11_all, 23)) rfl
theorem cv_X11_171 : CV RX11 171 yX11_all cX11_all 3 (some .int) 0 := ⟨gw_1770, gw_1772, gw_73, gw_101, gw_1773, by decide +kernel, by decide +kernel⟩
theorem gw_1769 : Cond.code yX11_totalWater cX11_totalWater 1 (some .int) ∈ GW := GW_t8 1 rfl rfl
theorem gw_1778 : Cond.methodLink "FoldedArchiveModel" 174 yX11_totalWater ∈ GW := GW_t8 10 rfl rfl
theorem gw_1767 : Cond.instanceMethod yX11_totalWater ∈ GW := GW_t7 239 rfl rfl
theorem gw_1768 : Cond.selects yX11_totalWater.cls yX11_totalWater yX11_totalWater ∈ GW := GW_t8 0 rfl rfl
theorem cv_X11_174 : CV RX11 174 yX11_totalWater cX11_totalWater 1 (some .int) 0 := ⟨gw_1778, gw_1767, gw_1768, gw_101, gw_1769, by decide +kernel, by decide +kernel⟩
theorem gw_1777 : Cond.code yX11_totalWaterByAccounts cX11_totalWaterByAccounts 1 (some .int) ∈ GW := GW_t8 9 rfl rfl
theorem gw_1782 : Cond.code yX11_poured cX11_poured 1 (some .int) ∈ GW := GW_t8 14 rfl rfl
theorem gw_1786 : Cond.code yX11_leaked cX11_leaked 1 (some .int) ∈ GW := GW_t8 18 rfl rfl
theorem gw_1790 : Cond.code yX11_meanWater cX11_meanWater 1 (some .double) ∈ GW := GW_t8 22 rfl rfl
theorem gw_1794 : Cond.code yX11_leakedShare cX11_leakedShare 1 (some .float) ∈ GW := GW_t8 26 rfl rfl
theorem gw_1447 : Cond.fieldLink "FoldedArchiveModel" 177 "FoldedArchiveModel" "fed" "I" ∈ GW := GW_t6 159 rfl rfl
theorem fl_X11_177 : FL RX11 177 11 11 "I" false := ⟨RX11, TX11, 23, tyX11, rfl, inG_X11, by decide, gw_1447, tyX11_ok, nmX11, rfl, rfl⟩
theorem gw_1443 : Cond.fieldLink "FoldedArchiveModel" 22 "FoldedArchiveModel" "text" "[I" ∈ GW := GW_t6 155 rfl rfl
theorem fl_X11_22 : FL RX11 22 11 7 "[I" true := ⟨RX11, TX11, 23, tyX11, rfl, inG_X11, by decide, gw_1443, tyX11_ok, nmX11, rfl, rfl⟩
theorem tt_146 : TT[146]? = some (1, 60, []) := by decide +kernel
theorem gw_1798 : Cond.code yX11_feed cX11_feed 2 (some .int) ∈ GW := GW_t8 30 rfl rfl
theorem gw_1802 : Cond.code yX11_clearText cX11_clearText 2 (some .int) ∈ GW := GW_t8 34 rfl rfl
theorem gw_1454 : Cond.fieldLink "FoldedArchiveModel" 180 "FoldedArchiveModel" "spot" "I" ∈ GW := GW_t6 166 rfl rfl
theorem fl_X11_180 : FL RX11 180 11 18 "I" false := ⟨RX11, TX11, 23, tyX11, rfl, inG_X11, by decide, gw_1454, tyX11_ok, nmX11, rfl, rfl⟩
theorem gw_1455 : Cond.fieldLink "FoldedArchiveModel" 183 "FoldedArchiveModel" "end" "I" ∈ GW := GW_t6 167 rfl rfl
theorem fl_X11_183 : FL RX11 183 11 19 "I" false := ⟨RX11, TX11, 23, tyX11, rfl, inG_X11, by decide, gw_1455, tyX11_ok, nmX11, rfl, rfl⟩
theorem gw_1826 : Cond.code yX11_here cX11_here 2 (some .int) ∈ GW := GW_t8 58 rfl rfl
theorem gw_1830 : Cond.code yX11_every cX11_every 1 (some .int) ∈ GW := GW_t8 62 rfl rfl
theorem gw_1823 : Cond.methodLink "FoldedArchiveModel" 186 yX11_here ∈ GW := GW_t8 55 rfl rfl
theorem gw_1825 : Cond.instanceMethod yX11_here ∈ GW := GW_t8 57 rfl rfl
theorem gw_78 : Cond.selects yX11_here.cls yX11_here yX11_here ∈ GW := GW_pr 78 (q := (yX11_here, 23)) rfl
theorem cv_X11_186 : CV RX11 186 yX11_here cX11_here 2 (some .int) 1 := ⟨gw_1823, gw_1825, gw_78, gw_101, gw_1826, by decide +kernel, by decide +kernel⟩
theorem gw_1838 : Cond.code yX11_isFactor cX11_isFactor 1 (some .boolean) ∈ GW := GW_t8 70 rfl rfl
theorem gw_1458 : Cond.fieldLink "FoldedArchiveModel" 189 "FoldedArchiveModel" "isWrong" "Z" ∈ GW := GW_t6 170 rfl rfl
theorem fl_X11_189 : FL RX11 189 11 22 "Z" false := ⟨RX11, TX11, 23, tyX11, rfl, inG_X11, by decide, gw_1458, tyX11_ok, nmX11, rfl, rfl⟩
theorem gw_1834 : Cond.code yX11_wrongSet cX11_wrongSet 1 (some .int) ∈ GW := GW_t8 66 rfl rfl
theorem gw_1819 : Cond.methodLink "FoldedArchiveModel" 196 yX11_factor ∈ GW := GW_t8 51 rfl rfl
theorem gw_1821 : Cond.instanceMethod yX11_factor ∈ GW := GW_t8 53 rfl rfl
theorem gw_77 : Cond.selects yX11_factor.cls yX11_factor yX11_factor ∈ GW := GW_pr 77 (q := (yX11_factor, 23)) rfl
theorem gw_1822 : Cond.code yX11_factor cX11_factor 4 (some .int) ∈ GW := GW_t8 54 rfl rfl
theorem cv_X11_196 : CV RX11 196 yX11_factor cX11_factor 4 (some .int) 0 := ⟨gw_1819, gw_1821, gw_77, gw_101, gw_1822, by decide +kernel, by decide +kernel⟩
theorem gw_1835 : Cond.methodLink "FoldedArchiveModel" 208 yX11_isFactor ∈ GW := GW_t8 67 rfl rfl
theorem gw_1837 : Cond.instanceMethod yX11_isFactor ∈ GW := GW_t8 69 rfl rfl
theorem gw_81 : Cond.selects yX11_isFactor.cls yX11_isFactor yX11_isFactor ∈ GW := GW_pr 81 (q := (yX11_isFactor, 23)) rfl
theorem cv_X11_208 : CV RX11 208 yX11_isFactor cX11_isFactor 1 (some .boolean) 0 := ⟨gw_1835, gw_1837, gw_81, gw_101, gw_1838, by decide +kernel, by decide +kernel⟩
theorem gw_1818 : Cond.code yX11_product cX11_product 2 (some .int) ∈ GW := GW_t8 50 rfl rfl
theorem gw_1815 : Cond.methodLink "FoldedArchiveModel" 212 yX11_product ∈ GW := GW_t8 47 rfl rfl
theorem gw_1817 : Cond.instanceMethod yX11_product ∈ GW := GW_t8 49 rfl rfl
theorem gw_76 : Cond.selects yX11_product.cls yX11_product yX11_product ∈ GW := GW_pr 76 (q := (yX11_product, 23)) rfl
theorem cv_X11_212 : CV RX11 212 yX11_product cX11_product 2 (some .int) 0 := ⟨gw_1815, gw_1817, gw_76, gw_101, gw_1818, by decide +kernel, by decide +kernel⟩
theorem gw_1814 : Cond.code yX11_sums cX11_sums 2 (some .int) ∈ GW := GW_t8 46 rfl rfl
theorem gw_1831 : Cond.methodLink "FoldedArchiveModel" 202 yX11_wrongSet ∈ GW := GW_t8 63 rfl rfl
theorem gw_1833 : Cond.instanceMethod yX11_wrongSet ∈ GW := GW_t8 65 rfl rfl
theorem gw_80 : Cond.selects yX11_wrongSet.cls yX11_wrongSet yX11_wrongSet ∈ GW := GW_pr 80 (q := (yX11_wrongSet, 23)) rfl
theorem cv_X11_202 : CV RX11 202 yX11_wrongSet cX11_wrongSet 1 (some .int) 0 := ⟨gw_1831, gw_1833, gw_80, gw_101, gw_1834, by decide +kernel, by decide +kernel⟩
theorem gw_1457 : Cond.fieldLink "FoldedArchiveModel" 199 "FoldedArchiveModel" "open" "I" ∈ GW := GW_t6 169 rfl rfl
theorem fl_X11_199 : FL RX11 199 11 21 "I" false := ⟨RX11, TX11, 23, tyX11, rfl, inG_X11, by decide, gw_1457, tyX11_ok, nmX11, rfl, rfl⟩
theorem gw_1811 : Cond.methodLink "FoldedArchiveModel" 205 yX11_sums ∈ GW := GW_t8 43 rfl rfl
theorem gw_1813 : Cond.instanceMethod yX11_sums ∈ GW := GW_t8 45 rfl rfl
theorem gw_75 : Cond.selects yX11_sums.cls yX11_sums yX11_sums ∈ GW := GW_pr 75 (q := (yX11_sums, 23)) rfl
theorem cv_X11_205 : CV RX11 205 yX11_sums cX11_sums 2 (some .int) 0 := ⟨gw_1811, gw_1813, gw_75, gw_101, gw_1814, by decide +kernel, by decide +kernel⟩
theorem gw_1827 : Cond.methodLink "FoldedArchiveModel" 193 yX11_every ∈ GW := GW_t8 59 rfl rfl
theorem gw_1829 : Cond.instanceMethod yX11_every ∈ GW := GW_t8 61 rfl rfl
theorem gw_79 : Cond.selects yX11_every.cls yX11_every yX11_every ∈ GW := GW_pr 79 (q := (yX11_every, 23)) rfl
theorem cv_X11_193 : CV RX11 193 yX11_every cX11_every 1 (some .int) 0 := ⟨gw_1827, gw_1829, gw_79, gw_101, gw_1830, by decide +kernel, by decide +kernel⟩
theorem gw_1449 : Cond.fieldLink "FoldedArchiveModel" 34 "FoldedArchiveModel" "faultAt" "I" ∈ GW := GW_t6 161 rfl rfl
theorem fl_X11_34 : FL RX11 34 11 13 "I" false := ⟨RX11, TX11, 23, tyX11, rfl, inG_X11, by decide, gw_1449, tyX11_ok, nmX11, rfl, rfl⟩
theorem gw_1810 : Cond.code yX11_found cX11_found 2 (some .int) ∈ GW := GW_t8 42 rfl rfl
theorem gw_1807 : Cond.methodLink "FoldedArchiveModel" 215 yX11_found ∈ GW := GW_t8 39 rfl rfl
theorem gw_1809 : Cond.instanceMethod yX11_found ∈ GW := GW_t8 41 rfl rfl
theorem gw_74 : Cond.selects yX11_found.cls yX11_found yX11_found ∈ GW := GW_pr 74 (q := (yX11_found, 23)) rfl
theorem cv_X11_215 : CV RX11 215 yX11_found cX11_found 2 (some .int) 0 := ⟨gw_1807, gw_1809, gw_74, gw_101, gw_1810, by decide +kernel, by decide +kernel⟩
theorem gw_1806 : Cond.code yX11_search cX11_search 4 (some .int) ∈ GW := GW_t8 38 rfl rfl
theorem gw_1842 : Cond.code yX11_matches cX11_matches 3 (some .boolean) ∈ GW := GW_t8 74 rfl rfl
theorem gw_1855 : Cond.code yX11_says cX11_says 3 none ∈ GW := GW_t8 87 rfl rfl
theorem gw_1852 : Cond.methodLink "FoldedArchiveModel" 227 yX11_says ∈ GW := GW_t8 84 rfl rfl
theorem gw_1854 : Cond.instanceMethod yX11_says ∈ GW := GW_t8 86 rfl rfl
theorem gw_83 : Cond.selects yX11_says.cls yX11_says yX11_says ∈ GW := GW_pr 83 (q := (yX11_says, 23)) rfl
theorem cv_X11_227 : CV RX11 227 yX11_says cX11_says 3 none 1 := ⟨gw_1852, gw_1854, gw_83, gw_101, gw_1855, by decide +kernel, by decide +kernel⟩
theorem gw_1444 : Cond.fieldLink "FoldedArchiveModel" 25 "FoldedArchiveModel" "told" "[I" ∈ GW := GW_t6 156 rfl rfl
theorem fl_X11_25 : FL RX11 25 11 8 "[I" true := ⟨RX11, TX11, 23, tyX11, rfl, inG_X11, by decide, gw_1444, tyX11_ok, nmX11, rfl, rfl⟩
theorem gw_1456 : Cond.fieldLink "FoldedArchiveModel" 231 "FoldedArchiveModel" "commands" "I" ∈ GW := GW_t6 168 rfl rfl
theorem fl_X11_231 : FL RX11 231 11 20 "I" false := ⟨RX11, TX11, 23, tyX11, rfl, inG_X11, by decide, gw_1456, tyX11_ok, nmX11, rfl, rfl⟩
theorem tt_147 : TT[147]? = some (1, 240, []) := by decide +kernel
theorem gw_1863 : Cond.code yX11_number cX11_number 6 none ∈ GW := GW_t8 95 rfl rfl
theorem gw_1860 : Cond.methodLink "FoldedArchiveModel" 234 yX11_number ∈ GW := GW_t8 92 rfl rfl
theorem gw_1862 : Cond.instanceMethod yX11_number ∈ GW := GW_t8 94 rfl rfl
theorem gw_84 : Cond.selects yX11_number.cls yX11_number yX11_number ∈ GW := GW_pr 84 (q := (yX11_number, 23)) rfl
theorem cv_X11_234 : CV RX11 234 yX11_number cX11_number 6 none 3 := ⟨gw_1860, gw_1862, gw_84, gw_101, gw_1863, by decide +kernel, by decide +kernel⟩
theorem gw_1870 : Cond.code yX11_term cX11_term 2 none ∈ GW := GW_t8 102 rfl rfl
theorem gw_1867 : Cond.methodLink "FoldedArchiveModel" 250 yX11_term ∈ GW := GW_t8 99 rfl rfl
theorem gw_1869 : Cond.instanceMethod yX11_term ∈ GW := GW_t8 101 rfl rfl
theorem gw_85 : Cond.selects yX11_term.cls yX11_term yX11_term ∈ GW := GW_pr 85 (q := (yX11_term, 23)) rfl
theorem cv_X11_250 : CV RX11 250 yX11_term cX11_term 2 none 1 := ⟨gw_1867, gw_1869, gw_85, gw_101, gw_1870, by decide +kernel, by decide +kernel⟩
theorem gw_1850 : Cond.code yX11_readsOne cX11_readsOne 3 none ∈ GW := GW_t8 82 rfl rfl
theorem gw_1882 : Cond.code yX11_does cX11_does 5 (some .int) ∈ GW := GW_t8 114 rfl rfl
theorem gw_1847 : Cond.methodLink "FoldedArchiveModel" 268 yX11_readsOne ∈ GW := GW_t8 79 rfl rfl
theorem gw_1849 : Cond.instanceMethod yX11_readsOne ∈ GW := GW_t8 81 rfl rfl
theorem gw_82 : Cond.selects yX11_readsOne.cls yX11_readsOne yX11_readsOne ∈ GW := GW_pr 82 (q := (yX11_readsOne, 23)) rfl
theorem cv_X11_268 : CV RX11 268 yX11_readsOne cX11_readsOne 3 none 0 := ⟨gw_1847, gw_1849, gw_82, gw_101, gw_1850, by decide +kernel, by decide +kernel⟩
theorem gw_1879 : Cond.methodLink "FoldedArchiveModel" 271 yX11_does ∈ GW := GW_t8 111 rfl rfl
theorem gw_1881 : Cond.instanceMethod yX11_does ∈ GW := GW_t8 113 rfl rfl
theorem gw_86 : Cond.selects yX11_does.cls yX11_does yX11_does ∈ GW := GW_pr 86 (q := (yX11_does, 23)) rfl
theorem cv_X11_271 : CV RX11 271 yX11_does cX11_does 5 (some .int) 1 := ⟨gw_1879, gw_1881, gw_86, gw_101, gw_1882, by decide +kernel, by decide +kernel⟩
theorem gw_1846 : Cond.code yX11_execute cX11_execute 4 (some .int) ∈ GW := GW_t8 78 rfl rfl
theorem gw_1886 : Cond.code yX11_faultPosition cX11_faultPosition 1 (some .int) ∈ GW := GW_t8 118 rfl rfl
theorem gw_1445 : Cond.fieldLink "FoldedArchiveModel" 28 "FoldedArchiveModel" "out" "[I" ∈ GW := GW_t6 157 rfl rfl
theorem fl_X11_28 : FL RX11 28 11 9 "[I" true := ⟨RX11, TX11, 23, tyX11, rfl, inG_X11, by decide, gw_1445, tyX11_ok, nmX11, rfl, rfl⟩
theorem gw_1448 : Cond.fieldLink "FoldedArchiveModel" 274 "FoldedArchiveModel" "outLength" "I" ∈ GW := GW_t6 160 rfl rfl
theorem fl_X11_274 : FL RX11 274 11 12 "I" false := ⟨RX11, TX11, 23, tyX11, rfl, inG_X11, by decide, gw_1448, tyX11_ok, nmX11, rfl, rfl⟩
theorem tt_148 : TT[148]? = some (1, 40, []) := by decide +kernel
theorem gw_1894 : Cond.code yX11_writes cX11_writes 2 none ∈ GW := GW_t8 126 rfl rfl
theorem gw_1891 : Cond.methodLink "FoldedArchiveModel" 277 yX11_writes ∈ GW := GW_t8 123 rfl rfl
theorem gw_1893 : Cond.instanceMethod yX11_writes ∈ GW := GW_t8 125 rfl rfl
theorem gw_87 : Cond.selects yX11_writes.cls yX11_writes yX11_writes ∈ GW := GW_pr 87 (q := (yX11_writes, 23)) rfl
theorem cv_X11_277 : CV RX11 277 yX11_writes cX11_writes 2 none 1 := ⟨gw_1891, gw_1893, gw_87, gw_101, gw_1894, by decide +kernel, by decide +kernel⟩
theorem gw_1890 : Cond.code yX11_writeSection cX11_writeSection 4 (some .int) ∈ GW := GW_t8 122 rfl rfl
theorem gw_1898 : Cond.code yX11_writePile cX11_writePile 2 (some .int) ∈ GW := GW_t8 130 rfl rfl
theorem gw_1902 : Cond.code yX11_lineCharacter cX11_lineCharacter 2 (some .char) ∈ GW := GW_t8 134 rfl rfl
theorem gw_1906 : Cond.code yX11_denial cX11_denial 1 (some .int) ∈ GW := GW_t8 138 rfl rfl
theorem gw_1910 : Cond.code yX11_denialDetail cX11_denialDetail 1 (some .int) ∈ GW := GW_t8 142 rfl rfl
theorem gw_1914 : Cond.code yX11_denialCause cX11_denialCause 1 (some .int) ∈ GW := GW_t8 146 rfl rfl
theorem gw_1918 : Cond.code yX11_undo cX11_undo 2 (some .int) ∈ GW := GW_t8 150 rfl rfl
theorem gw_1922 : Cond.code yX11_undoCount cX11_undoCount 1 (some .int) ∈ GW := GW_t8 154 rfl rfl
theorem gw_1442 : Cond.fieldLink "FoldedArchiveModel" 280 "FoldedArchiveModel" "hasSaved" "Z" ∈ GW := GW_t6 154 rfl rfl
theorem fl_X11_280 : FL RX11 280 11 6 "Z" false := ⟨RX11, TX11, 23, tyX11, rfl, inG_X11, by decide, gw_1442, tyX11_ok, nmX11, rfl, rfl⟩
theorem gw_1439 : Cond.fieldLink "FoldedArchiveModel" 16 "FoldedArchiveModel" "saved" "[I" ∈ GW := GW_t6 151 rfl rfl
theorem fl_X11_16 : FL RX11 16 11 3 "[I" true := ⟨RX11, TX11, 23, tyX11, rfl, inG_X11, by decide, gw_1439, tyX11_ok, nmX11, rfl, rfl⟩
theorem tt_144 : TT[144]? = some (1, 66, []) := by decide +kernel
theorem gw_1926 : Cond.code yX11_saveSnapshot cX11_saveSnapshot 2 (some .int) ∈ GW := GW_t8 158 rfl rfl
theorem gw_1930 : Cond.code yX11_restoreSnapshot cX11_restoreSnapshot 2 (some .int) ∈ GW := GW_t8 162 rfl rfl
theorem tt_36 : TT[36]? = some (0, 8, [some 37, some 40, some 42]) := by decide +kernel
theorem tt_37 : TT[37]? = some (0, 9, [none, none, none, some 38, some 39]) := by decide +kernel
theorem tt_38 : TT[38]? = some (1, 7, []) := by decide +kernel
theorem tt_39 : TT[39]? = some (1, 7, []) := by decide +kernel
theorem is9_37 : isX9 37 := ⟨tt_37, tt_38, tt_39⟩
theorem tt_40 : TT[40]? = some (0, 4, [none, some 41]) := by decide +kernel
theorem tt_41 : TT[41]? = some (1, 7, []) := by decide +kernel
theorem is4_40 : isX4 40 := ⟨tt_40, tt_41⟩
theorem tt_42 : TT[42]? = some (0, 5, [none, some 43, some 44, some 45, some 46]) := by decide +kernel
theorem tt_43 : TT[43]? = some (1, 10, []) := by decide +kernel
theorem tt_44 : TT[44]? = some (1, 10, []) := by decide +kernel
theorem tt_45 : TT[45]? = some (1, 10, []) := by decide +kernel
theorem tt_46 : TT[46]? = some (2, 10, []) := by decide +kernel
theorem is5_42 : isX5 42 := ⟨tt_42, tt_43, tt_44, tt_45, tt_46⟩
theorem is8_36 : isX8 36 := ⟨tt_36, is9_37, is4_40, is5_42⟩
theorem tt_47 : TT[47]? = some (0, 8, [some 48, some 51, some 53]) := by decide +kernel
theorem tt_48 : TT[48]? = some (0, 9, [none, none, none, some 49, some 50]) := by decide +kernel
theorem tt_49 : TT[49]? = some (1, 7, []) := by decide +kernel
theorem tt_50 : TT[50]? = some (1, 7, []) := by decide +kernel
theorem is9_48 : isX9 48 := ⟨tt_48, tt_49, tt_50⟩
theorem tt_51 : TT[51]? = some (0, 4, [none, some 52]) := by decide +kernel
theorem tt_52 : TT[52]? = some (1, 7, []) := by decide +kernel
theorem is4_51 : isX4 51 := ⟨tt_51, tt_52⟩
theorem tt_53 : TT[53]? = some (0, 5, [none, some 54, some 55, some 56, some 57]) := by decide +kernel
theorem tt_54 : TT[54]? = some (1, 10, []) := by decide +kernel
theorem tt_55 : TT[55]? = some (1, 10, []) := by decide +kernel
theorem tt_56 : TT[56]? = some (1, 10, []) := by decide +kernel
theorem tt_57 : TT[57]? = some (2, 10, []) := by decide +kernel
theorem is5_53 : isX5 53 := ⟨tt_53, tt_54, tt_55, tt_56, tt_57⟩
theorem is8_47 : isX8 47 := ⟨tt_47, is9_48, is4_51, is5_53⟩
theorem tt_58 : TT[58]? = some (0, 8, [some 59, some 62, some 64]) := by decide +kernel
theorem tt_59 : TT[59]? = some (0, 9, [none, none, none, some 60, some 61]) := by decide +kernel
theorem tt_60 : TT[60]? = some (1, 7, []) := by decide +kernel
theorem tt_61 : TT[61]? = some (1, 7, []) := by decide +kernel
theorem is9_59 : isX9 59 := ⟨tt_59, tt_60, tt_61⟩
theorem tt_62 : TT[62]? = some (0, 4, [none, some 63]) := by decide +kernel
theorem tt_63 : TT[63]? = some (1, 7, []) := by decide +kernel
theorem is4_62 : isX4 62 := ⟨tt_62, tt_63⟩
theorem tt_64 : TT[64]? = some (0, 5, [none, some 65, some 66, some 67, some 68]) := by decide +kernel
theorem tt_65 : TT[65]? = some (1, 10, []) := by decide +kernel
theorem tt_66 : TT[66]? = some (1, 10, []) := by decide +kernel
theorem tt_67 : TT[67]? = some (1, 10, []) := by decide +kernel
theorem tt_68 : TT[68]? = some (2, 10, []) := by decide +kernel
theorem is5_64 : isX5 64 := ⟨tt_64, tt_65, tt_66, tt_67, tt_68⟩
theorem is8_58 : isX8 58 := ⟨tt_58, is9_59, is4_62, is5_64⟩
theorem tt_69 : TT[69]? = some (0, 8, [some 70, some 73, some 75]) := by decide +kernel
theorem tt_70 : TT[70]? = some (0, 9, [none, none, none, some 71, some 72]) := by decide +kernel
theorem tt_71 : TT[71]? = some (1, 7, []) := by decide +kernel
theorem tt_72 : TT[72]? = some (1, 7, []) := by decide +kernel
theorem is9_70 : isX9 70 := ⟨tt_70, tt_71, tt_72⟩
theorem tt_73 : TT[73]? = some (0, 4, [none, some 74]) := by decide +kernel
theorem tt_74 : TT[74]? = some (1, 7, []) := by decide +kernel
theorem is4_73 : isX4 73 := ⟨tt_73, tt_74⟩
theorem tt_75 : TT[75]? = some (0, 5, [none, some 76, some 77, some 78, some 79]) := by decide +kernel
theorem tt_76 : TT[76]? = some (1, 10, []) := by decide +kernel
theorem tt_77 : TT[77]? = some (1, 10, []) := by decide +kernel
theorem tt_78 : TT[78]? = some (1, 10, []) := by decide +kernel
theorem tt_79 : TT[79]? = some (2, 10, []) := by decide +kernel
theorem is5_75 : isX5 75 := ⟨tt_75, tt_76, tt_77, tt_78, tt_79⟩
theorem is8_69 : isX8 69 := ⟨tt_69, is9_70, is4_73, is5_75⟩
theorem tt_80 : TT[80]? = some (0, 8, [some 81, some 84, some 86]) := by decide +kernel
theorem tt_81 : TT[81]? = some (0, 9, [none, none, none, some 82, some 83]) := by decide +kernel
theorem tt_82 : TT[82]? = some (1, 7, []) := by decide +kernel
theorem tt_83 : TT[83]? = some (1, 7, []) := by decide +kernel
theorem is9_81 : isX9 81 := ⟨tt_81, tt_82, tt_83⟩
theorem tt_84 : TT[84]? = some (0, 4, [none, some 85]) := by decide +kernel
theorem tt_85 : TT[85]? = some (1, 7, []) := by decide +kernel
theorem is4_84 : isX4 84 := ⟨tt_84, tt_85⟩
theorem tt_86 : TT[86]? = some (0, 5, [none, some 87, some 88, some 89, some 90]) := by decide +kernel
theorem tt_87 : TT[87]? = some (1, 10, []) := by decide +kernel
theorem tt_88 : TT[88]? = some (1, 10, []) := by decide +kernel
theorem tt_89 : TT[89]? = some (1, 10, []) := by decide +kernel
theorem tt_90 : TT[90]? = some (2, 10, []) := by decide +kernel
theorem is5_86 : isX5 86 := ⟨tt_86, tt_87, tt_88, tt_89, tt_90⟩
theorem is8_80 : isX8 80 := ⟨tt_80, is9_81, is4_84, is5_86⟩
theorem tt_91 : TT[91]? = some (0, 8, [some 92, some 95, some 97]) := by decide +kernel
theorem tt_92 : TT[92]? = some (0, 9, [none, none, none, some 93, some 94]) := by decide +kernel
theorem tt_93 : TT[93]? = some (1, 7, []) := by decide +kernel
theorem tt_94 : TT[94]? = some (1, 7, []) := by decide +kernel
theorem is9_92 : isX9 92 := ⟨tt_92, tt_93, tt_94⟩
theorem tt_95 : TT[95]? = some (0, 4, [none, some 96]) := by decide +kernel
theorem tt_96 : TT[96]? = some (1, 7, []) := by decide +kernel
theorem is4_95 : isX4 95 := ⟨tt_95, tt_96⟩
theorem tt_97 : TT[97]? = some (0, 5, [none, some 98, some 99, some 100, some 101]) := by decide +kernel
theorem tt_98 : TT[98]? = some (1, 10, []) := by decide +kernel
theorem tt_99 : TT[99]? = some (1, 10, []) := by decide +kernel
theorem tt_100 : TT[100]? = some (1, 10, []) := by decide +kernel
theorem tt_101 : TT[101]? = some (2, 10, []) := by decide +kernel
theorem is5_97 : isX5 97 := ⟨tt_97, tt_98, tt_99, tt_100, tt_101⟩
theorem is8_91 : isX8 91 := ⟨tt_91, is9_92, is4_95, is5_97⟩
theorem tt_102 : TT[102]? = some (0, 8, [some 103, some 106, some 108]) := by decide +kernel
theorem tt_103 : TT[103]? = some (0, 9, [none, none, none, some 104, some 105]) := by decide +kernel
theorem tt_104 : TT[104]? = some (1, 7, []) := by decide +kernel
theorem tt_105 : TT[105]? = some (1, 7, []) := by decide +kernel
theorem is9_103 : isX9 103 := ⟨tt_103, tt_104, tt_105⟩
theorem tt_106 : TT[106]? = some (0, 4, [none, some 107]) := by decide +kernel
theorem tt_107 : TT[107]? = some (1, 7, []) := by decide +kernel
theorem is4_106 : isX4 106 := ⟨tt_106, tt_107⟩
theorem tt_108 : TT[108]? = some (0, 5, [none, some 109, some 110, some 111, some 112]) := by decide +kernel
theorem tt_109 : TT[109]? = some (1, 10, []) := by decide +kernel
theorem tt_110 : TT[110]? = some (1, 10, []) := by decide +kernel
theorem tt_111 : TT[111]? = some (1, 10, []) := by decide +kernel
theorem tt_112 : TT[112]? = some (2, 10, []) := by decide +kernel
theorem is5_108 : isX5 108 := ⟨tt_108, tt_109, tt_110, tt_111, tt_112⟩
theorem is8_102 : isX8 102 := ⟨tt_102, is9_103, is4_106, is5_108⟩
theorem tt_113 : TT[113]? = some (0, 8, [some 114, some 117, some 119]) := by decide +kernel
theorem tt_114 : TT[114]? = some (0, 9, [none, none, none, some 115, some 116]) := by decide +kernel
theorem tt_115 : TT[115]? = some (1, 7, []) := by decide +kernel
theorem tt_116 : TT[116]? = some (1, 7, []) := by decide +kernel
theorem is9_114 : isX9 114 := ⟨tt_114, tt_115, tt_116⟩
theorem tt_117 : TT[117]? = some (0, 4, [none, some 118]) := by decide +kernel
theorem tt_118 : TT[118]? = some (1, 7, []) := by decide +kernel
theorem is4_117 : isX4 117 := ⟨tt_117, tt_118⟩
theorem tt_119 : TT[119]? = some (0, 5, [none, some 120, some 121, some 122, some 123]) := by decide +kernel
theorem tt_120 : TT[120]? = some (1, 10, []) := by decide +kernel
theorem tt_121 : TT[121]? = some (1, 10, []) := by decide +kernel
theorem tt_122 : TT[122]? = some (1, 10, []) := by decide +kernel
theorem tt_123 : TT[123]? = some (2, 10, []) := by decide +kernel
theorem is5_119 : isX5 119 := ⟨tt_119, tt_120, tt_121, tt_122, tt_123⟩
theorem is8_113 : isX8 113 := ⟨tt_113, is9_114, is4_117, is5_119⟩
theorem stOK_is {t : Nat} (h : stOK t) : isX8 t := by
  rcases h with h | h | h | h | h | h | h | h <;> subst h
  · exact is8_36
  · exact is8_47
  · exact is8_58
  · exact is8_69
  · exact is8_80
  · exact is8_91
  · exact is8_102
  · exact is8_113
end
section
theorem dX9_isTerm_0 : decode cX9_isTerm 0 = .ok (.iload_n 0, 1) := by decide +kernel
theorem dX9_isTerm_1 : decode cX9_isTerm 1 = .ok (.bipush 97, 2) := by decide +kernel
theorem dX9_isTerm_3 : decode cX9_isTerm 3 = .ok (.if_icmp .lt 13, 3) := by decide +kernel
theorem dX9_isTerm_6 : decode cX9_isTerm 6 = .ok (.iload_n 0, 1) := by decide +kernel
theorem dX9_isTerm_7 : decode cX9_isTerm 7 = .ok (.bipush 104, 2) := by decide +kernel
theorem dX9_isTerm_9 : decode cX9_isTerm 9 = .ok (.if_icmp .gt 7, 3) := by decide +kernel
theorem dX9_isTerm_12 : decode cX9_isTerm 12 = .ok (.iconst 1, 1) := by decide +kernel
theorem dX9_isTerm_13 : decode cX9_isTerm 13 = .ok (.goto 4, 3) := by decide +kernel
theorem dX9_isTerm_16 : decode cX9_isTerm 16 = .ok (.iconst 0, 1) := by decide +kernel
theorem dX9_isTerm_17 : decode cX9_isTerm 17 = .ok (.ireturn, 1) := by decide +kernel
def f_X9_isTerm (x0 : Int32) (w : XW) : Option (Int32 × XW) := (if x0 < 97 then (some (0, w)) else (if 104 < x0 then (some (0, w)) else (some (1, w))))
set_option maxRecDepth 100000 in
theorem W_X9_isTerm {g : GC} (hl : g.1.stackTraces = false) {x0 : Int32} {w : XW} : VE g cX9_isTerm 1 RX9 (some .boolean) [] (rmL 3 0 0) 0 0 oI 0 0 0 [(0, .int x0)] [] w (f_X9_isTerm x0 w) := by
  unfold f_X9_isTerm
  refine v_iload_n dX9_isTerm_0 rfl 0 rfl ?_
  refine v_bipush (v := 97) dX9_isTerm_1 (by decide) ?_
  refine v_icmp_lt (tgt := 16) dX9_isTerm_3 (by decide) ?_ ?_
  · refine v_iconst (v := 0) dX9_isTerm_16 (by decide) ?_
    exact v_zret dX9_isTerm_17 rfl rfl rfl (by decide) (by decide)
  · refine v_iload_n dX9_isTerm_6 rfl 0 rfl ?_
    refine v_bipush (v := 104) dX9_isTerm_7 (by decide) ?_
    refine v_icmp_gt (tgt := 16) dX9_isTerm_9 (by decide) ?_ ?_
    · refine v_iconst (v := 0) dX9_isTerm_16 (by decide) ?_
      exact v_zret dX9_isTerm_17 rfl rfl rfl (by decide) (by decide)
    · refine v_iconst (v := 1) dX9_isTerm_12 (by decide) ?_
      refine v_goto (tgt := 17) dX9_isTerm_13 (by decide) ?_
      exact v_zret dX9_isTerm_17 rfl rfl rfl (by decide) (by decide)
theorem S_X9_isTerm {g : GC} (hl : g.1.stackTraces = false) {x0 : Int32} {w : XW} : ∀ q, f_X9_isTerm x0 w = some q → MM g (.code yX9_isTerm cX9_isTerm 1 (some .boolean)) yX9_isTerm (rmL 3 0 0) 0 0 [.int x0] w (oI q) := fun q hq => MM_of (own := RX9) hl (by decide) gw_569 rfl (Nat.le_of_ble_eq_true rfl) (W_X9_isTerm hl q hq) ⟨rfl, rfl⟩

theorem dX9_copyFrom_0 : decode cX9_copyFrom 0 = .ok (.aload_n 0, 1) := by decide +kernel
theorem dX9_copyFrom_1 : decode cX9_copyFrom 1 = .ok (.aload_n 1, 1) := by decide +kernel
theorem dX9_copyFrom_2 : decode cX9_copyFrom 2 = .ok (.getfield 18, 3) := by decide +kernel
theorem dX9_copyFrom_5 : decode cX9_copyFrom 5 = .ok (.putfield 18, 3) := by decide +kernel
theorem dX9_copyFrom_8 : decode cX9_copyFrom 8 = .ok (.aload_n 0, 1) := by decide +kernel
theorem dX9_copyFrom_9 : decode cX9_copyFrom 9 = .ok (.aload_n 1, 1) := by decide +kernel
theorem dX9_copyFrom_10 : decode cX9_copyFrom 10 = .ok (.getfield 22, 3) := by decide +kernel
theorem dX9_copyFrom_13 : decode cX9_copyFrom 13 = .ok (.putfield 22, 3) := by decide +kernel
theorem dX9_copyFrom_16 : decode cX9_copyFrom 16 = .ok (.aload_n 0, 1) := by decide +kernel
theorem dX9_copyFrom_17 : decode cX9_copyFrom 17 = .ok (.aload_n 1, 1) := by decide +kernel
theorem dX9_copyFrom_18 : decode cX9_copyFrom 18 = .ok (.getfield 25, 3) := by decide +kernel
theorem dX9_copyFrom_21 : decode cX9_copyFrom 21 = .ok (.putfield 25, 3) := by decide +kernel
theorem dX9_copyFrom_24 : decode cX9_copyFrom 24 = .ok (.aload_n 1, 1) := by decide +kernel
theorem dX9_copyFrom_25 : decode cX9_copyFrom 25 = .ok (.getfield 9, 3) := by decide +kernel
theorem dX9_copyFrom_28 : decode cX9_copyFrom 28 = .ok (.iconst 0, 1) := by decide +kernel
theorem dX9_copyFrom_29 : decode cX9_copyFrom 29 = .ok (.aload_n 0, 1) := by decide +kernel
theorem dX9_copyFrom_30 : decode cX9_copyFrom 30 = .ok (.getfield 9, 3) := by decide +kernel
theorem dX9_copyFrom_33 : decode cX9_copyFrom 33 = .ok (.iconst 0, 1) := by decide +kernel
theorem dX9_copyFrom_34 : decode cX9_copyFrom 34 = .ok (.bipush 7, 2) := by decide +kernel
theorem dX9_copyFrom_36 : decode cX9_copyFrom 36 = .ok (.invokestatic 28, 3) := by decide +kernel
theorem dX9_copyFrom_39 : decode cX9_copyFrom 39 = .ok (.aload_n 1, 1) := by decide +kernel
theorem dX9_copyFrom_40 : decode cX9_copyFrom 40 = .ok (.getfield 15, 3) := by decide +kernel
theorem dX9_copyFrom_43 : decode cX9_copyFrom 43 = .ok (.iconst 0, 1) := by decide +kernel
theorem dX9_copyFrom_44 : decode cX9_copyFrom 44 = .ok (.aload_n 0, 1) := by decide +kernel
theorem dX9_copyFrom_45 : decode cX9_copyFrom 45 = .ok (.getfield 15, 3) := by decide +kernel
theorem dX9_copyFrom_48 : decode cX9_copyFrom 48 = .ok (.iconst 0, 1) := by decide +kernel
theorem dX9_copyFrom_49 : decode cX9_copyFrom 49 = .ok (.bipush 7, 2) := by decide +kernel
theorem dX9_copyFrom_51 : decode cX9_copyFrom 51 = .ok (.invokestatic 28, 3) := by decide +kernel
theorem dX9_copyFrom_54 : decode cX9_copyFrom 54 = .ok (.return_, 1) := by decide +kernel
def f_X9_copyFrom (k : Nat) (k1 : Nat) (w : XW) : Option (XW) := (some (wcpy (wcpy (wset (wset (wset w k 0 (w.1 k1 0)) k 1 ((wset w k 0 (w.1 k1 0)).1 k1 1)) k 2 ((wset (wset w k 0 (w.1 k1 0)) k 1 ((wset w k 0 (w.1 k1 0)).1 k1 1)).1 k1 2)) (k1 + 1) (Int32.toNatClampNeg 0) (k + 1) (Int32.toNatClampNeg 0) (Int32.toNatClampNeg 7)) (k1 + 2) (Int32.toNatClampNeg 0) (k + 2) (Int32.toNatClampNeg 0) (Int32.toNatClampNeg 7)))
set_option maxRecDepth 100000 in
theorem W_X9_copyFrom {g : GC} (hl : g.1.stackTraces = false) {k : Nat} (hk : isX9 k) {k1 : Nat} (hk1 : isX9 k1) {w : XW} : VE g cX9_copyFrom 2 RX9 none [] (rmL 3 0 0) 0 0 oV 0 0 0 [(0, .ref (g.2.1 + k)), (1, .ref (g.2.1 + k1))] [] w (f_X9_copyFrom k k1 w) := by
  unfold f_X9_copyFrom
  refine v_aload_n dX9_copyFrom_0 rfl 0 rfl ?_
  refine v_aload_n dX9_copyFrom_1 rfl 1 rfl ?_
  refine v_getI fl_X9_18 hk1.1 rfl dX9_copyFrom_2 ?_
  refine v_putI fl_X9_18 hk.1 rfl (ty0 := .int) rfl rfl rfl dX9_copyFrom_5 ?_
  refine v_aload_n dX9_copyFrom_8 rfl 0 rfl ?_
  refine v_aload_n dX9_copyFrom_9 rfl 1 rfl ?_
  refine v_getI fl_X9_22 hk1.1 rfl dX9_copyFrom_10 ?_
  refine v_putI fl_X9_22 hk.1 rfl (ty0 := .int) rfl rfl rfl dX9_copyFrom_13 ?_
  refine v_aload_n dX9_copyFrom_16 rfl 0 rfl ?_
  refine v_aload_n dX9_copyFrom_17 rfl 1 rfl ?_
  refine v_getI fl_X9_25 hk1.1 rfl dX9_copyFrom_18 ?_
  refine v_putI fl_X9_25 hk.1 rfl (ty0 := .int) rfl rfl rfl dX9_copyFrom_21 ?_
  refine v_aload_n dX9_copyFrom_24 rfl 1 rfl ?_
  refine v_getR fl_X9_9 hk1.1 rfl dX9_copyFrom_25 ?_
  refine v_iconst (v := 0) dX9_copyFrom_28 (by decide) ?_
  refine v_aload_n dX9_copyFrom_29 rfl 0 rfl ?_
  refine v_getR fl_X9_9 hk.1 rfl dX9_copyFrom_30 ?_
  refine v_iconst (v := 0) dX9_copyFrom_33 (by decide) ?_
  refine v_bipush (v := 7) dX9_copyFrom_34 (by decide) ?_
  refine v_copy (ty := .int) hk1.2.1 hk.2.1 (Or.inl rfl) rfl rfl gw_524 gw_401 gw_400 gw_109 (by decide) (by decide) (by decide) (by decide) (by decide) (fun _ _ => rfl) (CR_f1 _ _ _) (CR_f3 (by decide) _ _ _) dX9_copyFrom_36 ?_
  refine v_aload_n dX9_copyFrom_39 rfl 1 rfl ?_
  refine v_getR fl_X9_15 hk1.1 rfl dX9_copyFrom_40 ?_
  refine v_iconst (v := 0) dX9_copyFrom_43 (by decide) ?_
  refine v_aload_n dX9_copyFrom_44 rfl 0 rfl ?_
  refine v_getR fl_X9_15 hk.1 rfl dX9_copyFrom_45 ?_
  refine v_iconst (v := 0) dX9_copyFrom_48 (by decide) ?_
  refine v_bipush (v := 7) dX9_copyFrom_49 (by decide) ?_
  refine v_copy (ty := .int) hk1.2.2 hk.2.2 (Or.inl rfl) rfl rfl gw_524 gw_401 gw_400 gw_109 (by decide) (by decide) (by decide) (by decide) (by decide) (fun _ _ => rfl) (CR_f1 _ _ _) (CR_f3 (by decide) _ _ _) dX9_copyFrom_51 ?_
  exact v_vret dX9_copyFrom_54 rfl rfl (by decide) (by decide)
theorem S_X9_copyFrom {g : GC} (hl : g.1.stackTraces = false) {k : Nat} (hk : isX9 k) {k1 : Nat} (hk1 : isX9 k1) {w : XW} : ∀ q, f_X9_copyFrom k k1 w = some q → MM g (.code yX9_copyFrom cX9_copyFrom 2 none) yX9_copyFrom (rmL 3 0 0) 0 0 [.ref (g.2.1 + k), .ref (g.2.1 + k1)] w (oV q) := fun q hq => MM_of (own := RX9) hl (by decide) gw_523 rfl (Nat.le_of_ble_eq_true rfl) (W_X9_copyFrom hl hk hk1 q hq) ⟨rfl, rfl⟩

theorem dX9_has_0 : decode cX9_has 0 = .ok (.iload_n 1, 1) := by decide +kernel
theorem dX9_has_1 : decode cX9_has 1 = .ok (.ifCond .lt 15, 3) := by decide +kernel
theorem dX9_has_4 : decode cX9_has 4 = .ok (.iload_n 1, 1) := by decide +kernel
theorem dX9_has_5 : decode cX9_has 5 = .ok (.aload_n 0, 1) := by decide +kernel
theorem dX9_has_6 : decode cX9_has 6 = .ok (.getfield 18, 3) := by decide +kernel
theorem dX9_has_9 : decode cX9_has 9 = .ok (.if_icmp .ge 7, 3) := by decide +kernel
theorem dX9_has_12 : decode cX9_has 12 = .ok (.iconst 1, 1) := by decide +kernel
theorem dX9_has_13 : decode cX9_has 13 = .ok (.goto 4, 3) := by decide +kernel
theorem dX9_has_16 : decode cX9_has 16 = .ok (.iconst 0, 1) := by decide +kernel
theorem dX9_has_17 : decode cX9_has 17 = .ok (.ireturn, 1) := by decide +kernel
def f_X9_has (k : Nat) (x1 : Int32) (w : XW) : Option (Int32 × XW) := (if x1 < 0 then (some (0, w)) else (if (w.1 k 0) ≤ x1 then (some (0, w)) else (some (1, w))))
set_option maxRecDepth 100000 in
theorem W_X9_has {g : GC} (hl : g.1.stackTraces = false) {k : Nat} (hk : isX9 k) {x1 : Int32} {w : XW} : VE g cX9_has 2 RX9 (some .boolean) [] (rmL 3 0 0) 0 0 oI 0 0 0 [(0, .ref (g.2.1 + k)), (1, .int x1)] [] w (f_X9_has k x1 w) := by
  unfold f_X9_has
  refine v_iload_n dX9_has_0 rfl 1 rfl ?_
  refine v_if_lt (tgt := 16) dX9_has_1 (by decide) ?_ ?_
  · refine v_iconst (v := 0) dX9_has_16 (by decide) ?_
    exact v_zret dX9_has_17 rfl rfl rfl (by decide) (by decide)
  · refine v_iload_n dX9_has_4 rfl 1 rfl ?_
    refine v_aload_n dX9_has_5 rfl 0 rfl ?_
    refine v_getI fl_X9_18 hk.1 rfl dX9_has_6 ?_
    refine v_icmp_ge (tgt := 16) dX9_has_9 (by decide) ?_ ?_
    · refine v_iconst (v := 0) dX9_has_16 (by decide) ?_
      exact v_zret dX9_has_17 rfl rfl rfl (by decide) (by decide)
    · refine v_iconst (v := 1) dX9_has_12 (by decide) ?_
      refine v_goto (tgt := 17) dX9_has_13 (by decide) ?_
      exact v_zret dX9_has_17 rfl rfl rfl (by decide) (by decide)
theorem S_X9_has {g : GC} (hl : g.1.stackTraces = false) {k : Nat} (hk : isX9 k) {x1 : Int32} {w : XW} : ∀ q, f_X9_has k x1 w = some q → MM g (.code yX9_has cX9_has 2 (some .boolean)) yX9_has (rmL 3 0 0) 0 0 [.ref (g.2.1 + k), .int x1] w (oI q) := fun q hq => MM_of (own := RX9) hl (by decide) gw_557 rfl (Nat.le_of_ble_eq_true rfl) (W_X9_has hl hk q hq) ⟨rfl, rfl⟩

theorem dX9_bitOf_0 : decode cX9_bitOf 0 = .ok (.iload_n 0, 1) := by decide +kernel
theorem dX9_bitOf_1 : decode cX9_bitOf 1 = .ok (.invokestatic 34, 3) := by decide +kernel
theorem dX9_bitOf_4 : decode cX9_bitOf 4 = .ok (.ifCond .eq 12, 3) := by decide +kernel
theorem dX9_bitOf_7 : decode cX9_bitOf 7 = .ok (.iconst 1, 1) := by decide +kernel
theorem dX9_bitOf_8 : decode cX9_bitOf 8 = .ok (.iload_n 0, 1) := by decide +kernel
theorem dX9_bitOf_9 : decode cX9_bitOf 9 = .ok (.bipush 97, 2) := by decide +kernel
theorem dX9_bitOf_11 : decode cX9_bitOf 11 = .ok (.isub, 1) := by decide +kernel
theorem dX9_bitOf_12 : decode cX9_bitOf 12 = .ok (.ishl, 1) := by decide +kernel
theorem dX9_bitOf_13 : decode cX9_bitOf 13 = .ok (.goto 4, 3) := by decide +kernel
theorem dX9_bitOf_16 : decode cX9_bitOf 16 = .ok (.iconst 0, 1) := by decide +kernel
theorem dX9_bitOf_17 : decode cX9_bitOf 17 = .ok (.ireturn, 1) := by decide +kernel
def f_X9_bitOf (x0 : Int32) (w : XW) : Option (Int32 × XW) := (bI (f_X9_isTerm x0 w) (fun r1 w1 => (if r1 = 0 then (some (0, w1)) else (some ((1 <<< ((x0 - 97) &&& 31)), w1)))))
set_option maxRecDepth 100000 in
theorem W_X9_bitOf {g : GC} (hl : g.1.stackTraces = false) {x0 : Int32} {w : XW} : VE g cX9_bitOf 1 RX9 (some .int) [] (rmL 4 0 0) 0 0 oI 0 0 0 [(0, .int x0)] [] w (f_X9_bitOf x0 w) := by
  unfold f_X9_bitOf
  refine v_iload_n dX9_bitOf_0 rfl 0 rfl ?_
  refine v_callSi (As := [.int x0]) cs_X9_34 (S_X9_isTerm hl) rfl rfl (Nat.le_of_ble_eq_true rfl) dX9_bitOf_1 (CR_rm (by decide) (by decide) (by decide) (by decide)) (fun r1 w1 => ?_)
  refine v_if_eq (tgt := 16) dX9_bitOf_4 (by decide) ?_ ?_
  · refine v_iconst (v := 0) dX9_bitOf_16 (by decide) ?_
    exact v_iret dX9_bitOf_17 rfl rfl (by decide) (by decide)
  · refine v_iconst (v := 1) dX9_bitOf_7 (by decide) ?_
    refine v_iload_n dX9_bitOf_8 rfl 0 rfl ?_
    refine v_bipush (v := 97) dX9_bitOf_9 (by decide) ?_
    refine v_isub dX9_bitOf_11 ?_
    refine v_ishl dX9_bitOf_12 ?_
    refine v_goto (tgt := 17) dX9_bitOf_13 (by decide) ?_
    exact v_iret dX9_bitOf_17 rfl rfl (by decide) (by decide)
theorem S_X9_bitOf {g : GC} (hl : g.1.stackTraces = false) {x0 : Int32} {w : XW} : ∀ q, f_X9_bitOf x0 w = some q → MM g (.code yX9_bitOf cX9_bitOf 1 (some .int)) yX9_bitOf (rmL 4 0 0) 0 0 [.int x0] w (oI q) := fun q hq => MM_of (own := RX9) hl (by decide) gw_576 rfl (Nat.le_of_ble_eq_true rfl) (W_X9_bitOf hl q hq) ⟨rfl, rfl⟩

theorem dX9_bears_0 : decode cX9_bears 0 = .ok (.aload_n 0, 1) := by decide +kernel
theorem dX9_bears_1 : decode cX9_bears 1 = .ok (.iload_n 1, 1) := by decide +kernel
theorem dX9_bears_2 : decode cX9_bears 2 = .ok (.invokevirtual 38, 3) := by decide +kernel
theorem dX9_bears_5 : decode cX9_bears 5 = .ok (.ifCond .eq 21, 3) := by decide +kernel
theorem dX9_bears_8 : decode cX9_bears 8 = .ok (.aload_n 0, 1) := by decide +kernel
theorem dX9_bears_9 : decode cX9_bears 9 = .ok (.getfield 15, 3) := by decide +kernel
theorem dX9_bears_12 : decode cX9_bears 12 = .ok (.iload_n 1, 1) := by decide +kernel
theorem dX9_bears_13 : decode cX9_bears 13 = .ok (.iaload, 1) := by decide +kernel
theorem dX9_bears_14 : decode cX9_bears 14 = .ok (.iload_n 2, 1) := by decide +kernel
theorem dX9_bears_15 : decode cX9_bears 15 = .ok (.invokestatic 47, 3) := by decide +kernel
theorem dX9_bears_18 : decode cX9_bears 18 = .ok (.iand, 1) := by decide +kernel
theorem dX9_bears_19 : decode cX9_bears 19 = .ok (.ifCond .eq 7, 3) := by decide +kernel
theorem dX9_bears_22 : decode cX9_bears 22 = .ok (.iconst 1, 1) := by decide +kernel
theorem dX9_bears_23 : decode cX9_bears 23 = .ok (.goto 4, 3) := by decide +kernel
theorem dX9_bears_26 : decode cX9_bears 26 = .ok (.iconst 0, 1) := by decide +kernel
theorem dX9_bears_27 : decode cX9_bears 27 = .ok (.ireturn, 1) := by decide +kernel
def f_X9_bears (k : Nat) (x1 : Int32) (x2 : Int32) (w : XW) : Option (Int32 × XW) := (bI (f_X9_has k x1 w) (fun r1 w1 => (if r1 = 0 then (some (0, w1)) else (if inB x1 7 then (bI (f_X9_bitOf x2 w1) (fun r3 w3 => (if ((w1.1 (k + 2) (Int32.toNatClampNeg x1)) &&& r3) = 0 then (some (0, w3)) else (some (1, w3))))) else none))))
set_option maxRecDepth 100000 in
theorem W_X9_bears {g : GC} (hl : g.1.stackTraces = false) {k : Nat} (hk : isX9 k) {x1 : Int32} {x2 : Int32} {w : XW} : VE g cX9_bears 3 RX9 (some .boolean) [] (rmL 5 0 0) 0 0 oI 0 0 0 [(0, .ref (g.2.1 + k)), (1, .int x1), (2, .int x2)] [] w (f_X9_bears k x1 x2 w) := by
  unfold f_X9_bears
  refine v_aload_n dX9_bears_0 rfl 0 rfl ?_
  refine v_iload_n dX9_bears_1 rfl 1 rfl ?_
  refine v_callVi (As := [.int x1]) cv_X9_38 (S_X9_has hl hk) hk.1 rfl rfl rfl (Nat.le_of_ble_eq_true rfl) dX9_bears_2 (CR_rm (by decide) (by decide) (by decide) (by decide)) (fun r1 w1 => ?_)
  refine v_if_eq (tgt := 26) dX9_bears_5 (by decide) ?_ ?_
  · refine v_iconst (v := 0) dX9_bears_26 (by decide) ?_
    exact v_zret dX9_bears_27 rfl rfl rfl (by decide) (by decide)
  · refine v_aload_n dX9_bears_8 rfl 0 rfl ?_
    refine v_getR fl_X9_15 hk.1 rfl dX9_bears_9 ?_
    refine v_iload_n dX9_bears_12 rfl 1 rfl ?_
    refine v_guard (fun h2 => ?_)
    refine v_iald hk.2.2 h2 dX9_bears_13 ?_
    refine v_iload_n dX9_bears_14 rfl 2 rfl ?_
    refine v_callSi (As := [.int x2]) cs_X9_47 (S_X9_bitOf hl) rfl rfl (Nat.le_of_ble_eq_true rfl) dX9_bears_15 (CR_rm (by decide) (by decide) (by decide) (by decide)) (fun r3 w3 => ?_)
    refine v_iand dX9_bears_18 ?_
    refine v_if_eq (tgt := 26) dX9_bears_19 (by decide) ?_ ?_
    · refine v_iconst (v := 0) dX9_bears_26 (by decide) ?_
      exact v_zret dX9_bears_27 rfl rfl rfl (by decide) (by decide)
    · refine v_iconst (v := 1) dX9_bears_22 (by decide) ?_
      refine v_goto (tgt := 27) dX9_bears_23 (by decide) ?_
      exact v_zret dX9_bears_27 rfl rfl rfl (by decide) (by decide)
theorem S_X9_bears {g : GC} (hl : g.1.stackTraces = false) {k : Nat} (hk : isX9 k) {x1 : Int32} {x2 : Int32} {w : XW} : ∀ q, f_X9_bears k x1 x2 w = some q → MM g (.code yX9_bears cX9_bears 3 (some .boolean)) yX9_bears (rmL 5 0 0) 0 0 [.ref (g.2.1 + k), .int x1, .int x2] w (oI q) := fun q hq => MM_of (own := RX9) hl (by decide) gw_573 rfl (Nat.le_of_ble_eq_true rfl) (W_X9_bears hl hk q hq) ⟨rfl, rfl⟩

theorem dX9_bearersOf_0 : decode cX9_bearersOf 0 = .ok (.iconst 0, 1) := by decide +kernel
theorem dX9_bearersOf_1 : decode cX9_bearersOf 1 = .ok (.istore_n 2, 1) := by decide +kernel
theorem dX9_bearersOf_2 : decode cX9_bearersOf 2 = .ok (.iconst 0, 1) := by decide +kernel
theorem dX9_bearersOf_3 : decode cX9_bearersOf 3 = .ok (.istore_n 3, 1) := by decide +kernel
theorem dX9_bearersOf_4 : decode cX9_bearersOf 4 = .ok (.iload_n 3, 1) := by decide +kernel
theorem dX9_bearersOf_5 : decode cX9_bearersOf 5 = .ok (.aload_n 0, 1) := by decide +kernel
theorem dX9_bearersOf_6 : decode cX9_bearersOf 6 = .ok (.getfield 18, 3) := by decide +kernel
theorem dX9_bearersOf_9 : decode cX9_bearersOf 9 = .ok (.if_icmp .ge 24, 3) := by decide +kernel
theorem dX9_bearersOf_12 : decode cX9_bearersOf 12 = .ok (.aload_n 0, 1) := by decide +kernel
theorem dX9_bearersOf_13 : decode cX9_bearersOf 13 = .ok (.iload_n 3, 1) := by decide +kernel
theorem dX9_bearersOf_14 : decode cX9_bearersOf 14 = .ok (.iload_n 1, 1) := by decide +kernel
theorem dX9_bearersOf_15 : decode cX9_bearersOf 15 = .ok (.invokevirtual 50, 3) := by decide +kernel
theorem dX9_bearersOf_18 : decode cX9_bearersOf 18 = .ok (.ifCond .eq 9, 3) := by decide +kernel
theorem dX9_bearersOf_21 : decode cX9_bearersOf 21 = .ok (.iload_n 2, 1) := by decide +kernel
theorem dX9_bearersOf_22 : decode cX9_bearersOf 22 = .ok (.iconst 1, 1) := by decide +kernel
theorem dX9_bearersOf_23 : decode cX9_bearersOf 23 = .ok (.iload_n 3, 1) := by decide +kernel
theorem dX9_bearersOf_24 : decode cX9_bearersOf 24 = .ok (.ishl, 1) := by decide +kernel
theorem dX9_bearersOf_25 : decode cX9_bearersOf 25 = .ok (.ior, 1) := by decide +kernel
theorem dX9_bearersOf_26 : decode cX9_bearersOf 26 = .ok (.istore_n 2, 1) := by decide +kernel
theorem dX9_bearersOf_27 : decode cX9_bearersOf 27 = .ok (.iinc 3 1, 3) := by decide +kernel
theorem dX9_bearersOf_30 : decode cX9_bearersOf 30 = .ok (.goto (-26), 3) := by decide +kernel
theorem dX9_bearersOf_33 : decode cX9_bearersOf 33 = .ok (.iload_n 2, 1) := by decide +kernel
theorem dX9_bearersOf_34 : decode cX9_bearersOf 34 = .ok (.ireturn, 1) := by decide +kernel
def f_X9_bearersOf_4 (k : Nat) (y1 : Int32) : Nat → Int32 → Int32 → XW → Option (Int32 × XW)
  | 0, _, _, _ => none
  | n + 1, z2, z3, w => (if (w.1 k 0) ≤ z3 then (some (z2, w)) else (bI (f_X9_bears k z3 y1 w) (fun r1 w1 => (if r1 = 0 then (f_X9_bearersOf_4 k y1 n z2 (z3 + 1) w1) else (f_X9_bearersOf_4 k y1 n (z2 ||| (1 <<< (z3 &&& 31))) (z3 + 1) w1)))))
set_option maxRecDepth 100000 in
theorem S_X9_bearersOf_4 {g : GC} (hl : g.1.stackTraces = false) {k : Nat} (hk : isX9 k) {y1 : Int32} : ∀ (n : Nat) (z2 : Int32) (z3 : Int32) (w : XW), VE g cX9_bearersOf 4 RX9 (some .int) [] (rmL 6 0 0) 0 0 oI 0 0 4 [(0, .ref (g.2.1 + k)), (1, .int y1), (2, .int z2), (3, .int z3)] [] w (f_X9_bearersOf_4 k y1 n z2 z3 w) := by
  intro n
  induction n with
  | zero => intro z2 z3 w; exact v_none
  | succ n ih =>
    intro z2 z3 w
    rw [f_X9_bearersOf_4]
    refine v_iload_n dX9_bearersOf_4 rfl 3 rfl ?_
    refine v_aload_n dX9_bearersOf_5 rfl 0 rfl ?_
    refine v_getI fl_X9_18 hk.1 rfl dX9_bearersOf_6 ?_
    refine v_icmp_ge (tgt := 33) dX9_bearersOf_9 (by decide) ?_ ?_
    · refine v_iload_n dX9_bearersOf_33 rfl 2 rfl ?_
      exact v_iret dX9_bearersOf_34 rfl rfl (by decide) (by decide)
    · refine v_aload_n dX9_bearersOf_12 rfl 0 rfl ?_
      refine v_iload_n dX9_bearersOf_13 rfl 3 rfl ?_
      refine v_iload_n dX9_bearersOf_14 rfl 1 rfl ?_
      refine v_callVi (As := [.int z3, .int y1]) cv_X9_50 (S_X9_bears hl hk) hk.1 rfl rfl rfl (Nat.le_of_ble_eq_true rfl) dX9_bearersOf_15 (CR_rm (by decide) (by decide) (by decide) (by decide)) (fun r1 w1 => ?_)
      refine v_if_eq (tgt := 27) dX9_bearersOf_18 (by decide) ?_ ?_
      · refine v_iinc (v := (z3 + 1)) dX9_bearersOf_27 (q := 3) rfl rfl (Nat.le_of_ble_eq_true rfl) rfl ?_
        refine v_goto (tgt := 4) dX9_bearersOf_30 (by decide) ?_
        refine v_sub [1, 2, 3, 0] rfl ?_
        exact ih _ _ _
      · refine v_iload_n dX9_bearersOf_21 rfl 2 rfl ?_
        refine v_iconst (v := 1) dX9_bearersOf_22 (by decide) ?_
        refine v_iload_n dX9_bearersOf_23 rfl 3 rfl ?_
        refine v_ishl dX9_bearersOf_24 ?_
        refine v_ior dX9_bearersOf_25 ?_
        refine v_istore_n dX9_bearersOf_26 rfl (Nat.le_of_ble_eq_true rfl) rfl ?_
        refine v_iinc (v := (z3 + 1)) dX9_bearersOf_27 (q := 3) rfl rfl (Nat.le_of_ble_eq_true rfl) rfl ?_
        refine v_goto (tgt := 4) dX9_bearersOf_30 (by decide) ?_
        refine v_sub [2, 3, 1, 0] rfl ?_
        exact ih _ _ _
def f_X9_bearersOf (k : Nat) (x1 : Int32) (w : XW) : Option (Int32 × XW) := (f_X9_bearersOf_4 k x1 1000 0 0 w)
set_option maxRecDepth 100000 in
theorem W_X9_bearersOf {g : GC} (hl : g.1.stackTraces = false) {k : Nat} (hk : isX9 k) {x1 : Int32} {w : XW} : VE g cX9_bearersOf 4 RX9 (some .int) [] (rmL 6 0 0) 0 0 oI 0 0 0 [(0, .ref (g.2.1 + k)), (1, .int x1)] [] w (f_X9_bearersOf k x1 w) := by
  unfold f_X9_bearersOf
  refine v_iconst (v := 0) dX9_bearersOf_0 (by decide) ?_
  refine v_istore_n dX9_bearersOf_1 rfl (Nat.le_of_ble_eq_true rfl) rfl ?_
  refine v_iconst (v := 0) dX9_bearersOf_2 (by decide) ?_
  refine v_istore_n dX9_bearersOf_3 rfl (Nat.le_of_ble_eq_true rfl) rfl ?_
  refine v_sub [2, 3, 1, 0] rfl ?_
  exact S_X9_bearersOf_4 hl hk  _ _ _ _
theorem S_X9_bearersOf {g : GC} (hl : g.1.stackTraces = false) {k : Nat} (hk : isX9 k) {x1 : Int32} {w : XW} : ∀ q, f_X9_bearersOf k x1 w = some q → MM g (.code yX9_bearersOf cX9_bearersOf 4 (some .int)) yX9_bearersOf (rmL 6 0 0) 0 0 [.ref (g.2.1 + k), .int x1] w (oI q) := fun q hq => MM_of (own := RX9) hl (by decide) gw_935 rfl (Nat.le_of_ble_eq_true rfl) (W_X9_bearersOf hl hk q hq) ⟨rfl, rfl⟩

theorem dX9_waterOf_0 : decode cX9_waterOf 0 = .ok (.aload_n 0, 1) := by decide +kernel
theorem dX9_waterOf_1 : decode cX9_waterOf 1 = .ok (.iload_n 1, 1) := by decide +kernel
theorem dX9_waterOf_2 : decode cX9_waterOf 2 = .ok (.invokevirtual 38, 3) := by decide +kernel
theorem dX9_waterOf_5 : decode cX9_waterOf 5 = .ok (.ifCond .eq 12, 3) := by decide +kernel
theorem dX9_waterOf_8 : decode cX9_waterOf 8 = .ok (.aload_n 0, 1) := by decide +kernel
theorem dX9_waterOf_9 : decode cX9_waterOf 9 = .ok (.getfield 9, 3) := by decide +kernel
theorem dX9_waterOf_12 : decode cX9_waterOf 12 = .ok (.iload_n 1, 1) := by decide +kernel
theorem dX9_waterOf_13 : decode cX9_waterOf 13 = .ok (.iaload, 1) := by decide +kernel
theorem dX9_waterOf_14 : decode cX9_waterOf 14 = .ok (.goto 4, 3) := by decide +kernel
theorem dX9_waterOf_17 : decode cX9_waterOf 17 = .ok (.iconst 0, 1) := by decide +kernel
theorem dX9_waterOf_18 : decode cX9_waterOf 18 = .ok (.ireturn, 1) := by decide +kernel
def f_X9_waterOf (k : Nat) (x1 : Int32) (w : XW) : Option (Int32 × XW) := (bI (f_X9_has k x1 w) (fun r1 w1 => (if r1 = 0 then (some (0, w1)) else (if inB x1 7 then (some ((w1.1 (k + 1) (Int32.toNatClampNeg x1)), w1)) else none))))
set_option maxRecDepth 100000 in
theorem W_X9_waterOf {g : GC} (hl : g.1.stackTraces = false) {k : Nat} (hk : isX9 k) {x1 : Int32} {w : XW} : VE g cX9_waterOf 2 RX9 (some .int) [] (rmL 4 0 0) 0 0 oI 0 0 0 [(0, .ref (g.2.1 + k)), (1, .int x1)] [] w (f_X9_waterOf k x1 w) := by
  unfold f_X9_waterOf
  refine v_aload_n dX9_waterOf_0 rfl 0 rfl ?_
  refine v_iload_n dX9_waterOf_1 rfl 1 rfl ?_
  refine v_callVi (As := [.int x1]) cv_X9_38 (S_X9_has hl hk) hk.1 rfl rfl rfl (Nat.le_of_ble_eq_true rfl) dX9_waterOf_2 (CR_rm (by decide) (by decide) (by decide) (by decide)) (fun r1 w1 => ?_)
  refine v_if_eq (tgt := 17) dX9_waterOf_5 (by decide) ?_ ?_
  · refine v_iconst (v := 0) dX9_waterOf_17 (by decide) ?_
    exact v_iret dX9_waterOf_18 rfl rfl (by decide) (by decide)
  · refine v_aload_n dX9_waterOf_8 rfl 0 rfl ?_
    refine v_getR fl_X9_9 hk.1 rfl dX9_waterOf_9 ?_
    refine v_iload_n dX9_waterOf_12 rfl 1 rfl ?_
    refine v_guard (fun h2 => ?_)
    refine v_iald hk.2.1 h2 dX9_waterOf_13 ?_
    refine v_goto (tgt := 18) dX9_waterOf_14 (by decide) ?_
    exact v_iret dX9_waterOf_18 rfl rfl (by decide) (by decide)
theorem S_X9_waterOf {g : GC} (hl : g.1.stackTraces = false) {k : Nat} (hk : isX9 k) {x1 : Int32} {w : XW} : ∀ q, f_X9_waterOf k x1 w = some q → MM g (.code yX9_waterOf cX9_waterOf 2 (some .int)) yX9_waterOf (rmL 4 0 0) 0 0 [.ref (g.2.1 + k), .int x1] w (oI q) := fun q hq => MM_of (own := RX9) hl (by decide) gw_561 rfl (Nat.le_of_ble_eq_true rfl) (W_X9_waterOf hl hk q hq) ⟨rfl, rfl⟩

theorem dJ6_bitCount_0f7a4_0 : decode cJ6_bitCount_0f7a4 0 = .ok (.iload_n 0, 1) := by decide +kernel
theorem dJ6_bitCount_0f7a4_1 : decode cJ6_bitCount_0f7a4 1 = .ok (.iload_n 0, 1) := by decide +kernel
theorem dJ6_bitCount_0f7a4_2 : decode cJ6_bitCount_0f7a4 2 = .ok (.iconst 1, 1) := by decide +kernel
theorem dJ6_bitCount_0f7a4_3 : decode cJ6_bitCount_0f7a4 3 = .ok (.iushr, 1) := by decide +kernel
theorem dJ6_bitCount_0f7a4_4 : decode cJ6_bitCount_0f7a4 4 = .ok (.ldc_w 265, 3) := by decide +kernel
theorem dJ6_bitCount_0f7a4_7 : decode cJ6_bitCount_0f7a4 7 = .ok (.iand, 1) := by decide +kernel
theorem dJ6_bitCount_0f7a4_8 : decode cJ6_bitCount_0f7a4 8 = .ok (.isub, 1) := by decide +kernel
theorem dJ6_bitCount_0f7a4_9 : decode cJ6_bitCount_0f7a4 9 = .ok (.istore_n 0, 1) := by decide +kernel
theorem dJ6_bitCount_0f7a4_10 : decode cJ6_bitCount_0f7a4 10 = .ok (.iload_n 0, 1) := by decide +kernel
theorem dJ6_bitCount_0f7a4_11 : decode cJ6_bitCount_0f7a4 11 = .ok (.ldc_w 266, 3) := by decide +kernel
theorem dJ6_bitCount_0f7a4_14 : decode cJ6_bitCount_0f7a4 14 = .ok (.iand, 1) := by decide +kernel
theorem dJ6_bitCount_0f7a4_15 : decode cJ6_bitCount_0f7a4 15 = .ok (.iload_n 0, 1) := by decide +kernel
theorem dJ6_bitCount_0f7a4_16 : decode cJ6_bitCount_0f7a4 16 = .ok (.iconst 2, 1) := by decide +kernel
theorem dJ6_bitCount_0f7a4_17 : decode cJ6_bitCount_0f7a4 17 = .ok (.iushr, 1) := by decide +kernel
theorem dJ6_bitCount_0f7a4_18 : decode cJ6_bitCount_0f7a4 18 = .ok (.ldc_w 266, 3) := by decide +kernel
theorem dJ6_bitCount_0f7a4_21 : decode cJ6_bitCount_0f7a4 21 = .ok (.iand, 1) := by decide +kernel
theorem dJ6_bitCount_0f7a4_22 : decode cJ6_bitCount_0f7a4 22 = .ok (.iadd, 1) := by decide +kernel
theorem dJ6_bitCount_0f7a4_23 : decode cJ6_bitCount_0f7a4 23 = .ok (.istore_n 0, 1) := by decide +kernel
theorem dJ6_bitCount_0f7a4_24 : decode cJ6_bitCount_0f7a4 24 = .ok (.iload_n 0, 1) := by decide +kernel
theorem dJ6_bitCount_0f7a4_25 : decode cJ6_bitCount_0f7a4 25 = .ok (.iload_n 0, 1) := by decide +kernel
theorem dJ6_bitCount_0f7a4_26 : decode cJ6_bitCount_0f7a4 26 = .ok (.iconst 4, 1) := by decide +kernel
theorem dJ6_bitCount_0f7a4_27 : decode cJ6_bitCount_0f7a4 27 = .ok (.iushr, 1) := by decide +kernel
theorem dJ6_bitCount_0f7a4_28 : decode cJ6_bitCount_0f7a4 28 = .ok (.iadd, 1) := by decide +kernel
theorem dJ6_bitCount_0f7a4_29 : decode cJ6_bitCount_0f7a4 29 = .ok (.ldc_w 267, 3) := by decide +kernel
theorem dJ6_bitCount_0f7a4_32 : decode cJ6_bitCount_0f7a4 32 = .ok (.iand, 1) := by decide +kernel
theorem dJ6_bitCount_0f7a4_33 : decode cJ6_bitCount_0f7a4 33 = .ok (.istore_n 0, 1) := by decide +kernel
theorem dJ6_bitCount_0f7a4_34 : decode cJ6_bitCount_0f7a4 34 = .ok (.iload_n 0, 1) := by decide +kernel
theorem dJ6_bitCount_0f7a4_35 : decode cJ6_bitCount_0f7a4 35 = .ok (.iload_n 0, 1) := by decide +kernel
theorem dJ6_bitCount_0f7a4_36 : decode cJ6_bitCount_0f7a4 36 = .ok (.bipush 8, 2) := by decide +kernel
theorem dJ6_bitCount_0f7a4_38 : decode cJ6_bitCount_0f7a4 38 = .ok (.iushr, 1) := by decide +kernel
theorem dJ6_bitCount_0f7a4_39 : decode cJ6_bitCount_0f7a4 39 = .ok (.iadd, 1) := by decide +kernel
theorem dJ6_bitCount_0f7a4_40 : decode cJ6_bitCount_0f7a4 40 = .ok (.istore_n 0, 1) := by decide +kernel
theorem dJ6_bitCount_0f7a4_41 : decode cJ6_bitCount_0f7a4 41 = .ok (.iload_n 0, 1) := by decide +kernel
theorem dJ6_bitCount_0f7a4_42 : decode cJ6_bitCount_0f7a4 42 = .ok (.iload_n 0, 1) := by decide +kernel
theorem dJ6_bitCount_0f7a4_43 : decode cJ6_bitCount_0f7a4 43 = .ok (.bipush 16, 2) := by decide +kernel
theorem dJ6_bitCount_0f7a4_45 : decode cJ6_bitCount_0f7a4 45 = .ok (.iushr, 1) := by decide +kernel
theorem dJ6_bitCount_0f7a4_46 : decode cJ6_bitCount_0f7a4 46 = .ok (.iadd, 1) := by decide +kernel
theorem dJ6_bitCount_0f7a4_47 : decode cJ6_bitCount_0f7a4 47 = .ok (.istore_n 0, 1) := by decide +kernel
theorem dJ6_bitCount_0f7a4_48 : decode cJ6_bitCount_0f7a4 48 = .ok (.iload_n 0, 1) := by decide +kernel
theorem dJ6_bitCount_0f7a4_49 : decode cJ6_bitCount_0f7a4 49 = .ok (.bipush 63, 2) := by decide +kernel
theorem dJ6_bitCount_0f7a4_51 : decode cJ6_bitCount_0f7a4 51 = .ok (.iand, 1) := by decide +kernel
theorem dJ6_bitCount_0f7a4_52 : decode cJ6_bitCount_0f7a4 52 = .ok (.ireturn, 1) := by decide +kernel
def f_J6_bitCount_0f7a4 (x0 : Int32) (w : XW) : Option (Int32 × XW) := (some (((((((((x0 - (((Int32.toUInt32 x0 >>> (Int32.toUInt32 1 &&& Int32.toUInt32 31)).toInt32) &&& 1431655765)) &&& 858993459) + (((Int32.toUInt32 (x0 - (((Int32.toUInt32 x0 >>> (Int32.toUInt32 1 &&& Int32.toUInt32 31)).toInt32) &&& 1431655765)) >>> (Int32.toUInt32 2 &&& Int32.toUInt32 31)).toInt32) &&& 858993459)) + ((Int32.toUInt32 (((x0 - (((Int32.toUInt32 x0 >>> (Int32.toUInt32 1 &&& Int32.toUInt32 31)).toInt32) &&& 1431655765)) &&& 858993459) + (((Int32.toUInt32 (x0 - (((Int32.toUInt32 x0 >>> (Int32.toUInt32 1 &&& Int32.toUInt32 31)).toInt32) &&& 1431655765)) >>> (Int32.toUInt32 2 &&& Int32.toUInt32 31)).toInt32) &&& 858993459)) >>> (Int32.toUInt32 4 &&& Int32.toUInt32 31)).toInt32)) &&& 252645135) + ((Int32.toUInt32 (((((x0 - (((Int32.toUInt32 x0 >>> (Int32.toUInt32 1 &&& Int32.toUInt32 31)).toInt32) &&& 1431655765)) &&& 858993459) + (((Int32.toUInt32 (x0 - (((Int32.toUInt32 x0 >>> (Int32.toUInt32 1 &&& Int32.toUInt32 31)).toInt32) &&& 1431655765)) >>> (Int32.toUInt32 2 &&& Int32.toUInt32 31)).toInt32) &&& 858993459)) + ((Int32.toUInt32 (((x0 - (((Int32.toUInt32 x0 >>> (Int32.toUInt32 1 &&& Int32.toUInt32 31)).toInt32) &&& 1431655765)) &&& 858993459) + (((Int32.toUInt32 (x0 - (((Int32.toUInt32 x0 >>> (Int32.toUInt32 1 &&& Int32.toUInt32 31)).toInt32) &&& 1431655765)) >>> (Int32.toUInt32 2 &&& Int32.toUInt32 31)).toInt32) &&& 858993459)) >>> (Int32.toUInt32 4 &&& Int32.toUInt32 31)).toInt32)) &&& 252645135) >>> (Int32.toUInt32 8 &&& Int32.toUInt32 31)).toInt32)) + ((Int32.toUInt32 ((((((x0 - (((Int32.toUInt32 x0 >>> (Int32.toUInt32 1 &&& Int32.toUInt32 31)).toInt32) &&& 1431655765)) &&& 858993459) + (((Int32.toUInt32 (x0 - (((Int32.toUInt32 x0 >>> (Int32.toUInt32 1 &&& Int32.toUInt32 31)).toInt32) &&& 1431655765)) >>> (Int32.toUInt32 2 &&& Int32.toUInt32 31)).toInt32) &&& 858993459)) + ((Int32.toUInt32 (((x0 - (((Int32.toUInt32 x0 >>> (Int32.toUInt32 1 &&& Int32.toUInt32 31)).toInt32) &&& 1431655765)) &&& 858993459) + (((Int32.toUInt32 (x0 - (((Int32.toUInt32 x0 >>> (Int32.toUInt32 1 &&& Int32.toUInt32 31)).toInt32) &&& 1431655765)) >>> (Int32.toUInt32 2 &&& Int32.toUInt32 31)).toInt32) &&& 858993459)) >>> (Int32.toUInt32 4 &&& Int32.toUInt32 31)).toInt32)) &&& 252645135) + ((Int32.toUInt32 (((((x0 - (((Int32.toUInt32 x0 >>> (Int32.toUInt32 1 &&& Int32.toUInt32 31)).toInt32) &&& 1431655765)) &&& 858993459) + (((Int32.toUInt32 (x0 - (((Int32.toUInt32 x0 >>> (Int32.toUInt32 1 &&& Int32.toUInt32 31)).toInt32) &&& 1431655765)) >>> (Int32.toUInt32 2 &&& Int32.toUInt32 31)).toInt32) &&& 858993459)) + ((Int32.toUInt32 (((x0 - (((Int32.toUInt32 x0 >>> (Int32.toUInt32 1 &&& Int32.toUInt32 31)).toInt32) &&& 1431655765)) &&& 858993459) + (((Int32.toUInt32 (x0 - (((Int32.toUInt32 x0 >>> (Int32.toUInt32 1 &&& Int32.toUInt32 31)).toInt32) &&& 1431655765)) >>> (Int32.toUInt32 2 &&& Int32.toUInt32 31)).toInt32) &&& 858993459)) >>> (Int32.toUInt32 4 &&& Int32.toUInt32 31)).toInt32)) &&& 252645135) >>> (Int32.toUInt32 8 &&& Int32.toUInt32 31)).toInt32)) >>> (Int32.toUInt32 16 &&& Int32.toUInt32 31)).toInt32)) &&& 63), w))
set_option maxRecDepth 100000 in
theorem W_J6_bitCount_0f7a4 {g : GC} (hl : g.1.stackTraces = false) {x0 : Int32} {w : XW} : VE g cJ6_bitCount_0f7a4 1 RJ6 (some .int) [] (rmL 3 0 0) 0 0 oI 0 0 0 [(0, .int x0)] [] w (f_J6_bitCount_0f7a4 x0 w) := by
  unfold f_J6_bitCount_0f7a4
  refine v_iload_n dJ6_bitCount_0f7a4_0 rfl 0 rfl ?_
  refine v_iload_n dJ6_bitCount_0f7a4_1 rfl 0 rfl ?_
  refine v_iconst (v := 1) dJ6_bitCount_0f7a4_2 (by decide) ?_
  refine v_iushr dJ6_bitCount_0f7a4_3 ?_
  refine v_ldcw gw_585 dJ6_bitCount_0f7a4_4 ?_
  refine v_iand dJ6_bitCount_0f7a4_7 ?_
  refine v_isub dJ6_bitCount_0f7a4_8 ?_
  refine v_istore_n dJ6_bitCount_0f7a4_9 rfl (Nat.le_of_ble_eq_true rfl) rfl ?_
  refine v_iload_n dJ6_bitCount_0f7a4_10 rfl 0 rfl ?_
  refine v_ldcw gw_586 dJ6_bitCount_0f7a4_11 ?_
  refine v_iand dJ6_bitCount_0f7a4_14 ?_
  refine v_iload_n dJ6_bitCount_0f7a4_15 rfl 0 rfl ?_
  refine v_iconst (v := 2) dJ6_bitCount_0f7a4_16 (by decide) ?_
  refine v_iushr dJ6_bitCount_0f7a4_17 ?_
  refine v_ldcw gw_586 dJ6_bitCount_0f7a4_18 ?_
  refine v_iand dJ6_bitCount_0f7a4_21 ?_
  refine v_iadd dJ6_bitCount_0f7a4_22 ?_
  refine v_istore_n dJ6_bitCount_0f7a4_23 rfl (Nat.le_of_ble_eq_true rfl) rfl ?_
  refine v_iload_n dJ6_bitCount_0f7a4_24 rfl 0 rfl ?_
  refine v_iload_n dJ6_bitCount_0f7a4_25 rfl 0 rfl ?_
  refine v_iconst (v := 4) dJ6_bitCount_0f7a4_26 (by decide) ?_
  refine v_iushr dJ6_bitCount_0f7a4_27 ?_
  refine v_iadd dJ6_bitCount_0f7a4_28 ?_
  refine v_ldcw gw_587 dJ6_bitCount_0f7a4_29 ?_
  refine v_iand dJ6_bitCount_0f7a4_32 ?_
  refine v_istore_n dJ6_bitCount_0f7a4_33 rfl (Nat.le_of_ble_eq_true rfl) rfl ?_
  refine v_iload_n dJ6_bitCount_0f7a4_34 rfl 0 rfl ?_
  refine v_iload_n dJ6_bitCount_0f7a4_35 rfl 0 rfl ?_
  refine v_bipush (v := 8) dJ6_bitCount_0f7a4_36 (by decide) ?_
  refine v_iushr dJ6_bitCount_0f7a4_38 ?_
  refine v_iadd dJ6_bitCount_0f7a4_39 ?_
  refine v_istore_n dJ6_bitCount_0f7a4_40 rfl (Nat.le_of_ble_eq_true rfl) rfl ?_
  refine v_iload_n dJ6_bitCount_0f7a4_41 rfl 0 rfl ?_
  refine v_iload_n dJ6_bitCount_0f7a4_42 rfl 0 rfl ?_
  refine v_bipush (v := 16) dJ6_bitCount_0f7a4_43 (by decide) ?_
  refine v_iushr dJ6_bitCount_0f7a4_45 ?_
  refine v_iadd dJ6_bitCount_0f7a4_46 ?_
  refine v_istore_n dJ6_bitCount_0f7a4_47 rfl (Nat.le_of_ble_eq_true rfl) rfl ?_
  refine v_iload_n dJ6_bitCount_0f7a4_48 rfl 0 rfl ?_
  refine v_bipush (v := 63) dJ6_bitCount_0f7a4_49 (by decide) ?_
  refine v_iand dJ6_bitCount_0f7a4_51 ?_
  exact v_iret dJ6_bitCount_0f7a4_52 rfl rfl (by decide) (by decide)
theorem S_J6_bitCount_0f7a4 {g : GC} (hl : g.1.stackTraces = false) {x0 : Int32} {w : XW} : ∀ q, f_J6_bitCount_0f7a4 x0 w = some q → MM g (.code yJ6_bitCount_0f7a4 cJ6_bitCount_0f7a4 1 (some .int)) yJ6_bitCount_0f7a4 (rmL 3 0 0) 0 0 [.int x0] w (oI q) := fun q hq => MM_of (own := RJ6) hl (by decide) gw_584 rfl (Nat.le_of_ble_eq_true rfl) (W_J6_bitCount_0f7a4 hl q hq) ⟨rfl, rfl⟩

theorem dX9_termCountOf_0 : decode cX9_termCountOf 0 = .ok (.aload_n 0, 1) := by decide +kernel
theorem dX9_termCountOf_1 : decode cX9_termCountOf 1 = .ok (.iload_n 1, 1) := by decide +kernel
theorem dX9_termCountOf_2 : decode cX9_termCountOf 2 = .ok (.invokevirtual 38, 3) := by decide +kernel
theorem dX9_termCountOf_5 : decode cX9_termCountOf 5 = .ok (.ifCond .eq 15, 3) := by decide +kernel
theorem dX9_termCountOf_8 : decode cX9_termCountOf 8 = .ok (.aload_n 0, 1) := by decide +kernel
theorem dX9_termCountOf_9 : decode cX9_termCountOf 9 = .ok (.getfield 15, 3) := by decide +kernel
theorem dX9_termCountOf_12 : decode cX9_termCountOf 12 = .ok (.iload_n 1, 1) := by decide +kernel
theorem dX9_termCountOf_13 : decode cX9_termCountOf 13 = .ok (.iaload, 1) := by decide +kernel
theorem dX9_termCountOf_14 : decode cX9_termCountOf 14 = .ok (.invokestatic 41, 3) := by decide +kernel
theorem dX9_termCountOf_17 : decode cX9_termCountOf 17 = .ok (.goto 4, 3) := by decide +kernel
theorem dX9_termCountOf_20 : decode cX9_termCountOf 20 = .ok (.iconst 0, 1) := by decide +kernel
theorem dX9_termCountOf_21 : decode cX9_termCountOf 21 = .ok (.ireturn, 1) := by decide +kernel
def f_X9_termCountOf (k : Nat) (x1 : Int32) (w : XW) : Option (Int32 × XW) := (bI (f_X9_has k x1 w) (fun r1 w1 => (if r1 = 0 then (some (0, w1)) else (if inB x1 7 then (bI (f_J6_bitCount_0f7a4 (w1.1 (k + 2) (Int32.toNatClampNeg x1)) w1) (fun r3 w3 => (some (r3, w3)))) else none))))
set_option maxRecDepth 100000 in
theorem W_X9_termCountOf {g : GC} (hl : g.1.stackTraces = false) {k : Nat} (hk : isX9 k) {x1 : Int32} {w : XW} : VE g cX9_termCountOf 2 RX9 (some .int) [] (rmL 4 0 0) 0 0 oI 0 0 0 [(0, .ref (g.2.1 + k)), (1, .int x1)] [] w (f_X9_termCountOf k x1 w) := by
  unfold f_X9_termCountOf
  refine v_aload_n dX9_termCountOf_0 rfl 0 rfl ?_
  refine v_iload_n dX9_termCountOf_1 rfl 1 rfl ?_
  refine v_callVi (As := [.int x1]) cv_X9_38 (S_X9_has hl hk) hk.1 rfl rfl rfl (Nat.le_of_ble_eq_true rfl) dX9_termCountOf_2 (CR_rm (by decide) (by decide) (by decide) (by decide)) (fun r1 w1 => ?_)
  refine v_if_eq (tgt := 20) dX9_termCountOf_5 (by decide) ?_ ?_
  · refine v_iconst (v := 0) dX9_termCountOf_20 (by decide) ?_
    exact v_iret dX9_termCountOf_21 rfl rfl (by decide) (by decide)
  · refine v_aload_n dX9_termCountOf_8 rfl 0 rfl ?_
    refine v_getR fl_X9_15 hk.1 rfl dX9_termCountOf_9 ?_
    refine v_iload_n dX9_termCountOf_12 rfl 1 rfl ?_
    refine v_guard (fun h2 => ?_)
    refine v_iald hk.2.2 h2 dX9_termCountOf_13 ?_
    refine v_callSi (As := [.int (w1.1 (k + 2) (Int32.toNatClampNeg x1))]) cs_X9_41 (S_J6_bitCount_0f7a4 hl) rfl rfl (Nat.le_of_ble_eq_true rfl) dX9_termCountOf_14 (CR_rm (by decide) (by decide) (by decide) (by decide)) (fun r3 w3 => ?_)
    refine v_goto (tgt := 21) dX9_termCountOf_17 (by decide) ?_
    exact v_iret dX9_termCountOf_21 rfl rfl (by decide) (by decide)
theorem S_X9_termCountOf {g : GC} (hl : g.1.stackTraces = false) {k : Nat} (hk : isX9 k) {x1 : Int32} {w : XW} : ∀ q, f_X9_termCountOf k x1 w = some q → MM g (.code yX9_termCountOf cX9_termCountOf 2 (some .int)) yX9_termCountOf (rmL 4 0 0) 0 0 [.ref (g.2.1 + k), .int x1] w (oI q) := fun q hq => MM_of (own := RX9) hl (by decide) gw_581 rfl (Nat.le_of_ble_eq_true rfl) (W_X9_termCountOf hl hk q hq) ⟨rfl, rfl⟩

theorem dX9_append_0 : decode cX9_append 0 = .ok (.aload_n 0, 1) := by decide +kernel
theorem dX9_append_1 : decode cX9_append 1 = .ok (.getfield 18, 3) := by decide +kernel
theorem dX9_append_4 : decode cX9_append 4 = .ok (.bipush 7, 2) := by decide +kernel
theorem dX9_append_6 : decode cX9_append 6 = .ok (.if_icmp .lt 5, 3) := by decide +kernel
theorem dX9_append_9 : decode cX9_append 9 = .ok (.iconst (-1), 1) := by decide +kernel
theorem dX9_append_10 : decode cX9_append 10 = .ok (.ireturn, 1) := by decide +kernel
theorem dX9_append_11 : decode cX9_append 11 = .ok (.aload_n 0, 1) := by decide +kernel
theorem dX9_append_12 : decode cX9_append 12 = .ok (.getfield 9, 3) := by decide +kernel
theorem dX9_append_15 : decode cX9_append 15 = .ok (.aload_n 0, 1) := by decide +kernel
theorem dX9_append_16 : decode cX9_append 16 = .ok (.getfield 18, 3) := by decide +kernel
theorem dX9_append_19 : decode cX9_append 19 = .ok (.iconst 0, 1) := by decide +kernel
theorem dX9_append_20 : decode cX9_append 20 = .ok (.iastore, 1) := by decide +kernel
theorem dX9_append_21 : decode cX9_append 21 = .ok (.aload_n 0, 1) := by decide +kernel
theorem dX9_append_22 : decode cX9_append 22 = .ok (.getfield 15, 3) := by decide +kernel
theorem dX9_append_25 : decode cX9_append 25 = .ok (.aload_n 0, 1) := by decide +kernel
theorem dX9_append_26 : decode cX9_append 26 = .ok (.getfield 18, 3) := by decide +kernel
theorem dX9_append_29 : decode cX9_append 29 = .ok (.iconst 0, 1) := by decide +kernel
theorem dX9_append_30 : decode cX9_append 30 = .ok (.iastore, 1) := by decide +kernel
theorem dX9_append_31 : decode cX9_append 31 = .ok (.aload_n 0, 1) := by decide +kernel
theorem dX9_append_32 : decode cX9_append 32 = .ok (.dup, 1) := by decide +kernel
theorem dX9_append_33 : decode cX9_append 33 = .ok (.getfield 18, 3) := by decide +kernel
theorem dX9_append_36 : decode cX9_append 36 = .ok (.iconst 1, 1) := by decide +kernel
theorem dX9_append_37 : decode cX9_append 37 = .ok (.iadd, 1) := by decide +kernel
theorem dX9_append_38 : decode cX9_append 38 = .ok (.putfield 18, 3) := by decide +kernel
theorem dX9_append_41 : decode cX9_append 41 = .ok (.aload_n 0, 1) := by decide +kernel
theorem dX9_append_42 : decode cX9_append 42 = .ok (.getfield 18, 3) := by decide +kernel
theorem dX9_append_45 : decode cX9_append 45 = .ok (.iconst 1, 1) := by decide +kernel
theorem dX9_append_46 : decode cX9_append 46 = .ok (.isub, 1) := by decide +kernel
theorem dX9_append_47 : decode cX9_append 47 = .ok (.ireturn, 1) := by decide +kernel
def f_X9_append (k : Nat) (w : XW) : Option (Int32 × XW) := (if (w.1 k 0) < 7 then (if inB (w.1 k 0) 7 then (if inB ((wset w (k + 1) (Int32.toNatClampNeg (w.1 k 0)) 0).1 k 0) 7 then (some ((((wset (wset (wset w (k + 1) (Int32.toNatClampNeg (w.1 k 0)) 0) (k + 2) (Int32.toNatClampNeg ((wset w (k + 1) (Int32.toNatClampNeg (w.1 k 0)) 0).1 k 0)) 0) k 0 (((wset (wset w (k + 1) (Int32.toNatClampNeg (w.1 k 0)) 0) (k + 2) (Int32.toNatClampNeg ((wset w (k + 1) (Int32.toNatClampNeg (w.1 k 0)) 0).1 k 0)) 0).1 k 0) + 1)).1 k 0) - 1), (wset (wset (wset w (k + 1) (Int32.toNatClampNeg (w.1 k 0)) 0) (k + 2) (Int32.toNatClampNeg ((wset w (k + 1) (Int32.toNatClampNeg (w.1 k 0)) 0).1 k 0)) 0) k 0 (((wset (wset w (k + 1) (Int32.toNatClampNeg (w.1 k 0)) 0) (k + 2) (Int32.toNatClampNeg ((wset w (k + 1) (Int32.toNatClampNeg (w.1 k 0)) 0).1 k 0)) 0).1 k 0) + 1)))) else none) else none) else (some ((-1), w)))
set_option maxRecDepth 100000 in
theorem W_X9_append {g : GC} (hl : g.1.stackTraces = false) {k : Nat} (hk : isX9 k) {w : XW} : VE g cX9_append 1 RX9 (some .int) [] (rmL 3 0 0) 0 0 oI 0 0 0 [(0, .ref (g.2.1 + k))] [] w (f_X9_append k w) := by
  unfold f_X9_append
  refine v_aload_n dX9_append_0 rfl 0 rfl ?_
  refine v_getI fl_X9_18 hk.1 rfl dX9_append_1 ?_
  refine v_bipush (v := 7) dX9_append_4 (by decide) ?_
  refine v_icmp_lt (tgt := 11) dX9_append_6 (by decide) ?_ ?_
  · refine v_aload_n dX9_append_11 rfl 0 rfl ?_
    refine v_getR fl_X9_9 hk.1 rfl dX9_append_12 ?_
    refine v_aload_n dX9_append_15 rfl 0 rfl ?_
    refine v_getI fl_X9_18 hk.1 rfl dX9_append_16 ?_
    refine v_iconst (v := 0) dX9_append_19 (by decide) ?_
    refine v_guard (fun h1 => ?_)
    refine v_iast hk.2.1 h1 dX9_append_20 ?_
    refine v_aload_n dX9_append_21 rfl 0 rfl ?_
    refine v_getR fl_X9_15 hk.1 rfl dX9_append_22 ?_
    refine v_aload_n dX9_append_25 rfl 0 rfl ?_
    refine v_getI fl_X9_18 hk.1 rfl dX9_append_26 ?_
    refine v_iconst (v := 0) dX9_append_29 (by decide) ?_
    refine v_guard (fun h2 => ?_)
    refine v_iast hk.2.2 h2 dX9_append_30 ?_
    refine v_aload_n dX9_append_31 rfl 0 rfl ?_
    refine v_dup dX9_append_32 rfl ?_
    refine v_getI fl_X9_18 hk.1 rfl dX9_append_33 ?_
    refine v_iconst (v := 1) dX9_append_36 (by decide) ?_
    refine v_iadd dX9_append_37 ?_
    refine v_putI fl_X9_18 hk.1 rfl (ty0 := .int) rfl rfl rfl dX9_append_38 ?_
    refine v_aload_n dX9_append_41 rfl 0 rfl ?_
    refine v_getI fl_X9_18 hk.1 rfl dX9_append_42 ?_
    refine v_iconst (v := 1) dX9_append_45 (by decide) ?_
    refine v_isub dX9_append_46 ?_
    exact v_iret dX9_append_47 rfl rfl (by decide) (by decide)
  · refine v_iconst (v := (-1)) dX9_append_9 (by decide) ?_
    exact v_iret dX9_append_10 rfl rfl (by decide) (by decide)
theorem S_X9_append {g : GC} (hl : g.1.stackTraces = false) {k : Nat} (hk : isX9 k) {w : XW} : ∀ q, f_X9_append k w = some q → MM g (.code yX9_append cX9_append 1 (some .int)) yX9_append (rmL 3 0 0) 0 0 [.ref (g.2.1 + k)] w (oI q) := fun q hq => MM_of (own := RX9) hl (by decide) gw_741 rfl (Nat.le_of_ble_eq_true rfl) (W_X9_append hl hk q hq) ⟨rfl, rfl⟩

theorem dX9_add_0 : decode cX9_add 0 = .ok (.aload_n 0, 1) := by decide +kernel
theorem dX9_add_1 : decode cX9_add 1 = .ok (.iload_n 1, 1) := by decide +kernel
theorem dX9_add_2 : decode cX9_add 2 = .ok (.invokevirtual 38, 3) := by decide +kernel
theorem dX9_add_5 : decode cX9_add 5 = .ok (.ifCond .eq 13, 3) := by decide +kernel
theorem dX9_add_8 : decode cX9_add 8 = .ok (.aload_n 0, 1) := by decide +kernel
theorem dX9_add_9 : decode cX9_add 9 = .ok (.getfield 9, 3) := by decide +kernel
theorem dX9_add_12 : decode cX9_add 12 = .ok (.iload_n 1, 1) := by decide +kernel
theorem dX9_add_13 : decode cX9_add 13 = .ok (.dup2, 1) := by decide +kernel
theorem dX9_add_14 : decode cX9_add 14 = .ok (.iaload, 1) := by decide +kernel
theorem dX9_add_15 : decode cX9_add 15 = .ok (.iload_n 2, 1) := by decide +kernel
theorem dX9_add_16 : decode cX9_add 16 = .ok (.iadd, 1) := by decide +kernel
theorem dX9_add_17 : decode cX9_add 17 = .ok (.iastore, 1) := by decide +kernel
theorem dX9_add_18 : decode cX9_add 18 = .ok (.return_, 1) := by decide +kernel
def f_X9_add (k : Nat) (x1 : Int32) (x2 : Int32) (w : XW) : Option (XW) := (bI (f_X9_has k x1 w) (fun r1 w1 => (if r1 = 0 then (some w1) else (if inB x1 7 then (if inB x1 7 then (some (wset w1 (k + 1) (Int32.toNatClampNeg x1) ((w1.1 (k + 1) (Int32.toNatClampNeg x1)) + x2))) else none) else none))))
set_option maxRecDepth 100000 in
theorem W_X9_add {g : GC} (hl : g.1.stackTraces = false) {k : Nat} (hk : isX9 k) {x1 : Int32} {x2 : Int32} {w : XW} : VE g cX9_add 3 RX9 none [] (rmL 4 0 0) 0 0 oV 0 0 0 [(0, .ref (g.2.1 + k)), (1, .int x1), (2, .int x2)] [] w (f_X9_add k x1 x2 w) := by
  unfold f_X9_add
  refine v_aload_n dX9_add_0 rfl 0 rfl ?_
  refine v_iload_n dX9_add_1 rfl 1 rfl ?_
  refine v_callVi (As := [.int x1]) cv_X9_38 (S_X9_has hl hk) hk.1 rfl rfl rfl (Nat.le_of_ble_eq_true rfl) dX9_add_2 (CR_rm (by decide) (by decide) (by decide) (by decide)) (fun r1 w1 => ?_)
  refine v_if_eq (tgt := 18) dX9_add_5 (by decide) ?_ ?_
  · exact v_vret dX9_add_18 rfl rfl (by decide) (by decide)
  · refine v_aload_n dX9_add_8 rfl 0 rfl ?_
    refine v_getR fl_X9_9 hk.1 rfl dX9_add_9 ?_
    refine v_iload_n dX9_add_12 rfl 1 rfl ?_
    refine v_dup2 dX9_add_13 rfl rfl ?_
    refine v_guard (fun h2 => ?_)
    refine v_iald hk.2.1 h2 dX9_add_14 ?_
    refine v_iload_n dX9_add_15 rfl 2 rfl ?_
    refine v_iadd dX9_add_16 ?_
    refine v_guard (fun h3 => ?_)
    refine v_iast hk.2.1 h3 dX9_add_17 ?_
    exact v_vret dX9_add_18 rfl rfl (by decide) (by decide)
theorem S_X9_add {g : GC} (hl : g.1.stackTraces = false) {k : Nat} (hk : isX9 k) {x1 : Int32} {x2 : Int32} {w : XW} : ∀ q, f_X9_add k x1 x2 w = some q → MM g (.code yX9_add cX9_add 3 none) yX9_add (rmL 4 0 0) 0 0 [.ref (g.2.1 + k), .int x1, .int x2] w (oV q) := fun q hq => MM_of (own := RX9) hl (by decide) gw_749 rfl (Nat.le_of_ble_eq_true rfl) (W_X9_add hl hk q hq) ⟨rfl, rfl⟩

theorem dX9_receivePoured_0 : decode cX9_receivePoured 0 = .ok (.aload_n 0, 1) := by decide +kernel
theorem dX9_receivePoured_1 : decode cX9_receivePoured 1 = .ok (.iload_n 1, 1) := by decide +kernel
theorem dX9_receivePoured_2 : decode cX9_receivePoured 2 = .ok (.iload_n 2, 1) := by decide +kernel
theorem dX9_receivePoured_3 : decode cX9_receivePoured 3 = .ok (.invokevirtual 57, 3) := by decide +kernel
theorem dX9_receivePoured_6 : decode cX9_receivePoured 6 = .ok (.aload_n 0, 1) := by decide +kernel
theorem dX9_receivePoured_7 : decode cX9_receivePoured 7 = .ok (.dup, 1) := by decide +kernel
theorem dX9_receivePoured_8 : decode cX9_receivePoured 8 = .ok (.getfield 22, 3) := by decide +kernel
theorem dX9_receivePoured_11 : decode cX9_receivePoured 11 = .ok (.iload_n 2, 1) := by decide +kernel
theorem dX9_receivePoured_12 : decode cX9_receivePoured 12 = .ok (.iadd, 1) := by decide +kernel
theorem dX9_receivePoured_13 : decode cX9_receivePoured 13 = .ok (.putfield 22, 3) := by decide +kernel
theorem dX9_receivePoured_16 : decode cX9_receivePoured 16 = .ok (.aload_n 0, 1) := by decide +kernel
theorem dX9_receivePoured_17 : decode cX9_receivePoured 17 = .ok (.iload_n 1, 1) := by decide +kernel
theorem dX9_receivePoured_18 : decode cX9_receivePoured 18 = .ok (.invokevirtual 61, 3) := by decide +kernel
theorem dX9_receivePoured_21 : decode cX9_receivePoured 21 = .ok (.ireturn, 1) := by decide +kernel
def f_X9_receivePoured (k : Nat) (x1 : Int32) (x2 : Int32) (w : XW) : Option (Int32 × XW) := (bV (f_X9_add k x1 x2 w) (fun w1 => (bI (f_X9_waterOf k x1 (wset w1 k 1 ((w1.1 k 1) + x2))) (fun r2 w2 => (some (r2, w2))))))
set_option maxRecDepth 100000 in
theorem W_X9_receivePoured {g : GC} (hl : g.1.stackTraces = false) {k : Nat} (hk : isX9 k) {x1 : Int32} {x2 : Int32} {w : XW} : VE g cX9_receivePoured 3 RX9 (some .int) [] (rmL 5 0 0) 0 0 oI 0 0 0 [(0, .ref (g.2.1 + k)), (1, .int x1), (2, .int x2)] [] w (f_X9_receivePoured k x1 x2 w) := by
  unfold f_X9_receivePoured
  refine v_aload_n dX9_receivePoured_0 rfl 0 rfl ?_
  refine v_iload_n dX9_receivePoured_1 rfl 1 rfl ?_
  refine v_iload_n dX9_receivePoured_2 rfl 2 rfl ?_
  refine v_callVv (As := [.int x1, .int x2]) cv_X9_57 (S_X9_add hl hk) hk.1 rfl rfl rfl (Nat.le_of_ble_eq_true rfl) dX9_receivePoured_3 (CR_rm (by decide) (by decide) (by decide) (by decide)) (fun w1 => ?_)
  refine v_aload_n dX9_receivePoured_6 rfl 0 rfl ?_
  refine v_dup dX9_receivePoured_7 rfl ?_
  refine v_getI fl_X9_22 hk.1 rfl dX9_receivePoured_8 ?_
  refine v_iload_n dX9_receivePoured_11 rfl 2 rfl ?_
  refine v_iadd dX9_receivePoured_12 ?_
  refine v_putI fl_X9_22 hk.1 rfl (ty0 := .int) rfl rfl rfl dX9_receivePoured_13 ?_
  refine v_aload_n dX9_receivePoured_16 rfl 0 rfl ?_
  refine v_iload_n dX9_receivePoured_17 rfl 1 rfl ?_
  refine v_callVi (As := [.int x1]) cv_X9_61 (S_X9_waterOf hl hk) hk.1 rfl rfl rfl (Nat.le_of_ble_eq_true rfl) dX9_receivePoured_18 (CR_rm (by decide) (by decide) (by decide) (by decide)) (fun r2 w2 => ?_)
  exact v_iret dX9_receivePoured_21 rfl rfl (by decide) (by decide)
theorem S_X9_receivePoured {g : GC} (hl : g.1.stackTraces = false) {k : Nat} (hk : isX9 k) {x1 : Int32} {x2 : Int32} {w : XW} : ∀ q, f_X9_receivePoured k x1 x2 w = some q → MM g (.code yX9_receivePoured cX9_receivePoured 3 (some .int)) yX9_receivePoured (rmL 5 0 0) 0 0 [.ref (g.2.1 + k), .int x1, .int x2] w (oI q) := fun q hq => MM_of (own := RX9) hl (by decide) gw_745 rfl (Nat.le_of_ble_eq_true rfl) (W_X9_receivePoured hl hk q hq) ⟨rfl, rfl⟩

theorem dX9_giveTerm_0 : decode cX9_giveTerm 0 = .ok (.aload_n 0, 1) := by decide +kernel
theorem dX9_giveTerm_1 : decode cX9_giveTerm 1 = .ok (.iload_n 1, 1) := by decide +kernel
theorem dX9_giveTerm_2 : decode cX9_giveTerm 2 = .ok (.invokevirtual 38, 3) := by decide +kernel
theorem dX9_giveTerm_5 : decode cX9_giveTerm 5 = .ok (.ifCond .eq 16, 3) := by decide +kernel
theorem dX9_giveTerm_8 : decode cX9_giveTerm 8 = .ok (.aload_n 0, 1) := by decide +kernel
theorem dX9_giveTerm_9 : decode cX9_giveTerm 9 = .ok (.getfield 15, 3) := by decide +kernel
theorem dX9_giveTerm_12 : decode cX9_giveTerm 12 = .ok (.iload_n 1, 1) := by decide +kernel
theorem dX9_giveTerm_13 : decode cX9_giveTerm 13 = .ok (.dup2, 1) := by decide +kernel
theorem dX9_giveTerm_14 : decode cX9_giveTerm 14 = .ok (.iaload, 1) := by decide +kernel
theorem dX9_giveTerm_15 : decode cX9_giveTerm 15 = .ok (.iload_n 2, 1) := by decide +kernel
theorem dX9_giveTerm_16 : decode cX9_giveTerm 16 = .ok (.invokestatic 47, 3) := by decide +kernel
theorem dX9_giveTerm_19 : decode cX9_giveTerm 19 = .ok (.ior, 1) := by decide +kernel
theorem dX9_giveTerm_20 : decode cX9_giveTerm 20 = .ok (.iastore, 1) := by decide +kernel
theorem dX9_giveTerm_21 : decode cX9_giveTerm 21 = .ok (.aload_n 0, 1) := by decide +kernel
theorem dX9_giveTerm_22 : decode cX9_giveTerm 22 = .ok (.iload_n 1, 1) := by decide +kernel
theorem dX9_giveTerm_23 : decode cX9_giveTerm 23 = .ok (.invokevirtual 54, 3) := by decide +kernel
theorem dX9_giveTerm_26 : decode cX9_giveTerm 26 = .ok (.ireturn, 1) := by decide +kernel
def f_X9_giveTerm (k : Nat) (x1 : Int32) (x2 : Int32) (w : XW) : Option (Int32 × XW) := (bI (f_X9_has k x1 w) (fun r1 w1 => (if r1 = 0 then (bI (f_X9_termCountOf k x1 w1) (fun r2 w2 => (some (r2, w2)))) else (if inB x1 7 then (bI (f_X9_bitOf x2 w1) (fun r4 w4 => (if inB x1 7 then (bI (f_X9_termCountOf k x1 (wset w4 (k + 2) (Int32.toNatClampNeg x1) ((w1.1 (k + 2) (Int32.toNatClampNeg x1)) ||| r4))) (fun r6 w6 => (some (r6, w6)))) else none))) else none))))
set_option maxRecDepth 100000 in
theorem W_X9_giveTerm {g : GC} (hl : g.1.stackTraces = false) {k : Nat} (hk : isX9 k) {x1 : Int32} {x2 : Int32} {w : XW} : VE g cX9_giveTerm 3 RX9 (some .int) [] (rmL 5 0 0) 0 0 oI 0 0 0 [(0, .ref (g.2.1 + k)), (1, .int x1), (2, .int x2)] [] w (f_X9_giveTerm k x1 x2 w) := by
  unfold f_X9_giveTerm
  refine v_aload_n dX9_giveTerm_0 rfl 0 rfl ?_
  refine v_iload_n dX9_giveTerm_1 rfl 1 rfl ?_
  refine v_callVi (As := [.int x1]) cv_X9_38 (S_X9_has hl hk) hk.1 rfl rfl rfl (Nat.le_of_ble_eq_true rfl) dX9_giveTerm_2 (CR_rm (by decide) (by decide) (by decide) (by decide)) (fun r1 w1 => ?_)
  refine v_if_eq (tgt := 21) dX9_giveTerm_5 (by decide) ?_ ?_
  · refine v_aload_n dX9_giveTerm_21 rfl 0 rfl ?_
    refine v_iload_n dX9_giveTerm_22 rfl 1 rfl ?_
    refine v_callVi (As := [.int x1]) cv_X9_54 (S_X9_termCountOf hl hk) hk.1 rfl rfl rfl (Nat.le_of_ble_eq_true rfl) dX9_giveTerm_23 (CR_rm (by decide) (by decide) (by decide) (by decide)) (fun r2 w2 => ?_)
    exact v_iret dX9_giveTerm_26 rfl rfl (by decide) (by decide)
  · refine v_aload_n dX9_giveTerm_8 rfl 0 rfl ?_
    refine v_getR fl_X9_15 hk.1 rfl dX9_giveTerm_9 ?_
    refine v_iload_n dX9_giveTerm_12 rfl 1 rfl ?_
    refine v_dup2 dX9_giveTerm_13 rfl rfl ?_
    refine v_guard (fun h3 => ?_)
    refine v_iald hk.2.2 h3 dX9_giveTerm_14 ?_
    refine v_iload_n dX9_giveTerm_15 rfl 2 rfl ?_
    refine v_callSi (As := [.int x2]) cs_X9_47 (S_X9_bitOf hl) rfl rfl (Nat.le_of_ble_eq_true rfl) dX9_giveTerm_16 (CR_rm (by decide) (by decide) (by decide) (by decide)) (fun r4 w4 => ?_)
    refine v_ior dX9_giveTerm_19 ?_
    refine v_guard (fun h5 => ?_)
    refine v_iast hk.2.2 h5 dX9_giveTerm_20 ?_
    refine v_aload_n dX9_giveTerm_21 rfl 0 rfl ?_
    refine v_iload_n dX9_giveTerm_22 rfl 1 rfl ?_
    refine v_callVi (As := [.int x1]) cv_X9_54 (S_X9_termCountOf hl hk) hk.1 rfl rfl rfl (Nat.le_of_ble_eq_true rfl) dX9_giveTerm_23 (CR_rm (by decide) (by decide) (by decide) (by decide)) (fun r6 w6 => ?_)
    exact v_iret dX9_giveTerm_26 rfl rfl (by decide) (by decide)
theorem S_X9_giveTerm {g : GC} (hl : g.1.stackTraces = false) {k : Nat} (hk : isX9 k) {x1 : Int32} {x2 : Int32} {w : XW} : ∀ q, f_X9_giveTerm k x1 x2 w = some q → MM g (.code yX9_giveTerm cX9_giveTerm 3 (some .int)) yX9_giveTerm (rmL 5 0 0) 0 0 [.ref (g.2.1 + k), .int x1, .int x2] w (oI q) := fun q hq => MM_of (own := RX9) hl (by decide) gw_754 rfl (Nat.le_of_ble_eq_true rfl) (W_X9_giveTerm hl hk q hq) ⟨rfl, rfl⟩

theorem dX9_takeTerm_0 : decode cX9_takeTerm 0 = .ok (.aload_n 0, 1) := by decide +kernel
theorem dX9_takeTerm_1 : decode cX9_takeTerm 1 = .ok (.iload_n 1, 1) := by decide +kernel
theorem dX9_takeTerm_2 : decode cX9_takeTerm 2 = .ok (.invokevirtual 38, 3) := by decide +kernel
theorem dX9_takeTerm_5 : decode cX9_takeTerm 5 = .ok (.ifCond .eq 18, 3) := by decide +kernel
theorem dX9_takeTerm_8 : decode cX9_takeTerm 8 = .ok (.aload_n 0, 1) := by decide +kernel
theorem dX9_takeTerm_9 : decode cX9_takeTerm 9 = .ok (.getfield 15, 3) := by decide +kernel
theorem dX9_takeTerm_12 : decode cX9_takeTerm 12 = .ok (.iload_n 1, 1) := by decide +kernel
theorem dX9_takeTerm_13 : decode cX9_takeTerm 13 = .ok (.dup2, 1) := by decide +kernel
theorem dX9_takeTerm_14 : decode cX9_takeTerm 14 = .ok (.iaload, 1) := by decide +kernel
theorem dX9_takeTerm_15 : decode cX9_takeTerm 15 = .ok (.iload_n 2, 1) := by decide +kernel
theorem dX9_takeTerm_16 : decode cX9_takeTerm 16 = .ok (.invokestatic 47, 3) := by decide +kernel
theorem dX9_takeTerm_19 : decode cX9_takeTerm 19 = .ok (.iconst (-1), 1) := by decide +kernel
theorem dX9_takeTerm_20 : decode cX9_takeTerm 20 = .ok (.ixor, 1) := by decide +kernel
theorem dX9_takeTerm_21 : decode cX9_takeTerm 21 = .ok (.iand, 1) := by decide +kernel
theorem dX9_takeTerm_22 : decode cX9_takeTerm 22 = .ok (.iastore, 1) := by decide +kernel
theorem dX9_takeTerm_23 : decode cX9_takeTerm 23 = .ok (.aload_n 0, 1) := by decide +kernel
theorem dX9_takeTerm_24 : decode cX9_takeTerm 24 = .ok (.iload_n 1, 1) := by decide +kernel
theorem dX9_takeTerm_25 : decode cX9_takeTerm 25 = .ok (.invokevirtual 54, 3) := by decide +kernel
theorem dX9_takeTerm_28 : decode cX9_takeTerm 28 = .ok (.ireturn, 1) := by decide +kernel
def f_X9_takeTerm (k : Nat) (x1 : Int32) (x2 : Int32) (w : XW) : Option (Int32 × XW) := (bI (f_X9_has k x1 w) (fun r1 w1 => (if r1 = 0 then (bI (f_X9_termCountOf k x1 w1) (fun r2 w2 => (some (r2, w2)))) else (if inB x1 7 then (bI (f_X9_bitOf x2 w1) (fun r4 w4 => (if inB x1 7 then (bI (f_X9_termCountOf k x1 (wset w4 (k + 2) (Int32.toNatClampNeg x1) ((w1.1 (k + 2) (Int32.toNatClampNeg x1)) &&& (r4 ^^^ (-1))))) (fun r6 w6 => (some (r6, w6)))) else none))) else none))))
set_option maxRecDepth 100000 in
theorem W_X9_takeTerm {g : GC} (hl : g.1.stackTraces = false) {k : Nat} (hk : isX9 k) {x1 : Int32} {x2 : Int32} {w : XW} : VE g cX9_takeTerm 3 RX9 (some .int) [] (rmL 5 0 0) 0 0 oI 0 0 0 [(0, .ref (g.2.1 + k)), (1, .int x1), (2, .int x2)] [] w (f_X9_takeTerm k x1 x2 w) := by
  unfold f_X9_takeTerm
  refine v_aload_n dX9_takeTerm_0 rfl 0 rfl ?_
  refine v_iload_n dX9_takeTerm_1 rfl 1 rfl ?_
  refine v_callVi (As := [.int x1]) cv_X9_38 (S_X9_has hl hk) hk.1 rfl rfl rfl (Nat.le_of_ble_eq_true rfl) dX9_takeTerm_2 (CR_rm (by decide) (by decide) (by decide) (by decide)) (fun r1 w1 => ?_)
  refine v_if_eq (tgt := 23) dX9_takeTerm_5 (by decide) ?_ ?_
  · refine v_aload_n dX9_takeTerm_23 rfl 0 rfl ?_
    refine v_iload_n dX9_takeTerm_24 rfl 1 rfl ?_
    refine v_callVi (As := [.int x1]) cv_X9_54 (S_X9_termCountOf hl hk) hk.1 rfl rfl rfl (Nat.le_of_ble_eq_true rfl) dX9_takeTerm_25 (CR_rm (by decide) (by decide) (by decide) (by decide)) (fun r2 w2 => ?_)
    exact v_iret dX9_takeTerm_28 rfl rfl (by decide) (by decide)
  · refine v_aload_n dX9_takeTerm_8 rfl 0 rfl ?_
    refine v_getR fl_X9_15 hk.1 rfl dX9_takeTerm_9 ?_
    refine v_iload_n dX9_takeTerm_12 rfl 1 rfl ?_
    refine v_dup2 dX9_takeTerm_13 rfl rfl ?_
    refine v_guard (fun h3 => ?_)
    refine v_iald hk.2.2 h3 dX9_takeTerm_14 ?_
    refine v_iload_n dX9_takeTerm_15 rfl 2 rfl ?_
    refine v_callSi (As := [.int x2]) cs_X9_47 (S_X9_bitOf hl) rfl rfl (Nat.le_of_ble_eq_true rfl) dX9_takeTerm_16 (CR_rm (by decide) (by decide) (by decide) (by decide)) (fun r4 w4 => ?_)
    refine v_iconst (v := (-1)) dX9_takeTerm_19 (by decide) ?_
    refine v_ixor dX9_takeTerm_20 ?_
    refine v_iand dX9_takeTerm_21 ?_
    refine v_guard (fun h5 => ?_)
    refine v_iast hk.2.2 h5 dX9_takeTerm_22 ?_
    refine v_aload_n dX9_takeTerm_23 rfl 0 rfl ?_
    refine v_iload_n dX9_takeTerm_24 rfl 1 rfl ?_
    refine v_callVi (As := [.int x1]) cv_X9_54 (S_X9_termCountOf hl hk) hk.1 rfl rfl rfl (Nat.le_of_ble_eq_true rfl) dX9_takeTerm_25 (CR_rm (by decide) (by decide) (by decide) (by decide)) (fun r6 w6 => ?_)
    exact v_iret dX9_takeTerm_28 rfl rfl (by decide) (by decide)
theorem S_X9_takeTerm {g : GC} (hl : g.1.stackTraces = false) {k : Nat} (hk : isX9 k) {x1 : Int32} {x2 : Int32} {w : XW} : ∀ q, f_X9_takeTerm k x1 x2 w = some q → MM g (.code yX9_takeTerm cX9_takeTerm 3 (some .int)) yX9_takeTerm (rmL 5 0 0) 0 0 [.ref (g.2.1 + k), .int x1, .int x2] w (oI q) := fun q hq => MM_of (own := RX9) hl (by decide) gw_759 rfl (Nat.le_of_ble_eq_true rfl) (W_X9_takeTerm hl hk q hq) ⟨rfl, rfl⟩

theorem dX9_give_0 : decode cX9_give 0 = .ok (.aload_n 0, 1) := by decide +kernel
theorem dX9_give_1 : decode cX9_give 1 = .ok (.iload_n 1, 1) := by decide +kernel
theorem dX9_give_2 : decode cX9_give 2 = .ok (.iload_n 2, 1) := by decide +kernel
theorem dX9_give_3 : decode cX9_give 3 = .ok (.ineg, 1) := by decide +kernel
theorem dX9_give_4 : decode cX9_give 4 = .ok (.invokevirtual 57, 3) := by decide +kernel
theorem dX9_give_7 : decode cX9_give 7 = .ok (.return_, 1) := by decide +kernel
def f_X9_give (k : Nat) (x1 : Int32) (x2 : Int32) (w : XW) : Option (XW) := (bV (f_X9_add k x1 (-x2) w) (fun w1 => (some w1)))
set_option maxRecDepth 100000 in
theorem W_X9_give {g : GC} (hl : g.1.stackTraces = false) {k : Nat} (hk : isX9 k) {x1 : Int32} {x2 : Int32} {w : XW} : VE g cX9_give 3 RX9 none [] (rmL 5 0 0) 0 0 oV 0 0 0 [(0, .ref (g.2.1 + k)), (1, .int x1), (2, .int x2)] [] w (f_X9_give k x1 x2 w) := by
  unfold f_X9_give
  refine v_aload_n dX9_give_0 rfl 0 rfl ?_
  refine v_iload_n dX9_give_1 rfl 1 rfl ?_
  refine v_iload_n dX9_give_2 rfl 2 rfl ?_
  refine v_ineg dX9_give_3 ?_
  refine v_callVv (As := [.int x1, .int (-x2)]) cv_X9_57 (S_X9_add hl hk) hk.1 rfl rfl rfl (Nat.le_of_ble_eq_true rfl) dX9_give_4 (CR_rm (by decide) (by decide) (by decide) (by decide)) (fun w1 => ?_)
  exact v_vret dX9_give_7 rfl rfl (by decide) (by decide)
theorem S_X9_give {g : GC} (hl : g.1.stackTraces = false) {k : Nat} (hk : isX9 k) {x1 : Int32} {x2 : Int32} {w : XW} : ∀ q, f_X9_give k x1 x2 w = some q → MM g (.code yX9_give cX9_give 3 none) yX9_give (rmL 5 0 0) 0 0 [.ref (g.2.1 + k), .int x1, .int x2] w (oV q) := fun q hq => MM_of (own := RX9) hl (by decide) gw_829 rfl (Nat.le_of_ble_eq_true rfl) (W_X9_give hl hk q hq) ⟨rfl, rfl⟩

theorem dX9_receive_0 : decode cX9_receive 0 = .ok (.iload_n 2, 1) := by decide +kernel
theorem dX9_receive_1 : decode cX9_receive 1 = .ok (.bipush 99, 2) := by decide +kernel
theorem dX9_receive_3 : decode cX9_receive 3 = .ok (.aload_n 0, 1) := by decide +kernel
theorem dX9_receive_4 : decode cX9_receive 4 = .ok (.iload_n 1, 1) := by decide +kernel
theorem dX9_receive_5 : decode cX9_receive 5 = .ok (.invokevirtual 61, 3) := by decide +kernel
theorem dX9_receive_8 : decode cX9_receive 8 = .ok (.isub, 1) := by decide +kernel
theorem dX9_receive_9 : decode cX9_receive 9 = .ok (.invokestatic 64, 3) := by decide +kernel
theorem dX9_receive_12 : decode cX9_receive 12 = .ok (.istore_n 3, 1) := by decide +kernel
theorem dX9_receive_13 : decode cX9_receive 13 = .ok (.aload_n 0, 1) := by decide +kernel
theorem dX9_receive_14 : decode cX9_receive 14 = .ok (.iload_n 1, 1) := by decide +kernel
theorem dX9_receive_15 : decode cX9_receive 15 = .ok (.iload_n 3, 1) := by decide +kernel
theorem dX9_receive_16 : decode cX9_receive 16 = .ok (.invokevirtual 57, 3) := by decide +kernel
theorem dX9_receive_19 : decode cX9_receive 19 = .ok (.iload_n 2, 1) := by decide +kernel
theorem dX9_receive_20 : decode cX9_receive 20 = .ok (.iload_n 3, 1) := by decide +kernel
theorem dX9_receive_21 : decode cX9_receive 21 = .ok (.isub, 1) := by decide +kernel
theorem dX9_receive_22 : decode cX9_receive 22 = .ok (.ireturn, 1) := by decide +kernel
def f_X9_receive (k : Nat) (x1 : Int32) (x2 : Int32) (w : XW) : Option (Int32 × XW) := (bI (f_X9_waterOf k x1 w) (fun r1 w1 => (bV (f_X9_add k x1 (if (99 - r1) < x2 then (99 - r1) else x2) w1) (fun w2 => (some ((x2 - (if (99 - r1) < x2 then (99 - r1) else x2)), w2))))))
set_option maxRecDepth 100000 in
theorem W_X9_receive {g : GC} (hl : g.1.stackTraces = false) {k : Nat} (hk : isX9 k) {x1 : Int32} {x2 : Int32} {w : XW} : VE g cX9_receive 4 RX9 (some .int) [] (rmL 5 0 0) 0 0 oI 0 0 0 [(0, .ref (g.2.1 + k)), (1, .int x1), (2, .int x2)] [] w (f_X9_receive k x1 x2 w) := by
  unfold f_X9_receive
  refine v_iload_n dX9_receive_0 rfl 2 rfl ?_
  refine v_bipush (v := 99) dX9_receive_1 (by decide) ?_
  refine v_aload_n dX9_receive_3 rfl 0 rfl ?_
  refine v_iload_n dX9_receive_4 rfl 1 rfl ?_
  refine v_callVi (As := [.int x1]) cv_X9_61 (S_X9_waterOf hl hk) hk.1 rfl rfl rfl (Nat.le_of_ble_eq_true rfl) dX9_receive_5 (CR_rm (by decide) (by decide) (by decide) (by decide)) (fun r1 w1 => ?_)
  refine v_isub dX9_receive_8 ?_
  refine v_min gw_834 gw_403 gw_98 gw_404 dX9_receive_9 (CR_f1 _ _ _) (CR_f2 (by decide) _ _ _) (by decide) (by decide) ?_
  refine v_istore_n dX9_receive_12 rfl (Nat.le_of_ble_eq_true rfl) rfl ?_
  refine v_aload_n dX9_receive_13 rfl 1 rfl ?_
  refine v_iload_n dX9_receive_14 rfl 2 rfl ?_
  refine v_iload_n dX9_receive_15 rfl 0 rfl ?_
  refine v_callVv (As := [.int x1, .int (if (99 - r1) < x2 then (99 - r1) else x2)]) cv_X9_57 (S_X9_add hl hk) hk.1 rfl rfl rfl (Nat.le_of_ble_eq_true rfl) dX9_receive_16 (CR_rm (by decide) (by decide) (by decide) (by decide)) (fun w2 => ?_)
  refine v_iload_n dX9_receive_19 rfl 3 rfl ?_
  refine v_iload_n dX9_receive_20 rfl 0 rfl ?_
  refine v_isub dX9_receive_21 ?_
  exact v_iret dX9_receive_22 rfl rfl (by decide) (by decide)
theorem S_X9_receive {g : GC} (hl : g.1.stackTraces = false) {k : Nat} (hk : isX9 k) {x1 : Int32} {x2 : Int32} {w : XW} : ∀ q, f_X9_receive k x1 x2 w = some q → MM g (.code yX9_receive cX9_receive 4 (some .int)) yX9_receive (rmL 5 0 0) 0 0 [.ref (g.2.1 + k), .int x1, .int x2] w (oI q) := fun q hq => MM_of (own := RX9) hl (by decide) gw_833 rfl (Nat.le_of_ble_eq_true rfl) (W_X9_receive hl hk q hq) ⟨rfl, rfl⟩

theorem dX9_leak_0 : decode cX9_leak 0 = .ok (.aload_n 0, 1) := by decide +kernel
theorem dX9_leak_1 : decode cX9_leak 1 = .ok (.dup, 1) := by decide +kernel
theorem dX9_leak_2 : decode cX9_leak 2 = .ok (.getfield 25, 3) := by decide +kernel
theorem dX9_leak_5 : decode cX9_leak 5 = .ok (.iload_n 1, 1) := by decide +kernel
theorem dX9_leak_6 : decode cX9_leak 6 = .ok (.iadd, 1) := by decide +kernel
theorem dX9_leak_7 : decode cX9_leak 7 = .ok (.putfield 25, 3) := by decide +kernel
theorem dX9_leak_10 : decode cX9_leak 10 = .ok (.return_, 1) := by decide +kernel
def f_X9_leak (k : Nat) (x1 : Int32) (w : XW) : Option (XW) := (some (wset w k 2 ((w.1 k 2) + x1)))
set_option maxRecDepth 100000 in
theorem W_X9_leak {g : GC} (hl : g.1.stackTraces = false) {k : Nat} (hk : isX9 k) {x1 : Int32} {w : XW} : VE g cX9_leak 2 RX9 none [] (rmL 3 0 0) 0 0 oV 0 0 0 [(0, .ref (g.2.1 + k)), (1, .int x1)] [] w (f_X9_leak k x1 w) := by
  unfold f_X9_leak
  refine v_aload_n dX9_leak_0 rfl 0 rfl ?_
  refine v_dup dX9_leak_1 rfl ?_
  refine v_getI fl_X9_25 hk.1 rfl dX9_leak_2 ?_
  refine v_iload_n dX9_leak_5 rfl 1 rfl ?_
  refine v_iadd dX9_leak_6 ?_
  refine v_putI fl_X9_25 hk.1 rfl (ty0 := .int) rfl rfl rfl dX9_leak_7 ?_
  exact v_vret dX9_leak_10 rfl rfl (by decide) (by decide)
theorem S_X9_leak {g : GC} (hl : g.1.stackTraces = false) {k : Nat} (hk : isX9 k) {x1 : Int32} {w : XW} : ∀ q, f_X9_leak k x1 w = some q → MM g (.code yX9_leak cX9_leak 2 none) yX9_leak (rmL 3 0 0) 0 0 [.ref (g.2.1 + k), .int x1] w (oV q) := fun q hq => MM_of (own := RX9) hl (by decide) gw_838 rfl (Nat.le_of_ble_eq_true rfl) (W_X9_leak hl hk q hq) ⟨rfl, rfl⟩

theorem dX9_waterSum_0 : decode cX9_waterSum 0 = .ok (.iconst 0, 1) := by decide +kernel
theorem dX9_waterSum_1 : decode cX9_waterSum 1 = .ok (.istore_n 1, 1) := by decide +kernel
theorem dX9_waterSum_2 : decode cX9_waterSum 2 = .ok (.iconst 0, 1) := by decide +kernel
theorem dX9_waterSum_3 : decode cX9_waterSum 3 = .ok (.istore_n 2, 1) := by decide +kernel
theorem dX9_waterSum_4 : decode cX9_waterSum 4 = .ok (.iload_n 2, 1) := by decide +kernel
theorem dX9_waterSum_5 : decode cX9_waterSum 5 = .ok (.aload_n 0, 1) := by decide +kernel
theorem dX9_waterSum_6 : decode cX9_waterSum 6 = .ok (.getfield 18, 3) := by decide +kernel
theorem dX9_waterSum_9 : decode cX9_waterSum 9 = .ok (.if_icmp .ge 18, 3) := by decide +kernel
theorem dX9_waterSum_12 : decode cX9_waterSum 12 = .ok (.iload_n 1, 1) := by decide +kernel
theorem dX9_waterSum_13 : decode cX9_waterSum 13 = .ok (.aload_n 0, 1) := by decide +kernel
theorem dX9_waterSum_14 : decode cX9_waterSum 14 = .ok (.getfield 9, 3) := by decide +kernel
theorem dX9_waterSum_17 : decode cX9_waterSum 17 = .ok (.iload_n 2, 1) := by decide +kernel
theorem dX9_waterSum_18 : decode cX9_waterSum 18 = .ok (.iaload, 1) := by decide +kernel
theorem dX9_waterSum_19 : decode cX9_waterSum 19 = .ok (.iadd, 1) := by decide +kernel
theorem dX9_waterSum_20 : decode cX9_waterSum 20 = .ok (.istore_n 1, 1) := by decide +kernel
theorem dX9_waterSum_21 : decode cX9_waterSum 21 = .ok (.iinc 2 1, 3) := by decide +kernel
theorem dX9_waterSum_24 : decode cX9_waterSum 24 = .ok (.goto (-20), 3) := by decide +kernel
theorem dX9_waterSum_27 : decode cX9_waterSum 27 = .ok (.iload_n 1, 1) := by decide +kernel
theorem dX9_waterSum_28 : decode cX9_waterSum 28 = .ok (.ireturn, 1) := by decide +kernel
def f_X9_waterSum_4 (k : Nat) : Nat → Int32 → Int32 → XW → Option (Int32 × XW)
  | 0, _, _, _ => none
  | n + 1, z1, z2, w => (if (w.1 k 0) ≤ z2 then (some (z1, w)) else (if inB z2 7 then (f_X9_waterSum_4 k n (z1 + (w.1 (k + 1) (Int32.toNatClampNeg z2))) (z2 + 1) w) else none))
set_option maxRecDepth 100000 in
theorem S_X9_waterSum_4 {g : GC} (hl : g.1.stackTraces = false) {k : Nat} (hk : isX9 k) : ∀ (n : Nat) (z1 : Int32) (z2 : Int32) (w : XW), VE g cX9_waterSum 3 RX9 (some .int) [] (rmL 3 0 0) 0 0 oI 0 0 4 [(0, .ref (g.2.1 + k)), (1, .int z1), (2, .int z2)] [] w (f_X9_waterSum_4 k n z1 z2 w) := by
  intro n
  induction n with
  | zero => intro z1 z2 w; exact v_none
  | succ n ih =>
    intro z1 z2 w
    rw [f_X9_waterSum_4]
    refine v_iload_n dX9_waterSum_4 rfl 2 rfl ?_
    refine v_aload_n dX9_waterSum_5 rfl 0 rfl ?_
    refine v_getI fl_X9_18 hk.1 rfl dX9_waterSum_6 ?_
    refine v_icmp_ge (tgt := 27) dX9_waterSum_9 (by decide) ?_ ?_
    · refine v_iload_n dX9_waterSum_27 rfl 1 rfl ?_
      exact v_iret dX9_waterSum_28 rfl rfl (by decide) (by decide)
    · refine v_iload_n dX9_waterSum_12 rfl 1 rfl ?_
      refine v_aload_n dX9_waterSum_13 rfl 0 rfl ?_
      refine v_getR fl_X9_9 hk.1 rfl dX9_waterSum_14 ?_
      refine v_iload_n dX9_waterSum_17 rfl 2 rfl ?_
      refine v_guard (fun h1 => ?_)
      refine v_iald hk.2.1 h1 dX9_waterSum_18 ?_
      refine v_iadd dX9_waterSum_19 ?_
      refine v_istore_n dX9_waterSum_20 rfl (Nat.le_of_ble_eq_true rfl) rfl ?_
      refine v_iinc (v := (z2 + 1)) dX9_waterSum_21 (q := 2) rfl rfl (Nat.le_of_ble_eq_true rfl) rfl ?_
      refine v_goto (tgt := 4) dX9_waterSum_24 (by decide) ?_
      refine v_sub [2, 1, 0] rfl ?_
      exact ih _ _ _
def f_X9_waterSum (k : Nat) (w : XW) : Option (Int32 × XW) := (f_X9_waterSum_4 k 1000 0 0 w)
set_option maxRecDepth 100000 in
theorem W_X9_waterSum {g : GC} (hl : g.1.stackTraces = false) {k : Nat} (hk : isX9 k) {w : XW} : VE g cX9_waterSum 3 RX9 (some .int) [] (rmL 3 0 0) 0 0 oI 0 0 0 [(0, .ref (g.2.1 + k))] [] w (f_X9_waterSum k w) := by
  unfold f_X9_waterSum
  refine v_iconst (v := 0) dX9_waterSum_0 (by decide) ?_
  refine v_istore_n dX9_waterSum_1 rfl (Nat.le_of_ble_eq_true rfl) rfl ?_
  refine v_iconst (v := 0) dX9_waterSum_2 (by decide) ?_
  refine v_istore_n dX9_waterSum_3 rfl (Nat.le_of_ble_eq_true rfl) rfl ?_
  refine v_sub [2, 1, 0] rfl ?_
  exact S_X9_waterSum_4 hl hk  _ _ _ _
theorem S_X9_waterSum {g : GC} (hl : g.1.stackTraces = false) {k : Nat} (hk : isX9 k) {w : XW} : ∀ q, f_X9_waterSum k w = some q → MM g (.code yX9_waterSum cX9_waterSum 3 (some .int)) yX9_waterSum (rmL 3 0 0) 0 0 [.ref (g.2.1 + k)] w (oI q) := fun q hq => MM_of (own := RX9) hl (by decide) gw_471 rfl (Nat.le_of_ble_eq_true rfl) (W_X9_waterSum hl hk q hq) ⟨rfl, rfl⟩

theorem dX9_comesBefore_0 : decode cX9_comesBefore 0 = .ok (.aload_n 0, 1) := by decide +kernel
theorem dX9_comesBefore_1 : decode cX9_comesBefore 1 = .ok (.iload_n 1, 1) := by decide +kernel
theorem dX9_comesBefore_2 : decode cX9_comesBefore 2 = .ok (.invokevirtual 61, 3) := by decide +kernel
theorem dX9_comesBefore_5 : decode cX9_comesBefore 5 = .ok (.aload_n 0, 1) := by decide +kernel
theorem dX9_comesBefore_6 : decode cX9_comesBefore 6 = .ok (.iload_n 2, 1) := by decide +kernel
theorem dX9_comesBefore_7 : decode cX9_comesBefore 7 = .ok (.invokevirtual 61, 3) := by decide +kernel
theorem dX9_comesBefore_10 : decode cX9_comesBefore 10 = .ok (.if_icmp .eq 22, 3) := by decide +kernel
theorem dX9_comesBefore_13 : decode cX9_comesBefore 13 = .ok (.aload_n 0, 1) := by decide +kernel
theorem dX9_comesBefore_14 : decode cX9_comesBefore 14 = .ok (.iload_n 1, 1) := by decide +kernel
theorem dX9_comesBefore_15 : decode cX9_comesBefore 15 = .ok (.invokevirtual 61, 3) := by decide +kernel
theorem dX9_comesBefore_18 : decode cX9_comesBefore 18 = .ok (.aload_n 0, 1) := by decide +kernel
theorem dX9_comesBefore_19 : decode cX9_comesBefore 19 = .ok (.iload_n 2, 1) := by decide +kernel
theorem dX9_comesBefore_20 : decode cX9_comesBefore 20 = .ok (.invokevirtual 61, 3) := by decide +kernel
theorem dX9_comesBefore_23 : decode cX9_comesBefore 23 = .ok (.if_icmp .le 7, 3) := by decide +kernel
theorem dX9_comesBefore_26 : decode cX9_comesBefore 26 = .ok (.iconst 1, 1) := by decide +kernel
theorem dX9_comesBefore_27 : decode cX9_comesBefore 27 = .ok (.goto 4, 3) := by decide +kernel
theorem dX9_comesBefore_30 : decode cX9_comesBefore 30 = .ok (.iconst 0, 1) := by decide +kernel
theorem dX9_comesBefore_31 : decode cX9_comesBefore 31 = .ok (.ireturn, 1) := by decide +kernel
theorem dX9_comesBefore_32 : decode cX9_comesBefore 32 = .ok (.aload_n 0, 1) := by decide +kernel
theorem dX9_comesBefore_33 : decode cX9_comesBefore 33 = .ok (.iload_n 1, 1) := by decide +kernel
theorem dX9_comesBefore_34 : decode cX9_comesBefore 34 = .ok (.invokevirtual 54, 3) := by decide +kernel
theorem dX9_comesBefore_37 : decode cX9_comesBefore 37 = .ok (.aload_n 0, 1) := by decide +kernel
theorem dX9_comesBefore_38 : decode cX9_comesBefore 38 = .ok (.iload_n 2, 1) := by decide +kernel
theorem dX9_comesBefore_39 : decode cX9_comesBefore 39 = .ok (.invokevirtual 54, 3) := by decide +kernel
theorem dX9_comesBefore_42 : decode cX9_comesBefore 42 = .ok (.if_icmp .eq 22, 3) := by decide +kernel
theorem dX9_comesBefore_45 : decode cX9_comesBefore 45 = .ok (.aload_n 0, 1) := by decide +kernel
theorem dX9_comesBefore_46 : decode cX9_comesBefore 46 = .ok (.iload_n 1, 1) := by decide +kernel
theorem dX9_comesBefore_47 : decode cX9_comesBefore 47 = .ok (.invokevirtual 54, 3) := by decide +kernel
theorem dX9_comesBefore_50 : decode cX9_comesBefore 50 = .ok (.aload_n 0, 1) := by decide +kernel
theorem dX9_comesBefore_51 : decode cX9_comesBefore 51 = .ok (.iload_n 2, 1) := by decide +kernel
theorem dX9_comesBefore_52 : decode cX9_comesBefore 52 = .ok (.invokevirtual 54, 3) := by decide +kernel
theorem dX9_comesBefore_55 : decode cX9_comesBefore 55 = .ok (.if_icmp .le 7, 3) := by decide +kernel
theorem dX9_comesBefore_58 : decode cX9_comesBefore 58 = .ok (.iconst 1, 1) := by decide +kernel
theorem dX9_comesBefore_59 : decode cX9_comesBefore 59 = .ok (.goto 4, 3) := by decide +kernel
theorem dX9_comesBefore_62 : decode cX9_comesBefore 62 = .ok (.iconst 0, 1) := by decide +kernel
theorem dX9_comesBefore_63 : decode cX9_comesBefore 63 = .ok (.ireturn, 1) := by decide +kernel
theorem dX9_comesBefore_64 : decode cX9_comesBefore 64 = .ok (.iload_n 1, 1) := by decide +kernel
theorem dX9_comesBefore_65 : decode cX9_comesBefore 65 = .ok (.iload_n 2, 1) := by decide +kernel
theorem dX9_comesBefore_66 : decode cX9_comesBefore 66 = .ok (.if_icmp .ge 7, 3) := by decide +kernel
theorem dX9_comesBefore_69 : decode cX9_comesBefore 69 = .ok (.iconst 1, 1) := by decide +kernel
theorem dX9_comesBefore_70 : decode cX9_comesBefore 70 = .ok (.goto 4, 3) := by decide +kernel
theorem dX9_comesBefore_73 : decode cX9_comesBefore 73 = .ok (.iconst 0, 1) := by decide +kernel
theorem dX9_comesBefore_74 : decode cX9_comesBefore 74 = .ok (.ireturn, 1) := by decide +kernel
def f_X9_comesBefore (k : Nat) (x1 : Int32) (x2 : Int32) (w : XW) : Option (Int32 × XW) := (bI (f_X9_waterOf k x1 w) (fun r1 w1 => (bI (f_X9_waterOf k x2 w1) (fun r2 w2 => (if r1 = r2 then (bI (f_X9_termCountOf k x1 w2) (fun r3 w3 => (bI (f_X9_termCountOf k x2 w3) (fun r4 w4 => (if r3 = r4 then (if x2 ≤ x1 then (some (0, w4)) else (some (1, w4))) else (bI (f_X9_termCountOf k x1 w4) (fun r5 w5 => (bI (f_X9_termCountOf k x2 w5) (fun r6 w6 => (if r5 ≤ r6 then (some (0, w6)) else (some (1, w6)))))))))))) else (bI (f_X9_waterOf k x1 w2) (fun r7 w7 => (bI (f_X9_waterOf k x2 w7) (fun r8 w8 => (if r7 ≤ r8 then (some (0, w8)) else (some (1, w8))))))))))))
set_option maxRecDepth 100000 in
theorem W_X9_comesBefore {g : GC} (hl : g.1.stackTraces = false) {k : Nat} (hk : isX9 k) {x1 : Int32} {x2 : Int32} {w : XW} : VE g cX9_comesBefore 3 RX9 (some .boolean) [] (rmL 5 0 0) 0 0 oI 0 0 0 [(0, .ref (g.2.1 + k)), (1, .int x1), (2, .int x2)] [] w (f_X9_comesBefore k x1 x2 w) := by
  unfold f_X9_comesBefore
  refine v_aload_n dX9_comesBefore_0 rfl 0 rfl ?_
  refine v_iload_n dX9_comesBefore_1 rfl 1 rfl ?_
  refine v_callVi (As := [.int x1]) cv_X9_61 (S_X9_waterOf hl hk) hk.1 rfl rfl rfl (Nat.le_of_ble_eq_true rfl) dX9_comesBefore_2 (CR_rm (by decide) (by decide) (by decide) (by decide)) (fun r1 w1 => ?_)
  refine v_aload_n dX9_comesBefore_5 rfl 0 rfl ?_
  refine v_iload_n dX9_comesBefore_6 rfl 2 rfl ?_
  refine v_callVi (As := [.int x2]) cv_X9_61 (S_X9_waterOf hl hk) hk.1 rfl rfl rfl (Nat.le_of_ble_eq_true rfl) dX9_comesBefore_7 (CR_rm (by decide) (by decide) (by decide) (by decide)) (fun r2 w2 => ?_)
  refine v_icmp_eq (tgt := 32) dX9_comesBefore_10 (by decide) ?_ ?_
  · refine v_aload_n dX9_comesBefore_32 rfl 0 rfl ?_
    refine v_iload_n dX9_comesBefore_33 rfl 1 rfl ?_
    refine v_callVi (As := [.int x1]) cv_X9_54 (S_X9_termCountOf hl hk) hk.1 rfl rfl rfl (Nat.le_of_ble_eq_true rfl) dX9_comesBefore_34 (CR_rm (by decide) (by decide) (by decide) (by decide)) (fun r3 w3 => ?_)
    refine v_aload_n dX9_comesBefore_37 rfl 0 rfl ?_
    refine v_iload_n dX9_comesBefore_38 rfl 2 rfl ?_
    refine v_callVi (As := [.int x2]) cv_X9_54 (S_X9_termCountOf hl hk) hk.1 rfl rfl rfl (Nat.le_of_ble_eq_true rfl) dX9_comesBefore_39 (CR_rm (by decide) (by decide) (by decide) (by decide)) (fun r4 w4 => ?_)
    refine v_icmp_eq (tgt := 64) dX9_comesBefore_42 (by decide) ?_ ?_
    · refine v_iload_n dX9_comesBefore_64 rfl 1 rfl ?_
      refine v_iload_n dX9_comesBefore_65 rfl 2 rfl ?_
      refine v_icmp_ge (tgt := 73) dX9_comesBefore_66 (by decide) ?_ ?_
      · refine v_iconst (v := 0) dX9_comesBefore_73 (by decide) ?_
        exact v_zret dX9_comesBefore_74 rfl rfl rfl (by decide) (by decide)
      · refine v_iconst (v := 1) dX9_comesBefore_69 (by decide) ?_
        refine v_goto (tgt := 74) dX9_comesBefore_70 (by decide) ?_
        exact v_zret dX9_comesBefore_74 rfl rfl rfl (by decide) (by decide)
    · refine v_aload_n dX9_comesBefore_45 rfl 0 rfl ?_
      refine v_iload_n dX9_comesBefore_46 rfl 1 rfl ?_
      refine v_callVi (As := [.int x1]) cv_X9_54 (S_X9_termCountOf hl hk) hk.1 rfl rfl rfl (Nat.le_of_ble_eq_true rfl) dX9_comesBefore_47 (CR_rm (by decide) (by decide) (by decide) (by decide)) (fun r5 w5 => ?_)
      refine v_aload_n dX9_comesBefore_50 rfl 0 rfl ?_
      refine v_iload_n dX9_comesBefore_51 rfl 2 rfl ?_
      refine v_callVi (As := [.int x2]) cv_X9_54 (S_X9_termCountOf hl hk) hk.1 rfl rfl rfl (Nat.le_of_ble_eq_true rfl) dX9_comesBefore_52 (CR_rm (by decide) (by decide) (by decide) (by decide)) (fun r6 w6 => ?_)
      refine v_icmp_le (tgt := 62) dX9_comesBefore_55 (by decide) ?_ ?_
      · refine v_iconst (v := 0) dX9_comesBefore_62 (by decide) ?_
        exact v_zret dX9_comesBefore_63 rfl rfl rfl (by decide) (by decide)
      · refine v_iconst (v := 1) dX9_comesBefore_58 (by decide) ?_
        refine v_goto (tgt := 63) dX9_comesBefore_59 (by decide) ?_
        exact v_zret dX9_comesBefore_63 rfl rfl rfl (by decide) (by decide)
  · refine v_aload_n dX9_comesBefore_13 rfl 0 rfl ?_
    refine v_iload_n dX9_comesBefore_14 rfl 1 rfl ?_
    refine v_callVi (As := [.int x1]) cv_X9_61 (S_X9_waterOf hl hk) hk.1 rfl rfl rfl (Nat.le_of_ble_eq_true rfl) dX9_comesBefore_15 (CR_rm (by decide) (by decide) (by decide) (by decide)) (fun r7 w7 => ?_)
    refine v_aload_n dX9_comesBefore_18 rfl 0 rfl ?_
    refine v_iload_n dX9_comesBefore_19 rfl 2 rfl ?_
    refine v_callVi (As := [.int x2]) cv_X9_61 (S_X9_waterOf hl hk) hk.1 rfl rfl rfl (Nat.le_of_ble_eq_true rfl) dX9_comesBefore_20 (CR_rm (by decide) (by decide) (by decide) (by decide)) (fun r8 w8 => ?_)
    refine v_icmp_le (tgt := 30) dX9_comesBefore_23 (by decide) ?_ ?_
    · refine v_iconst (v := 0) dX9_comesBefore_30 (by decide) ?_
      exact v_zret dX9_comesBefore_31 rfl rfl rfl (by decide) (by decide)
    · refine v_iconst (v := 1) dX9_comesBefore_26 (by decide) ?_
      refine v_goto (tgt := 31) dX9_comesBefore_27 (by decide) ?_
      exact v_zret dX9_comesBefore_31 rfl rfl rfl (by decide) (by decide)
theorem S_X9_comesBefore {g : GC} (hl : g.1.stackTraces = false) {k : Nat} (hk : isX9 k) {x1 : Int32} {x2 : Int32} {w : XW} : ∀ q, f_X9_comesBefore k x1 x2 w = some q → MM g (.code yX9_comesBefore cX9_comesBefore 3 (some .boolean)) yX9_comesBefore (rmL 5 0 0) 0 0 [.ref (g.2.1 + k), .int x1, .int x2] w (oI q) := fun q hq => MM_of (own := RX9) hl (by decide) gw_957 rfl (Nat.le_of_ble_eq_true rfl) (W_X9_comesBefore hl hk q hq) ⟨rfl, rfl⟩

theorem dX9_rankOf_0 : decode cX9_rankOf 0 = .ok (.iconst 0, 1) := by decide +kernel
theorem dX9_rankOf_1 : decode cX9_rankOf 1 = .ok (.istore_n 2, 1) := by decide +kernel
theorem dX9_rankOf_2 : decode cX9_rankOf 2 = .ok (.iconst 0, 1) := by decide +kernel
theorem dX9_rankOf_3 : decode cX9_rankOf 3 = .ok (.istore_n 3, 1) := by decide +kernel
theorem dX9_rankOf_4 : decode cX9_rankOf 4 = .ok (.iload_n 3, 1) := by decide +kernel
theorem dX9_rankOf_5 : decode cX9_rankOf 5 = .ok (.aload_n 0, 1) := by decide +kernel
theorem dX9_rankOf_6 : decode cX9_rankOf 6 = .ok (.getfield 18, 3) := by decide +kernel
theorem dX9_rankOf_9 : decode cX9_rankOf 9 = .ok (.if_icmp .ge 21, 3) := by decide +kernel
theorem dX9_rankOf_12 : decode cX9_rankOf 12 = .ok (.aload_n 0, 1) := by decide +kernel
theorem dX9_rankOf_13 : decode cX9_rankOf 13 = .ok (.iload_n 3, 1) := by decide +kernel
theorem dX9_rankOf_14 : decode cX9_rankOf 14 = .ok (.iload_n 1, 1) := by decide +kernel
theorem dX9_rankOf_15 : decode cX9_rankOf 15 = .ok (.invokevirtual 70, 3) := by decide +kernel
theorem dX9_rankOf_18 : decode cX9_rankOf 18 = .ok (.ifCond .eq 6, 3) := by decide +kernel
theorem dX9_rankOf_21 : decode cX9_rankOf 21 = .ok (.iinc 2 1, 3) := by decide +kernel
theorem dX9_rankOf_24 : decode cX9_rankOf 24 = .ok (.iinc 3 1, 3) := by decide +kernel
theorem dX9_rankOf_27 : decode cX9_rankOf 27 = .ok (.goto (-23), 3) := by decide +kernel
theorem dX9_rankOf_30 : decode cX9_rankOf 30 = .ok (.iload_n 2, 1) := by decide +kernel
theorem dX9_rankOf_31 : decode cX9_rankOf 31 = .ok (.ireturn, 1) := by decide +kernel
def f_X9_rankOf_4 (k : Nat) (y1 : Int32) : Nat → Int32 → Int32 → XW → Option (Int32 × XW)
  | 0, _, _, _ => none
  | n + 1, z2, z3, w => (if (w.1 k 0) ≤ z3 then (some (z2, w)) else (bI (f_X9_comesBefore k z3 y1 w) (fun r1 w1 => (if r1 = 0 then (f_X9_rankOf_4 k y1 n z2 (z3 + 1) w1) else (f_X9_rankOf_4 k y1 n (z2 + 1) (z3 + 1) w1)))))
set_option maxRecDepth 100000 in
theorem S_X9_rankOf_4 {g : GC} (hl : g.1.stackTraces = false) {k : Nat} (hk : isX9 k) {y1 : Int32} : ∀ (n : Nat) (z2 : Int32) (z3 : Int32) (w : XW), VE g cX9_rankOf 4 RX9 (some .int) [] (rmL 6 0 0) 0 0 oI 0 0 4 [(0, .ref (g.2.1 + k)), (1, .int y1), (2, .int z2), (3, .int z3)] [] w (f_X9_rankOf_4 k y1 n z2 z3 w) := by
  intro n
  induction n with
  | zero => intro z2 z3 w; exact v_none
  | succ n ih =>
    intro z2 z3 w
    rw [f_X9_rankOf_4]
    refine v_iload_n dX9_rankOf_4 rfl 3 rfl ?_
    refine v_aload_n dX9_rankOf_5 rfl 0 rfl ?_
    refine v_getI fl_X9_18 hk.1 rfl dX9_rankOf_6 ?_
    refine v_icmp_ge (tgt := 30) dX9_rankOf_9 (by decide) ?_ ?_
    · refine v_iload_n dX9_rankOf_30 rfl 2 rfl ?_
      exact v_iret dX9_rankOf_31 rfl rfl (by decide) (by decide)
    · refine v_aload_n dX9_rankOf_12 rfl 0 rfl ?_
      refine v_iload_n dX9_rankOf_13 rfl 3 rfl ?_
      refine v_iload_n dX9_rankOf_14 rfl 1 rfl ?_
      refine v_callVi (As := [.int z3, .int y1]) cv_X9_70 (S_X9_comesBefore hl hk) hk.1 rfl rfl rfl (Nat.le_of_ble_eq_true rfl) dX9_rankOf_15 (CR_rm (by decide) (by decide) (by decide) (by decide)) (fun r1 w1 => ?_)
      refine v_if_eq (tgt := 24) dX9_rankOf_18 (by decide) ?_ ?_
      · refine v_iinc (v := (z3 + 1)) dX9_rankOf_24 (q := 3) rfl rfl (Nat.le_of_ble_eq_true rfl) rfl ?_
        refine v_goto (tgt := 4) dX9_rankOf_27 (by decide) ?_
        refine v_sub [1, 2, 3, 0] rfl ?_
        exact ih _ _ _
      · refine v_iinc (v := (z2 + 1)) dX9_rankOf_21 (q := 2) rfl rfl (Nat.le_of_ble_eq_true rfl) rfl ?_
        refine v_iinc (v := (z3 + 1)) dX9_rankOf_24 (q := 3) rfl rfl (Nat.le_of_ble_eq_true rfl) rfl ?_
        refine v_goto (tgt := 4) dX9_rankOf_27 (by decide) ?_
        refine v_sub [2, 3, 1, 0] rfl ?_
        exact ih _ _ _
def f_X9_rankOf (k : Nat) (x1 : Int32) (w : XW) : Option (Int32 × XW) := (f_X9_rankOf_4 k x1 1000 0 0 w)
set_option maxRecDepth 100000 in
theorem W_X9_rankOf {g : GC} (hl : g.1.stackTraces = false) {k : Nat} (hk : isX9 k) {x1 : Int32} {w : XW} : VE g cX9_rankOf 4 RX9 (some .int) [] (rmL 6 0 0) 0 0 oI 0 0 0 [(0, .ref (g.2.1 + k)), (1, .int x1)] [] w (f_X9_rankOf k x1 w) := by
  unfold f_X9_rankOf
  refine v_iconst (v := 0) dX9_rankOf_0 (by decide) ?_
  refine v_istore_n dX9_rankOf_1 rfl (Nat.le_of_ble_eq_true rfl) rfl ?_
  refine v_iconst (v := 0) dX9_rankOf_2 (by decide) ?_
  refine v_istore_n dX9_rankOf_3 rfl (Nat.le_of_ble_eq_true rfl) rfl ?_
  refine v_sub [2, 3, 1, 0] rfl ?_
  exact S_X9_rankOf_4 hl hk  _ _ _ _
theorem S_X9_rankOf {g : GC} (hl : g.1.stackTraces = false) {k : Nat} (hk : isX9 k) {x1 : Int32} {w : XW} : ∀ q, f_X9_rankOf k x1 w = some q → MM g (.code yX9_rankOf cX9_rankOf 4 (some .int)) yX9_rankOf (rmL 6 0 0) 0 0 [.ref (g.2.1 + k), .int x1] w (oI q) := fun q hq => MM_of (own := RX9) hl (by decide) gw_953 rfl (Nat.le_of_ble_eq_true rfl) (W_X9_rankOf hl hk q hq) ⟨rfl, rfl⟩

theorem dX9_sectionAtRank_0 : decode cX9_sectionAtRank 0 = .ok (.iconst 0, 1) := by decide +kernel
theorem dX9_sectionAtRank_1 : decode cX9_sectionAtRank 1 = .ok (.istore_n 2, 1) := by decide +kernel
theorem dX9_sectionAtRank_2 : decode cX9_sectionAtRank 2 = .ok (.iload_n 2, 1) := by decide +kernel
theorem dX9_sectionAtRank_3 : decode cX9_sectionAtRank 3 = .ok (.aload_n 0, 1) := by decide +kernel
theorem dX9_sectionAtRank_4 : decode cX9_sectionAtRank 4 = .ok (.getfield 18, 3) := by decide +kernel
theorem dX9_sectionAtRank_7 : decode cX9_sectionAtRank 7 = .ok (.if_icmp .ge 20, 3) := by decide +kernel
theorem dX9_sectionAtRank_10 : decode cX9_sectionAtRank 10 = .ok (.aload_n 0, 1) := by decide +kernel
theorem dX9_sectionAtRank_11 : decode cX9_sectionAtRank 11 = .ok (.iload_n 2, 1) := by decide +kernel
theorem dX9_sectionAtRank_12 : decode cX9_sectionAtRank 12 = .ok (.invokevirtual 73, 3) := by decide +kernel
theorem dX9_sectionAtRank_15 : decode cX9_sectionAtRank 15 = .ok (.iload_n 1, 1) := by decide +kernel
theorem dX9_sectionAtRank_16 : decode cX9_sectionAtRank 16 = .ok (.if_icmp .ne 5, 3) := by decide +kernel
theorem dX9_sectionAtRank_19 : decode cX9_sectionAtRank 19 = .ok (.iload_n 2, 1) := by decide +kernel
theorem dX9_sectionAtRank_20 : decode cX9_sectionAtRank 20 = .ok (.ireturn, 1) := by decide +kernel
theorem dX9_sectionAtRank_21 : decode cX9_sectionAtRank 21 = .ok (.iinc 2 1, 3) := by decide +kernel
theorem dX9_sectionAtRank_24 : decode cX9_sectionAtRank 24 = .ok (.goto (-22), 3) := by decide +kernel
theorem dX9_sectionAtRank_27 : decode cX9_sectionAtRank 27 = .ok (.iconst (-1), 1) := by decide +kernel
theorem dX9_sectionAtRank_28 : decode cX9_sectionAtRank 28 = .ok (.ireturn, 1) := by decide +kernel
def f_X9_sectionAtRank_2 (k : Nat) (y1 : Int32) : Nat → Int32 → XW → Option (Int32 × XW)
  | 0, _, _ => none
  | n + 1, z2, w => (if (w.1 k 0) ≤ z2 then (some ((-1), w)) else (bI (f_X9_rankOf k z2 w) (fun r1 w1 => (if r1 = y1 then (some (z2, w1)) else (f_X9_sectionAtRank_2 k y1 n (z2 + 1) w1)))))
set_option maxRecDepth 100000 in
theorem S_X9_sectionAtRank_2 {g : GC} (hl : g.1.stackTraces = false) {k : Nat} (hk : isX9 k) {y1 : Int32} : ∀ (n : Nat) (z2 : Int32) (w : XW), VE g cX9_sectionAtRank 3 RX9 (some .int) [] (rmL 7 0 0) 0 0 oI 0 0 2 [(0, .ref (g.2.1 + k)), (1, .int y1), (2, .int z2)] [] w (f_X9_sectionAtRank_2 k y1 n z2 w) := by
  intro n
  induction n with
  | zero => intro z2 w; exact v_none
  | succ n ih =>
    intro z2 w
    rw [f_X9_sectionAtRank_2]
    refine v_iload_n dX9_sectionAtRank_2 rfl 2 rfl ?_
    refine v_aload_n dX9_sectionAtRank_3 rfl 0 rfl ?_
    refine v_getI fl_X9_18 hk.1 rfl dX9_sectionAtRank_4 ?_
    refine v_icmp_ge (tgt := 27) dX9_sectionAtRank_7 (by decide) ?_ ?_
    · refine v_iconst (v := (-1)) dX9_sectionAtRank_27 (by decide) ?_
      exact v_iret dX9_sectionAtRank_28 rfl rfl (by decide) (by decide)
    · refine v_aload_n dX9_sectionAtRank_10 rfl 0 rfl ?_
      refine v_iload_n dX9_sectionAtRank_11 rfl 2 rfl ?_
      refine v_callVi (As := [.int z2]) cv_X9_73 (S_X9_rankOf hl hk) hk.1 rfl rfl rfl (Nat.le_of_ble_eq_true rfl) dX9_sectionAtRank_12 (CR_rm (by decide) (by decide) (by decide) (by decide)) (fun r1 w1 => ?_)
      refine v_iload_n dX9_sectionAtRank_15 rfl 1 rfl ?_
      refine v_icmp_ne (tgt := 21) dX9_sectionAtRank_16 (by decide) ?_ ?_
      · refine v_iinc (v := (z2 + 1)) dX9_sectionAtRank_21 (q := 2) rfl rfl (Nat.le_of_ble_eq_true rfl) rfl ?_
        refine v_goto (tgt := 2) dX9_sectionAtRank_24 (by decide) ?_
        refine v_sub [1, 2, 0] rfl ?_
        exact ih _ _
      · refine v_iload_n dX9_sectionAtRank_19 rfl 2 rfl ?_
        exact v_iret dX9_sectionAtRank_20 rfl rfl (by decide) (by decide)
def f_X9_sectionAtRank (k : Nat) (x1 : Int32) (w : XW) : Option (Int32 × XW) := (f_X9_sectionAtRank_2 k x1 1000 0 w)
set_option maxRecDepth 100000 in
theorem W_X9_sectionAtRank {g : GC} (hl : g.1.stackTraces = false) {k : Nat} (hk : isX9 k) {x1 : Int32} {w : XW} : VE g cX9_sectionAtRank 3 RX9 (some .int) [] (rmL 7 0 0) 0 0 oI 0 0 0 [(0, .ref (g.2.1 + k)), (1, .int x1)] [] w (f_X9_sectionAtRank k x1 w) := by
  unfold f_X9_sectionAtRank
  refine v_iconst (v := 0) dX9_sectionAtRank_0 (by decide) ?_
  refine v_istore_n dX9_sectionAtRank_1 rfl (Nat.le_of_ble_eq_true rfl) rfl ?_
  refine v_sub [1, 2, 0] rfl ?_
  exact S_X9_sectionAtRank_2 hl hk  _ _ _
theorem S_X9_sectionAtRank {g : GC} (hl : g.1.stackTraces = false) {k : Nat} (hk : isX9 k) {x1 : Int32} {w : XW} : ∀ q, f_X9_sectionAtRank k x1 w = some q → MM g (.code yX9_sectionAtRank cX9_sectionAtRank 3 (some .int)) yX9_sectionAtRank (rmL 7 0 0) 0 0 [.ref (g.2.1 + k), .int x1] w (oI q) := fun q hq => MM_of (own := RX9) hl (by decide) gw_949 rfl (Nat.le_of_ble_eq_true rfl) (W_X9_sectionAtRank hl hk q hq) ⟨rfl, rfl⟩
end
section
theorem dX4_copyFrom_0 : decode cX4_copyFrom 0 = .ok (.aload_n 0, 1) := by decide +kernel
theorem dX4_copyFrom_1 : decode cX4_copyFrom 1 = .ok (.aload_n 1, 1) := by decide +kernel
theorem dX4_copyFrom_2 : decode cX4_copyFrom 2 = .ok (.getfield 15, 3) := by decide +kernel
theorem dX4_copyFrom_5 : decode cX4_copyFrom 5 = .ok (.putfield 15, 3) := by decide +kernel
theorem dX4_copyFrom_8 : decode cX4_copyFrom 8 = .ok (.aload_n 1, 1) := by decide +kernel
theorem dX4_copyFrom_9 : decode cX4_copyFrom 9 = .ok (.getfield 9, 3) := by decide +kernel
theorem dX4_copyFrom_12 : decode cX4_copyFrom 12 = .ok (.iconst 0, 1) := by decide +kernel
theorem dX4_copyFrom_13 : decode cX4_copyFrom 13 = .ok (.aload_n 0, 1) := by decide +kernel
theorem dX4_copyFrom_14 : decode cX4_copyFrom 14 = .ok (.getfield 9, 3) := by decide +kernel
theorem dX4_copyFrom_17 : decode cX4_copyFrom 17 = .ok (.iconst 0, 1) := by decide +kernel
theorem dX4_copyFrom_18 : decode cX4_copyFrom 18 = .ok (.bipush 7, 2) := by decide +kernel
theorem dX4_copyFrom_20 : decode cX4_copyFrom 20 = .ok (.invokestatic 19, 3) := by decide +kernel
theorem dX4_copyFrom_23 : decode cX4_copyFrom 23 = .ok (.return_, 1) := by decide +kernel
def f_X4_copyFrom (k : Nat) (k1 : Nat) (w : XW) : Option (XW) := (some (wcpy (wset w k 0 (w.1 k1 0)) (k1 + 1) (Int32.toNatClampNeg 0) (k + 1) (Int32.toNatClampNeg 0) (Int32.toNatClampNeg 7)))
set_option maxRecDepth 100000 in
theorem W_X4_copyFrom {g : GC} (hl : g.1.stackTraces = false) {k : Nat} (hk : isX4 k) {k1 : Nat} (hk1 : isX4 k1) {w : XW} : VE g cX4_copyFrom 2 RX4 none [] (rmL 3 0 0) 0 0 oV 0 0 0 [(0, .ref (g.2.1 + k)), (1, .ref (g.2.1 + k1))] [] w (f_X4_copyFrom k k1 w) := by
  unfold f_X4_copyFrom
  refine v_aload_n dX4_copyFrom_0 rfl 0 rfl ?_
  refine v_aload_n dX4_copyFrom_1 rfl 1 rfl ?_
  refine v_getI fl_X4_15 hk1.1 rfl dX4_copyFrom_2 ?_
  refine v_putI fl_X4_15 hk.1 rfl (ty0 := .int) rfl rfl rfl dX4_copyFrom_5 ?_
  refine v_aload_n dX4_copyFrom_8 rfl 1 rfl ?_
  refine v_getR fl_X4_9 hk1.1 rfl dX4_copyFrom_9 ?_
  refine v_iconst (v := 0) dX4_copyFrom_12 (by decide) ?_
  refine v_aload_n dX4_copyFrom_13 rfl 0 rfl ?_
  refine v_getR fl_X4_9 hk.1 rfl dX4_copyFrom_14 ?_
  refine v_iconst (v := 0) dX4_copyFrom_17 (by decide) ?_
  refine v_bipush (v := 7) dX4_copyFrom_18 (by decide) ?_
  refine v_copy (ty := .int) hk1.2 hk.2 (Or.inl rfl) rfl rfl gw_399 gw_401 gw_400 gw_109 (by decide) (by decide) (by decide) (by decide) (by decide) (fun _ _ => rfl) (CR_f1 _ _ _) (CR_f3 (by decide) _ _ _) dX4_copyFrom_20 ?_
  exact v_vret dX4_copyFrom_23 rfl rfl (by decide) (by decide)
theorem S_X4_copyFrom {g : GC} (hl : g.1.stackTraces = false) {k : Nat} (hk : isX4 k) {k1 : Nat} (hk1 : isX4 k1) {w : XW} : ∀ q, f_X4_copyFrom k k1 w = some q → MM g (.code yX4_copyFrom cX4_copyFrom 2 none) yX4_copyFrom (rmL 3 0 0) 0 0 [.ref (g.2.1 + k), .ref (g.2.1 + k1)] w (oV q) := fun q hq => MM_of (own := RX4) hl (by decide) gw_398 rfl (Nat.le_of_ble_eq_true rfl) (W_X4_copyFrom hl hk hk1 q hq) ⟨rfl, rfl⟩

theorem dX4_layerHolding_0 : decode cX4_layerHolding 0 = .ok (.iload_n 1, 1) := by decide +kernel
theorem dX4_layerHolding_1 : decode cX4_layerHolding 1 = .ok (.ifCond .lt 20, 3) := by decide +kernel
theorem dX4_layerHolding_4 : decode cX4_layerHolding 4 = .ok (.iload_n 1, 1) := by decide +kernel
theorem dX4_layerHolding_5 : decode cX4_layerHolding 5 = .ok (.aload_n 0, 1) := by decide +kernel
theorem dX4_layerHolding_6 : decode cX4_layerHolding 6 = .ok (.getfield 15, 3) := by decide +kernel
theorem dX4_layerHolding_9 : decode cX4_layerHolding 9 = .ok (.if_icmp .ge 12, 3) := by decide +kernel
theorem dX4_layerHolding_12 : decode cX4_layerHolding 12 = .ok (.aload_n 0, 1) := by decide +kernel
theorem dX4_layerHolding_13 : decode cX4_layerHolding 13 = .ok (.getfield 9, 3) := by decide +kernel
theorem dX4_layerHolding_16 : decode cX4_layerHolding 16 = .ok (.iload_n 1, 1) := by decide +kernel
theorem dX4_layerHolding_17 : decode cX4_layerHolding 17 = .ok (.iaload, 1) := by decide +kernel
theorem dX4_layerHolding_18 : decode cX4_layerHolding 18 = .ok (.goto 4, 3) := by decide +kernel
theorem dX4_layerHolding_21 : decode cX4_layerHolding 21 = .ok (.iconst (-1), 1) := by decide +kernel
theorem dX4_layerHolding_22 : decode cX4_layerHolding 22 = .ok (.ireturn, 1) := by decide +kernel
def f_X4_layerHolding (k : Nat) (x1 : Int32) (w : XW) : Option (Int32 × XW) := (if x1 < 0 then (some ((-1), w)) else (if (w.1 k 0) ≤ x1 then (some ((-1), w)) else (if inB x1 7 then (some ((w.1 (k + 1) (Int32.toNatClampNeg x1)), w)) else none)))
set_option maxRecDepth 100000 in
theorem W_X4_layerHolding {g : GC} (hl : g.1.stackTraces = false) {k : Nat} (hk : isX4 k) {x1 : Int32} {w : XW} : VE g cX4_layerHolding 2 RX4 (some .int) [] (rmL 3 0 0) 0 0 oI 0 0 0 [(0, .ref (g.2.1 + k)), (1, .int x1)] [] w (f_X4_layerHolding k x1 w) := by
  unfold f_X4_layerHolding
  refine v_iload_n dX4_layerHolding_0 rfl 1 rfl ?_
  refine v_if_lt (tgt := 21) dX4_layerHolding_1 (by decide) ?_ ?_
  · refine v_iconst (v := (-1)) dX4_layerHolding_21 (by decide) ?_
    exact v_iret dX4_layerHolding_22 rfl rfl (by decide) (by decide)
  · refine v_iload_n dX4_layerHolding_4 rfl 1 rfl ?_
    refine v_aload_n dX4_layerHolding_5 rfl 0 rfl ?_
    refine v_getI fl_X4_15 hk.1 rfl dX4_layerHolding_6 ?_
    refine v_icmp_ge (tgt := 21) dX4_layerHolding_9 (by decide) ?_ ?_
    · refine v_iconst (v := (-1)) dX4_layerHolding_21 (by decide) ?_
      exact v_iret dX4_layerHolding_22 rfl rfl (by decide) (by decide)
    · refine v_aload_n dX4_layerHolding_12 rfl 0 rfl ?_
      refine v_getR fl_X4_9 hk.1 rfl dX4_layerHolding_13 ?_
      refine v_iload_n dX4_layerHolding_16 rfl 1 rfl ?_
      refine v_guard (fun h1 => ?_)
      refine v_iald hk.2 h1 dX4_layerHolding_17 ?_
      refine v_goto (tgt := 22) dX4_layerHolding_18 (by decide) ?_
      exact v_iret dX4_layerHolding_22 rfl rfl (by decide) (by decide)
theorem S_X4_layerHolding {g : GC} (hl : g.1.stackTraces = false) {k : Nat} (hk : isX4 k) {x1 : Int32} {w : XW} : ∀ q, f_X4_layerHolding k x1 w = some q → MM g (.code yX4_layerHolding cX4_layerHolding 2 (some .int)) yX4_layerHolding (rmL 3 0 0) 0 0 [.ref (g.2.1 + k), .int x1] w (oI q) := fun q hq => MM_of (own := RX4) hl (by decide) gw_420 rfl (Nat.le_of_ble_eq_true rfl) (W_X4_layerHolding hl hk q hq) ⟨rfl, rfl⟩

theorem dX4_layerAfterInsert_0 : decode cX4_layerAfterInsert 0 = .ok (.aload_n 0, 1) := by decide +kernel
theorem dX4_layerAfterInsert_1 : decode cX4_layerAfterInsert 1 = .ok (.iload_n 1, 1) := by decide +kernel
theorem dX4_layerAfterInsert_2 : decode cX4_layerAfterInsert 2 = .ok (.invokevirtual 34, 3) := by decide +kernel
theorem dX4_layerAfterInsert_5 : decode cX4_layerAfterInsert 5 = .ok (.istore_n 3, 1) := by decide +kernel
theorem dX4_layerAfterInsert_6 : decode cX4_layerAfterInsert 6 = .ok (.iload_n 3, 1) := by decide +kernel
theorem dX4_layerAfterInsert_7 : decode cX4_layerAfterInsert 7 = .ok (.iload_n 2, 1) := by decide +kernel
theorem dX4_layerAfterInsert_8 : decode cX4_layerAfterInsert 8 = .ok (.if_icmp .lt 9, 3) := by decide +kernel
theorem dX4_layerAfterInsert_11 : decode cX4_layerAfterInsert 11 = .ok (.iload_n 3, 1) := by decide +kernel
theorem dX4_layerAfterInsert_12 : decode cX4_layerAfterInsert 12 = .ok (.iconst 1, 1) := by decide +kernel
theorem dX4_layerAfterInsert_13 : decode cX4_layerAfterInsert 13 = .ok (.iadd, 1) := by decide +kernel
theorem dX4_layerAfterInsert_14 : decode cX4_layerAfterInsert 14 = .ok (.goto 4, 3) := by decide +kernel
theorem dX4_layerAfterInsert_17 : decode cX4_layerAfterInsert 17 = .ok (.iload_n 3, 1) := by decide +kernel
theorem dX4_layerAfterInsert_18 : decode cX4_layerAfterInsert 18 = .ok (.ireturn, 1) := by decide +kernel
def f_X4_layerAfterInsert (k : Nat) (x1 : Int32) (x2 : Int32) (w : XW) : Option (Int32 × XW) := (bI (f_X4_layerHolding k x1 w) (fun r1 w1 => (if r1 < x2 then (some (r1, w1)) else (some ((r1 + 1), w1)))))
set_option maxRecDepth 100000 in
theorem W_X4_layerAfterInsert {g : GC} (hl : g.1.stackTraces = false) {k : Nat} (hk : isX4 k) {x1 : Int32} {x2 : Int32} {w : XW} : VE g cX4_layerAfterInsert 4 RX4 (some .int) [] (rmL 4 0 0) 0 0 oI 0 0 0 [(0, .ref (g.2.1 + k)), (1, .int x1), (2, .int x2)] [] w (f_X4_layerAfterInsert k x1 x2 w) := by
  unfold f_X4_layerAfterInsert
  refine v_aload_n dX4_layerAfterInsert_0 rfl 0 rfl ?_
  refine v_iload_n dX4_layerAfterInsert_1 rfl 1 rfl ?_
  refine v_callVi (As := [.int x1]) cv_X4_34 (S_X4_layerHolding hl hk) hk.1 rfl rfl rfl (Nat.le_of_ble_eq_true rfl) dX4_layerAfterInsert_2 (CR_rm (by decide) (by decide) (by decide) (by decide)) (fun r1 w1 => ?_)
  refine v_istore_n dX4_layerAfterInsert_5 rfl (Nat.le_of_ble_eq_true rfl) rfl ?_
  refine v_iload_n dX4_layerAfterInsert_6 rfl 0 rfl ?_
  refine v_iload_n dX4_layerAfterInsert_7 rfl 3 rfl ?_
  refine v_icmp_lt (tgt := 17) dX4_layerAfterInsert_8 (by decide) ?_ ?_
  · refine v_iload_n dX4_layerAfterInsert_17 rfl 0 rfl ?_
    exact v_iret dX4_layerAfterInsert_18 rfl rfl (by decide) (by decide)
  · refine v_iload_n dX4_layerAfterInsert_11 rfl 0 rfl ?_
    refine v_iconst (v := 1) dX4_layerAfterInsert_12 (by decide) ?_
    refine v_iadd dX4_layerAfterInsert_13 ?_
    refine v_goto (tgt := 18) dX4_layerAfterInsert_14 (by decide) ?_
    exact v_iret dX4_layerAfterInsert_18 rfl rfl (by decide) (by decide)
theorem S_X4_layerAfterInsert {g : GC} (hl : g.1.stackTraces = false) {k : Nat} (hk : isX4 k) {x1 : Int32} {x2 : Int32} {w : XW} : ∀ q, f_X4_layerAfterInsert k x1 x2 w = some q → MM g (.code yX4_layerAfterInsert cX4_layerAfterInsert 4 (some .int)) yX4_layerAfterInsert (rmL 4 0 0) 0 0 [.ref (g.2.1 + k), .int x1, .int x2] w (oI q) := fun q hq => MM_of (own := RX4) hl (by decide) gw_416 rfl (Nat.le_of_ble_eq_true rfl) (W_X4_layerAfterInsert hl hk q hq) ⟨rfl, rfl⟩

theorem dX4_spansCross_0 : decode cX4_spansCross 0 = .ok (.iload_n 0, 1) := by decide +kernel
theorem dX4_spansCross_1 : decode cX4_spansCross 1 = .ok (.iload_n 1, 1) := by decide +kernel
theorem dX4_spansCross_2 : decode cX4_spansCross 2 = .ok (.invokestatic 25, 3) := by decide +kernel
theorem dX4_spansCross_5 : decode cX4_spansCross 5 = .ok (.istore 4, 2) := by decide +kernel
theorem dX4_spansCross_7 : decode cX4_spansCross 7 = .ok (.iload_n 0, 1) := by decide +kernel
theorem dX4_spansCross_8 : decode cX4_spansCross 8 = .ok (.iload_n 1, 1) := by decide +kernel
theorem dX4_spansCross_9 : decode cX4_spansCross 9 = .ok (.invokestatic 31, 3) := by decide +kernel
theorem dX4_spansCross_12 : decode cX4_spansCross 12 = .ok (.istore 5, 2) := by decide +kernel
theorem dX4_spansCross_14 : decode cX4_spansCross 14 = .ok (.iload_n 2, 1) := by decide +kernel
theorem dX4_spansCross_15 : decode cX4_spansCross 15 = .ok (.iload_n 3, 1) := by decide +kernel
theorem dX4_spansCross_16 : decode cX4_spansCross 16 = .ok (.invokestatic 25, 3) := by decide +kernel
theorem dX4_spansCross_19 : decode cX4_spansCross 19 = .ok (.istore 6, 2) := by decide +kernel
theorem dX4_spansCross_21 : decode cX4_spansCross 21 = .ok (.iload_n 2, 1) := by decide +kernel
theorem dX4_spansCross_22 : decode cX4_spansCross 22 = .ok (.iload_n 3, 1) := by decide +kernel
theorem dX4_spansCross_23 : decode cX4_spansCross 23 = .ok (.invokestatic 31, 3) := by decide +kernel
theorem dX4_spansCross_26 : decode cX4_spansCross 26 = .ok (.istore 7, 2) := by decide +kernel
theorem dX4_spansCross_28 : decode cX4_spansCross 28 = .ok (.iload 4, 2) := by decide +kernel
theorem dX4_spansCross_30 : decode cX4_spansCross 30 = .ok (.iload 6, 2) := by decide +kernel
theorem dX4_spansCross_32 : decode cX4_spansCross 32 = .ok (.if_icmp .ge 23, 3) := by decide +kernel
theorem dX4_spansCross_35 : decode cX4_spansCross 35 = .ok (.iload 5, 2) := by decide +kernel
theorem dX4_spansCross_37 : decode cX4_spansCross 37 = .ok (.iload 6, 2) := by decide +kernel
theorem dX4_spansCross_39 : decode cX4_spansCross 39 = .ok (.if_icmp .le 14, 3) := by decide +kernel
theorem dX4_spansCross_42 : decode cX4_spansCross 42 = .ok (.iload 5, 2) := by decide +kernel
theorem dX4_spansCross_44 : decode cX4_spansCross 44 = .ok (.iload 7, 2) := by decide +kernel
theorem dX4_spansCross_46 : decode cX4_spansCross 46 = .ok (.if_icmp .ge 7, 3) := by decide +kernel
theorem dX4_spansCross_49 : decode cX4_spansCross 49 = .ok (.iconst 1, 1) := by decide +kernel
theorem dX4_spansCross_50 : decode cX4_spansCross 50 = .ok (.goto 4, 3) := by decide +kernel
theorem dX4_spansCross_53 : decode cX4_spansCross 53 = .ok (.iconst 0, 1) := by decide +kernel
theorem dX4_spansCross_54 : decode cX4_spansCross 54 = .ok (.ireturn, 1) := by decide +kernel
theorem dX4_spansCross_55 : decode cX4_spansCross 55 = .ok (.iload 7, 2) := by decide +kernel
theorem dX4_spansCross_57 : decode cX4_spansCross 57 = .ok (.iload 4, 2) := by decide +kernel
theorem dX4_spansCross_59 : decode cX4_spansCross 59 = .ok (.if_icmp .le 14, 3) := by decide +kernel
theorem dX4_spansCross_62 : decode cX4_spansCross 62 = .ok (.iload 7, 2) := by decide +kernel
theorem dX4_spansCross_64 : decode cX4_spansCross 64 = .ok (.iload 5, 2) := by decide +kernel
theorem dX4_spansCross_66 : decode cX4_spansCross 66 = .ok (.if_icmp .ge 7, 3) := by decide +kernel
theorem dX4_spansCross_69 : decode cX4_spansCross 69 = .ok (.iconst 1, 1) := by decide +kernel
theorem dX4_spansCross_70 : decode cX4_spansCross 70 = .ok (.goto 4, 3) := by decide +kernel
theorem dX4_spansCross_73 : decode cX4_spansCross 73 = .ok (.iconst 0, 1) := by decide +kernel
theorem dX4_spansCross_74 : decode cX4_spansCross 74 = .ok (.ireturn, 1) := by decide +kernel
def f_X4_spansCross (x0 : Int32) (x1 : Int32) (x2 : Int32) (x3 : Int32) (w : XW) : Option (Int32 × XW) := (if (if x3 < x2 then x3 else x2) ≤ (if x1 < x0 then x1 else x0) then (if (if x2 < x3 then x3 else x2) ≤ (if x1 < x0 then x1 else x0) then (some (0, w)) else (if (if x0 < x1 then x1 else x0) ≤ (if x2 < x3 then x3 else x2) then (some (0, w)) else (some (1, w)))) else (if (if x0 < x1 then x1 else x0) ≤ (if x3 < x2 then x3 else x2) then (some (0, w)) else (if (if x2 < x3 then x3 else x2) ≤ (if x0 < x1 then x1 else x0) then (some (0, w)) else (some (1, w)))))
set_option maxRecDepth 100000 in
theorem W_X4_spansCross {g : GC} (hl : g.1.stackTraces = false) {x0 : Int32} {x1 : Int32} {x2 : Int32} {x3 : Int32} {w : XW} : VE g cX4_spansCross 8 RX4 (some .boolean) [] (rmL 3 0 0) 0 0 oI 0 0 0 [(0, .int x0), (1, .int x1), (2, .int x2), (3, .int x3)] [] w (f_X4_spansCross x0 x1 x2 x3 w) := by
  unfold f_X4_spansCross
  refine v_iload_n dX4_spansCross_0 rfl 0 rfl ?_
  refine v_iload_n dX4_spansCross_1 rfl 1 rfl ?_
  refine v_min gw_424 gw_403 gw_98 gw_404 dX4_spansCross_2 (CR_f1 _ _ _) (CR_f2 (by decide) _ _ _) (by decide) (by decide) ?_
  refine v_istore dX4_spansCross_5 (Nat.le_of_ble_eq_true rfl) rfl ?_
  refine v_iload_n dX4_spansCross_7 rfl 1 rfl ?_
  refine v_iload_n dX4_spansCross_8 rfl 2 rfl ?_
  refine v_max gw_425 gw_273 gw_98 gw_274 dX4_spansCross_9 (CR_f1 _ _ _) (CR_f2 (by decide) _ _ _) (by decide) (by decide) ?_
  refine v_istore dX4_spansCross_12 (Nat.le_of_ble_eq_true rfl) rfl ?_
  refine v_iload_n dX4_spansCross_14 rfl 4 rfl ?_
  refine v_iload_n dX4_spansCross_15 rfl 5 rfl ?_
  refine v_min gw_424 gw_403 gw_98 gw_404 dX4_spansCross_16 (CR_f1 _ _ _) (CR_f2 (by decide) _ _ _) (by decide) (by decide) ?_
  refine v_istore dX4_spansCross_19 (Nat.le_of_ble_eq_true rfl) rfl ?_
  refine v_iload_n dX4_spansCross_21 rfl 5 rfl ?_
  refine v_iload_n dX4_spansCross_22 rfl 6 rfl ?_
  refine v_max gw_425 gw_273 gw_98 gw_274 dX4_spansCross_23 (CR_f1 _ _ _) (CR_f2 (by decide) _ _ _) (by decide) (by decide) ?_
  refine v_istore dX4_spansCross_26 (Nat.le_of_ble_eq_true rfl) rfl ?_
  refine v_iload dX4_spansCross_28 3 rfl ?_
  refine v_iload dX4_spansCross_30 1 rfl ?_
  refine v_icmp_ge (tgt := 55) dX4_spansCross_32 (by decide) ?_ ?_
  · refine v_iload dX4_spansCross_55 0 rfl ?_
    refine v_iload dX4_spansCross_57 3 rfl ?_
    refine v_icmp_le (tgt := 73) dX4_spansCross_59 (by decide) ?_ ?_
    · refine v_iconst (v := 0) dX4_spansCross_73 (by decide) ?_
      exact v_zret dX4_spansCross_74 rfl rfl rfl (by decide) (by decide)
    · refine v_iload dX4_spansCross_62 0 rfl ?_
      refine v_iload dX4_spansCross_64 2 rfl ?_
      refine v_icmp_ge (tgt := 73) dX4_spansCross_66 (by decide) ?_ ?_
      · refine v_iconst (v := 0) dX4_spansCross_73 (by decide) ?_
        exact v_zret dX4_spansCross_74 rfl rfl rfl (by decide) (by decide)
      · refine v_iconst (v := 1) dX4_spansCross_69 (by decide) ?_
        refine v_goto (tgt := 74) dX4_spansCross_70 (by decide) ?_
        exact v_zret dX4_spansCross_74 rfl rfl rfl (by decide) (by decide)
  · refine v_iload dX4_spansCross_35 2 rfl ?_
    refine v_iload dX4_spansCross_37 1 rfl ?_
    refine v_icmp_le (tgt := 53) dX4_spansCross_39 (by decide) ?_ ?_
    · refine v_iconst (v := 0) dX4_spansCross_53 (by decide) ?_
      exact v_zret dX4_spansCross_54 rfl rfl rfl (by decide) (by decide)
    · refine v_iload dX4_spansCross_42 2 rfl ?_
      refine v_iload dX4_spansCross_44 0 rfl ?_
      refine v_icmp_ge (tgt := 53) dX4_spansCross_46 (by decide) ?_ ?_
      · refine v_iconst (v := 0) dX4_spansCross_53 (by decide) ?_
        exact v_zret dX4_spansCross_54 rfl rfl rfl (by decide) (by decide)
      · refine v_iconst (v := 1) dX4_spansCross_49 (by decide) ?_
        refine v_goto (tgt := 54) dX4_spansCross_50 (by decide) ?_
        exact v_zret dX4_spansCross_54 rfl rfl rfl (by decide) (by decide)
theorem S_X4_spansCross {g : GC} (hl : g.1.stackTraces = false) {x0 : Int32} {x1 : Int32} {x2 : Int32} {x3 : Int32} {w : XW} : ∀ q, f_X4_spansCross x0 x1 x2 x3 w = some q → MM g (.code yX4_spansCross cX4_spansCross 8 (some .boolean)) yX4_spansCross (rmL 3 0 0) 0 0 [.int x0, .int x1, .int x2, .int x3] w (oI q) := fun q hq => MM_of (own := RX4) hl (by decide) gw_423 rfl (Nat.le_of_ble_eq_true rfl) (W_X4_spansCross hl q hq) ⟨rfl, rfl⟩

theorem dX4_creaseCrossedAt_0 : decode cX4_creaseCrossedAt 0 = .ok (.aload_n 0, 1) := by decide +kernel
theorem dX4_creaseCrossedAt_1 : decode cX4_creaseCrossedAt 1 = .ok (.getfield 15, 3) := by decide +kernel
theorem dX4_creaseCrossedAt_4 : decode cX4_creaseCrossedAt 4 = .ok (.iconst 1, 1) := by decide +kernel
theorem dX4_creaseCrossedAt_5 : decode cX4_creaseCrossedAt 5 = .ok (.isub, 1) := by decide +kernel
theorem dX4_creaseCrossedAt_6 : decode cX4_creaseCrossedAt 6 = .ok (.istore_n 2, 1) := by decide +kernel
theorem dX4_creaseCrossedAt_7 : decode cX4_creaseCrossedAt 7 = .ok (.iload_n 2, 1) := by decide +kernel
theorem dX4_creaseCrossedAt_8 : decode cX4_creaseCrossedAt 8 = .ok (.ifCond .ge 5, 3) := by decide +kernel
theorem dX4_creaseCrossedAt_11 : decode cX4_creaseCrossedAt 11 = .ok (.iconst (-1), 1) := by decide +kernel
theorem dX4_creaseCrossedAt_12 : decode cX4_creaseCrossedAt 12 = .ok (.ireturn, 1) := by decide +kernel
theorem dX4_creaseCrossedAt_13 : decode cX4_creaseCrossedAt 13 = .ok (.aload_n 0, 1) := by decide +kernel
theorem dX4_creaseCrossedAt_14 : decode cX4_creaseCrossedAt 14 = .ok (.iload_n 2, 1) := by decide +kernel
theorem dX4_creaseCrossedAt_15 : decode cX4_creaseCrossedAt 15 = .ok (.iload_n 1, 1) := by decide +kernel
theorem dX4_creaseCrossedAt_16 : decode cX4_creaseCrossedAt 16 = .ok (.invokevirtual 38, 3) := by decide +kernel
theorem dX4_creaseCrossedAt_19 : decode cX4_creaseCrossedAt 19 = .ok (.istore_n 3, 1) := by decide +kernel
theorem dX4_creaseCrossedAt_20 : decode cX4_creaseCrossedAt 20 = .ok (.iload_n 2, 1) := by decide +kernel
theorem dX4_creaseCrossedAt_21 : decode cX4_creaseCrossedAt 21 = .ok (.iconst 2, 1) := by decide +kernel
theorem dX4_creaseCrossedAt_22 : decode cX4_creaseCrossedAt 22 = .ok (.irem, 1) := by decide +kernel
theorem dX4_creaseCrossedAt_23 : decode cX4_creaseCrossedAt 23 = .ok (.istore 4, 2) := by decide +kernel
theorem dX4_creaseCrossedAt_25 : decode cX4_creaseCrossedAt 25 = .ok (.iload 4, 2) := by decide +kernel
theorem dX4_creaseCrossedAt_27 : decode cX4_creaseCrossedAt 27 = .ok (.iload_n 2, 1) := by decide +kernel
theorem dX4_creaseCrossedAt_28 : decode cX4_creaseCrossedAt 28 = .ok (.if_icmp .ge 44, 3) := by decide +kernel
theorem dX4_creaseCrossedAt_31 : decode cX4_creaseCrossedAt 31 = .ok (.aload_n 0, 1) := by decide +kernel
theorem dX4_creaseCrossedAt_32 : decode cX4_creaseCrossedAt 32 = .ok (.iload 4, 2) := by decide +kernel
theorem dX4_creaseCrossedAt_34 : decode cX4_creaseCrossedAt 34 = .ok (.iload_n 1, 1) := by decide +kernel
theorem dX4_creaseCrossedAt_35 : decode cX4_creaseCrossedAt 35 = .ok (.invokevirtual 38, 3) := by decide +kernel
theorem dX4_creaseCrossedAt_38 : decode cX4_creaseCrossedAt 38 = .ok (.istore 5, 2) := by decide +kernel
theorem dX4_creaseCrossedAt_40 : decode cX4_creaseCrossedAt 40 = .ok (.aload_n 0, 1) := by decide +kernel
theorem dX4_creaseCrossedAt_41 : decode cX4_creaseCrossedAt 41 = .ok (.iload 4, 2) := by decide +kernel
theorem dX4_creaseCrossedAt_43 : decode cX4_creaseCrossedAt 43 = .ok (.iconst 1, 1) := by decide +kernel
theorem dX4_creaseCrossedAt_44 : decode cX4_creaseCrossedAt 44 = .ok (.iadd, 1) := by decide +kernel
theorem dX4_creaseCrossedAt_45 : decode cX4_creaseCrossedAt 45 = .ok (.iload_n 1, 1) := by decide +kernel
theorem dX4_creaseCrossedAt_46 : decode cX4_creaseCrossedAt 46 = .ok (.invokevirtual 38, 3) := by decide +kernel
theorem dX4_creaseCrossedAt_49 : decode cX4_creaseCrossedAt 49 = .ok (.istore 6, 2) := by decide +kernel
theorem dX4_creaseCrossedAt_51 : decode cX4_creaseCrossedAt 51 = .ok (.iload_n 3, 1) := by decide +kernel
theorem dX4_creaseCrossedAt_52 : decode cX4_creaseCrossedAt 52 = .ok (.iload_n 1, 1) := by decide +kernel
theorem dX4_creaseCrossedAt_53 : decode cX4_creaseCrossedAt 53 = .ok (.iload 5, 2) := by decide +kernel
theorem dX4_creaseCrossedAt_55 : decode cX4_creaseCrossedAt 55 = .ok (.iload 6, 2) := by decide +kernel
theorem dX4_creaseCrossedAt_57 : decode cX4_creaseCrossedAt 57 = .ok (.invokestatic 41, 3) := by decide +kernel
theorem dX4_creaseCrossedAt_60 : decode cX4_creaseCrossedAt 60 = .ok (.ifCond .eq 6, 3) := by decide +kernel
theorem dX4_creaseCrossedAt_63 : decode cX4_creaseCrossedAt 63 = .ok (.iload 4, 2) := by decide +kernel
theorem dX4_creaseCrossedAt_65 : decode cX4_creaseCrossedAt 65 = .ok (.ireturn, 1) := by decide +kernel
theorem dX4_creaseCrossedAt_66 : decode cX4_creaseCrossedAt 66 = .ok (.iinc 4 2, 3) := by decide +kernel
theorem dX4_creaseCrossedAt_69 : decode cX4_creaseCrossedAt 69 = .ok (.goto (-44), 3) := by decide +kernel
theorem dX4_creaseCrossedAt_72 : decode cX4_creaseCrossedAt 72 = .ok (.iconst (-1), 1) := by decide +kernel
theorem dX4_creaseCrossedAt_73 : decode cX4_creaseCrossedAt 73 = .ok (.ireturn, 1) := by decide +kernel
def f_X4_creaseCrossedAt_25 (k : Nat) (y1 : Int32) (y2 : Int32) (y3 : Int32) : Nat → Int32 → XW → Option (Int32 × XW)
  | 0, _, _ => none
  | n + 1, z4, w => (if y2 ≤ z4 then (some ((-1), w)) else (bI (f_X4_layerAfterInsert k z4 y1 w) (fun r2 w2 => (bI (f_X4_layerAfterInsert k (z4 + 1) y1 w2) (fun r3 w3 => (bI (f_X4_spansCross y3 y1 r2 r3 w3) (fun r4 w4 => (if r4 = 0 then (f_X4_creaseCrossedAt_25 k y1 y2 y3 n (z4 + 2) w4) else (some (z4, w4))))))))))
set_option maxRecDepth 100000 in
theorem S_X4_creaseCrossedAt_25 {g : GC} (hl : g.1.stackTraces = false) {k : Nat} (hk : isX4 k) {y1 : Int32} {y2 : Int32} {y3 : Int32} : ∀ (n : Nat) (z4 : Int32) (w : XW), VE g cX4_creaseCrossedAt 7 RX4 (some .int) [] (rmL 5 0 0) 0 0 oI 0 0 25 [(0, .ref (g.2.1 + k)), (1, .int y1), (2, .int y2), (3, .int y3), (4, .int z4)] [] w (f_X4_creaseCrossedAt_25 k y1 y2 y3 n z4 w) := by
  intro n
  induction n with
  | zero => intro z4 w; exact v_none
  | succ n ih =>
    intro z4 w
    rw [f_X4_creaseCrossedAt_25]
    refine v_iload dX4_creaseCrossedAt_25 4 rfl ?_
    refine v_iload_n dX4_creaseCrossedAt_27 rfl 2 rfl ?_
    refine v_icmp_ge (tgt := 72) dX4_creaseCrossedAt_28 (by decide) ?_ ?_
    · refine v_iconst (v := (-1)) dX4_creaseCrossedAt_72 (by decide) ?_
      exact v_iret dX4_creaseCrossedAt_73 rfl rfl (by decide) (by decide)
    · refine v_aload_n dX4_creaseCrossedAt_31 rfl 0 rfl ?_
      refine v_iload dX4_creaseCrossedAt_32 4 rfl ?_
      refine v_iload_n dX4_creaseCrossedAt_34 rfl 1 rfl ?_
      refine v_callVi (As := [.int z4, .int y1]) cv_X4_38 (S_X4_layerAfterInsert hl hk) hk.1 rfl rfl rfl (Nat.le_of_ble_eq_true rfl) dX4_creaseCrossedAt_35 (CR_rm (by decide) (by decide) (by decide) (by decide)) (fun r2 w2 => ?_)
      refine v_istore dX4_creaseCrossedAt_38 (Nat.le_of_ble_eq_true rfl) rfl ?_
      refine v_aload_n dX4_creaseCrossedAt_40 rfl 1 rfl ?_
      refine v_iload dX4_creaseCrossedAt_41 5 rfl ?_
      refine v_iconst (v := 1) dX4_creaseCrossedAt_43 (by decide) ?_
      refine v_iadd dX4_creaseCrossedAt_44 ?_
      refine v_iload_n dX4_creaseCrossedAt_45 rfl 2 rfl ?_
      refine v_callVi (As := [.int (z4 + 1), .int y1]) cv_X4_38 (S_X4_layerAfterInsert hl hk) hk.1 rfl rfl rfl (Nat.le_of_ble_eq_true rfl) dX4_creaseCrossedAt_46 (CR_rm (by decide) (by decide) (by decide) (by decide)) (fun r3 w3 => ?_)
      refine v_istore dX4_creaseCrossedAt_49 (Nat.le_of_ble_eq_true rfl) rfl ?_
      refine v_iload_n dX4_creaseCrossedAt_51 rfl 5 rfl ?_
      refine v_iload_n dX4_creaseCrossedAt_52 rfl 3 rfl ?_
      refine v_iload dX4_creaseCrossedAt_53 1 rfl ?_
      refine v_iload dX4_creaseCrossedAt_55 0 rfl ?_
      refine v_callSi (As := [.int y3, .int y1, .int r2, .int r3]) cs_X4_41 (S_X4_spansCross hl) rfl rfl (Nat.le_of_ble_eq_true rfl) dX4_creaseCrossedAt_57 (CR_rm (by decide) (by decide) (by decide) (by decide)) (fun r4 w4 => ?_)
      refine v_if_eq (tgt := 66) dX4_creaseCrossedAt_60 (by decide) ?_ ?_
      · refine v_iinc (v := (z4 + 2)) dX4_creaseCrossedAt_66 (q := 6) rfl rfl (Nat.le_of_ble_eq_true rfl) rfl ?_
        refine v_goto (tgt := 25) dX4_creaseCrossedAt_69 (by decide) ?_
        refine v_sub [3, 4, 5, 6, 0] rfl ?_
        exact ih _ _
      · refine v_iload dX4_creaseCrossedAt_63 6 rfl ?_
        exact v_iret dX4_creaseCrossedAt_65 rfl rfl (by decide) (by decide)
def f_X4_creaseCrossedAt (k : Nat) (x1 : Int32) (w : XW) : Option (Int32 × XW) := (if 0 ≤ ((w.1 k 0) - 1) then (bI (f_X4_layerAfterInsert k ((w.1 k 0) - 1) x1 w) (fun r1 w1 => (f_X4_creaseCrossedAt_25 k x1 ((w.1 k 0) - 1) r1 1000 (((w.1 k 0) - 1) - ((w.1 k 0) - 1) / 2 * 2) w1))) else (some ((-1), w)))
set_option maxRecDepth 100000 in
theorem W_X4_creaseCrossedAt {g : GC} (hl : g.1.stackTraces = false) {k : Nat} (hk : isX4 k) {x1 : Int32} {w : XW} : VE g cX4_creaseCrossedAt 7 RX4 (some .int) [] (rmL 5 0 0) 0 0 oI 0 0 0 [(0, .ref (g.2.1 + k)), (1, .int x1)] [] w (f_X4_creaseCrossedAt k x1 w) := by
  unfold f_X4_creaseCrossedAt
  refine v_aload_n dX4_creaseCrossedAt_0 rfl 0 rfl ?_
  refine v_getI fl_X4_15 hk.1 rfl dX4_creaseCrossedAt_1 ?_
  refine v_iconst (v := 1) dX4_creaseCrossedAt_4 (by decide) ?_
  refine v_isub dX4_creaseCrossedAt_5 ?_
  refine v_istore_n dX4_creaseCrossedAt_6 rfl (Nat.le_of_ble_eq_true rfl) rfl ?_
  refine v_iload_n dX4_creaseCrossedAt_7 rfl 0 rfl ?_
  refine v_if_ge (tgt := 13) dX4_creaseCrossedAt_8 (by decide) ?_ ?_
  · refine v_aload_n dX4_creaseCrossedAt_13 rfl 1 rfl ?_
    refine v_iload_n dX4_creaseCrossedAt_14 rfl 0 rfl ?_
    refine v_iload_n dX4_creaseCrossedAt_15 rfl 2 rfl ?_
    refine v_callVi (As := [.int ((w.1 k 0) - 1), .int x1]) cv_X4_38 (S_X4_layerAfterInsert hl hk) hk.1 rfl rfl rfl (Nat.le_of_ble_eq_true rfl) dX4_creaseCrossedAt_16 (CR_rm (by decide) (by decide) (by decide) (by decide)) (fun r1 w1 => ?_)
    refine v_istore_n dX4_creaseCrossedAt_19 rfl (Nat.le_of_ble_eq_true rfl) rfl ?_
    refine v_iload_n dX4_creaseCrossedAt_20 rfl 1 rfl ?_
    refine v_iconst (v := 2) dX4_creaseCrossedAt_21 (by decide) ?_
    refine v_irem dX4_creaseCrossedAt_22 (by decide) ?_
    refine v_istore dX4_creaseCrossedAt_23 (Nat.le_of_ble_eq_true rfl) rfl ?_
    refine v_sub [3, 4, 2, 1, 0] rfl ?_
    exact S_X4_creaseCrossedAt_25 hl hk  _ _ _
  · refine v_iconst (v := (-1)) dX4_creaseCrossedAt_11 (by decide) ?_
    exact v_iret dX4_creaseCrossedAt_12 rfl rfl (by decide) (by decide)
theorem S_X4_creaseCrossedAt {g : GC} (hl : g.1.stackTraces = false) {k : Nat} (hk : isX4 k) {x1 : Int32} {w : XW} : ∀ q, f_X4_creaseCrossedAt k x1 w = some q → MM g (.code yX4_creaseCrossedAt cX4_creaseCrossedAt 7 (some .int)) yX4_creaseCrossedAt (rmL 5 0 0) 0 0 [.ref (g.2.1 + k), .int x1] w (oI q) := fun q hq => MM_of (own := RX4) hl (by decide) gw_412 rfl (Nat.le_of_ble_eq_true rfl) (W_X4_creaseCrossedAt hl hk q hq) ⟨rfl, rfl⟩

theorem dX4_insert_0 : decode cX4_insert 0 = .ok (.aload_n 0, 1) := by decide +kernel
theorem dX4_insert_1 : decode cX4_insert 1 = .ok (.getfield 15, 3) := by decide +kernel
theorem dX4_insert_4 : decode cX4_insert 4 = .ok (.bipush 7, 2) := by decide +kernel
theorem dX4_insert_6 : decode cX4_insert 6 = .ok (.if_icmp .lt 8, 3) := by decide +kernel
theorem dX4_insert_9 : decode cX4_insert 9 = .ok (.aload_n 0, 1) := by decide +kernel
theorem dX4_insert_10 : decode cX4_insert 10 = .ok (.getfield 15, 3) := by decide +kernel
theorem dX4_insert_13 : decode cX4_insert 13 = .ok (.ireturn, 1) := by decide +kernel
theorem dX4_insert_14 : decode cX4_insert 14 = .ok (.iconst 0, 1) := by decide +kernel
theorem dX4_insert_15 : decode cX4_insert 15 = .ok (.istore_n 2, 1) := by decide +kernel
theorem dX4_insert_16 : decode cX4_insert 16 = .ok (.iload_n 2, 1) := by decide +kernel
theorem dX4_insert_17 : decode cX4_insert 17 = .ok (.aload_n 0, 1) := by decide +kernel
theorem dX4_insert_18 : decode cX4_insert 18 = .ok (.getfield 15, 3) := by decide +kernel
theorem dX4_insert_21 : decode cX4_insert 21 = .ok (.if_icmp .ge 21, 3) := by decide +kernel
theorem dX4_insert_24 : decode cX4_insert 24 = .ok (.aload_n 0, 1) := by decide +kernel
theorem dX4_insert_25 : decode cX4_insert 25 = .ok (.getfield 9, 3) := by decide +kernel
theorem dX4_insert_28 : decode cX4_insert 28 = .ok (.iload_n 2, 1) := by decide +kernel
theorem dX4_insert_29 : decode cX4_insert 29 = .ok (.aload_n 0, 1) := by decide +kernel
theorem dX4_insert_30 : decode cX4_insert 30 = .ok (.iload_n 2, 1) := by decide +kernel
theorem dX4_insert_31 : decode cX4_insert 31 = .ok (.iload_n 1, 1) := by decide +kernel
theorem dX4_insert_32 : decode cX4_insert 32 = .ok (.invokevirtual 38, 3) := by decide +kernel
theorem dX4_insert_35 : decode cX4_insert 35 = .ok (.iastore, 1) := by decide +kernel
theorem dX4_insert_36 : decode cX4_insert 36 = .ok (.iinc 2 1, 3) := by decide +kernel
theorem dX4_insert_39 : decode cX4_insert 39 = .ok (.goto (-23), 3) := by decide +kernel
theorem dX4_insert_42 : decode cX4_insert 42 = .ok (.aload_n 0, 1) := by decide +kernel
theorem dX4_insert_43 : decode cX4_insert 43 = .ok (.getfield 9, 3) := by decide +kernel
theorem dX4_insert_46 : decode cX4_insert 46 = .ok (.aload_n 0, 1) := by decide +kernel
theorem dX4_insert_47 : decode cX4_insert 47 = .ok (.getfield 15, 3) := by decide +kernel
theorem dX4_insert_50 : decode cX4_insert 50 = .ok (.iload_n 1, 1) := by decide +kernel
theorem dX4_insert_51 : decode cX4_insert 51 = .ok (.iastore, 1) := by decide +kernel
theorem dX4_insert_52 : decode cX4_insert 52 = .ok (.aload_n 0, 1) := by decide +kernel
theorem dX4_insert_53 : decode cX4_insert 53 = .ok (.dup, 1) := by decide +kernel
theorem dX4_insert_54 : decode cX4_insert 54 = .ok (.getfield 15, 3) := by decide +kernel
theorem dX4_insert_57 : decode cX4_insert 57 = .ok (.iconst 1, 1) := by decide +kernel
theorem dX4_insert_58 : decode cX4_insert 58 = .ok (.iadd, 1) := by decide +kernel
theorem dX4_insert_59 : decode cX4_insert 59 = .ok (.putfield 15, 3) := by decide +kernel
theorem dX4_insert_62 : decode cX4_insert 62 = .ok (.aload_n 0, 1) := by decide +kernel
theorem dX4_insert_63 : decode cX4_insert 63 = .ok (.getfield 15, 3) := by decide +kernel
theorem dX4_insert_66 : decode cX4_insert 66 = .ok (.ireturn, 1) := by decide +kernel
def f_X4_insert_16 (k : Nat) (y1 : Int32) : Nat → Int32 → XW → Option (Int32 × XW)
  | 0, _, _ => none
  | n + 1, z2, w => (if (w.1 k 0) ≤ z2 then (if inB (w.1 k 0) 7 then (some (((wset (wset w (k + 1) (Int32.toNatClampNeg (w.1 k 0)) y1) k 0 (((wset w (k + 1) (Int32.toNatClampNeg (w.1 k 0)) y1).1 k 0) + 1)).1 k 0), (wset (wset w (k + 1) (Int32.toNatClampNeg (w.1 k 0)) y1) k 0 (((wset w (k + 1) (Int32.toNatClampNeg (w.1 k 0)) y1).1 k 0) + 1)))) else none) else (bI (f_X4_layerAfterInsert k z2 y1 w) (fun r2 w2 => (if inB z2 7 then (f_X4_insert_16 k y1 n (z2 + 1) (wset w2 (k + 1) (Int32.toNatClampNeg z2) r2)) else none))))
set_option maxRecDepth 100000 in
theorem S_X4_insert_16 {g : GC} (hl : g.1.stackTraces = false) {k : Nat} (hk : isX4 k) {y1 : Int32} : ∀ (n : Nat) (z2 : Int32) (w : XW), VE g cX4_insert 3 RX4 (some .int) [] (rmL 5 0 0) 0 0 oI 0 0 16 [(0, .ref (g.2.1 + k)), (1, .int y1), (2, .int z2)] [] w (f_X4_insert_16 k y1 n z2 w) := by
  intro n
  induction n with
  | zero => intro z2 w; exact v_none
  | succ n ih =>
    intro z2 w
    rw [f_X4_insert_16]
    refine v_iload_n dX4_insert_16 rfl 2 rfl ?_
    refine v_aload_n dX4_insert_17 rfl 0 rfl ?_
    refine v_getI fl_X4_15 hk.1 rfl dX4_insert_18 ?_
    refine v_icmp_ge (tgt := 42) dX4_insert_21 (by decide) ?_ ?_
    · refine v_aload_n dX4_insert_42 rfl 0 rfl ?_
      refine v_getR fl_X4_9 hk.1 rfl dX4_insert_43 ?_
      refine v_aload_n dX4_insert_46 rfl 0 rfl ?_
      refine v_getI fl_X4_15 hk.1 rfl dX4_insert_47 ?_
      refine v_iload_n dX4_insert_50 rfl 1 rfl ?_
      refine v_guard (fun h1 => ?_)
      refine v_iast hk.2 h1 dX4_insert_51 ?_
      refine v_aload_n dX4_insert_52 rfl 0 rfl ?_
      refine v_dup dX4_insert_53 rfl ?_
      refine v_getI fl_X4_15 hk.1 rfl dX4_insert_54 ?_
      refine v_iconst (v := 1) dX4_insert_57 (by decide) ?_
      refine v_iadd dX4_insert_58 ?_
      refine v_putI fl_X4_15 hk.1 rfl (ty0 := .int) rfl rfl rfl dX4_insert_59 ?_
      refine v_aload_n dX4_insert_62 rfl 0 rfl ?_
      refine v_getI fl_X4_15 hk.1 rfl dX4_insert_63 ?_
      exact v_iret dX4_insert_66 rfl rfl (by decide) (by decide)
    · refine v_aload_n dX4_insert_24 rfl 0 rfl ?_
      refine v_getR fl_X4_9 hk.1 rfl dX4_insert_25 ?_
      refine v_iload_n dX4_insert_28 rfl 2 rfl ?_
      refine v_aload_n dX4_insert_29 rfl 0 rfl ?_
      refine v_iload_n dX4_insert_30 rfl 2 rfl ?_
      refine v_iload_n dX4_insert_31 rfl 1 rfl ?_
      refine v_callVi (As := [.int z2, .int y1]) cv_X4_38 (S_X4_layerAfterInsert hl hk) hk.1 rfl rfl rfl (Nat.le_of_ble_eq_true rfl) dX4_insert_32 (CR_rm (by decide) (by decide) (by decide) (by decide)) (fun r2 w2 => ?_)
      refine v_guard (fun h3 => ?_)
      refine v_iast hk.2 h3 dX4_insert_35 ?_
      refine v_iinc (v := (z2 + 1)) dX4_insert_36 (q := 2) rfl rfl (Nat.le_of_ble_eq_true rfl) rfl ?_
      refine v_goto (tgt := 16) dX4_insert_39 (by decide) ?_
      refine v_sub [1, 2, 0] rfl ?_
      exact ih _ _
def f_X4_insert (k : Nat) (x1 : Int32) (w : XW) : Option (Int32 × XW) := (if (w.1 k 0) < 7 then (f_X4_insert_16 k x1 1000 0 w) else (some ((w.1 k 0), w)))
set_option maxRecDepth 100000 in
theorem W_X4_insert {g : GC} (hl : g.1.stackTraces = false) {k : Nat} (hk : isX4 k) {x1 : Int32} {w : XW} : VE g cX4_insert 3 RX4 (some .int) [] (rmL 5 0 0) 0 0 oI 0 0 0 [(0, .ref (g.2.1 + k)), (1, .int x1)] [] w (f_X4_insert k x1 w) := by
  unfold f_X4_insert
  refine v_aload_n dX4_insert_0 rfl 0 rfl ?_
  refine v_getI fl_X4_15 hk.1 rfl dX4_insert_1 ?_
  refine v_bipush (v := 7) dX4_insert_4 (by decide) ?_
  refine v_icmp_lt (tgt := 14) dX4_insert_6 (by decide) ?_ ?_
  · refine v_iconst (v := 0) dX4_insert_14 (by decide) ?_
    refine v_istore_n dX4_insert_15 rfl (Nat.le_of_ble_eq_true rfl) rfl ?_
    refine v_sub [1, 2, 0] rfl ?_
    exact S_X4_insert_16 hl hk  _ _ _
  · refine v_aload_n dX4_insert_9 rfl 0 rfl ?_
    refine v_getI fl_X4_15 hk.1 rfl dX4_insert_10 ?_
    exact v_iret dX4_insert_13 rfl rfl (by decide) (by decide)
theorem S_X4_insert {g : GC} (hl : g.1.stackTraces = false) {k : Nat} (hk : isX4 k) {x1 : Int32} {w : XW} : ∀ q, f_X4_insert k x1 w = some q → MM g (.code yX4_insert cX4_insert 3 (some .int)) yX4_insert (rmL 5 0 0) 0 0 [.ref (g.2.1 + k), .int x1] w (oI q) := fun q hq => MM_of (own := RX4) hl (by decide) gw_429 rfl (Nat.le_of_ble_eq_true rfl) (W_X4_insert hl hk q hq) ⟨rfl, rfl⟩

theorem dX4_removeLast_0 : decode cX4_removeLast 0 = .ok (.aload_n 0, 1) := by decide +kernel
theorem dX4_removeLast_1 : decode cX4_removeLast 1 = .ok (.getfield 15, 3) := by decide +kernel
theorem dX4_removeLast_4 : decode cX4_removeLast 4 = .ok (.ifCond .gt 5, 3) := by decide +kernel
theorem dX4_removeLast_7 : decode cX4_removeLast 7 = .ok (.iconst (-1), 1) := by decide +kernel
theorem dX4_removeLast_8 : decode cX4_removeLast 8 = .ok (.ireturn, 1) := by decide +kernel
theorem dX4_removeLast_9 : decode cX4_removeLast 9 = .ok (.aload_n 0, 1) := by decide +kernel
theorem dX4_removeLast_10 : decode cX4_removeLast 10 = .ok (.dup, 1) := by decide +kernel
theorem dX4_removeLast_11 : decode cX4_removeLast 11 = .ok (.getfield 15, 3) := by decide +kernel
theorem dX4_removeLast_14 : decode cX4_removeLast 14 = .ok (.iconst 1, 1) := by decide +kernel
theorem dX4_removeLast_15 : decode cX4_removeLast 15 = .ok (.isub, 1) := by decide +kernel
theorem dX4_removeLast_16 : decode cX4_removeLast 16 = .ok (.putfield 15, 3) := by decide +kernel
theorem dX4_removeLast_19 : decode cX4_removeLast 19 = .ok (.aload_n 0, 1) := by decide +kernel
theorem dX4_removeLast_20 : decode cX4_removeLast 20 = .ok (.getfield 9, 3) := by decide +kernel
theorem dX4_removeLast_23 : decode cX4_removeLast 23 = .ok (.aload_n 0, 1) := by decide +kernel
theorem dX4_removeLast_24 : decode cX4_removeLast 24 = .ok (.getfield 15, 3) := by decide +kernel
theorem dX4_removeLast_27 : decode cX4_removeLast 27 = .ok (.iaload, 1) := by decide +kernel
theorem dX4_removeLast_28 : decode cX4_removeLast 28 = .ok (.istore_n 1, 1) := by decide +kernel
theorem dX4_removeLast_29 : decode cX4_removeLast 29 = .ok (.iconst 0, 1) := by decide +kernel
theorem dX4_removeLast_30 : decode cX4_removeLast 30 = .ok (.istore_n 2, 1) := by decide +kernel
theorem dX4_removeLast_31 : decode cX4_removeLast 31 = .ok (.iload_n 2, 1) := by decide +kernel
theorem dX4_removeLast_32 : decode cX4_removeLast 32 = .ok (.aload_n 0, 1) := by decide +kernel
theorem dX4_removeLast_33 : decode cX4_removeLast 33 = .ok (.getfield 15, 3) := by decide +kernel
theorem dX4_removeLast_36 : decode cX4_removeLast 36 = .ok (.if_icmp .ge 29, 3) := by decide +kernel
theorem dX4_removeLast_39 : decode cX4_removeLast 39 = .ok (.aload_n 0, 1) := by decide +kernel
theorem dX4_removeLast_40 : decode cX4_removeLast 40 = .ok (.getfield 9, 3) := by decide +kernel
theorem dX4_removeLast_43 : decode cX4_removeLast 43 = .ok (.iload_n 2, 1) := by decide +kernel
theorem dX4_removeLast_44 : decode cX4_removeLast 44 = .ok (.iaload, 1) := by decide +kernel
theorem dX4_removeLast_45 : decode cX4_removeLast 45 = .ok (.iload_n 1, 1) := by decide +kernel
theorem dX4_removeLast_46 : decode cX4_removeLast 46 = .ok (.if_icmp .le 13, 3) := by decide +kernel
theorem dX4_removeLast_49 : decode cX4_removeLast 49 = .ok (.aload_n 0, 1) := by decide +kernel
theorem dX4_removeLast_50 : decode cX4_removeLast 50 = .ok (.getfield 9, 3) := by decide +kernel
theorem dX4_removeLast_53 : decode cX4_removeLast 53 = .ok (.iload_n 2, 1) := by decide +kernel
theorem dX4_removeLast_54 : decode cX4_removeLast 54 = .ok (.dup2, 1) := by decide +kernel
theorem dX4_removeLast_55 : decode cX4_removeLast 55 = .ok (.iaload, 1) := by decide +kernel
theorem dX4_removeLast_56 : decode cX4_removeLast 56 = .ok (.iconst 1, 1) := by decide +kernel
theorem dX4_removeLast_57 : decode cX4_removeLast 57 = .ok (.isub, 1) := by decide +kernel
theorem dX4_removeLast_58 : decode cX4_removeLast 58 = .ok (.iastore, 1) := by decide +kernel
theorem dX4_removeLast_59 : decode cX4_removeLast 59 = .ok (.iinc 2 1, 3) := by decide +kernel
theorem dX4_removeLast_62 : decode cX4_removeLast 62 = .ok (.goto (-31), 3) := by decide +kernel
theorem dX4_removeLast_65 : decode cX4_removeLast 65 = .ok (.iload_n 1, 1) := by decide +kernel
theorem dX4_removeLast_66 : decode cX4_removeLast 66 = .ok (.ireturn, 1) := by decide +kernel
def f_X4_removeLast_31 (k : Nat) (y1 : Int32) : Nat → Int32 → XW → Option (Int32 × XW)
  | 0, _, _ => none
  | n + 1, z2, w => (if (w.1 k 0) ≤ z2 then (some (y1, w)) else (if inB z2 7 then (if (w.1 (k + 1) (Int32.toNatClampNeg z2)) ≤ y1 then (f_X4_removeLast_31 k y1 n (z2 + 1) w) else (if inB z2 7 then (if inB z2 7 then (f_X4_removeLast_31 k y1 n (z2 + 1) (wset w (k + 1) (Int32.toNatClampNeg z2) ((w.1 (k + 1) (Int32.toNatClampNeg z2)) - 1))) else none) else none)) else none))
set_option maxRecDepth 100000 in
theorem S_X4_removeLast_31 {g : GC} (hl : g.1.stackTraces = false) {k : Nat} (hk : isX4 k) {y1 : Int32} : ∀ (n : Nat) (z2 : Int32) (w : XW), VE g cX4_removeLast 3 RX4 (some .int) [] (rmL 3 0 0) 0 0 oI 0 0 31 [(0, .ref (g.2.1 + k)), (1, .int y1), (2, .int z2)] [] w (f_X4_removeLast_31 k y1 n z2 w) := by
  intro n
  induction n with
  | zero => intro z2 w; exact v_none
  | succ n ih =>
    intro z2 w
    rw [f_X4_removeLast_31]
    refine v_iload_n dX4_removeLast_31 rfl 2 rfl ?_
    refine v_aload_n dX4_removeLast_32 rfl 0 rfl ?_
    refine v_getI fl_X4_15 hk.1 rfl dX4_removeLast_33 ?_
    refine v_icmp_ge (tgt := 65) dX4_removeLast_36 (by decide) ?_ ?_
    · refine v_iload_n dX4_removeLast_65 rfl 1 rfl ?_
      exact v_iret dX4_removeLast_66 rfl rfl (by decide) (by decide)
    · refine v_aload_n dX4_removeLast_39 rfl 0 rfl ?_
      refine v_getR fl_X4_9 hk.1 rfl dX4_removeLast_40 ?_
      refine v_iload_n dX4_removeLast_43 rfl 2 rfl ?_
      refine v_guard (fun h2 => ?_)
      refine v_iald hk.2 h2 dX4_removeLast_44 ?_
      refine v_iload_n dX4_removeLast_45 rfl 1 rfl ?_
      refine v_icmp_le (tgt := 59) dX4_removeLast_46 (by decide) ?_ ?_
      · refine v_iinc (v := (z2 + 1)) dX4_removeLast_59 (q := 2) rfl rfl (Nat.le_of_ble_eq_true rfl) rfl ?_
        refine v_goto (tgt := 31) dX4_removeLast_62 (by decide) ?_
        refine v_sub [1, 2, 0] rfl ?_
        exact ih _ _
      · refine v_aload_n dX4_removeLast_49 rfl 0 rfl ?_
        refine v_getR fl_X4_9 hk.1 rfl dX4_removeLast_50 ?_
        refine v_iload_n dX4_removeLast_53 rfl 2 rfl ?_
        refine v_dup2 dX4_removeLast_54 rfl rfl ?_
        refine v_guard (fun h3 => ?_)
        refine v_iald hk.2 h3 dX4_removeLast_55 ?_
        refine v_iconst (v := 1) dX4_removeLast_56 (by decide) ?_
        refine v_isub dX4_removeLast_57 ?_
        refine v_guard (fun h4 => ?_)
        refine v_iast hk.2 h4 dX4_removeLast_58 ?_
        refine v_iinc (v := (z2 + 1)) dX4_removeLast_59 (q := 2) rfl rfl (Nat.le_of_ble_eq_true rfl) rfl ?_
        refine v_goto (tgt := 31) dX4_removeLast_62 (by decide) ?_
        refine v_sub [1, 2, 0] rfl ?_
        exact ih _ _
def f_X4_removeLast (k : Nat) (w : XW) : Option (Int32 × XW) := (if 0 < (w.1 k 0) then (if inB ((wset w k 0 ((w.1 k 0) - 1)).1 k 0) 7 then (f_X4_removeLast_31 k ((wset w k 0 ((w.1 k 0) - 1)).1 (k + 1) (Int32.toNatClampNeg ((wset w k 0 ((w.1 k 0) - 1)).1 k 0))) 1000 0 (wset w k 0 ((w.1 k 0) - 1))) else none) else (some ((-1), w)))
set_option maxRecDepth 100000 in
theorem W_X4_removeLast {g : GC} (hl : g.1.stackTraces = false) {k : Nat} (hk : isX4 k) {w : XW} : VE g cX4_removeLast 3 RX4 (some .int) [] (rmL 3 0 0) 0 0 oI 0 0 0 [(0, .ref (g.2.1 + k))] [] w (f_X4_removeLast k w) := by
  unfold f_X4_removeLast
  refine v_aload_n dX4_removeLast_0 rfl 0 rfl ?_
  refine v_getI fl_X4_15 hk.1 rfl dX4_removeLast_1 ?_
  refine v_if_gt (tgt := 9) dX4_removeLast_4 (by decide) ?_ ?_
  · refine v_aload_n dX4_removeLast_9 rfl 0 rfl ?_
    refine v_dup dX4_removeLast_10 rfl ?_
    refine v_getI fl_X4_15 hk.1 rfl dX4_removeLast_11 ?_
    refine v_iconst (v := 1) dX4_removeLast_14 (by decide) ?_
    refine v_isub dX4_removeLast_15 ?_
    refine v_putI fl_X4_15 hk.1 rfl (ty0 := .int) rfl rfl rfl dX4_removeLast_16 ?_
    refine v_aload_n dX4_removeLast_19 rfl 0 rfl ?_
    refine v_getR fl_X4_9 hk.1 rfl dX4_removeLast_20 ?_
    refine v_aload_n dX4_removeLast_23 rfl 0 rfl ?_
    refine v_getI fl_X4_15 hk.1 rfl dX4_removeLast_24 ?_
    refine v_guard (fun h1 => ?_)
    refine v_iald hk.2 h1 dX4_removeLast_27 ?_
    refine v_istore_n dX4_removeLast_28 rfl (Nat.le_of_ble_eq_true rfl) rfl ?_
    refine v_iconst (v := 0) dX4_removeLast_29 (by decide) ?_
    refine v_istore_n dX4_removeLast_30 rfl (Nat.le_of_ble_eq_true rfl) rfl ?_
    refine v_sub [2, 1, 0] rfl ?_
    exact S_X4_removeLast_31 hl hk  _ _ _
  · refine v_iconst (v := (-1)) dX4_removeLast_7 (by decide) ?_
    exact v_iret dX4_removeLast_8 rfl rfl (by decide) (by decide)
theorem S_X4_removeLast {g : GC} (hl : g.1.stackTraces = false) {k : Nat} (hk : isX4 k) {w : XW} : ∀ q, f_X4_removeLast k w = some q → MM g (.code yX4_removeLast cX4_removeLast 3 (some .int)) yX4_removeLast (rmL 3 0 0) 0 0 [.ref (g.2.1 + k)] w (oI q) := fun q hq => MM_of (own := RX4) hl (by decide) gw_433 rfl (Nat.le_of_ble_eq_true rfl) (W_X4_removeLast hl hk q hq) ⟨rfl, rfl⟩

theorem dX4_sectionAt_0 : decode cX4_sectionAt 0 = .ok (.iconst 0, 1) := by decide +kernel
theorem dX4_sectionAt_1 : decode cX4_sectionAt 1 = .ok (.istore_n 2, 1) := by decide +kernel
theorem dX4_sectionAt_2 : decode cX4_sectionAt 2 = .ok (.iload_n 2, 1) := by decide +kernel
theorem dX4_sectionAt_3 : decode cX4_sectionAt 3 = .ok (.aload_n 0, 1) := by decide +kernel
theorem dX4_sectionAt_4 : decode cX4_sectionAt 4 = .ok (.getfield 15, 3) := by decide +kernel
theorem dX4_sectionAt_7 : decode cX4_sectionAt 7 = .ok (.if_icmp .ge 21, 3) := by decide +kernel
theorem dX4_sectionAt_10 : decode cX4_sectionAt 10 = .ok (.aload_n 0, 1) := by decide +kernel
theorem dX4_sectionAt_11 : decode cX4_sectionAt 11 = .ok (.getfield 9, 3) := by decide +kernel
theorem dX4_sectionAt_14 : decode cX4_sectionAt 14 = .ok (.iload_n 2, 1) := by decide +kernel
theorem dX4_sectionAt_15 : decode cX4_sectionAt 15 = .ok (.iaload, 1) := by decide +kernel
theorem dX4_sectionAt_16 : decode cX4_sectionAt 16 = .ok (.iload_n 1, 1) := by decide +kernel
theorem dX4_sectionAt_17 : decode cX4_sectionAt 17 = .ok (.if_icmp .ne 5, 3) := by decide +kernel
theorem dX4_sectionAt_20 : decode cX4_sectionAt 20 = .ok (.iload_n 2, 1) := by decide +kernel
theorem dX4_sectionAt_21 : decode cX4_sectionAt 21 = .ok (.ireturn, 1) := by decide +kernel
theorem dX4_sectionAt_22 : decode cX4_sectionAt 22 = .ok (.iinc 2 1, 3) := by decide +kernel
theorem dX4_sectionAt_25 : decode cX4_sectionAt 25 = .ok (.goto (-23), 3) := by decide +kernel
theorem dX4_sectionAt_28 : decode cX4_sectionAt 28 = .ok (.iconst (-1), 1) := by decide +kernel
theorem dX4_sectionAt_29 : decode cX4_sectionAt 29 = .ok (.ireturn, 1) := by decide +kernel
def f_X4_sectionAt_2 (k : Nat) (y1 : Int32) : Nat → Int32 → XW → Option (Int32 × XW)
  | 0, _, _ => none
  | n + 1, z2, w => (if (w.1 k 0) ≤ z2 then (some ((-1), w)) else (if inB z2 7 then (if (w.1 (k + 1) (Int32.toNatClampNeg z2)) = y1 then (some (z2, w)) else (f_X4_sectionAt_2 k y1 n (z2 + 1) w)) else none))
set_option maxRecDepth 100000 in
theorem S_X4_sectionAt_2 {g : GC} (hl : g.1.stackTraces = false) {k : Nat} (hk : isX4 k) {y1 : Int32} : ∀ (n : Nat) (z2 : Int32) (w : XW), VE g cX4_sectionAt 3 RX4 (some .int) [] (rmL 3 0 0) 0 0 oI 0 0 2 [(0, .ref (g.2.1 + k)), (1, .int y1), (2, .int z2)] [] w (f_X4_sectionAt_2 k y1 n z2 w) := by
  intro n
  induction n with
  | zero => intro z2 w; exact v_none
  | succ n ih =>
    intro z2 w
    rw [f_X4_sectionAt_2]
    refine v_iload_n dX4_sectionAt_2 rfl 2 rfl ?_
    refine v_aload_n dX4_sectionAt_3 rfl 0 rfl ?_
    refine v_getI fl_X4_15 hk.1 rfl dX4_sectionAt_4 ?_
    refine v_icmp_ge (tgt := 28) dX4_sectionAt_7 (by decide) ?_ ?_
    · refine v_iconst (v := (-1)) dX4_sectionAt_28 (by decide) ?_
      exact v_iret dX4_sectionAt_29 rfl rfl (by decide) (by decide)
    · refine v_aload_n dX4_sectionAt_10 rfl 0 rfl ?_
      refine v_getR fl_X4_9 hk.1 rfl dX4_sectionAt_11 ?_
      refine v_iload_n dX4_sectionAt_14 rfl 2 rfl ?_
      refine v_guard (fun h1 => ?_)
      refine v_iald hk.2 h1 dX4_sectionAt_15 ?_
      refine v_iload_n dX4_sectionAt_16 rfl 1 rfl ?_
      refine v_icmp_ne (tgt := 22) dX4_sectionAt_17 (by decide) ?_ ?_
      · refine v_iinc (v := (z2 + 1)) dX4_sectionAt_22 (q := 2) rfl rfl (Nat.le_of_ble_eq_true rfl) rfl ?_
        refine v_goto (tgt := 2) dX4_sectionAt_25 (by decide) ?_
        refine v_sub [1, 2, 0] rfl ?_
        exact ih _ _
      · refine v_iload_n dX4_sectionAt_20 rfl 2 rfl ?_
        exact v_iret dX4_sectionAt_21 rfl rfl (by decide) (by decide)
def f_X4_sectionAt (k : Nat) (x1 : Int32) (w : XW) : Option (Int32 × XW) := (f_X4_sectionAt_2 k x1 1000 0 w)
set_option maxRecDepth 100000 in
theorem W_X4_sectionAt {g : GC} (hl : g.1.stackTraces = false) {k : Nat} (hk : isX4 k) {x1 : Int32} {w : XW} : VE g cX4_sectionAt 3 RX4 (some .int) [] (rmL 3 0 0) 0 0 oI 0 0 0 [(0, .ref (g.2.1 + k)), (1, .int x1)] [] w (f_X4_sectionAt k x1 w) := by
  unfold f_X4_sectionAt
  refine v_iconst (v := 0) dX4_sectionAt_0 (by decide) ?_
  refine v_istore_n dX4_sectionAt_1 rfl (Nat.le_of_ble_eq_true rfl) rfl ?_
  refine v_sub [1, 2, 0] rfl ?_
  exact S_X4_sectionAt_2 hl hk  _ _ _
theorem S_X4_sectionAt {g : GC} (hl : g.1.stackTraces = false) {k : Nat} (hk : isX4 k) {x1 : Int32} {w : XW} : ∀ q, f_X4_sectionAt k x1 w = some q → MM g (.code yX4_sectionAt cX4_sectionAt 3 (some .int)) yX4_sectionAt (rmL 3 0 0) 0 0 [.ref (g.2.1 + k), .int x1] w (oI q) := fun q hq => MM_of (own := RX4) hl (by decide) gw_499 rfl (Nat.le_of_ble_eq_true rfl) (W_X4_sectionAt hl hk q hq) ⟨rfl, rfl⟩
end
section
theorem dX5_has_0 : decode cX5_has 0 = .ok (.iload_n 1, 1) := by decide +kernel
theorem dX5_has_1 : decode cX5_has 1 = .ok (.ifCond .lt 15, 3) := by decide +kernel
theorem dX5_has_4 : decode cX5_has 4 = .ok (.iload_n 1, 1) := by decide +kernel
theorem dX5_has_5 : decode cX5_has 5 = .ok (.aload_n 0, 1) := by decide +kernel
theorem dX5_has_6 : decode cX5_has 6 = .ok (.getfield 25, 3) := by decide +kernel
theorem dX5_has_9 : decode cX5_has 9 = .ok (.if_icmp .ge 7, 3) := by decide +kernel
theorem dX5_has_12 : decode cX5_has 12 = .ok (.iconst 1, 1) := by decide +kernel
theorem dX5_has_13 : decode cX5_has 13 = .ok (.goto 4, 3) := by decide +kernel
theorem dX5_has_16 : decode cX5_has 16 = .ok (.iconst 0, 1) := by decide +kernel
theorem dX5_has_17 : decode cX5_has 17 = .ok (.ireturn, 1) := by decide +kernel
def f_X5_has (k : Nat) (x1 : Int32) (w : XW) : Option (Int32 × XW) := (if x1 < 0 then (some (0, w)) else (if (w.1 k 0) ≤ x1 then (some (0, w)) else (some (1, w))))
set_option maxRecDepth 100000 in
theorem W_X5_has {g : GC} (hl : g.1.stackTraces = false) {k : Nat} (hk : isX5 k) {x1 : Int32} {w : XW} : VE g cX5_has 2 RX5 (some .boolean) [] (rmL 3 0 0) 0 0 oI 0 0 0 [(0, .ref (g.2.1 + k)), (1, .int x1)] [] w (f_X5_has k x1 w) := by
  unfold f_X5_has
  refine v_iload_n dX5_has_0 rfl 1 rfl ?_
  refine v_if_lt (tgt := 16) dX5_has_1 (by decide) ?_ ?_
  · refine v_iconst (v := 0) dX5_has_16 (by decide) ?_
    exact v_zret dX5_has_17 rfl rfl rfl (by decide) (by decide)
  · refine v_iload_n dX5_has_4 rfl 1 rfl ?_
    refine v_aload_n dX5_has_5 rfl 0 rfl ?_
    refine v_getI fl_X5_25 hk.1 rfl dX5_has_6 ?_
    refine v_icmp_ge (tgt := 16) dX5_has_9 (by decide) ?_ ?_
    · refine v_iconst (v := 0) dX5_has_16 (by decide) ?_
      exact v_zret dX5_has_17 rfl rfl rfl (by decide) (by decide)
    · refine v_iconst (v := 1) dX5_has_12 (by decide) ?_
      refine v_goto (tgt := 17) dX5_has_13 (by decide) ?_
      exact v_zret dX5_has_17 rfl rfl rfl (by decide) (by decide)
theorem S_X5_has {g : GC} (hl : g.1.stackTraces = false) {k : Nat} (hk : isX5 k) {x1 : Int32} {w : XW} : ∀ q, f_X5_has k x1 w = some q → MM g (.code yX5_has cX5_has 2 (some .boolean)) yX5_has (rmL 3 0 0) 0 0 [.ref (g.2.1 + k), .int x1] w (oI q) := fun q hq => MM_of (own := RX5) hl (by decide) gw_600 rfl (Nat.le_of_ble_eq_true rfl) (W_X5_has hl hk q hq) ⟨rfl, rfl⟩

theorem dX5_brokenAt_0 : decode cX5_brokenAt 0 = .ok (.aload_n 0, 1) := by decide +kernel
theorem dX5_brokenAt_1 : decode cX5_brokenAt 1 = .ok (.iload_n 1, 1) := by decide +kernel
theorem dX5_brokenAt_2 : decode cX5_brokenAt 2 = .ok (.invokevirtual 35, 3) := by decide +kernel
theorem dX5_brokenAt_5 : decode cX5_brokenAt 5 = .ok (.ifCond .eq 16, 3) := by decide +kernel
theorem dX5_brokenAt_8 : decode cX5_brokenAt 8 = .ok (.aload_n 0, 1) := by decide +kernel
theorem dX5_brokenAt_9 : decode cX5_brokenAt 9 = .ok (.getfield 21, 3) := by decide +kernel
theorem dX5_brokenAt_12 : decode cX5_brokenAt 12 = .ok (.iload_n 1, 1) := by decide +kernel
theorem dX5_brokenAt_13 : decode cX5_brokenAt 13 = .ok (.baload, 1) := by decide +kernel
theorem dX5_brokenAt_14 : decode cX5_brokenAt 14 = .ok (.ifCond .eq 7, 3) := by decide +kernel
theorem dX5_brokenAt_17 : decode cX5_brokenAt 17 = .ok (.iconst 1, 1) := by decide +kernel
theorem dX5_brokenAt_18 : decode cX5_brokenAt 18 = .ok (.goto 4, 3) := by decide +kernel
theorem dX5_brokenAt_21 : decode cX5_brokenAt 21 = .ok (.iconst 0, 1) := by decide +kernel
theorem dX5_brokenAt_22 : decode cX5_brokenAt 22 = .ok (.ireturn, 1) := by decide +kernel
def f_X5_brokenAt (k : Nat) (x1 : Int32) (w : XW) : Option (Int32 × XW) := (bI (f_X5_has k x1 w) (fun r1 w1 => (if r1 = 0 then (some (0, w1)) else (if inB x1 10 then (if (w1.1 (k + 4) (Int32.toNatClampNeg x1)) = 0 then (some (0, w1)) else (some (1, w1))) else none))))
set_option maxRecDepth 100000 in
theorem W_X5_brokenAt {g : GC} (hl : g.1.stackTraces = false) {k : Nat} (hk : isX5 k) {x1 : Int32} {w : XW} : VE g cX5_brokenAt 2 RX5 (some .boolean) [] (rmL 4 0 0) 0 0 oI 0 0 0 [(0, .ref (g.2.1 + k)), (1, .int x1)] [] w (f_X5_brokenAt k x1 w) := by
  unfold f_X5_brokenAt
  refine v_aload_n dX5_brokenAt_0 rfl 0 rfl ?_
  refine v_iload_n dX5_brokenAt_1 rfl 1 rfl ?_
  refine v_callVi (As := [.int x1]) cv_X5_35 (S_X5_has hl hk) hk.1 rfl rfl rfl (Nat.le_of_ble_eq_true rfl) dX5_brokenAt_2 (CR_rm (by decide) (by decide) (by decide) (by decide)) (fun r1 w1 => ?_)
  refine v_if_eq (tgt := 21) dX5_brokenAt_5 (by decide) ?_ ?_
  · refine v_iconst (v := 0) dX5_brokenAt_21 (by decide) ?_
    exact v_zret dX5_brokenAt_22 rfl rfl rfl (by decide) (by decide)
  · refine v_aload_n dX5_brokenAt_8 rfl 0 rfl ?_
    refine v_getR fl_X5_21 hk.1 rfl dX5_brokenAt_9 ?_
    refine v_iload_n dX5_brokenAt_12 rfl 1 rfl ?_
    refine v_guard (fun h2 => ?_)
    refine v_zald hk.2.2.2.2 h2 dX5_brokenAt_13 ?_
    refine v_if_eq (tgt := 21) dX5_brokenAt_14 (by decide) ?_ ?_
    · refine v_iconst (v := 0) dX5_brokenAt_21 (by decide) ?_
      exact v_zret dX5_brokenAt_22 rfl rfl rfl (by decide) (by decide)
    · refine v_iconst (v := 1) dX5_brokenAt_17 (by decide) ?_
      refine v_goto (tgt := 22) dX5_brokenAt_18 (by decide) ?_
      exact v_zret dX5_brokenAt_22 rfl rfl rfl (by decide) (by decide)
theorem S_X5_brokenAt {g : GC} (hl : g.1.stackTraces = false) {k : Nat} (hk : isX5 k) {x1 : Int32} {w : XW} : ∀ q, f_X5_brokenAt k x1 w = some q → MM g (.code yX5_brokenAt cX5_brokenAt 2 (some .boolean)) yX5_brokenAt (rmL 4 0 0) 0 0 [.ref (g.2.1 + k), .int x1] w (oI q) := fun q hq => MM_of (own := RX5) hl (by decide) gw_608 rfl (Nat.le_of_ble_eq_true rfl) (W_X5_brokenAt hl hk q hq) ⟨rfl, rfl⟩

theorem dX5_startOf_0 : decode cX5_startOf 0 = .ok (.aload_n 0, 1) := by decide +kernel
theorem dX5_startOf_1 : decode cX5_startOf 1 = .ok (.iload_n 1, 1) := by decide +kernel
theorem dX5_startOf_2 : decode cX5_startOf 2 = .ok (.invokevirtual 35, 3) := by decide +kernel
theorem dX5_startOf_5 : decode cX5_startOf 5 = .ok (.ifCond .eq 12, 3) := by decide +kernel
theorem dX5_startOf_8 : decode cX5_startOf 8 = .ok (.aload_n 0, 1) := by decide +kernel
theorem dX5_startOf_9 : decode cX5_startOf 9 = .ok (.getfield 9, 3) := by decide +kernel
theorem dX5_startOf_12 : decode cX5_startOf 12 = .ok (.iload_n 1, 1) := by decide +kernel
theorem dX5_startOf_13 : decode cX5_startOf 13 = .ok (.iaload, 1) := by decide +kernel
theorem dX5_startOf_14 : decode cX5_startOf 14 = .ok (.goto 4, 3) := by decide +kernel
theorem dX5_startOf_17 : decode cX5_startOf 17 = .ok (.iconst (-1), 1) := by decide +kernel
theorem dX5_startOf_18 : decode cX5_startOf 18 = .ok (.ireturn, 1) := by decide +kernel
def f_X5_startOf (k : Nat) (x1 : Int32) (w : XW) : Option (Int32 × XW) := (bI (f_X5_has k x1 w) (fun r1 w1 => (if r1 = 0 then (some ((-1), w1)) else (if inB x1 10 then (some ((w1.1 (k + 1) (Int32.toNatClampNeg x1)), w1)) else none))))
set_option maxRecDepth 100000 in
theorem W_X5_startOf {g : GC} (hl : g.1.stackTraces = false) {k : Nat} (hk : isX5 k) {x1 : Int32} {w : XW} : VE g cX5_startOf 2 RX5 (some .int) [] (rmL 4 0 0) 0 0 oI 0 0 0 [(0, .ref (g.2.1 + k)), (1, .int x1)] [] w (f_X5_startOf k x1 w) := by
  unfold f_X5_startOf
  refine v_aload_n dX5_startOf_0 rfl 0 rfl ?_
  refine v_iload_n dX5_startOf_1 rfl 1 rfl ?_
  refine v_callVi (As := [.int x1]) cv_X5_35 (S_X5_has hl hk) hk.1 rfl rfl rfl (Nat.le_of_ble_eq_true rfl) dX5_startOf_2 (CR_rm (by decide) (by decide) (by decide) (by decide)) (fun r1 w1 => ?_)
  refine v_if_eq (tgt := 17) dX5_startOf_5 (by decide) ?_ ?_
  · refine v_iconst (v := (-1)) dX5_startOf_17 (by decide) ?_
    exact v_iret dX5_startOf_18 rfl rfl (by decide) (by decide)
  · refine v_aload_n dX5_startOf_8 rfl 0 rfl ?_
    refine v_getR fl_X5_9 hk.1 rfl dX5_startOf_9 ?_
    refine v_iload_n dX5_startOf_12 rfl 1 rfl ?_
    refine v_guard (fun h2 => ?_)
    refine v_iald hk.2.1 h2 dX5_startOf_13 ?_
    refine v_goto (tgt := 18) dX5_startOf_14 (by decide) ?_
    exact v_iret dX5_startOf_18 rfl rfl (by decide) (by decide)
theorem S_X5_startOf {g : GC} (hl : g.1.stackTraces = false) {k : Nat} (hk : isX5 k) {x1 : Int32} {w : XW} : ∀ q, f_X5_startOf k x1 w = some q → MM g (.code yX5_startOf cX5_startOf 2 (some .int)) yX5_startOf (rmL 4 0 0) 0 0 [.ref (g.2.1 + k), .int x1] w (oI q) := fun q hq => MM_of (own := RX5) hl (by decide) gw_790 rfl (Nat.le_of_ble_eq_true rfl) (W_X5_startOf hl hk q hq) ⟨rfl, rfl⟩

theorem dX5_endOf_0 : decode cX5_endOf 0 = .ok (.aload_n 0, 1) := by decide +kernel
theorem dX5_endOf_1 : decode cX5_endOf 1 = .ok (.iload_n 1, 1) := by decide +kernel
theorem dX5_endOf_2 : decode cX5_endOf 2 = .ok (.invokevirtual 35, 3) := by decide +kernel
theorem dX5_endOf_5 : decode cX5_endOf 5 = .ok (.ifCond .eq 12, 3) := by decide +kernel
theorem dX5_endOf_8 : decode cX5_endOf 8 = .ok (.aload_n 0, 1) := by decide +kernel
theorem dX5_endOf_9 : decode cX5_endOf 9 = .ok (.getfield 15, 3) := by decide +kernel
theorem dX5_endOf_12 : decode cX5_endOf 12 = .ok (.iload_n 1, 1) := by decide +kernel
theorem dX5_endOf_13 : decode cX5_endOf 13 = .ok (.iaload, 1) := by decide +kernel
theorem dX5_endOf_14 : decode cX5_endOf 14 = .ok (.goto 4, 3) := by decide +kernel
theorem dX5_endOf_17 : decode cX5_endOf 17 = .ok (.iconst (-1), 1) := by decide +kernel
theorem dX5_endOf_18 : decode cX5_endOf 18 = .ok (.ireturn, 1) := by decide +kernel
def f_X5_endOf (k : Nat) (x1 : Int32) (w : XW) : Option (Int32 × XW) := (bI (f_X5_has k x1 w) (fun r1 w1 => (if r1 = 0 then (some ((-1), w1)) else (if inB x1 10 then (some ((w1.1 (k + 2) (Int32.toNatClampNeg x1)), w1)) else none))))
set_option maxRecDepth 100000 in
theorem W_X5_endOf {g : GC} (hl : g.1.stackTraces = false) {k : Nat} (hk : isX5 k) {x1 : Int32} {w : XW} : VE g cX5_endOf 2 RX5 (some .int) [] (rmL 4 0 0) 0 0 oI 0 0 0 [(0, .ref (g.2.1 + k)), (1, .int x1)] [] w (f_X5_endOf k x1 w) := by
  unfold f_X5_endOf
  refine v_aload_n dX5_endOf_0 rfl 0 rfl ?_
  refine v_iload_n dX5_endOf_1 rfl 1 rfl ?_
  refine v_callVi (As := [.int x1]) cv_X5_35 (S_X5_has hl hk) hk.1 rfl rfl rfl (Nat.le_of_ble_eq_true rfl) dX5_endOf_2 (CR_rm (by decide) (by decide) (by decide) (by decide)) (fun r1 w1 => ?_)
  refine v_if_eq (tgt := 17) dX5_endOf_5 (by decide) ?_ ?_
  · refine v_iconst (v := (-1)) dX5_endOf_17 (by decide) ?_
    exact v_iret dX5_endOf_18 rfl rfl (by decide) (by decide)
  · refine v_aload_n dX5_endOf_8 rfl 0 rfl ?_
    refine v_getR fl_X5_15 hk.1 rfl dX5_endOf_9 ?_
    refine v_iload_n dX5_endOf_12 rfl 1 rfl ?_
    refine v_guard (fun h2 => ?_)
    refine v_iald hk.2.2.1 h2 dX5_endOf_13 ?_
    refine v_goto (tgt := 18) dX5_endOf_14 (by decide) ?_
    exact v_iret dX5_endOf_18 rfl rfl (by decide) (by decide)
theorem S_X5_endOf {g : GC} (hl : g.1.stackTraces = false) {k : Nat} (hk : isX5 k) {x1 : Int32} {w : XW} : ∀ q, f_X5_endOf k x1 w = some q → MM g (.code yX5_endOf cX5_endOf 2 (some .int)) yX5_endOf (rmL 4 0 0) 0 0 [.ref (g.2.1 + k), .int x1] w (oI q) := fun q hq => MM_of (own := RX5) hl (by decide) gw_794 rfl (Nat.le_of_ble_eq_true rfl) (W_X5_endOf hl hk q hq) ⟨rfl, rfl⟩

theorem dX5_widthOf_0 : decode cX5_widthOf 0 = .ok (.aload_n 0, 1) := by decide +kernel
theorem dX5_widthOf_1 : decode cX5_widthOf 1 = .ok (.iload_n 1, 1) := by decide +kernel
theorem dX5_widthOf_2 : decode cX5_widthOf 2 = .ok (.invokevirtual 35, 3) := by decide +kernel
theorem dX5_widthOf_5 : decode cX5_widthOf 5 = .ok (.ifCond .eq 12, 3) := by decide +kernel
theorem dX5_widthOf_8 : decode cX5_widthOf 8 = .ok (.aload_n 0, 1) := by decide +kernel
theorem dX5_widthOf_9 : decode cX5_widthOf 9 = .ok (.getfield 18, 3) := by decide +kernel
theorem dX5_widthOf_12 : decode cX5_widthOf 12 = .ok (.iload_n 1, 1) := by decide +kernel
theorem dX5_widthOf_13 : decode cX5_widthOf 13 = .ok (.iaload, 1) := by decide +kernel
theorem dX5_widthOf_14 : decode cX5_widthOf 14 = .ok (.goto 4, 3) := by decide +kernel
theorem dX5_widthOf_17 : decode cX5_widthOf 17 = .ok (.iconst 0, 1) := by decide +kernel
theorem dX5_widthOf_18 : decode cX5_widthOf 18 = .ok (.ireturn, 1) := by decide +kernel
def f_X5_widthOf (k : Nat) (x1 : Int32) (w : XW) : Option (Int32 × XW) := (bI (f_X5_has k x1 w) (fun r1 w1 => (if r1 = 0 then (some (0, w1)) else (if inB x1 10 then (some ((w1.1 (k + 3) (Int32.toNatClampNeg x1)), w1)) else none))))
set_option maxRecDepth 100000 in
theorem W_X5_widthOf {g : GC} (hl : g.1.stackTraces = false) {k : Nat} (hk : isX5 k) {x1 : Int32} {w : XW} : VE g cX5_widthOf 2 RX5 (some .int) [] (rmL 4 0 0) 0 0 oI 0 0 0 [(0, .ref (g.2.1 + k)), (1, .int x1)] [] w (f_X5_widthOf k x1 w) := by
  unfold f_X5_widthOf
  refine v_aload_n dX5_widthOf_0 rfl 0 rfl ?_
  refine v_iload_n dX5_widthOf_1 rfl 1 rfl ?_
  refine v_callVi (As := [.int x1]) cv_X5_35 (S_X5_has hl hk) hk.1 rfl rfl rfl (Nat.le_of_ble_eq_true rfl) dX5_widthOf_2 (CR_rm (by decide) (by decide) (by decide) (by decide)) (fun r1 w1 => ?_)
  refine v_if_eq (tgt := 17) dX5_widthOf_5 (by decide) ?_ ?_
  · refine v_iconst (v := 0) dX5_widthOf_17 (by decide) ?_
    exact v_iret dX5_widthOf_18 rfl rfl (by decide) (by decide)
  · refine v_aload_n dX5_widthOf_8 rfl 0 rfl ?_
    refine v_getR fl_X5_18 hk.1 rfl dX5_widthOf_9 ?_
    refine v_iload_n dX5_widthOf_12 rfl 1 rfl ?_
    refine v_guard (fun h2 => ?_)
    refine v_iald hk.2.2.2.1 h2 dX5_widthOf_13 ?_
    refine v_goto (tgt := 18) dX5_widthOf_14 (by decide) ?_
    exact v_iret dX5_widthOf_18 rfl rfl (by decide) (by decide)
theorem S_X5_widthOf {g : GC} (hl : g.1.stackTraces = false) {k : Nat} (hk : isX5 k) {x1 : Int32} {w : XW} : ∀ q, f_X5_widthOf k x1 w = some q → MM g (.code yX5_widthOf cX5_widthOf 2 (some .int)) yX5_widthOf (rmL 4 0 0) 0 0 [.ref (g.2.1 + k), .int x1] w (oI q) := fun q hq => MM_of (own := RX5) hl (by decide) gw_613 rfl (Nat.le_of_ble_eq_true rfl) (W_X5_widthOf hl hk q hq) ⟨rfl, rfl⟩

theorem dX5_copyFrom_0 : decode cX5_copyFrom 0 = .ok (.aload_n 0, 1) := by decide +kernel
theorem dX5_copyFrom_1 : decode cX5_copyFrom 1 = .ok (.aload_n 1, 1) := by decide +kernel
theorem dX5_copyFrom_2 : decode cX5_copyFrom 2 = .ok (.getfield 25, 3) := by decide +kernel
theorem dX5_copyFrom_5 : decode cX5_copyFrom 5 = .ok (.putfield 25, 3) := by decide +kernel
theorem dX5_copyFrom_8 : decode cX5_copyFrom 8 = .ok (.aload_n 1, 1) := by decide +kernel
theorem dX5_copyFrom_9 : decode cX5_copyFrom 9 = .ok (.getfield 9, 3) := by decide +kernel
theorem dX5_copyFrom_12 : decode cX5_copyFrom 12 = .ok (.iconst 0, 1) := by decide +kernel
theorem dX5_copyFrom_13 : decode cX5_copyFrom 13 = .ok (.aload_n 0, 1) := by decide +kernel
theorem dX5_copyFrom_14 : decode cX5_copyFrom 14 = .ok (.getfield 9, 3) := by decide +kernel
theorem dX5_copyFrom_17 : decode cX5_copyFrom 17 = .ok (.iconst 0, 1) := by decide +kernel
theorem dX5_copyFrom_18 : decode cX5_copyFrom 18 = .ok (.bipush 10, 2) := by decide +kernel
theorem dX5_copyFrom_20 : decode cX5_copyFrom 20 = .ok (.invokestatic 29, 3) := by decide +kernel
theorem dX5_copyFrom_23 : decode cX5_copyFrom 23 = .ok (.aload_n 1, 1) := by decide +kernel
theorem dX5_copyFrom_24 : decode cX5_copyFrom 24 = .ok (.getfield 15, 3) := by decide +kernel
theorem dX5_copyFrom_27 : decode cX5_copyFrom 27 = .ok (.iconst 0, 1) := by decide +kernel
theorem dX5_copyFrom_28 : decode cX5_copyFrom 28 = .ok (.aload_n 0, 1) := by decide +kernel
theorem dX5_copyFrom_29 : decode cX5_copyFrom 29 = .ok (.getfield 15, 3) := by decide +kernel
theorem dX5_copyFrom_32 : decode cX5_copyFrom 32 = .ok (.iconst 0, 1) := by decide +kernel
theorem dX5_copyFrom_33 : decode cX5_copyFrom 33 = .ok (.bipush 10, 2) := by decide +kernel
theorem dX5_copyFrom_35 : decode cX5_copyFrom 35 = .ok (.invokestatic 29, 3) := by decide +kernel
theorem dX5_copyFrom_38 : decode cX5_copyFrom 38 = .ok (.aload_n 1, 1) := by decide +kernel
theorem dX5_copyFrom_39 : decode cX5_copyFrom 39 = .ok (.getfield 18, 3) := by decide +kernel
theorem dX5_copyFrom_42 : decode cX5_copyFrom 42 = .ok (.iconst 0, 1) := by decide +kernel
theorem dX5_copyFrom_43 : decode cX5_copyFrom 43 = .ok (.aload_n 0, 1) := by decide +kernel
theorem dX5_copyFrom_44 : decode cX5_copyFrom 44 = .ok (.getfield 18, 3) := by decide +kernel
theorem dX5_copyFrom_47 : decode cX5_copyFrom 47 = .ok (.iconst 0, 1) := by decide +kernel
theorem dX5_copyFrom_48 : decode cX5_copyFrom 48 = .ok (.bipush 10, 2) := by decide +kernel
theorem dX5_copyFrom_50 : decode cX5_copyFrom 50 = .ok (.invokestatic 29, 3) := by decide +kernel
theorem dX5_copyFrom_53 : decode cX5_copyFrom 53 = .ok (.aload_n 1, 1) := by decide +kernel
theorem dX5_copyFrom_54 : decode cX5_copyFrom 54 = .ok (.getfield 21, 3) := by decide +kernel
theorem dX5_copyFrom_57 : decode cX5_copyFrom 57 = .ok (.iconst 0, 1) := by decide +kernel
theorem dX5_copyFrom_58 : decode cX5_copyFrom 58 = .ok (.aload_n 0, 1) := by decide +kernel
theorem dX5_copyFrom_59 : decode cX5_copyFrom 59 = .ok (.getfield 21, 3) := by decide +kernel
theorem dX5_copyFrom_62 : decode cX5_copyFrom 62 = .ok (.iconst 0, 1) := by decide +kernel
theorem dX5_copyFrom_63 : decode cX5_copyFrom 63 = .ok (.bipush 10, 2) := by decide +kernel
theorem dX5_copyFrom_65 : decode cX5_copyFrom 65 = .ok (.invokestatic 29, 3) := by decide +kernel
theorem dX5_copyFrom_68 : decode cX5_copyFrom 68 = .ok (.return_, 1) := by decide +kernel
def f_X5_copyFrom (k : Nat) (k1 : Nat) (w : XW) : Option (XW) := (if fitsZ (wcpy (wcpy (wcpy (wset w k 0 (w.1 k1 0)) (k1 + 1) (Int32.toNatClampNeg 0) (k + 1) (Int32.toNatClampNeg 0) (Int32.toNatClampNeg 10)) (k1 + 2) (Int32.toNatClampNeg 0) (k + 2) (Int32.toNatClampNeg 0) (Int32.toNatClampNeg 10)) (k1 + 3) (Int32.toNatClampNeg 0) (k + 3) (Int32.toNatClampNeg 0) (Int32.toNatClampNeg 10)) (k1 + 4) (Int32.toNatClampNeg 10) then (some (wcpy (wcpy (wcpy (wcpy (wset w k 0 (w.1 k1 0)) (k1 + 1) (Int32.toNatClampNeg 0) (k + 1) (Int32.toNatClampNeg 0) (Int32.toNatClampNeg 10)) (k1 + 2) (Int32.toNatClampNeg 0) (k + 2) (Int32.toNatClampNeg 0) (Int32.toNatClampNeg 10)) (k1 + 3) (Int32.toNatClampNeg 0) (k + 3) (Int32.toNatClampNeg 0) (Int32.toNatClampNeg 10)) (k1 + 4) (Int32.toNatClampNeg 0) (k + 4) (Int32.toNatClampNeg 0) (Int32.toNatClampNeg 10))) else none)
set_option maxRecDepth 100000 in
theorem W_X5_copyFrom {g : GC} (hl : g.1.stackTraces = false) {k : Nat} (hk : isX5 k) {k1 : Nat} (hk1 : isX5 k1) {w : XW} : VE g cX5_copyFrom 2 RX5 none [] (rmL 3 0 0) 0 0 oV 0 0 0 [(0, .ref (g.2.1 + k)), (1, .ref (g.2.1 + k1))] [] w (f_X5_copyFrom k k1 w) := by
  unfold f_X5_copyFrom
  refine v_aload_n dX5_copyFrom_0 rfl 0 rfl ?_
  refine v_aload_n dX5_copyFrom_1 rfl 1 rfl ?_
  refine v_getI fl_X5_25 hk1.1 rfl dX5_copyFrom_2 ?_
  refine v_putI fl_X5_25 hk.1 rfl (ty0 := .int) rfl rfl rfl dX5_copyFrom_5 ?_
  refine v_aload_n dX5_copyFrom_8 rfl 1 rfl ?_
  refine v_getR fl_X5_9 hk1.1 rfl dX5_copyFrom_9 ?_
  refine v_iconst (v := 0) dX5_copyFrom_12 (by decide) ?_
  refine v_aload_n dX5_copyFrom_13 rfl 0 rfl ?_
  refine v_getR fl_X5_9 hk.1 rfl dX5_copyFrom_14 ?_
  refine v_iconst (v := 0) dX5_copyFrom_17 (by decide) ?_
  refine v_bipush (v := 10) dX5_copyFrom_18 (by decide) ?_
  refine v_copy (ty := .int) hk1.2.1 hk.2.1 (Or.inl rfl) rfl rfl gw_530 gw_401 gw_400 gw_109 (by decide) (by decide) (by decide) (by decide) (by decide) (fun _ _ => rfl) (CR_f1 _ _ _) (CR_f3 (by decide) _ _ _) dX5_copyFrom_20 ?_
  refine v_aload_n dX5_copyFrom_23 rfl 1 rfl ?_
  refine v_getR fl_X5_15 hk1.1 rfl dX5_copyFrom_24 ?_
  refine v_iconst (v := 0) dX5_copyFrom_27 (by decide) ?_
  refine v_aload_n dX5_copyFrom_28 rfl 0 rfl ?_
  refine v_getR fl_X5_15 hk.1 rfl dX5_copyFrom_29 ?_
  refine v_iconst (v := 0) dX5_copyFrom_32 (by decide) ?_
  refine v_bipush (v := 10) dX5_copyFrom_33 (by decide) ?_
  refine v_copy (ty := .int) hk1.2.2.1 hk.2.2.1 (Or.inl rfl) rfl rfl gw_530 gw_401 gw_400 gw_109 (by decide) (by decide) (by decide) (by decide) (by decide) (fun _ _ => rfl) (CR_f1 _ _ _) (CR_f3 (by decide) _ _ _) dX5_copyFrom_35 ?_
  refine v_aload_n dX5_copyFrom_38 rfl 1 rfl ?_
  refine v_getR fl_X5_18 hk1.1 rfl dX5_copyFrom_39 ?_
  refine v_iconst (v := 0) dX5_copyFrom_42 (by decide) ?_
  refine v_aload_n dX5_copyFrom_43 rfl 0 rfl ?_
  refine v_getR fl_X5_18 hk.1 rfl dX5_copyFrom_44 ?_
  refine v_iconst (v := 0) dX5_copyFrom_47 (by decide) ?_
  refine v_bipush (v := 10) dX5_copyFrom_48 (by decide) ?_
  refine v_copy (ty := .int) hk1.2.2.2.1 hk.2.2.2.1 (Or.inl rfl) rfl rfl gw_530 gw_401 gw_400 gw_109 (by decide) (by decide) (by decide) (by decide) (by decide) (fun _ _ => rfl) (CR_f1 _ _ _) (CR_f3 (by decide) _ _ _) dX5_copyFrom_50 ?_
  refine v_aload_n dX5_copyFrom_53 rfl 1 rfl ?_
  refine v_getR fl_X5_21 hk1.1 rfl dX5_copyFrom_54 ?_
  refine v_iconst (v := 0) dX5_copyFrom_57 (by decide) ?_
  refine v_aload_n dX5_copyFrom_58 rfl 0 rfl ?_
  refine v_getR fl_X5_21 hk.1 rfl dX5_copyFrom_59 ?_
  refine v_iconst (v := 0) dX5_copyFrom_62 (by decide) ?_
  refine v_bipush (v := 10) dX5_copyFrom_63 (by decide) ?_
  refine v_guard (fun h1 => ?_)
  refine v_copy (ty := .boolean) hk1.2.2.2.2 hk.2.2.2.2 (Or.inr rfl) rfl rfl gw_530 gw_401 gw_400 gw_109 (by decide) (by decide) (by decide) (by decide) (by decide) h1 (CR_f1 _ _ _) (CR_f3 (by decide) _ _ _) dX5_copyFrom_65 ?_
  exact v_vret dX5_copyFrom_68 rfl rfl (by decide) (by decide)
theorem S_X5_copyFrom {g : GC} (hl : g.1.stackTraces = false) {k : Nat} (hk : isX5 k) {k1 : Nat} (hk1 : isX5 k1) {w : XW} : ∀ q, f_X5_copyFrom k k1 w = some q → MM g (.code yX5_copyFrom cX5_copyFrom 2 none) yX5_copyFrom (rmL 3 0 0) 0 0 [.ref (g.2.1 + k), .ref (g.2.1 + k1)] w (oV q) := fun q hq => MM_of (own := RX5) hl (by decide) gw_529 rfl (Nat.le_of_ble_eq_true rfl) (W_X5_copyFrom hl hk hk1 q hq) ⟨rfl, rfl⟩

theorem dX5_brokenCount_0 : decode cX5_brokenCount 0 = .ok (.iconst 0, 1) := by decide +kernel
theorem dX5_brokenCount_1 : decode cX5_brokenCount 1 = .ok (.istore_n 1, 1) := by decide +kernel
theorem dX5_brokenCount_2 : decode cX5_brokenCount 2 = .ok (.iconst 0, 1) := by decide +kernel
theorem dX5_brokenCount_3 : decode cX5_brokenCount 3 = .ok (.istore_n 2, 1) := by decide +kernel
theorem dX5_brokenCount_4 : decode cX5_brokenCount 4 = .ok (.iload_n 2, 1) := by decide +kernel
theorem dX5_brokenCount_5 : decode cX5_brokenCount 5 = .ok (.aload_n 0, 1) := by decide +kernel
theorem dX5_brokenCount_6 : decode cX5_brokenCount 6 = .ok (.getfield 25, 3) := by decide +kernel
theorem dX5_brokenCount_9 : decode cX5_brokenCount 9 = .ok (.if_icmp .ge 21, 3) := by decide +kernel
theorem dX5_brokenCount_12 : decode cX5_brokenCount 12 = .ok (.aload_n 0, 1) := by decide +kernel
theorem dX5_brokenCount_13 : decode cX5_brokenCount 13 = .ok (.getfield 21, 3) := by decide +kernel
theorem dX5_brokenCount_16 : decode cX5_brokenCount 16 = .ok (.iload_n 2, 1) := by decide +kernel
theorem dX5_brokenCount_17 : decode cX5_brokenCount 17 = .ok (.baload, 1) := by decide +kernel
theorem dX5_brokenCount_18 : decode cX5_brokenCount 18 = .ok (.ifCond .eq 6, 3) := by decide +kernel
theorem dX5_brokenCount_21 : decode cX5_brokenCount 21 = .ok (.iinc 1 1, 3) := by decide +kernel
theorem dX5_brokenCount_24 : decode cX5_brokenCount 24 = .ok (.iinc 2 1, 3) := by decide +kernel
theorem dX5_brokenCount_27 : decode cX5_brokenCount 27 = .ok (.goto (-23), 3) := by decide +kernel
theorem dX5_brokenCount_30 : decode cX5_brokenCount 30 = .ok (.iload_n 1, 1) := by decide +kernel
theorem dX5_brokenCount_31 : decode cX5_brokenCount 31 = .ok (.ireturn, 1) := by decide +kernel
def f_X5_brokenCount_4 (k : Nat) : Nat → Int32 → Int32 → XW → Option (Int32 × XW)
  | 0, _, _, _ => none
  | n + 1, z1, z2, w => (if (w.1 k 0) ≤ z2 then (some (z1, w)) else (if inB z2 10 then (if (w.1 (k + 4) (Int32.toNatClampNeg z2)) = 0 then (f_X5_brokenCount_4 k n z1 (z2 + 1) w) else (f_X5_brokenCount_4 k n (z1 + 1) (z2 + 1) w)) else none))
set_option maxRecDepth 100000 in
theorem S_X5_brokenCount_4 {g : GC} (hl : g.1.stackTraces = false) {k : Nat} (hk : isX5 k) : ∀ (n : Nat) (z1 : Int32) (z2 : Int32) (w : XW), VE g cX5_brokenCount 3 RX5 (some .int) [] (rmL 3 0 0) 0 0 oI 0 0 4 [(0, .ref (g.2.1 + k)), (1, .int z1), (2, .int z2)] [] w (f_X5_brokenCount_4 k n z1 z2 w) := by
  intro n
  induction n with
  | zero => intro z1 z2 w; exact v_none
  | succ n ih =>
    intro z1 z2 w
    rw [f_X5_brokenCount_4]
    refine v_iload_n dX5_brokenCount_4 rfl 2 rfl ?_
    refine v_aload_n dX5_brokenCount_5 rfl 0 rfl ?_
    refine v_getI fl_X5_25 hk.1 rfl dX5_brokenCount_6 ?_
    refine v_icmp_ge (tgt := 30) dX5_brokenCount_9 (by decide) ?_ ?_
    · refine v_iload_n dX5_brokenCount_30 rfl 1 rfl ?_
      exact v_iret dX5_brokenCount_31 rfl rfl (by decide) (by decide)
    · refine v_aload_n dX5_brokenCount_12 rfl 0 rfl ?_
      refine v_getR fl_X5_21 hk.1 rfl dX5_brokenCount_13 ?_
      refine v_iload_n dX5_brokenCount_16 rfl 2 rfl ?_
      refine v_guard (fun h1 => ?_)
      refine v_zald hk.2.2.2.2 h1 dX5_brokenCount_17 ?_
      refine v_if_eq (tgt := 24) dX5_brokenCount_18 (by decide) ?_ ?_
      · refine v_iinc (v := (z2 + 1)) dX5_brokenCount_24 (q := 2) rfl rfl (Nat.le_of_ble_eq_true rfl) rfl ?_
        refine v_goto (tgt := 4) dX5_brokenCount_27 (by decide) ?_
        refine v_sub [1, 2, 0] rfl ?_
        exact ih _ _ _
      · refine v_iinc (v := (z1 + 1)) dX5_brokenCount_21 (q := 1) rfl rfl (Nat.le_of_ble_eq_true rfl) rfl ?_
        refine v_iinc (v := (z2 + 1)) dX5_brokenCount_24 (q := 2) rfl rfl (Nat.le_of_ble_eq_true rfl) rfl ?_
        refine v_goto (tgt := 4) dX5_brokenCount_27 (by decide) ?_
        refine v_sub [2, 1, 0] rfl ?_
        exact ih _ _ _
def f_X5_brokenCount (k : Nat) (w : XW) : Option (Int32 × XW) := (f_X5_brokenCount_4 k 1000 0 0 w)
set_option maxRecDepth 100000 in
theorem W_X5_brokenCount {g : GC} (hl : g.1.stackTraces = false) {k : Nat} (hk : isX5 k) {w : XW} : VE g cX5_brokenCount 3 RX5 (some .int) [] (rmL 3 0 0) 0 0 oI 0 0 0 [(0, .ref (g.2.1 + k))] [] w (f_X5_brokenCount k w) := by
  unfold f_X5_brokenCount
  refine v_iconst (v := 0) dX5_brokenCount_0 (by decide) ?_
  refine v_istore_n dX5_brokenCount_1 rfl (Nat.le_of_ble_eq_true rfl) rfl ?_
  refine v_iconst (v := 0) dX5_brokenCount_2 (by decide) ?_
  refine v_istore_n dX5_brokenCount_3 rfl (Nat.le_of_ble_eq_true rfl) rfl ?_
  refine v_sub [2, 1, 0] rfl ?_
  exact S_X5_brokenCount_4 hl hk  _ _ _ _
theorem S_X5_brokenCount {g : GC} (hl : g.1.stackTraces = false) {k : Nat} (hk : isX5 k) {w : XW} : ∀ q, f_X5_brokenCount k w = some q → MM g (.code yX5_brokenCount cX5_brokenCount 3 (some .int)) yX5_brokenCount (rmL 3 0 0) 0 0 [.ref (g.2.1 + k)] w (oI q) := fun q hq => MM_of (own := RX5) hl (by decide) gw_777 rfl (Nat.le_of_ble_eq_true rfl) (W_X5_brokenCount hl hk q hq) ⟨rfl, rfl⟩

theorem dX5_append_0 : decode cX5_append 0 = .ok (.aload_n 0, 1) := by decide +kernel
theorem dX5_append_1 : decode cX5_append 1 = .ok (.getfield 25, 3) := by decide +kernel
theorem dX5_append_4 : decode cX5_append 4 = .ok (.bipush 10, 2) := by decide +kernel
theorem dX5_append_6 : decode cX5_append 6 = .ok (.if_icmp .lt 5, 3) := by decide +kernel
theorem dX5_append_9 : decode cX5_append 9 = .ok (.iconst (-1), 1) := by decide +kernel
theorem dX5_append_10 : decode cX5_append 10 = .ok (.ireturn, 1) := by decide +kernel
theorem dX5_append_11 : decode cX5_append 11 = .ok (.aload_n 0, 1) := by decide +kernel
theorem dX5_append_12 : decode cX5_append 12 = .ok (.getfield 9, 3) := by decide +kernel
theorem dX5_append_15 : decode cX5_append 15 = .ok (.aload_n 0, 1) := by decide +kernel
theorem dX5_append_16 : decode cX5_append 16 = .ok (.getfield 25, 3) := by decide +kernel
theorem dX5_append_19 : decode cX5_append 19 = .ok (.iload_n 1, 1) := by decide +kernel
theorem dX5_append_20 : decode cX5_append 20 = .ok (.iastore, 1) := by decide +kernel
theorem dX5_append_21 : decode cX5_append 21 = .ok (.aload_n 0, 1) := by decide +kernel
theorem dX5_append_22 : decode cX5_append 22 = .ok (.getfield 15, 3) := by decide +kernel
theorem dX5_append_25 : decode cX5_append 25 = .ok (.aload_n 0, 1) := by decide +kernel
theorem dX5_append_26 : decode cX5_append 26 = .ok (.getfield 25, 3) := by decide +kernel
theorem dX5_append_29 : decode cX5_append 29 = .ok (.iload_n 2, 1) := by decide +kernel
theorem dX5_append_30 : decode cX5_append 30 = .ok (.iastore, 1) := by decide +kernel
theorem dX5_append_31 : decode cX5_append 31 = .ok (.aload_n 0, 1) := by decide +kernel
theorem dX5_append_32 : decode cX5_append 32 = .ok (.getfield 18, 3) := by decide +kernel
theorem dX5_append_35 : decode cX5_append 35 = .ok (.aload_n 0, 1) := by decide +kernel
theorem dX5_append_36 : decode cX5_append 36 = .ok (.getfield 25, 3) := by decide +kernel
theorem dX5_append_39 : decode cX5_append 39 = .ok (.iload_n 3, 1) := by decide +kernel
theorem dX5_append_40 : decode cX5_append 40 = .ok (.iastore, 1) := by decide +kernel
theorem dX5_append_41 : decode cX5_append 41 = .ok (.aload_n 0, 1) := by decide +kernel
theorem dX5_append_42 : decode cX5_append 42 = .ok (.getfield 21, 3) := by decide +kernel
theorem dX5_append_45 : decode cX5_append 45 = .ok (.aload_n 0, 1) := by decide +kernel
theorem dX5_append_46 : decode cX5_append 46 = .ok (.getfield 25, 3) := by decide +kernel
theorem dX5_append_49 : decode cX5_append 49 = .ok (.iconst 0, 1) := by decide +kernel
theorem dX5_append_50 : decode cX5_append 50 = .ok (.bastore, 1) := by decide +kernel
theorem dX5_append_51 : decode cX5_append 51 = .ok (.aload_n 0, 1) := by decide +kernel
theorem dX5_append_52 : decode cX5_append 52 = .ok (.dup, 1) := by decide +kernel
theorem dX5_append_53 : decode cX5_append 53 = .ok (.getfield 25, 3) := by decide +kernel
theorem dX5_append_56 : decode cX5_append 56 = .ok (.iconst 1, 1) := by decide +kernel
theorem dX5_append_57 : decode cX5_append 57 = .ok (.iadd, 1) := by decide +kernel
theorem dX5_append_58 : decode cX5_append 58 = .ok (.putfield 25, 3) := by decide +kernel
theorem dX5_append_61 : decode cX5_append 61 = .ok (.aload_n 0, 1) := by decide +kernel
theorem dX5_append_62 : decode cX5_append 62 = .ok (.getfield 25, 3) := by decide +kernel
theorem dX5_append_65 : decode cX5_append 65 = .ok (.iconst 1, 1) := by decide +kernel
theorem dX5_append_66 : decode cX5_append 66 = .ok (.isub, 1) := by decide +kernel
theorem dX5_append_67 : decode cX5_append 67 = .ok (.ireturn, 1) := by decide +kernel
def f_X5_append (k : Nat) (x1 : Int32) (x2 : Int32) (x3 : Int32) (w : XW) : Option (Int32 × XW) := (if (w.1 k 0) < 10 then (if inB (w.1 k 0) 10 then (if inB ((wset w (k + 1) (Int32.toNatClampNeg (w.1 k 0)) x1).1 k 0) 10 then (if inB ((wset (wset w (k + 1) (Int32.toNatClampNeg (w.1 k 0)) x1) (k + 2) (Int32.toNatClampNeg ((wset w (k + 1) (Int32.toNatClampNeg (w.1 k 0)) x1).1 k 0)) x2).1 k 0) 10 then (if inB ((wset (wset (wset w (k + 1) (Int32.toNatClampNeg (w.1 k 0)) x1) (k + 2) (Int32.toNatClampNeg ((wset w (k + 1) (Int32.toNatClampNeg (w.1 k 0)) x1).1 k 0)) x2) (k + 3) (Int32.toNatClampNeg ((wset (wset w (k + 1) (Int32.toNatClampNeg (w.1 k 0)) x1) (k + 2) (Int32.toNatClampNeg ((wset w (k + 1) (Int32.toNatClampNeg (w.1 k 0)) x1).1 k 0)) x2).1 k 0)) x3).1 k 0) 10 then (some ((((wset (wset (wset (wset (wset w (k + 1) (Int32.toNatClampNeg (w.1 k 0)) x1) (k + 2) (Int32.toNatClampNeg ((wset w (k + 1) (Int32.toNatClampNeg (w.1 k 0)) x1).1 k 0)) x2) (k + 3) (Int32.toNatClampNeg ((wset (wset w (k + 1) (Int32.toNatClampNeg (w.1 k 0)) x1) (k + 2) (Int32.toNatClampNeg ((wset w (k + 1) (Int32.toNatClampNeg (w.1 k 0)) x1).1 k 0)) x2).1 k 0)) x3) (k + 4) (Int32.toNatClampNeg ((wset (wset (wset w (k + 1) (Int32.toNatClampNeg (w.1 k 0)) x1) (k + 2) (Int32.toNatClampNeg ((wset w (k + 1) (Int32.toNatClampNeg (w.1 k 0)) x1).1 k 0)) x2) (k + 3) (Int32.toNatClampNeg ((wset (wset w (k + 1) (Int32.toNatClampNeg (w.1 k 0)) x1) (k + 2) (Int32.toNatClampNeg ((wset w (k + 1) (Int32.toNatClampNeg (w.1 k 0)) x1).1 k 0)) x2).1 k 0)) x3).1 k 0)) (vp_nar .boolean 0)) k 0 (((wset (wset (wset (wset w (k + 1) (Int32.toNatClampNeg (w.1 k 0)) x1) (k + 2) (Int32.toNatClampNeg ((wset w (k + 1) (Int32.toNatClampNeg (w.1 k 0)) x1).1 k 0)) x2) (k + 3) (Int32.toNatClampNeg ((wset (wset w (k + 1) (Int32.toNatClampNeg (w.1 k 0)) x1) (k + 2) (Int32.toNatClampNeg ((wset w (k + 1) (Int32.toNatClampNeg (w.1 k 0)) x1).1 k 0)) x2).1 k 0)) x3) (k + 4) (Int32.toNatClampNeg ((wset (wset (wset w (k + 1) (Int32.toNatClampNeg (w.1 k 0)) x1) (k + 2) (Int32.toNatClampNeg ((wset w (k + 1) (Int32.toNatClampNeg (w.1 k 0)) x1).1 k 0)) x2) (k + 3) (Int32.toNatClampNeg ((wset (wset w (k + 1) (Int32.toNatClampNeg (w.1 k 0)) x1) (k + 2) (Int32.toNatClampNeg ((wset w (k + 1) (Int32.toNatClampNeg (w.1 k 0)) x1).1 k 0)) x2).1 k 0)) x3).1 k 0)) (vp_nar .boolean 0)).1 k 0) + 1)).1 k 0) - 1), (wset (wset (wset (wset (wset w (k + 1) (Int32.toNatClampNeg (w.1 k 0)) x1) (k + 2) (Int32.toNatClampNeg ((wset w (k + 1) (Int32.toNatClampNeg (w.1 k 0)) x1).1 k 0)) x2) (k + 3) (Int32.toNatClampNeg ((wset (wset w (k + 1) (Int32.toNatClampNeg (w.1 k 0)) x1) (k + 2) (Int32.toNatClampNeg ((wset w (k + 1) (Int32.toNatClampNeg (w.1 k 0)) x1).1 k 0)) x2).1 k 0)) x3) (k + 4) (Int32.toNatClampNeg ((wset (wset (wset w (k + 1) (Int32.toNatClampNeg (w.1 k 0)) x1) (k + 2) (Int32.toNatClampNeg ((wset w (k + 1) (Int32.toNatClampNeg (w.1 k 0)) x1).1 k 0)) x2) (k + 3) (Int32.toNatClampNeg ((wset (wset w (k + 1) (Int32.toNatClampNeg (w.1 k 0)) x1) (k + 2) (Int32.toNatClampNeg ((wset w (k + 1) (Int32.toNatClampNeg (w.1 k 0)) x1).1 k 0)) x2).1 k 0)) x3).1 k 0)) (vp_nar .boolean 0)) k 0 (((wset (wset (wset (wset w (k + 1) (Int32.toNatClampNeg (w.1 k 0)) x1) (k + 2) (Int32.toNatClampNeg ((wset w (k + 1) (Int32.toNatClampNeg (w.1 k 0)) x1).1 k 0)) x2) (k + 3) (Int32.toNatClampNeg ((wset (wset w (k + 1) (Int32.toNatClampNeg (w.1 k 0)) x1) (k + 2) (Int32.toNatClampNeg ((wset w (k + 1) (Int32.toNatClampNeg (w.1 k 0)) x1).1 k 0)) x2).1 k 0)) x3) (k + 4) (Int32.toNatClampNeg ((wset (wset (wset w (k + 1) (Int32.toNatClampNeg (w.1 k 0)) x1) (k + 2) (Int32.toNatClampNeg ((wset w (k + 1) (Int32.toNatClampNeg (w.1 k 0)) x1).1 k 0)) x2) (k + 3) (Int32.toNatClampNeg ((wset (wset w (k + 1) (Int32.toNatClampNeg (w.1 k 0)) x1) (k + 2) (Int32.toNatClampNeg ((wset w (k + 1) (Int32.toNatClampNeg (w.1 k 0)) x1).1 k 0)) x2).1 k 0)) x3).1 k 0)) (vp_nar .boolean 0)).1 k 0) + 1)))) else none) else none) else none) else none) else (some ((-1), w)))
set_option maxRecDepth 100000 in
theorem W_X5_append {g : GC} (hl : g.1.stackTraces = false) {k : Nat} (hk : isX5 k) {x1 : Int32} {x2 : Int32} {x3 : Int32} {w : XW} : VE g cX5_append 4 RX5 (some .int) [] (rmL 3 0 0) 0 0 oI 0 0 0 [(0, .ref (g.2.1 + k)), (1, .int x1), (2, .int x2), (3, .int x3)] [] w (f_X5_append k x1 x2 x3 w) := by
  unfold f_X5_append
  refine v_aload_n dX5_append_0 rfl 0 rfl ?_
  refine v_getI fl_X5_25 hk.1 rfl dX5_append_1 ?_
  refine v_bipush (v := 10) dX5_append_4 (by decide) ?_
  refine v_icmp_lt (tgt := 11) dX5_append_6 (by decide) ?_ ?_
  · refine v_aload_n dX5_append_11 rfl 0 rfl ?_
    refine v_getR fl_X5_9 hk.1 rfl dX5_append_12 ?_
    refine v_aload_n dX5_append_15 rfl 0 rfl ?_
    refine v_getI fl_X5_25 hk.1 rfl dX5_append_16 ?_
    refine v_iload_n dX5_append_19 rfl 1 rfl ?_
    refine v_guard (fun h1 => ?_)
    refine v_iast hk.2.1 h1 dX5_append_20 ?_
    refine v_aload_n dX5_append_21 rfl 0 rfl ?_
    refine v_getR fl_X5_15 hk.1 rfl dX5_append_22 ?_
    refine v_aload_n dX5_append_25 rfl 0 rfl ?_
    refine v_getI fl_X5_25 hk.1 rfl dX5_append_26 ?_
    refine v_iload_n dX5_append_29 rfl 2 rfl ?_
    refine v_guard (fun h2 => ?_)
    refine v_iast hk.2.2.1 h2 dX5_append_30 ?_
    refine v_aload_n dX5_append_31 rfl 0 rfl ?_
    refine v_getR fl_X5_18 hk.1 rfl dX5_append_32 ?_
    refine v_aload_n dX5_append_35 rfl 0 rfl ?_
    refine v_getI fl_X5_25 hk.1 rfl dX5_append_36 ?_
    refine v_iload_n dX5_append_39 rfl 3 rfl ?_
    refine v_guard (fun h3 => ?_)
    refine v_iast hk.2.2.2.1 h3 dX5_append_40 ?_
    refine v_aload_n dX5_append_41 rfl 0 rfl ?_
    refine v_getR fl_X5_21 hk.1 rfl dX5_append_42 ?_
    refine v_aload_n dX5_append_45 rfl 0 rfl ?_
    refine v_getI fl_X5_25 hk.1 rfl dX5_append_46 ?_
    refine v_iconst (v := 0) dX5_append_49 (by decide) ?_
    refine v_guard (fun h4 => ?_)
    refine v_zast hk.2.2.2.2 h4 dX5_append_50 ?_
    refine v_aload_n dX5_append_51 rfl 0 rfl ?_
    refine v_dup dX5_append_52 rfl ?_
    refine v_getI fl_X5_25 hk.1 rfl dX5_append_53 ?_
    refine v_iconst (v := 1) dX5_append_56 (by decide) ?_
    refine v_iadd dX5_append_57 ?_
    refine v_putI fl_X5_25 hk.1 rfl (ty0 := .int) rfl rfl rfl dX5_append_58 ?_
    refine v_aload_n dX5_append_61 rfl 0 rfl ?_
    refine v_getI fl_X5_25 hk.1 rfl dX5_append_62 ?_
    refine v_iconst (v := 1) dX5_append_65 (by decide) ?_
    refine v_isub dX5_append_66 ?_
    exact v_iret dX5_append_67 rfl rfl (by decide) (by decide)
  · refine v_iconst (v := (-1)) dX5_append_9 (by decide) ?_
    exact v_iret dX5_append_10 rfl rfl (by decide) (by decide)
theorem S_X5_append {g : GC} (hl : g.1.stackTraces = false) {k : Nat} (hk : isX5 k) {x1 : Int32} {x2 : Int32} {x3 : Int32} {w : XW} : ∀ q, f_X5_append k x1 x2 x3 w = some q → MM g (.code yX5_append cX5_append 4 (some .int)) yX5_append (rmL 3 0 0) 0 0 [.ref (g.2.1 + k), .int x1, .int x2, .int x3] w (oI q) := fun q hq => MM_of (own := RX5) hl (by decide) gw_765 rfl (Nat.le_of_ble_eq_true rfl) (W_X5_append hl hk q hq) ⟨rfl, rfl⟩

theorem dX5_remove_0 : decode cX5_remove 0 = .ok (.aload_n 0, 1) := by decide +kernel
theorem dX5_remove_1 : decode cX5_remove 1 = .ok (.iload_n 1, 1) := by decide +kernel
theorem dX5_remove_2 : decode cX5_remove 2 = .ok (.invokevirtual 35, 3) := by decide +kernel
theorem dX5_remove_5 : decode cX5_remove 5 = .ok (.ifCond .ne 8, 3) := by decide +kernel
theorem dX5_remove_8 : decode cX5_remove 8 = .ok (.aload_n 0, 1) := by decide +kernel
theorem dX5_remove_9 : decode cX5_remove 9 = .ok (.getfield 25, 3) := by decide +kernel
theorem dX5_remove_12 : decode cX5_remove 12 = .ok (.ireturn, 1) := by decide +kernel
theorem dX5_remove_13 : decode cX5_remove 13 = .ok (.iload_n 1, 1) := by decide +kernel
theorem dX5_remove_14 : decode cX5_remove 14 = .ok (.iconst 1, 1) := by decide +kernel
theorem dX5_remove_15 : decode cX5_remove 15 = .ok (.iadd, 1) := by decide +kernel
theorem dX5_remove_16 : decode cX5_remove 16 = .ok (.istore_n 2, 1) := by decide +kernel
theorem dX5_remove_17 : decode cX5_remove 17 = .ok (.iload_n 2, 1) := by decide +kernel
theorem dX5_remove_18 : decode cX5_remove 18 = .ok (.aload_n 0, 1) := by decide +kernel
theorem dX5_remove_19 : decode cX5_remove 19 = .ok (.getfield 25, 3) := by decide +kernel
theorem dX5_remove_22 : decode cX5_remove 22 = .ok (.if_icmp .ge 65, 3) := by decide +kernel
theorem dX5_remove_25 : decode cX5_remove 25 = .ok (.aload_n 0, 1) := by decide +kernel
theorem dX5_remove_26 : decode cX5_remove 26 = .ok (.getfield 9, 3) := by decide +kernel
theorem dX5_remove_29 : decode cX5_remove 29 = .ok (.iload_n 2, 1) := by decide +kernel
theorem dX5_remove_30 : decode cX5_remove 30 = .ok (.iconst 1, 1) := by decide +kernel
theorem dX5_remove_31 : decode cX5_remove 31 = .ok (.isub, 1) := by decide +kernel
theorem dX5_remove_32 : decode cX5_remove 32 = .ok (.aload_n 0, 1) := by decide +kernel
theorem dX5_remove_33 : decode cX5_remove 33 = .ok (.getfield 9, 3) := by decide +kernel
theorem dX5_remove_36 : decode cX5_remove 36 = .ok (.iload_n 2, 1) := by decide +kernel
theorem dX5_remove_37 : decode cX5_remove 37 = .ok (.iaload, 1) := by decide +kernel
theorem dX5_remove_38 : decode cX5_remove 38 = .ok (.iastore, 1) := by decide +kernel
theorem dX5_remove_39 : decode cX5_remove 39 = .ok (.aload_n 0, 1) := by decide +kernel
theorem dX5_remove_40 : decode cX5_remove 40 = .ok (.getfield 15, 3) := by decide +kernel
theorem dX5_remove_43 : decode cX5_remove 43 = .ok (.iload_n 2, 1) := by decide +kernel
theorem dX5_remove_44 : decode cX5_remove 44 = .ok (.iconst 1, 1) := by decide +kernel
theorem dX5_remove_45 : decode cX5_remove 45 = .ok (.isub, 1) := by decide +kernel
theorem dX5_remove_46 : decode cX5_remove 46 = .ok (.aload_n 0, 1) := by decide +kernel
theorem dX5_remove_47 : decode cX5_remove 47 = .ok (.getfield 15, 3) := by decide +kernel
theorem dX5_remove_50 : decode cX5_remove 50 = .ok (.iload_n 2, 1) := by decide +kernel
theorem dX5_remove_51 : decode cX5_remove 51 = .ok (.iaload, 1) := by decide +kernel
theorem dX5_remove_52 : decode cX5_remove 52 = .ok (.iastore, 1) := by decide +kernel
theorem dX5_remove_53 : decode cX5_remove 53 = .ok (.aload_n 0, 1) := by decide +kernel
theorem dX5_remove_54 : decode cX5_remove 54 = .ok (.getfield 18, 3) := by decide +kernel
theorem dX5_remove_57 : decode cX5_remove 57 = .ok (.iload_n 2, 1) := by decide +kernel
theorem dX5_remove_58 : decode cX5_remove 58 = .ok (.iconst 1, 1) := by decide +kernel
theorem dX5_remove_59 : decode cX5_remove 59 = .ok (.isub, 1) := by decide +kernel
theorem dX5_remove_60 : decode cX5_remove 60 = .ok (.aload_n 0, 1) := by decide +kernel
theorem dX5_remove_61 : decode cX5_remove 61 = .ok (.getfield 18, 3) := by decide +kernel
theorem dX5_remove_64 : decode cX5_remove 64 = .ok (.iload_n 2, 1) := by decide +kernel
theorem dX5_remove_65 : decode cX5_remove 65 = .ok (.iaload, 1) := by decide +kernel
theorem dX5_remove_66 : decode cX5_remove 66 = .ok (.iastore, 1) := by decide +kernel
theorem dX5_remove_67 : decode cX5_remove 67 = .ok (.aload_n 0, 1) := by decide +kernel
theorem dX5_remove_68 : decode cX5_remove 68 = .ok (.getfield 21, 3) := by decide +kernel
theorem dX5_remove_71 : decode cX5_remove 71 = .ok (.iload_n 2, 1) := by decide +kernel
theorem dX5_remove_72 : decode cX5_remove 72 = .ok (.iconst 1, 1) := by decide +kernel
theorem dX5_remove_73 : decode cX5_remove 73 = .ok (.isub, 1) := by decide +kernel
theorem dX5_remove_74 : decode cX5_remove 74 = .ok (.aload_n 0, 1) := by decide +kernel
theorem dX5_remove_75 : decode cX5_remove 75 = .ok (.getfield 21, 3) := by decide +kernel
theorem dX5_remove_78 : decode cX5_remove 78 = .ok (.iload_n 2, 1) := by decide +kernel
theorem dX5_remove_79 : decode cX5_remove 79 = .ok (.baload, 1) := by decide +kernel
theorem dX5_remove_80 : decode cX5_remove 80 = .ok (.bastore, 1) := by decide +kernel
theorem dX5_remove_81 : decode cX5_remove 81 = .ok (.iinc 2 1, 3) := by decide +kernel
theorem dX5_remove_84 : decode cX5_remove 84 = .ok (.goto (-67), 3) := by decide +kernel
theorem dX5_remove_87 : decode cX5_remove 87 = .ok (.aload_n 0, 1) := by decide +kernel
theorem dX5_remove_88 : decode cX5_remove 88 = .ok (.dup, 1) := by decide +kernel
theorem dX5_remove_89 : decode cX5_remove 89 = .ok (.getfield 25, 3) := by decide +kernel
theorem dX5_remove_92 : decode cX5_remove 92 = .ok (.iconst 1, 1) := by decide +kernel
theorem dX5_remove_93 : decode cX5_remove 93 = .ok (.isub, 1) := by decide +kernel
theorem dX5_remove_94 : decode cX5_remove 94 = .ok (.putfield 25, 3) := by decide +kernel
theorem dX5_remove_97 : decode cX5_remove 97 = .ok (.aload_n 0, 1) := by decide +kernel
theorem dX5_remove_98 : decode cX5_remove 98 = .ok (.getfield 25, 3) := by decide +kernel
theorem dX5_remove_101 : decode cX5_remove 101 = .ok (.ireturn, 1) := by decide +kernel
def f_X5_remove_17 (k : Nat) : Nat → Int32 → XW → Option (Int32 × XW)
  | 0, _, _ => none
  | n + 1, z2, w => (if (w.1 k 0) ≤ z2 then (some (((wset w k 0 ((w.1 k 0) - 1)).1 k 0), (wset w k 0 ((w.1 k 0) - 1)))) else (if inB z2 10 then (if inB (z2 - 1) 10 then (if inB z2 10 then (if inB (z2 - 1) 10 then (if inB z2 10 then (if inB (z2 - 1) 10 then (if inB z2 10 then (if inB (z2 - 1) 10 then (f_X5_remove_17 k n (z2 + 1) (wset (wset (wset (wset w (k + 1) (Int32.toNatClampNeg (z2 - 1)) (w.1 (k + 1) (Int32.toNatClampNeg z2))) (k + 2) (Int32.toNatClampNeg (z2 - 1)) ((wset w (k + 1) (Int32.toNatClampNeg (z2 - 1)) (w.1 (k + 1) (Int32.toNatClampNeg z2))).1 (k + 2) (Int32.toNatClampNeg z2))) (k + 3) (Int32.toNatClampNeg (z2 - 1)) ((wset (wset w (k + 1) (Int32.toNatClampNeg (z2 - 1)) (w.1 (k + 1) (Int32.toNatClampNeg z2))) (k + 2) (Int32.toNatClampNeg (z2 - 1)) ((wset w (k + 1) (Int32.toNatClampNeg (z2 - 1)) (w.1 (k + 1) (Int32.toNatClampNeg z2))).1 (k + 2) (Int32.toNatClampNeg z2))).1 (k + 3) (Int32.toNatClampNeg z2))) (k + 4) (Int32.toNatClampNeg (z2 - 1)) (vp_nar .boolean ((wset (wset (wset w (k + 1) (Int32.toNatClampNeg (z2 - 1)) (w.1 (k + 1) (Int32.toNatClampNeg z2))) (k + 2) (Int32.toNatClampNeg (z2 - 1)) ((wset w (k + 1) (Int32.toNatClampNeg (z2 - 1)) (w.1 (k + 1) (Int32.toNatClampNeg z2))).1 (k + 2) (Int32.toNatClampNeg z2))) (k + 3) (Int32.toNatClampNeg (z2 - 1)) ((wset (wset w (k + 1) (Int32.toNatClampNeg (z2 - 1)) (w.1 (k + 1) (Int32.toNatClampNeg z2))) (k + 2) (Int32.toNatClampNeg (z2 - 1)) ((wset w (k + 1) (Int32.toNatClampNeg (z2 - 1)) (w.1 (k + 1) (Int32.toNatClampNeg z2))).1 (k + 2) (Int32.toNatClampNeg z2))).1 (k + 3) (Int32.toNatClampNeg z2))).1 (k + 4) (Int32.toNatClampNeg z2))))) else none) else none) else none) else none) else none) else none) else none) else none))
set_option maxRecDepth 100000 in
theorem S_X5_remove_17 {g : GC} (hl : g.1.stackTraces = false) {k : Nat} (hk : isX5 k) : ∀ (n : Nat) (z2 : Int32) (w : XW), VE g cX5_remove 3 RX5 (some .int) [] (rmL 4 0 0) 0 0 oI 0 0 17 [(0, .ref (g.2.1 + k)), (2, .int z2)] [] w (f_X5_remove_17 k n z2 w) := by
  intro n
  induction n with
  | zero => intro z2 w; exact v_none
  | succ n ih =>
    intro z2 w
    rw [f_X5_remove_17]
    refine v_iload_n dX5_remove_17 rfl 1 rfl ?_
    refine v_aload_n dX5_remove_18 rfl 0 rfl ?_
    refine v_getI fl_X5_25 hk.1 rfl dX5_remove_19 ?_
    refine v_icmp_ge (tgt := 87) dX5_remove_22 (by decide) ?_ ?_
    · refine v_aload_n dX5_remove_87 rfl 0 rfl ?_
      refine v_dup dX5_remove_88 rfl ?_
      refine v_getI fl_X5_25 hk.1 rfl dX5_remove_89 ?_
      refine v_iconst (v := 1) dX5_remove_92 (by decide) ?_
      refine v_isub dX5_remove_93 ?_
      refine v_putI fl_X5_25 hk.1 rfl (ty0 := .int) rfl rfl rfl dX5_remove_94 ?_
      refine v_aload_n dX5_remove_97 rfl 0 rfl ?_
      refine v_getI fl_X5_25 hk.1 rfl dX5_remove_98 ?_
      exact v_iret dX5_remove_101 rfl rfl (by decide) (by decide)
    · refine v_aload_n dX5_remove_25 rfl 0 rfl ?_
      refine v_getR fl_X5_9 hk.1 rfl dX5_remove_26 ?_
      refine v_iload_n dX5_remove_29 rfl 1 rfl ?_
      refine v_iconst (v := 1) dX5_remove_30 (by decide) ?_
      refine v_isub dX5_remove_31 ?_
      refine v_aload_n dX5_remove_32 rfl 0 rfl ?_
      refine v_getR fl_X5_9 hk.1 rfl dX5_remove_33 ?_
      refine v_iload_n dX5_remove_36 rfl 1 rfl ?_
      refine v_guard (fun h2 => ?_)
      refine v_iald hk.2.1 h2 dX5_remove_37 ?_
      refine v_guard (fun h3 => ?_)
      refine v_iast hk.2.1 h3 dX5_remove_38 ?_
      refine v_aload_n dX5_remove_39 rfl 0 rfl ?_
      refine v_getR fl_X5_15 hk.1 rfl dX5_remove_40 ?_
      refine v_iload_n dX5_remove_43 rfl 1 rfl ?_
      refine v_iconst (v := 1) dX5_remove_44 (by decide) ?_
      refine v_isub dX5_remove_45 ?_
      refine v_aload_n dX5_remove_46 rfl 0 rfl ?_
      refine v_getR fl_X5_15 hk.1 rfl dX5_remove_47 ?_
      refine v_iload_n dX5_remove_50 rfl 1 rfl ?_
      refine v_guard (fun h4 => ?_)
      refine v_iald hk.2.2.1 h4 dX5_remove_51 ?_
      refine v_guard (fun h5 => ?_)
      refine v_iast hk.2.2.1 h5 dX5_remove_52 ?_
      refine v_aload_n dX5_remove_53 rfl 0 rfl ?_
      refine v_getR fl_X5_18 hk.1 rfl dX5_remove_54 ?_
      refine v_iload_n dX5_remove_57 rfl 1 rfl ?_
      refine v_iconst (v := 1) dX5_remove_58 (by decide) ?_
      refine v_isub dX5_remove_59 ?_
      refine v_aload_n dX5_remove_60 rfl 0 rfl ?_
      refine v_getR fl_X5_18 hk.1 rfl dX5_remove_61 ?_
      refine v_iload_n dX5_remove_64 rfl 1 rfl ?_
      refine v_guard (fun h6 => ?_)
      refine v_iald hk.2.2.2.1 h6 dX5_remove_65 ?_
      refine v_guard (fun h7 => ?_)
      refine v_iast hk.2.2.2.1 h7 dX5_remove_66 ?_
      refine v_aload_n dX5_remove_67 rfl 0 rfl ?_
      refine v_getR fl_X5_21 hk.1 rfl dX5_remove_68 ?_
      refine v_iload_n dX5_remove_71 rfl 1 rfl ?_
      refine v_iconst (v := 1) dX5_remove_72 (by decide) ?_
      refine v_isub dX5_remove_73 ?_
      refine v_aload_n dX5_remove_74 rfl 0 rfl ?_
      refine v_getR fl_X5_21 hk.1 rfl dX5_remove_75 ?_
      refine v_iload_n dX5_remove_78 rfl 1 rfl ?_
      refine v_guard (fun h8 => ?_)
      refine v_zald hk.2.2.2.2 h8 dX5_remove_79 ?_
      refine v_guard (fun h9 => ?_)
      refine v_zast hk.2.2.2.2 h9 dX5_remove_80 ?_
      refine v_iinc (v := (z2 + 1)) dX5_remove_81 (q := 1) rfl rfl (Nat.le_of_ble_eq_true rfl) rfl ?_
      refine v_goto (tgt := 17) dX5_remove_84 (by decide) ?_
      refine v_sub [1, 0] rfl ?_
      exact ih _ _
def f_X5_remove (k : Nat) (x1 : Int32) (w : XW) : Option (Int32 × XW) := (bI (f_X5_has k x1 w) (fun r1 w1 => (if r1 = 0 then (some ((w1.1 k 0), w1)) else (f_X5_remove_17 k 1000 (x1 + 1) w1))))
set_option maxRecDepth 100000 in
theorem W_X5_remove {g : GC} (hl : g.1.stackTraces = false) {k : Nat} (hk : isX5 k) {x1 : Int32} {w : XW} : VE g cX5_remove 3 RX5 (some .int) [] (rmL 4 0 0) 0 0 oI 0 0 0 [(0, .ref (g.2.1 + k)), (1, .int x1)] [] w (f_X5_remove k x1 w) := by
  unfold f_X5_remove
  refine v_aload_n dX5_remove_0 rfl 0 rfl ?_
  refine v_iload_n dX5_remove_1 rfl 1 rfl ?_
  refine v_callVi (As := [.int x1]) cv_X5_35 (S_X5_has hl hk) hk.1 rfl rfl rfl (Nat.le_of_ble_eq_true rfl) dX5_remove_2 (CR_rm (by decide) (by decide) (by decide) (by decide)) (fun r1 w1 => ?_)
  refine v_if_ne (tgt := 13) dX5_remove_5 (by decide) ?_ ?_
  · refine v_iload_n dX5_remove_13 rfl 1 rfl ?_
    refine v_iconst (v := 1) dX5_remove_14 (by decide) ?_
    refine v_iadd dX5_remove_15 ?_
    refine v_istore_n dX5_remove_16 rfl (Nat.le_of_ble_eq_true rfl) rfl ?_
    refine v_sub [1, 0] rfl ?_
    exact S_X5_remove_17 hl hk  _ _ _
  · refine v_aload_n dX5_remove_8 rfl 0 rfl ?_
    refine v_getI fl_X5_25 hk.1 rfl dX5_remove_9 ?_
    exact v_iret dX5_remove_12 rfl rfl (by decide) (by decide)
theorem S_X5_remove {g : GC} (hl : g.1.stackTraces = false) {k : Nat} (hk : isX5 k) {x1 : Int32} {w : XW} : ∀ q, f_X5_remove k x1 w = some q → MM g (.code yX5_remove cX5_remove 3 (some .int)) yX5_remove (rmL 4 0 0) 0 0 [.ref (g.2.1 + k), .int x1] w (oI q) := fun q hq => MM_of (own := RX5) hl (by decide) gw_769 rfl (Nat.le_of_ble_eq_true rfl) (W_X5_remove hl hk q hq) ⟨rfl, rfl⟩

theorem dX5_setBroken_0 : decode cX5_setBroken 0 = .ok (.aload_n 0, 1) := by decide +kernel
theorem dX5_setBroken_1 : decode cX5_setBroken 1 = .ok (.iload_n 1, 1) := by decide +kernel
theorem dX5_setBroken_2 : decode cX5_setBroken 2 = .ok (.invokevirtual 35, 3) := by decide +kernel
theorem dX5_setBroken_5 : decode cX5_setBroken 5 = .ok (.ifCond .eq 10, 3) := by decide +kernel
theorem dX5_setBroken_8 : decode cX5_setBroken 8 = .ok (.aload_n 0, 1) := by decide +kernel
theorem dX5_setBroken_9 : decode cX5_setBroken 9 = .ok (.getfield 21, 3) := by decide +kernel
theorem dX5_setBroken_12 : decode cX5_setBroken 12 = .ok (.iload_n 1, 1) := by decide +kernel
theorem dX5_setBroken_13 : decode cX5_setBroken 13 = .ok (.iload_n 2, 1) := by decide +kernel
theorem dX5_setBroken_14 : decode cX5_setBroken 14 = .ok (.bastore, 1) := by decide +kernel
theorem dX5_setBroken_15 : decode cX5_setBroken 15 = .ok (.aload_n 0, 1) := by decide +kernel
theorem dX5_setBroken_16 : decode cX5_setBroken 16 = .ok (.invokevirtual 39, 3) := by decide +kernel
theorem dX5_setBroken_19 : decode cX5_setBroken 19 = .ok (.ireturn, 1) := by decide +kernel
def f_X5_setBroken (k : Nat) (x1 : Int32) (x2 : Int32) (w : XW) : Option (Int32 × XW) := (bI (f_X5_has k x1 w) (fun r1 w1 => (if r1 = 0 then (bI (f_X5_brokenCount k w1) (fun r2 w2 => (some (r2, w2)))) else (if inB x1 10 then (bI (f_X5_brokenCount k (wset w1 (k + 4) (Int32.toNatClampNeg x1) (vp_nar .boolean x2))) (fun r4 w4 => (some (r4, w4)))) else none))))
set_option maxRecDepth 100000 in
theorem W_X5_setBroken {g : GC} (hl : g.1.stackTraces = false) {k : Nat} (hk : isX5 k) {x1 : Int32} {x2 : Int32} {w : XW} : VE g cX5_setBroken 3 RX5 (some .int) [] (rmL 4 0 0) 0 0 oI 0 0 0 [(0, .ref (g.2.1 + k)), (1, .int x1), (2, .int x2)] [] w (f_X5_setBroken k x1 x2 w) := by
  unfold f_X5_setBroken
  refine v_aload_n dX5_setBroken_0 rfl 0 rfl ?_
  refine v_iload_n dX5_setBroken_1 rfl 1 rfl ?_
  refine v_callVi (As := [.int x1]) cv_X5_35 (S_X5_has hl hk) hk.1 rfl rfl rfl (Nat.le_of_ble_eq_true rfl) dX5_setBroken_2 (CR_rm (by decide) (by decide) (by decide) (by decide)) (fun r1 w1 => ?_)
  refine v_if_eq (tgt := 15) dX5_setBroken_5 (by decide) ?_ ?_
  · refine v_aload_n dX5_setBroken_15 rfl 0 rfl ?_
    refine v_callVi (As := []) cv_X5_39 (S_X5_brokenCount hl hk) hk.1 rfl rfl rfl (Nat.le_of_ble_eq_true rfl) dX5_setBroken_16 (CR_rm (by decide) (by decide) (by decide) (by decide)) (fun r2 w2 => ?_)
    exact v_iret dX5_setBroken_19 rfl rfl (by decide) (by decide)
  · refine v_aload_n dX5_setBroken_8 rfl 0 rfl ?_
    refine v_getR fl_X5_21 hk.1 rfl dX5_setBroken_9 ?_
    refine v_iload_n dX5_setBroken_12 rfl 1 rfl ?_
    refine v_iload_n dX5_setBroken_13 rfl 2 rfl ?_
    refine v_guard (fun h3 => ?_)
    refine v_zast hk.2.2.2.2 h3 dX5_setBroken_14 ?_
    refine v_aload_n dX5_setBroken_15 rfl 0 rfl ?_
    refine v_callVi (As := []) cv_X5_39 (S_X5_brokenCount hl hk) hk.1 rfl rfl rfl (Nat.le_of_ble_eq_true rfl) dX5_setBroken_16 (CR_rm (by decide) (by decide) (by decide) (by decide)) (fun r4 w4 => ?_)
    exact v_iret dX5_setBroken_19 rfl rfl (by decide) (by decide)
theorem S_X5_setBroken {g : GC} (hl : g.1.stackTraces = false) {k : Nat} (hk : isX5 k) {x1 : Int32} {x2 : Int32} {w : XW} : ∀ q, f_X5_setBroken k x1 x2 w = some q → MM g (.code yX5_setBroken cX5_setBroken 3 (some .int)) yX5_setBroken (rmL 4 0 0) 0 0 [.ref (g.2.1 + k), .int x1, .int x2] w (oI q) := fun q hq => MM_of (own := RX5) hl (by decide) gw_773 rfl (Nat.le_of_ble_eq_true rfl) (W_X5_setBroken hl hk q hq) ⟨rfl, rfl⟩
end
section
theorem dX6_at_0 : decode cX6_at 0 = .ok (.iload_n 1, 1) := by decide +kernel
theorem dX6_at_1 : decode cX6_at 1 = .ok (.ifCond .lt 20, 3) := by decide +kernel
theorem dX6_at_4 : decode cX6_at 4 = .ok (.iload_n 1, 1) := by decide +kernel
theorem dX6_at_5 : decode cX6_at 5 = .ok (.aload_n 0, 1) := by decide +kernel
theorem dX6_at_6 : decode cX6_at 6 = .ok (.getfield 21, 3) := by decide +kernel
theorem dX6_at_9 : decode cX6_at 9 = .ok (.if_icmp .ge 12, 3) := by decide +kernel
theorem dX6_at_12 : decode cX6_at 12 = .ok (.aload_n 0, 1) := by decide +kernel
theorem dX6_at_13 : decode cX6_at 13 = .ok (.getfield 15, 3) := by decide +kernel
theorem dX6_at_16 : decode cX6_at 16 = .ok (.iload_n 1, 1) := by decide +kernel
theorem dX6_at_17 : decode cX6_at 17 = .ok (.caload, 1) := by decide +kernel
theorem dX6_at_18 : decode cX6_at 18 = .ok (.goto 4, 3) := by decide +kernel
theorem dX6_at_21 : decode cX6_at 21 = .ok (.iconst 0, 1) := by decide +kernel
theorem dX6_at_22 : decode cX6_at 22 = .ok (.ireturn, 1) := by decide +kernel
def f_X6_at (k : Nat) (x1 : Int32) (w : XW) : Option (Int32 × XW) := (if x1 < 0 then (some (0, w)) else (if (w.1 k 1) ≤ x1 then (some (0, w)) else (if inB x1 (rowN k) then (if vp_nar .char (w.1 (k + 1) (Int32.toNatClampNeg x1)) = (w.1 (k + 1) (Int32.toNatClampNeg x1)) then (some ((w.1 (k + 1) (Int32.toNatClampNeg x1)), w)) else none) else none)))
set_option maxRecDepth 100000 in
theorem W_X6_at {g : GC} (hl : g.1.stackTraces = false) {k : Nat} (hk : isX6 k) {x1 : Int32} {w : XW} : VE g cX6_at 2 RX6 (some .char) [] (rmL 3 0 0) 0 0 oI 0 0 0 [(0, .ref (g.2.1 + k)), (1, .int x1)] [] w (f_X6_at k x1 w) := by
  unfold f_X6_at
  refine v_iload_n dX6_at_0 rfl 1 rfl ?_
  refine v_if_lt (tgt := 21) dX6_at_1 (by decide) ?_ ?_
  · refine v_iconst (v := 0) dX6_at_21 (by decide) ?_
    exact v_zret dX6_at_22 rfl rfl rfl (by decide) (by decide)
  · refine v_iload_n dX6_at_4 rfl 1 rfl ?_
    refine v_aload_n dX6_at_5 rfl 0 rfl ?_
    refine v_getI fl_X6_21 hk.1 rfl dX6_at_6 ?_
    refine v_icmp_ge (tgt := 21) dX6_at_9 (by decide) ?_ ?_
    · refine v_iconst (v := 0) dX6_at_21 (by decide) ?_
      exact v_zret dX6_at_22 rfl rfl rfl (by decide) (by decide)
    · refine v_aload_n dX6_at_12 rfl 0 rfl ?_
      refine v_getR fl_X6_15 hk.1 rfl dX6_at_13 ?_
      refine v_iload_n dX6_at_16 rfl 1 rfl ?_
      refine v_guard (fun h1 => ?_)
      refine v_cald hk.2 h1 dX6_at_17 ?_
      refine v_goto (tgt := 22) dX6_at_18 (by decide) ?_
      refine v_guard (fun h2 => ?_)
      exact v_zret dX6_at_22 rfl (narC_ok h2) rfl (by decide) (by decide)
theorem S_X6_at {g : GC} (hl : g.1.stackTraces = false) {k : Nat} (hk : isX6 k) {x1 : Int32} {w : XW} : ∀ q, f_X6_at k x1 w = some q → MM g (.code yX6_at cX6_at 2 (some .char)) yX6_at (rmL 3 0 0) 0 0 [.ref (g.2.1 + k), .int x1] w (oI q) := fun q hq => MM_of (own := RX6) hl (by decide) gw_1214 rfl (Nat.le_of_ble_eq_true rfl) (W_X6_at hl hk q hq) ⟨rfl, rfl⟩

theorem dX6_isFull_0 : decode cX6_isFull 0 = .ok (.aload_n 0, 1) := by decide +kernel
theorem dX6_isFull_1 : decode cX6_isFull 1 = .ok (.getfield 21, 3) := by decide +kernel
theorem dX6_isFull_4 : decode cX6_isFull 4 = .ok (.aload_n 0, 1) := by decide +kernel
theorem dX6_isFull_5 : decode cX6_isFull 5 = .ok (.getfield 15, 3) := by decide +kernel
theorem dX6_isFull_8 : decode cX6_isFull 8 = .ok (.arraylength, 1) := by decide +kernel
theorem dX6_isFull_9 : decode cX6_isFull 9 = .ok (.if_icmp .lt 7, 3) := by decide +kernel
theorem dX6_isFull_12 : decode cX6_isFull 12 = .ok (.iconst 1, 1) := by decide +kernel
theorem dX6_isFull_13 : decode cX6_isFull 13 = .ok (.goto 4, 3) := by decide +kernel
theorem dX6_isFull_16 : decode cX6_isFull 16 = .ok (.iconst 0, 1) := by decide +kernel
theorem dX6_isFull_17 : decode cX6_isFull 17 = .ok (.ireturn, 1) := by decide +kernel
def f_X6_isFull (k : Nat) (w : XW) : Option (Int32 × XW) := (if (w.1 k 1) < (Int32.ofNat (rowN k)) then (some (0, w)) else (some (1, w)))
set_option maxRecDepth 100000 in
theorem W_X6_isFull {g : GC} (hl : g.1.stackTraces = false) {k : Nat} (hk : isX6 k) {w : XW} : VE g cX6_isFull 1 RX6 (some .boolean) [] (rmL 3 0 0) 0 0 oI 0 0 0 [(0, .ref (g.2.1 + k))] [] w (f_X6_isFull k w) := by
  unfold f_X6_isFull
  refine v_aload_n dX6_isFull_0 rfl 0 rfl ?_
  refine v_getI fl_X6_21 hk.1 rfl dX6_isFull_1 ?_
  refine v_aload_n dX6_isFull_4 rfl 0 rfl ?_
  refine v_getR fl_X6_15 hk.1 rfl dX6_isFull_5 ?_
  refine v_alen (v := (Int32.ofNat (rowN k))) hk.2 (by decide) rfl dX6_isFull_8 ?_
  refine v_icmp_lt (tgt := 16) dX6_isFull_9 (by decide) ?_ ?_
  · refine v_iconst (v := 0) dX6_isFull_16 (by decide) ?_
    exact v_zret dX6_isFull_17 rfl rfl rfl (by decide) (by decide)
  · refine v_iconst (v := 1) dX6_isFull_12 (by decide) ?_
    refine v_goto (tgt := 17) dX6_isFull_13 (by decide) ?_
    exact v_zret dX6_isFull_17 rfl rfl rfl (by decide) (by decide)
theorem S_X6_isFull {g : GC} (hl : g.1.stackTraces = false) {k : Nat} (hk : isX6 k) {w : XW} : ∀ q, f_X6_isFull k w = some q → MM g (.code yX6_isFull cX6_isFull 1 (some .boolean)) yX6_isFull (rmL 3 0 0) 0 0 [.ref (g.2.1 + k)] w (oI q) := fun q hq => MM_of (own := RX6) hl (by decide) gw_1166 rfl (Nat.le_of_ble_eq_true rfl) (W_X6_isFull hl hk q hq) ⟨rfl, rfl⟩

theorem dX6_put_0 : decode cX6_put 0 = .ok (.aload_n 0, 1) := by decide +kernel
theorem dX6_put_1 : decode cX6_put 1 = .ok (.getfield 21, 3) := by decide +kernel
theorem dX6_put_4 : decode cX6_put 4 = .ok (.aload_n 0, 1) := by decide +kernel
theorem dX6_put_5 : decode cX6_put 5 = .ok (.getfield 15, 3) := by decide +kernel
theorem dX6_put_8 : decode cX6_put 8 = .ok (.arraylength, 1) := by decide +kernel
theorem dX6_put_9 : decode cX6_put 9 = .ok (.if_icmp .ge 23, 3) := by decide +kernel
theorem dX6_put_12 : decode cX6_put 12 = .ok (.aload_n 0, 1) := by decide +kernel
theorem dX6_put_13 : decode cX6_put 13 = .ok (.getfield 15, 3) := by decide +kernel
theorem dX6_put_16 : decode cX6_put 16 = .ok (.aload_n 0, 1) := by decide +kernel
theorem dX6_put_17 : decode cX6_put 17 = .ok (.getfield 21, 3) := by decide +kernel
theorem dX6_put_20 : decode cX6_put 20 = .ok (.iload_n 1, 1) := by decide +kernel
theorem dX6_put_21 : decode cX6_put 21 = .ok (.castore, 1) := by decide +kernel
theorem dX6_put_22 : decode cX6_put 22 = .ok (.aload_n 0, 1) := by decide +kernel
theorem dX6_put_23 : decode cX6_put 23 = .ok (.dup, 1) := by decide +kernel
theorem dX6_put_24 : decode cX6_put 24 = .ok (.getfield 21, 3) := by decide +kernel
theorem dX6_put_27 : decode cX6_put 27 = .ok (.iconst 1, 1) := by decide +kernel
theorem dX6_put_28 : decode cX6_put 28 = .ok (.iadd, 1) := by decide +kernel
theorem dX6_put_29 : decode cX6_put 29 = .ok (.putfield 21, 3) := by decide +kernel
theorem dX6_put_32 : decode cX6_put 32 = .ok (.return_, 1) := by decide +kernel
def f_X6_put (k : Nat) (x1 : Int32) (w : XW) : Option (XW) := (if (Int32.ofNat (rowN k)) ≤ (w.1 k 1) then (some w) else (if inB (w.1 k 1) (rowN k) then (some (wset (wset w (k + 1) (Int32.toNatClampNeg (w.1 k 1)) (vp_nar .char x1)) k 1 (((wset w (k + 1) (Int32.toNatClampNeg (w.1 k 1)) (vp_nar .char x1)).1 k 1) + 1))) else none))
set_option maxRecDepth 100000 in
theorem W_X6_put {g : GC} (hl : g.1.stackTraces = false) {k : Nat} (hk : isX6 k) {x1 : Int32} {w : XW} : VE g cX6_put 2 RX6 none [] (rmL 3 0 0) 0 0 oV 0 0 0 [(0, .ref (g.2.1 + k)), (1, .int x1)] [] w (f_X6_put k x1 w) := by
  unfold f_X6_put
  refine v_aload_n dX6_put_0 rfl 0 rfl ?_
  refine v_getI fl_X6_21 hk.1 rfl dX6_put_1 ?_
  refine v_aload_n dX6_put_4 rfl 0 rfl ?_
  refine v_getR fl_X6_15 hk.1 rfl dX6_put_5 ?_
  refine v_alen (v := (Int32.ofNat (rowN k))) hk.2 (by decide) rfl dX6_put_8 ?_
  refine v_icmp_ge (tgt := 32) dX6_put_9 (by decide) ?_ ?_
  · exact v_vret dX6_put_32 rfl rfl (by decide) (by decide)
  · refine v_aload_n dX6_put_12 rfl 0 rfl ?_
    refine v_getR fl_X6_15 hk.1 rfl dX6_put_13 ?_
    refine v_aload_n dX6_put_16 rfl 0 rfl ?_
    refine v_getI fl_X6_21 hk.1 rfl dX6_put_17 ?_
    refine v_iload_n dX6_put_20 rfl 1 rfl ?_
    refine v_guard (fun h1 => ?_)
    refine v_cast hk.2 h1 dX6_put_21 ?_
    refine v_aload_n dX6_put_22 rfl 0 rfl ?_
    refine v_dup dX6_put_23 rfl ?_
    refine v_getI fl_X6_21 hk.1 rfl dX6_put_24 ?_
    refine v_iconst (v := 1) dX6_put_27 (by decide) ?_
    refine v_iadd dX6_put_28 ?_
    refine v_putI fl_X6_21 hk.1 rfl (ty0 := .int) rfl rfl rfl dX6_put_29 ?_
    exact v_vret dX6_put_32 rfl rfl (by decide) (by decide)
theorem S_X6_put {g : GC} (hl : g.1.stackTraces = false) {k : Nat} (hk : isX6 k) {x1 : Int32} {w : XW} : ∀ q, f_X6_put k x1 w = some q → MM g (.code yX6_put cX6_put 2 none) yX6_put (rmL 3 0 0) 0 0 [.ref (g.2.1 + k), .int x1] w (oV q) := fun q hq => MM_of (own := RX6) hl (by decide) gw_507 rfl (Nat.le_of_ble_eq_true rfl) (W_X6_put hl hk q hq) ⟨rfl, rfl⟩

theorem dX6_putNumber_0 : decode cX6_putNumber 0 = .ok (.iload_n 1, 1) := by decide +kernel
theorem dX6_putNumber_1 : decode cX6_putNumber 1 = .ok (.bipush 9, 2) := by decide +kernel
theorem dX6_putNumber_3 : decode cX6_putNumber 3 = .ok (.if_icmp .le 18, 3) := by decide +kernel
theorem dX6_putNumber_6 : decode cX6_putNumber 6 = .ok (.aload_n 0, 1) := by decide +kernel
theorem dX6_putNumber_7 : decode cX6_putNumber 7 = .ok (.bipush 48, 2) := by decide +kernel
theorem dX6_putNumber_9 : decode cX6_putNumber 9 = .ok (.iload_n 1, 1) := by decide +kernel
theorem dX6_putNumber_10 : decode cX6_putNumber 10 = .ok (.bipush 10, 2) := by decide +kernel
theorem dX6_putNumber_12 : decode cX6_putNumber 12 = .ok (.idiv, 1) := by decide +kernel
theorem dX6_putNumber_13 : decode cX6_putNumber 13 = .ok (.bipush 10, 2) := by decide +kernel
theorem dX6_putNumber_15 : decode cX6_putNumber 15 = .ok (.irem, 1) := by decide +kernel
theorem dX6_putNumber_16 : decode cX6_putNumber 16 = .ok (.iadd, 1) := by decide +kernel
theorem dX6_putNumber_17 : decode cX6_putNumber 17 = .ok (.i2c, 1) := by decide +kernel
theorem dX6_putNumber_18 : decode cX6_putNumber 18 = .ok (.invokevirtual 25, 3) := by decide +kernel
theorem dX6_putNumber_21 : decode cX6_putNumber 21 = .ok (.aload_n 0, 1) := by decide +kernel
theorem dX6_putNumber_22 : decode cX6_putNumber 22 = .ok (.bipush 48, 2) := by decide +kernel
theorem dX6_putNumber_24 : decode cX6_putNumber 24 = .ok (.iload_n 1, 1) := by decide +kernel
theorem dX6_putNumber_25 : decode cX6_putNumber 25 = .ok (.bipush 10, 2) := by decide +kernel
theorem dX6_putNumber_27 : decode cX6_putNumber 27 = .ok (.irem, 1) := by decide +kernel
theorem dX6_putNumber_28 : decode cX6_putNumber 28 = .ok (.iadd, 1) := by decide +kernel
theorem dX6_putNumber_29 : decode cX6_putNumber 29 = .ok (.i2c, 1) := by decide +kernel
theorem dX6_putNumber_30 : decode cX6_putNumber 30 = .ok (.invokevirtual 25, 3) := by decide +kernel
theorem dX6_putNumber_33 : decode cX6_putNumber 33 = .ok (.return_, 1) := by decide +kernel
def f_X6_putNumber (k : Nat) (x1 : Int32) (w : XW) : Option (XW) := (if x1 ≤ 9 then (bV (f_X6_put k (((Int32.toUInt32 (48 + (x1 - x1 / 10 * 10))) % 65536).toInt32) w) (fun w1 => (some w1))) else (bV (f_X6_put k (((Int32.toUInt32 (48 + ((x1 / 10) - (x1 / 10) / 10 * 10))) % 65536).toInt32) w) (fun w2 => (bV (f_X6_put k (((Int32.toUInt32 (48 + (x1 - x1 / 10 * 10))) % 65536).toInt32) w2) (fun w3 => (some w3))))))
set_option maxRecDepth 100000 in
theorem W_X6_putNumber {g : GC} (hl : g.1.stackTraces = false) {k : Nat} (hk : isX6 k) {x1 : Int32} {w : XW} : VE g cX6_putNumber 2 RX6 none [] (rmL 4 0 0) 0 0 oV 0 0 0 [(0, .ref (g.2.1 + k)), (1, .int x1)] [] w (f_X6_putNumber k x1 w) := by
  unfold f_X6_putNumber
  refine v_iload_n dX6_putNumber_0 rfl 1 rfl ?_
  refine v_bipush (v := 9) dX6_putNumber_1 (by decide) ?_
  refine v_icmp_le (tgt := 21) dX6_putNumber_3 (by decide) ?_ ?_
  · refine v_aload_n dX6_putNumber_21 rfl 0 rfl ?_
    refine v_bipush (v := 48) dX6_putNumber_22 (by decide) ?_
    refine v_iload_n dX6_putNumber_24 rfl 1 rfl ?_
    refine v_bipush (v := 10) dX6_putNumber_25 (by decide) ?_
    refine v_irem dX6_putNumber_27 (by decide) ?_
    refine v_iadd dX6_putNumber_28 ?_
    refine v_i2c dX6_putNumber_29 ?_
    refine v_callVv (As := [.int (((Int32.toUInt32 (48 + (x1 - x1 / 10 * 10))) % 65536).toInt32)]) cv_X6_25 (S_X6_put hl hk) hk.1 rfl rfl rfl (Nat.le_of_ble_eq_true rfl) dX6_putNumber_30 (CR_rm (by decide) (by decide) (by decide) (by decide)) (fun w1 => ?_)
    exact v_vret dX6_putNumber_33 rfl rfl (by decide) (by decide)
  · refine v_aload_n dX6_putNumber_6 rfl 0 rfl ?_
    refine v_bipush (v := 48) dX6_putNumber_7 (by decide) ?_
    refine v_iload_n dX6_putNumber_9 rfl 1 rfl ?_
    refine v_bipush (v := 10) dX6_putNumber_10 (by decide) ?_
    refine v_idiv dX6_putNumber_12 (by decide) ?_
    refine v_bipush (v := 10) dX6_putNumber_13 (by decide) ?_
    refine v_irem dX6_putNumber_15 (by decide) ?_
    refine v_iadd dX6_putNumber_16 ?_
    refine v_i2c dX6_putNumber_17 ?_
    refine v_callVv (As := [.int (((Int32.toUInt32 (48 + ((x1 / 10) - (x1 / 10) / 10 * 10))) % 65536).toInt32)]) cv_X6_25 (S_X6_put hl hk) hk.1 rfl rfl rfl (Nat.le_of_ble_eq_true rfl) dX6_putNumber_18 (CR_rm (by decide) (by decide) (by decide) (by decide)) (fun w2 => ?_)
    refine v_aload_n dX6_putNumber_21 rfl 0 rfl ?_
    refine v_bipush (v := 48) dX6_putNumber_22 (by decide) ?_
    refine v_iload_n dX6_putNumber_24 rfl 1 rfl ?_
    refine v_bipush (v := 10) dX6_putNumber_25 (by decide) ?_
    refine v_irem dX6_putNumber_27 (by decide) ?_
    refine v_iadd dX6_putNumber_28 ?_
    refine v_i2c dX6_putNumber_29 ?_
    refine v_callVv (As := [.int (((Int32.toUInt32 (48 + (x1 - x1 / 10 * 10))) % 65536).toInt32)]) cv_X6_25 (S_X6_put hl hk) hk.1 rfl rfl rfl (Nat.le_of_ble_eq_true rfl) dX6_putNumber_30 (CR_rm (by decide) (by decide) (by decide) (by decide)) (fun w3 => ?_)
    exact v_vret dX6_putNumber_33 rfl rfl (by decide) (by decide)
theorem S_X6_putNumber {g : GC} (hl : g.1.stackTraces = false) {k : Nat} (hk : isX6 k) {x1 : Int32} {w : XW} : ∀ q, f_X6_putNumber k x1 w = some q → MM g (.code yX6_putNumber cX6_putNumber 2 none) yX6_putNumber (rmL 4 0 0) 0 0 [.ref (g.2.1 + k), .int x1] w (oV q) := fun q hq => MM_of (own := RX6) hl (by decide) gw_503 rfl (Nat.le_of_ble_eq_true rfl) (W_X6_putNumber hl hk q hq) ⟨rfl, rfl⟩

theorem dX6_empty_0 : decode cX6_empty 0 = .ok (.aload_n 0, 1) := by decide +kernel
theorem dX6_empty_1 : decode cX6_empty 1 = .ok (.iconst 0, 1) := by decide +kernel
theorem dX6_empty_2 : decode cX6_empty 2 = .ok (.putfield 21, 3) := by decide +kernel
theorem dX6_empty_5 : decode cX6_empty 5 = .ok (.return_, 1) := by decide +kernel
def f_X6_empty (k : Nat) (w : XW) : Option (XW) := (some (wset w k 1 0))
set_option maxRecDepth 100000 in
theorem W_X6_empty {g : GC} (hl : g.1.stackTraces = false) {k : Nat} (hk : isX6 k) {w : XW} : VE g cX6_empty 1 RX6 none [] (rmL 3 0 0) 0 0 oV 0 0 0 [(0, .ref (g.2.1 + k))] [] w (f_X6_empty k w) := by
  unfold f_X6_empty
  refine v_aload_n dX6_empty_0 rfl 0 rfl ?_
  refine v_iconst (v := 0) dX6_empty_1 (by decide) ?_
  refine v_putI fl_X6_21 hk.1 rfl (ty0 := .int) rfl rfl rfl dX6_empty_2 ?_
  exact v_vret dX6_empty_5 rfl rfl (by decide) (by decide)
theorem S_X6_empty {g : GC} (hl : g.1.stackTraces = false) {k : Nat} (hk : isX6 k) {w : XW} : ∀ q, f_X6_empty k w = some q → MM g (.code yX6_empty cX6_empty 1 none) yX6_empty (rmL 3 0 0) 0 0 [.ref (g.2.1 + k)] w (oV q) := fun q hq => MM_of (own := RX6) hl (by decide) gw_491 rfl (Nat.le_of_ble_eq_true rfl) (W_X6_empty hl hk q hq) ⟨rfl, rfl⟩
end
section
theorem dX1_inGrid_0 : decode cX1_inGrid 0 = .ok (.iload_n 0, 1) := by decide +kernel
theorem dX1_inGrid_1 : decode cX1_inGrid 1 = .ok (.ifCond .lt 23, 3) := by decide +kernel
theorem dX1_inGrid_4 : decode cX1_inGrid 4 = .ok (.iload_n 0, 1) := by decide +kernel
theorem dX1_inGrid_5 : decode cX1_inGrid 5 = .ok (.bipush 7, 2) := by decide +kernel
theorem dX1_inGrid_7 : decode cX1_inGrid 7 = .ok (.if_icmp .ge 17, 3) := by decide +kernel
theorem dX1_inGrid_10 : decode cX1_inGrid 10 = .ok (.iload_n 1, 1) := by decide +kernel
theorem dX1_inGrid_11 : decode cX1_inGrid 11 = .ok (.ifCond .lt 13, 3) := by decide +kernel
theorem dX1_inGrid_14 : decode cX1_inGrid 14 = .ok (.iload_n 1, 1) := by decide +kernel
theorem dX1_inGrid_15 : decode cX1_inGrid 15 = .ok (.bipush 7, 2) := by decide +kernel
theorem dX1_inGrid_17 : decode cX1_inGrid 17 = .ok (.if_icmp .ge 7, 3) := by decide +kernel
theorem dX1_inGrid_20 : decode cX1_inGrid 20 = .ok (.iconst 1, 1) := by decide +kernel
theorem dX1_inGrid_21 : decode cX1_inGrid 21 = .ok (.goto 4, 3) := by decide +kernel
theorem dX1_inGrid_24 : decode cX1_inGrid 24 = .ok (.iconst 0, 1) := by decide +kernel
theorem dX1_inGrid_25 : decode cX1_inGrid 25 = .ok (.ireturn, 1) := by decide +kernel
def f_X1_inGrid (x0 : Int32) (x1 : Int32) (w : XW) : Option (Int32 × XW) := (if x0 < 0 then (some (0, w)) else (if 7 ≤ x0 then (some (0, w)) else (if x1 < 0 then (some (0, w)) else (if 7 ≤ x1 then (some (0, w)) else (some (1, w))))))
set_option maxRecDepth 100000 in
theorem W_X1_inGrid {g : GC} (hl : g.1.stackTraces = false) {x0 : Int32} {x1 : Int32} {w : XW} : VE g cX1_inGrid 2 RX1 (some .boolean) [] (rmL 3 0 0) 0 0 oI 0 0 0 [(0, .int x0), (1, .int x1)] [] w (f_X1_inGrid x0 x1 w) := by
  unfold f_X1_inGrid
  refine v_iload_n dX1_inGrid_0 rfl 0 rfl ?_
  refine v_if_lt (tgt := 24) dX1_inGrid_1 (by decide) ?_ ?_
  · refine v_iconst (v := 0) dX1_inGrid_24 (by decide) ?_
    exact v_zret dX1_inGrid_25 rfl rfl rfl (by decide) (by decide)
  · refine v_iload_n dX1_inGrid_4 rfl 0 rfl ?_
    refine v_bipush (v := 7) dX1_inGrid_5 (by decide) ?_
    refine v_icmp_ge (tgt := 24) dX1_inGrid_7 (by decide) ?_ ?_
    · refine v_iconst (v := 0) dX1_inGrid_24 (by decide) ?_
      exact v_zret dX1_inGrid_25 rfl rfl rfl (by decide) (by decide)
    · refine v_iload_n dX1_inGrid_10 rfl 1 rfl ?_
      refine v_if_lt (tgt := 24) dX1_inGrid_11 (by decide) ?_ ?_
      · refine v_iconst (v := 0) dX1_inGrid_24 (by decide) ?_
        exact v_zret dX1_inGrid_25 rfl rfl rfl (by decide) (by decide)
      · refine v_iload_n dX1_inGrid_14 rfl 1 rfl ?_
        refine v_bipush (v := 7) dX1_inGrid_15 (by decide) ?_
        refine v_icmp_ge (tgt := 24) dX1_inGrid_17 (by decide) ?_ ?_
        · refine v_iconst (v := 0) dX1_inGrid_24 (by decide) ?_
          exact v_zret dX1_inGrid_25 rfl rfl rfl (by decide) (by decide)
        · refine v_iconst (v := 1) dX1_inGrid_20 (by decide) ?_
          refine v_goto (tgt := 25) dX1_inGrid_21 (by decide) ?_
          exact v_zret dX1_inGrid_25 rfl rfl rfl (by decide) (by decide)
theorem S_X1_inGrid {g : GC} (hl : g.1.stackTraces = false) {x0 : Int32} {x1 : Int32} {w : XW} : ∀ q, f_X1_inGrid x0 x1 w = some q → MM g (.code yX1_inGrid cX1_inGrid 2 (some .boolean)) yX1_inGrid (rmL 3 0 0) 0 0 [.int x0, .int x1] w (oI q) := fun q hq => MM_of (own := RX1) hl (by decide) gw_802 rfl (Nat.le_of_ble_eq_true rfl) (W_X1_inGrid hl q hq) ⟨rfl, rfl⟩

theorem dX1_addSpare_0 : decode cX1_addSpare 0 = .ok (.iload_n 1, 1) := by decide +kernel
theorem dX1_addSpare_1 : decode cX1_addSpare 1 = .ok (.iload_n 2, 1) := by decide +kernel
theorem dX1_addSpare_2 : decode cX1_addSpare 2 = .ok (.invokestatic 55, 3) := by decide +kernel
theorem dX1_addSpare_5 : decode cX1_addSpare 5 = .ok (.ifCond .eq 18, 3) := by decide +kernel
theorem dX1_addSpare_8 : decode cX1_addSpare 8 = .ok (.aload_n 0, 1) := by decide +kernel
theorem dX1_addSpare_9 : decode cX1_addSpare 9 = .ok (.getfield 9, 3) := by decide +kernel
theorem dX1_addSpare_12 : decode cX1_addSpare 12 = .ok (.iload_n 1, 1) := by decide +kernel
theorem dX1_addSpare_13 : decode cX1_addSpare 13 = .ok (.bipush 7, 2) := by decide +kernel
theorem dX1_addSpare_15 : decode cX1_addSpare 15 = .ok (.imul, 1) := by decide +kernel
theorem dX1_addSpare_16 : decode cX1_addSpare 16 = .ok (.iload_n 2, 1) := by decide +kernel
theorem dX1_addSpare_17 : decode cX1_addSpare 17 = .ok (.iadd, 1) := by decide +kernel
theorem dX1_addSpare_18 : decode cX1_addSpare 18 = .ok (.dup2, 1) := by decide +kernel
theorem dX1_addSpare_19 : decode cX1_addSpare 19 = .ok (.iaload, 1) := by decide +kernel
theorem dX1_addSpare_20 : decode cX1_addSpare 20 = .ok (.iload_n 3, 1) := by decide +kernel
theorem dX1_addSpare_21 : decode cX1_addSpare 21 = .ok (.iadd, 1) := by decide +kernel
theorem dX1_addSpare_22 : decode cX1_addSpare 22 = .ok (.iastore, 1) := by decide +kernel
theorem dX1_addSpare_23 : decode cX1_addSpare 23 = .ok (.return_, 1) := by decide +kernel
def f_X1_addSpare (x1 : Int32) (x2 : Int32) (x3 : Int32) (w : XW) : Option (XW) := (bI (f_X1_inGrid x1 x2 w) (fun r1 w1 => (if r1 = 0 then (some w1) else (if inB ((x1 * 7) + x2) 49 then (if inB ((x1 * 7) + x2) 49 then (some (wset w1 125 (Int32.toNatClampNeg ((x1 * 7) + x2)) ((w1.1 125 (Int32.toNatClampNeg ((x1 * 7) + x2))) + x3))) else none) else none))))
set_option maxRecDepth 100000 in
theorem W_X1_addSpare {g : GC} (hl : g.1.stackTraces = false) {x1 : Int32} {x2 : Int32} {x3 : Int32} {w : XW} : VE g cX1_addSpare 4 RX1 none [] (rmL 4 0 0) 0 0 oV 0 0 0 [(0, .ref (g.2.1 + 124)), (1, .int x1), (2, .int x2), (3, .int x3)] [] w (f_X1_addSpare x1 x2 x3 w) := by
  unfold f_X1_addSpare
  refine v_iload_n dX1_addSpare_0 rfl 1 rfl ?_
  refine v_iload_n dX1_addSpare_1 rfl 2 rfl ?_
  refine v_callSi (As := [.int x1, .int x2]) cs_X1_55 (S_X1_inGrid hl) rfl rfl (Nat.le_of_ble_eq_true rfl) dX1_addSpare_2 (CR_rm (by decide) (by decide) (by decide) (by decide)) (fun r1 w1 => ?_)
  refine v_if_eq (tgt := 23) dX1_addSpare_5 (by decide) ?_ ?_
  · exact v_vret dX1_addSpare_23 rfl rfl (by decide) (by decide)
  · refine v_aload_n dX1_addSpare_8 rfl 0 rfl ?_
    refine v_getR fl_X1_9 tt_124 rfl dX1_addSpare_9 ?_
    refine v_iload_n dX1_addSpare_12 rfl 1 rfl ?_
    refine v_bipush (v := 7) dX1_addSpare_13 (by decide) ?_
    refine v_imul dX1_addSpare_15 ?_
    refine v_iload_n dX1_addSpare_16 rfl 2 rfl ?_
    refine v_iadd dX1_addSpare_17 ?_
    refine v_dup2 dX1_addSpare_18 rfl rfl ?_
    refine v_guard (fun h2 => ?_)
    refine v_iald tt_125 h2 dX1_addSpare_19 ?_
    refine v_iload_n dX1_addSpare_20 rfl 3 rfl ?_
    refine v_iadd dX1_addSpare_21 ?_
    refine v_guard (fun h3 => ?_)
    refine v_iast tt_125 h3 dX1_addSpare_22 ?_
    exact v_vret dX1_addSpare_23 rfl rfl (by decide) (by decide)
theorem S_X1_addSpare {g : GC} (hl : g.1.stackTraces = false) {x1 : Int32} {x2 : Int32} {x3 : Int32} {w : XW} : ∀ q, f_X1_addSpare x1 x2 x3 w = some q → MM g (.code yX1_addSpare cX1_addSpare 4 none) yX1_addSpare (rmL 4 0 0) 0 0 [.ref (g.2.1 + 124), .int x1, .int x2, .int x3] w (oV q) := fun q hq => MM_of (own := RX1) hl (by decide) gw_799 rfl (Nat.le_of_ble_eq_true rfl) (W_X1_addSpare hl q hq) ⟨rfl, rfl⟩

theorem dX1_openPipes_0 : decode cX1_openPipes 0 = .ok (.iconst 0, 1) := by decide +kernel
theorem dX1_openPipes_1 : decode cX1_openPipes 1 = .ok (.istore_n 3, 1) := by decide +kernel
theorem dX1_openPipes_2 : decode cX1_openPipes 2 = .ok (.iload_n 3, 1) := by decide +kernel
theorem dX1_openPipes_3 : decode cX1_openPipes 3 = .ok (.aload_n 0, 1) := by decide +kernel
theorem dX1_openPipes_4 : decode cX1_openPipes 4 = .ok (.getfield 9, 3) := by decide +kernel
theorem dX1_openPipes_7 : decode cX1_openPipes 7 = .ok (.arraylength, 1) := by decide +kernel
theorem dX1_openPipes_8 : decode cX1_openPipes 8 = .ok (.if_icmp .ge 16, 3) := by decide +kernel
theorem dX1_openPipes_11 : decode cX1_openPipes 11 = .ok (.aload_n 0, 1) := by decide +kernel
theorem dX1_openPipes_12 : decode cX1_openPipes 12 = .ok (.getfield 9, 3) := by decide +kernel
theorem dX1_openPipes_15 : decode cX1_openPipes 15 = .ok (.iload_n 3, 1) := by decide +kernel
theorem dX1_openPipes_16 : decode cX1_openPipes 16 = .ok (.iconst 0, 1) := by decide +kernel
theorem dX1_openPipes_17 : decode cX1_openPipes 17 = .ok (.iastore, 1) := by decide +kernel
theorem dX1_openPipes_18 : decode cX1_openPipes 18 = .ok (.iinc 3 1, 3) := by decide +kernel
theorem dX1_openPipes_21 : decode cX1_openPipes 21 = .ok (.goto (-19), 3) := by decide +kernel
theorem dX1_openPipes_24 : decode cX1_openPipes 24 = .ok (.iconst 0, 1) := by decide +kernel
theorem dX1_openPipes_25 : decode cX1_openPipes 25 = .ok (.istore_n 3, 1) := by decide +kernel
theorem dX1_openPipes_26 : decode cX1_openPipes 26 = .ok (.iload_n 3, 1) := by decide +kernel
theorem dX1_openPipes_27 : decode cX1_openPipes 27 = .ok (.aload_n 1, 1) := by decide +kernel
theorem dX1_openPipes_28 : decode cX1_openPipes 28 = .ok (.getfield 33, 3) := by decide +kernel
theorem dX1_openPipes_31 : decode cX1_openPipes 31 = .ok (.if_icmp .ge 41, 3) := by decide +kernel
theorem dX1_openPipes_34 : decode cX1_openPipes 34 = .ok (.iload_n 3, 1) := by decide +kernel
theorem dX1_openPipes_35 : decode cX1_openPipes 35 = .ok (.iload_n 2, 1) := by decide +kernel
theorem dX1_openPipes_36 : decode cX1_openPipes 36 = .ok (.if_icmp .eq 30, 3) := by decide +kernel
theorem dX1_openPipes_39 : decode cX1_openPipes 39 = .ok (.aload_n 1, 1) := by decide +kernel
theorem dX1_openPipes_40 : decode cX1_openPipes 40 = .ok (.iload_n 3, 1) := by decide +kernel
theorem dX1_openPipes_41 : decode cX1_openPipes 41 = .ok (.invokevirtual 39, 3) := by decide +kernel
theorem dX1_openPipes_44 : decode cX1_openPipes 44 = .ok (.ifCond .ne 22, 3) := by decide +kernel
theorem dX1_openPipes_47 : decode cX1_openPipes 47 = .ok (.aload_n 0, 1) := by decide +kernel
theorem dX1_openPipes_48 : decode cX1_openPipes 48 = .ok (.aload_n 1, 1) := by decide +kernel
theorem dX1_openPipes_49 : decode cX1_openPipes 49 = .ok (.iload_n 3, 1) := by decide +kernel
theorem dX1_openPipes_50 : decode cX1_openPipes 50 = .ok (.invokevirtual 42, 3) := by decide +kernel
theorem dX1_openPipes_53 : decode cX1_openPipes 53 = .ok (.aload_n 1, 1) := by decide +kernel
theorem dX1_openPipes_54 : decode cX1_openPipes 54 = .ok (.iload_n 3, 1) := by decide +kernel
theorem dX1_openPipes_55 : decode cX1_openPipes 55 = .ok (.invokevirtual 45, 3) := by decide +kernel
theorem dX1_openPipes_58 : decode cX1_openPipes 58 = .ok (.aload_n 1, 1) := by decide +kernel
theorem dX1_openPipes_59 : decode cX1_openPipes 59 = .ok (.iload_n 3, 1) := by decide +kernel
theorem dX1_openPipes_60 : decode cX1_openPipes 60 = .ok (.invokevirtual 48, 3) := by decide +kernel
theorem dX1_openPipes_63 : decode cX1_openPipes 63 = .ok (.invokevirtual 51, 3) := by decide +kernel
theorem dX1_openPipes_66 : decode cX1_openPipes 66 = .ok (.iinc 3 1, 3) := by decide +kernel
theorem dX1_openPipes_69 : decode cX1_openPipes 69 = .ok (.goto (-43), 3) := by decide +kernel
theorem dX1_openPipes_72 : decode cX1_openPipes 72 = .ok (.return_, 1) := by decide +kernel
def f_X1_openPipes_26 (k1 : Nat) (y2 : Int32) : Nat → Int32 → XW → Option (XW)
  | 0, _, _ => none
  | n + 1, z3, w => (if (w.1 k1 0) ≤ z3 then (some w) else (if z3 = y2 then (f_X1_openPipes_26 k1 y2 n (z3 + 1) w) else (bI (f_X5_brokenAt k1 z3 w) (fun r2 w2 => (if r2 = 0 then (bI (f_X5_startOf k1 z3 w2) (fun r3 w3 => (bI (f_X5_endOf k1 z3 w3) (fun r4 w4 => (bI (f_X5_widthOf k1 z3 w4) (fun r5 w5 => (bV (f_X1_addSpare r3 r4 r5 w5) (fun w6 => (f_X1_openPipes_26 k1 y2 n (z3 + 1) w6))))))))) else (f_X1_openPipes_26 k1 y2 n (z3 + 1) w2))))))
set_option maxRecDepth 100000 in
theorem S_X1_openPipes_26 {g : GC} (hl : g.1.stackTraces = false) {k1 : Nat} (hk1 : isX5 k1) {y2 : Int32} : ∀ (n : Nat) (z3 : Int32) (w : XW), VE g cX1_openPipes 4 RX1 none [] (rmL 5 0 0) 0 0 oV 0 0 26 [(0, .ref (g.2.1 + 124)), (1, .ref (g.2.1 + k1)), (2, .int y2), (3, .int z3)] [] w (f_X1_openPipes_26 k1 y2 n z3 w) := by
  intro n
  induction n with
  | zero => intro z3 w; exact v_none
  | succ n ih =>
    intro z3 w
    rw [f_X1_openPipes_26]
    refine v_iload_n dX1_openPipes_26 rfl 3 rfl ?_
    refine v_aload_n dX1_openPipes_27 rfl 1 rfl ?_
    refine v_getI fl_X1_33 hk1.1 rfl dX1_openPipes_28 ?_
    refine v_icmp_ge (tgt := 72) dX1_openPipes_31 (by decide) ?_ ?_
    · exact v_vret dX1_openPipes_72 rfl rfl (by decide) (by decide)
    · refine v_iload_n dX1_openPipes_34 rfl 3 rfl ?_
      refine v_iload_n dX1_openPipes_35 rfl 2 rfl ?_
      refine v_icmp_eq (tgt := 66) dX1_openPipes_36 (by decide) ?_ ?_
      · refine v_iinc (v := (z3 + 1)) dX1_openPipes_66 (q := 3) rfl rfl (Nat.le_of_ble_eq_true rfl) rfl ?_
        refine v_goto (tgt := 26) dX1_openPipes_69 (by decide) ?_
        refine v_sub [1, 2, 3, 0] rfl ?_
        exact ih _ _
      · refine v_aload_n dX1_openPipes_39 rfl 1 rfl ?_
        refine v_iload_n dX1_openPipes_40 rfl 3 rfl ?_
        refine v_callVi (As := [.int z3]) cv_X1_39 (S_X5_brokenAt hl hk1) hk1.1 rfl rfl rfl (Nat.le_of_ble_eq_true rfl) dX1_openPipes_41 (CR_rm (by decide) (by decide) (by decide) (by decide)) (fun r2 w2 => ?_)
        refine v_if_ne (tgt := 66) dX1_openPipes_44 (by decide) ?_ ?_
        · refine v_iinc (v := (z3 + 1)) dX1_openPipes_66 (q := 3) rfl rfl (Nat.le_of_ble_eq_true rfl) rfl ?_
          refine v_goto (tgt := 26) dX1_openPipes_69 (by decide) ?_
          refine v_sub [1, 2, 3, 0] rfl ?_
          exact ih _ _
        · refine v_aload_n dX1_openPipes_47 rfl 0 rfl ?_
          refine v_aload_n dX1_openPipes_48 rfl 1 rfl ?_
          refine v_iload_n dX1_openPipes_49 rfl 3 rfl ?_
          refine v_callVi (As := [.int z3]) cv_X1_42 (S_X5_startOf hl hk1) hk1.1 rfl rfl rfl (Nat.le_of_ble_eq_true rfl) dX1_openPipes_50 (CR_rm (by decide) (by decide) (by decide) (by decide)) (fun r3 w3 => ?_)
          refine v_aload_n dX1_openPipes_53 rfl 1 rfl ?_
          refine v_iload_n dX1_openPipes_54 rfl 3 rfl ?_
          refine v_callVi (As := [.int z3]) cv_X1_45 (S_X5_endOf hl hk1) hk1.1 rfl rfl rfl (Nat.le_of_ble_eq_true rfl) dX1_openPipes_55 (CR_rm (by decide) (by decide) (by decide) (by decide)) (fun r4 w4 => ?_)
          refine v_aload_n dX1_openPipes_58 rfl 1 rfl ?_
          refine v_iload_n dX1_openPipes_59 rfl 3 rfl ?_
          refine v_callVi (As := [.int z3]) cv_X1_48 (S_X5_widthOf hl hk1) hk1.1 rfl rfl rfl (Nat.le_of_ble_eq_true rfl) dX1_openPipes_60 (CR_rm (by decide) (by decide) (by decide) (by decide)) (fun r5 w5 => ?_)
          refine v_callVv (As := [.int r3, .int r4, .int r5]) cv_X1_51 (S_X1_addSpare hl) tt_124 rfl rfl rfl (Nat.le_of_ble_eq_true rfl) dX1_openPipes_63 (CR_rm (by decide) (by decide) (by decide) (by decide)) (fun w6 => ?_)
          refine v_iinc (v := (z3 + 1)) dX1_openPipes_66 (q := 3) rfl rfl (Nat.le_of_ble_eq_true rfl) rfl ?_
          refine v_goto (tgt := 26) dX1_openPipes_69 (by decide) ?_
          refine v_sub [1, 2, 3, 0] rfl ?_
          exact ih _ _
def f_X1_openPipes_2 (k1 : Nat) (y2 : Int32) : Nat → Int32 → XW → Option (XW)
  | 0, _, _ => none
  | n + 1, z3, w => (if 49 ≤ z3 then (f_X1_openPipes_26 k1 y2 1000 0 w) else (if inB z3 49 then (f_X1_openPipes_2 k1 y2 n (z3 + 1) (wset w 125 (Int32.toNatClampNeg z3) 0)) else none))
set_option maxRecDepth 100000 in
theorem S_X1_openPipes_2 {g : GC} (hl : g.1.stackTraces = false) {k1 : Nat} (hk1 : isX5 k1) {y2 : Int32} : ∀ (n : Nat) (z3 : Int32) (w : XW), VE g cX1_openPipes 4 RX1 none [] (rmL 5 0 0) 0 0 oV 0 0 2 [(0, .ref (g.2.1 + 124)), (1, .ref (g.2.1 + k1)), (2, .int y2), (3, .int z3)] [] w (f_X1_openPipes_2 k1 y2 n z3 w) := by
  intro n
  induction n with
  | zero => intro z3 w; exact v_none
  | succ n ih =>
    intro z3 w
    rw [f_X1_openPipes_2]
    refine v_iload_n dX1_openPipes_2 rfl 3 rfl ?_
    refine v_aload_n dX1_openPipes_3 rfl 0 rfl ?_
    refine v_getR fl_X1_9 tt_124 rfl dX1_openPipes_4 ?_
    refine v_alen (v := 49) tt_125 (by decide) rfl dX1_openPipes_7 ?_
    refine v_icmp_ge (tgt := 24) dX1_openPipes_8 (by decide) ?_ ?_
    · refine v_iconst (v := 0) dX1_openPipes_24 (by decide) ?_
      refine v_istore_n dX1_openPipes_25 rfl (Nat.le_of_ble_eq_true rfl) rfl ?_
      refine v_sub [1, 2, 3, 0] rfl ?_
      exact S_X1_openPipes_26 hl hk1  _ _ _
    · refine v_aload_n dX1_openPipes_11 rfl 0 rfl ?_
      refine v_getR fl_X1_9 tt_124 rfl dX1_openPipes_12 ?_
      refine v_iload_n dX1_openPipes_15 rfl 3 rfl ?_
      refine v_iconst (v := 0) dX1_openPipes_16 (by decide) ?_
      refine v_guard (fun h1 => ?_)
      refine v_iast tt_125 h1 dX1_openPipes_17 ?_
      refine v_iinc (v := (z3 + 1)) dX1_openPipes_18 (q := 3) rfl rfl (Nat.le_of_ble_eq_true rfl) rfl ?_
      refine v_goto (tgt := 2) dX1_openPipes_21 (by decide) ?_
      refine v_sub [1, 2, 3, 0] rfl ?_
      exact ih _ _
def f_X1_openPipes (k1 : Nat) (x2 : Int32) (w : XW) : Option (XW) := (f_X1_openPipes_2 k1 x2 1000 0 w)
set_option maxRecDepth 100000 in
theorem W_X1_openPipes {g : GC} (hl : g.1.stackTraces = false) {k1 : Nat} (hk1 : isX5 k1) {x2 : Int32} {w : XW} : VE g cX1_openPipes 4 RX1 none [] (rmL 5 0 0) 0 0 oV 0 0 0 [(0, .ref (g.2.1 + 124)), (1, .ref (g.2.1 + k1)), (2, .int x2)] [] w (f_X1_openPipes k1 x2 w) := by
  unfold f_X1_openPipes
  refine v_iconst (v := 0) dX1_openPipes_0 (by decide) ?_
  refine v_istore_n dX1_openPipes_1 rfl (Nat.le_of_ble_eq_true rfl) rfl ?_
  refine v_sub [1, 2, 3, 0] rfl ?_
  exact S_X1_openPipes_2 hl hk1  _ _ _
theorem S_X1_openPipes {g : GC} (hl : g.1.stackTraces = false) {k1 : Nat} (hk1 : isX5 k1) {x2 : Int32} {w : XW} : ∀ q, f_X1_openPipes k1 x2 w = some q → MM g (.code yX1_openPipes cX1_openPipes 4 none) yX1_openPipes (rmL 5 0 0) 0 0 [.ref (g.2.1 + 124), .ref (g.2.1 + k1), .int x2] w (oV q) := fun q hq => MM_of (own := RX1) hl (by decide) gw_785 rfl (Nat.le_of_ble_eq_true rfl) (W_X1_openPipes hl hk1 q hq) ⟨rfl, rfl⟩

theorem dX1_spareOf_0 : decode cX1_spareOf 0 = .ok (.iload_n 1, 1) := by decide +kernel
theorem dX1_spareOf_1 : decode cX1_spareOf 1 = .ok (.iload_n 2, 1) := by decide +kernel
theorem dX1_spareOf_2 : decode cX1_spareOf 2 = .ok (.invokestatic 55, 3) := by decide +kernel
theorem dX1_spareOf_5 : decode cX1_spareOf 5 = .ok (.ifCond .eq 17, 3) := by decide +kernel
theorem dX1_spareOf_8 : decode cX1_spareOf 8 = .ok (.aload_n 0, 1) := by decide +kernel
theorem dX1_spareOf_9 : decode cX1_spareOf 9 = .ok (.getfield 9, 3) := by decide +kernel
theorem dX1_spareOf_12 : decode cX1_spareOf 12 = .ok (.iload_n 1, 1) := by decide +kernel
theorem dX1_spareOf_13 : decode cX1_spareOf 13 = .ok (.bipush 7, 2) := by decide +kernel
theorem dX1_spareOf_15 : decode cX1_spareOf 15 = .ok (.imul, 1) := by decide +kernel
theorem dX1_spareOf_16 : decode cX1_spareOf 16 = .ok (.iload_n 2, 1) := by decide +kernel
theorem dX1_spareOf_17 : decode cX1_spareOf 17 = .ok (.iadd, 1) := by decide +kernel
theorem dX1_spareOf_18 : decode cX1_spareOf 18 = .ok (.iaload, 1) := by decide +kernel
theorem dX1_spareOf_19 : decode cX1_spareOf 19 = .ok (.goto 4, 3) := by decide +kernel
theorem dX1_spareOf_22 : decode cX1_spareOf 22 = .ok (.iconst 0, 1) := by decide +kernel
theorem dX1_spareOf_23 : decode cX1_spareOf 23 = .ok (.ireturn, 1) := by decide +kernel
def f_X1_spareOf (x1 : Int32) (x2 : Int32) (w : XW) : Option (Int32 × XW) := (bI (f_X1_inGrid x1 x2 w) (fun r1 w1 => (if r1 = 0 then (some (0, w1)) else (if inB ((x1 * 7) + x2) 49 then (some ((w1.1 125 (Int32.toNatClampNeg ((x1 * 7) + x2))), w1)) else none))))
set_option maxRecDepth 100000 in
theorem W_X1_spareOf {g : GC} (hl : g.1.stackTraces = false) {x1 : Int32} {x2 : Int32} {w : XW} : VE g cX1_spareOf 3 RX1 (some .int) [] (rmL 4 0 0) 0 0 oI 0 0 0 [(0, .ref (g.2.1 + 124)), (1, .int x1), (2, .int x2)] [] w (f_X1_spareOf x1 x2 w) := by
  unfold f_X1_spareOf
  refine v_iload_n dX1_spareOf_0 rfl 1 rfl ?_
  refine v_iload_n dX1_spareOf_1 rfl 2 rfl ?_
  refine v_callSi (As := [.int x1, .int x2]) cs_X1_55 (S_X1_inGrid hl) rfl rfl (Nat.le_of_ble_eq_true rfl) dX1_spareOf_2 (CR_rm (by decide) (by decide) (by decide) (by decide)) (fun r1 w1 => ?_)
  refine v_if_eq (tgt := 22) dX1_spareOf_5 (by decide) ?_ ?_
  · refine v_iconst (v := 0) dX1_spareOf_22 (by decide) ?_
    exact v_iret dX1_spareOf_23 rfl rfl (by decide) (by decide)
  · refine v_aload_n dX1_spareOf_8 rfl 0 rfl ?_
    refine v_getR fl_X1_9 tt_124 rfl dX1_spareOf_9 ?_
    refine v_iload_n dX1_spareOf_12 rfl 1 rfl ?_
    refine v_bipush (v := 7) dX1_spareOf_13 (by decide) ?_
    refine v_imul dX1_spareOf_15 ?_
    refine v_iload_n dX1_spareOf_16 rfl 2 rfl ?_
    refine v_iadd dX1_spareOf_17 ?_
    refine v_guard (fun h2 => ?_)
    refine v_iald tt_125 h2 dX1_spareOf_18 ?_
    refine v_goto (tgt := 23) dX1_spareOf_19 (by decide) ?_
    exact v_iret dX1_spareOf_23 rfl rfl (by decide) (by decide)
theorem S_X1_spareOf {g : GC} (hl : g.1.stackTraces = false) {x1 : Int32} {x2 : Int32} {w : XW} : ∀ q, f_X1_spareOf x1 x2 w = some q → MM g (.code yX1_spareOf cX1_spareOf 3 (some .int)) yX1_spareOf (rmL 4 0 0) 0 0 [.ref (g.2.1 + 124), .int x1, .int x2] w (oI q) := fun q hq => MM_of (own := RX1) hl (by decide) gw_810 rfl (Nat.le_of_ble_eq_true rfl) (W_X1_spareOf hl q hq) ⟨rfl, rfl⟩

theorem dX1_previousOf_0 : decode cX1_previousOf 0 = .ok (.iload_n 1, 1) := by decide +kernel
theorem dX1_previousOf_1 : decode cX1_previousOf 1 = .ok (.ifCond .lt 18, 3) := by decide +kernel
theorem dX1_previousOf_4 : decode cX1_previousOf 4 = .ok (.iload_n 1, 1) := by decide +kernel
theorem dX1_previousOf_5 : decode cX1_previousOf 5 = .ok (.bipush 7, 2) := by decide +kernel
theorem dX1_previousOf_7 : decode cX1_previousOf 7 = .ok (.if_icmp .ge 12, 3) := by decide +kernel
theorem dX1_previousOf_10 : decode cX1_previousOf 10 = .ok (.aload_n 0, 1) := by decide +kernel
theorem dX1_previousOf_11 : decode cX1_previousOf 11 = .ok (.getfield 15, 3) := by decide +kernel
theorem dX1_previousOf_14 : decode cX1_previousOf 14 = .ok (.iload_n 1, 1) := by decide +kernel
theorem dX1_previousOf_15 : decode cX1_previousOf 15 = .ok (.iaload, 1) := by decide +kernel
theorem dX1_previousOf_16 : decode cX1_previousOf 16 = .ok (.goto 4, 3) := by decide +kernel
theorem dX1_previousOf_19 : decode cX1_previousOf 19 = .ok (.iconst (-1), 1) := by decide +kernel
theorem dX1_previousOf_20 : decode cX1_previousOf 20 = .ok (.ireturn, 1) := by decide +kernel
def f_X1_previousOf (x1 : Int32) (w : XW) : Option (Int32 × XW) := (if x1 < 0 then (some ((-1), w)) else (if 7 ≤ x1 then (some ((-1), w)) else (if inB x1 7 then (some ((w.1 126 (Int32.toNatClampNeg x1)), w)) else none)))
set_option maxRecDepth 100000 in
theorem W_X1_previousOf {g : GC} (hl : g.1.stackTraces = false) {x1 : Int32} {w : XW} : VE g cX1_previousOf 2 RX1 (some .int) [] (rmL 3 0 0) 0 0 oI 0 0 0 [(0, .ref (g.2.1 + 124)), (1, .int x1)] [] w (f_X1_previousOf x1 w) := by
  unfold f_X1_previousOf
  refine v_iload_n dX1_previousOf_0 rfl 1 rfl ?_
  refine v_if_lt (tgt := 19) dX1_previousOf_1 (by decide) ?_ ?_
  · refine v_iconst (v := (-1)) dX1_previousOf_19 (by decide) ?_
    exact v_iret dX1_previousOf_20 rfl rfl (by decide) (by decide)
  · refine v_iload_n dX1_previousOf_4 rfl 1 rfl ?_
    refine v_bipush (v := 7) dX1_previousOf_5 (by decide) ?_
    refine v_icmp_ge (tgt := 19) dX1_previousOf_7 (by decide) ?_ ?_
    · refine v_iconst (v := (-1)) dX1_previousOf_19 (by decide) ?_
      exact v_iret dX1_previousOf_20 rfl rfl (by decide) (by decide)
    · refine v_aload_n dX1_previousOf_10 rfl 0 rfl ?_
      refine v_getR fl_X1_15 tt_124 rfl dX1_previousOf_11 ?_
      refine v_iload_n dX1_previousOf_14 rfl 1 rfl ?_
      refine v_guard (fun h1 => ?_)
      refine v_iald tt_126 h1 dX1_previousOf_15 ?_
      refine v_goto (tgt := 20) dX1_previousOf_16 (by decide) ?_
      exact v_iret dX1_previousOf_20 rfl rfl (by decide) (by decide)
theorem S_X1_previousOf {g : GC} (hl : g.1.stackTraces = false) {x1 : Int32} {w : XW} : ∀ q, f_X1_previousOf x1 w = some q → MM g (.code yX1_previousOf cX1_previousOf 2 (some .int)) yX1_previousOf (rmL 3 0 0) 0 0 [.ref (g.2.1 + 124), .int x1] w (oI q) := fun q hq => MM_of (own := RX1) hl (by decide) gw_814 rfl (Nat.le_of_ble_eq_true rfl) (W_X1_previousOf hl q hq) ⟨rfl, rfl⟩

theorem dX1_reachesLast_0 : decode cX1_reachesLast 0 = .ok (.iconst 0, 1) := by decide +kernel
theorem dX1_reachesLast_1 : decode cX1_reachesLast 1 = .ok (.istore_n 2, 1) := by decide +kernel
theorem dX1_reachesLast_2 : decode cX1_reachesLast 2 = .ok (.iload_n 2, 1) := by decide +kernel
theorem dX1_reachesLast_3 : decode cX1_reachesLast 3 = .ok (.bipush 7, 2) := by decide +kernel
theorem dX1_reachesLast_5 : decode cX1_reachesLast 5 = .ok (.if_icmp .ge 16, 3) := by decide +kernel
theorem dX1_reachesLast_8 : decode cX1_reachesLast 8 = .ok (.aload_n 0, 1) := by decide +kernel
theorem dX1_reachesLast_9 : decode cX1_reachesLast 9 = .ok (.getfield 15, 3) := by decide +kernel
theorem dX1_reachesLast_12 : decode cX1_reachesLast 12 = .ok (.iload_n 2, 1) := by decide +kernel
theorem dX1_reachesLast_13 : decode cX1_reachesLast 13 = .ok (.iconst (-1), 1) := by decide +kernel
theorem dX1_reachesLast_14 : decode cX1_reachesLast 14 = .ok (.iastore, 1) := by decide +kernel
theorem dX1_reachesLast_15 : decode cX1_reachesLast 15 = .ok (.iinc 2 1, 3) := by decide +kernel
theorem dX1_reachesLast_18 : decode cX1_reachesLast 18 = .ok (.goto (-16), 3) := by decide +kernel
theorem dX1_reachesLast_21 : decode cX1_reachesLast 21 = .ok (.aload_n 0, 1) := by decide +kernel
theorem dX1_reachesLast_22 : decode cX1_reachesLast 22 = .ok (.getfield 18, 3) := by decide +kernel
theorem dX1_reachesLast_25 : decode cX1_reachesLast 25 = .ok (.iconst 0, 1) := by decide +kernel
theorem dX1_reachesLast_26 : decode cX1_reachesLast 26 = .ok (.iconst 0, 1) := by decide +kernel
theorem dX1_reachesLast_27 : decode cX1_reachesLast 27 = .ok (.iastore, 1) := by decide +kernel
theorem dX1_reachesLast_28 : decode cX1_reachesLast 28 = .ok (.iconst 1, 1) := by decide +kernel
theorem dX1_reachesLast_29 : decode cX1_reachesLast 29 = .ok (.istore_n 2, 1) := by decide +kernel
theorem dX1_reachesLast_30 : decode cX1_reachesLast 30 = .ok (.iconst 0, 1) := by decide +kernel
theorem dX1_reachesLast_31 : decode cX1_reachesLast 31 = .ok (.istore_n 3, 1) := by decide +kernel
theorem dX1_reachesLast_32 : decode cX1_reachesLast 32 = .ok (.iload_n 3, 1) := by decide +kernel
theorem dX1_reachesLast_33 : decode cX1_reachesLast 33 = .ok (.iload_n 2, 1) := by decide +kernel
theorem dX1_reachesLast_34 : decode cX1_reachesLast 34 = .ok (.if_icmp .ge 93, 3) := by decide +kernel
theorem dX1_reachesLast_37 : decode cX1_reachesLast 37 = .ok (.iload_n 3, 1) := by decide +kernel
theorem dX1_reachesLast_38 : decode cX1_reachesLast 38 = .ok (.bipush 7, 2) := by decide +kernel
theorem dX1_reachesLast_40 : decode cX1_reachesLast 40 = .ok (.if_icmp .ge 87, 3) := by decide +kernel
theorem dX1_reachesLast_43 : decode cX1_reachesLast 43 = .ok (.aload_n 0, 1) := by decide +kernel
theorem dX1_reachesLast_44 : decode cX1_reachesLast 44 = .ok (.getfield 18, 3) := by decide +kernel
theorem dX1_reachesLast_47 : decode cX1_reachesLast 47 = .ok (.iload_n 3, 1) := by decide +kernel
theorem dX1_reachesLast_48 : decode cX1_reachesLast 48 = .ok (.iaload, 1) := by decide +kernel
theorem dX1_reachesLast_49 : decode cX1_reachesLast 49 = .ok (.istore 4, 2) := by decide +kernel
theorem dX1_reachesLast_51 : decode cX1_reachesLast 51 = .ok (.iconst 1, 1) := by decide +kernel
theorem dX1_reachesLast_52 : decode cX1_reachesLast 52 = .ok (.istore 5, 2) := by decide +kernel
theorem dX1_reachesLast_54 : decode cX1_reachesLast 54 = .ok (.iload 5, 2) := by decide +kernel
theorem dX1_reachesLast_56 : decode cX1_reachesLast 56 = .ok (.iload_n 1, 1) := by decide +kernel
theorem dX1_reachesLast_57 : decode cX1_reachesLast 57 = .ok (.if_icmp .ge 64, 3) := by decide +kernel
theorem dX1_reachesLast_60 : decode cX1_reachesLast 60 = .ok (.iload 5, 2) := by decide +kernel
theorem dX1_reachesLast_62 : decode cX1_reachesLast 62 = .ok (.bipush 7, 2) := by decide +kernel
theorem dX1_reachesLast_64 : decode cX1_reachesLast 64 = .ok (.if_icmp .ge 57, 3) := by decide +kernel
theorem dX1_reachesLast_67 : decode cX1_reachesLast 67 = .ok (.aload_n 0, 1) := by decide +kernel
theorem dX1_reachesLast_68 : decode cX1_reachesLast 68 = .ok (.getfield 15, 3) := by decide +kernel
theorem dX1_reachesLast_71 : decode cX1_reachesLast 71 = .ok (.iload 5, 2) := by decide +kernel
theorem dX1_reachesLast_73 : decode cX1_reachesLast 73 = .ok (.iaload, 1) := by decide +kernel
theorem dX1_reachesLast_74 : decode cX1_reachesLast 74 = .ok (.iconst (-1), 1) := by decide +kernel
theorem dX1_reachesLast_75 : decode cX1_reachesLast 75 = .ok (.if_icmp .ne 40, 3) := by decide +kernel
theorem dX1_reachesLast_78 : decode cX1_reachesLast 78 = .ok (.aload_n 0, 1) := by decide +kernel
theorem dX1_reachesLast_79 : decode cX1_reachesLast 79 = .ok (.iload 4, 2) := by decide +kernel
theorem dX1_reachesLast_81 : decode cX1_reachesLast 81 = .ok (.iload 5, 2) := by decide +kernel
theorem dX1_reachesLast_83 : decode cX1_reachesLast 83 = .ok (.invokevirtual 59, 3) := by decide +kernel
theorem dX1_reachesLast_86 : decode cX1_reachesLast 86 = .ok (.ifCond .le 29, 3) := by decide +kernel
theorem dX1_reachesLast_89 : decode cX1_reachesLast 89 = .ok (.iload_n 2, 1) := by decide +kernel
theorem dX1_reachesLast_90 : decode cX1_reachesLast 90 = .ok (.bipush 7, 2) := by decide +kernel
theorem dX1_reachesLast_92 : decode cX1_reachesLast 92 = .ok (.if_icmp .ge 23, 3) := by decide +kernel
theorem dX1_reachesLast_95 : decode cX1_reachesLast 95 = .ok (.aload_n 0, 1) := by decide +kernel
theorem dX1_reachesLast_96 : decode cX1_reachesLast 96 = .ok (.getfield 15, 3) := by decide +kernel
theorem dX1_reachesLast_99 : decode cX1_reachesLast 99 = .ok (.iload 5, 2) := by decide +kernel
theorem dX1_reachesLast_101 : decode cX1_reachesLast 101 = .ok (.iload 4, 2) := by decide +kernel
theorem dX1_reachesLast_103 : decode cX1_reachesLast 103 = .ok (.iastore, 1) := by decide +kernel
theorem dX1_reachesLast_104 : decode cX1_reachesLast 104 = .ok (.aload_n 0, 1) := by decide +kernel
theorem dX1_reachesLast_105 : decode cX1_reachesLast 105 = .ok (.getfield 18, 3) := by decide +kernel
theorem dX1_reachesLast_108 : decode cX1_reachesLast 108 = .ok (.iload_n 2, 1) := by decide +kernel
theorem dX1_reachesLast_109 : decode cX1_reachesLast 109 = .ok (.iload 5, 2) := by decide +kernel
theorem dX1_reachesLast_111 : decode cX1_reachesLast 111 = .ok (.iastore, 1) := by decide +kernel
theorem dX1_reachesLast_112 : decode cX1_reachesLast 112 = .ok (.iinc 2 1, 3) := by decide +kernel
theorem dX1_reachesLast_115 : decode cX1_reachesLast 115 = .ok (.iinc 5 1, 3) := by decide +kernel
theorem dX1_reachesLast_118 : decode cX1_reachesLast 118 = .ok (.goto (-64), 3) := by decide +kernel
theorem dX1_reachesLast_121 : decode cX1_reachesLast 121 = .ok (.iinc 3 1, 3) := by decide +kernel
theorem dX1_reachesLast_124 : decode cX1_reachesLast 124 = .ok (.goto (-92), 3) := by decide +kernel
theorem dX1_reachesLast_127 : decode cX1_reachesLast 127 = .ok (.aload_n 0, 1) := by decide +kernel
theorem dX1_reachesLast_128 : decode cX1_reachesLast 128 = .ok (.iload_n 1, 1) := by decide +kernel
theorem dX1_reachesLast_129 : decode cX1_reachesLast 129 = .ok (.iconst 1, 1) := by decide +kernel
theorem dX1_reachesLast_130 : decode cX1_reachesLast 130 = .ok (.isub, 1) := by decide +kernel
theorem dX1_reachesLast_131 : decode cX1_reachesLast 131 = .ok (.invokevirtual 63, 3) := by decide +kernel
theorem dX1_reachesLast_134 : decode cX1_reachesLast 134 = .ok (.iconst (-1), 1) := by decide +kernel
theorem dX1_reachesLast_135 : decode cX1_reachesLast 135 = .ok (.if_icmp .eq 7, 3) := by decide +kernel
theorem dX1_reachesLast_138 : decode cX1_reachesLast 138 = .ok (.iconst 1, 1) := by decide +kernel
theorem dX1_reachesLast_139 : decode cX1_reachesLast 139 = .ok (.goto 4, 3) := by decide +kernel
theorem dX1_reachesLast_142 : decode cX1_reachesLast 142 = .ok (.iconst 0, 1) := by decide +kernel
theorem dX1_reachesLast_143 : decode cX1_reachesLast 143 = .ok (.ireturn, 1) := by decide +kernel
def f_X1_reachesLast_54 (K32 : Int32 → Int32 → XW → Option (Int32 × XW)) (y1 : Int32) (y3 : Int32) (y4 : Int32) : Nat → Int32 → Int32 → XW → Option (Int32 × XW)
  | 0, _, _, _ => none
  | n + 1, z2, z5, w => (if y1 ≤ z5 then (K32 z2 (y3 + 1) w) else (if 7 ≤ z5 then (K32 z2 (y3 + 1) w) else (if inB z5 7 then (if (w.1 126 (Int32.toNatClampNeg z5)) = (-1) then (bI (f_X1_spareOf y4 z5 w) (fun r6 w6 => (if r6 ≤ 0 then (f_X1_reachesLast_54 K32 y1 y3 y4 n z2 (z5 + 1) w6) else (if 7 ≤ z2 then (f_X1_reachesLast_54 K32 y1 y3 y4 n z2 (z5 + 1) w6) else (if inB z5 7 then (if inB z2 7 then (f_X1_reachesLast_54 K32 y1 y3 y4 n (z2 + 1) (z5 + 1) (wset (wset w6 126 (Int32.toNatClampNeg z5) y4) 127 (Int32.toNatClampNeg z2) z5)) else none) else none))))) else (f_X1_reachesLast_54 K32 y1 y3 y4 n z2 (z5 + 1) w)) else none)))
set_option maxRecDepth 100000 in
theorem S_X1_reachesLast_54 {g : GC} (hl : g.1.stackTraces = false) {y1 : Int32} {y3 : Int32} {y4 : Int32} {K32 : Int32 → Int32 → XW → Option (Int32 × XW)} (hK32 : ∀ (z2 : Int32) (z3 : Int32) (w : XW), VE g cX1_reachesLast 6 RX1 (some .boolean) [] (rmL 5 0 0) 0 0 oI 0 0 32 [(0, .ref (g.2.1 + 124)), (1, .int y1), (2, .int z2), (3, .int z3)] [] w (K32 z2 z3 w)) : ∀ (n : Nat) (z2 : Int32) (z5 : Int32) (w : XW), VE g cX1_reachesLast 6 RX1 (some .boolean) [] (rmL 5 0 0) 0 0 oI 0 0 54 [(0, .ref (g.2.1 + 124)), (1, .int y1), (2, .int z2), (3, .int y3), (4, .int y4), (5, .int z5)] [] w (f_X1_reachesLast_54 K32 y1 y3 y4 n z2 z5 w) := by
  intro n
  induction n with
  | zero => intro z2 z5 w; exact v_none
  | succ n ih =>
    intro z2 z5 w
    rw [f_X1_reachesLast_54]
    refine v_iload dX1_reachesLast_54 5 rfl ?_
    refine v_iload_n dX1_reachesLast_56 rfl 1 rfl ?_
    refine v_icmp_ge (tgt := 121) dX1_reachesLast_57 (by decide) ?_ ?_
    · refine v_iinc (v := (y3 + 1)) dX1_reachesLast_121 (q := 3) rfl rfl (Nat.le_of_ble_eq_true rfl) rfl ?_
      refine v_goto (tgt := 32) dX1_reachesLast_124 (by decide) ?_
      refine v_sub [1, 2, 3, 0] rfl ?_
      exact hK32 _ _ _
    · refine v_iload dX1_reachesLast_60 5 rfl ?_
      refine v_bipush (v := 7) dX1_reachesLast_62 (by decide) ?_
      refine v_icmp_ge (tgt := 121) dX1_reachesLast_64 (by decide) ?_ ?_
      · refine v_iinc (v := (y3 + 1)) dX1_reachesLast_121 (q := 3) rfl rfl (Nat.le_of_ble_eq_true rfl) rfl ?_
        refine v_goto (tgt := 32) dX1_reachesLast_124 (by decide) ?_
        refine v_sub [1, 2, 3, 0] rfl ?_
        exact hK32 _ _ _
      · refine v_aload_n dX1_reachesLast_67 rfl 0 rfl ?_
        refine v_getR fl_X1_15 tt_124 rfl dX1_reachesLast_68 ?_
        refine v_iload dX1_reachesLast_71 5 rfl ?_
        refine v_guard (fun h5 => ?_)
        refine v_iald tt_126 h5 dX1_reachesLast_73 ?_
        refine v_iconst (v := (-1)) dX1_reachesLast_74 (by decide) ?_
        refine v_icmp_ne (tgt := 115) dX1_reachesLast_75 (by decide) ?_ ?_
        · refine v_iinc (v := (z5 + 1)) dX1_reachesLast_115 (q := 5) rfl rfl (Nat.le_of_ble_eq_true rfl) rfl ?_
          refine v_goto (tgt := 54) dX1_reachesLast_118 (by decide) ?_
          refine v_sub [1, 2, 3, 4, 5, 0] rfl ?_
          exact ih _ _ _
        · refine v_aload_n dX1_reachesLast_78 rfl 0 rfl ?_
          refine v_iload dX1_reachesLast_79 4 rfl ?_
          refine v_iload dX1_reachesLast_81 5 rfl ?_
          refine v_callVi (As := [.int y4, .int z5]) cv_X1_59 (S_X1_spareOf hl) tt_124 rfl rfl rfl (Nat.le_of_ble_eq_true rfl) dX1_reachesLast_83 (CR_rm (by decide) (by decide) (by decide) (by decide)) (fun r6 w6 => ?_)
          refine v_if_le (tgt := 115) dX1_reachesLast_86 (by decide) ?_ ?_
          · refine v_iinc (v := (z5 + 1)) dX1_reachesLast_115 (q := 5) rfl rfl (Nat.le_of_ble_eq_true rfl) rfl ?_
            refine v_goto (tgt := 54) dX1_reachesLast_118 (by decide) ?_
            refine v_sub [1, 2, 3, 4, 5, 0] rfl ?_
            exact ih _ _ _
          · refine v_iload_n dX1_reachesLast_89 rfl 2 rfl ?_
            refine v_bipush (v := 7) dX1_reachesLast_90 (by decide) ?_
            refine v_icmp_ge (tgt := 115) dX1_reachesLast_92 (by decide) ?_ ?_
            · refine v_iinc (v := (z5 + 1)) dX1_reachesLast_115 (q := 5) rfl rfl (Nat.le_of_ble_eq_true rfl) rfl ?_
              refine v_goto (tgt := 54) dX1_reachesLast_118 (by decide) ?_
              refine v_sub [1, 2, 3, 4, 5, 0] rfl ?_
              exact ih _ _ _
            · refine v_aload_n dX1_reachesLast_95 rfl 0 rfl ?_
              refine v_getR fl_X1_15 tt_124 rfl dX1_reachesLast_96 ?_
              refine v_iload dX1_reachesLast_99 5 rfl ?_
              refine v_iload dX1_reachesLast_101 4 rfl ?_
              refine v_guard (fun h7 => ?_)
              refine v_iast tt_126 h7 dX1_reachesLast_103 ?_
              refine v_aload_n dX1_reachesLast_104 rfl 0 rfl ?_
              refine v_getR fl_X1_18 tt_124 rfl dX1_reachesLast_105 ?_
              refine v_iload_n dX1_reachesLast_108 rfl 2 rfl ?_
              refine v_iload dX1_reachesLast_109 5 rfl ?_
              refine v_guard (fun h8 => ?_)
              refine v_iast tt_127 h8 dX1_reachesLast_111 ?_
              refine v_iinc (v := (z2 + 1)) dX1_reachesLast_112 (q := 2) rfl rfl (Nat.le_of_ble_eq_true rfl) rfl ?_
              refine v_iinc (v := (z5 + 1)) dX1_reachesLast_115 (q := 5) rfl rfl (Nat.le_of_ble_eq_true rfl) rfl ?_
              refine v_goto (tgt := 54) dX1_reachesLast_118 (by decide) ?_
              refine v_sub [2, 3, 1, 4, 5, 0] rfl ?_
              exact ih _ _ _
def f_X1_reachesLast_32 (y1 : Int32) : Nat → Int32 → Int32 → XW → Option (Int32 × XW)
  | 0, _, _, _ => none
  | n + 1, z2, z3, w => (if z2 ≤ z3 then (bI (f_X1_previousOf (y1 - 1) w) (fun r2 w2 => (if r2 = (-1) then (some (0, w2)) else (some (1, w2))))) else (if 7 ≤ z3 then (bI (f_X1_previousOf (y1 - 1) w) (fun r3 w3 => (if r3 = (-1) then (some (0, w3)) else (some (1, w3))))) else (if inB z3 7 then (f_X1_reachesLast_54 (fun a0 a1 w9 => f_X1_reachesLast_32 y1 n a0 a1 w9) y1 z3 (w.1 127 (Int32.toNatClampNeg z3)) 1000 z2 1 w) else none)))
set_option maxRecDepth 100000 in
theorem S_X1_reachesLast_32 {g : GC} (hl : g.1.stackTraces = false) {y1 : Int32} : ∀ (n : Nat) (z2 : Int32) (z3 : Int32) (w : XW), VE g cX1_reachesLast 6 RX1 (some .boolean) [] (rmL 5 0 0) 0 0 oI 0 0 32 [(0, .ref (g.2.1 + 124)), (1, .int y1), (2, .int z2), (3, .int z3)] [] w (f_X1_reachesLast_32 y1 n z2 z3 w) := by
  intro n
  induction n with
  | zero => intro z2 z3 w; exact v_none
  | succ n ih =>
    intro z2 z3 w
    rw [f_X1_reachesLast_32]
    refine v_iload_n dX1_reachesLast_32 rfl 3 rfl ?_
    refine v_iload_n dX1_reachesLast_33 rfl 2 rfl ?_
    refine v_icmp_ge (tgt := 127) dX1_reachesLast_34 (by decide) ?_ ?_
    · refine v_aload_n dX1_reachesLast_127 rfl 0 rfl ?_
      refine v_iload_n dX1_reachesLast_128 rfl 1 rfl ?_
      refine v_iconst (v := 1) dX1_reachesLast_129 (by decide) ?_
      refine v_isub dX1_reachesLast_130 ?_
      refine v_callVi (As := [.int (y1 - 1)]) cv_X1_63 (S_X1_previousOf hl) tt_124 rfl rfl rfl (Nat.le_of_ble_eq_true rfl) dX1_reachesLast_131 (CR_rm (by decide) (by decide) (by decide) (by decide)) (fun r2 w2 => ?_)
      refine v_iconst (v := (-1)) dX1_reachesLast_134 (by decide) ?_
      refine v_icmp_eq (tgt := 142) dX1_reachesLast_135 (by decide) ?_ ?_
      · refine v_iconst (v := 0) dX1_reachesLast_142 (by decide) ?_
        exact v_zret dX1_reachesLast_143 rfl rfl rfl (by decide) (by decide)
      · refine v_iconst (v := 1) dX1_reachesLast_138 (by decide) ?_
        refine v_goto (tgt := 143) dX1_reachesLast_139 (by decide) ?_
        exact v_zret dX1_reachesLast_143 rfl rfl rfl (by decide) (by decide)
    · refine v_iload_n dX1_reachesLast_37 rfl 3 rfl ?_
      refine v_bipush (v := 7) dX1_reachesLast_38 (by decide) ?_
      refine v_icmp_ge (tgt := 127) dX1_reachesLast_40 (by decide) ?_ ?_
      · refine v_aload_n dX1_reachesLast_127 rfl 0 rfl ?_
        refine v_iload_n dX1_reachesLast_128 rfl 1 rfl ?_
        refine v_iconst (v := 1) dX1_reachesLast_129 (by decide) ?_
        refine v_isub dX1_reachesLast_130 ?_
        refine v_callVi (As := [.int (y1 - 1)]) cv_X1_63 (S_X1_previousOf hl) tt_124 rfl rfl rfl (Nat.le_of_ble_eq_true rfl) dX1_reachesLast_131 (CR_rm (by decide) (by decide) (by decide) (by decide)) (fun r3 w3 => ?_)
        refine v_iconst (v := (-1)) dX1_reachesLast_134 (by decide) ?_
        refine v_icmp_eq (tgt := 142) dX1_reachesLast_135 (by decide) ?_ ?_
        · refine v_iconst (v := 0) dX1_reachesLast_142 (by decide) ?_
          exact v_zret dX1_reachesLast_143 rfl rfl rfl (by decide) (by decide)
        · refine v_iconst (v := 1) dX1_reachesLast_138 (by decide) ?_
          refine v_goto (tgt := 143) dX1_reachesLast_139 (by decide) ?_
          exact v_zret dX1_reachesLast_143 rfl rfl rfl (by decide) (by decide)
      · refine v_aload_n dX1_reachesLast_43 rfl 0 rfl ?_
        refine v_getR fl_X1_18 tt_124 rfl dX1_reachesLast_44 ?_
        refine v_iload_n dX1_reachesLast_47 rfl 3 rfl ?_
        refine v_guard (fun h4 => ?_)
        refine v_iald tt_127 h4 dX1_reachesLast_48 ?_
        refine v_istore dX1_reachesLast_49 (Nat.le_of_ble_eq_true rfl) rfl ?_
        refine v_iconst (v := 1) dX1_reachesLast_51 (by decide) ?_
        refine v_istore dX1_reachesLast_52 (Nat.le_of_ble_eq_true rfl) rfl ?_
        refine v_sub [2, 3, 4, 5, 1, 0] rfl ?_
        exact S_X1_reachesLast_54 hl (fun a0 a1 a2 => ih a0 a1 a2) _ _ _ _
def f_X1_reachesLast_2 (y1 : Int32) : Nat → Int32 → XW → Option (Int32 × XW)
  | 0, _, _ => none
  | n + 1, z2, w => (if 7 ≤ z2 then (f_X1_reachesLast_32 y1 1000 1 0 (wset w 127 (Int32.toNatClampNeg 0) 0)) else (if inB z2 7 then (f_X1_reachesLast_2 y1 n (z2 + 1) (wset w 126 (Int32.toNatClampNeg z2) (-1))) else none))
set_option maxRecDepth 100000 in
theorem S_X1_reachesLast_2 {g : GC} (hl : g.1.stackTraces = false) {y1 : Int32} : ∀ (n : Nat) (z2 : Int32) (w : XW), VE g cX1_reachesLast 6 RX1 (some .boolean) [] (rmL 5 0 0) 0 0 oI 0 0 2 [(0, .ref (g.2.1 + 124)), (1, .int y1), (2, .int z2)] [] w (f_X1_reachesLast_2 y1 n z2 w) := by
  intro n
  induction n with
  | zero => intro z2 w; exact v_none
  | succ n ih =>
    intro z2 w
    rw [f_X1_reachesLast_2]
    refine v_iload_n dX1_reachesLast_2 rfl 2 rfl ?_
    refine v_bipush (v := 7) dX1_reachesLast_3 (by decide) ?_
    refine v_icmp_ge (tgt := 21) dX1_reachesLast_5 (by decide) ?_ ?_
    · refine v_aload_n dX1_reachesLast_21 rfl 0 rfl ?_
      refine v_getR fl_X1_18 tt_124 rfl dX1_reachesLast_22 ?_
      refine v_iconst (v := 0) dX1_reachesLast_25 (by decide) ?_
      refine v_iconst (v := 0) dX1_reachesLast_26 (by decide) ?_
      refine v_iast tt_127 (by decide : inB 0 7) dX1_reachesLast_27 ?_
      refine v_iconst (v := 1) dX1_reachesLast_28 (by decide) ?_
      refine v_istore_n dX1_reachesLast_29 rfl (Nat.le_of_ble_eq_true rfl) rfl ?_
      refine v_iconst (v := 0) dX1_reachesLast_30 (by decide) ?_
      refine v_istore_n dX1_reachesLast_31 rfl (Nat.le_of_ble_eq_true rfl) rfl ?_
      refine v_sub [2, 3, 1, 0] rfl ?_
      exact S_X1_reachesLast_32 hl  _ _ _ _
    · refine v_aload_n dX1_reachesLast_8 rfl 0 rfl ?_
      refine v_getR fl_X1_15 tt_124 rfl dX1_reachesLast_9 ?_
      refine v_iload_n dX1_reachesLast_12 rfl 2 rfl ?_
      refine v_iconst (v := (-1)) dX1_reachesLast_13 (by decide) ?_
      refine v_guard (fun h1 => ?_)
      refine v_iast tt_126 h1 dX1_reachesLast_14 ?_
      refine v_iinc (v := (z2 + 1)) dX1_reachesLast_15 (q := 2) rfl rfl (Nat.le_of_ble_eq_true rfl) rfl ?_
      refine v_goto (tgt := 2) dX1_reachesLast_18 (by decide) ?_
      refine v_sub [1, 2, 0] rfl ?_
      exact ih _ _
def f_X1_reachesLast (x1 : Int32) (w : XW) : Option (Int32 × XW) := (f_X1_reachesLast_2 x1 1000 0 w)
set_option maxRecDepth 100000 in
theorem W_X1_reachesLast {g : GC} (hl : g.1.stackTraces = false) {x1 : Int32} {w : XW} : VE g cX1_reachesLast 6 RX1 (some .boolean) [] (rmL 5 0 0) 0 0 oI 0 0 0 [(0, .ref (g.2.1 + 124)), (1, .int x1)] [] w (f_X1_reachesLast x1 w) := by
  unfold f_X1_reachesLast
  refine v_iconst (v := 0) dX1_reachesLast_0 (by decide) ?_
  refine v_istore_n dX1_reachesLast_1 rfl (Nat.le_of_ble_eq_true rfl) rfl ?_
  refine v_sub [1, 2, 0] rfl ?_
  exact S_X1_reachesLast_2 hl  _ _ _
theorem S_X1_reachesLast {g : GC} (hl : g.1.stackTraces = false) {x1 : Int32} {w : XW} : ∀ q, f_X1_reachesLast x1 w = some q → MM g (.code yX1_reachesLast cX1_reachesLast 6 (some .boolean)) yX1_reachesLast (rmL 5 0 0) 0 0 [.ref (g.2.1 + 124), .int x1] w (oI q) := fun q hq => MM_of (own := RX1) hl (by decide) gw_806 rfl (Nat.le_of_ble_eq_true rfl) (W_X1_reachesLast hl q hq) ⟨rfl, rfl⟩

theorem dX1_augment_0 : decode cX1_augment 0 = .ok (.sipush 200, 3) := by decide +kernel
theorem dX1_augment_3 : decode cX1_augment 3 = .ok (.istore_n 2, 1) := by decide +kernel
theorem dX1_augment_4 : decode cX1_augment 4 = .ok (.iload_n 1, 1) := by decide +kernel
theorem dX1_augment_5 : decode cX1_augment 5 = .ok (.istore_n 3, 1) := by decide +kernel
theorem dX1_augment_6 : decode cX1_augment 6 = .ok (.iconst 0, 1) := by decide +kernel
theorem dX1_augment_7 : decode cX1_augment 7 = .ok (.istore 4, 2) := by decide +kernel
theorem dX1_augment_9 : decode cX1_augment 9 = .ok (.iload 4, 2) := by decide +kernel
theorem dX1_augment_11 : decode cX1_augment 11 = .ok (.bipush 7, 2) := by decide +kernel
theorem dX1_augment_13 : decode cX1_augment 13 = .ok (.if_icmp .ge 35, 3) := by decide +kernel
theorem dX1_augment_16 : decode cX1_augment 16 = .ok (.iload_n 3, 1) := by decide +kernel
theorem dX1_augment_17 : decode cX1_augment 17 = .ok (.ifCond .le 31, 3) := by decide +kernel
theorem dX1_augment_20 : decode cX1_augment 20 = .ok (.aload_n 0, 1) := by decide +kernel
theorem dX1_augment_21 : decode cX1_augment 21 = .ok (.iload_n 3, 1) := by decide +kernel
theorem dX1_augment_22 : decode cX1_augment 22 = .ok (.invokevirtual 63, 3) := by decide +kernel
theorem dX1_augment_25 : decode cX1_augment 25 = .ok (.istore 5, 2) := by decide +kernel
theorem dX1_augment_27 : decode cX1_augment 27 = .ok (.iload_n 2, 1) := by decide +kernel
theorem dX1_augment_28 : decode cX1_augment 28 = .ok (.aload_n 0, 1) := by decide +kernel
theorem dX1_augment_29 : decode cX1_augment 29 = .ok (.iload 5, 2) := by decide +kernel
theorem dX1_augment_31 : decode cX1_augment 31 = .ok (.iload_n 3, 1) := by decide +kernel
theorem dX1_augment_32 : decode cX1_augment 32 = .ok (.invokevirtual 59, 3) := by decide +kernel
theorem dX1_augment_35 : decode cX1_augment 35 = .ok (.invokestatic 66, 3) := by decide +kernel
theorem dX1_augment_38 : decode cX1_augment 38 = .ok (.istore_n 2, 1) := by decide +kernel
theorem dX1_augment_39 : decode cX1_augment 39 = .ok (.iload 5, 2) := by decide +kernel
theorem dX1_augment_41 : decode cX1_augment 41 = .ok (.istore_n 3, 1) := by decide +kernel
theorem dX1_augment_42 : decode cX1_augment 42 = .ok (.iinc 4 1, 3) := by decide +kernel
theorem dX1_augment_45 : decode cX1_augment 45 = .ok (.goto (-36), 3) := by decide +kernel
theorem dX1_augment_48 : decode cX1_augment 48 = .ok (.iload_n 1, 1) := by decide +kernel
theorem dX1_augment_49 : decode cX1_augment 49 = .ok (.istore_n 3, 1) := by decide +kernel
theorem dX1_augment_50 : decode cX1_augment 50 = .ok (.iconst 0, 1) := by decide +kernel
theorem dX1_augment_51 : decode cX1_augment 51 = .ok (.istore 4, 2) := by decide +kernel
theorem dX1_augment_53 : decode cX1_augment 53 = .ok (.iload 4, 2) := by decide +kernel
theorem dX1_augment_55 : decode cX1_augment 55 = .ok (.bipush 7, 2) := by decide +kernel
theorem dX1_augment_57 : decode cX1_augment 57 = .ok (.if_icmp .ge 40, 3) := by decide +kernel
theorem dX1_augment_60 : decode cX1_augment 60 = .ok (.iload_n 3, 1) := by decide +kernel
theorem dX1_augment_61 : decode cX1_augment 61 = .ok (.ifCond .le 36, 3) := by decide +kernel
theorem dX1_augment_64 : decode cX1_augment 64 = .ok (.aload_n 0, 1) := by decide +kernel
theorem dX1_augment_65 : decode cX1_augment 65 = .ok (.iload_n 3, 1) := by decide +kernel
theorem dX1_augment_66 : decode cX1_augment 66 = .ok (.invokevirtual 63, 3) := by decide +kernel
theorem dX1_augment_69 : decode cX1_augment 69 = .ok (.istore 5, 2) := by decide +kernel
theorem dX1_augment_71 : decode cX1_augment 71 = .ok (.aload_n 0, 1) := by decide +kernel
theorem dX1_augment_72 : decode cX1_augment 72 = .ok (.iload 5, 2) := by decide +kernel
theorem dX1_augment_74 : decode cX1_augment 74 = .ok (.iload_n 3, 1) := by decide +kernel
theorem dX1_augment_75 : decode cX1_augment 75 = .ok (.iload_n 2, 1) := by decide +kernel
theorem dX1_augment_76 : decode cX1_augment 76 = .ok (.ineg, 1) := by decide +kernel
theorem dX1_augment_77 : decode cX1_augment 77 = .ok (.invokevirtual 51, 3) := by decide +kernel
theorem dX1_augment_80 : decode cX1_augment 80 = .ok (.aload_n 0, 1) := by decide +kernel
theorem dX1_augment_81 : decode cX1_augment 81 = .ok (.iload_n 3, 1) := by decide +kernel
theorem dX1_augment_82 : decode cX1_augment 82 = .ok (.iload 5, 2) := by decide +kernel
theorem dX1_augment_84 : decode cX1_augment 84 = .ok (.iload_n 2, 1) := by decide +kernel
theorem dX1_augment_85 : decode cX1_augment 85 = .ok (.invokevirtual 51, 3) := by decide +kernel
theorem dX1_augment_88 : decode cX1_augment 88 = .ok (.iload 5, 2) := by decide +kernel
theorem dX1_augment_90 : decode cX1_augment 90 = .ok (.istore_n 3, 1) := by decide +kernel
theorem dX1_augment_91 : decode cX1_augment 91 = .ok (.iinc 4 1, 3) := by decide +kernel
theorem dX1_augment_94 : decode cX1_augment 94 = .ok (.goto (-41), 3) := by decide +kernel
theorem dX1_augment_97 : decode cX1_augment 97 = .ok (.iload_n 2, 1) := by decide +kernel
theorem dX1_augment_98 : decode cX1_augment 98 = .ok (.ireturn, 1) := by decide +kernel
def f_X1_augment_53 (y2 : Int32) : Nat → Int32 → Int32 → XW → Option (Int32 × XW)
  | 0, _, _, _ => none
  | n + 1, z3, z4, w => (if 7 ≤ z4 then (some (y2, w)) else (if z3 ≤ 0 then (some (y2, w)) else (bI (f_X1_previousOf z3 w) (fun r3 w3 => (bV (f_X1_addSpare r3 z3 (-y2) w3) (fun w4 => (bV (f_X1_addSpare z3 r3 y2 w4) (fun w5 => (f_X1_augment_53 y2 n r3 (z4 + 1) w5)))))))))
set_option maxRecDepth 100000 in
theorem S_X1_augment_53 {g : GC} (hl : g.1.stackTraces = false) {y2 : Int32} : ∀ (n : Nat) (z3 : Int32) (z4 : Int32) (w : XW), VE g cX1_augment 6 RX1 (some .int) [] (rmL 5 0 0) 0 0 oI 0 0 53 [(0, .ref (g.2.1 + 124)), (2, .int y2), (3, .int z3), (4, .int z4)] [] w (f_X1_augment_53 y2 n z3 z4 w) := by
  intro n
  induction n with
  | zero => intro z3 z4 w; exact v_none
  | succ n ih =>
    intro z3 z4 w
    rw [f_X1_augment_53]
    refine v_iload dX1_augment_53 3 rfl ?_
    refine v_bipush (v := 7) dX1_augment_55 (by decide) ?_
    refine v_icmp_ge (tgt := 97) dX1_augment_57 (by decide) ?_ ?_
    · refine v_iload_n dX1_augment_97 rfl 1 rfl ?_
      exact v_iret dX1_augment_98 rfl rfl (by decide) (by decide)
    · refine v_iload_n dX1_augment_60 rfl 2 rfl ?_
      refine v_if_le (tgt := 97) dX1_augment_61 (by decide) ?_ ?_
      · refine v_iload_n dX1_augment_97 rfl 1 rfl ?_
        exact v_iret dX1_augment_98 rfl rfl (by decide) (by decide)
      · refine v_aload_n dX1_augment_64 rfl 0 rfl ?_
        refine v_iload_n dX1_augment_65 rfl 2 rfl ?_
        refine v_callVi (As := [.int z3]) cv_X1_63 (S_X1_previousOf hl) tt_124 rfl rfl rfl (Nat.le_of_ble_eq_true rfl) dX1_augment_66 (CR_rm (by decide) (by decide) (by decide) (by decide)) (fun r3 w3 => ?_)
        refine v_istore dX1_augment_69 (Nat.le_of_ble_eq_true rfl) rfl ?_
        refine v_aload_n dX1_augment_71 rfl 1 rfl ?_
        refine v_iload dX1_augment_72 0 rfl ?_
        refine v_iload_n dX1_augment_74 rfl 3 rfl ?_
        refine v_iload_n dX1_augment_75 rfl 2 rfl ?_
        refine v_ineg dX1_augment_76 ?_
        refine v_callVv (As := [.int r3, .int z3, .int (-y2)]) cv_X1_51 (S_X1_addSpare hl) tt_124 rfl rfl rfl (Nat.le_of_ble_eq_true rfl) dX1_augment_77 (CR_rm (by decide) (by decide) (by decide) (by decide)) (fun w4 => ?_)
        refine v_aload_n dX1_augment_80 rfl 1 rfl ?_
        refine v_iload_n dX1_augment_81 rfl 3 rfl ?_
        refine v_iload dX1_augment_82 0 rfl ?_
        refine v_iload_n dX1_augment_84 rfl 2 rfl ?_
        refine v_callVv (As := [.int z3, .int r3, .int y2]) cv_X1_51 (S_X1_addSpare hl) tt_124 rfl rfl rfl (Nat.le_of_ble_eq_true rfl) dX1_augment_85 (CR_rm (by decide) (by decide) (by decide) (by decide)) (fun w5 => ?_)
        refine v_iload dX1_augment_88 0 rfl ?_
        refine v_istore_n dX1_augment_90 rfl (Nat.le_of_ble_eq_true rfl) rfl ?_
        refine v_iinc (v := (z4 + 1)) dX1_augment_91 (q := 4) rfl rfl (Nat.le_of_ble_eq_true rfl) rfl ?_
        refine v_goto (tgt := 53) dX1_augment_94 (by decide) ?_
        refine v_sub [3, 4, 1, 0] rfl ?_
        exact ih _ _ _
def f_X1_augment_9 (y1 : Int32) : Nat → Int32 → Int32 → Int32 → XW → Option (Int32 × XW)
  | 0, _, _, _, _ => none
  | n + 1, z2, z3, z4, w => (if 7 ≤ z4 then (f_X1_augment_53 z2 1000 y1 0 w) else (if z3 ≤ 0 then (f_X1_augment_53 z2 1000 y1 0 w) else (bI (f_X1_previousOf z3 w) (fun r1 w1 => (bI (f_X1_spareOf r1 z3 w1) (fun r2 w2 => (f_X1_augment_9 y1 n (if r2 < z2 then r2 else z2) r1 (z4 + 1) w2)))))))
set_option maxRecDepth 100000 in
theorem S_X1_augment_9 {g : GC} (hl : g.1.stackTraces = false) {y1 : Int32} : ∀ (n : Nat) (z2 : Int32) (z3 : Int32) (z4 : Int32) (w : XW), VE g cX1_augment 6 RX1 (some .int) [] (rmL 5 0 0) 0 0 oI 0 0 9 [(0, .ref (g.2.1 + 124)), (1, .int y1), (2, .int z2), (3, .int z3), (4, .int z4)] [] w (f_X1_augment_9 y1 n z2 z3 z4 w) := by
  intro n
  induction n with
  | zero => intro z2 z3 z4 w; exact v_none
  | succ n ih =>
    intro z2 z3 z4 w
    rw [f_X1_augment_9]
    refine v_iload dX1_augment_9 4 rfl ?_
    refine v_bipush (v := 7) dX1_augment_11 (by decide) ?_
    refine v_icmp_ge (tgt := 48) dX1_augment_13 (by decide) ?_ ?_
    · refine v_iload_n dX1_augment_48 rfl 1 rfl ?_
      refine v_istore_n dX1_augment_49 rfl (Nat.le_of_ble_eq_true rfl) rfl ?_
      refine v_iconst (v := 0) dX1_augment_50 (by decide) ?_
      refine v_istore dX1_augment_51 (Nat.le_of_ble_eq_true rfl) rfl ?_
      refine v_sub [2, 4, 1, 0] rfl ?_
      exact S_X1_augment_53 hl  _ _ _ _
    · refine v_iload_n dX1_augment_16 rfl 3 rfl ?_
      refine v_if_le (tgt := 48) dX1_augment_17 (by decide) ?_ ?_
      · refine v_iload_n dX1_augment_48 rfl 1 rfl ?_
        refine v_istore_n dX1_augment_49 rfl (Nat.le_of_ble_eq_true rfl) rfl ?_
        refine v_iconst (v := 0) dX1_augment_50 (by decide) ?_
        refine v_istore dX1_augment_51 (Nat.le_of_ble_eq_true rfl) rfl ?_
        refine v_sub [2, 4, 1, 0] rfl ?_
        exact S_X1_augment_53 hl  _ _ _ _
      · refine v_aload_n dX1_augment_20 rfl 0 rfl ?_
        refine v_iload_n dX1_augment_21 rfl 3 rfl ?_
        refine v_callVi (As := [.int z3]) cv_X1_63 (S_X1_previousOf hl) tt_124 rfl rfl rfl (Nat.le_of_ble_eq_true rfl) dX1_augment_22 (CR_rm (by decide) (by decide) (by decide) (by decide)) (fun r1 w1 => ?_)
        refine v_istore dX1_augment_25 (Nat.le_of_ble_eq_true rfl) rfl ?_
        refine v_iload_n dX1_augment_27 rfl 3 rfl ?_
        refine v_aload_n dX1_augment_28 rfl 1 rfl ?_
        refine v_iload dX1_augment_29 0 rfl ?_
        refine v_iload_n dX1_augment_31 rfl 4 rfl ?_
        refine v_callVi (As := [.int r1, .int z3]) cv_X1_59 (S_X1_spareOf hl) tt_124 rfl rfl rfl (Nat.le_of_ble_eq_true rfl) dX1_augment_32 (CR_rm (by decide) (by decide) (by decide) (by decide)) (fun r2 w2 => ?_)
        refine v_min gw_819 gw_403 gw_98 gw_404 dX1_augment_35 (CR_f1 _ _ _) (CR_f2 (by decide) _ _ _) (by decide) (by decide) ?_
        refine v_istore_n dX1_augment_38 rfl (Nat.le_of_ble_eq_true rfl) rfl ?_
        refine v_iload dX1_augment_39 1 rfl ?_
        refine v_istore_n dX1_augment_41 rfl (Nat.le_of_ble_eq_true rfl) rfl ?_
        refine v_iinc (v := (z4 + 1)) dX1_augment_42 (q := 5) rfl rfl (Nat.le_of_ble_eq_true rfl) rfl ?_
        refine v_goto (tgt := 9) dX1_augment_45 (by decide) ?_
        refine v_sub [4, 5, 2, 1, 0] rfl ?_
        exact ih _ _ _ _
def f_X1_augment (x1 : Int32) (w : XW) : Option (Int32 × XW) := (f_X1_augment_9 x1 1000 200 x1 0 w)
set_option maxRecDepth 100000 in
theorem W_X1_augment {g : GC} (hl : g.1.stackTraces = false) {x1 : Int32} {w : XW} : VE g cX1_augment 6 RX1 (some .int) [] (rmL 5 0 0) 0 0 oI 0 0 0 [(0, .ref (g.2.1 + 124)), (1, .int x1)] [] w (f_X1_augment x1 w) := by
  unfold f_X1_augment
  refine v_sipush (v := 200) dX1_augment_0 (by decide) ?_
  refine v_istore_n dX1_augment_3 rfl (Nat.le_of_ble_eq_true rfl) rfl ?_
  refine v_iload_n dX1_augment_4 rfl 2 rfl ?_
  refine v_istore_n dX1_augment_5 rfl (Nat.le_of_ble_eq_true rfl) rfl ?_
  refine v_iconst (v := 0) dX1_augment_6 (by decide) ?_
  refine v_istore dX1_augment_7 (Nat.le_of_ble_eq_true rfl) rfl ?_
  refine v_sub [3, 4, 2, 1, 0] rfl ?_
  exact S_X1_augment_9 hl  _ _ _ _ _
theorem S_X1_augment {g : GC} (hl : g.1.stackTraces = false) {x1 : Int32} {w : XW} : ∀ q, f_X1_augment x1 w = some q → MM g (.code yX1_augment cX1_augment 6 (some .int)) yX1_augment (rmL 5 0 0) 0 0 [.ref (g.2.1 + 124), .int x1] w (oI q) := fun q hq => MM_of (own := RX1) hl (by decide) gw_818 rfl (Nat.le_of_ble_eq_true rfl) (W_X1_augment hl q hq) ⟨rfl, rfl⟩

theorem dX1_greatest_0 : decode cX1_greatest 0 = .ok (.iload_n 2, 1) := by decide +kernel
theorem dX1_greatest_1 : decode cX1_greatest 1 = .ok (.iconst 2, 1) := by decide +kernel
theorem dX1_greatest_2 : decode cX1_greatest 2 = .ok (.if_icmp .lt 9, 3) := by decide +kernel
theorem dX1_greatest_5 : decode cX1_greatest 5 = .ok (.iload_n 2, 1) := by decide +kernel
theorem dX1_greatest_6 : decode cX1_greatest 6 = .ok (.bipush 7, 2) := by decide +kernel
theorem dX1_greatest_8 : decode cX1_greatest 8 = .ok (.if_icmp .le 5, 3) := by decide +kernel
theorem dX1_greatest_11 : decode cX1_greatest 11 = .ok (.iconst 0, 1) := by decide +kernel
theorem dX1_greatest_12 : decode cX1_greatest 12 = .ok (.ireturn, 1) := by decide +kernel
theorem dX1_greatest_13 : decode cX1_greatest 13 = .ok (.aload_n 0, 1) := by decide +kernel
theorem dX1_greatest_14 : decode cX1_greatest 14 = .ok (.aload_n 1, 1) := by decide +kernel
theorem dX1_greatest_15 : decode cX1_greatest 15 = .ok (.iload_n 3, 1) := by decide +kernel
theorem dX1_greatest_16 : decode cX1_greatest 16 = .ok (.invokevirtual 21, 3) := by decide +kernel
theorem dX1_greatest_19 : decode cX1_greatest 19 = .ok (.iconst 0, 1) := by decide +kernel
theorem dX1_greatest_20 : decode cX1_greatest 20 = .ok (.istore 4, 2) := by decide +kernel
theorem dX1_greatest_22 : decode cX1_greatest 22 = .ok (.iconst 0, 1) := by decide +kernel
theorem dX1_greatest_23 : decode cX1_greatest 23 = .ok (.istore 5, 2) := by decide +kernel
theorem dX1_greatest_25 : decode cX1_greatest 25 = .ok (.iload 5, 2) := by decide +kernel
theorem dX1_greatest_27 : decode cX1_greatest 27 = .ok (.sipush 200, 3) := by decide +kernel
theorem dX1_greatest_30 : decode cX1_greatest 30 = .ok (.if_icmp .ge 32, 3) := by decide +kernel
theorem dX1_greatest_33 : decode cX1_greatest 33 = .ok (.aload_n 0, 1) := by decide +kernel
theorem dX1_greatest_34 : decode cX1_greatest 34 = .ok (.iload_n 2, 1) := by decide +kernel
theorem dX1_greatest_35 : decode cX1_greatest 35 = .ok (.invokevirtual 25, 3) := by decide +kernel
theorem dX1_greatest_38 : decode cX1_greatest 38 = .ok (.ifCond .ne 6, 3) := by decide +kernel
theorem dX1_greatest_41 : decode cX1_greatest 41 = .ok (.goto 21, 3) := by decide +kernel
theorem dX1_greatest_44 : decode cX1_greatest 44 = .ok (.iload 4, 2) := by decide +kernel
theorem dX1_greatest_46 : decode cX1_greatest 46 = .ok (.aload_n 0, 1) := by decide +kernel
theorem dX1_greatest_47 : decode cX1_greatest 47 = .ok (.iload_n 2, 1) := by decide +kernel
theorem dX1_greatest_48 : decode cX1_greatest 48 = .ok (.iconst 1, 1) := by decide +kernel
theorem dX1_greatest_49 : decode cX1_greatest 49 = .ok (.isub, 1) := by decide +kernel
theorem dX1_greatest_50 : decode cX1_greatest 50 = .ok (.invokevirtual 29, 3) := by decide +kernel
theorem dX1_greatest_53 : decode cX1_greatest 53 = .ok (.iadd, 1) := by decide +kernel
theorem dX1_greatest_54 : decode cX1_greatest 54 = .ok (.istore 4, 2) := by decide +kernel
theorem dX1_greatest_56 : decode cX1_greatest 56 = .ok (.iinc 5 1, 3) := by decide +kernel
theorem dX1_greatest_59 : decode cX1_greatest 59 = .ok (.goto (-34), 3) := by decide +kernel
theorem dX1_greatest_62 : decode cX1_greatest 62 = .ok (.iload 4, 2) := by decide +kernel
theorem dX1_greatest_64 : decode cX1_greatest 64 = .ok (.ireturn, 1) := by decide +kernel
def f_X1_greatest_25 (k1 : Nat) (y2 : Int32) : Nat → Int32 → Int32 → XW → Option (Int32 × XW)
  | 0, _, _, _ => none
  | n + 1, z4, z5, w => (if 200 ≤ z5 then (some (z4, w)) else (bI (f_X1_reachesLast y2 w) (fun r2 w2 => (if r2 = 0 then (some (z4, w2)) else (bI (f_X1_augment (y2 - 1) w2) (fun r3 w3 => (f_X1_greatest_25 k1 y2 n (z4 + r3) (z5 + 1) w3)))))))
set_option maxRecDepth 100000 in
theorem S_X1_greatest_25 {g : GC} (hl : g.1.stackTraces = false) {k1 : Nat} (hk1 : isX5 k1) {y2 : Int32} : ∀ (n : Nat) (z4 : Int32) (z5 : Int32) (w : XW), VE g cX1_greatest 6 RX1 (some .int) [] (rmL 6 0 0) 0 0 oI 0 0 25 [(0, .ref (g.2.1 + 124)), (2, .int y2), (4, .int z4), (5, .int z5)] [] w (f_X1_greatest_25 k1 y2 n z4 z5 w) := by
  intro n
  induction n with
  | zero => intro z4 z5 w; exact v_none
  | succ n ih =>
    intro z4 z5 w
    rw [f_X1_greatest_25]
    refine v_iload dX1_greatest_25 3 rfl ?_
    refine v_sipush (v := 200) dX1_greatest_27 (by decide) ?_
    refine v_icmp_ge (tgt := 62) dX1_greatest_30 (by decide) ?_ ?_
    · refine v_iload dX1_greatest_62 2 rfl ?_
      exact v_iret dX1_greatest_64 rfl rfl (by decide) (by decide)
    · refine v_aload_n dX1_greatest_33 rfl 0 rfl ?_
      refine v_iload_n dX1_greatest_34 rfl 1 rfl ?_
      refine v_callVi (As := [.int y2]) cv_X1_25 (S_X1_reachesLast hl) tt_124 rfl rfl rfl (Nat.le_of_ble_eq_true rfl) dX1_greatest_35 (CR_rm (by decide) (by decide) (by decide) (by decide)) (fun r2 w2 => ?_)
      refine v_if_ne (tgt := 44) dX1_greatest_38 (by decide) ?_ ?_
      · refine v_iload dX1_greatest_44 2 rfl ?_
        refine v_aload_n dX1_greatest_46 rfl 0 rfl ?_
        refine v_iload_n dX1_greatest_47 rfl 1 rfl ?_
        refine v_iconst (v := 1) dX1_greatest_48 (by decide) ?_
        refine v_isub dX1_greatest_49 ?_
        refine v_callVi (As := [.int (y2 - 1)]) cv_X1_29 (S_X1_augment hl) tt_124 rfl rfl rfl (Nat.le_of_ble_eq_true rfl) dX1_greatest_50 (CR_rm (by decide) (by decide) (by decide) (by decide)) (fun r3 w3 => ?_)
        refine v_iadd dX1_greatest_53 ?_
        refine v_istore dX1_greatest_54 (Nat.le_of_ble_eq_true rfl) rfl ?_
        refine v_iinc (v := (z5 + 1)) dX1_greatest_56 (q := 3) rfl rfl (Nat.le_of_ble_eq_true rfl) rfl ?_
        refine v_goto (tgt := 25) dX1_greatest_59 (by decide) ?_
        refine v_sub [2, 3, 1, 0] rfl ?_
        exact ih _ _ _
      · refine v_goto (tgt := 62) dX1_greatest_41 (by decide) ?_
        refine v_iload dX1_greatest_62 2 rfl ?_
        exact v_iret dX1_greatest_64 rfl rfl (by decide) (by decide)
def f_X1_greatest (k1 : Nat) (x2 : Int32) (x3 : Int32) (w : XW) : Option (Int32 × XW) := (if x2 < 2 then (some (0, w)) else (if x2 ≤ 7 then (bV (f_X1_openPipes k1 x3 w) (fun w1 => (f_X1_greatest_25 k1 x2 1000 0 0 w1))) else (some (0, w))))
set_option maxRecDepth 100000 in
theorem W_X1_greatest {g : GC} (hl : g.1.stackTraces = false) {k1 : Nat} (hk1 : isX5 k1) {x2 : Int32} {x3 : Int32} {w : XW} : VE g cX1_greatest 6 RX1 (some .int) [] (rmL 6 0 0) 0 0 oI 0 0 0 [(0, .ref (g.2.1 + 124)), (1, .ref (g.2.1 + k1)), (2, .int x2), (3, .int x3)] [] w (f_X1_greatest k1 x2 x3 w) := by
  unfold f_X1_greatest
  refine v_iload_n dX1_greatest_0 rfl 2 rfl ?_
  refine v_iconst (v := 2) dX1_greatest_1 (by decide) ?_
  refine v_icmp_lt (tgt := 11) dX1_greatest_2 (by decide) ?_ ?_
  · refine v_iconst (v := 0) dX1_greatest_11 (by decide) ?_
    exact v_iret dX1_greatest_12 rfl rfl (by decide) (by decide)
  · refine v_iload_n dX1_greatest_5 rfl 2 rfl ?_
    refine v_bipush (v := 7) dX1_greatest_6 (by decide) ?_
    refine v_icmp_le (tgt := 13) dX1_greatest_8 (by decide) ?_ ?_
    · refine v_aload_n dX1_greatest_13 rfl 0 rfl ?_
      refine v_aload_n dX1_greatest_14 rfl 1 rfl ?_
      refine v_iload_n dX1_greatest_15 rfl 3 rfl ?_
      refine v_callVv (As := [.ref (g.2.1 + k1), .int x3]) cv_X1_21 (S_X1_openPipes hl hk1) tt_124 rfl rfl rfl (Nat.le_of_ble_eq_true rfl) dX1_greatest_16 (CR_rm (by decide) (by decide) (by decide) (by decide)) (fun w1 => ?_)
      refine v_iconst (v := 0) dX1_greatest_19 (by decide) ?_
      refine v_istore dX1_greatest_20 (Nat.le_of_ble_eq_true rfl) rfl ?_
      refine v_iconst (v := 0) dX1_greatest_22 (by decide) ?_
      refine v_istore dX1_greatest_23 (Nat.le_of_ble_eq_true rfl) rfl ?_
      refine v_sub [2, 4, 1, 0] rfl ?_
      exact S_X1_greatest_25 hl hk1  _ _ _ _
    · refine v_iconst (v := 0) dX1_greatest_11 (by decide) ?_
      exact v_iret dX1_greatest_12 rfl rfl (by decide) (by decide)
theorem S_X1_greatest {g : GC} (hl : g.1.stackTraces = false) {k1 : Nat} (hk1 : isX5 k1) {x2 : Int32} {x3 : Int32} {w : XW} : ∀ q, f_X1_greatest k1 x2 x3 w = some q → MM g (.code yX1_greatest cX1_greatest 6 (some .int)) yX1_greatest (rmL 6 0 0) 0 0 [.ref (g.2.1 + 124), .ref (g.2.1 + k1), .int x2, .int x3] w (oI q) := fun q hq => MM_of (own := RX1) hl (by decide) gw_781 rfl (Nat.le_of_ble_eq_true rfl) (W_X1_greatest hl hk1 q hq) ⟨rfl, rfl⟩

theorem dX1_contains_0 : decode cX1_contains 0 = .ok (.iload_n 0, 1) := by decide +kernel
theorem dX1_contains_1 : decode cX1_contains 1 = .ok (.iload_n 1, 1) := by decide +kernel
theorem dX1_contains_2 : decode cX1_contains 2 = .ok (.ishr, 1) := by decide +kernel
theorem dX1_contains_3 : decode cX1_contains 3 = .ok (.iconst 1, 1) := by decide +kernel
theorem dX1_contains_4 : decode cX1_contains 4 = .ok (.iand, 1) := by decide +kernel
theorem dX1_contains_5 : decode cX1_contains 5 = .ok (.ifCond .eq 7, 3) := by decide +kernel
theorem dX1_contains_8 : decode cX1_contains 8 = .ok (.iconst 1, 1) := by decide +kernel
theorem dX1_contains_9 : decode cX1_contains 9 = .ok (.goto 4, 3) := by decide +kernel
theorem dX1_contains_12 : decode cX1_contains 12 = .ok (.iconst 0, 1) := by decide +kernel
theorem dX1_contains_13 : decode cX1_contains 13 = .ok (.ireturn, 1) := by decide +kernel
def f_X1_contains (x0 : Int32) (x1 : Int32) (w : XW) : Option (Int32 × XW) := (if ((x0 >>> (x1 &&& 31)) &&& 1) = 0 then (some (0, w)) else (some (1, w)))
set_option maxRecDepth 100000 in
theorem W_X1_contains {g : GC} (hl : g.1.stackTraces = false) {x0 : Int32} {x1 : Int32} {w : XW} : VE g cX1_contains 2 RX1 (some .boolean) [] (rmL 3 0 0) 0 0 oI 0 0 0 [(0, .int x0), (1, .int x1)] [] w (f_X1_contains x0 x1 w) := by
  unfold f_X1_contains
  refine v_iload_n dX1_contains_0 rfl 0 rfl ?_
  refine v_iload_n dX1_contains_1 rfl 1 rfl ?_
  refine v_ishr dX1_contains_2 ?_
  refine v_iconst (v := 1) dX1_contains_3 (by decide) ?_
  refine v_iand dX1_contains_4 ?_
  refine v_if_eq (tgt := 12) dX1_contains_5 (by decide) ?_ ?_
  · refine v_iconst (v := 0) dX1_contains_12 (by decide) ?_
    exact v_zret dX1_contains_13 rfl rfl rfl (by decide) (by decide)
  · refine v_iconst (v := 1) dX1_contains_8 (by decide) ?_
    refine v_goto (tgt := 13) dX1_contains_9 (by decide) ?_
    exact v_zret dX1_contains_13 rfl rfl rfl (by decide) (by decide)
theorem S_X1_contains {g : GC} (hl : g.1.stackTraces = false) {x0 : Int32} {x1 : Int32} {w : XW} : ∀ q, f_X1_contains x0 x1 w = some q → MM g (.code yX1_contains cX1_contains 2 (some .boolean)) yX1_contains (rmL 3 0 0) 0 0 [.int x0, .int x1] w (oI q) := fun q hq => MM_of (own := RX1) hl (by decide) gw_1100 rfl (Nat.le_of_ble_eq_true rfl) (W_X1_contains hl q hq) ⟨rfl, rfl⟩

theorem dX1_cutSize_0 : decode cX1_cutSize 0 = .ok (.iconst 0, 1) := by decide +kernel
theorem dX1_cutSize_1 : decode cX1_cutSize 1 = .ok (.istore_n 2, 1) := by decide +kernel
theorem dX1_cutSize_2 : decode cX1_cutSize 2 = .ok (.iconst 0, 1) := by decide +kernel
theorem dX1_cutSize_3 : decode cX1_cutSize 3 = .ok (.istore_n 3, 1) := by decide +kernel
theorem dX1_cutSize_4 : decode cX1_cutSize 4 = .ok (.iload_n 3, 1) := by decide +kernel
theorem dX1_cutSize_5 : decode cX1_cutSize 5 = .ok (.aload_n 0, 1) := by decide +kernel
theorem dX1_cutSize_6 : decode cX1_cutSize 6 = .ok (.getfield 33, 3) := by decide +kernel
theorem dX1_cutSize_9 : decode cX1_cutSize 9 = .ok (.if_icmp .ge 61, 3) := by decide +kernel
theorem dX1_cutSize_12 : decode cX1_cutSize 12 = .ok (.iload_n 1, 1) := by decide +kernel
theorem dX1_cutSize_13 : decode cX1_cutSize 13 = .ok (.aload_n 0, 1) := by decide +kernel
theorem dX1_cutSize_14 : decode cX1_cutSize 14 = .ok (.iload_n 3, 1) := by decide +kernel
theorem dX1_cutSize_15 : decode cX1_cutSize 15 = .ok (.invokevirtual 42, 3) := by decide +kernel
theorem dX1_cutSize_18 : decode cX1_cutSize 18 = .ok (.invokestatic 75, 3) := by decide +kernel
theorem dX1_cutSize_21 : decode cX1_cutSize 21 = .ok (.ifCond .eq 19, 3) := by decide +kernel
theorem dX1_cutSize_24 : decode cX1_cutSize 24 = .ok (.iload_n 1, 1) := by decide +kernel
theorem dX1_cutSize_25 : decode cX1_cutSize 25 = .ok (.aload_n 0, 1) := by decide +kernel
theorem dX1_cutSize_26 : decode cX1_cutSize 26 = .ok (.iload_n 3, 1) := by decide +kernel
theorem dX1_cutSize_27 : decode cX1_cutSize 27 = .ok (.invokevirtual 45, 3) := by decide +kernel
theorem dX1_cutSize_30 : decode cX1_cutSize 30 = .ok (.invokestatic 75, 3) := by decide +kernel
theorem dX1_cutSize_33 : decode cX1_cutSize 33 = .ok (.ifCond .ne 7, 3) := by decide +kernel
theorem dX1_cutSize_36 : decode cX1_cutSize 36 = .ok (.iconst 1, 1) := by decide +kernel
theorem dX1_cutSize_37 : decode cX1_cutSize 37 = .ok (.goto 4, 3) := by decide +kernel
theorem dX1_cutSize_40 : decode cX1_cutSize 40 = .ok (.iconst 0, 1) := by decide +kernel
theorem dX1_cutSize_41 : decode cX1_cutSize 41 = .ok (.istore 4, 2) := by decide +kernel
theorem dX1_cutSize_43 : decode cX1_cutSize 43 = .ok (.iload 4, 2) := by decide +kernel
theorem dX1_cutSize_45 : decode cX1_cutSize 45 = .ok (.ifCond .eq 19, 3) := by decide +kernel
theorem dX1_cutSize_48 : decode cX1_cutSize 48 = .ok (.aload_n 0, 1) := by decide +kernel
theorem dX1_cutSize_49 : decode cX1_cutSize 49 = .ok (.iload_n 3, 1) := by decide +kernel
theorem dX1_cutSize_50 : decode cX1_cutSize 50 = .ok (.invokevirtual 39, 3) := by decide +kernel
theorem dX1_cutSize_53 : decode cX1_cutSize 53 = .ok (.ifCond .ne 11, 3) := by decide +kernel
theorem dX1_cutSize_56 : decode cX1_cutSize 56 = .ok (.iload_n 2, 1) := by decide +kernel
theorem dX1_cutSize_57 : decode cX1_cutSize 57 = .ok (.aload_n 0, 1) := by decide +kernel
theorem dX1_cutSize_58 : decode cX1_cutSize 58 = .ok (.iload_n 3, 1) := by decide +kernel
theorem dX1_cutSize_59 : decode cX1_cutSize 59 = .ok (.invokevirtual 48, 3) := by decide +kernel
theorem dX1_cutSize_62 : decode cX1_cutSize 62 = .ok (.iadd, 1) := by decide +kernel
theorem dX1_cutSize_63 : decode cX1_cutSize 63 = .ok (.istore_n 2, 1) := by decide +kernel
theorem dX1_cutSize_64 : decode cX1_cutSize 64 = .ok (.iinc 3 1, 3) := by decide +kernel
theorem dX1_cutSize_67 : decode cX1_cutSize 67 = .ok (.goto (-63), 3) := by decide +kernel
theorem dX1_cutSize_70 : decode cX1_cutSize 70 = .ok (.iload_n 2, 1) := by decide +kernel
theorem dX1_cutSize_71 : decode cX1_cutSize 71 = .ok (.ireturn, 1) := by decide +kernel
def f_X1_cutSize_4 (k0 : Nat) (y1 : Int32) : Nat → Int32 → Int32 → XW → Option (Int32 × XW)
  | 0, _, _, _ => none
  | n + 1, z2, z3, w => (if (w.1 k0 0) ≤ z3 then (some (z2, w)) else (bI (f_X5_startOf k0 z3 w) (fun r1 w1 => (bI (f_X1_contains y1 r1 w1) (fun r2 w2 => (if r2 = 0 then (f_X1_cutSize_4 k0 y1 n z2 (z3 + 1) w2) else (bI (f_X5_endOf k0 z3 w2) (fun r3 w3 => (bI (f_X1_contains y1 r3 w3) (fun r4 w4 => (if r4 = 0 then (bI (f_X5_brokenAt k0 z3 w4) (fun r5 w5 => (if r5 = 0 then (bI (f_X5_widthOf k0 z3 w5) (fun r6 w6 => (f_X1_cutSize_4 k0 y1 n (z2 + r6) (z3 + 1) w6))) else (f_X1_cutSize_4 k0 y1 n z2 (z3 + 1) w5)))) else (f_X1_cutSize_4 k0 y1 n z2 (z3 + 1) w4))))))))))))
set_option maxRecDepth 100000 in
theorem S_X1_cutSize_4 {g : GC} (hl : g.1.stackTraces = false) {k0 : Nat} (hk0 : isX5 k0) {y1 : Int32} : ∀ (n : Nat) (z2 : Int32) (z3 : Int32) (w : XW), VE g cX1_cutSize 5 RX1 (some .int) [] (rmL 5 0 0) 0 0 oI 0 0 4 [(0, .ref (g.2.1 + k0)), (1, .int y1), (2, .int z2), (3, .int z3)] [] w (f_X1_cutSize_4 k0 y1 n z2 z3 w) := by
  intro n
  induction n with
  | zero => intro z2 z3 w; exact v_none
  | succ n ih =>
    intro z2 z3 w
    rw [f_X1_cutSize_4]
    refine v_iload_n dX1_cutSize_4 rfl 3 rfl ?_
    refine v_aload_n dX1_cutSize_5 rfl 0 rfl ?_
    refine v_getI fl_X1_33 hk0.1 rfl dX1_cutSize_6 ?_
    refine v_icmp_ge (tgt := 70) dX1_cutSize_9 (by decide) ?_ ?_
    · refine v_iload_n dX1_cutSize_70 rfl 2 rfl ?_
      exact v_iret dX1_cutSize_71 rfl rfl (by decide) (by decide)
    · refine v_iload_n dX1_cutSize_12 rfl 1 rfl ?_
      refine v_aload_n dX1_cutSize_13 rfl 0 rfl ?_
      refine v_iload_n dX1_cutSize_14 rfl 3 rfl ?_
      refine v_callVi (As := [.int z3]) cv_X1_42 (S_X5_startOf hl hk0) hk0.1 rfl rfl rfl (Nat.le_of_ble_eq_true rfl) dX1_cutSize_15 (CR_rm (by decide) (by decide) (by decide) (by decide)) (fun r1 w1 => ?_)
      refine v_callSi (As := [.int y1, .int r1]) cs_X1_75 (S_X1_contains hl) rfl rfl (Nat.le_of_ble_eq_true rfl) dX1_cutSize_18 (CR_rm (by decide) (by decide) (by decide) (by decide)) (fun r2 w2 => ?_)
      refine v_if_eq (tgt := 40) dX1_cutSize_21 (by decide) ?_ ?_
      · refine v_iconst (v := 0) dX1_cutSize_40 (by decide) ?_
        refine v_istore dX1_cutSize_41 (Nat.le_of_ble_eq_true rfl) rfl ?_
        refine v_iload dX1_cutSize_43 0 rfl ?_
        refine v_if_eqT (tgt := 64) dX1_cutSize_45 (by decide) (by decide) ?_
        refine v_iinc (v := (z3 + 1)) dX1_cutSize_64 (q := 4) rfl rfl (Nat.le_of_ble_eq_true rfl) rfl ?_
        refine v_goto (tgt := 4) dX1_cutSize_67 (by decide) ?_
        refine v_sub [2, 3, 4, 0] rfl ?_
        exact ih _ _ _
      · refine v_iload_n dX1_cutSize_24 rfl 1 rfl ?_
        refine v_aload_n dX1_cutSize_25 rfl 0 rfl ?_
        refine v_iload_n dX1_cutSize_26 rfl 3 rfl ?_
        refine v_callVi (As := [.int z3]) cv_X1_45 (S_X5_endOf hl hk0) hk0.1 rfl rfl rfl (Nat.le_of_ble_eq_true rfl) dX1_cutSize_27 (CR_rm (by decide) (by decide) (by decide) (by decide)) (fun r3 w3 => ?_)
        refine v_callSi (As := [.int y1, .int r3]) cs_X1_75 (S_X1_contains hl) rfl rfl (Nat.le_of_ble_eq_true rfl) dX1_cutSize_30 (CR_rm (by decide) (by decide) (by decide) (by decide)) (fun r4 w4 => ?_)
        refine v_if_ne (tgt := 40) dX1_cutSize_33 (by decide) ?_ ?_
        · refine v_iconst (v := 0) dX1_cutSize_40 (by decide) ?_
          refine v_istore dX1_cutSize_41 (Nat.le_of_ble_eq_true rfl) rfl ?_
          refine v_iload dX1_cutSize_43 0 rfl ?_
          refine v_if_eqT (tgt := 64) dX1_cutSize_45 (by decide) (by decide) ?_
          refine v_iinc (v := (z3 + 1)) dX1_cutSize_64 (q := 4) rfl rfl (Nat.le_of_ble_eq_true rfl) rfl ?_
          refine v_goto (tgt := 4) dX1_cutSize_67 (by decide) ?_
          refine v_sub [2, 3, 4, 0] rfl ?_
          exact ih _ _ _
        · refine v_iconst (v := 1) dX1_cutSize_36 (by decide) ?_
          refine v_goto (tgt := 41) dX1_cutSize_37 (by decide) ?_
          refine v_istore dX1_cutSize_41 (Nat.le_of_ble_eq_true rfl) rfl ?_
          refine v_iload dX1_cutSize_43 0 rfl ?_
          refine v_if_eqF (tgt := 64) dX1_cutSize_45 (by decide) (by decide) ?_
          refine v_aload_n dX1_cutSize_48 rfl 1 rfl ?_
          refine v_iload_n dX1_cutSize_49 rfl 4 rfl ?_
          refine v_callVi (As := [.int z3]) cv_X1_39 (S_X5_brokenAt hl hk0) hk0.1 rfl rfl rfl (Nat.le_of_ble_eq_true rfl) dX1_cutSize_50 (CR_rm (by decide) (by decide) (by decide) (by decide)) (fun r5 w5 => ?_)
          refine v_if_ne (tgt := 64) dX1_cutSize_53 (by decide) ?_ ?_
          · refine v_iinc (v := (z3 + 1)) dX1_cutSize_64 (q := 4) rfl rfl (Nat.le_of_ble_eq_true rfl) rfl ?_
            refine v_goto (tgt := 4) dX1_cutSize_67 (by decide) ?_
            refine v_sub [2, 3, 4, 0] rfl ?_
            exact ih _ _ _
          · refine v_iload_n dX1_cutSize_56 rfl 3 rfl ?_
            refine v_aload_n dX1_cutSize_57 rfl 1 rfl ?_
            refine v_iload_n dX1_cutSize_58 rfl 4 rfl ?_
            refine v_callVi (As := [.int z3]) cv_X1_48 (S_X5_widthOf hl hk0) hk0.1 rfl rfl rfl (Nat.le_of_ble_eq_true rfl) dX1_cutSize_59 (CR_rm (by decide) (by decide) (by decide) (by decide)) (fun r6 w6 => ?_)
            refine v_iadd dX1_cutSize_62 ?_
            refine v_istore_n dX1_cutSize_63 rfl (Nat.le_of_ble_eq_true rfl) rfl ?_
            refine v_iinc (v := (z3 + 1)) dX1_cutSize_64 (q := 4) rfl rfl (Nat.le_of_ble_eq_true rfl) rfl ?_
            refine v_goto (tgt := 4) dX1_cutSize_67 (by decide) ?_
            refine v_sub [3, 4, 1, 0] rfl ?_
            exact ih _ _ _
def f_X1_cutSize (k0 : Nat) (x1 : Int32) (w : XW) : Option (Int32 × XW) := (f_X1_cutSize_4 k0 x1 1000 0 0 w)
set_option maxRecDepth 100000 in
theorem W_X1_cutSize {g : GC} (hl : g.1.stackTraces = false) {k0 : Nat} (hk0 : isX5 k0) {x1 : Int32} {w : XW} : VE g cX1_cutSize 5 RX1 (some .int) [] (rmL 5 0 0) 0 0 oI 0 0 0 [(0, .ref (g.2.1 + k0)), (1, .int x1)] [] w (f_X1_cutSize k0 x1 w) := by
  unfold f_X1_cutSize
  refine v_iconst (v := 0) dX1_cutSize_0 (by decide) ?_
  refine v_istore_n dX1_cutSize_1 rfl (Nat.le_of_ble_eq_true rfl) rfl ?_
  refine v_iconst (v := 0) dX1_cutSize_2 (by decide) ?_
  refine v_istore_n dX1_cutSize_3 rfl (Nat.le_of_ble_eq_true rfl) rfl ?_
  refine v_sub [2, 3, 1, 0] rfl ?_
  exact S_X1_cutSize_4 hl hk0  _ _ _ _
theorem S_X1_cutSize {g : GC} (hl : g.1.stackTraces = false) {k0 : Nat} (hk0 : isX5 k0) {x1 : Int32} {w : XW} : ∀ q, f_X1_cutSize k0 x1 w = some q → MM g (.code yX1_cutSize cX1_cutSize 5 (some .int)) yX1_cutSize (rmL 5 0 0) 0 0 [.ref (g.2.1 + k0), .int x1] w (oI q) := fun q hq => MM_of (own := RX1) hl (by decide) gw_1097 rfl (Nat.le_of_ble_eq_true rfl) (W_X1_cutSize hl hk0 q hq) ⟨rfl, rfl⟩

theorem dX1_smallest_0 : decode cX1_smallest 0 = .ok (.iload_n 2, 1) := by decide +kernel
theorem dX1_smallest_1 : decode cX1_smallest 1 = .ok (.iconst 2, 1) := by decide +kernel
theorem dX1_smallest_2 : decode cX1_smallest 2 = .ok (.if_icmp .lt 9, 3) := by decide +kernel
theorem dX1_smallest_5 : decode cX1_smallest 5 = .ok (.iload_n 2, 1) := by decide +kernel
theorem dX1_smallest_6 : decode cX1_smallest 6 = .ok (.bipush 7, 2) := by decide +kernel
theorem dX1_smallest_8 : decode cX1_smallest 8 = .ok (.if_icmp .le 5, 3) := by decide +kernel
theorem dX1_smallest_11 : decode cX1_smallest 11 = .ok (.iconst 0, 1) := by decide +kernel
theorem dX1_smallest_12 : decode cX1_smallest 12 = .ok (.ireturn, 1) := by decide +kernel
theorem dX1_smallest_13 : decode cX1_smallest 13 = .ok (.sipush 200, 3) := by decide +kernel
theorem dX1_smallest_16 : decode cX1_smallest 16 = .ok (.istore_n 3, 1) := by decide +kernel
theorem dX1_smallest_17 : decode cX1_smallest 17 = .ok (.iconst 1, 1) := by decide +kernel
theorem dX1_smallest_18 : decode cX1_smallest 18 = .ok (.istore 4, 2) := by decide +kernel
theorem dX1_smallest_20 : decode cX1_smallest 20 = .ok (.iload 4, 2) := by decide +kernel
theorem dX1_smallest_22 : decode cX1_smallest 22 = .ok (.iconst 1, 1) := by decide +kernel
theorem dX1_smallest_23 : decode cX1_smallest 23 = .ok (.iload_n 2, 1) := by decide +kernel
theorem dX1_smallest_24 : decode cX1_smallest 24 = .ok (.iconst 1, 1) := by decide +kernel
theorem dX1_smallest_25 : decode cX1_smallest 25 = .ok (.isub, 1) := by decide +kernel
theorem dX1_smallest_26 : decode cX1_smallest 26 = .ok (.ishl, 1) := by decide +kernel
theorem dX1_smallest_27 : decode cX1_smallest 27 = .ok (.if_icmp .ge 20, 3) := by decide +kernel
theorem dX1_smallest_30 : decode cX1_smallest 30 = .ok (.iload_n 3, 1) := by decide +kernel
theorem dX1_smallest_31 : decode cX1_smallest 31 = .ok (.aload_n 1, 1) := by decide +kernel
theorem dX1_smallest_32 : decode cX1_smallest 32 = .ok (.iload 4, 2) := by decide +kernel
theorem dX1_smallest_34 : decode cX1_smallest 34 = .ok (.invokestatic 71, 3) := by decide +kernel
theorem dX1_smallest_37 : decode cX1_smallest 37 = .ok (.invokestatic 66, 3) := by decide +kernel
theorem dX1_smallest_40 : decode cX1_smallest 40 = .ok (.istore_n 3, 1) := by decide +kernel
theorem dX1_smallest_41 : decode cX1_smallest 41 = .ok (.iinc 4 2, 3) := by decide +kernel
theorem dX1_smallest_44 : decode cX1_smallest 44 = .ok (.goto (-24), 3) := by decide +kernel
theorem dX1_smallest_47 : decode cX1_smallest 47 = .ok (.iload_n 3, 1) := by decide +kernel
theorem dX1_smallest_48 : decode cX1_smallest 48 = .ok (.ireturn, 1) := by decide +kernel
def f_X1_smallest_20 (k1 : Nat) (y2 : Int32) : Nat → Int32 → Int32 → XW → Option (Int32 × XW)
  | 0, _, _, _ => none
  | n + 1, z3, z4, w => (if (1 <<< ((y2 - 1) &&& 31)) ≤ z4 then (some (z3, w)) else (bI (f_X1_cutSize k1 z4 w) (fun r1 w1 => (f_X1_smallest_20 k1 y2 n (if r1 < z3 then r1 else z3) (z4 + 2) w1))))
set_option maxRecDepth 100000 in
theorem S_X1_smallest_20 {g : GC} (hl : g.1.stackTraces = false) {k1 : Nat} (hk1 : isX5 k1) {y2 : Int32} : ∀ (n : Nat) (z3 : Int32) (z4 : Int32) (w : XW), VE g cX1_smallest 5 RX1 (some .int) [] (rmL 6 0 0) 0 0 oI 0 0 20 [(1, .ref (g.2.1 + k1)), (2, .int y2), (3, .int z3), (4, .int z4)] [] w (f_X1_smallest_20 k1 y2 n z3 z4 w) := by
  intro n
  induction n with
  | zero => intro z3 z4 w; exact v_none
  | succ n ih =>
    intro z3 z4 w
    rw [f_X1_smallest_20]
    refine v_iload dX1_smallest_20 3 rfl ?_
    refine v_iconst (v := 1) dX1_smallest_22 (by decide) ?_
    refine v_iload_n dX1_smallest_23 rfl 1 rfl ?_
    refine v_iconst (v := 1) dX1_smallest_24 (by decide) ?_
    refine v_isub dX1_smallest_25 ?_
    refine v_ishl dX1_smallest_26 ?_
    refine v_icmp_ge (tgt := 47) dX1_smallest_27 (by decide) ?_ ?_
    · refine v_iload_n dX1_smallest_47 rfl 2 rfl ?_
      exact v_iret dX1_smallest_48 rfl rfl (by decide) (by decide)
    · refine v_iload_n dX1_smallest_30 rfl 2 rfl ?_
      refine v_aload_n dX1_smallest_31 rfl 0 rfl ?_
      refine v_iload dX1_smallest_32 3 rfl ?_
      refine v_callSi (As := [.ref (g.2.1 + k1), .int z4]) cs_X1_71 (S_X1_cutSize hl hk1) rfl rfl (Nat.le_of_ble_eq_true rfl) dX1_smallest_34 (CR_rm (by decide) (by decide) (by decide) (by decide)) (fun r1 w1 => ?_)
      refine v_min gw_819 gw_403 gw_98 gw_404 dX1_smallest_37 (CR_f1 _ _ _) (CR_f2 (by decide) _ _ _) (by decide) (by decide) ?_
      refine v_istore_n dX1_smallest_40 rfl (Nat.le_of_ble_eq_true rfl) rfl ?_
      refine v_iinc (v := (z4 + 2)) dX1_smallest_41 (q := 3) rfl rfl (Nat.le_of_ble_eq_true rfl) rfl ?_
      refine v_goto (tgt := 20) dX1_smallest_44 (by decide) ?_
      refine v_sub [2, 3, 1, 0] rfl ?_
      exact ih _ _ _
def f_X1_smallest (k1 : Nat) (x2 : Int32) (w : XW) : Option (Int32 × XW) := (if x2 < 2 then (some (0, w)) else (if x2 ≤ 7 then (f_X1_smallest_20 k1 x2 1000 200 1 w) else (some (0, w))))
set_option maxRecDepth 100000 in
theorem W_X1_smallest {g : GC} (hl : g.1.stackTraces = false) {k1 : Nat} (hk1 : isX5 k1) {x2 : Int32} {w : XW} : VE g cX1_smallest 5 RX1 (some .int) [] (rmL 6 0 0) 0 0 oI 0 0 0 [(0, .ref (g.2.1 + 124)), (1, .ref (g.2.1 + k1)), (2, .int x2)] [] w (f_X1_smallest k1 x2 w) := by
  unfold f_X1_smallest
  refine v_iload_n dX1_smallest_0 rfl 2 rfl ?_
  refine v_iconst (v := 2) dX1_smallest_1 (by decide) ?_
  refine v_icmp_lt (tgt := 11) dX1_smallest_2 (by decide) ?_ ?_
  · refine v_iconst (v := 0) dX1_smallest_11 (by decide) ?_
    exact v_iret dX1_smallest_12 rfl rfl (by decide) (by decide)
  · refine v_iload_n dX1_smallest_5 rfl 2 rfl ?_
    refine v_bipush (v := 7) dX1_smallest_6 (by decide) ?_
    refine v_icmp_le (tgt := 13) dX1_smallest_8 (by decide) ?_ ?_
    · refine v_sipush (v := 200) dX1_smallest_13 (by decide) ?_
      refine v_istore_n dX1_smallest_16 rfl (Nat.le_of_ble_eq_true rfl) rfl ?_
      refine v_iconst (v := 1) dX1_smallest_17 (by decide) ?_
      refine v_istore dX1_smallest_18 (Nat.le_of_ble_eq_true rfl) rfl ?_
      refine v_sub [3, 4, 1, 0] rfl ?_
      exact S_X1_smallest_20 hl hk1  _ _ _ _
    · refine v_iconst (v := 0) dX1_smallest_11 (by decide) ?_
      exact v_iret dX1_smallest_12 rfl rfl (by decide) (by decide)
theorem S_X1_smallest {g : GC} (hl : g.1.stackTraces = false) {k1 : Nat} (hk1 : isX5 k1) {x2 : Int32} {w : XW} : ∀ q, f_X1_smallest k1 x2 w = some q → MM g (.code yX1_smallest cX1_smallest 5 (some .int)) yX1_smallest (rmL 6 0 0) 0 0 [.ref (g.2.1 + 124), .ref (g.2.1 + k1), .int x2] w (oI q) := fun q hq => MM_of (own := RX1) hl (by decide) gw_1094 rfl (Nat.le_of_ble_eq_true rfl) (W_X1_smallest hl hk1 q hq) ⟨rfl, rfl⟩
end
section
theorem dX2_foldRest_0 : decode cX2_foldRest 0 = .ok (.iload_n 1, 1) := by decide +kernel
theorem dX2_foldRest_1 : decode cX2_foldRest 1 = .ok (.iload_n 2, 1) := by decide +kernel
theorem dX2_foldRest_2 : decode cX2_foldRest 2 = .ok (.if_icmp .lt 5, 3) := by decide +kernel
theorem dX2_foldRest_5 : decode cX2_foldRest 5 = .ok (.iconst 1, 1) := by decide +kernel
theorem dX2_foldRest_6 : decode cX2_foldRest 6 = .ok (.ireturn, 1) := by decide +kernel
theorem dX2_foldRest_7 : decode cX2_foldRest 7 = .ok (.iconst 0, 1) := by decide +kernel
theorem dX2_foldRest_8 : decode cX2_foldRest 8 = .ok (.istore_n 3, 1) := by decide +kernel
theorem dX2_foldRest_9 : decode cX2_foldRest 9 = .ok (.iconst 0, 1) := by decide +kernel
theorem dX2_foldRest_10 : decode cX2_foldRest 10 = .ok (.istore 4, 2) := by decide +kernel
theorem dX2_foldRest_12 : decode cX2_foldRest 12 = .ok (.iload 4, 2) := by decide +kernel
theorem dX2_foldRest_14 : decode cX2_foldRest 14 = .ok (.iload_n 1, 1) := by decide +kernel
theorem dX2_foldRest_15 : decode cX2_foldRest 15 = .ok (.if_icmp .gt 51, 3) := by decide +kernel
theorem dX2_foldRest_18 : decode cX2_foldRest 18 = .ok (.aload_n 0, 1) := by decide +kernel
theorem dX2_foldRest_19 : decode cX2_foldRest 19 = .ok (.getfield 12, 3) := by decide +kernel
theorem dX2_foldRest_22 : decode cX2_foldRest 22 = .ok (.iload 4, 2) := by decide +kernel
theorem dX2_foldRest_24 : decode cX2_foldRest 24 = .ok (.invokevirtual 39, 3) := by decide +kernel
theorem dX2_foldRest_27 : decode cX2_foldRest 27 = .ok (.iconst (-1), 1) := by decide +kernel
theorem dX2_foldRest_28 : decode cX2_foldRest 28 = .ok (.if_icmp .ne 32, 3) := by decide +kernel
theorem dX2_foldRest_31 : decode cX2_foldRest 31 = .ok (.aload_n 0, 1) := by decide +kernel
theorem dX2_foldRest_32 : decode cX2_foldRest 32 = .ok (.getfield 12, 3) := by decide +kernel
theorem dX2_foldRest_35 : decode cX2_foldRest 35 = .ok (.iload 4, 2) := by decide +kernel
theorem dX2_foldRest_37 : decode cX2_foldRest 37 = .ok (.invokevirtual 43, 3) := by decide +kernel
theorem dX2_foldRest_40 : decode cX2_foldRest 40 = .ok (.pop, 1) := by decide +kernel
theorem dX2_foldRest_41 : decode cX2_foldRest 41 = .ok (.iload_n 3, 1) := by decide +kernel
theorem dX2_foldRest_42 : decode cX2_foldRest 42 = .ok (.aload_n 0, 1) := by decide +kernel
theorem dX2_foldRest_43 : decode cX2_foldRest 43 = .ok (.iload_n 1, 1) := by decide +kernel
theorem dX2_foldRest_44 : decode cX2_foldRest 44 = .ok (.iconst 1, 1) := by decide +kernel
theorem dX2_foldRest_45 : decode cX2_foldRest 45 = .ok (.iadd, 1) := by decide +kernel
theorem dX2_foldRest_46 : decode cX2_foldRest 46 = .ok (.iload_n 2, 1) := by decide +kernel
theorem dX2_foldRest_47 : decode cX2_foldRest 47 = .ok (.invokevirtual 36, 3) := by decide +kernel
theorem dX2_foldRest_50 : decode cX2_foldRest 50 = .ok (.iadd, 1) := by decide +kernel
theorem dX2_foldRest_51 : decode cX2_foldRest 51 = .ok (.istore_n 3, 1) := by decide +kernel
theorem dX2_foldRest_52 : decode cX2_foldRest 52 = .ok (.aload_n 0, 1) := by decide +kernel
theorem dX2_foldRest_53 : decode cX2_foldRest 53 = .ok (.getfield 12, 3) := by decide +kernel
theorem dX2_foldRest_56 : decode cX2_foldRest 56 = .ok (.invokevirtual 46, 3) := by decide +kernel
theorem dX2_foldRest_59 : decode cX2_foldRest 59 = .ok (.pop, 1) := by decide +kernel
theorem dX2_foldRest_60 : decode cX2_foldRest 60 = .ok (.iinc 4 1, 3) := by decide +kernel
theorem dX2_foldRest_63 : decode cX2_foldRest 63 = .ok (.goto (-51), 3) := by decide +kernel
theorem dX2_foldRest_66 : decode cX2_foldRest 66 = .ok (.iload_n 3, 1) := by decide +kernel
theorem dX2_foldRest_67 : decode cX2_foldRest 67 = .ok (.ireturn, 1) := by decide +kernel
def f_X2_foldRest_12 (RC : Int32 → Int32 → XW → Option (Int32 × XW)) (y1 : Int32) (y2 : Int32) : Nat → Int32 → Int32 → XW → Option (Int32 × XW)
  | 0, _, _, _ => none
  | n + 1, z3, z4, w => (if y1 < z4 then (some (z3, w)) else (bI (f_X4_creaseCrossedAt 129 z4 w) (fun r1 w1 => (if r1 = (-1) then (bI (f_X4_insert 129 z4 w1) (fun r2 w2 => (bI (RC (y1 + 1) y2 w2) (fun r3 w3 => (bI (f_X4_removeLast 129 w3) (fun r4 w4 => (f_X2_foldRest_12 RC y1 y2 n (z3 + r3) (z4 + 1) w4))))))) else (f_X2_foldRest_12 RC y1 y2 n z3 (z4 + 1) w1)))))
set_option maxRecDepth 100000 in
theorem S_X2_foldRest_12 {g : GC} (hl : g.1.stackTraces = false) {n0 : Nat} (hn0 : 6 ≤ n0) {RC : Int32 → Int32 → XW → Option (Int32 × XW)} (hRC : ∀ (x1 : Int32) (x2 : Int32) (w : XW) q, RC x1 x2 w = some q → MM g (.code yX2_foldRest cX2_foldRest 5 (some .int)) yX2_foldRest (rmL n0 0 0) 0 0 [.ref (g.2.1 + 128), .int x1, .int x2] w (oI q)) {y1 : Int32} {y2 : Int32} : ∀ (n : Nat) (z3 : Int32) (z4 : Int32) (w : XW), VE g cX2_foldRest 5 RX2 (some .int) [] (rmL (n0 + 1) 0 0) 0 0 oI 0 0 12 [(0, .ref (g.2.1 + 128)), (1, .int y1), (2, .int y2), (3, .int z3), (4, .int z4)] [] w (f_X2_foldRest_12 RC y1 y2 n z3 z4 w) := by
  intro n
  induction n with
  | zero => intro z3 z4 w; exact v_none
  | succ n ih =>
    intro z3 z4 w
    rw [f_X2_foldRest_12]
    refine v_iload dX2_foldRest_12 4 rfl ?_
    refine v_iload_n dX2_foldRest_14 rfl 1 rfl ?_
    refine v_icmp_gt (tgt := 66) dX2_foldRest_15 (by decide) ?_ ?_
    · refine v_iload_n dX2_foldRest_66 rfl 3 rfl ?_
      exact v_iret dX2_foldRest_67 rfl rfl (by decide) (by decide)
    · refine v_aload_n dX2_foldRest_18 rfl 0 rfl ?_
      refine v_getR fl_X2_12 tt_128 rfl dX2_foldRest_19 ?_
      refine v_iload dX2_foldRest_22 4 rfl ?_
      refine v_callVi (As := [.int z4]) cv_X2_39 (S_X4_creaseCrossedAt hl is4_129) tt_129 rfl rfl rfl (Nat.le_of_ble_eq_true rfl) dX2_foldRest_24 (CR_rm (by omega) (by decide) (by decide) (by decide)) (fun r1 w1 => ?_)
      refine v_iconst (v := (-1)) dX2_foldRest_27 (by decide) ?_
      refine v_icmp_ne (tgt := 60) dX2_foldRest_28 (by decide) ?_ ?_
      · refine v_iinc (v := (z4 + 1)) dX2_foldRest_60 (q := 4) rfl rfl (Nat.le_of_ble_eq_true rfl) rfl ?_
        refine v_goto (tgt := 12) dX2_foldRest_63 (by decide) ?_
        refine v_sub [1, 2, 3, 4, 0] rfl ?_
        exact ih _ _ _
      · refine v_aload_n dX2_foldRest_31 rfl 0 rfl ?_
        refine v_getR fl_X2_12 tt_128 rfl dX2_foldRest_32 ?_
        refine v_iload dX2_foldRest_35 4 rfl ?_
        refine v_callVi (As := [.int z4]) cv_X2_43 (S_X4_insert hl is4_129) tt_129 rfl rfl rfl (Nat.le_of_ble_eq_true rfl) dX2_foldRest_37 (CR_rm (by omega) (by decide) (by decide) (by decide)) (fun r2 w2 => ?_)
        refine v_pop dX2_foldRest_40 rfl ?_
        refine v_iload_n dX2_foldRest_41 rfl 3 rfl ?_
        refine v_aload_n dX2_foldRest_42 rfl 0 rfl ?_
        refine v_iload_n dX2_foldRest_43 rfl 1 rfl ?_
        refine v_iconst (v := 1) dX2_foldRest_44 (by decide) ?_
        refine v_iadd dX2_foldRest_45 ?_
        refine v_iload_n dX2_foldRest_46 rfl 2 rfl ?_
        refine v_callVi (As := [.int (y1 + 1), .int y2]) cv_X2_36 (hRC _ _ _) tt_128 rfl rfl rfl (Nat.le_of_ble_eq_true rfl) dX2_foldRest_47 (CR_rm (by omega) (by decide) (by decide) (by decide)) (fun r3 w3 => ?_)
        refine v_iadd dX2_foldRest_50 ?_
        refine v_istore_n dX2_foldRest_51 rfl (Nat.le_of_ble_eq_true rfl) rfl ?_
        refine v_aload_n dX2_foldRest_52 rfl 1 rfl ?_
        refine v_getR fl_X2_12 tt_128 rfl dX2_foldRest_53 ?_
        refine v_callVi (As := []) cv_X2_46 (S_X4_removeLast hl is4_129) tt_129 rfl rfl rfl (Nat.le_of_ble_eq_true rfl) dX2_foldRest_56 (CR_rm (by omega) (by decide) (by decide) (by decide)) (fun r4 w4 => ?_)
        refine v_pop dX2_foldRest_59 rfl ?_
        refine v_iinc (v := (z4 + 1)) dX2_foldRest_60 (q := 4) rfl rfl (Nat.le_of_ble_eq_true rfl) rfl ?_
        refine v_goto (tgt := 12) dX2_foldRest_63 (by decide) ?_
        refine v_sub [2, 3, 4, 1, 0] rfl ?_
        exact ih _ _ _
def f_X2_foldRestO (RC : Int32 → Int32 → XW → Option (Int32 × XW)) (x1 : Int32) (x2 : Int32) (w : XW) : Option (Int32 × XW) := (if x1 < x2 then (f_X2_foldRest_12 RC x1 x2 1000 0 0 w) else (some (1, w)))
set_option maxRecDepth 100000 in
theorem W_X2_foldRestO {g : GC} (hl : g.1.stackTraces = false) {n0 : Nat} (hn0 : 6 ≤ n0) {RC : Int32 → Int32 → XW → Option (Int32 × XW)} (hRC : ∀ (x1 : Int32) (x2 : Int32) (w : XW) q, RC x1 x2 w = some q → MM g (.code yX2_foldRest cX2_foldRest 5 (some .int)) yX2_foldRest (rmL n0 0 0) 0 0 [.ref (g.2.1 + 128), .int x1, .int x2] w (oI q)) {x1 : Int32} {x2 : Int32} {w : XW} : VE g cX2_foldRest 5 RX2 (some .int) [] (rmL (n0 + 1) 0 0) 0 0 oI 0 0 0 [(0, .ref (g.2.1 + 128)), (1, .int x1), (2, .int x2)] [] w (f_X2_foldRestO RC x1 x2 w) := by
  unfold f_X2_foldRestO
  refine v_iload_n dX2_foldRest_0 rfl 1 rfl ?_
  refine v_iload_n dX2_foldRest_1 rfl 2 rfl ?_
  refine v_icmp_lt (tgt := 7) dX2_foldRest_2 (by decide) ?_ ?_
  · refine v_iconst (v := 0) dX2_foldRest_7 (by decide) ?_
    refine v_istore_n dX2_foldRest_8 rfl (Nat.le_of_ble_eq_true rfl) rfl ?_
    refine v_iconst (v := 0) dX2_foldRest_9 (by decide) ?_
    refine v_istore dX2_foldRest_10 (Nat.le_of_ble_eq_true rfl) rfl ?_
    refine v_sub [2, 3, 4, 1, 0] rfl ?_
    exact S_X2_foldRest_12 hl hn0 hRC  _ _ _ _
  · refine v_iconst (v := 1) dX2_foldRest_5 (by decide) ?_
    exact v_iret dX2_foldRest_6 rfl rfl (by decide) (by decide)
theorem S_X2_foldRestO {g : GC} (hl : g.1.stackTraces = false) {n0 : Nat} (hn0 : 6 ≤ n0) {RC : Int32 → Int32 → XW → Option (Int32 × XW)} (hRC : ∀ (x1 : Int32) (x2 : Int32) (w : XW) q, RC x1 x2 w = some q → MM g (.code yX2_foldRest cX2_foldRest 5 (some .int)) yX2_foldRest (rmL n0 0 0) 0 0 [.ref (g.2.1 + 128), .int x1, .int x2] w (oI q)) {x1 : Int32} {x2 : Int32} {w : XW} : ∀ q, f_X2_foldRestO RC x1 x2 w = some q → MM g (.code yX2_foldRest cX2_foldRest 5 (some .int)) yX2_foldRest (rmL (n0 + 1) 0 0) 0 0 [.ref (g.2.1 + 128), .int x1, .int x2] w (oI q) := fun q hq => MM_of (own := RX2) hl (by decide) gw_408 rfl (Nat.le_of_ble_eq_true rfl) (W_X2_foldRestO hl hn0 hRC q hq) ⟨rfl, rfl⟩
def f_X2_foldRest : Nat → Int32 → Int32 → XW → Option (Int32 × XW)
  | 0, _, _, _ => none
  | n + 1, x1, x2, w => f_X2_foldRestO (f_X2_foldRest n) x1 x2 w
theorem S_X2_foldRest {g : GC} (hl : g.1.stackTraces = false) : ∀ (n : Nat) (x1 : Int32) (x2 : Int32) (w : XW) q, f_X2_foldRest n x1 x2 w = some q → MM g (.code yX2_foldRest cX2_foldRest 5 (some .int)) yX2_foldRest (rmL (6 + 1 * n) 0 0) 0 0 [.ref (g.2.1 + 128), .int x1, .int x2] w (oI q) := by
  intro n
  induction n with
  | zero => intro x1 x2 w q h; cases h
  | succ n ih =>
    intro x1 x2 w q h
    exact S_X2_foldRestO hl (n0 := 6 + 1 * n) (by omega) ih q h

theorem dX2_countByFolding_0 : decode cX2_countByFolding 0 = .ok (.aload_n 0, 1) := by decide +kernel
theorem dX2_countByFolding_1 : decode cX2_countByFolding 1 = .ok (.getfield 12, 3) := by decide +kernel
theorem dX2_countByFolding_4 : decode cX2_countByFolding 4 = .ok (.aload_n 1, 1) := by decide +kernel
theorem dX2_countByFolding_5 : decode cX2_countByFolding 5 = .ok (.invokevirtual 22, 3) := by decide +kernel
theorem dX2_countByFolding_8 : decode cX2_countByFolding 8 = .ok (.aload_n 0, 1) := by decide +kernel
theorem dX2_countByFolding_9 : decode cX2_countByFolding 9 = .ok (.aload_n 0, 1) := by decide +kernel
theorem dX2_countByFolding_10 : decode cX2_countByFolding 10 = .ok (.getfield 12, 3) := by decide +kernel
theorem dX2_countByFolding_13 : decode cX2_countByFolding 13 = .ok (.getfield 26, 3) := by decide +kernel
theorem dX2_countByFolding_16 : decode cX2_countByFolding 16 = .ok (.iload_n 2, 1) := by decide +kernel
theorem dX2_countByFolding_17 : decode cX2_countByFolding 17 = .ok (.bipush 7, 2) := by decide +kernel
theorem dX2_countByFolding_19 : decode cX2_countByFolding 19 = .ok (.invokestatic 30, 3) := by decide +kernel
theorem dX2_countByFolding_22 : decode cX2_countByFolding 22 = .ok (.invokevirtual 36, 3) := by decide +kernel
theorem dX2_countByFolding_25 : decode cX2_countByFolding 25 = .ok (.ireturn, 1) := by decide +kernel
def f_X2_countByFolding (k1 : Nat) (x2 : Int32) (w : XW) : Option (Int32 × XW) := (bV (f_X4_copyFrom 129 k1 w) (fun w1 => (bI (f_X2_foldRest 9 (w1.1 129 0) (if 7 < x2 then 7 else x2) w1) (fun r2 w2 => (some (r2, w2))))))
set_option maxRecDepth 100000 in
theorem W_X2_countByFolding {g : GC} (hl : g.1.stackTraces = false) {k1 : Nat} (hk1 : isX4 k1) {x2 : Int32} {w : XW} : VE g cX2_countByFolding 3 RX2 (some .int) [] (rmL 16 0 0) 0 0 oI 0 0 0 [(0, .ref (g.2.1 + 128)), (1, .ref (g.2.1 + k1)), (2, .int x2)] [] w (f_X2_countByFolding k1 x2 w) := by
  unfold f_X2_countByFolding
  refine v_aload_n dX2_countByFolding_0 rfl 0 rfl ?_
  refine v_getR fl_X2_12 tt_128 rfl dX2_countByFolding_1 ?_
  refine v_aload_n dX2_countByFolding_4 rfl 1 rfl ?_
  refine v_callVv (As := [.ref (g.2.1 + k1)]) cv_X2_22 (S_X4_copyFrom hl is4_129 hk1) tt_129 rfl rfl rfl (Nat.le_of_ble_eq_true rfl) dX2_countByFolding_5 (CR_rm (by decide) (by decide) (by decide) (by decide)) (fun w1 => ?_)
  refine v_aload_n dX2_countByFolding_8 rfl 0 rfl ?_
  refine v_aload_n dX2_countByFolding_9 rfl 0 rfl ?_
  refine v_getR fl_X2_12 tt_128 rfl dX2_countByFolding_10 ?_
  refine v_getI fl_X2_26 tt_129 rfl dX2_countByFolding_13 ?_
  refine v_iload_n dX2_countByFolding_16 rfl 2 rfl ?_
  refine v_bipush (v := 7) dX2_countByFolding_17 (by decide) ?_
  refine v_min gw_402 gw_403 gw_98 gw_404 dX2_countByFolding_19 (CR_f1 _ _ _) (CR_f2 (by decide) _ _ _) (by decide) (by decide) ?_
  refine v_callVi (As := [.int (w1.1 129 0), .int (if 7 < x2 then 7 else x2)]) cv_X2_36 (S_X2_foldRest hl 9 _ _ _) tt_128 rfl rfl rfl (Nat.le_of_ble_eq_true rfl) dX2_countByFolding_22 (CR_rm (by decide) (by decide) (by decide) (by decide)) (fun r2 w2 => ?_)
  exact v_iret dX2_countByFolding_25 rfl rfl (by decide) (by decide)
theorem S_X2_countByFolding {g : GC} (hl : g.1.stackTraces = false) {k1 : Nat} (hk1 : isX4 k1) {x2 : Int32} {w : XW} : ∀ q, f_X2_countByFolding k1 x2 w = some q → MM g (.code yX2_countByFolding cX2_countByFolding 3 (some .int)) yX2_countByFolding (rmL 16 0 0) 0 0 [.ref (g.2.1 + 128), .ref (g.2.1 + k1), .int x2] w (oI q) := fun q hq => MM_of (own := RX2) hl (by decide) gw_394 rfl (Nat.le_of_ble_eq_true rfl) (W_X2_countByFolding hl hk1 q hq) ⟨rfl, rfl⟩

theorem dX2_isNextOfPile_0 : decode cX2_isNextOfPile 0 = .ok (.aload_n 0, 1) := by decide +kernel
theorem dX2_isNextOfPile_1 : decode cX2_isNextOfPile 1 = .ok (.getfield 12, 3) := by decide +kernel
theorem dX2_isNextOfPile_4 : decode cX2_isNextOfPile 4 = .ok (.iload_n 1, 1) := by decide +kernel
theorem dX2_isNextOfPile_5 : decode cX2_isNextOfPile 5 = .ok (.invokevirtual 60, 3) := by decide +kernel
theorem dX2_isNextOfPile_8 : decode cX2_isNextOfPile 8 = .ok (.istore_n 3, 1) := by decide +kernel
theorem dX2_isNextOfPile_9 : decode cX2_isNextOfPile 9 = .ok (.iconst 0, 1) := by decide +kernel
theorem dX2_isNextOfPile_10 : decode cX2_isNextOfPile 10 = .ok (.istore 4, 2) := by decide +kernel
theorem dX2_isNextOfPile_12 : decode cX2_isNextOfPile 12 = .ok (.iload 4, 2) := by decide +kernel
theorem dX2_isNextOfPile_14 : decode cX2_isNextOfPile 14 = .ok (.aload_n 0, 1) := by decide +kernel
theorem dX2_isNextOfPile_15 : decode cX2_isNextOfPile 15 = .ok (.getfield 12, 3) := by decide +kernel
theorem dX2_isNextOfPile_18 : decode cX2_isNextOfPile 18 = .ok (.getfield 26, 3) := by decide +kernel
theorem dX2_isNextOfPile_21 : decode cX2_isNextOfPile 21 = .ok (.if_icmp .ge 42, 3) := by decide +kernel
theorem dX2_isNextOfPile_24 : decode cX2_isNextOfPile 24 = .ok (.iload 4, 2) := by decide +kernel
theorem dX2_isNextOfPile_26 : decode cX2_isNextOfPile 26 = .ok (.bipush 7, 2) := by decide +kernel
theorem dX2_isNextOfPile_28 : decode cX2_isNextOfPile 28 = .ok (.if_icmp .ge 35, 3) := by decide +kernel
theorem dX2_isNextOfPile_31 : decode cX2_isNextOfPile 31 = .ok (.aload_n 0, 1) := by decide +kernel
theorem dX2_isNextOfPile_32 : decode cX2_isNextOfPile 32 = .ok (.getfield 12, 3) := by decide +kernel
theorem dX2_isNextOfPile_35 : decode cX2_isNextOfPile 35 = .ok (.iload 4, 2) := by decide +kernel
theorem dX2_isNextOfPile_37 : decode cX2_isNextOfPile 37 = .ok (.invokevirtual 60, 3) := by decide +kernel
theorem dX2_isNextOfPile_40 : decode cX2_isNextOfPile 40 = .ok (.iload_n 3, 1) := by decide +kernel
theorem dX2_isNextOfPile_41 : decode cX2_isNextOfPile 41 = .ok (.if_icmp .ge 16, 3) := by decide +kernel
theorem dX2_isNextOfPile_44 : decode cX2_isNextOfPile 44 = .ok (.aload_n 0, 1) := by decide +kernel
theorem dX2_isNextOfPile_45 : decode cX2_isNextOfPile 45 = .ok (.getfield 18, 3) := by decide +kernel
theorem dX2_isNextOfPile_48 : decode cX2_isNextOfPile 48 = .ok (.iload 4, 2) := by decide +kernel
theorem dX2_isNextOfPile_50 : decode cX2_isNextOfPile 50 = .ok (.iaload, 1) := by decide +kernel
theorem dX2_isNextOfPile_51 : decode cX2_isNextOfPile 51 = .ok (.iload_n 2, 1) := by decide +kernel
theorem dX2_isNextOfPile_52 : decode cX2_isNextOfPile 52 = .ok (.if_icmp .ne 5, 3) := by decide +kernel
theorem dX2_isNextOfPile_55 : decode cX2_isNextOfPile 55 = .ok (.iconst 0, 1) := by decide +kernel
theorem dX2_isNextOfPile_56 : decode cX2_isNextOfPile 56 = .ok (.ireturn, 1) := by decide +kernel
theorem dX2_isNextOfPile_57 : decode cX2_isNextOfPile 57 = .ok (.iinc 4 1, 3) := by decide +kernel
theorem dX2_isNextOfPile_60 : decode cX2_isNextOfPile 60 = .ok (.goto (-48), 3) := by decide +kernel
theorem dX2_isNextOfPile_63 : decode cX2_isNextOfPile 63 = .ok (.iconst 1, 1) := by decide +kernel
theorem dX2_isNextOfPile_64 : decode cX2_isNextOfPile 64 = .ok (.ireturn, 1) := by decide +kernel
def f_X2_isNextOfPile_12 (y2 : Int32) (y3 : Int32) : Nat → Int32 → XW → Option (Int32 × XW)
  | 0, _, _ => none
  | n + 1, z4, w => (if (w.1 129 0) ≤ z4 then (some (1, w)) else (if 7 ≤ z4 then (some (1, w)) else (bI (f_X4_layerHolding 129 z4 w) (fun r2 w2 => (if y3 ≤ r2 then (f_X2_isNextOfPile_12 y2 y3 n (z4 + 1) w2) else (if inB z4 7 then (if (w2.1 131 (Int32.toNatClampNeg z4)) = y2 then (some (0, w2)) else (f_X2_isNextOfPile_12 y2 y3 n (z4 + 1) w2)) else none))))))
set_option maxRecDepth 100000 in
theorem S_X2_isNextOfPile_12 {g : GC} (hl : g.1.stackTraces = false) {y2 : Int32} {y3 : Int32} : ∀ (n : Nat) (z4 : Int32) (w : XW), VE g cX2_isNextOfPile 5 RX2 (some .boolean) [] (rmL 4 0 0) 0 0 oI 0 0 12 [(0, .ref (g.2.1 + 128)), (2, .int y2), (3, .int y3), (4, .int z4)] [] w (f_X2_isNextOfPile_12 y2 y3 n z4 w) := by
  intro n
  induction n with
  | zero => intro z4 w; exact v_none
  | succ n ih =>
    intro z4 w
    rw [f_X2_isNextOfPile_12]
    refine v_iload dX2_isNextOfPile_12 3 rfl ?_
    refine v_aload_n dX2_isNextOfPile_14 rfl 0 rfl ?_
    refine v_getR fl_X2_12 tt_128 rfl dX2_isNextOfPile_15 ?_
    refine v_getI fl_X2_26 tt_129 rfl dX2_isNextOfPile_18 ?_
    refine v_icmp_ge (tgt := 63) dX2_isNextOfPile_21 (by decide) ?_ ?_
    · refine v_iconst (v := 1) dX2_isNextOfPile_63 (by decide) ?_
      exact v_zret dX2_isNextOfPile_64 rfl rfl rfl (by decide) (by decide)
    · refine v_iload dX2_isNextOfPile_24 3 rfl ?_
      refine v_bipush (v := 7) dX2_isNextOfPile_26 (by decide) ?_
      refine v_icmp_ge (tgt := 63) dX2_isNextOfPile_28 (by decide) ?_ ?_
      · refine v_iconst (v := 1) dX2_isNextOfPile_63 (by decide) ?_
        exact v_zret dX2_isNextOfPile_64 rfl rfl rfl (by decide) (by decide)
      · refine v_aload_n dX2_isNextOfPile_31 rfl 0 rfl ?_
        refine v_getR fl_X2_12 tt_128 rfl dX2_isNextOfPile_32 ?_
        refine v_iload dX2_isNextOfPile_35 3 rfl ?_
        refine v_callVi (As := [.int z4]) cv_X2_60 (S_X4_layerHolding hl is4_129) tt_129 rfl rfl rfl (Nat.le_of_ble_eq_true rfl) dX2_isNextOfPile_37 (CR_rm (by decide) (by decide) (by decide) (by decide)) (fun r2 w2 => ?_)
        refine v_iload_n dX2_isNextOfPile_40 rfl 2 rfl ?_
        refine v_icmp_ge (tgt := 57) dX2_isNextOfPile_41 (by decide) ?_ ?_
        · refine v_iinc (v := (z4 + 1)) dX2_isNextOfPile_57 (q := 3) rfl rfl (Nat.le_of_ble_eq_true rfl) rfl ?_
          refine v_goto (tgt := 12) dX2_isNextOfPile_60 (by decide) ?_
          refine v_sub [1, 2, 3, 0] rfl ?_
          exact ih _ _
        · refine v_aload_n dX2_isNextOfPile_44 rfl 0 rfl ?_
          refine v_getR fl_X2_18 tt_128 rfl dX2_isNextOfPile_45 ?_
          refine v_iload dX2_isNextOfPile_48 3 rfl ?_
          refine v_guard (fun h3 => ?_)
          refine v_iald tt_131 h3 dX2_isNextOfPile_50 ?_
          refine v_iload_n dX2_isNextOfPile_51 rfl 1 rfl ?_
          refine v_icmp_ne (tgt := 57) dX2_isNextOfPile_52 (by decide) ?_ ?_
          · refine v_iinc (v := (z4 + 1)) dX2_isNextOfPile_57 (q := 3) rfl rfl (Nat.le_of_ble_eq_true rfl) rfl ?_
            refine v_goto (tgt := 12) dX2_isNextOfPile_60 (by decide) ?_
            refine v_sub [1, 2, 3, 0] rfl ?_
            exact ih _ _
          · refine v_iconst (v := 0) dX2_isNextOfPile_55 (by decide) ?_
            exact v_zret dX2_isNextOfPile_56 rfl rfl rfl (by decide) (by decide)
def f_X2_isNextOfPile (x1 : Int32) (x2 : Int32) (w : XW) : Option (Int32 × XW) := (bI (f_X4_layerHolding 129 x1 w) (fun r1 w1 => (f_X2_isNextOfPile_12 x2 r1 1000 0 w1)))
set_option maxRecDepth 100000 in
theorem W_X2_isNextOfPile {g : GC} (hl : g.1.stackTraces = false) {x1 : Int32} {x2 : Int32} {w : XW} : VE g cX2_isNextOfPile 5 RX2 (some .boolean) [] (rmL 4 0 0) 0 0 oI 0 0 0 [(0, .ref (g.2.1 + 128)), (1, .int x1), (2, .int x2)] [] w (f_X2_isNextOfPile x1 x2 w) := by
  unfold f_X2_isNextOfPile
  refine v_aload_n dX2_isNextOfPile_0 rfl 0 rfl ?_
  refine v_getR fl_X2_12 tt_128 rfl dX2_isNextOfPile_1 ?_
  refine v_iload_n dX2_isNextOfPile_4 rfl 1 rfl ?_
  refine v_callVi (As := [.int x1]) cv_X2_60 (S_X4_layerHolding hl is4_129) tt_129 rfl rfl rfl (Nat.le_of_ble_eq_true rfl) dX2_isNextOfPile_5 (CR_rm (by decide) (by decide) (by decide) (by decide)) (fun r1 w1 => ?_)
  refine v_istore_n dX2_isNextOfPile_8 rfl (Nat.le_of_ble_eq_true rfl) rfl ?_
  refine v_iconst (v := 0) dX2_isNextOfPile_9 (by decide) ?_
  refine v_istore dX2_isNextOfPile_10 (Nat.le_of_ble_eq_true rfl) rfl ?_
  refine v_sub [2, 4, 1, 0] rfl ?_
  exact S_X2_isNextOfPile_12 hl  _ _ _
theorem S_X2_isNextOfPile {g : GC} (hl : g.1.stackTraces = false) {x1 : Int32} {x2 : Int32} {w : XW} : ∀ q, f_X2_isNextOfPile x1 x2 w = some q → MM g (.code yX2_isNextOfPile cX2_isNextOfPile 5 (some .boolean)) yX2_isNextOfPile (rmL 4 0 0) 0 0 [.ref (g.2.1 + 128), .int x1, .int x2] w (oI q) := fun q hq => MM_of (own := RX2) hl (by decide) gw_449 rfl (Nat.le_of_ble_eq_true rfl) (W_X2_isNextOfPile hl q hq) ⟨rfl, rfl⟩

theorem dX2_placeOf_0 : decode cX2_placeOf 0 = .ok (.iload_n 1, 1) := by decide +kernel
theorem dX2_placeOf_1 : decode cX2_placeOf 1 = .ok (.ifCond .lt 23, 3) := by decide +kernel
theorem dX2_placeOf_4 : decode cX2_placeOf 4 = .ok (.iload_n 1, 1) := by decide +kernel
theorem dX2_placeOf_5 : decode cX2_placeOf 5 = .ok (.iload_n 2, 1) := by decide +kernel
theorem dX2_placeOf_6 : decode cX2_placeOf 6 = .ok (.if_icmp .ge 18, 3) := by decide +kernel
theorem dX2_placeOf_9 : decode cX2_placeOf 9 = .ok (.iload_n 1, 1) := by decide +kernel
theorem dX2_placeOf_10 : decode cX2_placeOf 10 = .ok (.bipush 7, 2) := by decide +kernel
theorem dX2_placeOf_12 : decode cX2_placeOf 12 = .ok (.if_icmp .ge 12, 3) := by decide +kernel
theorem dX2_placeOf_15 : decode cX2_placeOf 15 = .ok (.aload_n 0, 1) := by decide +kernel
theorem dX2_placeOf_16 : decode cX2_placeOf 16 = .ok (.getfield 18, 3) := by decide +kernel
theorem dX2_placeOf_19 : decode cX2_placeOf 19 = .ok (.iload_n 1, 1) := by decide +kernel
theorem dX2_placeOf_20 : decode cX2_placeOf 20 = .ok (.iaload, 1) := by decide +kernel
theorem dX2_placeOf_21 : decode cX2_placeOf 21 = .ok (.goto 4, 3) := by decide +kernel
theorem dX2_placeOf_24 : decode cX2_placeOf 24 = .ok (.iload_n 2, 1) := by decide +kernel
theorem dX2_placeOf_25 : decode cX2_placeOf 25 = .ok (.ireturn, 1) := by decide +kernel
def f_X2_placeOf (x1 : Int32) (x2 : Int32) (w : XW) : Option (Int32 × XW) := (if x1 < 0 then (some (x2, w)) else (if x2 ≤ x1 then (some (x2, w)) else (if 7 ≤ x1 then (some (x2, w)) else (if inB x1 7 then (some ((w.1 131 (Int32.toNatClampNeg x1)), w)) else none))))
set_option maxRecDepth 100000 in
theorem W_X2_placeOf {g : GC} (hl : g.1.stackTraces = false) {x1 : Int32} {x2 : Int32} {w : XW} : VE g cX2_placeOf 3 RX2 (some .int) [] (rmL 3 0 0) 0 0 oI 0 0 0 [(0, .ref (g.2.1 + 128)), (1, .int x1), (2, .int x2)] [] w (f_X2_placeOf x1 x2 w) := by
  unfold f_X2_placeOf
  refine v_iload_n dX2_placeOf_0 rfl 1 rfl ?_
  refine v_if_lt (tgt := 24) dX2_placeOf_1 (by decide) ?_ ?_
  · refine v_iload_n dX2_placeOf_24 rfl 2 rfl ?_
    exact v_iret dX2_placeOf_25 rfl rfl (by decide) (by decide)
  · refine v_iload_n dX2_placeOf_4 rfl 1 rfl ?_
    refine v_iload_n dX2_placeOf_5 rfl 2 rfl ?_
    refine v_icmp_ge (tgt := 24) dX2_placeOf_6 (by decide) ?_ ?_
    · refine v_iload_n dX2_placeOf_24 rfl 2 rfl ?_
      exact v_iret dX2_placeOf_25 rfl rfl (by decide) (by decide)
    · refine v_iload_n dX2_placeOf_9 rfl 1 rfl ?_
      refine v_bipush (v := 7) dX2_placeOf_10 (by decide) ?_
      refine v_icmp_ge (tgt := 24) dX2_placeOf_12 (by decide) ?_ ?_
      · refine v_iload_n dX2_placeOf_24 rfl 2 rfl ?_
        exact v_iret dX2_placeOf_25 rfl rfl (by decide) (by decide)
      · refine v_aload_n dX2_placeOf_15 rfl 0 rfl ?_
        refine v_getR fl_X2_18 tt_128 rfl dX2_placeOf_16 ?_
        refine v_iload_n dX2_placeOf_19 rfl 1 rfl ?_
        refine v_guard (fun h1 => ?_)
        refine v_iald tt_131 h1 dX2_placeOf_20 ?_
        refine v_goto (tgt := 25) dX2_placeOf_21 (by decide) ?_
        exact v_iret dX2_placeOf_25 rfl rfl (by decide) (by decide)
theorem S_X2_placeOf {g : GC} (hl : g.1.stackTraces = false) {x1 : Int32} {x2 : Int32} {w : XW} : ∀ q, f_X2_placeOf x1 x2 w = some q → MM g (.code yX2_placeOf cX2_placeOf 3 (some .int)) yX2_placeOf (rmL 3 0 0) 0 0 [.ref (g.2.1 + 128), .int x1, .int x2] w (oI q) := fun q hq => MM_of (own := RX2) hl (by decide) gw_458 rfl (Nat.le_of_ble_eq_true rfl) (W_X2_placeOf hl q hq) ⟨rfl, rfl⟩

theorem dX2_spanCrosses_0 : decode cX2_spanCrosses 0 = .ok (.aload_n 0, 1) := by decide +kernel
theorem dX2_spanCrosses_1 : decode cX2_spanCrosses 1 = .ok (.iload_n 1, 1) := by decide +kernel
theorem dX2_spanCrosses_2 : decode cX2_spanCrosses 2 = .ok (.iload_n 2, 1) := by decide +kernel
theorem dX2_spanCrosses_3 : decode cX2_spanCrosses 3 = .ok (.invokevirtual 63, 3) := by decide +kernel
theorem dX2_spanCrosses_6 : decode cX2_spanCrosses 6 = .ok (.istore_n 3, 1) := by decide +kernel
theorem dX2_spanCrosses_7 : decode cX2_spanCrosses 7 = .ok (.aload_n 0, 1) := by decide +kernel
theorem dX2_spanCrosses_8 : decode cX2_spanCrosses 8 = .ok (.iload_n 1, 1) := by decide +kernel
theorem dX2_spanCrosses_9 : decode cX2_spanCrosses 9 = .ok (.iconst 1, 1) := by decide +kernel
theorem dX2_spanCrosses_10 : decode cX2_spanCrosses 10 = .ok (.iadd, 1) := by decide +kernel
theorem dX2_spanCrosses_11 : decode cX2_spanCrosses 11 = .ok (.iload_n 2, 1) := by decide +kernel
theorem dX2_spanCrosses_12 : decode cX2_spanCrosses 12 = .ok (.invokevirtual 63, 3) := by decide +kernel
theorem dX2_spanCrosses_15 : decode cX2_spanCrosses 15 = .ok (.istore 4, 2) := by decide +kernel
theorem dX2_spanCrosses_17 : decode cX2_spanCrosses 17 = .ok (.iload_n 3, 1) := by decide +kernel
theorem dX2_spanCrosses_18 : decode cX2_spanCrosses 18 = .ok (.iload_n 2, 1) := by decide +kernel
theorem dX2_spanCrosses_19 : decode cX2_spanCrosses 19 = .ok (.if_icmp .eq 9, 3) := by decide +kernel
theorem dX2_spanCrosses_22 : decode cX2_spanCrosses 22 = .ok (.iload 4, 2) := by decide +kernel
theorem dX2_spanCrosses_24 : decode cX2_spanCrosses 24 = .ok (.iload_n 2, 1) := by decide +kernel
theorem dX2_spanCrosses_25 : decode cX2_spanCrosses 25 = .ok (.if_icmp .ne 5, 3) := by decide +kernel
theorem dX2_spanCrosses_28 : decode cX2_spanCrosses 28 = .ok (.iconst 0, 1) := by decide +kernel
theorem dX2_spanCrosses_29 : decode cX2_spanCrosses 29 = .ok (.ireturn, 1) := by decide +kernel
theorem dX2_spanCrosses_30 : decode cX2_spanCrosses 30 = .ok (.iload_n 1, 1) := by decide +kernel
theorem dX2_spanCrosses_31 : decode cX2_spanCrosses 31 = .ok (.iconst 2, 1) := by decide +kernel
theorem dX2_spanCrosses_32 : decode cX2_spanCrosses 32 = .ok (.irem, 1) := by decide +kernel
theorem dX2_spanCrosses_33 : decode cX2_spanCrosses 33 = .ok (.istore 5, 2) := by decide +kernel
theorem dX2_spanCrosses_35 : decode cX2_spanCrosses 35 = .ok (.iload 5, 2) := by decide +kernel
theorem dX2_spanCrosses_37 : decode cX2_spanCrosses 37 = .ok (.iconst 1, 1) := by decide +kernel
theorem dX2_spanCrosses_38 : decode cX2_spanCrosses 38 = .ok (.iadd, 1) := by decide +kernel
theorem dX2_spanCrosses_39 : decode cX2_spanCrosses 39 = .ok (.iload_n 2, 1) := by decide +kernel
theorem dX2_spanCrosses_40 : decode cX2_spanCrosses 40 = .ok (.if_icmp .ge 46, 3) := by decide +kernel
theorem dX2_spanCrosses_43 : decode cX2_spanCrosses 43 = .ok (.iload_n 3, 1) := by decide +kernel
theorem dX2_spanCrosses_44 : decode cX2_spanCrosses 44 = .ok (.iload 4, 2) := by decide +kernel
theorem dX2_spanCrosses_46 : decode cX2_spanCrosses 46 = .ok (.aload_n 0, 1) := by decide +kernel
theorem dX2_spanCrosses_47 : decode cX2_spanCrosses 47 = .ok (.iload 5, 2) := by decide +kernel
theorem dX2_spanCrosses_49 : decode cX2_spanCrosses 49 = .ok (.iload_n 2, 1) := by decide +kernel
theorem dX2_spanCrosses_50 : decode cX2_spanCrosses 50 = .ok (.invokevirtual 63, 3) := by decide +kernel
theorem dX2_spanCrosses_53 : decode cX2_spanCrosses 53 = .ok (.aload_n 0, 1) := by decide +kernel
theorem dX2_spanCrosses_54 : decode cX2_spanCrosses 54 = .ok (.iload 5, 2) := by decide +kernel
theorem dX2_spanCrosses_56 : decode cX2_spanCrosses 56 = .ok (.iconst 1, 1) := by decide +kernel
theorem dX2_spanCrosses_57 : decode cX2_spanCrosses 57 = .ok (.iadd, 1) := by decide +kernel
theorem dX2_spanCrosses_58 : decode cX2_spanCrosses 58 = .ok (.iload_n 2, 1) := by decide +kernel
theorem dX2_spanCrosses_59 : decode cX2_spanCrosses 59 = .ok (.invokevirtual 63, 3) := by decide +kernel
theorem dX2_spanCrosses_62 : decode cX2_spanCrosses 62 = .ok (.invokestatic 66, 3) := by decide +kernel
theorem dX2_spanCrosses_65 : decode cX2_spanCrosses 65 = .ok (.istore 6, 2) := by decide +kernel
theorem dX2_spanCrosses_67 : decode cX2_spanCrosses 67 = .ok (.iload 5, 2) := by decide +kernel
theorem dX2_spanCrosses_69 : decode cX2_spanCrosses 69 = .ok (.iload_n 1, 1) := by decide +kernel
theorem dX2_spanCrosses_70 : decode cX2_spanCrosses 70 = .ok (.if_icmp .eq 10, 3) := by decide +kernel
theorem dX2_spanCrosses_73 : decode cX2_spanCrosses 73 = .ok (.iload 6, 2) := by decide +kernel
theorem dX2_spanCrosses_75 : decode cX2_spanCrosses 75 = .ok (.ifCond .eq 5, 3) := by decide +kernel
theorem dX2_spanCrosses_78 : decode cX2_spanCrosses 78 = .ok (.iconst 1, 1) := by decide +kernel
theorem dX2_spanCrosses_79 : decode cX2_spanCrosses 79 = .ok (.ireturn, 1) := by decide +kernel
theorem dX2_spanCrosses_80 : decode cX2_spanCrosses 80 = .ok (.iinc 5 2, 3) := by decide +kernel
theorem dX2_spanCrosses_83 : decode cX2_spanCrosses 83 = .ok (.goto (-48), 3) := by decide +kernel
theorem dX2_spanCrosses_86 : decode cX2_spanCrosses 86 = .ok (.iconst 0, 1) := by decide +kernel
theorem dX2_spanCrosses_87 : decode cX2_spanCrosses 87 = .ok (.ireturn, 1) := by decide +kernel
def f_X2_spanCrosses_35 (y1 : Int32) (y2 : Int32) (y3 : Int32) (y4 : Int32) : Nat → Int32 → XW → Option (Int32 × XW)
  | 0, _, _ => none
  | n + 1, z5, w => (if y2 ≤ (z5 + 1) then (some (0, w)) else (bI (f_X2_placeOf z5 y2 w) (fun r3 w3 => (bI (f_X2_placeOf (z5 + 1) y2 w3) (fun r4 w4 => (bI (f_X4_spansCross y3 y4 r3 r4 w4) (fun r5 w5 => (if z5 = y1 then (f_X2_spanCrosses_35 y1 y2 y3 y4 n (z5 + 2) w5) else (if r5 = 0 then (f_X2_spanCrosses_35 y1 y2 y3 y4 n (z5 + 2) w5) else (some (1, w5)))))))))))
set_option maxRecDepth 100000 in
theorem S_X2_spanCrosses_35 {g : GC} (hl : g.1.stackTraces = false) {y1 : Int32} {y2 : Int32} {y3 : Int32} {y4 : Int32} : ∀ (n : Nat) (z5 : Int32) (w : XW), VE g cX2_spanCrosses 7 RX2 (some .boolean) [] (rmL 4 0 0) 0 0 oI 0 0 35 [(0, .ref (g.2.1 + 128)), (1, .int y1), (2, .int y2), (3, .int y3), (4, .int y4), (5, .int z5)] [] w (f_X2_spanCrosses_35 y1 y2 y3 y4 n z5 w) := by
  intro n
  induction n with
  | zero => intro z5 w; exact v_none
  | succ n ih =>
    intro z5 w
    rw [f_X2_spanCrosses_35]
    refine v_iload dX2_spanCrosses_35 5 rfl ?_
    refine v_iconst (v := 1) dX2_spanCrosses_37 (by decide) ?_
    refine v_iadd dX2_spanCrosses_38 ?_
    refine v_iload_n dX2_spanCrosses_39 rfl 2 rfl ?_
    refine v_icmp_ge (tgt := 86) dX2_spanCrosses_40 (by decide) ?_ ?_
    · refine v_iconst (v := 0) dX2_spanCrosses_86 (by decide) ?_
      exact v_zret dX2_spanCrosses_87 rfl rfl rfl (by decide) (by decide)
    · refine v_iload_n dX2_spanCrosses_43 rfl 3 rfl ?_
      refine v_iload dX2_spanCrosses_44 4 rfl ?_
      refine v_aload_n dX2_spanCrosses_46 rfl 0 rfl ?_
      refine v_iload dX2_spanCrosses_47 5 rfl ?_
      refine v_iload_n dX2_spanCrosses_49 rfl 2 rfl ?_
      refine v_callVi (As := [.int z5, .int y2]) cv_X2_63 (S_X2_placeOf hl) tt_128 rfl rfl rfl (Nat.le_of_ble_eq_true rfl) dX2_spanCrosses_50 (CR_rm (by decide) (by decide) (by decide) (by decide)) (fun r3 w3 => ?_)
      refine v_aload_n dX2_spanCrosses_53 rfl 0 rfl ?_
      refine v_iload dX2_spanCrosses_54 5 rfl ?_
      refine v_iconst (v := 1) dX2_spanCrosses_56 (by decide) ?_
      refine v_iadd dX2_spanCrosses_57 ?_
      refine v_iload_n dX2_spanCrosses_58 rfl 2 rfl ?_
      refine v_callVi (As := [.int (z5 + 1), .int y2]) cv_X2_63 (S_X2_placeOf hl) tt_128 rfl rfl rfl (Nat.le_of_ble_eq_true rfl) dX2_spanCrosses_59 (CR_rm (by decide) (by decide) (by decide) (by decide)) (fun r4 w4 => ?_)
      refine v_callSi (As := [.int y3, .int y4, .int r3, .int r4]) cs_X2_66 (S_X4_spansCross hl) rfl rfl (Nat.le_of_ble_eq_true rfl) dX2_spanCrosses_62 (CR_rm (by decide) (by decide) (by decide) (by decide)) (fun r5 w5 => ?_)
      refine v_istore dX2_spanCrosses_65 (Nat.le_of_ble_eq_true rfl) rfl ?_
      refine v_iload dX2_spanCrosses_67 6 rfl ?_
      refine v_iload_n dX2_spanCrosses_69 rfl 2 rfl ?_
      refine v_icmp_eq (tgt := 80) dX2_spanCrosses_70 (by decide) ?_ ?_
      · refine v_iinc (v := (z5 + 2)) dX2_spanCrosses_80 (q := 6) rfl rfl (Nat.le_of_ble_eq_true rfl) rfl ?_
        refine v_goto (tgt := 35) dX2_spanCrosses_83 (by decide) ?_
        refine v_sub [2, 3, 4, 5, 6, 0] rfl ?_
        exact ih _ _
      · refine v_iload dX2_spanCrosses_73 0 rfl ?_
        refine v_if_eq (tgt := 80) dX2_spanCrosses_75 (by decide) ?_ ?_
        · refine v_iinc (v := (z5 + 2)) dX2_spanCrosses_80 (q := 6) rfl rfl (Nat.le_of_ble_eq_true rfl) rfl ?_
          refine v_goto (tgt := 35) dX2_spanCrosses_83 (by decide) ?_
          refine v_sub [2, 3, 4, 5, 6, 0] rfl ?_
          exact ih _ _
        · refine v_iconst (v := 1) dX2_spanCrosses_78 (by decide) ?_
          exact v_zret dX2_spanCrosses_79 rfl rfl rfl (by decide) (by decide)
def f_X2_spanCrosses (x1 : Int32) (x2 : Int32) (w : XW) : Option (Int32 × XW) := (bI (f_X2_placeOf x1 x2 w) (fun r1 w1 => (bI (f_X2_placeOf (x1 + 1) x2 w1) (fun r2 w2 => (if r1 = x2 then (some (0, w2)) else (if r2 = x2 then (some (0, w2)) else (f_X2_spanCrosses_35 x1 x2 r1 r2 1000 (x1 - x1 / 2 * 2) w2)))))))
set_option maxRecDepth 100000 in
theorem W_X2_spanCrosses {g : GC} (hl : g.1.stackTraces = false) {x1 : Int32} {x2 : Int32} {w : XW} : VE g cX2_spanCrosses 7 RX2 (some .boolean) [] (rmL 4 0 0) 0 0 oI 0 0 0 [(0, .ref (g.2.1 + 128)), (1, .int x1), (2, .int x2)] [] w (f_X2_spanCrosses x1 x2 w) := by
  unfold f_X2_spanCrosses
  refine v_aload_n dX2_spanCrosses_0 rfl 0 rfl ?_
  refine v_iload_n dX2_spanCrosses_1 rfl 1 rfl ?_
  refine v_iload_n dX2_spanCrosses_2 rfl 2 rfl ?_
  refine v_callVi (As := [.int x1, .int x2]) cv_X2_63 (S_X2_placeOf hl) tt_128 rfl rfl rfl (Nat.le_of_ble_eq_true rfl) dX2_spanCrosses_3 (CR_rm (by decide) (by decide) (by decide) (by decide)) (fun r1 w1 => ?_)
  refine v_istore_n dX2_spanCrosses_6 rfl (Nat.le_of_ble_eq_true rfl) rfl ?_
  refine v_aload_n dX2_spanCrosses_7 rfl 1 rfl ?_
  refine v_iload_n dX2_spanCrosses_8 rfl 2 rfl ?_
  refine v_iconst (v := 1) dX2_spanCrosses_9 (by decide) ?_
  refine v_iadd dX2_spanCrosses_10 ?_
  refine v_iload_n dX2_spanCrosses_11 rfl 3 rfl ?_
  refine v_callVi (As := [.int (x1 + 1), .int x2]) cv_X2_63 (S_X2_placeOf hl) tt_128 rfl rfl rfl (Nat.le_of_ble_eq_true rfl) dX2_spanCrosses_12 (CR_rm (by decide) (by decide) (by decide) (by decide)) (fun r2 w2 => ?_)
  refine v_istore dX2_spanCrosses_15 (Nat.le_of_ble_eq_true rfl) rfl ?_
  refine v_iload_n dX2_spanCrosses_17 rfl 1 rfl ?_
  refine v_iload_n dX2_spanCrosses_18 rfl 4 rfl ?_
  refine v_icmp_eq (tgt := 28) dX2_spanCrosses_19 (by decide) ?_ ?_
  · refine v_iconst (v := 0) dX2_spanCrosses_28 (by decide) ?_
    exact v_zret dX2_spanCrosses_29 rfl rfl rfl (by decide) (by decide)
  · refine v_iload dX2_spanCrosses_22 0 rfl ?_
    refine v_iload_n dX2_spanCrosses_24 rfl 4 rfl ?_
    refine v_icmp_ne (tgt := 30) dX2_spanCrosses_25 (by decide) ?_ ?_
    · refine v_iload_n dX2_spanCrosses_30 rfl 3 rfl ?_
      refine v_iconst (v := 2) dX2_spanCrosses_31 (by decide) ?_
      refine v_irem dX2_spanCrosses_32 (by decide) ?_
      refine v_istore dX2_spanCrosses_33 (Nat.le_of_ble_eq_true rfl) rfl ?_
      refine v_sub [3, 4, 5, 2, 1, 0] rfl ?_
      exact S_X2_spanCrosses_35 hl  _ _ _
    · refine v_iconst (v := 0) dX2_spanCrosses_28 (by decide) ?_
      exact v_zret dX2_spanCrosses_29 rfl rfl rfl (by decide) (by decide)
theorem S_X2_spanCrosses {g : GC} (hl : g.1.stackTraces = false) {x1 : Int32} {x2 : Int32} {w : XW} : ∀ q, f_X2_spanCrosses x1 x2 w = some q → MM g (.code yX2_spanCrosses cX2_spanCrosses 7 (some .boolean)) yX2_spanCrosses (rmL 4 0 0) 0 0 [.ref (g.2.1 + 128), .int x1, .int x2] w (oI q) := fun q hq => MM_of (own := RX2) hl (by decide) gw_454 rfl (Nat.le_of_ble_eq_true rfl) (W_X2_spanCrosses hl q hq) ⟨rfl, rfl⟩

theorem dX2_placeRest_0 : decode cX2_placeRest 0 = .ok (.iload_n 1, 1) := by decide +kernel
theorem dX2_placeRest_1 : decode cX2_placeRest 1 = .ok (.iload_n 2, 1) := by decide +kernel
theorem dX2_placeRest_2 : decode cX2_placeRest 2 = .ok (.if_icmp .lt 5, 3) := by decide +kernel
theorem dX2_placeRest_5 : decode cX2_placeRest 5 = .ok (.iconst 1, 1) := by decide +kernel
theorem dX2_placeRest_6 : decode cX2_placeRest 6 = .ok (.ireturn, 1) := by decide +kernel
theorem dX2_placeRest_7 : decode cX2_placeRest 7 = .ok (.iconst 0, 1) := by decide +kernel
theorem dX2_placeRest_8 : decode cX2_placeRest 8 = .ok (.istore_n 3, 1) := by decide +kernel
theorem dX2_placeRest_9 : decode cX2_placeRest 9 = .ok (.iconst 0, 1) := by decide +kernel
theorem dX2_placeRest_10 : decode cX2_placeRest 10 = .ok (.istore 4, 2) := by decide +kernel
theorem dX2_placeRest_12 : decode cX2_placeRest 12 = .ok (.iload 4, 2) := by decide +kernel
theorem dX2_placeRest_14 : decode cX2_placeRest 14 = .ok (.iload_n 2, 1) := by decide +kernel
theorem dX2_placeRest_15 : decode cX2_placeRest 15 = .ok (.if_icmp .ge 86, 3) := by decide +kernel
theorem dX2_placeRest_18 : decode cX2_placeRest 18 = .ok (.iload 4, 2) := by decide +kernel
theorem dX2_placeRest_20 : decode cX2_placeRest 20 = .ok (.bipush 7, 2) := by decide +kernel
theorem dX2_placeRest_22 : decode cX2_placeRest 22 = .ok (.if_icmp .ge 79, 3) := by decide +kernel
theorem dX2_placeRest_25 : decode cX2_placeRest 25 = .ok (.aload_n 0, 1) := by decide +kernel
theorem dX2_placeRest_26 : decode cX2_placeRest 26 = .ok (.getfield 18, 3) := by decide +kernel
theorem dX2_placeRest_29 : decode cX2_placeRest 29 = .ok (.iload 4, 2) := by decide +kernel
theorem dX2_placeRest_31 : decode cX2_placeRest 31 = .ok (.iaload, 1) := by decide +kernel
theorem dX2_placeRest_32 : decode cX2_placeRest 32 = .ok (.iload_n 2, 1) := by decide +kernel
theorem dX2_placeRest_33 : decode cX2_placeRest 33 = .ok (.if_icmp .ne 62, 3) := by decide +kernel
theorem dX2_placeRest_36 : decode cX2_placeRest 36 = .ok (.aload_n 0, 1) := by decide +kernel
theorem dX2_placeRest_37 : decode cX2_placeRest 37 = .ok (.iload 4, 2) := by decide +kernel
theorem dX2_placeRest_39 : decode cX2_placeRest 39 = .ok (.iload_n 2, 1) := by decide +kernel
theorem dX2_placeRest_40 : decode cX2_placeRest 40 = .ok (.invokevirtual 53, 3) := by decide +kernel
theorem dX2_placeRest_43 : decode cX2_placeRest 43 = .ok (.ifCond .eq 52, 3) := by decide +kernel
theorem dX2_placeRest_46 : decode cX2_placeRest 46 = .ok (.aload_n 0, 1) := by decide +kernel
theorem dX2_placeRest_47 : decode cX2_placeRest 47 = .ok (.getfield 18, 3) := by decide +kernel
theorem dX2_placeRest_50 : decode cX2_placeRest 50 = .ok (.iload 4, 2) := by decide +kernel
theorem dX2_placeRest_52 : decode cX2_placeRest 52 = .ok (.iload_n 1, 1) := by decide +kernel
theorem dX2_placeRest_53 : decode cX2_placeRest 53 = .ok (.iastore, 1) := by decide +kernel
theorem dX2_placeRest_54 : decode cX2_placeRest 54 = .ok (.aload_n 0, 1) := by decide +kernel
theorem dX2_placeRest_55 : decode cX2_placeRest 55 = .ok (.iload 4, 2) := by decide +kernel
theorem dX2_placeRest_57 : decode cX2_placeRest 57 = .ok (.iconst 1, 1) := by decide +kernel
theorem dX2_placeRest_58 : decode cX2_placeRest 58 = .ok (.isub, 1) := by decide +kernel
theorem dX2_placeRest_59 : decode cX2_placeRest 59 = .ok (.iload_n 2, 1) := by decide +kernel
theorem dX2_placeRest_60 : decode cX2_placeRest 60 = .ok (.invokevirtual 57, 3) := by decide +kernel
theorem dX2_placeRest_63 : decode cX2_placeRest 63 = .ok (.ifCond .ne 24, 3) := by decide +kernel
theorem dX2_placeRest_66 : decode cX2_placeRest 66 = .ok (.aload_n 0, 1) := by decide +kernel
theorem dX2_placeRest_67 : decode cX2_placeRest 67 = .ok (.iload 4, 2) := by decide +kernel
theorem dX2_placeRest_69 : decode cX2_placeRest 69 = .ok (.iload_n 2, 1) := by decide +kernel
theorem dX2_placeRest_70 : decode cX2_placeRest 70 = .ok (.invokevirtual 57, 3) := by decide +kernel
theorem dX2_placeRest_73 : decode cX2_placeRest 73 = .ok (.ifCond .ne 14, 3) := by decide +kernel
theorem dX2_placeRest_76 : decode cX2_placeRest 76 = .ok (.iload_n 3, 1) := by decide +kernel
theorem dX2_placeRest_77 : decode cX2_placeRest 77 = .ok (.aload_n 0, 1) := by decide +kernel
theorem dX2_placeRest_78 : decode cX2_placeRest 78 = .ok (.iload_n 1, 1) := by decide +kernel
theorem dX2_placeRest_79 : decode cX2_placeRest 79 = .ok (.iconst 1, 1) := by decide +kernel
theorem dX2_placeRest_80 : decode cX2_placeRest 80 = .ok (.iadd, 1) := by decide +kernel
theorem dX2_placeRest_81 : decode cX2_placeRest 81 = .ok (.iload_n 2, 1) := by decide +kernel
theorem dX2_placeRest_82 : decode cX2_placeRest 82 = .ok (.invokevirtual 50, 3) := by decide +kernel
theorem dX2_placeRest_85 : decode cX2_placeRest 85 = .ok (.iadd, 1) := by decide +kernel
theorem dX2_placeRest_86 : decode cX2_placeRest 86 = .ok (.istore_n 3, 1) := by decide +kernel
theorem dX2_placeRest_87 : decode cX2_placeRest 87 = .ok (.aload_n 0, 1) := by decide +kernel
theorem dX2_placeRest_88 : decode cX2_placeRest 88 = .ok (.getfield 18, 3) := by decide +kernel
theorem dX2_placeRest_91 : decode cX2_placeRest 91 = .ok (.iload 4, 2) := by decide +kernel
theorem dX2_placeRest_93 : decode cX2_placeRest 93 = .ok (.iload_n 2, 1) := by decide +kernel
theorem dX2_placeRest_94 : decode cX2_placeRest 94 = .ok (.iastore, 1) := by decide +kernel
theorem dX2_placeRest_95 : decode cX2_placeRest 95 = .ok (.iinc 4 1, 3) := by decide +kernel
theorem dX2_placeRest_98 : decode cX2_placeRest 98 = .ok (.goto (-86), 3) := by decide +kernel
theorem dX2_placeRest_101 : decode cX2_placeRest 101 = .ok (.iload_n 3, 1) := by decide +kernel
theorem dX2_placeRest_102 : decode cX2_placeRest 102 = .ok (.ireturn, 1) := by decide +kernel
def f_X2_placeRest_12 (RC : Int32 → Int32 → XW → Option (Int32 × XW)) (y1 : Int32) (y2 : Int32) : Nat → Int32 → Int32 → XW → Option (Int32 × XW)
  | 0, _, _, _ => none
  | n + 1, z3, z4, w => (if y2 ≤ z4 then (some (z3, w)) else (if 7 ≤ z4 then (some (z3, w)) else (if inB z4 7 then (if (w.1 131 (Int32.toNatClampNeg z4)) = y2 then (bI (f_X2_isNextOfPile z4 y2 w) (fun r2 w2 => (if r2 = 0 then (f_X2_placeRest_12 RC y1 y2 n z3 (z4 + 1) w2) else (if inB z4 7 then (bI (f_X2_spanCrosses (z4 - 1) y2 (wset w2 131 (Int32.toNatClampNeg z4) y1)) (fun r4 w4 => (if r4 = 0 then (bI (f_X2_spanCrosses z4 y2 w4) (fun r6 w6 => (if r6 = 0 then (bI (RC (y1 + 1) y2 w6) (fun r8 w8 => (if inB z4 7 then (f_X2_placeRest_12 RC y1 y2 n (z3 + r8) (z4 + 1) (wset w8 131 (Int32.toNatClampNeg z4) y2)) else none))) else (if inB z4 7 then (f_X2_placeRest_12 RC y1 y2 n z3 (z4 + 1) (wset w6 131 (Int32.toNatClampNeg z4) y2)) else none)))) else (if inB z4 7 then (f_X2_placeRest_12 RC y1 y2 n z3 (z4 + 1) (wset w4 131 (Int32.toNatClampNeg z4) y2)) else none)))) else none)))) else (f_X2_placeRest_12 RC y1 y2 n z3 (z4 + 1) w)) else none)))
set_option maxRecDepth 100000 in
theorem S_X2_placeRest_12 {g : GC} (hl : g.1.stackTraces = false) {n0 : Nat} (hn0 : 5 ≤ n0) {RC : Int32 → Int32 → XW → Option (Int32 × XW)} (hRC : ∀ (x1 : Int32) (x2 : Int32) (w : XW) q, RC x1 x2 w = some q → MM g (.code yX2_placeRest cX2_placeRest 5 (some .int)) yX2_placeRest (rmL n0 0 0) 0 0 [.ref (g.2.1 + 128), .int x1, .int x2] w (oI q)) {y1 : Int32} {y2 : Int32} : ∀ (n : Nat) (z3 : Int32) (z4 : Int32) (w : XW), VE g cX2_placeRest 5 RX2 (some .int) [] (rmL (n0 + 1) 0 0) 0 0 oI 0 0 12 [(0, .ref (g.2.1 + 128)), (1, .int y1), (2, .int y2), (3, .int z3), (4, .int z4)] [] w (f_X2_placeRest_12 RC y1 y2 n z3 z4 w) := by
  intro n
  induction n with
  | zero => intro z3 z4 w; exact v_none
  | succ n ih =>
    intro z3 z4 w
    rw [f_X2_placeRest_12]
    refine v_iload dX2_placeRest_12 4 rfl ?_
    refine v_iload_n dX2_placeRest_14 rfl 2 rfl ?_
    refine v_icmp_ge (tgt := 101) dX2_placeRest_15 (by decide) ?_ ?_
    · refine v_iload_n dX2_placeRest_101 rfl 3 rfl ?_
      exact v_iret dX2_placeRest_102 rfl rfl (by decide) (by decide)
    · refine v_iload dX2_placeRest_18 4 rfl ?_
      refine v_bipush (v := 7) dX2_placeRest_20 (by decide) ?_
      refine v_icmp_ge (tgt := 101) dX2_placeRest_22 (by decide) ?_ ?_
      · refine v_iload_n dX2_placeRest_101 rfl 3 rfl ?_
        exact v_iret dX2_placeRest_102 rfl rfl (by decide) (by decide)
      · refine v_aload_n dX2_placeRest_25 rfl 0 rfl ?_
        refine v_getR fl_X2_18 tt_128 rfl dX2_placeRest_26 ?_
        refine v_iload dX2_placeRest_29 4 rfl ?_
        refine v_guard (fun h1 => ?_)
        refine v_iald tt_131 h1 dX2_placeRest_31 ?_
        refine v_iload_n dX2_placeRest_32 rfl 2 rfl ?_
        refine v_icmp_ne (tgt := 95) dX2_placeRest_33 (by decide) ?_ ?_
        · refine v_iinc (v := (z4 + 1)) dX2_placeRest_95 (q := 4) rfl rfl (Nat.le_of_ble_eq_true rfl) rfl ?_
          refine v_goto (tgt := 12) dX2_placeRest_98 (by decide) ?_
          refine v_sub [1, 2, 3, 4, 0] rfl ?_
          exact ih _ _ _
        · refine v_aload_n dX2_placeRest_36 rfl 0 rfl ?_
          refine v_iload dX2_placeRest_37 4 rfl ?_
          refine v_iload_n dX2_placeRest_39 rfl 2 rfl ?_
          refine v_callVi (As := [.int z4, .int y2]) cv_X2_53 (S_X2_isNextOfPile hl) tt_128 rfl rfl rfl (Nat.le_of_ble_eq_true rfl) dX2_placeRest_40 (CR_rm (by omega) (by decide) (by decide) (by decide)) (fun r2 w2 => ?_)
          refine v_if_eq (tgt := 95) dX2_placeRest_43 (by decide) ?_ ?_
          · refine v_iinc (v := (z4 + 1)) dX2_placeRest_95 (q := 4) rfl rfl (Nat.le_of_ble_eq_true rfl) rfl ?_
            refine v_goto (tgt := 12) dX2_placeRest_98 (by decide) ?_
            refine v_sub [1, 2, 3, 4, 0] rfl ?_
            exact ih _ _ _
          · refine v_aload_n dX2_placeRest_46 rfl 0 rfl ?_
            refine v_getR fl_X2_18 tt_128 rfl dX2_placeRest_47 ?_
            refine v_iload dX2_placeRest_50 4 rfl ?_
            refine v_iload_n dX2_placeRest_52 rfl 1 rfl ?_
            refine v_guard (fun h3 => ?_)
            refine v_iast tt_131 h3 dX2_placeRest_53 ?_
            refine v_aload_n dX2_placeRest_54 rfl 0 rfl ?_
            refine v_iload dX2_placeRest_55 4 rfl ?_
            refine v_iconst (v := 1) dX2_placeRest_57 (by decide) ?_
            refine v_isub dX2_placeRest_58 ?_
            refine v_iload_n dX2_placeRest_59 rfl 2 rfl ?_
            refine v_callVi (As := [.int (z4 - 1), .int y2]) cv_X2_57 (S_X2_spanCrosses hl) tt_128 rfl rfl rfl (Nat.le_of_ble_eq_true rfl) dX2_placeRest_60 (CR_rm (by omega) (by decide) (by decide) (by decide)) (fun r4 w4 => ?_)
            refine v_if_ne (tgt := 87) dX2_placeRest_63 (by decide) ?_ ?_
            · refine v_aload_n dX2_placeRest_87 rfl 0 rfl ?_
              refine v_getR fl_X2_18 tt_128 rfl dX2_placeRest_88 ?_
              refine v_iload dX2_placeRest_91 4 rfl ?_
              refine v_iload_n dX2_placeRest_93 rfl 2 rfl ?_
              refine v_guard (fun h5 => ?_)
              refine v_iast tt_131 h5 dX2_placeRest_94 ?_
              refine v_iinc (v := (z4 + 1)) dX2_placeRest_95 (q := 4) rfl rfl (Nat.le_of_ble_eq_true rfl) rfl ?_
              refine v_goto (tgt := 12) dX2_placeRest_98 (by decide) ?_
              refine v_sub [1, 2, 3, 4, 0] rfl ?_
              exact ih _ _ _
            · refine v_aload_n dX2_placeRest_66 rfl 0 rfl ?_
              refine v_iload dX2_placeRest_67 4 rfl ?_
              refine v_iload_n dX2_placeRest_69 rfl 2 rfl ?_
              refine v_callVi (As := [.int z4, .int y2]) cv_X2_57 (S_X2_spanCrosses hl) tt_128 rfl rfl rfl (Nat.le_of_ble_eq_true rfl) dX2_placeRest_70 (CR_rm (by omega) (by decide) (by decide) (by decide)) (fun r6 w6 => ?_)
              refine v_if_ne (tgt := 87) dX2_placeRest_73 (by decide) ?_ ?_
              · refine v_aload_n dX2_placeRest_87 rfl 0 rfl ?_
                refine v_getR fl_X2_18 tt_128 rfl dX2_placeRest_88 ?_
                refine v_iload dX2_placeRest_91 4 rfl ?_
                refine v_iload_n dX2_placeRest_93 rfl 2 rfl ?_
                refine v_guard (fun h7 => ?_)
                refine v_iast tt_131 h7 dX2_placeRest_94 ?_
                refine v_iinc (v := (z4 + 1)) dX2_placeRest_95 (q := 4) rfl rfl (Nat.le_of_ble_eq_true rfl) rfl ?_
                refine v_goto (tgt := 12) dX2_placeRest_98 (by decide) ?_
                refine v_sub [1, 2, 3, 4, 0] rfl ?_
                exact ih _ _ _
              · refine v_iload_n dX2_placeRest_76 rfl 3 rfl ?_
                refine v_aload_n dX2_placeRest_77 rfl 0 rfl ?_
                refine v_iload_n dX2_placeRest_78 rfl 1 rfl ?_
                refine v_iconst (v := 1) dX2_placeRest_79 (by decide) ?_
                refine v_iadd dX2_placeRest_80 ?_
                refine v_iload_n dX2_placeRest_81 rfl 2 rfl ?_
                refine v_callVi (As := [.int (y1 + 1), .int y2]) cv_X2_50 (hRC _ _ _) tt_128 rfl rfl rfl (Nat.le_of_ble_eq_true rfl) dX2_placeRest_82 (CR_rm (by omega) (by decide) (by decide) (by decide)) (fun r8 w8 => ?_)
                refine v_iadd dX2_placeRest_85 ?_
                refine v_istore_n dX2_placeRest_86 rfl (Nat.le_of_ble_eq_true rfl) rfl ?_
                refine v_aload_n dX2_placeRest_87 rfl 1 rfl ?_
                refine v_getR fl_X2_18 tt_128 rfl dX2_placeRest_88 ?_
                refine v_iload dX2_placeRest_91 4 rfl ?_
                refine v_iload_n dX2_placeRest_93 rfl 3 rfl ?_
                refine v_guard (fun h9 => ?_)
                refine v_iast tt_131 h9 dX2_placeRest_94 ?_
                refine v_iinc (v := (z4 + 1)) dX2_placeRest_95 (q := 4) rfl rfl (Nat.le_of_ble_eq_true rfl) rfl ?_
                refine v_goto (tgt := 12) dX2_placeRest_98 (by decide) ?_
                refine v_sub [2, 3, 4, 1, 0] rfl ?_
                exact ih _ _ _
def f_X2_placeRestO (RC : Int32 → Int32 → XW → Option (Int32 × XW)) (x1 : Int32) (x2 : Int32) (w : XW) : Option (Int32 × XW) := (if x1 < x2 then (f_X2_placeRest_12 RC x1 x2 1000 0 0 w) else (some (1, w)))
set_option maxRecDepth 100000 in
theorem W_X2_placeRestO {g : GC} (hl : g.1.stackTraces = false) {n0 : Nat} (hn0 : 5 ≤ n0) {RC : Int32 → Int32 → XW → Option (Int32 × XW)} (hRC : ∀ (x1 : Int32) (x2 : Int32) (w : XW) q, RC x1 x2 w = some q → MM g (.code yX2_placeRest cX2_placeRest 5 (some .int)) yX2_placeRest (rmL n0 0 0) 0 0 [.ref (g.2.1 + 128), .int x1, .int x2] w (oI q)) {x1 : Int32} {x2 : Int32} {w : XW} : VE g cX2_placeRest 5 RX2 (some .int) [] (rmL (n0 + 1) 0 0) 0 0 oI 0 0 0 [(0, .ref (g.2.1 + 128)), (1, .int x1), (2, .int x2)] [] w (f_X2_placeRestO RC x1 x2 w) := by
  unfold f_X2_placeRestO
  refine v_iload_n dX2_placeRest_0 rfl 1 rfl ?_
  refine v_iload_n dX2_placeRest_1 rfl 2 rfl ?_
  refine v_icmp_lt (tgt := 7) dX2_placeRest_2 (by decide) ?_ ?_
  · refine v_iconst (v := 0) dX2_placeRest_7 (by decide) ?_
    refine v_istore_n dX2_placeRest_8 rfl (Nat.le_of_ble_eq_true rfl) rfl ?_
    refine v_iconst (v := 0) dX2_placeRest_9 (by decide) ?_
    refine v_istore dX2_placeRest_10 (Nat.le_of_ble_eq_true rfl) rfl ?_
    refine v_sub [2, 3, 4, 1, 0] rfl ?_
    exact S_X2_placeRest_12 hl hn0 hRC  _ _ _ _
  · refine v_iconst (v := 1) dX2_placeRest_5 (by decide) ?_
    exact v_iret dX2_placeRest_6 rfl rfl (by decide) (by decide)
theorem S_X2_placeRestO {g : GC} (hl : g.1.stackTraces = false) {n0 : Nat} (hn0 : 5 ≤ n0) {RC : Int32 → Int32 → XW → Option (Int32 × XW)} (hRC : ∀ (x1 : Int32) (x2 : Int32) (w : XW) q, RC x1 x2 w = some q → MM g (.code yX2_placeRest cX2_placeRest 5 (some .int)) yX2_placeRest (rmL n0 0 0) 0 0 [.ref (g.2.1 + 128), .int x1, .int x2] w (oI q)) {x1 : Int32} {x2 : Int32} {w : XW} : ∀ q, f_X2_placeRestO RC x1 x2 w = some q → MM g (.code yX2_placeRest cX2_placeRest 5 (some .int)) yX2_placeRest (rmL (n0 + 1) 0 0) 0 0 [.ref (g.2.1 + 128), .int x1, .int x2] w (oI q) := fun q hq => MM_of (own := RX2) hl (by decide) gw_445 rfl (Nat.le_of_ble_eq_true rfl) (W_X2_placeRestO hl hn0 hRC q hq) ⟨rfl, rfl⟩
def f_X2_placeRest : Nat → Int32 → Int32 → XW → Option (Int32 × XW)
  | 0, _, _, _ => none
  | n + 1, x1, x2, w => f_X2_placeRestO (f_X2_placeRest n) x1 x2 w
theorem S_X2_placeRest {g : GC} (hl : g.1.stackTraces = false) : ∀ (n : Nat) (x1 : Int32) (x2 : Int32) (w : XW) q, f_X2_placeRest n x1 x2 w = some q → MM g (.code yX2_placeRest cX2_placeRest 5 (some .int)) yX2_placeRest (rmL (5 + 1 * n) 0 0) 0 0 [.ref (g.2.1 + 128), .int x1, .int x2] w (oI q) := by
  intro n
  induction n with
  | zero => intro x1 x2 w q h; cases h
  | succ n ih =>
    intro x1 x2 w q h
    exact S_X2_placeRestO hl (n0 := 5 + 1 * n) (by omega) ih q h

theorem dX2_countByOrders_0 : decode cX2_countByOrders 0 = .ok (.aload_n 0, 1) := by decide +kernel
theorem dX2_countByOrders_1 : decode cX2_countByOrders 1 = .ok (.getfield 12, 3) := by decide +kernel
theorem dX2_countByOrders_4 : decode cX2_countByOrders 4 = .ok (.aload_n 1, 1) := by decide +kernel
theorem dX2_countByOrders_5 : decode cX2_countByOrders 5 = .ok (.invokevirtual 22, 3) := by decide +kernel
theorem dX2_countByOrders_8 : decode cX2_countByOrders 8 = .ok (.iload_n 2, 1) := by decide +kernel
theorem dX2_countByOrders_9 : decode cX2_countByOrders 9 = .ok (.bipush 7, 2) := by decide +kernel
theorem dX2_countByOrders_11 : decode cX2_countByOrders 11 = .ok (.invokestatic 30, 3) := by decide +kernel
theorem dX2_countByOrders_14 : decode cX2_countByOrders 14 = .ok (.istore_n 3, 1) := by decide +kernel
theorem dX2_countByOrders_15 : decode cX2_countByOrders 15 = .ok (.iconst 0, 1) := by decide +kernel
theorem dX2_countByOrders_16 : decode cX2_countByOrders 16 = .ok (.istore 4, 2) := by decide +kernel
theorem dX2_countByOrders_18 : decode cX2_countByOrders 18 = .ok (.iload 4, 2) := by decide +kernel
theorem dX2_countByOrders_20 : decode cX2_countByOrders 20 = .ok (.bipush 7, 2) := by decide +kernel
theorem dX2_countByOrders_22 : decode cX2_countByOrders 22 = .ok (.if_icmp .ge 17, 3) := by decide +kernel
theorem dX2_countByOrders_25 : decode cX2_countByOrders 25 = .ok (.aload_n 0, 1) := by decide +kernel
theorem dX2_countByOrders_26 : decode cX2_countByOrders 26 = .ok (.getfield 18, 3) := by decide +kernel
theorem dX2_countByOrders_29 : decode cX2_countByOrders 29 = .ok (.iload 4, 2) := by decide +kernel
theorem dX2_countByOrders_31 : decode cX2_countByOrders 31 = .ok (.iload_n 3, 1) := by decide +kernel
theorem dX2_countByOrders_32 : decode cX2_countByOrders 32 = .ok (.iastore, 1) := by decide +kernel
theorem dX2_countByOrders_33 : decode cX2_countByOrders 33 = .ok (.iinc 4 1, 3) := by decide +kernel
theorem dX2_countByOrders_36 : decode cX2_countByOrders 36 = .ok (.goto (-18), 3) := by decide +kernel
theorem dX2_countByOrders_39 : decode cX2_countByOrders 39 = .ok (.aload_n 0, 1) := by decide +kernel
theorem dX2_countByOrders_40 : decode cX2_countByOrders 40 = .ok (.iconst 0, 1) := by decide +kernel
theorem dX2_countByOrders_41 : decode cX2_countByOrders 41 = .ok (.iload_n 3, 1) := by decide +kernel
theorem dX2_countByOrders_42 : decode cX2_countByOrders 42 = .ok (.invokevirtual 50, 3) := by decide +kernel
theorem dX2_countByOrders_45 : decode cX2_countByOrders 45 = .ok (.ireturn, 1) := by decide +kernel
def f_X2_countByOrders_18 (k1 : Nat) (y3 : Int32) : Nat → Int32 → XW → Option (Int32 × XW)
  | 0, _, _ => none
  | n + 1, z4, w => (if 7 ≤ z4 then (bI (f_X2_placeRest 9 0 y3 w) (fun r2 w2 => (some (r2, w2)))) else (if inB z4 7 then (f_X2_countByOrders_18 k1 y3 n (z4 + 1) (wset w 131 (Int32.toNatClampNeg z4) y3)) else none))
set_option maxRecDepth 100000 in
theorem S_X2_countByOrders_18 {g : GC} (hl : g.1.stackTraces = false) {k1 : Nat} (hk1 : isX4 k1) {y3 : Int32} : ∀ (n : Nat) (z4 : Int32) (w : XW), VE g cX2_countByOrders 5 RX2 (some .int) [] (rmL 15 0 0) 0 0 oI 0 0 18 [(0, .ref (g.2.1 + 128)), (3, .int y3), (4, .int z4)] [] w (f_X2_countByOrders_18 k1 y3 n z4 w) := by
  intro n
  induction n with
  | zero => intro z4 w; exact v_none
  | succ n ih =>
    intro z4 w
    rw [f_X2_countByOrders_18]
    refine v_iload dX2_countByOrders_18 2 rfl ?_
    refine v_bipush (v := 7) dX2_countByOrders_20 (by decide) ?_
    refine v_icmp_ge (tgt := 39) dX2_countByOrders_22 (by decide) ?_ ?_
    · refine v_aload_n dX2_countByOrders_39 rfl 0 rfl ?_
      refine v_iconst (v := 0) dX2_countByOrders_40 (by decide) ?_
      refine v_iload_n dX2_countByOrders_41 rfl 1 rfl ?_
      refine v_callVi (As := [.int 0, .int y3]) cv_X2_50 (S_X2_placeRest hl 9 _ _ _) tt_128 rfl rfl rfl (Nat.le_of_ble_eq_true rfl) dX2_countByOrders_42 (CR_rm (by decide) (by decide) (by decide) (by decide)) (fun r2 w2 => ?_)
      exact v_iret dX2_countByOrders_45 rfl rfl (by decide) (by decide)
    · refine v_aload_n dX2_countByOrders_25 rfl 0 rfl ?_
      refine v_getR fl_X2_18 tt_128 rfl dX2_countByOrders_26 ?_
      refine v_iload dX2_countByOrders_29 2 rfl ?_
      refine v_iload_n dX2_countByOrders_31 rfl 1 rfl ?_
      refine v_guard (fun h3 => ?_)
      refine v_iast tt_131 h3 dX2_countByOrders_32 ?_
      refine v_iinc (v := (z4 + 1)) dX2_countByOrders_33 (q := 2) rfl rfl (Nat.le_of_ble_eq_true rfl) rfl ?_
      refine v_goto (tgt := 18) dX2_countByOrders_36 (by decide) ?_
      refine v_sub [1, 2, 0] rfl ?_
      exact ih _ _
def f_X2_countByOrders (k1 : Nat) (x2 : Int32) (w : XW) : Option (Int32 × XW) := (bV (f_X4_copyFrom 129 k1 w) (fun w1 => (f_X2_countByOrders_18 k1 (if 7 < x2 then 7 else x2) 1000 0 w1)))
set_option maxRecDepth 100000 in
theorem W_X2_countByOrders {g : GC} (hl : g.1.stackTraces = false) {k1 : Nat} (hk1 : isX4 k1) {x2 : Int32} {w : XW} : VE g cX2_countByOrders 5 RX2 (some .int) [] (rmL 15 0 0) 0 0 oI 0 0 0 [(0, .ref (g.2.1 + 128)), (1, .ref (g.2.1 + k1)), (2, .int x2)] [] w (f_X2_countByOrders k1 x2 w) := by
  unfold f_X2_countByOrders
  refine v_aload_n dX2_countByOrders_0 rfl 0 rfl ?_
  refine v_getR fl_X2_12 tt_128 rfl dX2_countByOrders_1 ?_
  refine v_aload_n dX2_countByOrders_4 rfl 1 rfl ?_
  refine v_callVv (As := [.ref (g.2.1 + k1)]) cv_X2_22 (S_X4_copyFrom hl is4_129 hk1) tt_129 rfl rfl rfl (Nat.le_of_ble_eq_true rfl) dX2_countByOrders_5 (CR_rm (by decide) (by decide) (by decide) (by decide)) (fun w1 => ?_)
  refine v_iload_n dX2_countByOrders_8 rfl 2 rfl ?_
  refine v_bipush (v := 7) dX2_countByOrders_9 (by decide) ?_
  refine v_min gw_402 gw_403 gw_98 gw_404 dX2_countByOrders_11 (CR_f1 _ _ _) (CR_f2 (by decide) _ _ _) (by decide) (by decide) ?_
  refine v_istore_n dX2_countByOrders_14 rfl (Nat.le_of_ble_eq_true rfl) rfl ?_
  refine v_iconst (v := 0) dX2_countByOrders_15 (by decide) ?_
  refine v_istore dX2_countByOrders_16 (Nat.le_of_ble_eq_true rfl) rfl ?_
  refine v_sub [2, 1, 0] rfl ?_
  exact S_X2_countByOrders_18 hl hk1  _ _ _
theorem S_X2_countByOrders {g : GC} (hl : g.1.stackTraces = false) {k1 : Nat} (hk1 : isX4 k1) {x2 : Int32} {w : XW} : ∀ q, f_X2_countByOrders k1 x2 w = some q → MM g (.code yX2_countByOrders cX2_countByOrders 5 (some .int)) yX2_countByOrders (rmL 15 0 0) 0 0 [.ref (g.2.1 + 128), .ref (g.2.1 + k1), .int x2] w (oI q) := fun q hq => MM_of (own := RX2) hl (by decide) gw_441 rfl (Nat.le_of_ble_eq_true rfl) (W_X2_countByOrders hl hk1 q hq) ⟨rfl, rfl⟩
end
section
theorem dX8_copyFrom_0 : decode cX8_copyFrom 0 = .ok (.aload_n 0, 1) := by decide +kernel
theorem dX8_copyFrom_1 : decode cX8_copyFrom 1 = .ok (.getfield 12, 3) := by decide +kernel
theorem dX8_copyFrom_4 : decode cX8_copyFrom 4 = .ok (.aload_n 1, 1) := by decide +kernel
theorem dX8_copyFrom_5 : decode cX8_copyFrom 5 = .ok (.getfield 12, 3) := by decide +kernel
theorem dX8_copyFrom_8 : decode cX8_copyFrom 8 = .ok (.invokevirtual 32, 3) := by decide +kernel
theorem dX8_copyFrom_11 : decode cX8_copyFrom 11 = .ok (.aload_n 0, 1) := by decide +kernel
theorem dX8_copyFrom_12 : decode cX8_copyFrom 12 = .ok (.getfield 21, 3) := by decide +kernel
theorem dX8_copyFrom_15 : decode cX8_copyFrom 15 = .ok (.aload_n 1, 1) := by decide +kernel
theorem dX8_copyFrom_16 : decode cX8_copyFrom 16 = .ok (.getfield 21, 3) := by decide +kernel
theorem dX8_copyFrom_19 : decode cX8_copyFrom 19 = .ok (.invokevirtual 36, 3) := by decide +kernel
theorem dX8_copyFrom_22 : decode cX8_copyFrom 22 = .ok (.aload_n 0, 1) := by decide +kernel
theorem dX8_copyFrom_23 : decode cX8_copyFrom 23 = .ok (.getfield 28, 3) := by decide +kernel
theorem dX8_copyFrom_26 : decode cX8_copyFrom 26 = .ok (.aload_n 1, 1) := by decide +kernel
theorem dX8_copyFrom_27 : decode cX8_copyFrom 27 = .ok (.getfield 28, 3) := by decide +kernel
theorem dX8_copyFrom_30 : decode cX8_copyFrom 30 = .ok (.invokevirtual 39, 3) := by decide +kernel
theorem dX8_copyFrom_33 : decode cX8_copyFrom 33 = .ok (.return_, 1) := by decide +kernel
def f_X8_copyFrom (k : Nat) (k1 : Nat) (w : XW) : Option (XW) := (bV (f_X9_copyFrom (k + 1) (k1 + 1) w) (fun w1 => (bV (f_X4_copyFrom (k + 4) (k1 + 4) w1) (fun w2 => (bV (f_X5_copyFrom (k + 6) (k1 + 6) w2) (fun w3 => (some w3)))))))
set_option maxRecDepth 100000 in
theorem W_X8_copyFrom {g : GC} (hl : g.1.stackTraces = false) {k : Nat} (hk : isX8 k) {k1 : Nat} (hk1 : isX8 k1) {w : XW} : VE g cX8_copyFrom 2 RX8 none [] (rmL 4 0 0) 0 0 oV 0 0 0 [(0, .ref (g.2.1 + k)), (1, .ref (g.2.1 + k1))] [] w (f_X8_copyFrom k k1 w) := by
  unfold f_X8_copyFrom
  refine v_aload_n dX8_copyFrom_0 rfl 0 rfl ?_
  refine v_getR fl_X8_12 hk.1 rfl dX8_copyFrom_1 ?_
  refine v_aload_n dX8_copyFrom_4 rfl 1 rfl ?_
  refine v_getR fl_X8_12 hk1.1 rfl dX8_copyFrom_5 ?_
  refine v_callVv (As := [.ref (g.2.1 + (k1 + 1))]) cv_X8_32 (S_X9_copyFrom hl hk.2.1 hk1.2.1) hk.2.1.1 rfl rfl rfl (Nat.le_of_ble_eq_true rfl) dX8_copyFrom_8 (CR_rm (by decide) (by decide) (by decide) (by decide)) (fun w1 => ?_)
  refine v_aload_n dX8_copyFrom_11 rfl 0 rfl ?_
  refine v_getR fl_X8_21 hk.1 rfl dX8_copyFrom_12 ?_
  refine v_aload_n dX8_copyFrom_15 rfl 1 rfl ?_
  refine v_getR fl_X8_21 hk1.1 rfl dX8_copyFrom_16 ?_
  refine v_callVv (As := [.ref (g.2.1 + (k1 + 4))]) cv_X8_36 (S_X4_copyFrom hl hk.2.2.1 hk1.2.2.1) hk.2.2.1.1 rfl rfl rfl (Nat.le_of_ble_eq_true rfl) dX8_copyFrom_19 (CR_rm (by decide) (by decide) (by decide) (by decide)) (fun w2 => ?_)
  refine v_aload_n dX8_copyFrom_22 rfl 0 rfl ?_
  refine v_getR fl_X8_28 hk.1 rfl dX8_copyFrom_23 ?_
  refine v_aload_n dX8_copyFrom_26 rfl 1 rfl ?_
  refine v_getR fl_X8_28 hk1.1 rfl dX8_copyFrom_27 ?_
  refine v_callVv (As := [.ref (g.2.1 + (k1 + 6))]) cv_X8_39 (S_X5_copyFrom hl hk.2.2.2 hk1.2.2.2) hk.2.2.2.1 rfl rfl rfl (Nat.le_of_ble_eq_true rfl) dX8_copyFrom_30 (CR_rm (by decide) (by decide) (by decide) (by decide)) (fun w3 => ?_)
  exact v_vret dX8_copyFrom_33 rfl rfl (by decide) (by decide)
theorem S_X8_copyFrom {g : GC} (hl : g.1.stackTraces = false) {k : Nat} (hk : isX8 k) {k1 : Nat} (hk1 : isX8 k1) {w : XW} : ∀ q, f_X8_copyFrom k k1 w = some q → MM g (.code yX8_copyFrom cX8_copyFrom 2 none) yX8_copyFrom (rmL 4 0 0) 0 0 [.ref (g.2.1 + k), .ref (g.2.1 + k1)] w (oV q) := fun q hq => MM_of (own := RX8) hl (by decide) gw_519 rfl (Nat.le_of_ble_eq_true rfl) (W_X8_copyFrom hl hk hk1 q hq) ⟨rfl, rfl⟩

theorem dX8_denied_0 : decode cX8_denied 0 = .ok (.iload_n 0, 1) := by decide +kernel
theorem dX8_denied_1 : decode cX8_denied 1 = .ok (.bipush 100, 2) := by decide +kernel
theorem dX8_denied_3 : decode cX8_denied 3 = .ok (.imul, 1) := by decide +kernel
theorem dX8_denied_4 : decode cX8_denied 4 = .ok (.iload_n 1, 1) := by decide +kernel
theorem dX8_denied_5 : decode cX8_denied 5 = .ok (.iadd, 1) := by decide +kernel
theorem dX8_denied_6 : decode cX8_denied 6 = .ok (.ireturn, 1) := by decide +kernel
def f_X8_denied (x0 : Int32) (x1 : Int32) (w : XW) : Option (Int32 × XW) := (some (((x0 * 100) + x1), w))
set_option maxRecDepth 100000 in
theorem W_X8_denied {g : GC} (hl : g.1.stackTraces = false) {x0 : Int32} {x1 : Int32} {w : XW} : VE g cX8_denied 2 RX8 (some .int) [] (rmL 3 0 0) 0 0 oI 0 0 0 [(0, .int x0), (1, .int x1)] [] w (f_X8_denied x0 x1 w) := by
  unfold f_X8_denied
  refine v_iload_n dX8_denied_0 rfl 0 rfl ?_
  refine v_bipush (v := 100) dX8_denied_1 (by decide) ?_
  refine v_imul dX8_denied_3 ?_
  refine v_iload_n dX8_denied_4 rfl 1 rfl ?_
  refine v_iadd dX8_denied_5 ?_
  exact v_iret dX8_denied_6 rfl rfl (by decide) (by decide)
theorem S_X8_denied {g : GC} (hl : g.1.stackTraces = false) {x0 : Int32} {x1 : Int32} {w : XW} : ∀ q, f_X8_denied x0 x1 w = some q → MM g (.code yX8_denied cX8_denied 2 (some .int)) yX8_denied (rmL 3 0 0) 0 0 [.int x0, .int x1] w (oI q) := fun q hq => MM_of (own := RX8) hl (by decide) gw_549 rfl (Nat.le_of_ble_eq_true rfl) (W_X8_denied hl q hq) ⟨rfl, rfl⟩

theorem dX8_judgePour_0 : decode cX8_judgePour 0 = .ok (.aload_n 0, 1) := by decide +kernel
theorem dX8_judgePour_1 : decode cX8_judgePour 1 = .ok (.getfield 12, 3) := by decide +kernel
theorem dX8_judgePour_4 : decode cX8_judgePour 4 = .ok (.iload_n 1, 1) := by decide +kernel
theorem dX8_judgePour_5 : decode cX8_judgePour 5 = .ok (.invokevirtual 80, 3) := by decide +kernel
theorem dX8_judgePour_8 : decode cX8_judgePour 8 = .ok (.ifCond .ne 5, 3) := by decide +kernel
theorem dX8_judgePour_11 : decode cX8_judgePour 11 = .ok (.iconst (-1), 1) := by decide +kernel
theorem dX8_judgePour_12 : decode cX8_judgePour 12 = .ok (.ireturn, 1) := by decide +kernel
theorem dX8_judgePour_13 : decode cX8_judgePour 13 = .ok (.iload_n 2, 1) := by decide +kernel
theorem dX8_judgePour_14 : decode cX8_judgePour 14 = .ok (.iconst 1, 1) := by decide +kernel
theorem dX8_judgePour_15 : decode cX8_judgePour 15 = .ok (.if_icmp .lt 9, 3) := by decide +kernel
theorem dX8_judgePour_18 : decode cX8_judgePour 18 = .ok (.iload_n 2, 1) := by decide +kernel
theorem dX8_judgePour_19 : decode cX8_judgePour 19 = .ok (.bipush 99, 2) := by decide +kernel
theorem dX8_judgePour_21 : decode cX8_judgePour 21 = .ok (.if_icmp .le 6, 3) := by decide +kernel
theorem dX8_judgePour_24 : decode cX8_judgePour 24 = .ok (.bipush (-2), 2) := by decide +kernel
theorem dX8_judgePour_26 : decode cX8_judgePour 26 = .ok (.ireturn, 1) := by decide +kernel
theorem dX8_judgePour_27 : decode cX8_judgePour 27 = .ok (.aload_n 0, 1) := by decide +kernel
theorem dX8_judgePour_28 : decode cX8_judgePour 28 = .ok (.getfield 12, 3) := by decide +kernel
theorem dX8_judgePour_31 : decode cX8_judgePour 31 = .ok (.iload_n 1, 1) := by decide +kernel
theorem dX8_judgePour_32 : decode cX8_judgePour 32 = .ok (.invokevirtual 81, 3) := by decide +kernel
theorem dX8_judgePour_35 : decode cX8_judgePour 35 = .ok (.iload_n 2, 1) := by decide +kernel
theorem dX8_judgePour_36 : decode cX8_judgePour 36 = .ok (.iadd, 1) := by decide +kernel
theorem dX8_judgePour_37 : decode cX8_judgePour 37 = .ok (.bipush 99, 2) := by decide +kernel
theorem dX8_judgePour_39 : decode cX8_judgePour 39 = .ok (.if_icmp .gt 7, 3) := by decide +kernel
theorem dX8_judgePour_42 : decode cX8_judgePour 42 = .ok (.iconst 0, 1) := by decide +kernel
theorem dX8_judgePour_43 : decode cX8_judgePour 43 = .ok (.goto 9, 3) := by decide +kernel
theorem dX8_judgePour_46 : decode cX8_judgePour 46 = .ok (.iconst 1, 1) := by decide +kernel
theorem dX8_judgePour_47 : decode cX8_judgePour 47 = .ok (.bipush 99, 2) := by decide +kernel
theorem dX8_judgePour_49 : decode cX8_judgePour 49 = .ok (.invokestatic 46, 3) := by decide +kernel
theorem dX8_judgePour_52 : decode cX8_judgePour 52 = .ok (.ireturn, 1) := by decide +kernel
def f_X8_judgePour (k : Nat) (x1 : Int32) (x2 : Int32) (w : XW) : Option (Int32 × XW) := (bI (f_X9_has (k + 1) x1 w) (fun r1 w1 => (if r1 = 0 then (some ((-1), w1)) else (if x2 < 1 then (some ((-2), w1)) else (if x2 ≤ 99 then (bI (f_X9_waterOf (k + 1) x1 w1) (fun r2 w2 => (if 99 < (r2 + x2) then (bI (f_X8_denied 1 99 w2) (fun r3 w3 => (some (r3, w3)))) else (some (0, w2))))) else (some ((-2), w1)))))))
set_option maxRecDepth 100000 in
theorem W_X8_judgePour {g : GC} (hl : g.1.stackTraces = false) {k : Nat} (hk : isX8 k) {x1 : Int32} {x2 : Int32} {w : XW} : VE g cX8_judgePour 3 RX8 (some .int) [] (rmL 5 0 0) 0 0 oI 0 0 0 [(0, .ref (g.2.1 + k)), (1, .int x1), (2, .int x2)] [] w (f_X8_judgePour k x1 x2 w) := by
  unfold f_X8_judgePour
  refine v_aload_n dX8_judgePour_0 rfl 0 rfl ?_
  refine v_getR fl_X8_12 hk.1 rfl dX8_judgePour_1 ?_
  refine v_iload_n dX8_judgePour_4 rfl 1 rfl ?_
  refine v_callVi (As := [.int x1]) cv_X8_80 (S_X9_has hl hk.2.1) hk.2.1.1 rfl rfl rfl (Nat.le_of_ble_eq_true rfl) dX8_judgePour_5 (CR_rm (by decide) (by decide) (by decide) (by decide)) (fun r1 w1 => ?_)
  refine v_if_ne (tgt := 13) dX8_judgePour_8 (by decide) ?_ ?_
  · refine v_iload_n dX8_judgePour_13 rfl 2 rfl ?_
    refine v_iconst (v := 1) dX8_judgePour_14 (by decide) ?_
    refine v_icmp_lt (tgt := 24) dX8_judgePour_15 (by decide) ?_ ?_
    · refine v_bipush (v := (-2)) dX8_judgePour_24 (by decide) ?_
      exact v_iret dX8_judgePour_26 rfl rfl (by decide) (by decide)
    · refine v_iload_n dX8_judgePour_18 rfl 2 rfl ?_
      refine v_bipush (v := 99) dX8_judgePour_19 (by decide) ?_
      refine v_icmp_le (tgt := 27) dX8_judgePour_21 (by decide) ?_ ?_
      · refine v_aload_n dX8_judgePour_27 rfl 0 rfl ?_
        refine v_getR fl_X8_12 hk.1 rfl dX8_judgePour_28 ?_
        refine v_iload_n dX8_judgePour_31 rfl 1 rfl ?_
        refine v_callVi (As := [.int x1]) cv_X8_81 (S_X9_waterOf hl hk.2.1) hk.2.1.1 rfl rfl rfl (Nat.le_of_ble_eq_true rfl) dX8_judgePour_32 (CR_rm (by decide) (by decide) (by decide) (by decide)) (fun r2 w2 => ?_)
        refine v_iload_n dX8_judgePour_35 rfl 2 rfl ?_
        refine v_iadd dX8_judgePour_36 ?_
        refine v_bipush (v := 99) dX8_judgePour_37 (by decide) ?_
        refine v_icmp_gt (tgt := 46) dX8_judgePour_39 (by decide) ?_ ?_
        · refine v_iconst (v := 1) dX8_judgePour_46 (by decide) ?_
          refine v_bipush (v := 99) dX8_judgePour_47 (by decide) ?_
          refine v_callSi (As := [.int 1, .int 99]) cs_X8_46 (S_X8_denied hl) rfl rfl (Nat.le_of_ble_eq_true rfl) dX8_judgePour_49 (CR_rm (by decide) (by decide) (by decide) (by decide)) (fun r3 w3 => ?_)
          exact v_iret dX8_judgePour_52 rfl rfl (by decide) (by decide)
        · refine v_iconst (v := 0) dX8_judgePour_42 (by decide) ?_
          refine v_goto (tgt := 52) dX8_judgePour_43 (by decide) ?_
          exact v_iret dX8_judgePour_52 rfl rfl (by decide) (by decide)
      · refine v_bipush (v := (-2)) dX8_judgePour_24 (by decide) ?_
        exact v_iret dX8_judgePour_26 rfl rfl (by decide) (by decide)
  · refine v_iconst (v := (-1)) dX8_judgePour_11 (by decide) ?_
    exact v_iret dX8_judgePour_12 rfl rfl (by decide) (by decide)
theorem S_X8_judgePour {g : GC} (hl : g.1.stackTraces = false) {k : Nat} (hk : isX8 k) {x1 : Int32} {x2 : Int32} {w : XW} : ∀ q, f_X8_judgePour k x1 x2 w = some q → MM g (.code yX8_judgePour cX8_judgePour 3 (some .int)) yX8_judgePour (rmL 5 0 0) 0 0 [.ref (g.2.1 + k), .int x1, .int x2] w (oI q) := fun q hq => MM_of (own := RX8) hl (by decide) gw_553 rfl (Nat.le_of_ble_eq_true rfl) (W_X8_judgePour hl hk q hq) ⟨rfl, rfl⟩

theorem dX8_judgeTerm_0 : decode cX8_judgeTerm 0 = .ok (.aload_n 0, 1) := by decide +kernel
theorem dX8_judgeTerm_1 : decode cX8_judgeTerm 1 = .ok (.getfield 12, 3) := by decide +kernel
theorem dX8_judgeTerm_4 : decode cX8_judgeTerm 4 = .ok (.iload_n 1, 1) := by decide +kernel
theorem dX8_judgeTerm_5 : decode cX8_judgeTerm 5 = .ok (.invokevirtual 80, 3) := by decide +kernel
theorem dX8_judgeTerm_8 : decode cX8_judgeTerm 8 = .ok (.ifCond .ne 5, 3) := by decide +kernel
theorem dX8_judgeTerm_11 : decode cX8_judgeTerm 11 = .ok (.iconst (-1), 1) := by decide +kernel
theorem dX8_judgeTerm_12 : decode cX8_judgeTerm 12 = .ok (.ireturn, 1) := by decide +kernel
theorem dX8_judgeTerm_13 : decode cX8_judgeTerm 13 = .ok (.iload_n 2, 1) := by decide +kernel
theorem dX8_judgeTerm_14 : decode cX8_judgeTerm 14 = .ok (.invokestatic 84, 3) := by decide +kernel
theorem dX8_judgeTerm_17 : decode cX8_judgeTerm 17 = .ok (.ifCond .ne 6, 3) := by decide +kernel
theorem dX8_judgeTerm_20 : decode cX8_judgeTerm 20 = .ok (.bipush (-2), 2) := by decide +kernel
theorem dX8_judgeTerm_22 : decode cX8_judgeTerm 22 = .ok (.ireturn, 1) := by decide +kernel
theorem dX8_judgeTerm_23 : decode cX8_judgeTerm 23 = .ok (.aload_n 0, 1) := by decide +kernel
theorem dX8_judgeTerm_24 : decode cX8_judgeTerm 24 = .ok (.getfield 12, 3) := by decide +kernel
theorem dX8_judgeTerm_27 : decode cX8_judgeTerm 27 = .ok (.iload_n 1, 1) := by decide +kernel
theorem dX8_judgeTerm_28 : decode cX8_judgeTerm 28 = .ok (.iload_n 2, 1) := by decide +kernel
theorem dX8_judgeTerm_29 : decode cX8_judgeTerm 29 = .ok (.invokevirtual 87, 3) := by decide +kernel
theorem dX8_judgeTerm_32 : decode cX8_judgeTerm 32 = .ok (.iload_n 3, 1) := by decide +kernel
theorem dX8_judgeTerm_33 : decode cX8_judgeTerm 33 = .ok (.if_icmp .ne 7, 3) := by decide +kernel
theorem dX8_judgeTerm_36 : decode cX8_judgeTerm 36 = .ok (.iconst 0, 1) := by decide +kernel
theorem dX8_judgeTerm_37 : decode cX8_judgeTerm 37 = .ok (.goto 15, 3) := by decide +kernel
theorem dX8_judgeTerm_40 : decode cX8_judgeTerm 40 = .ok (.iconst 5, 1) := by decide +kernel
theorem dX8_judgeTerm_41 : decode cX8_judgeTerm 41 = .ok (.aload_n 0, 1) := by decide +kernel
theorem dX8_judgeTerm_42 : decode cX8_judgeTerm 42 = .ok (.getfield 12, 3) := by decide +kernel
theorem dX8_judgeTerm_45 : decode cX8_judgeTerm 45 = .ok (.iload_n 1, 1) := by decide +kernel
theorem dX8_judgeTerm_46 : decode cX8_judgeTerm 46 = .ok (.invokevirtual 91, 3) := by decide +kernel
theorem dX8_judgeTerm_49 : decode cX8_judgeTerm 49 = .ok (.invokestatic 46, 3) := by decide +kernel
theorem dX8_judgeTerm_52 : decode cX8_judgeTerm 52 = .ok (.ireturn, 1) := by decide +kernel
def f_X8_judgeTerm (k : Nat) (x1 : Int32) (x2 : Int32) (x3 : Int32) (w : XW) : Option (Int32 × XW) := (bI (f_X9_has (k + 1) x1 w) (fun r1 w1 => (if r1 = 0 then (some ((-1), w1)) else (bI (f_X9_isTerm x2 w1) (fun r2 w2 => (if r2 = 0 then (some ((-2), w2)) else (bI (f_X9_bears (k + 1) x1 x2 w2) (fun r3 w3 => (if r3 = x3 then (some (0, w3)) else (bI (f_X9_termCountOf (k + 1) x1 w3) (fun r4 w4 => (bI (f_X8_denied 5 r4 w4) (fun r5 w5 => (some (r5, w5)))))))))))))))
set_option maxRecDepth 100000 in
theorem W_X8_judgeTerm {g : GC} (hl : g.1.stackTraces = false) {k : Nat} (hk : isX8 k) {x1 : Int32} {x2 : Int32} {x3 : Int32} {w : XW} : VE g cX8_judgeTerm 4 RX8 (some .int) [] (rmL 6 0 0) 0 0 oI 0 0 0 [(0, .ref (g.2.1 + k)), (1, .int x1), (2, .int x2), (3, .int x3)] [] w (f_X8_judgeTerm k x1 x2 x3 w) := by
  unfold f_X8_judgeTerm
  refine v_aload_n dX8_judgeTerm_0 rfl 0 rfl ?_
  refine v_getR fl_X8_12 hk.1 rfl dX8_judgeTerm_1 ?_
  refine v_iload_n dX8_judgeTerm_4 rfl 1 rfl ?_
  refine v_callVi (As := [.int x1]) cv_X8_80 (S_X9_has hl hk.2.1) hk.2.1.1 rfl rfl rfl (Nat.le_of_ble_eq_true rfl) dX8_judgeTerm_5 (CR_rm (by decide) (by decide) (by decide) (by decide)) (fun r1 w1 => ?_)
  refine v_if_ne (tgt := 13) dX8_judgeTerm_8 (by decide) ?_ ?_
  · refine v_iload_n dX8_judgeTerm_13 rfl 2 rfl ?_
    refine v_callSi (As := [.int x2]) cs_X8_84 (S_X9_isTerm hl) rfl rfl (Nat.le_of_ble_eq_true rfl) dX8_judgeTerm_14 (CR_rm (by decide) (by decide) (by decide) (by decide)) (fun r2 w2 => ?_)
    refine v_if_ne (tgt := 23) dX8_judgeTerm_17 (by decide) ?_ ?_
    · refine v_aload_n dX8_judgeTerm_23 rfl 0 rfl ?_
      refine v_getR fl_X8_12 hk.1 rfl dX8_judgeTerm_24 ?_
      refine v_iload_n dX8_judgeTerm_27 rfl 1 rfl ?_
      refine v_iload_n dX8_judgeTerm_28 rfl 2 rfl ?_
      refine v_callVi (As := [.int x1, .int x2]) cv_X8_87 (S_X9_bears hl hk.2.1) hk.2.1.1 rfl rfl rfl (Nat.le_of_ble_eq_true rfl) dX8_judgeTerm_29 (CR_rm (by decide) (by decide) (by decide) (by decide)) (fun r3 w3 => ?_)
      refine v_iload_n dX8_judgeTerm_32 rfl 3 rfl ?_
      refine v_icmp_ne (tgt := 40) dX8_judgeTerm_33 (by decide) ?_ ?_
      · refine v_iconst (v := 5) dX8_judgeTerm_40 (by decide) ?_
        refine v_aload_n dX8_judgeTerm_41 rfl 0 rfl ?_
        refine v_getR fl_X8_12 hk.1 rfl dX8_judgeTerm_42 ?_
        refine v_iload_n dX8_judgeTerm_45 rfl 1 rfl ?_
        refine v_callVi (As := [.int x1]) cv_X8_91 (S_X9_termCountOf hl hk.2.1) hk.2.1.1 rfl rfl rfl (Nat.le_of_ble_eq_true rfl) dX8_judgeTerm_46 (CR_rm (by decide) (by decide) (by decide) (by decide)) (fun r4 w4 => ?_)
        refine v_callSi (As := [.int 5, .int r4]) cs_X8_46 (S_X8_denied hl) rfl rfl (Nat.le_of_ble_eq_true rfl) dX8_judgeTerm_49 (CR_rm (by decide) (by decide) (by decide) (by decide)) (fun r5 w5 => ?_)
        exact v_iret dX8_judgeTerm_52 rfl rfl (by decide) (by decide)
      · refine v_iconst (v := 0) dX8_judgeTerm_36 (by decide) ?_
        refine v_goto (tgt := 52) dX8_judgeTerm_37 (by decide) ?_
        exact v_iret dX8_judgeTerm_52 rfl rfl (by decide) (by decide)
    · refine v_bipush (v := (-2)) dX8_judgeTerm_20 (by decide) ?_
      exact v_iret dX8_judgeTerm_22 rfl rfl (by decide) (by decide)
  · refine v_iconst (v := (-1)) dX8_judgeTerm_11 (by decide) ?_
    exact v_iret dX8_judgeTerm_12 rfl rfl (by decide) (by decide)
theorem S_X8_judgeTerm {g : GC} (hl : g.1.stackTraces = false) {k : Nat} (hk : isX8 k) {x1 : Int32} {x2 : Int32} {x3 : Int32} {w : XW} : ∀ q, f_X8_judgeTerm k x1 x2 x3 w = some q → MM g (.code yX8_judgeTerm cX8_judgeTerm 4 (some .int)) yX8_judgeTerm (rmL 6 0 0) 0 0 [.ref (g.2.1 + k), .int x1, .int x2, .int x3] w (oI q) := fun q hq => MM_of (own := RX8) hl (by decide) gw_566 rfl (Nat.le_of_ble_eq_true rfl) (W_X8_judgeTerm hl hk q hq) ⟨rfl, rfl⟩

theorem dX8_judgeFold_0 : decode cX8_judgeFold 0 = .ok (.iload_n 1, 1) := by decide +kernel
theorem dX8_judgeFold_1 : decode cX8_judgeFold 1 = .ok (.ifCond .lt 14, 3) := by decide +kernel
theorem dX8_judgeFold_4 : decode cX8_judgeFold 4 = .ok (.iload_n 1, 1) := by decide +kernel
theorem dX8_judgeFold_5 : decode cX8_judgeFold 5 = .ok (.aload_n 0, 1) := by decide +kernel
theorem dX8_judgeFold_6 : decode cX8_judgeFold 6 = .ok (.getfield 21, 3) := by decide +kernel
theorem dX8_judgeFold_9 : decode cX8_judgeFold 9 = .ok (.getfield 77, 3) := by decide +kernel
theorem dX8_judgeFold_12 : decode cX8_judgeFold 12 = .ok (.if_icmp .le 5, 3) := by decide +kernel
theorem dX8_judgeFold_15 : decode cX8_judgeFold 15 = .ok (.iconst (-1), 1) := by decide +kernel
theorem dX8_judgeFold_16 : decode cX8_judgeFold 16 = .ok (.ireturn, 1) := by decide +kernel
theorem dX8_judgeFold_17 : decode cX8_judgeFold 17 = .ok (.aload_n 0, 1) := by decide +kernel
theorem dX8_judgeFold_18 : decode cX8_judgeFold 18 = .ok (.getfield 21, 3) := by decide +kernel
theorem dX8_judgeFold_21 : decode cX8_judgeFold 21 = .ok (.getfield 77, 3) := by decide +kernel
theorem dX8_judgeFold_24 : decode cX8_judgeFold 24 = .ok (.aload_n 0, 1) := by decide +kernel
theorem dX8_judgeFold_25 : decode cX8_judgeFold 25 = .ok (.getfield 12, 3) := by decide +kernel
theorem dX8_judgeFold_28 : decode cX8_judgeFold 28 = .ok (.getfield 42, 3) := by decide +kernel
theorem dX8_judgeFold_31 : decode cX8_judgeFold 31 = .ok (.if_icmp .lt 15, 3) := by decide +kernel
theorem dX8_judgeFold_34 : decode cX8_judgeFold 34 = .ok (.iconst 2, 1) := by decide +kernel
theorem dX8_judgeFold_35 : decode cX8_judgeFold 35 = .ok (.aload_n 0, 1) := by decide +kernel
theorem dX8_judgeFold_36 : decode cX8_judgeFold 36 = .ok (.getfield 12, 3) := by decide +kernel
theorem dX8_judgeFold_39 : decode cX8_judgeFold 39 = .ok (.getfield 42, 3) := by decide +kernel
theorem dX8_judgeFold_42 : decode cX8_judgeFold 42 = .ok (.invokestatic 46, 3) := by decide +kernel
theorem dX8_judgeFold_45 : decode cX8_judgeFold 45 = .ok (.ireturn, 1) := by decide +kernel
theorem dX8_judgeFold_46 : decode cX8_judgeFold 46 = .ok (.aload_n 0, 1) := by decide +kernel
theorem dX8_judgeFold_47 : decode cX8_judgeFold 47 = .ok (.getfield 21, 3) := by decide +kernel
theorem dX8_judgeFold_50 : decode cX8_judgeFold 50 = .ok (.iload_n 1, 1) := by decide +kernel
theorem dX8_judgeFold_51 : decode cX8_judgeFold 51 = .ok (.invokevirtual 94, 3) := by decide +kernel
theorem dX8_judgeFold_54 : decode cX8_judgeFold 54 = .ok (.istore_n 2, 1) := by decide +kernel
theorem dX8_judgeFold_55 : decode cX8_judgeFold 55 = .ok (.iload_n 2, 1) := by decide +kernel
theorem dX8_judgeFold_56 : decode cX8_judgeFold 56 = .ok (.iconst (-1), 1) := by decide +kernel
theorem dX8_judgeFold_57 : decode cX8_judgeFold 57 = .ok (.if_icmp .ne 7, 3) := by decide +kernel
theorem dX8_judgeFold_60 : decode cX8_judgeFold 60 = .ok (.iconst 0, 1) := by decide +kernel
theorem dX8_judgeFold_61 : decode cX8_judgeFold 61 = .ok (.goto 8, 3) := by decide +kernel
theorem dX8_judgeFold_64 : decode cX8_judgeFold 64 = .ok (.iconst 4, 1) := by decide +kernel
theorem dX8_judgeFold_65 : decode cX8_judgeFold 65 = .ok (.iload_n 2, 1) := by decide +kernel
theorem dX8_judgeFold_66 : decode cX8_judgeFold 66 = .ok (.invokestatic 46, 3) := by decide +kernel
theorem dX8_judgeFold_69 : decode cX8_judgeFold 69 = .ok (.ireturn, 1) := by decide +kernel
def f_X8_judgeFold (k : Nat) (x1 : Int32) (w : XW) : Option (Int32 × XW) := (if x1 < 0 then (some ((-1), w)) else (if x1 ≤ (w.1 (k + 4) 0) then (if (w.1 (k + 4) 0) < (w.1 (k + 1) 0) then (bI (f_X4_creaseCrossedAt (k + 4) x1 w) (fun r1 w1 => (if r1 = (-1) then (some (0, w1)) else (bI (f_X8_denied 4 r1 w1) (fun r2 w2 => (some (r2, w2))))))) else (bI (f_X8_denied 2 (w.1 (k + 1) 0) w) (fun r3 w3 => (some (r3, w3))))) else (some ((-1), w))))
set_option maxRecDepth 100000 in
theorem W_X8_judgeFold {g : GC} (hl : g.1.stackTraces = false) {k : Nat} (hk : isX8 k) {x1 : Int32} {w : XW} : VE g cX8_judgeFold 3 RX8 (some .int) [] (rmL 6 0 0) 0 0 oI 0 0 0 [(0, .ref (g.2.1 + k)), (1, .int x1)] [] w (f_X8_judgeFold k x1 w) := by
  unfold f_X8_judgeFold
  refine v_iload_n dX8_judgeFold_0 rfl 1 rfl ?_
  refine v_if_lt (tgt := 15) dX8_judgeFold_1 (by decide) ?_ ?_
  · refine v_iconst (v := (-1)) dX8_judgeFold_15 (by decide) ?_
    exact v_iret dX8_judgeFold_16 rfl rfl (by decide) (by decide)
  · refine v_iload_n dX8_judgeFold_4 rfl 1 rfl ?_
    refine v_aload_n dX8_judgeFold_5 rfl 0 rfl ?_
    refine v_getR fl_X8_21 hk.1 rfl dX8_judgeFold_6 ?_
    refine v_getI fl_X8_77 hk.2.2.1.1 rfl dX8_judgeFold_9 ?_
    refine v_icmp_le (tgt := 17) dX8_judgeFold_12 (by decide) ?_ ?_
    · refine v_aload_n dX8_judgeFold_17 rfl 0 rfl ?_
      refine v_getR fl_X8_21 hk.1 rfl dX8_judgeFold_18 ?_
      refine v_getI fl_X8_77 hk.2.2.1.1 rfl dX8_judgeFold_21 ?_
      refine v_aload_n dX8_judgeFold_24 rfl 0 rfl ?_
      refine v_getR fl_X8_12 hk.1 rfl dX8_judgeFold_25 ?_
      refine v_getI fl_X8_42 hk.2.1.1 rfl dX8_judgeFold_28 ?_
      refine v_icmp_lt (tgt := 46) dX8_judgeFold_31 (by decide) ?_ ?_
      · refine v_aload_n dX8_judgeFold_46 rfl 0 rfl ?_
        refine v_getR fl_X8_21 hk.1 rfl dX8_judgeFold_47 ?_
        refine v_iload_n dX8_judgeFold_50 rfl 1 rfl ?_
        refine v_callVi (As := [.int x1]) cv_X8_94 (S_X4_creaseCrossedAt hl hk.2.2.1) hk.2.2.1.1 rfl rfl rfl (Nat.le_of_ble_eq_true rfl) dX8_judgeFold_51 (CR_rm (by decide) (by decide) (by decide) (by decide)) (fun r1 w1 => ?_)
        refine v_istore_n dX8_judgeFold_54 rfl (Nat.le_of_ble_eq_true rfl) rfl ?_
        refine v_iload_n dX8_judgeFold_55 rfl 0 rfl ?_
        refine v_iconst (v := (-1)) dX8_judgeFold_56 (by decide) ?_
        refine v_icmp_ne (tgt := 64) dX8_judgeFold_57 (by decide) ?_ ?_
        · refine v_iconst (v := 4) dX8_judgeFold_64 (by decide) ?_
          refine v_iload_n dX8_judgeFold_65 rfl 0 rfl ?_
          refine v_callSi (As := [.int 4, .int r1]) cs_X8_46 (S_X8_denied hl) rfl rfl (Nat.le_of_ble_eq_true rfl) dX8_judgeFold_66 (CR_rm (by decide) (by decide) (by decide) (by decide)) (fun r2 w2 => ?_)
          exact v_iret dX8_judgeFold_69 rfl rfl (by decide) (by decide)
        · refine v_iconst (v := 0) dX8_judgeFold_60 (by decide) ?_
          refine v_goto (tgt := 69) dX8_judgeFold_61 (by decide) ?_
          exact v_iret dX8_judgeFold_69 rfl rfl (by decide) (by decide)
      · refine v_iconst (v := 2) dX8_judgeFold_34 (by decide) ?_
        refine v_aload_n dX8_judgeFold_35 rfl 0 rfl ?_
        refine v_getR fl_X8_12 hk.1 rfl dX8_judgeFold_36 ?_
        refine v_getI fl_X8_42 hk.2.1.1 rfl dX8_judgeFold_39 ?_
        refine v_callSi (As := [.int 2, .int (w.1 (k + 1) 0)]) cs_X8_46 (S_X8_denied hl) rfl rfl (Nat.le_of_ble_eq_true rfl) dX8_judgeFold_42 (CR_rm (by decide) (by decide) (by decide) (by decide)) (fun r3 w3 => ?_)
        exact v_iret dX8_judgeFold_45 rfl rfl (by decide) (by decide)
    · refine v_iconst (v := (-1)) dX8_judgeFold_15 (by decide) ?_
      exact v_iret dX8_judgeFold_16 rfl rfl (by decide) (by decide)
theorem S_X8_judgeFold {g : GC} (hl : g.1.stackTraces = false) {k : Nat} (hk : isX8 k) {x1 : Int32} {w : XW} : ∀ q, f_X8_judgeFold k x1 w = some q → MM g (.code yX8_judgeFold cX8_judgeFold 3 (some .int)) yX8_judgeFold (rmL 6 0 0) 0 0 [.ref (g.2.1 + k), .int x1] w (oI q) := fun q hq => MM_of (own := RX8) hl (by decide) gw_591 rfl (Nat.le_of_ble_eq_true rfl) (W_X8_judgeFold hl hk q hq) ⟨rfl, rfl⟩

theorem dX8_judgePipe_0 : decode cX8_judgePipe 0 = .ok (.aload_n 0, 1) := by decide +kernel
theorem dX8_judgePipe_1 : decode cX8_judgePipe 1 = .ok (.getfield 12, 3) := by decide +kernel
theorem dX8_judgePipe_4 : decode cX8_judgePipe 4 = .ok (.iload_n 1, 1) := by decide +kernel
theorem dX8_judgePipe_5 : decode cX8_judgePipe 5 = .ok (.invokevirtual 80, 3) := by decide +kernel
theorem dX8_judgePipe_8 : decode cX8_judgePipe 8 = .ok (.ifCond .eq 14, 3) := by decide +kernel
theorem dX8_judgePipe_11 : decode cX8_judgePipe 11 = .ok (.aload_n 0, 1) := by decide +kernel
theorem dX8_judgePipe_12 : decode cX8_judgePipe 12 = .ok (.getfield 12, 3) := by decide +kernel
theorem dX8_judgePipe_15 : decode cX8_judgePipe 15 = .ok (.iload_n 2, 1) := by decide +kernel
theorem dX8_judgePipe_16 : decode cX8_judgePipe 16 = .ok (.invokevirtual 80, 3) := by decide +kernel
theorem dX8_judgePipe_19 : decode cX8_judgePipe 19 = .ok (.ifCond .ne 5, 3) := by decide +kernel
theorem dX8_judgePipe_22 : decode cX8_judgePipe 22 = .ok (.iconst (-1), 1) := by decide +kernel
theorem dX8_judgePipe_23 : decode cX8_judgePipe 23 = .ok (.ireturn, 1) := by decide +kernel
theorem dX8_judgePipe_24 : decode cX8_judgePipe 24 = .ok (.iload_n 1, 1) := by decide +kernel
theorem dX8_judgePipe_25 : decode cX8_judgePipe 25 = .ok (.iload_n 2, 1) := by decide +kernel
theorem dX8_judgePipe_26 : decode cX8_judgePipe 26 = .ok (.if_icmp .eq 14, 3) := by decide +kernel
theorem dX8_judgePipe_29 : decode cX8_judgePipe 29 = .ok (.iload_n 3, 1) := by decide +kernel
theorem dX8_judgePipe_30 : decode cX8_judgePipe 30 = .ok (.iconst 1, 1) := by decide +kernel
theorem dX8_judgePipe_31 : decode cX8_judgePipe 31 = .ok (.if_icmp .lt 9, 3) := by decide +kernel
theorem dX8_judgePipe_34 : decode cX8_judgePipe 34 = .ok (.iload_n 3, 1) := by decide +kernel
theorem dX8_judgePipe_35 : decode cX8_judgePipe 35 = .ok (.bipush 20, 2) := by decide +kernel
theorem dX8_judgePipe_37 : decode cX8_judgePipe 37 = .ok (.if_icmp .le 6, 3) := by decide +kernel
theorem dX8_judgePipe_40 : decode cX8_judgePipe 40 = .ok (.bipush (-2), 2) := by decide +kernel
theorem dX8_judgePipe_42 : decode cX8_judgePipe 42 = .ok (.ireturn, 1) := by decide +kernel
theorem dX8_judgePipe_43 : decode cX8_judgePipe 43 = .ok (.aload_n 0, 1) := by decide +kernel
theorem dX8_judgePipe_44 : decode cX8_judgePipe 44 = .ok (.getfield 28, 3) := by decide +kernel
theorem dX8_judgePipe_47 : decode cX8_judgePipe 47 = .ok (.getfield 97, 3) := by decide +kernel
theorem dX8_judgePipe_50 : decode cX8_judgePipe 50 = .ok (.bipush 10, 2) := by decide +kernel
theorem dX8_judgePipe_52 : decode cX8_judgePipe 52 = .ok (.if_icmp .ge 7, 3) := by decide +kernel
theorem dX8_judgePipe_55 : decode cX8_judgePipe 55 = .ok (.iconst 0, 1) := by decide +kernel
theorem dX8_judgePipe_56 : decode cX8_judgePipe 56 = .ok (.goto 9, 3) := by decide +kernel
theorem dX8_judgePipe_59 : decode cX8_judgePipe 59 = .ok (.iconst 1, 1) := by decide +kernel
theorem dX8_judgePipe_60 : decode cX8_judgePipe 60 = .ok (.bipush 10, 2) := by decide +kernel
theorem dX8_judgePipe_62 : decode cX8_judgePipe 62 = .ok (.invokestatic 46, 3) := by decide +kernel
theorem dX8_judgePipe_65 : decode cX8_judgePipe 65 = .ok (.ireturn, 1) := by decide +kernel
def f_X8_judgePipe (k : Nat) (x1 : Int32) (x2 : Int32) (x3 : Int32) (w : XW) : Option (Int32 × XW) := (bI (f_X9_has (k + 1) x1 w) (fun r1 w1 => (if r1 = 0 then (some ((-1), w1)) else (bI (f_X9_has (k + 1) x2 w1) (fun r2 w2 => (if r2 = 0 then (some ((-1), w2)) else (if x1 = x2 then (some ((-2), w2)) else (if x3 < 1 then (some ((-2), w2)) else (if x3 ≤ 20 then (if 10 ≤ (w2.1 (k + 6) 0) then (bI (f_X8_denied 1 10 w2) (fun r3 w3 => (some (r3, w3)))) else (some (0, w2))) else (some ((-2), w2)))))))))))
set_option maxRecDepth 100000 in
theorem W_X8_judgePipe {g : GC} (hl : g.1.stackTraces = false) {k : Nat} (hk : isX8 k) {x1 : Int32} {x2 : Int32} {x3 : Int32} {w : XW} : VE g cX8_judgePipe 4 RX8 (some .int) [] (rmL 4 0 0) 0 0 oI 0 0 0 [(0, .ref (g.2.1 + k)), (1, .int x1), (2, .int x2), (3, .int x3)] [] w (f_X8_judgePipe k x1 x2 x3 w) := by
  unfold f_X8_judgePipe
  refine v_aload_n dX8_judgePipe_0 rfl 0 rfl ?_
  refine v_getR fl_X8_12 hk.1 rfl dX8_judgePipe_1 ?_
  refine v_iload_n dX8_judgePipe_4 rfl 1 rfl ?_
  refine v_callVi (As := [.int x1]) cv_X8_80 (S_X9_has hl hk.2.1) hk.2.1.1 rfl rfl rfl (Nat.le_of_ble_eq_true rfl) dX8_judgePipe_5 (CR_rm (by decide) (by decide) (by decide) (by decide)) (fun r1 w1 => ?_)
  refine v_if_eq (tgt := 22) dX8_judgePipe_8 (by decide) ?_ ?_
  · refine v_iconst (v := (-1)) dX8_judgePipe_22 (by decide) ?_
    exact v_iret dX8_judgePipe_23 rfl rfl (by decide) (by decide)
  · refine v_aload_n dX8_judgePipe_11 rfl 0 rfl ?_
    refine v_getR fl_X8_12 hk.1 rfl dX8_judgePipe_12 ?_
    refine v_iload_n dX8_judgePipe_15 rfl 2 rfl ?_
    refine v_callVi (As := [.int x2]) cv_X8_80 (S_X9_has hl hk.2.1) hk.2.1.1 rfl rfl rfl (Nat.le_of_ble_eq_true rfl) dX8_judgePipe_16 (CR_rm (by decide) (by decide) (by decide) (by decide)) (fun r2 w2 => ?_)
    refine v_if_ne (tgt := 24) dX8_judgePipe_19 (by decide) ?_ ?_
    · refine v_iload_n dX8_judgePipe_24 rfl 1 rfl ?_
      refine v_iload_n dX8_judgePipe_25 rfl 2 rfl ?_
      refine v_icmp_eq (tgt := 40) dX8_judgePipe_26 (by decide) ?_ ?_
      · refine v_bipush (v := (-2)) dX8_judgePipe_40 (by decide) ?_
        exact v_iret dX8_judgePipe_42 rfl rfl (by decide) (by decide)
      · refine v_iload_n dX8_judgePipe_29 rfl 3 rfl ?_
        refine v_iconst (v := 1) dX8_judgePipe_30 (by decide) ?_
        refine v_icmp_lt (tgt := 40) dX8_judgePipe_31 (by decide) ?_ ?_
        · refine v_bipush (v := (-2)) dX8_judgePipe_40 (by decide) ?_
          exact v_iret dX8_judgePipe_42 rfl rfl (by decide) (by decide)
        · refine v_iload_n dX8_judgePipe_34 rfl 3 rfl ?_
          refine v_bipush (v := 20) dX8_judgePipe_35 (by decide) ?_
          refine v_icmp_le (tgt := 43) dX8_judgePipe_37 (by decide) ?_ ?_
          · refine v_aload_n dX8_judgePipe_43 rfl 0 rfl ?_
            refine v_getR fl_X8_28 hk.1 rfl dX8_judgePipe_44 ?_
            refine v_getI fl_X8_97 hk.2.2.2.1 rfl dX8_judgePipe_47 ?_
            refine v_bipush (v := 10) dX8_judgePipe_50 (by decide) ?_
            refine v_icmp_ge (tgt := 59) dX8_judgePipe_52 (by decide) ?_ ?_
            · refine v_iconst (v := 1) dX8_judgePipe_59 (by decide) ?_
              refine v_bipush (v := 10) dX8_judgePipe_60 (by decide) ?_
              refine v_callSi (As := [.int 1, .int 10]) cs_X8_46 (S_X8_denied hl) rfl rfl (Nat.le_of_ble_eq_true rfl) dX8_judgePipe_62 (CR_rm (by decide) (by decide) (by decide) (by decide)) (fun r3 w3 => ?_)
              exact v_iret dX8_judgePipe_65 rfl rfl (by decide) (by decide)
            · refine v_iconst (v := 0) dX8_judgePipe_55 (by decide) ?_
              refine v_goto (tgt := 65) dX8_judgePipe_56 (by decide) ?_
              exact v_iret dX8_judgePipe_65 rfl rfl (by decide) (by decide)
          · refine v_bipush (v := (-2)) dX8_judgePipe_40 (by decide) ?_
            exact v_iret dX8_judgePipe_42 rfl rfl (by decide) (by decide)
    · refine v_iconst (v := (-1)) dX8_judgePipe_22 (by decide) ?_
      exact v_iret dX8_judgePipe_23 rfl rfl (by decide) (by decide)
theorem S_X8_judgePipe {g : GC} (hl : g.1.stackTraces = false) {k : Nat} (hk : isX8 k) {x1 : Int32} {x2 : Int32} {x3 : Int32} {w : XW} : ∀ q, f_X8_judgePipe k x1 x2 x3 w = some q → MM g (.code yX8_judgePipe cX8_judgePipe 4 (some .int)) yX8_judgePipe (rmL 4 0 0) 0 0 [.ref (g.2.1 + k), .int x1, .int x2, .int x3] w (oI q) := fun q hq => MM_of (own := RX8) hl (by decide) gw_596 rfl (Nat.le_of_ble_eq_true rfl) (W_X8_judgePipe hl hk q hq) ⟨rfl, rfl⟩

theorem dX8_judgeBroken_0 : decode cX8_judgeBroken 0 = .ok (.aload_n 0, 1) := by decide +kernel
theorem dX8_judgeBroken_1 : decode cX8_judgeBroken 1 = .ok (.getfield 28, 3) := by decide +kernel
theorem dX8_judgeBroken_4 : decode cX8_judgeBroken 4 = .ok (.iload_n 1, 1) := by decide +kernel
theorem dX8_judgeBroken_5 : decode cX8_judgeBroken 5 = .ok (.invokevirtual 65, 3) := by decide +kernel
theorem dX8_judgeBroken_8 : decode cX8_judgeBroken 8 = .ok (.ifCond .ne 5, 3) := by decide +kernel
theorem dX8_judgeBroken_11 : decode cX8_judgeBroken 11 = .ok (.iconst (-1), 1) := by decide +kernel
theorem dX8_judgeBroken_12 : decode cX8_judgeBroken 12 = .ok (.ireturn, 1) := by decide +kernel
theorem dX8_judgeBroken_13 : decode cX8_judgeBroken 13 = .ok (.aload_n 0, 1) := by decide +kernel
theorem dX8_judgeBroken_14 : decode cX8_judgeBroken 14 = .ok (.getfield 28, 3) := by decide +kernel
theorem dX8_judgeBroken_17 : decode cX8_judgeBroken 17 = .ok (.iload_n 1, 1) := by decide +kernel
theorem dX8_judgeBroken_18 : decode cX8_judgeBroken 18 = .ok (.invokevirtual 98, 3) := by decide +kernel
theorem dX8_judgeBroken_21 : decode cX8_judgeBroken 21 = .ok (.iload_n 2, 1) := by decide +kernel
theorem dX8_judgeBroken_22 : decode cX8_judgeBroken 22 = .ok (.if_icmp .ne 7, 3) := by decide +kernel
theorem dX8_judgeBroken_25 : decode cX8_judgeBroken 25 = .ok (.iconst 0, 1) := by decide +kernel
theorem dX8_judgeBroken_26 : decode cX8_judgeBroken 26 = .ok (.goto 16, 3) := by decide +kernel
theorem dX8_judgeBroken_29 : decode cX8_judgeBroken 29 = .ok (.bipush 6, 2) := by decide +kernel
theorem dX8_judgeBroken_31 : decode cX8_judgeBroken 31 = .ok (.aload_n 0, 1) := by decide +kernel
theorem dX8_judgeBroken_32 : decode cX8_judgeBroken 32 = .ok (.getfield 28, 3) := by decide +kernel
theorem dX8_judgeBroken_35 : decode cX8_judgeBroken 35 = .ok (.iload_n 1, 1) := by decide +kernel
theorem dX8_judgeBroken_36 : decode cX8_judgeBroken 36 = .ok (.invokevirtual 101, 3) := by decide +kernel
theorem dX8_judgeBroken_39 : decode cX8_judgeBroken 39 = .ok (.invokestatic 46, 3) := by decide +kernel
theorem dX8_judgeBroken_42 : decode cX8_judgeBroken 42 = .ok (.ireturn, 1) := by decide +kernel
def f_X8_judgeBroken (k : Nat) (x1 : Int32) (x2 : Int32) (w : XW) : Option (Int32 × XW) := (bI (f_X5_has (k + 6) x1 w) (fun r1 w1 => (if r1 = 0 then (some ((-1), w1)) else (bI (f_X5_brokenAt (k + 6) x1 w1) (fun r2 w2 => (if r2 = x2 then (some (0, w2)) else (bI (f_X5_widthOf (k + 6) x1 w2) (fun r3 w3 => (bI (f_X8_denied 6 r3 w3) (fun r4 w4 => (some (r4, w4))))))))))))
set_option maxRecDepth 100000 in
theorem W_X8_judgeBroken {g : GC} (hl : g.1.stackTraces = false) {k : Nat} (hk : isX8 k) {x1 : Int32} {x2 : Int32} {w : XW} : VE g cX8_judgeBroken 3 RX8 (some .int) [] (rmL 5 0 0) 0 0 oI 0 0 0 [(0, .ref (g.2.1 + k)), (1, .int x1), (2, .int x2)] [] w (f_X8_judgeBroken k x1 x2 w) := by
  unfold f_X8_judgeBroken
  refine v_aload_n dX8_judgeBroken_0 rfl 0 rfl ?_
  refine v_getR fl_X8_28 hk.1 rfl dX8_judgeBroken_1 ?_
  refine v_iload_n dX8_judgeBroken_4 rfl 1 rfl ?_
  refine v_callVi (As := [.int x1]) cv_X8_65 (S_X5_has hl hk.2.2.2) hk.2.2.2.1 rfl rfl rfl (Nat.le_of_ble_eq_true rfl) dX8_judgeBroken_5 (CR_rm (by decide) (by decide) (by decide) (by decide)) (fun r1 w1 => ?_)
  refine v_if_ne (tgt := 13) dX8_judgeBroken_8 (by decide) ?_ ?_
  · refine v_aload_n dX8_judgeBroken_13 rfl 0 rfl ?_
    refine v_getR fl_X8_28 hk.1 rfl dX8_judgeBroken_14 ?_
    refine v_iload_n dX8_judgeBroken_17 rfl 1 rfl ?_
    refine v_callVi (As := [.int x1]) cv_X8_98 (S_X5_brokenAt hl hk.2.2.2) hk.2.2.2.1 rfl rfl rfl (Nat.le_of_ble_eq_true rfl) dX8_judgeBroken_18 (CR_rm (by decide) (by decide) (by decide) (by decide)) (fun r2 w2 => ?_)
    refine v_iload_n dX8_judgeBroken_21 rfl 2 rfl ?_
    refine v_icmp_ne (tgt := 29) dX8_judgeBroken_22 (by decide) ?_ ?_
    · refine v_bipush (v := 6) dX8_judgeBroken_29 (by decide) ?_
      refine v_aload_n dX8_judgeBroken_31 rfl 0 rfl ?_
      refine v_getR fl_X8_28 hk.1 rfl dX8_judgeBroken_32 ?_
      refine v_iload_n dX8_judgeBroken_35 rfl 1 rfl ?_
      refine v_callVi (As := [.int x1]) cv_X8_101 (S_X5_widthOf hl hk.2.2.2) hk.2.2.2.1 rfl rfl rfl (Nat.le_of_ble_eq_true rfl) dX8_judgeBroken_36 (CR_rm (by decide) (by decide) (by decide) (by decide)) (fun r3 w3 => ?_)
      refine v_callSi (As := [.int 6, .int r3]) cs_X8_46 (S_X8_denied hl) rfl rfl (Nat.le_of_ble_eq_true rfl) dX8_judgeBroken_39 (CR_rm (by decide) (by decide) (by decide) (by decide)) (fun r4 w4 => ?_)
      exact v_iret dX8_judgeBroken_42 rfl rfl (by decide) (by decide)
    · refine v_iconst (v := 0) dX8_judgeBroken_25 (by decide) ?_
      refine v_goto (tgt := 42) dX8_judgeBroken_26 (by decide) ?_
      exact v_iret dX8_judgeBroken_42 rfl rfl (by decide) (by decide)
  · refine v_iconst (v := (-1)) dX8_judgeBroken_11 (by decide) ?_
    exact v_iret dX8_judgeBroken_12 rfl rfl (by decide) (by decide)
theorem S_X8_judgeBroken {g : GC} (hl : g.1.stackTraces = false) {k : Nat} (hk : isX8 k) {x1 : Int32} {x2 : Int32} {w : XW} : ∀ q, f_X8_judgeBroken k x1 x2 w = some q → MM g (.code yX8_judgeBroken cX8_judgeBroken 3 (some .int)) yX8_judgeBroken (rmL 5 0 0) 0 0 [.ref (g.2.1 + k), .int x1, .int x2] w (oI q) := fun q hq => MM_of (own := RX8) hl (by decide) gw_604 rfl (Nat.le_of_ble_eq_true rfl) (W_X8_judgeBroken hl hk q hq) ⟨rfl, rfl⟩

theorem dX8_judgeEnds_0 : decode cX8_judgeEnds 0 = .ok (.aload_n 0, 1) := by decide +kernel
theorem dX8_judgeEnds_1 : decode cX8_judgeEnds 1 = .ok (.getfield 12, 3) := by decide +kernel
theorem dX8_judgeEnds_4 : decode cX8_judgeEnds 4 = .ok (.getfield 42, 3) := by decide +kernel
theorem dX8_judgeEnds_7 : decode cX8_judgeEnds 7 = .ok (.iconst 2, 1) := by decide +kernel
theorem dX8_judgeEnds_8 : decode cX8_judgeEnds 8 = .ok (.if_icmp .lt 7, 3) := by decide +kernel
theorem dX8_judgeEnds_11 : decode cX8_judgeEnds 11 = .ok (.iconst 0, 1) := by decide +kernel
theorem dX8_judgeEnds_12 : decode cX8_judgeEnds 12 = .ok (.goto 15, 3) := by decide +kernel
theorem dX8_judgeEnds_15 : decode cX8_judgeEnds 15 = .ok (.bipush 7, 2) := by decide +kernel
theorem dX8_judgeEnds_17 : decode cX8_judgeEnds 17 = .ok (.aload_n 0, 1) := by decide +kernel
theorem dX8_judgeEnds_18 : decode cX8_judgeEnds 18 = .ok (.getfield 12, 3) := by decide +kernel
theorem dX8_judgeEnds_21 : decode cX8_judgeEnds 21 = .ok (.getfield 42, 3) := by decide +kernel
theorem dX8_judgeEnds_24 : decode cX8_judgeEnds 24 = .ok (.invokestatic 46, 3) := by decide +kernel
theorem dX8_judgeEnds_27 : decode cX8_judgeEnds 27 = .ok (.ireturn, 1) := by decide +kernel
def f_X8_judgeEnds (k : Nat) (w : XW) : Option (Int32 × XW) := (if (w.1 (k + 1) 0) < 2 then (bI (f_X8_denied 7 (w.1 (k + 1) 0) w) (fun r1 w1 => (some (r1, w1)))) else (some (0, w)))
set_option maxRecDepth 100000 in
theorem W_X8_judgeEnds {g : GC} (hl : g.1.stackTraces = false) {k : Nat} (hk : isX8 k) {w : XW} : VE g cX8_judgeEnds 1 RX8 (some .int) [] (rmL 4 0 0) 0 0 oI 0 0 0 [(0, .ref (g.2.1 + k))] [] w (f_X8_judgeEnds k w) := by
  unfold f_X8_judgeEnds
  refine v_aload_n dX8_judgeEnds_0 rfl 0 rfl ?_
  refine v_getR fl_X8_12 hk.1 rfl dX8_judgeEnds_1 ?_
  refine v_getI fl_X8_42 hk.2.1.1 rfl dX8_judgeEnds_4 ?_
  refine v_iconst (v := 2) dX8_judgeEnds_7 (by decide) ?_
  refine v_icmp_lt (tgt := 15) dX8_judgeEnds_8 (by decide) ?_ ?_
  · refine v_bipush (v := 7) dX8_judgeEnds_15 (by decide) ?_
    refine v_aload_n dX8_judgeEnds_17 rfl 0 rfl ?_
    refine v_getR fl_X8_12 hk.1 rfl dX8_judgeEnds_18 ?_
    refine v_getI fl_X8_42 hk.2.1.1 rfl dX8_judgeEnds_21 ?_
    refine v_callSi (As := [.int 7, .int (w.1 (k + 1) 0)]) cs_X8_46 (S_X8_denied hl) rfl rfl (Nat.le_of_ble_eq_true rfl) dX8_judgeEnds_24 (CR_rm (by decide) (by decide) (by decide) (by decide)) (fun r1 w1 => ?_)
    exact v_iret dX8_judgeEnds_27 rfl rfl (by decide) (by decide)
  · refine v_iconst (v := 0) dX8_judgeEnds_11 (by decide) ?_
    refine v_goto (tgt := 27) dX8_judgeEnds_12 (by decide) ?_
    exact v_iret dX8_judgeEnds_27 rfl rfl (by decide) (by decide)
theorem S_X8_judgeEnds {g : GC} (hl : g.1.stackTraces = false) {k : Nat} (hk : isX8 k) {w : XW} : ∀ q, f_X8_judgeEnds k w = some q → MM g (.code yX8_judgeEnds cX8_judgeEnds 1 (some .int)) yX8_judgeEnds (rmL 4 0 0) 0 0 [.ref (g.2.1 + k)] w (oI q) := fun q hq => MM_of (own := RX8) hl (by decide) gw_617 rfl (Nat.le_of_ble_eq_true rfl) (W_X8_judgeEnds hl hk q hq) ⟨rfl, rfl⟩

theorem dX8_judge_0 : decode cX8_judge 0 = .ok (.iload_n 1, 1) := by decide +kernel
theorem dX8_judge_1 : decode cX8_judge 1 = .ok (.tableswitch 186 0 11 #[63, 86, 93, 101, 109, 160, 115, 124, 141, 148, 155, 160], 63) := by decide +kernel
theorem dX8_judge_64 : decode cX8_judge 64 = .ok (.aload_n 0, 1) := by decide +kernel
theorem dX8_judge_65 : decode cX8_judge 65 = .ok (.getfield 12, 3) := by decide +kernel
theorem dX8_judge_68 : decode cX8_judge 68 = .ok (.getfield 42, 3) := by decide +kernel
theorem dX8_judge_71 : decode cX8_judge 71 = .ok (.bipush 7, 2) := by decide +kernel
theorem dX8_judge_73 : decode cX8_judge 73 = .ok (.if_icmp .ge 7, 3) := by decide +kernel
theorem dX8_judge_76 : decode cX8_judge 76 = .ok (.iconst 0, 1) := by decide +kernel
theorem dX8_judge_77 : decode cX8_judge 77 = .ok (.goto 9, 3) := by decide +kernel
theorem dX8_judge_80 : decode cX8_judge 80 = .ok (.iconst 1, 1) := by decide +kernel
theorem dX8_judge_81 : decode cX8_judge 81 = .ok (.bipush 7, 2) := by decide +kernel
theorem dX8_judge_83 : decode cX8_judge 83 = .ok (.invokestatic 46, 3) := by decide +kernel
theorem dX8_judge_86 : decode cX8_judge 86 = .ok (.ireturn, 1) := by decide +kernel
theorem dX8_judge_87 : decode cX8_judge 87 = .ok (.aload_n 0, 1) := by decide +kernel
theorem dX8_judge_88 : decode cX8_judge 88 = .ok (.iload_n 2, 1) := by decide +kernel
theorem dX8_judge_89 : decode cX8_judge 89 = .ok (.iload_n 3, 1) := by decide +kernel
theorem dX8_judge_90 : decode cX8_judge 90 = .ok (.invokevirtual 50, 3) := by decide +kernel
theorem dX8_judge_93 : decode cX8_judge 93 = .ok (.ireturn, 1) := by decide +kernel
theorem dX8_judge_94 : decode cX8_judge 94 = .ok (.aload_n 0, 1) := by decide +kernel
theorem dX8_judge_95 : decode cX8_judge 95 = .ok (.iload_n 2, 1) := by decide +kernel
theorem dX8_judge_96 : decode cX8_judge 96 = .ok (.iload_n 3, 1) := by decide +kernel
theorem dX8_judge_97 : decode cX8_judge 97 = .ok (.iconst 0, 1) := by decide +kernel
theorem dX8_judge_98 : decode cX8_judge 98 = .ok (.invokevirtual 53, 3) := by decide +kernel
theorem dX8_judge_101 : decode cX8_judge 101 = .ok (.ireturn, 1) := by decide +kernel
theorem dX8_judge_102 : decode cX8_judge 102 = .ok (.aload_n 0, 1) := by decide +kernel
theorem dX8_judge_103 : decode cX8_judge 103 = .ok (.iload_n 2, 1) := by decide +kernel
theorem dX8_judge_104 : decode cX8_judge 104 = .ok (.iload_n 3, 1) := by decide +kernel
theorem dX8_judge_105 : decode cX8_judge 105 = .ok (.iconst 1, 1) := by decide +kernel
theorem dX8_judge_106 : decode cX8_judge 106 = .ok (.invokevirtual 53, 3) := by decide +kernel
theorem dX8_judge_109 : decode cX8_judge 109 = .ok (.ireturn, 1) := by decide +kernel
theorem dX8_judge_110 : decode cX8_judge 110 = .ok (.aload_n 0, 1) := by decide +kernel
theorem dX8_judge_111 : decode cX8_judge 111 = .ok (.iload_n 2, 1) := by decide +kernel
theorem dX8_judge_112 : decode cX8_judge 112 = .ok (.invokevirtual 57, 3) := by decide +kernel
theorem dX8_judge_115 : decode cX8_judge 115 = .ok (.ireturn, 1) := by decide +kernel
theorem dX8_judge_116 : decode cX8_judge 116 = .ok (.aload_n 0, 1) := by decide +kernel
theorem dX8_judge_117 : decode cX8_judge 117 = .ok (.iload_n 2, 1) := by decide +kernel
theorem dX8_judge_118 : decode cX8_judge 118 = .ok (.iload_n 3, 1) := by decide +kernel
theorem dX8_judge_119 : decode cX8_judge 119 = .ok (.iload 4, 2) := by decide +kernel
theorem dX8_judge_121 : decode cX8_judge 121 = .ok (.invokevirtual 61, 3) := by decide +kernel
theorem dX8_judge_124 : decode cX8_judge 124 = .ok (.ireturn, 1) := by decide +kernel
theorem dX8_judge_125 : decode cX8_judge 125 = .ok (.aload_n 0, 1) := by decide +kernel
theorem dX8_judge_126 : decode cX8_judge 126 = .ok (.getfield 28, 3) := by decide +kernel
theorem dX8_judge_129 : decode cX8_judge 129 = .ok (.iload_n 2, 1) := by decide +kernel
theorem dX8_judge_130 : decode cX8_judge 130 = .ok (.invokevirtual 65, 3) := by decide +kernel
theorem dX8_judge_133 : decode cX8_judge 133 = .ok (.ifCond .eq 7, 3) := by decide +kernel
theorem dX8_judge_136 : decode cX8_judge 136 = .ok (.iconst 0, 1) := by decide +kernel
theorem dX8_judge_137 : decode cX8_judge 137 = .ok (.goto 4, 3) := by decide +kernel
theorem dX8_judge_140 : decode cX8_judge 140 = .ok (.iconst (-1), 1) := by decide +kernel
theorem dX8_judge_141 : decode cX8_judge 141 = .ok (.ireturn, 1) := by decide +kernel
theorem dX8_judge_142 : decode cX8_judge 142 = .ok (.aload_n 0, 1) := by decide +kernel
theorem dX8_judge_143 : decode cX8_judge 143 = .ok (.iload_n 2, 1) := by decide +kernel
theorem dX8_judge_144 : decode cX8_judge 144 = .ok (.iconst 0, 1) := by decide +kernel
theorem dX8_judge_145 : decode cX8_judge 145 = .ok (.invokevirtual 69, 3) := by decide +kernel
theorem dX8_judge_148 : decode cX8_judge 148 = .ok (.ireturn, 1) := by decide +kernel
theorem dX8_judge_149 : decode cX8_judge 149 = .ok (.aload_n 0, 1) := by decide +kernel
theorem dX8_judge_150 : decode cX8_judge 150 = .ok (.iload_n 2, 1) := by decide +kernel
theorem dX8_judge_151 : decode cX8_judge 151 = .ok (.iconst 1, 1) := by decide +kernel
theorem dX8_judge_152 : decode cX8_judge 152 = .ok (.invokevirtual 69, 3) := by decide +kernel
theorem dX8_judge_155 : decode cX8_judge 155 = .ok (.ireturn, 1) := by decide +kernel
theorem dX8_judge_156 : decode cX8_judge 156 = .ok (.aload_n 0, 1) := by decide +kernel
theorem dX8_judge_157 : decode cX8_judge 157 = .ok (.invokevirtual 73, 3) := by decide +kernel
theorem dX8_judge_160 : decode cX8_judge 160 = .ok (.ireturn, 1) := by decide +kernel
theorem dX8_judge_161 : decode cX8_judge 161 = .ok (.aload_n 0, 1) := by decide +kernel
theorem dX8_judge_162 : decode cX8_judge 162 = .ok (.getfield 21, 3) := by decide +kernel
theorem dX8_judge_165 : decode cX8_judge 165 = .ok (.getfield 77, 3) := by decide +kernel
theorem dX8_judge_168 : decode cX8_judge 168 = .ok (.ifCond .le 7, 3) := by decide +kernel
theorem dX8_judge_171 : decode cX8_judge 171 = .ok (.iconst 0, 1) := by decide +kernel
theorem dX8_judge_172 : decode cX8_judge 172 = .ok (.goto 14, 3) := by decide +kernel
theorem dX8_judge_175 : decode cX8_judge 175 = .ok (.iconst 3, 1) := by decide +kernel
theorem dX8_judge_176 : decode cX8_judge 176 = .ok (.aload_n 0, 1) := by decide +kernel
theorem dX8_judge_177 : decode cX8_judge 177 = .ok (.getfield 12, 3) := by decide +kernel
theorem dX8_judge_180 : decode cX8_judge 180 = .ok (.getfield 42, 3) := by decide +kernel
theorem dX8_judge_183 : decode cX8_judge 183 = .ok (.invokestatic 46, 3) := by decide +kernel
theorem dX8_judge_186 : decode cX8_judge 186 = .ok (.ireturn, 1) := by decide +kernel
theorem dX8_judge_187 : decode cX8_judge 187 = .ok (.bipush (-2), 2) := by decide +kernel
theorem dX8_judge_189 : decode cX8_judge 189 = .ok (.ireturn, 1) := by decide +kernel
def f_X8_judge (k : Nat) (x1 : Int32) (x2 : Int32) (x3 : Int32) (x4 : Int32) (w : XW) : Option (Int32 × XW) := (if x1 = 0 then (if 7 ≤ (w.1 (k + 1) 0) then (bI (f_X8_denied 1 7 w) (fun r2 w2 => (some (r2, w2)))) else (some (0, w))) else (if x1 = 1 then (bI (f_X8_judgePour k x2 x3 w) (fun r4 w4 => (some (r4, w4)))) else (if x1 = 2 then (bI (f_X8_judgeTerm k x2 x3 0 w) (fun r6 w6 => (some (r6, w6)))) else (if x1 = 3 then (bI (f_X8_judgeTerm k x2 x3 1 w) (fun r8 w8 => (some (r8, w8)))) else (if x1 = 4 then (bI (f_X8_judgeFold k x2 w) (fun r10 w10 => (some (r10, w10)))) else (if x1 = 5 then (if (w.1 (k + 4) 0) ≤ 0 then (bI (f_X8_denied 3 (w.1 (k + 1) 0) w) (fun r12 w12 => (some (r12, w12)))) else (some (0, w))) else (if x1 = 6 then (bI (f_X8_judgePipe k x2 x3 x4 w) (fun r14 w14 => (some (r14, w14)))) else (if x1 = 7 then (bI (f_X5_has (k + 6) x2 w) (fun r16 w16 => (if r16 = 0 then (some ((-1), w16)) else (some (0, w16))))) else (if x1 = 8 then (bI (f_X8_judgeBroken k x2 0 w) (fun r18 w18 => (some (r18, w18)))) else (if x1 = 9 then (bI (f_X8_judgeBroken k x2 1 w) (fun r20 w20 => (some (r20, w20)))) else (if x1 = 10 then (bI (f_X8_judgeEnds k w) (fun r22 w22 => (some (r22, w22)))) else (if x1 = 11 then (if (w.1 (k + 4) 0) ≤ 0 then (bI (f_X8_denied 3 (w.1 (k + 1) 0) w) (fun r24 w24 => (some (r24, w24)))) else (some (0, w))) else (some ((-2), w))))))))))))))
set_option maxRecDepth 100000 in
theorem W_X8_judge {g : GC} (hl : g.1.stackTraces = false) {k : Nat} (hk : isX8 k) {x1 : Int32} {x2 : Int32} {x3 : Int32} {x4 : Int32} {w : XW} : VE g cX8_judge 5 RX8 (some .int) [] (rmL 7 0 0) 0 0 oI 0 0 0 [(0, .ref (g.2.1 + k)), (1, .int x1), (2, .int x2), (3, .int x3), (4, .int x4)] [] w (f_X8_judge k x1 x2 x3 x4 w) := by
  unfold f_X8_judge
  refine v_iload_n dX8_judge_0 rfl 1 rfl ?_
  refine v_split (fun h1 => ?_) (fun h1 => ?_)
  · refine v_tsIn (tgt := 64) 0 h1 dX8_judge_1 (by decide) (by decide) (by decide) (by decide) ?_
    refine v_aload_n dX8_judge_64 rfl 0 rfl ?_
    refine v_getR fl_X8_12 hk.1 rfl dX8_judge_65 ?_
    refine v_getI fl_X8_42 hk.2.1.1 rfl dX8_judge_68 ?_
    refine v_bipush (v := 7) dX8_judge_71 (by decide) ?_
    refine v_icmp_ge (tgt := 80) dX8_judge_73 (by decide) ?_ ?_
    · refine v_iconst (v := 1) dX8_judge_80 (by decide) ?_
      refine v_bipush (v := 7) dX8_judge_81 (by decide) ?_
      refine v_callSi (As := [.int 1, .int 7]) cs_X8_46 (S_X8_denied hl) rfl rfl (Nat.le_of_ble_eq_true rfl) dX8_judge_83 (CR_rm (by decide) (by decide) (by decide) (by decide)) (fun r2 w2 => ?_)
      exact v_iret dX8_judge_86 rfl rfl (by decide) (by decide)
    · refine v_iconst (v := 0) dX8_judge_76 (by decide) ?_
      refine v_goto (tgt := 86) dX8_judge_77 (by decide) ?_
      exact v_iret dX8_judge_86 rfl rfl (by decide) (by decide)
  refine v_split (fun h3 => ?_) (fun h3 => ?_)
  · refine v_tsIn (tgt := 87) 1 h3 dX8_judge_1 (by decide) (by decide) (by decide) (by decide) ?_
    refine v_aload_n dX8_judge_87 rfl 0 rfl ?_
    refine v_iload_n dX8_judge_88 rfl 2 rfl ?_
    refine v_iload_n dX8_judge_89 rfl 3 rfl ?_
    refine v_callVi (As := [.int x2, .int x3]) cv_X8_50 (S_X8_judgePour hl hk) hk.1 rfl rfl rfl (Nat.le_of_ble_eq_true rfl) dX8_judge_90 (CR_rm (by decide) (by decide) (by decide) (by decide)) (fun r4 w4 => ?_)
    exact v_iret dX8_judge_93 rfl rfl (by decide) (by decide)
  refine v_split (fun h5 => ?_) (fun h5 => ?_)
  · refine v_tsIn (tgt := 94) 2 h5 dX8_judge_1 (by decide) (by decide) (by decide) (by decide) ?_
    refine v_aload_n dX8_judge_94 rfl 0 rfl ?_
    refine v_iload_n dX8_judge_95 rfl 2 rfl ?_
    refine v_iload_n dX8_judge_96 rfl 3 rfl ?_
    refine v_iconst (v := 0) dX8_judge_97 (by decide) ?_
    refine v_callVi (As := [.int x2, .int x3, .int 0]) cv_X8_53 (S_X8_judgeTerm hl hk) hk.1 rfl rfl rfl (Nat.le_of_ble_eq_true rfl) dX8_judge_98 (CR_rm (by decide) (by decide) (by decide) (by decide)) (fun r6 w6 => ?_)
    exact v_iret dX8_judge_101 rfl rfl (by decide) (by decide)
  refine v_split (fun h7 => ?_) (fun h7 => ?_)
  · refine v_tsIn (tgt := 102) 3 h7 dX8_judge_1 (by decide) (by decide) (by decide) (by decide) ?_
    refine v_aload_n dX8_judge_102 rfl 0 rfl ?_
    refine v_iload_n dX8_judge_103 rfl 2 rfl ?_
    refine v_iload_n dX8_judge_104 rfl 3 rfl ?_
    refine v_iconst (v := 1) dX8_judge_105 (by decide) ?_
    refine v_callVi (As := [.int x2, .int x3, .int 1]) cv_X8_53 (S_X8_judgeTerm hl hk) hk.1 rfl rfl rfl (Nat.le_of_ble_eq_true rfl) dX8_judge_106 (CR_rm (by decide) (by decide) (by decide) (by decide)) (fun r8 w8 => ?_)
    exact v_iret dX8_judge_109 rfl rfl (by decide) (by decide)
  refine v_split (fun h9 => ?_) (fun h9 => ?_)
  · refine v_tsIn (tgt := 110) 4 h9 dX8_judge_1 (by decide) (by decide) (by decide) (by decide) ?_
    refine v_aload_n dX8_judge_110 rfl 0 rfl ?_
    refine v_iload_n dX8_judge_111 rfl 2 rfl ?_
    refine v_callVi (As := [.int x2]) cv_X8_57 (S_X8_judgeFold hl hk) hk.1 rfl rfl rfl (Nat.le_of_ble_eq_true rfl) dX8_judge_112 (CR_rm (by decide) (by decide) (by decide) (by decide)) (fun r10 w10 => ?_)
    exact v_iret dX8_judge_115 rfl rfl (by decide) (by decide)
  refine v_split (fun h11 => ?_) (fun h11 => ?_)
  · refine v_tsIn (tgt := 161) 5 h11 dX8_judge_1 (by decide) (by decide) (by decide) (by decide) ?_
    refine v_aload_n dX8_judge_161 rfl 0 rfl ?_
    refine v_getR fl_X8_21 hk.1 rfl dX8_judge_162 ?_
    refine v_getI fl_X8_77 hk.2.2.1.1 rfl dX8_judge_165 ?_
    refine v_if_le (tgt := 175) dX8_judge_168 (by decide) ?_ ?_
    · refine v_iconst (v := 3) dX8_judge_175 (by decide) ?_
      refine v_aload_n dX8_judge_176 rfl 0 rfl ?_
      refine v_getR fl_X8_12 hk.1 rfl dX8_judge_177 ?_
      refine v_getI fl_X8_42 hk.2.1.1 rfl dX8_judge_180 ?_
      refine v_callSi (As := [.int 3, .int (w.1 (k + 1) 0)]) cs_X8_46 (S_X8_denied hl) rfl rfl (Nat.le_of_ble_eq_true rfl) dX8_judge_183 (CR_rm (by decide) (by decide) (by decide) (by decide)) (fun r12 w12 => ?_)
      exact v_iret dX8_judge_186 rfl rfl (by decide) (by decide)
    · refine v_iconst (v := 0) dX8_judge_171 (by decide) ?_
      refine v_goto (tgt := 186) dX8_judge_172 (by decide) ?_
      exact v_iret dX8_judge_186 rfl rfl (by decide) (by decide)
  refine v_split (fun h13 => ?_) (fun h13 => ?_)
  · refine v_tsIn (tgt := 116) 6 h13 dX8_judge_1 (by decide) (by decide) (by decide) (by decide) ?_
    refine v_aload_n dX8_judge_116 rfl 0 rfl ?_
    refine v_iload_n dX8_judge_117 rfl 2 rfl ?_
    refine v_iload_n dX8_judge_118 rfl 3 rfl ?_
    refine v_iload dX8_judge_119 4 rfl ?_
    refine v_callVi (As := [.int x2, .int x3, .int x4]) cv_X8_61 (S_X8_judgePipe hl hk) hk.1 rfl rfl rfl (Nat.le_of_ble_eq_true rfl) dX8_judge_121 (CR_rm (by decide) (by decide) (by decide) (by decide)) (fun r14 w14 => ?_)
    exact v_iret dX8_judge_124 rfl rfl (by decide) (by decide)
  refine v_split (fun h15 => ?_) (fun h15 => ?_)
  · refine v_tsIn (tgt := 125) 7 h15 dX8_judge_1 (by decide) (by decide) (by decide) (by decide) ?_
    refine v_aload_n dX8_judge_125 rfl 0 rfl ?_
    refine v_getR fl_X8_28 hk.1 rfl dX8_judge_126 ?_
    refine v_iload_n dX8_judge_129 rfl 2 rfl ?_
    refine v_callVi (As := [.int x2]) cv_X8_65 (S_X5_has hl hk.2.2.2) hk.2.2.2.1 rfl rfl rfl (Nat.le_of_ble_eq_true rfl) dX8_judge_130 (CR_rm (by decide) (by decide) (by decide) (by decide)) (fun r16 w16 => ?_)
    refine v_if_eq (tgt := 140) dX8_judge_133 (by decide) ?_ ?_
    · refine v_iconst (v := (-1)) dX8_judge_140 (by decide) ?_
      exact v_iret dX8_judge_141 rfl rfl (by decide) (by decide)
    · refine v_iconst (v := 0) dX8_judge_136 (by decide) ?_
      refine v_goto (tgt := 141) dX8_judge_137 (by decide) ?_
      exact v_iret dX8_judge_141 rfl rfl (by decide) (by decide)
  refine v_split (fun h17 => ?_) (fun h17 => ?_)
  · refine v_tsIn (tgt := 142) 8 h17 dX8_judge_1 (by decide) (by decide) (by decide) (by decide) ?_
    refine v_aload_n dX8_judge_142 rfl 0 rfl ?_
    refine v_iload_n dX8_judge_143 rfl 2 rfl ?_
    refine v_iconst (v := 0) dX8_judge_144 (by decide) ?_
    refine v_callVi (As := [.int x2, .int 0]) cv_X8_69 (S_X8_judgeBroken hl hk) hk.1 rfl rfl rfl (Nat.le_of_ble_eq_true rfl) dX8_judge_145 (CR_rm (by decide) (by decide) (by decide) (by decide)) (fun r18 w18 => ?_)
    exact v_iret dX8_judge_148 rfl rfl (by decide) (by decide)
  refine v_split (fun h19 => ?_) (fun h19 => ?_)
  · refine v_tsIn (tgt := 149) 9 h19 dX8_judge_1 (by decide) (by decide) (by decide) (by decide) ?_
    refine v_aload_n dX8_judge_149 rfl 0 rfl ?_
    refine v_iload_n dX8_judge_150 rfl 2 rfl ?_
    refine v_iconst (v := 1) dX8_judge_151 (by decide) ?_
    refine v_callVi (As := [.int x2, .int 1]) cv_X8_69 (S_X8_judgeBroken hl hk) hk.1 rfl rfl rfl (Nat.le_of_ble_eq_true rfl) dX8_judge_152 (CR_rm (by decide) (by decide) (by decide) (by decide)) (fun r20 w20 => ?_)
    exact v_iret dX8_judge_155 rfl rfl (by decide) (by decide)
  refine v_split (fun h21 => ?_) (fun h21 => ?_)
  · refine v_tsIn (tgt := 156) 10 h21 dX8_judge_1 (by decide) (by decide) (by decide) (by decide) ?_
    refine v_aload_n dX8_judge_156 rfl 0 rfl ?_
    refine v_callVi (As := []) cv_X8_73 (S_X8_judgeEnds hl hk) hk.1 rfl rfl rfl (Nat.le_of_ble_eq_true rfl) dX8_judge_157 (CR_rm (by decide) (by decide) (by decide) (by decide)) (fun r22 w22 => ?_)
    exact v_iret dX8_judge_160 rfl rfl (by decide) (by decide)
  refine v_split (fun h23 => ?_) (fun h23 => ?_)
  · refine v_tsIn (tgt := 161) 11 h23 dX8_judge_1 (by decide) (by decide) (by decide) (by decide) ?_
    refine v_aload_n dX8_judge_161 rfl 0 rfl ?_
    refine v_getR fl_X8_21 hk.1 rfl dX8_judge_162 ?_
    refine v_getI fl_X8_77 hk.2.2.1.1 rfl dX8_judge_165 ?_
    refine v_if_le (tgt := 175) dX8_judge_168 (by decide) ?_ ?_
    · refine v_iconst (v := 3) dX8_judge_175 (by decide) ?_
      refine v_aload_n dX8_judge_176 rfl 0 rfl ?_
      refine v_getR fl_X8_12 hk.1 rfl dX8_judge_177 ?_
      refine v_getI fl_X8_42 hk.2.1.1 rfl dX8_judge_180 ?_
      refine v_callSi (As := [.int 3, .int (w.1 (k + 1) 0)]) cs_X8_46 (S_X8_denied hl) rfl rfl (Nat.le_of_ble_eq_true rfl) dX8_judge_183 (CR_rm (by decide) (by decide) (by decide) (by decide)) (fun r24 w24 => ?_)
      exact v_iret dX8_judge_186 rfl rfl (by decide) (by decide)
    · refine v_iconst (v := 0) dX8_judge_171 (by decide) ?_
      refine v_goto (tgt := 186) dX8_judge_172 (by decide) ?_
      exact v_iret dX8_judge_186 rfl rfl (by decide) (by decide)
  have h1 := v_tsNe (z := 0) (by decide) h1
  have h3 := v_tsNe (z := 1) (by decide) h3
  have h5 := v_tsNe (z := 2) (by decide) h5
  have h7 := v_tsNe (z := 3) (by decide) h7
  have h9 := v_tsNe (z := 4) (by decide) h9
  have h11 := v_tsNe (z := 5) (by decide) h11
  have h13 := v_tsNe (z := 6) (by decide) h13
  have h15 := v_tsNe (z := 7) (by decide) h15
  have h17 := v_tsNe (z := 8) (by decide) h17
  have h19 := v_tsNe (z := 9) (by decide) h19
  have h21 := v_tsNe (z := 10) (by decide) h21
  have h23 := v_tsNe (z := 11) (by decide) h23
  refine v_tsOut (tgt := 187) dX8_judge_1 (by omega) (by decide) ?_
  refine v_bipush (v := (-2)) dX8_judge_187 (by decide) ?_
  exact v_iret dX8_judge_189 rfl rfl (by decide) (by decide)
theorem S_X8_judge {g : GC} (hl : g.1.stackTraces = false) {k : Nat} (hk : isX8 k) {x1 : Int32} {x2 : Int32} {x3 : Int32} {x4 : Int32} {w : XW} : ∀ q, f_X8_judge k x1 x2 x3 x4 w = some q → MM g (.code yX8_judge cX8_judge 5 (some .int)) yX8_judge (rmL 7 0 0) 0 0 [.ref (g.2.1 + k), .int x1, .int x2, .int x3, .int x4] w (oI q) := fun q hq => MM_of (own := RX8) hl (by decide) gw_546 rfl (Nat.le_of_ble_eq_true rfl) (W_X8_judge hl hk q hq) ⟨rfl, rfl⟩

theorem dX8_moveAlongPipes_0 : decode cX8_moveAlongPipes 0 = .ok (.aload_n 0, 1) := by decide +kernel
theorem dX8_moveAlongPipes_1 : decode cX8_moveAlongPipes 1 = .ok (.getfield 12, 3) := by decide +kernel
theorem dX8_moveAlongPipes_4 : decode cX8_moveAlongPipes 4 = .ok (.iconst 0, 1) := by decide +kernel
theorem dX8_moveAlongPipes_5 : decode cX8_moveAlongPipes 5 = .ok (.invokevirtual 81, 3) := by decide +kernel
theorem dX8_moveAlongPipes_8 : decode cX8_moveAlongPipes 8 = .ok (.iload_n 1, 1) := by decide +kernel
theorem dX8_moveAlongPipes_9 : decode cX8_moveAlongPipes 9 = .ok (.invokestatic 142, 3) := by decide +kernel
theorem dX8_moveAlongPipes_12 : decode cX8_moveAlongPipes 12 = .ok (.istore_n 2, 1) := by decide +kernel
theorem dX8_moveAlongPipes_13 : decode cX8_moveAlongPipes 13 = .ok (.aload_n 0, 1) := by decide +kernel
theorem dX8_moveAlongPipes_14 : decode cX8_moveAlongPipes 14 = .ok (.getfield 28, 3) := by decide +kernel
theorem dX8_moveAlongPipes_17 : decode cX8_moveAlongPipes 17 = .ok (.invokevirtual 147, 3) := by decide +kernel
theorem dX8_moveAlongPipes_20 : decode cX8_moveAlongPipes 20 = .ok (.iload_n 2, 1) := by decide +kernel
theorem dX8_moveAlongPipes_21 : decode cX8_moveAlongPipes 21 = .ok (.invokestatic 142, 3) := by decide +kernel
theorem dX8_moveAlongPipes_24 : decode cX8_moveAlongPipes 24 = .ok (.istore_n 3, 1) := by decide +kernel
theorem dX8_moveAlongPipes_25 : decode cX8_moveAlongPipes 25 = .ok (.aload_n 0, 1) := by decide +kernel
theorem dX8_moveAlongPipes_26 : decode cX8_moveAlongPipes 26 = .ok (.getfield 12, 3) := by decide +kernel
theorem dX8_moveAlongPipes_29 : decode cX8_moveAlongPipes 29 = .ok (.iconst 0, 1) := by decide +kernel
theorem dX8_moveAlongPipes_30 : decode cX8_moveAlongPipes 30 = .ok (.iload_n 2, 1) := by decide +kernel
theorem dX8_moveAlongPipes_31 : decode cX8_moveAlongPipes 31 = .ok (.invokevirtual 150, 3) := by decide +kernel
theorem dX8_moveAlongPipes_34 : decode cX8_moveAlongPipes 34 = .ok (.iload_n 3, 1) := by decide +kernel
theorem dX8_moveAlongPipes_35 : decode cX8_moveAlongPipes 35 = .ok (.aload_n 0, 1) := by decide +kernel
theorem dX8_moveAlongPipes_36 : decode cX8_moveAlongPipes 36 = .ok (.getfield 12, 3) := by decide +kernel
theorem dX8_moveAlongPipes_39 : decode cX8_moveAlongPipes 39 = .ok (.aload_n 0, 1) := by decide +kernel
theorem dX8_moveAlongPipes_40 : decode cX8_moveAlongPipes 40 = .ok (.getfield 12, 3) := by decide +kernel
theorem dX8_moveAlongPipes_43 : decode cX8_moveAlongPipes 43 = .ok (.getfield 42, 3) := by decide +kernel
theorem dX8_moveAlongPipes_46 : decode cX8_moveAlongPipes 46 = .ok (.iconst 1, 1) := by decide +kernel
theorem dX8_moveAlongPipes_47 : decode cX8_moveAlongPipes 47 = .ok (.isub, 1) := by decide +kernel
theorem dX8_moveAlongPipes_48 : decode cX8_moveAlongPipes 48 = .ok (.iload_n 2, 1) := by decide +kernel
theorem dX8_moveAlongPipes_49 : decode cX8_moveAlongPipes 49 = .ok (.iload_n 3, 1) := by decide +kernel
theorem dX8_moveAlongPipes_50 : decode cX8_moveAlongPipes 50 = .ok (.isub, 1) := by decide +kernel
theorem dX8_moveAlongPipes_51 : decode cX8_moveAlongPipes 51 = .ok (.invokevirtual 154, 3) := by decide +kernel
theorem dX8_moveAlongPipes_54 : decode cX8_moveAlongPipes 54 = .ok (.iadd, 1) := by decide +kernel
theorem dX8_moveAlongPipes_55 : decode cX8_moveAlongPipes 55 = .ok (.istore_n 3, 1) := by decide +kernel
theorem dX8_moveAlongPipes_56 : decode cX8_moveAlongPipes 56 = .ok (.aload_n 0, 1) := by decide +kernel
theorem dX8_moveAlongPipes_57 : decode cX8_moveAlongPipes 57 = .ok (.getfield 12, 3) := by decide +kernel
theorem dX8_moveAlongPipes_60 : decode cX8_moveAlongPipes 60 = .ok (.iload_n 3, 1) := by decide +kernel
theorem dX8_moveAlongPipes_61 : decode cX8_moveAlongPipes 61 = .ok (.invokevirtual 157, 3) := by decide +kernel
theorem dX8_moveAlongPipes_64 : decode cX8_moveAlongPipes 64 = .ok (.iload_n 2, 1) := by decide +kernel
theorem dX8_moveAlongPipes_65 : decode cX8_moveAlongPipes 65 = .ok (.ireturn, 1) := by decide +kernel
def f_X8_moveAlongPipes (k : Nat) (x1 : Int32) (w : XW) : Option (Int32 × XW) := (bI (f_X9_waterOf (k + 1) 0 w) (fun r1 w1 => (bI (f_X5_brokenCount (k + 6) w1) (fun r2 w2 => (bV (f_X9_give (k + 1) 0 (if x1 < r1 then x1 else r1) w2) (fun w3 => (bI (f_X9_receive (k + 1) ((w3.1 (k + 1) 0) - 1) ((if x1 < r1 then x1 else r1) - (if (if x1 < r1 then x1 else r1) < r2 then (if x1 < r1 then x1 else r1) else r2)) w3) (fun r4 w4 => (bV (f_X9_leak (k + 1) ((if (if x1 < r1 then x1 else r1) < r2 then (if x1 < r1 then x1 else r1) else r2) + r4) w4) (fun w5 => (some ((if x1 < r1 then x1 else r1), w5))))))))))))
set_option maxRecDepth 100000 in
theorem W_X8_moveAlongPipes {g : GC} (hl : g.1.stackTraces = false) {k : Nat} (hk : isX8 k) {x1 : Int32} {w : XW} : VE g cX8_moveAlongPipes 4 RX8 (some .int) [] (rmL 6 0 0) 0 0 oI 0 0 0 [(0, .ref (g.2.1 + k)), (1, .int x1)] [] w (f_X8_moveAlongPipes k x1 w) := by
  unfold f_X8_moveAlongPipes
  refine v_aload_n dX8_moveAlongPipes_0 rfl 0 rfl ?_
  refine v_getR fl_X8_12 hk.1 rfl dX8_moveAlongPipes_1 ?_
  refine v_iconst (v := 0) dX8_moveAlongPipes_4 (by decide) ?_
  refine v_callVi (As := [.int 0]) cv_X8_81 (S_X9_waterOf hl hk.2.1) hk.2.1.1 rfl rfl rfl (Nat.le_of_ble_eq_true rfl) dX8_moveAlongPipes_5 (CR_rm (by decide) (by decide) (by decide) (by decide)) (fun r1 w1 => ?_)
  refine v_iload_n dX8_moveAlongPipes_8 rfl 1 rfl ?_
  refine v_min gw_824 gw_403 gw_98 gw_404 dX8_moveAlongPipes_9 (CR_f1 _ _ _) (CR_f2 (by decide) _ _ _) (by decide) (by decide) ?_
  refine v_istore_n dX8_moveAlongPipes_12 rfl (Nat.le_of_ble_eq_true rfl) rfl ?_
  refine v_aload_n dX8_moveAlongPipes_13 rfl 1 rfl ?_
  refine v_getR fl_X8_28 hk.1 rfl dX8_moveAlongPipes_14 ?_
  refine v_callVi (As := []) cv_X8_147 (S_X5_brokenCount hl hk.2.2.2) hk.2.2.2.1 rfl rfl rfl (Nat.le_of_ble_eq_true rfl) dX8_moveAlongPipes_17 (CR_rm (by decide) (by decide) (by decide) (by decide)) (fun r2 w2 => ?_)
  refine v_iload_n dX8_moveAlongPipes_20 rfl 0 rfl ?_
  refine v_min gw_824 gw_403 gw_98 gw_404 dX8_moveAlongPipes_21 (CR_f1 _ _ _) (CR_f2 (by decide) _ _ _) (by decide) (by decide) ?_
  refine v_istore_n dX8_moveAlongPipes_24 rfl (Nat.le_of_ble_eq_true rfl) rfl ?_
  refine v_aload_n dX8_moveAlongPipes_25 rfl 2 rfl ?_
  refine v_getR fl_X8_12 hk.1 rfl dX8_moveAlongPipes_26 ?_
  refine v_iconst (v := 0) dX8_moveAlongPipes_29 (by decide) ?_
  refine v_iload_n dX8_moveAlongPipes_30 rfl 1 rfl ?_
  refine v_callVv (As := [.int 0, .int (if x1 < r1 then x1 else r1)]) cv_X8_150 (S_X9_give hl hk.2.1) hk.2.1.1 rfl rfl rfl (Nat.le_of_ble_eq_true rfl) dX8_moveAlongPipes_31 (CR_rm (by decide) (by decide) (by decide) (by decide)) (fun w3 => ?_)
  refine v_iload_n dX8_moveAlongPipes_34 rfl 0 rfl ?_
  refine v_aload_n dX8_moveAlongPipes_35 rfl 2 rfl ?_
  refine v_getR fl_X8_12 hk.1 rfl dX8_moveAlongPipes_36 ?_
  refine v_aload_n dX8_moveAlongPipes_39 rfl 2 rfl ?_
  refine v_getR fl_X8_12 hk.1 rfl dX8_moveAlongPipes_40 ?_
  refine v_getI fl_X8_42 hk.2.1.1 rfl dX8_moveAlongPipes_43 ?_
  refine v_iconst (v := 1) dX8_moveAlongPipes_46 (by decide) ?_
  refine v_isub dX8_moveAlongPipes_47 ?_
  refine v_iload_n dX8_moveAlongPipes_48 rfl 1 rfl ?_
  refine v_iload_n dX8_moveAlongPipes_49 rfl 0 rfl ?_
  refine v_isub dX8_moveAlongPipes_50 ?_
  refine v_callVi (As := [.int ((w3.1 (k + 1) 0) - 1), .int ((if x1 < r1 then x1 else r1) - (if (if x1 < r1 then x1 else r1) < r2 then (if x1 < r1 then x1 else r1) else r2))]) cv_X8_154 (S_X9_receive hl hk.2.1) hk.2.1.1 rfl rfl rfl (Nat.le_of_ble_eq_true rfl) dX8_moveAlongPipes_51 (CR_rm (by decide) (by decide) (by decide) (by decide)) (fun r4 w4 => ?_)
  refine v_iadd dX8_moveAlongPipes_54 ?_
  refine v_istore_n dX8_moveAlongPipes_55 rfl (Nat.le_of_ble_eq_true rfl) rfl ?_
  refine v_aload_n dX8_moveAlongPipes_56 rfl 2 rfl ?_
  refine v_getR fl_X8_12 hk.1 rfl dX8_moveAlongPipes_57 ?_
  refine v_iload_n dX8_moveAlongPipes_60 rfl 0 rfl ?_
  refine v_callVv (As := [.int ((if (if x1 < r1 then x1 else r1) < r2 then (if x1 < r1 then x1 else r1) else r2) + r4)]) cv_X8_157 (S_X9_leak hl hk.2.1) hk.2.1.1 rfl rfl rfl (Nat.le_of_ble_eq_true rfl) dX8_moveAlongPipes_61 (CR_rm (by decide) (by decide) (by decide) (by decide)) (fun w5 => ?_)
  refine v_iload_n dX8_moveAlongPipes_64 rfl 1 rfl ?_
  exact v_iret dX8_moveAlongPipes_65 rfl rfl (by decide) (by decide)
theorem S_X8_moveAlongPipes {g : GC} (hl : g.1.stackTraces = false) {k : Nat} (hk : isX8 k) {x1 : Int32} {w : XW} : ∀ q, f_X8_moveAlongPipes k x1 w = some q → MM g (.code yX8_moveAlongPipes cX8_moveAlongPipes 4 (some .int)) yX8_moveAlongPipes (rmL 6 0 0) 0 0 [.ref (g.2.1 + k), .int x1] w (oI q) := fun q hq => MM_of (own := RX8) hl (by decide) gw_823 rfl (Nat.le_of_ble_eq_true rfl) (W_X8_moveAlongPipes hl hk q hq) ⟨rfl, rfl⟩

theorem dX8_moveDownPile_0 : decode cX8_moveDownPile 0 = .ok (.iconst 0, 1) := by decide +kernel
theorem dX8_moveDownPile_1 : decode cX8_moveDownPile 1 = .ok (.istore_n 1, 1) := by decide +kernel
theorem dX8_moveDownPile_2 : decode cX8_moveDownPile 2 = .ok (.aload_n 0, 1) := by decide +kernel
theorem dX8_moveDownPile_3 : decode cX8_moveDownPile 3 = .ok (.getfield 21, 3) := by decide +kernel
theorem dX8_moveDownPile_6 : decode cX8_moveDownPile 6 = .ok (.getfield 77, 3) := by decide +kernel
theorem dX8_moveDownPile_9 : decode cX8_moveDownPile 9 = .ok (.iconst 1, 1) := by decide +kernel
theorem dX8_moveDownPile_10 : decode cX8_moveDownPile 10 = .ok (.isub, 1) := by decide +kernel
theorem dX8_moveDownPile_11 : decode cX8_moveDownPile 11 = .ok (.istore_n 2, 1) := by decide +kernel
theorem dX8_moveDownPile_12 : decode cX8_moveDownPile 12 = .ok (.iload_n 2, 1) := by decide +kernel
theorem dX8_moveDownPile_13 : decode cX8_moveDownPile 13 = .ok (.ifCond .lt 77, 3) := by decide +kernel
theorem dX8_moveDownPile_16 : decode cX8_moveDownPile 16 = .ok (.aload_n 0, 1) := by decide +kernel
theorem dX8_moveDownPile_17 : decode cX8_moveDownPile 17 = .ok (.getfield 21, 3) := by decide +kernel
theorem dX8_moveDownPile_20 : decode cX8_moveDownPile 20 = .ok (.iload_n 2, 1) := by decide +kernel
theorem dX8_moveDownPile_21 : decode cX8_moveDownPile 21 = .ok (.invokevirtual 161, 3) := by decide +kernel
theorem dX8_moveDownPile_24 : decode cX8_moveDownPile 24 = .ok (.istore_n 3, 1) := by decide +kernel
theorem dX8_moveDownPile_25 : decode cX8_moveDownPile 25 = .ok (.aload_n 0, 1) := by decide +kernel
theorem dX8_moveDownPile_26 : decode cX8_moveDownPile 26 = .ok (.getfield 12, 3) := by decide +kernel
theorem dX8_moveDownPile_29 : decode cX8_moveDownPile 29 = .ok (.iload_n 3, 1) := by decide +kernel
theorem dX8_moveDownPile_30 : decode cX8_moveDownPile 30 = .ok (.invokevirtual 81, 3) := by decide +kernel
theorem dX8_moveDownPile_33 : decode cX8_moveDownPile 33 = .ok (.bipush 20, 2) := by decide +kernel
theorem dX8_moveDownPile_35 : decode cX8_moveDownPile 35 = .ok (.isub, 1) := by decide +kernel
theorem dX8_moveDownPile_36 : decode cX8_moveDownPile 36 = .ok (.istore 4, 2) := by decide +kernel
theorem dX8_moveDownPile_38 : decode cX8_moveDownPile 38 = .ok (.iload 4, 2) := by decide +kernel
theorem dX8_moveDownPile_40 : decode cX8_moveDownPile 40 = .ok (.ifCond .le 44, 3) := by decide +kernel
theorem dX8_moveDownPile_43 : decode cX8_moveDownPile 43 = .ok (.aload_n 0, 1) := by decide +kernel
theorem dX8_moveDownPile_44 : decode cX8_moveDownPile 44 = .ok (.getfield 12, 3) := by decide +kernel
theorem dX8_moveDownPile_47 : decode cX8_moveDownPile 47 = .ok (.iload_n 3, 1) := by decide +kernel
theorem dX8_moveDownPile_48 : decode cX8_moveDownPile 48 = .ok (.iload 4, 2) := by decide +kernel
theorem dX8_moveDownPile_50 : decode cX8_moveDownPile 50 = .ok (.invokevirtual 150, 3) := by decide +kernel
theorem dX8_moveDownPile_53 : decode cX8_moveDownPile 53 = .ok (.iload_n 1, 1) := by decide +kernel
theorem dX8_moveDownPile_54 : decode cX8_moveDownPile 54 = .ok (.iload_n 2, 1) := by decide +kernel
theorem dX8_moveDownPile_55 : decode cX8_moveDownPile 55 = .ok (.ifCond .le 25, 3) := by decide +kernel
theorem dX8_moveDownPile_58 : decode cX8_moveDownPile 58 = .ok (.aload_n 0, 1) := by decide +kernel
theorem dX8_moveDownPile_59 : decode cX8_moveDownPile 59 = .ok (.getfield 12, 3) := by decide +kernel
theorem dX8_moveDownPile_62 : decode cX8_moveDownPile 62 = .ok (.aload_n 0, 1) := by decide +kernel
theorem dX8_moveDownPile_63 : decode cX8_moveDownPile 63 = .ok (.getfield 21, 3) := by decide +kernel
theorem dX8_moveDownPile_66 : decode cX8_moveDownPile 66 = .ok (.iload_n 2, 1) := by decide +kernel
theorem dX8_moveDownPile_67 : decode cX8_moveDownPile 67 = .ok (.iconst 1, 1) := by decide +kernel
theorem dX8_moveDownPile_68 : decode cX8_moveDownPile 68 = .ok (.isub, 1) := by decide +kernel
theorem dX8_moveDownPile_69 : decode cX8_moveDownPile 69 = .ok (.invokevirtual 161, 3) := by decide +kernel
theorem dX8_moveDownPile_72 : decode cX8_moveDownPile 72 = .ok (.iload 4, 2) := by decide +kernel
theorem dX8_moveDownPile_74 : decode cX8_moveDownPile 74 = .ok (.invokevirtual 154, 3) := by decide +kernel
theorem dX8_moveDownPile_77 : decode cX8_moveDownPile 77 = .ok (.goto 5, 3) := by decide +kernel
theorem dX8_moveDownPile_80 : decode cX8_moveDownPile 80 = .ok (.iload 4, 2) := by decide +kernel
theorem dX8_moveDownPile_82 : decode cX8_moveDownPile 82 = .ok (.iadd, 1) := by decide +kernel
theorem dX8_moveDownPile_83 : decode cX8_moveDownPile 83 = .ok (.istore_n 1, 1) := by decide +kernel
theorem dX8_moveDownPile_84 : decode cX8_moveDownPile 84 = .ok (.iinc 2 (-1), 3) := by decide +kernel
theorem dX8_moveDownPile_87 : decode cX8_moveDownPile 87 = .ok (.goto (-75), 3) := by decide +kernel
theorem dX8_moveDownPile_90 : decode cX8_moveDownPile 90 = .ok (.aload_n 0, 1) := by decide +kernel
theorem dX8_moveDownPile_91 : decode cX8_moveDownPile 91 = .ok (.getfield 12, 3) := by decide +kernel
theorem dX8_moveDownPile_94 : decode cX8_moveDownPile 94 = .ok (.iload_n 1, 1) := by decide +kernel
theorem dX8_moveDownPile_95 : decode cX8_moveDownPile 95 = .ok (.invokevirtual 157, 3) := by decide +kernel
theorem dX8_moveDownPile_98 : decode cX8_moveDownPile 98 = .ok (.iload_n 1, 1) := by decide +kernel
theorem dX8_moveDownPile_99 : decode cX8_moveDownPile 99 = .ok (.ireturn, 1) := by decide +kernel
def f_X8_moveDownPile_12 (k : Nat) : Nat → Int32 → Int32 → XW → Option (Int32 × XW)
  | 0, _, _, _ => none
  | n + 1, z1, z2, w => (if z2 < 0 then (bV (f_X9_leak (k + 1) z1 w) (fun w1 => (some (z1, w1)))) else (bI (f_X4_sectionAt (k + 4) z2 w) (fun r2 w2 => (bI (f_X9_waterOf (k + 1) r2 w2) (fun r3 w3 => (if (r3 - 20) ≤ 0 then (f_X8_moveDownPile_12 k n z1 (z2 + (-1)) w3) else (bV (f_X9_give (k + 1) r2 (r3 - 20) w3) (fun w4 => (if z2 ≤ 0 then (f_X8_moveDownPile_12 k n (z1 + (r3 - 20)) (z2 + (-1)) w4) else (bI (f_X4_sectionAt (k + 4) (z2 - 1) w4) (fun r5 w5 => (bI (f_X9_receive (k + 1) r5 (r3 - 20) w5) (fun r6 w6 => (f_X8_moveDownPile_12 k n (z1 + r6) (z2 + (-1)) w6))))))))))))))
set_option maxRecDepth 100000 in
theorem S_X8_moveDownPile_12 {g : GC} (hl : g.1.stackTraces = false) {k : Nat} (hk : isX8 k) : ∀ (n : Nat) (z1 : Int32) (z2 : Int32) (w : XW), VE g cX8_moveDownPile 5 RX8 (some .int) [] (rmL 6 0 0) 0 0 oI 0 0 12 [(0, .ref (g.2.1 + k)), (1, .int z1), (2, .int z2)] [] w (f_X8_moveDownPile_12 k n z1 z2 w) := by
  intro n
  induction n with
  | zero => intro z1 z2 w; exact v_none
  | succ n ih =>
    intro z1 z2 w
    rw [f_X8_moveDownPile_12]
    refine v_iload_n dX8_moveDownPile_12 rfl 2 rfl ?_
    refine v_if_lt (tgt := 90) dX8_moveDownPile_13 (by decide) ?_ ?_
    · refine v_aload_n dX8_moveDownPile_90 rfl 0 rfl ?_
      refine v_getR fl_X8_12 hk.1 rfl dX8_moveDownPile_91 ?_
      refine v_iload_n dX8_moveDownPile_94 rfl 1 rfl ?_
      refine v_callVv (As := [.int z1]) cv_X8_157 (S_X9_leak hl hk.2.1) hk.2.1.1 rfl rfl rfl (Nat.le_of_ble_eq_true rfl) dX8_moveDownPile_95 (CR_rm (by decide) (by decide) (by decide) (by decide)) (fun w1 => ?_)
      refine v_iload_n dX8_moveDownPile_98 rfl 1 rfl ?_
      exact v_iret dX8_moveDownPile_99 rfl rfl (by decide) (by decide)
    · refine v_aload_n dX8_moveDownPile_16 rfl 0 rfl ?_
      refine v_getR fl_X8_21 hk.1 rfl dX8_moveDownPile_17 ?_
      refine v_iload_n dX8_moveDownPile_20 rfl 2 rfl ?_
      refine v_callVi (As := [.int z2]) cv_X8_161 (S_X4_sectionAt hl hk.2.2.1) hk.2.2.1.1 rfl rfl rfl (Nat.le_of_ble_eq_true rfl) dX8_moveDownPile_21 (CR_rm (by decide) (by decide) (by decide) (by decide)) (fun r2 w2 => ?_)
      refine v_istore_n dX8_moveDownPile_24 rfl (Nat.le_of_ble_eq_true rfl) rfl ?_
      refine v_aload_n dX8_moveDownPile_25 rfl 1 rfl ?_
      refine v_getR fl_X8_12 hk.1 rfl dX8_moveDownPile_26 ?_
      refine v_iload_n dX8_moveDownPile_29 rfl 0 rfl ?_
      refine v_callVi (As := [.int r2]) cv_X8_81 (S_X9_waterOf hl hk.2.1) hk.2.1.1 rfl rfl rfl (Nat.le_of_ble_eq_true rfl) dX8_moveDownPile_30 (CR_rm (by decide) (by decide) (by decide) (by decide)) (fun r3 w3 => ?_)
      refine v_bipush (v := 20) dX8_moveDownPile_33 (by decide) ?_
      refine v_isub dX8_moveDownPile_35 ?_
      refine v_istore dX8_moveDownPile_36 (Nat.le_of_ble_eq_true rfl) rfl ?_
      refine v_iload dX8_moveDownPile_38 0 rfl ?_
      refine v_if_le (tgt := 84) dX8_moveDownPile_40 (by decide) ?_ ?_
      · refine v_iinc (v := (z2 + (-1))) dX8_moveDownPile_84 (q := 4) rfl rfl (Nat.le_of_ble_eq_true rfl) rfl ?_
        refine v_goto (tgt := 12) dX8_moveDownPile_87 (by decide) ?_
        refine v_sub [3, 4, 0] rfl ?_
        exact ih _ _ _
      · refine v_aload_n dX8_moveDownPile_43 rfl 2 rfl ?_
        refine v_getR fl_X8_12 hk.1 rfl dX8_moveDownPile_44 ?_
        refine v_iload_n dX8_moveDownPile_47 rfl 1 rfl ?_
        refine v_iload dX8_moveDownPile_48 0 rfl ?_
        refine v_callVv (As := [.int r2, .int (r3 - 20)]) cv_X8_150 (S_X9_give hl hk.2.1) hk.2.1.1 rfl rfl rfl (Nat.le_of_ble_eq_true rfl) dX8_moveDownPile_50 (CR_rm (by decide) (by decide) (by decide) (by decide)) (fun w4 => ?_)
        refine v_iload_n dX8_moveDownPile_53 rfl 3 rfl ?_
        refine v_iload_n dX8_moveDownPile_54 rfl 4 rfl ?_
        refine v_if_le (tgt := 80) dX8_moveDownPile_55 (by decide) ?_ ?_
        · refine v_iload dX8_moveDownPile_80 0 rfl ?_
          refine v_iadd dX8_moveDownPile_82 ?_
          refine v_istore_n dX8_moveDownPile_83 rfl (Nat.le_of_ble_eq_true rfl) rfl ?_
          refine v_iinc (v := (z2 + (-1))) dX8_moveDownPile_84 (q := 4) rfl rfl (Nat.le_of_ble_eq_true rfl) rfl ?_
          refine v_goto (tgt := 12) dX8_moveDownPile_87 (by decide) ?_
          refine v_sub [4, 1, 0] rfl ?_
          exact ih _ _ _
        · refine v_aload_n dX8_moveDownPile_58 rfl 2 rfl ?_
          refine v_getR fl_X8_12 hk.1 rfl dX8_moveDownPile_59 ?_
          refine v_aload_n dX8_moveDownPile_62 rfl 2 rfl ?_
          refine v_getR fl_X8_21 hk.1 rfl dX8_moveDownPile_63 ?_
          refine v_iload_n dX8_moveDownPile_66 rfl 4 rfl ?_
          refine v_iconst (v := 1) dX8_moveDownPile_67 (by decide) ?_
          refine v_isub dX8_moveDownPile_68 ?_
          refine v_callVi (As := [.int (z2 - 1)]) cv_X8_161 (S_X4_sectionAt hl hk.2.2.1) hk.2.2.1.1 rfl rfl rfl (Nat.le_of_ble_eq_true rfl) dX8_moveDownPile_69 (CR_rm (by decide) (by decide) (by decide) (by decide)) (fun r5 w5 => ?_)
          refine v_iload dX8_moveDownPile_72 0 rfl ?_
          refine v_callVi (As := [.int r5, .int (r3 - 20)]) cv_X8_154 (S_X9_receive hl hk.2.1) hk.2.1.1 rfl rfl rfl (Nat.le_of_ble_eq_true rfl) dX8_moveDownPile_74 (CR_rm (by decide) (by decide) (by decide) (by decide)) (fun r6 w6 => ?_)
          refine v_goto (tgt := 82) dX8_moveDownPile_77 (by decide) ?_
          refine v_iadd dX8_moveDownPile_82 ?_
          refine v_istore_n dX8_moveDownPile_83 rfl (Nat.le_of_ble_eq_true rfl) rfl ?_
          refine v_iinc (v := (z2 + (-1))) dX8_moveDownPile_84 (q := 4) rfl rfl (Nat.le_of_ble_eq_true rfl) rfl ?_
          refine v_goto (tgt := 12) dX8_moveDownPile_87 (by decide) ?_
          refine v_sub [4, 1, 0] rfl ?_
          exact ih _ _ _
def f_X8_moveDownPile (k : Nat) (w : XW) : Option (Int32 × XW) := (f_X8_moveDownPile_12 k 1000 0 ((w.1 (k + 4) 0) - 1) w)
set_option maxRecDepth 100000 in
theorem W_X8_moveDownPile {g : GC} (hl : g.1.stackTraces = false) {k : Nat} (hk : isX8 k) {w : XW} : VE g cX8_moveDownPile 5 RX8 (some .int) [] (rmL 6 0 0) 0 0 oI 0 0 0 [(0, .ref (g.2.1 + k))] [] w (f_X8_moveDownPile k w) := by
  unfold f_X8_moveDownPile
  refine v_iconst (v := 0) dX8_moveDownPile_0 (by decide) ?_
  refine v_istore_n dX8_moveDownPile_1 rfl (Nat.le_of_ble_eq_true rfl) rfl ?_
  refine v_aload_n dX8_moveDownPile_2 rfl 1 rfl ?_
  refine v_getR fl_X8_21 hk.1 rfl dX8_moveDownPile_3 ?_
  refine v_getI fl_X8_77 hk.2.2.1.1 rfl dX8_moveDownPile_6 ?_
  refine v_iconst (v := 1) dX8_moveDownPile_9 (by decide) ?_
  refine v_isub dX8_moveDownPile_10 ?_
  refine v_istore_n dX8_moveDownPile_11 rfl (Nat.le_of_ble_eq_true rfl) rfl ?_
  refine v_sub [2, 1, 0] rfl ?_
  exact S_X8_moveDownPile_12 hl hk  _ _ _ _
theorem S_X8_moveDownPile {g : GC} (hl : g.1.stackTraces = false) {k : Nat} (hk : isX8 k) {w : XW} : ∀ q, f_X8_moveDownPile k w = some q → MM g (.code yX8_moveDownPile cX8_moveDownPile 5 (some .int)) yX8_moveDownPile (rmL 6 0 0) 0 0 [.ref (g.2.1 + k)] w (oI q) := fun q hq => MM_of (own := RX8) hl (by decide) gw_842 rfl (Nat.le_of_ble_eq_true rfl) (W_X8_moveDownPile hl hk q hq) ⟨rfl, rfl⟩

theorem dX8_apply_0 : decode cX8_apply 0 = .ok (.iload_n 1, 1) := by decide +kernel
theorem dX8_apply_1 : decode cX8_apply 1 = .ok (.tableswitch 186 0 11 #[63, 71, 81, 91, 101, 110, 118, 130, 139, 149, 159, 181], 63) := by decide +kernel
theorem dX8_apply_64 : decode cX8_apply 64 = .ok (.aload_n 0, 1) := by decide +kernel
theorem dX8_apply_65 : decode cX8_apply 65 = .ok (.getfield 12, 3) := by decide +kernel
theorem dX8_apply_68 : decode cX8_apply 68 = .ok (.invokevirtual 104, 3) := by decide +kernel
theorem dX8_apply_71 : decode cX8_apply 71 = .ok (.ireturn, 1) := by decide +kernel
theorem dX8_apply_72 : decode cX8_apply 72 = .ok (.aload_n 0, 1) := by decide +kernel
theorem dX8_apply_73 : decode cX8_apply 73 = .ok (.getfield 12, 3) := by decide +kernel
theorem dX8_apply_76 : decode cX8_apply 76 = .ok (.iload_n 2, 1) := by decide +kernel
theorem dX8_apply_77 : decode cX8_apply 77 = .ok (.iload_n 3, 1) := by decide +kernel
theorem dX8_apply_78 : decode cX8_apply 78 = .ok (.invokevirtual 107, 3) := by decide +kernel
theorem dX8_apply_81 : decode cX8_apply 81 = .ok (.ireturn, 1) := by decide +kernel
theorem dX8_apply_82 : decode cX8_apply 82 = .ok (.aload_n 0, 1) := by decide +kernel
theorem dX8_apply_83 : decode cX8_apply 83 = .ok (.getfield 12, 3) := by decide +kernel
theorem dX8_apply_86 : decode cX8_apply 86 = .ok (.iload_n 2, 1) := by decide +kernel
theorem dX8_apply_87 : decode cX8_apply 87 = .ok (.iload_n 3, 1) := by decide +kernel
theorem dX8_apply_88 : decode cX8_apply 88 = .ok (.invokevirtual 110, 3) := by decide +kernel
theorem dX8_apply_91 : decode cX8_apply 91 = .ok (.ireturn, 1) := by decide +kernel
theorem dX8_apply_92 : decode cX8_apply 92 = .ok (.aload_n 0, 1) := by decide +kernel
theorem dX8_apply_93 : decode cX8_apply 93 = .ok (.getfield 12, 3) := by decide +kernel
theorem dX8_apply_96 : decode cX8_apply 96 = .ok (.iload_n 2, 1) := by decide +kernel
theorem dX8_apply_97 : decode cX8_apply 97 = .ok (.iload_n 3, 1) := by decide +kernel
theorem dX8_apply_98 : decode cX8_apply 98 = .ok (.invokevirtual 113, 3) := by decide +kernel
theorem dX8_apply_101 : decode cX8_apply 101 = .ok (.ireturn, 1) := by decide +kernel
theorem dX8_apply_102 : decode cX8_apply 102 = .ok (.aload_n 0, 1) := by decide +kernel
theorem dX8_apply_103 : decode cX8_apply 103 = .ok (.getfield 21, 3) := by decide +kernel
theorem dX8_apply_106 : decode cX8_apply 106 = .ok (.iload_n 2, 1) := by decide +kernel
theorem dX8_apply_107 : decode cX8_apply 107 = .ok (.invokevirtual 116, 3) := by decide +kernel
theorem dX8_apply_110 : decode cX8_apply 110 = .ok (.ireturn, 1) := by decide +kernel
theorem dX8_apply_111 : decode cX8_apply 111 = .ok (.aload_n 0, 1) := by decide +kernel
theorem dX8_apply_112 : decode cX8_apply 112 = .ok (.getfield 21, 3) := by decide +kernel
theorem dX8_apply_115 : decode cX8_apply 115 = .ok (.invokevirtual 119, 3) := by decide +kernel
theorem dX8_apply_118 : decode cX8_apply 118 = .ok (.ireturn, 1) := by decide +kernel
theorem dX8_apply_119 : decode cX8_apply 119 = .ok (.aload_n 0, 1) := by decide +kernel
theorem dX8_apply_120 : decode cX8_apply 120 = .ok (.getfield 28, 3) := by decide +kernel
theorem dX8_apply_123 : decode cX8_apply 123 = .ok (.iload_n 2, 1) := by decide +kernel
theorem dX8_apply_124 : decode cX8_apply 124 = .ok (.iload_n 3, 1) := by decide +kernel
theorem dX8_apply_125 : decode cX8_apply 125 = .ok (.iload 4, 2) := by decide +kernel
theorem dX8_apply_127 : decode cX8_apply 127 = .ok (.invokevirtual 122, 3) := by decide +kernel
theorem dX8_apply_130 : decode cX8_apply 130 = .ok (.ireturn, 1) := by decide +kernel
theorem dX8_apply_131 : decode cX8_apply 131 = .ok (.aload_n 0, 1) := by decide +kernel
theorem dX8_apply_132 : decode cX8_apply 132 = .ok (.getfield 28, 3) := by decide +kernel
theorem dX8_apply_135 : decode cX8_apply 135 = .ok (.iload_n 2, 1) := by decide +kernel
theorem dX8_apply_136 : decode cX8_apply 136 = .ok (.invokevirtual 124, 3) := by decide +kernel
theorem dX8_apply_139 : decode cX8_apply 139 = .ok (.ireturn, 1) := by decide +kernel
theorem dX8_apply_140 : decode cX8_apply 140 = .ok (.aload_n 0, 1) := by decide +kernel
theorem dX8_apply_141 : decode cX8_apply 141 = .ok (.getfield 28, 3) := by decide +kernel
theorem dX8_apply_144 : decode cX8_apply 144 = .ok (.iload_n 2, 1) := by decide +kernel
theorem dX8_apply_145 : decode cX8_apply 145 = .ok (.iconst 1, 1) := by decide +kernel
theorem dX8_apply_146 : decode cX8_apply 146 = .ok (.invokevirtual 127, 3) := by decide +kernel
theorem dX8_apply_149 : decode cX8_apply 149 = .ok (.ireturn, 1) := by decide +kernel
theorem dX8_apply_150 : decode cX8_apply 150 = .ok (.aload_n 0, 1) := by decide +kernel
theorem dX8_apply_151 : decode cX8_apply 151 = .ok (.getfield 28, 3) := by decide +kernel
theorem dX8_apply_154 : decode cX8_apply 154 = .ok (.iload_n 2, 1) := by decide +kernel
theorem dX8_apply_155 : decode cX8_apply 155 = .ok (.iconst 0, 1) := by decide +kernel
theorem dX8_apply_156 : decode cX8_apply 156 = .ok (.invokevirtual 127, 3) := by decide +kernel
theorem dX8_apply_159 : decode cX8_apply 159 = .ok (.ireturn, 1) := by decide +kernel
theorem dX8_apply_160 : decode cX8_apply 160 = .ok (.aload_n 0, 1) := by decide +kernel
theorem dX8_apply_161 : decode cX8_apply 161 = .ok (.aload 5, 2) := by decide +kernel
theorem dX8_apply_163 : decode cX8_apply 163 = .ok (.aload_n 0, 1) := by decide +kernel
theorem dX8_apply_164 : decode cX8_apply 164 = .ok (.getfield 28, 3) := by decide +kernel
theorem dX8_apply_167 : decode cX8_apply 167 = .ok (.aload_n 0, 1) := by decide +kernel
theorem dX8_apply_168 : decode cX8_apply 168 = .ok (.getfield 12, 3) := by decide +kernel
theorem dX8_apply_171 : decode cX8_apply 171 = .ok (.getfield 42, 3) := by decide +kernel
theorem dX8_apply_174 : decode cX8_apply 174 = .ok (.iconst (-1), 1) := by decide +kernel
theorem dX8_apply_175 : decode cX8_apply 175 = .ok (.invokevirtual 130, 3) := by decide +kernel
theorem dX8_apply_178 : decode cX8_apply 178 = .ok (.invokevirtual 136, 3) := by decide +kernel
theorem dX8_apply_181 : decode cX8_apply 181 = .ok (.ireturn, 1) := by decide +kernel
theorem dX8_apply_182 : decode cX8_apply 182 = .ok (.aload_n 0, 1) := by decide +kernel
theorem dX8_apply_183 : decode cX8_apply 183 = .ok (.invokevirtual 139, 3) := by decide +kernel
theorem dX8_apply_186 : decode cX8_apply 186 = .ok (.ireturn, 1) := by decide +kernel
theorem dX8_apply_187 : decode cX8_apply 187 = .ok (.iconst (-1), 1) := by decide +kernel
theorem dX8_apply_188 : decode cX8_apply 188 = .ok (.ireturn, 1) := by decide +kernel
def f_X8_apply (k : Nat) (x1 : Int32) (x2 : Int32) (x3 : Int32) (x4 : Int32) (w : XW) : Option (Int32 × XW) := (if x1 = 0 then (bI (f_X9_append (k + 1) w) (fun r2 w2 => (some (r2, w2)))) else (if x1 = 1 then (bI (f_X9_receivePoured (k + 1) x2 x3 w) (fun r4 w4 => (some (r4, w4)))) else (if x1 = 2 then (bI (f_X9_giveTerm (k + 1) x2 x3 w) (fun r6 w6 => (some (r6, w6)))) else (if x1 = 3 then (bI (f_X9_takeTerm (k + 1) x2 x3 w) (fun r8 w8 => (some (r8, w8)))) else (if x1 = 4 then (bI (f_X4_insert (k + 4) x2 w) (fun r10 w10 => (some (r10, w10)))) else (if x1 = 5 then (bI (f_X4_removeLast (k + 4) w) (fun r12 w12 => (some (r12, w12)))) else (if x1 = 6 then (bI (f_X5_append (k + 6) x2 x3 x4 w) (fun r14 w14 => (some (r14, w14)))) else (if x1 = 7 then (bI (f_X5_remove (k + 6) x2 w) (fun r16 w16 => (some (r16, w16)))) else (if x1 = 8 then (bI (f_X5_setBroken (k + 6) x2 1 w) (fun r18 w18 => (some (r18, w18)))) else (if x1 = 9 then (bI (f_X5_setBroken (k + 6) x2 0 w) (fun r20 w20 => (some (r20, w20)))) else (if x1 = 10 then (bI (f_X1_greatest (k + 6) (w.1 (k + 1) 0) (-1) w) (fun r22 w22 => (bI (f_X8_moveAlongPipes k r22 w22) (fun r23 w23 => (some (r23, w23)))))) else (if x1 = 11 then (bI (f_X8_moveDownPile k w) (fun r25 w25 => (some (r25, w25)))) else (some ((-1), w))))))))))))))
set_option maxRecDepth 100000 in
theorem W_X8_apply {g : GC} (hl : g.1.stackTraces = false) {k : Nat} (hk : isX8 k) {x1 : Int32} {x2 : Int32} {x3 : Int32} {x4 : Int32} {w : XW} : VE g cX8_apply 6 RX8 (some .int) [] (rmL 7 0 0) 0 0 oI 0 0 0 [(0, .ref (g.2.1 + k)), (1, .int x1), (2, .int x2), (3, .int x3), (4, .int x4), (5, .ref (g.2.1 + 124))] [] w (f_X8_apply k x1 x2 x3 x4 w) := by
  unfold f_X8_apply
  refine v_iload_n dX8_apply_0 rfl 1 rfl ?_
  refine v_split (fun h1 => ?_) (fun h1 => ?_)
  · refine v_tsIn (tgt := 64) 0 h1 dX8_apply_1 (by decide) (by decide) (by decide) (by decide) ?_
    refine v_aload_n dX8_apply_64 rfl 0 rfl ?_
    refine v_getR fl_X8_12 hk.1 rfl dX8_apply_65 ?_
    refine v_callVi (As := []) cv_X8_104 (S_X9_append hl hk.2.1) hk.2.1.1 rfl rfl rfl (Nat.le_of_ble_eq_true rfl) dX8_apply_68 (CR_rm (by decide) (by decide) (by decide) (by decide)) (fun r2 w2 => ?_)
    exact v_iret dX8_apply_71 rfl rfl (by decide) (by decide)
  refine v_split (fun h3 => ?_) (fun h3 => ?_)
  · refine v_tsIn (tgt := 72) 1 h3 dX8_apply_1 (by decide) (by decide) (by decide) (by decide) ?_
    refine v_aload_n dX8_apply_72 rfl 0 rfl ?_
    refine v_getR fl_X8_12 hk.1 rfl dX8_apply_73 ?_
    refine v_iload_n dX8_apply_76 rfl 2 rfl ?_
    refine v_iload_n dX8_apply_77 rfl 3 rfl ?_
    refine v_callVi (As := [.int x2, .int x3]) cv_X8_107 (S_X9_receivePoured hl hk.2.1) hk.2.1.1 rfl rfl rfl (Nat.le_of_ble_eq_true rfl) dX8_apply_78 (CR_rm (by decide) (by decide) (by decide) (by decide)) (fun r4 w4 => ?_)
    exact v_iret dX8_apply_81 rfl rfl (by decide) (by decide)
  refine v_split (fun h5 => ?_) (fun h5 => ?_)
  · refine v_tsIn (tgt := 82) 2 h5 dX8_apply_1 (by decide) (by decide) (by decide) (by decide) ?_
    refine v_aload_n dX8_apply_82 rfl 0 rfl ?_
    refine v_getR fl_X8_12 hk.1 rfl dX8_apply_83 ?_
    refine v_iload_n dX8_apply_86 rfl 2 rfl ?_
    refine v_iload_n dX8_apply_87 rfl 3 rfl ?_
    refine v_callVi (As := [.int x2, .int x3]) cv_X8_110 (S_X9_giveTerm hl hk.2.1) hk.2.1.1 rfl rfl rfl (Nat.le_of_ble_eq_true rfl) dX8_apply_88 (CR_rm (by decide) (by decide) (by decide) (by decide)) (fun r6 w6 => ?_)
    exact v_iret dX8_apply_91 rfl rfl (by decide) (by decide)
  refine v_split (fun h7 => ?_) (fun h7 => ?_)
  · refine v_tsIn (tgt := 92) 3 h7 dX8_apply_1 (by decide) (by decide) (by decide) (by decide) ?_
    refine v_aload_n dX8_apply_92 rfl 0 rfl ?_
    refine v_getR fl_X8_12 hk.1 rfl dX8_apply_93 ?_
    refine v_iload_n dX8_apply_96 rfl 2 rfl ?_
    refine v_iload_n dX8_apply_97 rfl 3 rfl ?_
    refine v_callVi (As := [.int x2, .int x3]) cv_X8_113 (S_X9_takeTerm hl hk.2.1) hk.2.1.1 rfl rfl rfl (Nat.le_of_ble_eq_true rfl) dX8_apply_98 (CR_rm (by decide) (by decide) (by decide) (by decide)) (fun r8 w8 => ?_)
    exact v_iret dX8_apply_101 rfl rfl (by decide) (by decide)
  refine v_split (fun h9 => ?_) (fun h9 => ?_)
  · refine v_tsIn (tgt := 102) 4 h9 dX8_apply_1 (by decide) (by decide) (by decide) (by decide) ?_
    refine v_aload_n dX8_apply_102 rfl 0 rfl ?_
    refine v_getR fl_X8_21 hk.1 rfl dX8_apply_103 ?_
    refine v_iload_n dX8_apply_106 rfl 2 rfl ?_
    refine v_callVi (As := [.int x2]) cv_X8_116 (S_X4_insert hl hk.2.2.1) hk.2.2.1.1 rfl rfl rfl (Nat.le_of_ble_eq_true rfl) dX8_apply_107 (CR_rm (by decide) (by decide) (by decide) (by decide)) (fun r10 w10 => ?_)
    exact v_iret dX8_apply_110 rfl rfl (by decide) (by decide)
  refine v_split (fun h11 => ?_) (fun h11 => ?_)
  · refine v_tsIn (tgt := 111) 5 h11 dX8_apply_1 (by decide) (by decide) (by decide) (by decide) ?_
    refine v_aload_n dX8_apply_111 rfl 0 rfl ?_
    refine v_getR fl_X8_21 hk.1 rfl dX8_apply_112 ?_
    refine v_callVi (As := []) cv_X8_119 (S_X4_removeLast hl hk.2.2.1) hk.2.2.1.1 rfl rfl rfl (Nat.le_of_ble_eq_true rfl) dX8_apply_115 (CR_rm (by decide) (by decide) (by decide) (by decide)) (fun r12 w12 => ?_)
    exact v_iret dX8_apply_118 rfl rfl (by decide) (by decide)
  refine v_split (fun h13 => ?_) (fun h13 => ?_)
  · refine v_tsIn (tgt := 119) 6 h13 dX8_apply_1 (by decide) (by decide) (by decide) (by decide) ?_
    refine v_aload_n dX8_apply_119 rfl 0 rfl ?_
    refine v_getR fl_X8_28 hk.1 rfl dX8_apply_120 ?_
    refine v_iload_n dX8_apply_123 rfl 2 rfl ?_
    refine v_iload_n dX8_apply_124 rfl 3 rfl ?_
    refine v_iload dX8_apply_125 4 rfl ?_
    refine v_callVi (As := [.int x2, .int x3, .int x4]) cv_X8_122 (S_X5_append hl hk.2.2.2) hk.2.2.2.1 rfl rfl rfl (Nat.le_of_ble_eq_true rfl) dX8_apply_127 (CR_rm (by decide) (by decide) (by decide) (by decide)) (fun r14 w14 => ?_)
    exact v_iret dX8_apply_130 rfl rfl (by decide) (by decide)
  refine v_split (fun h15 => ?_) (fun h15 => ?_)
  · refine v_tsIn (tgt := 131) 7 h15 dX8_apply_1 (by decide) (by decide) (by decide) (by decide) ?_
    refine v_aload_n dX8_apply_131 rfl 0 rfl ?_
    refine v_getR fl_X8_28 hk.1 rfl dX8_apply_132 ?_
    refine v_iload_n dX8_apply_135 rfl 2 rfl ?_
    refine v_callVi (As := [.int x2]) cv_X8_124 (S_X5_remove hl hk.2.2.2) hk.2.2.2.1 rfl rfl rfl (Nat.le_of_ble_eq_true rfl) dX8_apply_136 (CR_rm (by decide) (by decide) (by decide) (by decide)) (fun r16 w16 => ?_)
    exact v_iret dX8_apply_139 rfl rfl (by decide) (by decide)
  refine v_split (fun h17 => ?_) (fun h17 => ?_)
  · refine v_tsIn (tgt := 140) 8 h17 dX8_apply_1 (by decide) (by decide) (by decide) (by decide) ?_
    refine v_aload_n dX8_apply_140 rfl 0 rfl ?_
    refine v_getR fl_X8_28 hk.1 rfl dX8_apply_141 ?_
    refine v_iload_n dX8_apply_144 rfl 2 rfl ?_
    refine v_iconst (v := 1) dX8_apply_145 (by decide) ?_
    refine v_callVi (As := [.int x2, .int 1]) cv_X8_127 (S_X5_setBroken hl hk.2.2.2) hk.2.2.2.1 rfl rfl rfl (Nat.le_of_ble_eq_true rfl) dX8_apply_146 (CR_rm (by decide) (by decide) (by decide) (by decide)) (fun r18 w18 => ?_)
    exact v_iret dX8_apply_149 rfl rfl (by decide) (by decide)
  refine v_split (fun h19 => ?_) (fun h19 => ?_)
  · refine v_tsIn (tgt := 150) 9 h19 dX8_apply_1 (by decide) (by decide) (by decide) (by decide) ?_
    refine v_aload_n dX8_apply_150 rfl 0 rfl ?_
    refine v_getR fl_X8_28 hk.1 rfl dX8_apply_151 ?_
    refine v_iload_n dX8_apply_154 rfl 2 rfl ?_
    refine v_iconst (v := 0) dX8_apply_155 (by decide) ?_
    refine v_callVi (As := [.int x2, .int 0]) cv_X8_127 (S_X5_setBroken hl hk.2.2.2) hk.2.2.2.1 rfl rfl rfl (Nat.le_of_ble_eq_true rfl) dX8_apply_156 (CR_rm (by decide) (by decide) (by decide) (by decide)) (fun r20 w20 => ?_)
    exact v_iret dX8_apply_159 rfl rfl (by decide) (by decide)
  refine v_split (fun h21 => ?_) (fun h21 => ?_)
  · refine v_tsIn (tgt := 160) 10 h21 dX8_apply_1 (by decide) (by decide) (by decide) (by decide) ?_
    refine v_aload_n dX8_apply_160 rfl 0 rfl ?_
    refine v_aload dX8_apply_161 5 rfl ?_
    refine v_aload_n dX8_apply_163 rfl 0 rfl ?_
    refine v_getR fl_X8_28 hk.1 rfl dX8_apply_164 ?_
    refine v_aload_n dX8_apply_167 rfl 0 rfl ?_
    refine v_getR fl_X8_12 hk.1 rfl dX8_apply_168 ?_
    refine v_getI fl_X8_42 hk.2.1.1 rfl dX8_apply_171 ?_
    refine v_iconst (v := (-1)) dX8_apply_174 (by decide) ?_
    refine v_callVi (As := [.ref (g.2.1 + (k + 6)), .int (w.1 (k + 1) 0), .int (-1)]) cv_X8_130 (S_X1_greatest hl hk.2.2.2) tt_124 rfl rfl rfl (Nat.le_of_ble_eq_true rfl) dX8_apply_175 (CR_rm (by decide) (by decide) (by decide) (by decide)) (fun r22 w22 => ?_)
    refine v_callVi (As := [.int r22]) cv_X8_136 (S_X8_moveAlongPipes hl hk) hk.1 rfl rfl rfl (Nat.le_of_ble_eq_true rfl) dX8_apply_178 (CR_rm (by decide) (by decide) (by decide) (by decide)) (fun r23 w23 => ?_)
    exact v_iret dX8_apply_181 rfl rfl (by decide) (by decide)
  refine v_split (fun h24 => ?_) (fun h24 => ?_)
  · refine v_tsIn (tgt := 182) 11 h24 dX8_apply_1 (by decide) (by decide) (by decide) (by decide) ?_
    refine v_aload_n dX8_apply_182 rfl 0 rfl ?_
    refine v_callVi (As := []) cv_X8_139 (S_X8_moveDownPile hl hk) hk.1 rfl rfl rfl (Nat.le_of_ble_eq_true rfl) dX8_apply_183 (CR_rm (by decide) (by decide) (by decide) (by decide)) (fun r25 w25 => ?_)
    exact v_iret dX8_apply_186 rfl rfl (by decide) (by decide)
  have h1 := v_tsNe (z := 0) (by decide) h1
  have h3 := v_tsNe (z := 1) (by decide) h3
  have h5 := v_tsNe (z := 2) (by decide) h5
  have h7 := v_tsNe (z := 3) (by decide) h7
  have h9 := v_tsNe (z := 4) (by decide) h9
  have h11 := v_tsNe (z := 5) (by decide) h11
  have h13 := v_tsNe (z := 6) (by decide) h13
  have h15 := v_tsNe (z := 7) (by decide) h15
  have h17 := v_tsNe (z := 8) (by decide) h17
  have h19 := v_tsNe (z := 9) (by decide) h19
  have h21 := v_tsNe (z := 10) (by decide) h21
  have h24 := v_tsNe (z := 11) (by decide) h24
  refine v_tsOut (tgt := 187) dX8_apply_1 (by omega) (by decide) ?_
  refine v_iconst (v := (-1)) dX8_apply_187 (by decide) ?_
  exact v_iret dX8_apply_188 rfl rfl (by decide) (by decide)
theorem S_X8_apply {g : GC} (hl : g.1.stackTraces = false) {k : Nat} (hk : isX8 k) {x1 : Int32} {x2 : Int32} {x3 : Int32} {x4 : Int32} {w : XW} : ∀ q, f_X8_apply k x1 x2 x3 x4 w = some q → MM g (.code yX8_apply cX8_apply 6 (some .int)) yX8_apply (rmL 7 0 0) 0 0 [.ref (g.2.1 + k), .int x1, .int x2, .int x3, .int x4, .ref (g.2.1 + 124)] w (oI q) := fun q hq => MM_of (own := RX8) hl (by decide) gw_737 rfl (Nat.le_of_ble_eq_true rfl) (W_X8_apply hl hk q hq) ⟨rfl, rfl⟩
end
section
theorem dX3_stateAt_0 : decode cX3_stateAt 0 = .ok (.iload_n 1, 1) := by decide +kernel
theorem dX3_stateAt_1 : decode cX3_stateAt 1 = .ok (.ifCond .lt 21, 3) := by decide +kernel
theorem dX3_stateAt_4 : decode cX3_stateAt 4 = .ok (.iload_n 1, 1) := by decide +kernel
theorem dX3_stateAt_5 : decode cX3_stateAt 5 = .ok (.aload_n 0, 1) := by decide +kernel
theorem dX3_stateAt_6 : decode cX3_stateAt 6 = .ok (.getfield 11, 3) := by decide +kernel
theorem dX3_stateAt_9 : decode cX3_stateAt 9 = .ok (.arraylength, 1) := by decide +kernel
theorem dX3_stateAt_10 : decode cX3_stateAt 10 = .ok (.if_icmp .ge 12, 3) := by decide +kernel
theorem dX3_stateAt_13 : decode cX3_stateAt 13 = .ok (.aload_n 0, 1) := by decide +kernel
theorem dX3_stateAt_14 : decode cX3_stateAt 14 = .ok (.getfield 11, 3) := by decide +kernel
theorem dX3_stateAt_17 : decode cX3_stateAt 17 = .ok (.iload_n 1, 1) := by decide +kernel
theorem dX3_stateAt_18 : decode cX3_stateAt 18 = .ok (.aaload, 1) := by decide +kernel
theorem dX3_stateAt_19 : decode cX3_stateAt 19 = .ok (.goto 4, 3) := by decide +kernel
theorem dX3_stateAt_22 : decode cX3_stateAt 22 = .ok (.aconst_null, 1) := by decide +kernel
theorem dX3_stateAt_23 : decode cX3_stateAt 23 = .ok (.areturn, 1) := by decide +kernel
def f_X3_stateAt (x1 : Int32) (w : XW) : Option (Option Nat × XW) := (if x1 < 0 then (some (none, w)) else (if 8 ≤ x1 then (some (none, w)) else (if inB x1 8 then (some (some (36 + 11 * Int32.toNatClampNeg x1), w)) else none)))
set_option maxRecDepth 100000 in
theorem W_X3_stateAt {g : GC} (hl : g.1.stackTraces = false) {x1 : Int32} {w : XW} : VE g cX3_stateAt 2 RX3 (some (.object "FoldedArchive$State")) [] (rmL 3 0 0) 0 0 (oQ g) 0 0 0 [(0, .ref (g.2.1 + 34)), (1, .int x1)] [] w (f_X3_stateAt x1 w) := by
  unfold f_X3_stateAt
  refine v_iload_n dX3_stateAt_0 rfl 1 rfl ?_
  refine v_if_lt (tgt := 22) dX3_stateAt_1 (by decide) ?_ ?_
  · refine v_null dX3_stateAt_22 ?_
    exact v_aret dX3_stateAt_23 rfl (Or.inl ⟨_, rfl⟩) (Or.inl rfl) rfl (by decide) (by decide)
  · refine v_iload_n dX3_stateAt_4 rfl 1 rfl ?_
    refine v_aload_n dX3_stateAt_5 rfl 0 rfl ?_
    refine v_getR fl_X3_11 tt_34 rfl dX3_stateAt_6 ?_
    refine v_alen (v := 8) tt_35 (by decide) rfl dX3_stateAt_9 ?_
    refine v_icmp_ge (tgt := 22) dX3_stateAt_10 (by decide) ?_ ?_
    · refine v_null dX3_stateAt_22 ?_
      exact v_aret dX3_stateAt_23 rfl (Or.inl ⟨_, rfl⟩) (Or.inl rfl) rfl (by decide) (by decide)
    · refine v_aload_n dX3_stateAt_13 rfl 0 rfl ?_
      refine v_getR fl_X3_11 tt_34 rfl dX3_stateAt_14 ?_
      refine v_iload_n dX3_stateAt_17 rfl 1 rfl ?_
      refine v_guard (fun h1 => ?_)
      refine v_aald tt_35 h1 (aald8 h1) dX3_stateAt_18 ?_
      refine v_goto (tgt := 23) dX3_stateAt_19 (by decide) ?_
      exact v_aret dX3_stateAt_23 rfl (Or.inl ⟨_, rfl⟩) (Or.inr ⟨_, rfl⟩) rfl (by decide) (by decide)
theorem S_X3_stateAt {g : GC} (hl : g.1.stackTraces = false) {x1 : Int32} {w : XW} : ∀ q, f_X3_stateAt x1 w = some q → MM g (.code yX3_stateAt cX3_stateAt 2 (some (.object "FoldedArchive$State"))) yX3_stateAt (rmL 3 0 0) 0 0 [.ref (g.2.1 + 34), .int x1] w ((oQ g) q) := fun q hq => MM_of (own := RX3) hl (by decide) gw_731 rfl (Nat.le_of_ble_eq_true rfl) (W_X3_stateAt hl q hq) ⟨rfl, rfl⟩

theorem dX3_keep_0 : decode cX3_keep 0 = .ok (.aload_n 0, 1) := by decide +kernel
theorem dX3_keep_1 : decode cX3_keep 1 = .ok (.aload_n 0, 1) := by decide +kernel
theorem dX3_keep_2 : decode cX3_keep 2 = .ok (.getfield 18, 3) := by decide +kernel
theorem dX3_keep_5 : decode cX3_keep 5 = .ok (.invokevirtual 22, 3) := by decide +kernel
theorem dX3_keep_8 : decode cX3_keep 8 = .ok (.astore_n 2, 1) := by decide +kernel
theorem dX3_keep_9 : decode cX3_keep 9 = .ok (.aload_n 2, 1) := by decide +kernel
theorem dX3_keep_10 : decode cX3_keep 10 = .ok (.ifnull 8, 3) := by decide +kernel
theorem dX3_keep_13 : decode cX3_keep 13 = .ok (.aload_n 2, 1) := by decide +kernel
theorem dX3_keep_14 : decode cX3_keep 14 = .ok (.aload_n 1, 1) := by decide +kernel
theorem dX3_keep_15 : decode cX3_keep 15 = .ok (.invokevirtual 26, 3) := by decide +kernel
theorem dX3_keep_18 : decode cX3_keep 18 = .ok (.aload_n 0, 1) := by decide +kernel
theorem dX3_keep_19 : decode cX3_keep 19 = .ok (.aload_n 0, 1) := by decide +kernel
theorem dX3_keep_20 : decode cX3_keep 20 = .ok (.getfield 18, 3) := by decide +kernel
theorem dX3_keep_23 : decode cX3_keep 23 = .ok (.iconst 1, 1) := by decide +kernel
theorem dX3_keep_24 : decode cX3_keep 24 = .ok (.iadd, 1) := by decide +kernel
theorem dX3_keep_25 : decode cX3_keep 25 = .ok (.bipush 8, 2) := by decide +kernel
theorem dX3_keep_27 : decode cX3_keep 27 = .ok (.irem, 1) := by decide +kernel
theorem dX3_keep_28 : decode cX3_keep 28 = .ok (.putfield 18, 3) := by decide +kernel
theorem dX3_keep_31 : decode cX3_keep 31 = .ok (.aload_n 0, 1) := by decide +kernel
theorem dX3_keep_32 : decode cX3_keep 32 = .ok (.aload_n 0, 1) := by decide +kernel
theorem dX3_keep_33 : decode cX3_keep 33 = .ok (.getfield 30, 3) := by decide +kernel
theorem dX3_keep_36 : decode cX3_keep 36 = .ok (.iconst 1, 1) := by decide +kernel
theorem dX3_keep_37 : decode cX3_keep 37 = .ok (.iadd, 1) := by decide +kernel
theorem dX3_keep_38 : decode cX3_keep 38 = .ok (.bipush 8, 2) := by decide +kernel
theorem dX3_keep_40 : decode cX3_keep 40 = .ok (.invokestatic 33, 3) := by decide +kernel
theorem dX3_keep_43 : decode cX3_keep 43 = .ok (.putfield 30, 3) := by decide +kernel
theorem dX3_keep_46 : decode cX3_keep 46 = .ok (.return_, 1) := by decide +kernel
def f_X3_keep (k1 : Nat) (w : XW) : Option (XW) := (bQ (f_X3_stateAt (w.1 34 1) w) (fun w1 => (some (wset (wset w1 34 1 (((w1.1 34 1) + 1) - ((w1.1 34 1) + 1) / 8 * 8)) 34 2 (if 8 < (((wset w1 34 1 (((w1.1 34 1) + 1) - ((w1.1 34 1) + 1) / 8 * 8)).1 34 2) + 1) then 8 else (((wset w1 34 1 (((w1.1 34 1) + 1) - ((w1.1 34 1) + 1) / 8 * 8)).1 34 2) + 1))))) (fun t1 w1 => (if stOK t1 then (bV (f_X8_copyFrom t1 k1 w1) (fun w3 => (some (wset (wset w3 34 1 (((w3.1 34 1) + 1) - ((w3.1 34 1) + 1) / 8 * 8)) 34 2 (if 8 < (((wset w3 34 1 (((w3.1 34 1) + 1) - ((w3.1 34 1) + 1) / 8 * 8)).1 34 2) + 1) then 8 else (((wset w3 34 1 (((w3.1 34 1) + 1) - ((w3.1 34 1) + 1) / 8 * 8)).1 34 2) + 1)))))) else none)))
set_option maxRecDepth 100000 in
theorem W_X3_keep {g : GC} (hl : g.1.stackTraces = false) {k1 : Nat} (hk1 : isX8 k1) {w : XW} : VE g cX3_keep 3 RX3 none [] (rmL 5 0 0) 0 0 oV 0 0 0 [(0, .ref (g.2.1 + 34)), (1, .ref (g.2.1 + k1))] [] w (f_X3_keep k1 w) := by
  unfold f_X3_keep
  refine v_aload_n dX3_keep_0 rfl 0 rfl ?_
  refine v_aload_n dX3_keep_1 rfl 0 rfl ?_
  refine v_getI fl_X3_18 tt_34 rfl dX3_keep_2 ?_
  refine v_callVq (As := [.int (w.1 34 1)]) cv_X3_22 (S_X3_stateAt hl) tt_34 rfl rfl rfl (Nat.le_of_ble_eq_true rfl) dX3_keep_5 (CR_rm (by decide) (by decide) (by decide) (by decide)) (fun w1 => ?_) (fun t1 w1 => ?_)
  · refine v_astore_nN dX3_keep_8 rfl (Nat.le_of_ble_eq_true rfl) rfl ?_
    refine v_aload_nN dX3_keep_9 rfl 0 rfl ?_
    refine v_ifnullN (tgt := 18) dX3_keep_10 (by decide) ?_
    refine v_aload_n dX3_keep_18 rfl 1 rfl ?_
    refine v_aload_n dX3_keep_19 rfl 1 rfl ?_
    refine v_getI fl_X3_18 tt_34 rfl dX3_keep_20 ?_
    refine v_iconst (v := 1) dX3_keep_23 (by decide) ?_
    refine v_iadd dX3_keep_24 ?_
    refine v_bipush (v := 8) dX3_keep_25 (by decide) ?_
    refine v_irem dX3_keep_27 (by decide) ?_
    refine v_putI fl_X3_18 tt_34 rfl (ty0 := .int) rfl rfl rfl dX3_keep_28 ?_
    refine v_aload_n dX3_keep_31 rfl 1 rfl ?_
    refine v_aload_n dX3_keep_32 rfl 1 rfl ?_
    refine v_getI fl_X3_30 tt_34 rfl dX3_keep_33 ?_
    refine v_iconst (v := 1) dX3_keep_36 (by decide) ?_
    refine v_iadd dX3_keep_37 ?_
    refine v_bipush (v := 8) dX3_keep_38 (by decide) ?_
    refine v_min gw_733 gw_403 gw_98 gw_404 dX3_keep_40 (CR_f1 _ _ _) (CR_f2 (by decide) _ _ _) (by decide) (by decide) ?_
    refine v_putI fl_X3_30 tt_34 rfl (ty0 := .int) rfl rfl rfl dX3_keep_43 ?_
    exact v_vret dX3_keep_46 rfl rfl (by decide) (by decide)
  · refine v_astore_n dX3_keep_8 rfl (Nat.le_of_ble_eq_true rfl) rfl ?_
    refine v_aload_n dX3_keep_9 rfl 0 rfl ?_
    refine v_ifnull dX3_keep_10 ?_
    refine v_aload_n dX3_keep_13 rfl 0 rfl ?_
    refine v_aload_n dX3_keep_14 rfl 2 rfl ?_
    refine v_guard (fun h2 => ?_)
    refine v_callVv (As := [.ref (g.2.1 + k1)]) cv_X3_26 (S_X8_copyFrom hl (stOK_is h2) hk1) (stOK_is h2).1 rfl rfl rfl (Nat.le_of_ble_eq_true rfl) dX3_keep_15 (CR_rm (by decide) (by decide) (by decide) (by decide)) (fun w3 => ?_)
    refine v_aload_n dX3_keep_18 rfl 1 rfl ?_
    refine v_aload_n dX3_keep_19 rfl 1 rfl ?_
    refine v_getI fl_X3_18 tt_34 rfl dX3_keep_20 ?_
    refine v_iconst (v := 1) dX3_keep_23 (by decide) ?_
    refine v_iadd dX3_keep_24 ?_
    refine v_bipush (v := 8) dX3_keep_25 (by decide) ?_
    refine v_irem dX3_keep_27 (by decide) ?_
    refine v_putI fl_X3_18 tt_34 rfl (ty0 := .int) rfl rfl rfl dX3_keep_28 ?_
    refine v_aload_n dX3_keep_31 rfl 1 rfl ?_
    refine v_aload_n dX3_keep_32 rfl 1 rfl ?_
    refine v_getI fl_X3_30 tt_34 rfl dX3_keep_33 ?_
    refine v_iconst (v := 1) dX3_keep_36 (by decide) ?_
    refine v_iadd dX3_keep_37 ?_
    refine v_bipush (v := 8) dX3_keep_38 (by decide) ?_
    refine v_min gw_733 gw_403 gw_98 gw_404 dX3_keep_40 (CR_f1 _ _ _) (CR_f2 (by decide) _ _ _) (by decide) (by decide) ?_
    refine v_putI fl_X3_30 tt_34 rfl (ty0 := .int) rfl rfl rfl dX3_keep_43 ?_
    exact v_vret dX3_keep_46 rfl rfl (by decide) (by decide)
theorem S_X3_keep {g : GC} (hl : g.1.stackTraces = false) {k1 : Nat} (hk1 : isX8 k1) {w : XW} : ∀ q, f_X3_keep k1 w = some q → MM g (.code yX3_keep cX3_keep 3 none) yX3_keep (rmL 5 0 0) 0 0 [.ref (g.2.1 + 34), .ref (g.2.1 + k1)] w (oV q) := fun q hq => MM_of (own := RX3) hl (by decide) gw_727 rfl (Nat.le_of_ble_eq_true rfl) (W_X3_keep hl hk1 q hq) ⟨rfl, rfl⟩

theorem dX3_takeBack_0 : decode cX3_takeBack 0 = .ok (.aload_n 0, 1) := by decide +kernel
theorem dX3_takeBack_1 : decode cX3_takeBack 1 = .ok (.getfield 30, 3) := by decide +kernel
theorem dX3_takeBack_4 : decode cX3_takeBack 4 = .ok (.ifCond .le 47, 3) := by decide +kernel
theorem dX3_takeBack_7 : decode cX3_takeBack 7 = .ok (.aload_n 0, 1) := by decide +kernel
theorem dX3_takeBack_8 : decode cX3_takeBack 8 = .ok (.aload_n 0, 1) := by decide +kernel
theorem dX3_takeBack_9 : decode cX3_takeBack 9 = .ok (.getfield 18, 3) := by decide +kernel
theorem dX3_takeBack_12 : decode cX3_takeBack 12 = .ok (.bipush 8, 2) := by decide +kernel
theorem dX3_takeBack_14 : decode cX3_takeBack 14 = .ok (.iadd, 1) := by decide +kernel
theorem dX3_takeBack_15 : decode cX3_takeBack 15 = .ok (.iconst 1, 1) := by decide +kernel
theorem dX3_takeBack_16 : decode cX3_takeBack 16 = .ok (.isub, 1) := by decide +kernel
theorem dX3_takeBack_17 : decode cX3_takeBack 17 = .ok (.bipush 8, 2) := by decide +kernel
theorem dX3_takeBack_19 : decode cX3_takeBack 19 = .ok (.irem, 1) := by decide +kernel
theorem dX3_takeBack_20 : decode cX3_takeBack 20 = .ok (.putfield 18, 3) := by decide +kernel
theorem dX3_takeBack_23 : decode cX3_takeBack 23 = .ok (.aload_n 0, 1) := by decide +kernel
theorem dX3_takeBack_24 : decode cX3_takeBack 24 = .ok (.dup, 1) := by decide +kernel
theorem dX3_takeBack_25 : decode cX3_takeBack 25 = .ok (.getfield 30, 3) := by decide +kernel
theorem dX3_takeBack_28 : decode cX3_takeBack 28 = .ok (.iconst 1, 1) := by decide +kernel
theorem dX3_takeBack_29 : decode cX3_takeBack 29 = .ok (.isub, 1) := by decide +kernel
theorem dX3_takeBack_30 : decode cX3_takeBack 30 = .ok (.putfield 30, 3) := by decide +kernel
theorem dX3_takeBack_33 : decode cX3_takeBack 33 = .ok (.aload_n 0, 1) := by decide +kernel
theorem dX3_takeBack_34 : decode cX3_takeBack 34 = .ok (.aload_n 0, 1) := by decide +kernel
theorem dX3_takeBack_35 : decode cX3_takeBack 35 = .ok (.getfield 18, 3) := by decide +kernel
theorem dX3_takeBack_38 : decode cX3_takeBack 38 = .ok (.invokevirtual 22, 3) := by decide +kernel
theorem dX3_takeBack_41 : decode cX3_takeBack 41 = .ok (.astore_n 2, 1) := by decide +kernel
theorem dX3_takeBack_42 : decode cX3_takeBack 42 = .ok (.aload_n 2, 1) := by decide +kernel
theorem dX3_takeBack_43 : decode cX3_takeBack 43 = .ok (.ifnull 8, 3) := by decide +kernel
theorem dX3_takeBack_46 : decode cX3_takeBack 46 = .ok (.aload_n 1, 1) := by decide +kernel
theorem dX3_takeBack_47 : decode cX3_takeBack 47 = .ok (.aload_n 2, 1) := by decide +kernel
theorem dX3_takeBack_48 : decode cX3_takeBack 48 = .ok (.invokevirtual 26, 3) := by decide +kernel
theorem dX3_takeBack_51 : decode cX3_takeBack 51 = .ok (.return_, 1) := by decide +kernel
def f_X3_takeBack (k1 : Nat) (w : XW) : Option (XW) := (if (w.1 34 2) ≤ 0 then (some w) else (bQ (f_X3_stateAt ((wset (wset w 34 1 ((((w.1 34 1) + 8) - 1) - (((w.1 34 1) + 8) - 1) / 8 * 8)) 34 2 (((wset w 34 1 ((((w.1 34 1) + 8) - 1) - (((w.1 34 1) + 8) - 1) / 8 * 8)).1 34 2) - 1)).1 34 1) (wset (wset w 34 1 ((((w.1 34 1) + 8) - 1) - (((w.1 34 1) + 8) - 1) / 8 * 8)) 34 2 (((wset w 34 1 ((((w.1 34 1) + 8) - 1) - (((w.1 34 1) + 8) - 1) / 8 * 8)).1 34 2) - 1))) (fun w1 => (some w1)) (fun t1 w1 => (if stOK t1 then (bV (f_X8_copyFrom k1 t1 w1) (fun w3 => (some w3))) else none))))
set_option maxRecDepth 100000 in
theorem W_X3_takeBack {g : GC} (hl : g.1.stackTraces = false) {k1 : Nat} (hk1 : isX8 k1) {w : XW} : VE g cX3_takeBack 3 RX3 none [] (rmL 5 0 0) 0 0 oV 0 0 0 [(0, .ref (g.2.1 + 34)), (1, .ref (g.2.1 + k1))] [] w (f_X3_takeBack k1 w) := by
  unfold f_X3_takeBack
  refine v_aload_n dX3_takeBack_0 rfl 0 rfl ?_
  refine v_getI fl_X3_30 tt_34 rfl dX3_takeBack_1 ?_
  refine v_if_le (tgt := 51) dX3_takeBack_4 (by decide) ?_ ?_
  · exact v_vret dX3_takeBack_51 rfl rfl (by decide) (by decide)
  · refine v_aload_n dX3_takeBack_7 rfl 0 rfl ?_
    refine v_aload_n dX3_takeBack_8 rfl 0 rfl ?_
    refine v_getI fl_X3_18 tt_34 rfl dX3_takeBack_9 ?_
    refine v_bipush (v := 8) dX3_takeBack_12 (by decide) ?_
    refine v_iadd dX3_takeBack_14 ?_
    refine v_iconst (v := 1) dX3_takeBack_15 (by decide) ?_
    refine v_isub dX3_takeBack_16 ?_
    refine v_bipush (v := 8) dX3_takeBack_17 (by decide) ?_
    refine v_irem dX3_takeBack_19 (by decide) ?_
    refine v_putI fl_X3_18 tt_34 rfl (ty0 := .int) rfl rfl rfl dX3_takeBack_20 ?_
    refine v_aload_n dX3_takeBack_23 rfl 0 rfl ?_
    refine v_dup dX3_takeBack_24 rfl ?_
    refine v_getI fl_X3_30 tt_34 rfl dX3_takeBack_25 ?_
    refine v_iconst (v := 1) dX3_takeBack_28 (by decide) ?_
    refine v_isub dX3_takeBack_29 ?_
    refine v_putI fl_X3_30 tt_34 rfl (ty0 := .int) rfl rfl rfl dX3_takeBack_30 ?_
    refine v_aload_n dX3_takeBack_33 rfl 0 rfl ?_
    refine v_aload_n dX3_takeBack_34 rfl 0 rfl ?_
    refine v_getI fl_X3_18 tt_34 rfl dX3_takeBack_35 ?_
    refine v_callVq (As := [.int ((wset (wset w 34 1 ((((w.1 34 1) + 8) - 1) - (((w.1 34 1) + 8) - 1) / 8 * 8)) 34 2 (((wset w 34 1 ((((w.1 34 1) + 8) - 1) - (((w.1 34 1) + 8) - 1) / 8 * 8)).1 34 2) - 1)).1 34 1)]) cv_X3_22 (S_X3_stateAt hl) tt_34 rfl rfl rfl (Nat.le_of_ble_eq_true rfl) dX3_takeBack_38 (CR_rm (by decide) (by decide) (by decide) (by decide)) (fun w1 => ?_) (fun t1 w1 => ?_)
    · refine v_astore_nN dX3_takeBack_41 rfl (Nat.le_of_ble_eq_true rfl) rfl ?_
      refine v_aload_nN dX3_takeBack_42 rfl 0 rfl ?_
      refine v_ifnullN (tgt := 51) dX3_takeBack_43 (by decide) ?_
      exact v_vret dX3_takeBack_51 rfl rfl (by decide) (by decide)
    · refine v_astore_n dX3_takeBack_41 rfl (Nat.le_of_ble_eq_true rfl) rfl ?_
      refine v_aload_n dX3_takeBack_42 rfl 0 rfl ?_
      refine v_ifnull dX3_takeBack_43 ?_
      refine v_aload_n dX3_takeBack_46 rfl 2 rfl ?_
      refine v_aload_n dX3_takeBack_47 rfl 0 rfl ?_
      refine v_guard (fun h2 => ?_)
      refine v_callVv (As := [.ref (g.2.1 + t1)]) cv_X3_26 (S_X8_copyFrom hl hk1 (stOK_is h2)) hk1.1 rfl rfl rfl (Nat.le_of_ble_eq_true rfl) dX3_takeBack_48 (CR_rm (by decide) (by decide) (by decide) (by decide)) (fun w3 => ?_)
      exact v_vret dX3_takeBack_51 rfl rfl (by decide) (by decide)
theorem S_X3_takeBack {g : GC} (hl : g.1.stackTraces = false) {k1 : Nat} (hk1 : isX8 k1) {w : XW} : ∀ q, f_X3_takeBack k1 w = some q → MM g (.code yX3_takeBack cX3_takeBack 3 none) yX3_takeBack (rmL 5 0 0) 0 0 [.ref (g.2.1 + 34), .ref (g.2.1 + k1)] w (oV q) := fun q hq => MM_of (own := RX3) hl (by decide) gw_1418 rfl (Nat.le_of_ble_eq_true rfl) (W_X3_takeBack hl hk1 q hq) ⟨rfl, rfl⟩

theorem dX3_forget_0 : decode cX3_forget 0 = .ok (.aload_n 0, 1) := by decide +kernel
theorem dX3_forget_1 : decode cX3_forget 1 = .ok (.iconst 0, 1) := by decide +kernel
theorem dX3_forget_2 : decode cX3_forget 2 = .ok (.putfield 30, 3) := by decide +kernel
theorem dX3_forget_5 : decode cX3_forget 5 = .ok (.return_, 1) := by decide +kernel
def f_X3_forget (w : XW) : Option (XW) := (some (wset w 34 2 0))
set_option maxRecDepth 100000 in
theorem W_X3_forget {g : GC} (hl : g.1.stackTraces = false) {w : XW} : VE g cX3_forget 1 RX3 none [] (rmL 3 0 0) 0 0 oV 0 0 0 [(0, .ref (g.2.1 + 34))] [] w (f_X3_forget  w) := by
  unfold f_X3_forget
  refine v_aload_n dX3_forget_0 rfl 0 rfl ?_
  refine v_iconst (v := 0) dX3_forget_1 (by decide) ?_
  refine v_putI fl_X3_30 tt_34 rfl (ty0 := .int) rfl rfl rfl dX3_forget_2 ?_
  exact v_vret dX3_forget_5 rfl rfl (by decide) (by decide)
theorem S_X3_forget {g : GC} (hl : g.1.stackTraces = false) {w : XW} : ∀ q, f_X3_forget  w = some q → MM g (.code yX3_forget cX3_forget 1 none) yX3_forget (rmL 3 0 0) 0 0 [.ref (g.2.1 + 34)] w (oV q) := fun q hq => MM_of (own := RX3) hl (by decide) gw_1429 rfl (Nat.le_of_ble_eq_true rfl) (W_X3_forget hl q hq) ⟨rfl, rfl⟩
end
