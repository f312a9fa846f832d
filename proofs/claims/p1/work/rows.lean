section
-- ===== PART A: goes FIRST, ahead of the names: the tables' words, and 'selects' of the private methods out of them =====
/-- a private method of a class that the tables say can be made, by its rows of tables_1 -/
def lw_okq (q : MethodName × Nat) : Prop := (q.1.cls ≠ "java/lang/invoke/MethodHandle" ∧ q.1.cls ≠ "java/lang/invoke/VarHandle") ∧ Cond.instantiable q.1.cls q.2 ∈ tables_1 ∧ Cond.privateMethod q.1 ∈ tables_1 ∧ Cond.instanceMethod q.1 ∈ tables_1
theorem lw_p0 : lw_okq (⟨"PolyglotPier$Heap", "reachRoots", "(Z)V"⟩, 6) := ⟨⟨by decide +kernel, by decide +kernel⟩, List.mem_of_getElem? (i := 48) (by decide +kernel), List.mem_of_getElem? (i := 375) (by decide +kernel), List.mem_of_getElem? (i := 376) (by decide +kernel)⟩
theorem lw_p1 : lw_okq (⟨"PolyglotPier$Heap", "reach", "(LPolyglotPier$Value;Z)V"⟩, 6) := ⟨⟨by decide +kernel, by decide +kernel⟩, List.mem_of_getElem? (i := 48) (by decide +kernel), List.mem_of_getElem? (i := 379) (by decide +kernel), List.mem_of_getElem? (i := 380) (by decide +kernel)⟩
theorem lw_p2 : lw_okq (⟨"PolyglotPier$Heap", "reachThing", "(LPolyglotPier$Thing;)V"⟩, 6) := ⟨⟨by decide +kernel, by decide +kernel⟩, List.mem_of_getElem? (i := 48) (by decide +kernel), List.mem_of_getElem? (i := 383) (by decide +kernel), List.mem_of_getElem? (i := 384) (by decide +kernel)⟩
theorem lw_p3 : lw_okq (⟨"PolyglotPier$Heap", "free", "(LPolyglotPier$Thing;)V"⟩, 6) := ⟨⟨by decide +kernel, by decide +kernel⟩, List.mem_of_getElem? (i := 48) (by decide +kernel), List.mem_of_getElem? (i := 387) (by decide +kernel), List.mem_of_getElem? (i := 388) (by decide +kernel)⟩
theorem lw_p4 : lw_okq (⟨"PolyglotPier$Heap", "renewProxies", "()V"⟩, 6) := ⟨⟨by decide +kernel, by decide +kernel⟩, List.mem_of_getElem? (i := 48) (by decide +kernel), List.mem_of_getElem? (i := 391) (by decide +kernel), List.mem_of_getElem? (i := 392) (by decide +kernel)⟩
theorem lw_p5 : lw_okq (⟨"java/lang/Throwable", "fillInStackTrace", "(I)Ljava/lang/Throwable;"⟩, 6) := ⟨⟨by decide +kernel, by decide +kernel⟩, List.mem_of_getElem? (i := 489) (by decide +kernel), List.mem_of_getElem? (i := 487) (by decide +kernel), List.mem_of_getElem? (i := 488) (by decide +kernel)⟩
theorem lw_p6 : lw_okq (⟨"PolyglotPier", "requireFunction", "(I)V"⟩, 3) := ⟨⟨by decide +kernel, by decide +kernel⟩, List.mem_of_getElem? (i := 34) (by decide +kernel), List.mem_of_getElem? (i := 570) (by decide +kernel), List.mem_of_getElem? (i := 571) (by decide +kernel)⟩
theorem lw_p7 : lw_okq (⟨"PolyglotPier$Machine", "endCall", "(LPolyglotPier$Call;)I"⟩, 16) := ⟨⟨by decide +kernel, by decide +kernel⟩, List.mem_of_getElem? (i := 42) (by decide +kernel), List.mem_of_getElem? (i := 730) (by decide +kernel), List.mem_of_getElem? (i := 731) (by decide +kernel)⟩
theorem lw_p8 : lw_okq (⟨"PolyglotPier$Machine", "crossInRun", "(LPolyglotPier$Value;II)I"⟩, 16) := ⟨⟨by decide +kernel, by decide +kernel⟩, List.mem_of_getElem? (i := 42) (by decide +kernel), List.mem_of_getElem? (i := 738) (by decide +kernel), List.mem_of_getElem? (i := 739) (by decide +kernel)⟩
theorem lw_p9 : lw_okq (⟨"PolyglotPier$Machine", "faultAhead", "(LPolyglotPier$Call;II)I"⟩, 16) := ⟨⟨by decide +kernel, by decide +kernel⟩, List.mem_of_getElem? (i := 42) (by decide +kernel), List.mem_of_getElem? (i := 772) (by decide +kernel), List.mem_of_getElem? (i := 773) (by decide +kernel)⟩
theorem lw_p10 : lw_okq (⟨"PolyglotPier$Machine", "isNotThere", "(LPolyglotPier$Function;II)Z"⟩, 16) := ⟨⟨by decide +kernel, by decide +kernel⟩, List.mem_of_getElem? (i := 42) (by decide +kernel), List.mem_of_getElem? (i := 776) (by decide +kernel), List.mem_of_getElem? (i := 777) (by decide +kernel)⟩
theorem lw_p11 : lw_okq (⟨"PolyglotPier$Machine", "popsOf", "(II)I"⟩, 16) := ⟨⟨by decide +kernel, by decide +kernel⟩, List.mem_of_getElem? (i := 42) (by decide +kernel), List.mem_of_getElem? (i := 785) (by decide +kernel), List.mem_of_getElem? (i := 786) (by decide +kernel)⟩
theorem lw_p12 : lw_okq (⟨"PolyglotPier$Machine", "moveOn", "(LPolyglotPier$Call;II)I"⟩, 16) := ⟨⟨by decide +kernel, by decide +kernel⟩, List.mem_of_getElem? (i := 42) (by decide +kernel), List.mem_of_getElem? (i := 792) (by decide +kernel), List.mem_of_getElem? (i := 793) (by decide +kernel)⟩
theorem lw_p13 : lw_okq (⟨"PolyglotPier$Machine", "enter", "(II)I"⟩, 16) := ⟨⟨by decide +kernel, by decide +kernel⟩, List.mem_of_getElem? (i := 42) (by decide +kernel), List.mem_of_getElem? (i := 809) (by decide +kernel), List.mem_of_getElem? (i := 810) (by decide +kernel)⟩
theorem lw_p14 : lw_okq (⟨"PolyglotPier$Machine", "escape", "()I"⟩, 16) := ⟨⟨by decide +kernel, by decide +kernel⟩, List.mem_of_getElem? (i := 42) (by decide +kernel), List.mem_of_getElem? (i := 822) (by decide +kernel), List.mem_of_getElem? (i := 823) (by decide +kernel)⟩
theorem lw_p15 : lw_okq (⟨"PolyglotPier$Machine", "levelWithin", "(J)I"⟩, 16) := ⟨⟨by decide +kernel, by decide +kernel⟩, List.mem_of_getElem? (i := 42) (by decide +kernel), List.mem_of_getElem? (i := 826) (by decide +kernel), List.mem_of_getElem? (i := 827) (by decide +kernel)⟩
def lw_privs_1 : List (MethodName × Nat) := [(⟨"PolyglotPier$Heap", "reachRoots", "(Z)V"⟩, 6), (⟨"PolyglotPier$Heap", "reach", "(LPolyglotPier$Value;Z)V"⟩, 6), (⟨"PolyglotPier$Heap", "reachThing", "(LPolyglotPier$Thing;)V"⟩, 6), (⟨"PolyglotPier$Heap", "free", "(LPolyglotPier$Thing;)V"⟩, 6), (⟨"PolyglotPier$Heap", "renewProxies", "()V"⟩, 6), (⟨"java/lang/Throwable", "fillInStackTrace", "(I)Ljava/lang/Throwable;"⟩, 6), (⟨"PolyglotPier", "requireFunction", "(I)V"⟩, 3), (⟨"PolyglotPier$Machine", "endCall", "(LPolyglotPier$Call;)I"⟩, 16), (⟨"PolyglotPier$Machine", "crossInRun", "(LPolyglotPier$Value;II)I"⟩, 16), (⟨"PolyglotPier$Machine", "faultAhead", "(LPolyglotPier$Call;II)I"⟩, 16), (⟨"PolyglotPier$Machine", "isNotThere", "(LPolyglotPier$Function;II)Z"⟩, 16), (⟨"PolyglotPier$Machine", "popsOf", "(II)I"⟩, 16), (⟨"PolyglotPier$Machine", "moveOn", "(LPolyglotPier$Call;II)I"⟩, 16), (⟨"PolyglotPier$Machine", "enter", "(II)I"⟩, 16), (⟨"PolyglotPier$Machine", "escape", "()I"⟩, 16), (⟨"PolyglotPier$Machine", "levelWithin", "(J)I"⟩, 16)]
theorem lw_r1 : ∀ q ∈ lw_privs_1, lw_okq q := List.forall_mem_cons.mpr ⟨lw_p0, List.forall_mem_cons.mpr ⟨lw_p1, List.forall_mem_cons.mpr ⟨lw_p2, List.forall_mem_cons.mpr ⟨lw_p3, List.forall_mem_cons.mpr ⟨lw_p4, List.forall_mem_cons.mpr ⟨lw_p5, List.forall_mem_cons.mpr ⟨lw_p6, List.forall_mem_cons.mpr ⟨lw_p7, List.forall_mem_cons.mpr ⟨lw_p8, List.forall_mem_cons.mpr ⟨lw_p9, List.forall_mem_cons.mpr ⟨lw_p10, List.forall_mem_cons.mpr ⟨lw_p11, List.forall_mem_cons.mpr ⟨lw_p12, List.forall_mem_cons.mpr ⟨lw_p13, List.forall_mem_cons.mpr ⟨lw_p14, List.forall_mem_cons.mpr ⟨lw_p15, fun _ h => absurd h List.not_mem_nil⟩⟩⟩⟩⟩⟩⟩⟩⟩⟩⟩⟩⟩⟩⟩⟩
theorem lw_p16 : lw_okq (⟨"PolyglotPier$Machine", "goOn", "(LPolyglotPier$Call;ILPolyglotPier$Value;)V"⟩, 16) := ⟨⟨by decide +kernel, by decide +kernel⟩, List.mem_of_getElem? (i := 42) (by decide +kernel), List.mem_of_getElem? (i := 830) (by decide +kernel), List.mem_of_getElem? (i := 831) (by decide +kernel)⟩
theorem lw_p17 : lw_okq (⟨"PolyglotPier$Machine", "doCode", "(LPolyglotPier$Call;II)I"⟩, 16) := ⟨⟨by decide +kernel, by decide +kernel⟩, List.mem_of_getElem? (i := 42) (by decide +kernel), List.mem_of_getElem? (i := 834) (by decide +kernel), List.mem_of_getElem? (i := 835) (by decide +kernel)⟩
theorem lw_p18 : lw_okq (⟨"PolyglotPier$Machine", "pushNewThing", "(I)I"⟩, 16) := ⟨⟨by decide +kernel, by decide +kernel⟩, List.mem_of_getElem? (i := 42) (by decide +kernel), List.mem_of_getElem? (i := 846) (by decide +kernel), List.mem_of_getElem? (i := 847) (by decide +kernel)⟩
theorem lw_p19 : lw_okq (⟨"PolyglotPier$Machine", "readField", "(II)I"⟩, 16) := ⟨⟨by decide +kernel, by decide +kernel⟩, List.mem_of_getElem? (i := 42) (by decide +kernel), List.mem_of_getElem? (i := 864) (by decide +kernel), List.mem_of_getElem? (i := 865) (by decide +kernel)⟩
theorem lw_p20 : lw_okq (⟨"PolyglotPier$Machine", "writeField", "(II)I"⟩, 16) := ⟨⟨by decide +kernel, by decide +kernel⟩, List.mem_of_getElem? (i := 42) (by decide +kernel), List.mem_of_getElem? (i := 869) (by decide +kernel), List.mem_of_getElem? (i := 870) (by decide +kernel)⟩
theorem lw_p21 : lw_okq (⟨"PolyglotPier$Machine", "combine", "(II)I"⟩, 16) := ⟨⟨by decide +kernel, by decide +kernel⟩, List.mem_of_getElem? (i := 42) (by decide +kernel), List.mem_of_getElem? (i := 877) (by decide +kernel), List.mem_of_getElem? (i := 878) (by decide +kernel)⟩
theorem lw_p22 : lw_okq (⟨"PolyglotPier$Value", "isSameNumber", "(LPolyglotPier$Value;)Z"⟩, 6) := ⟨⟨by decide +kernel, by decide +kernel⟩, List.mem_of_getElem? (i := 57) (by decide +kernel), List.mem_of_getElem? (i := 886) (by decide +kernel), List.mem_of_getElem? (i := 887) (by decide +kernel)⟩
theorem lw_p23 : lw_okq (⟨"PolyglotPier$Machine", "raise", "(I)V"⟩, 16) := ⟨⟨by decide +kernel, by decide +kernel⟩, List.mem_of_getElem? (i := 42) (by decide +kernel), List.mem_of_getElem? (i := 918) (by decide +kernel), List.mem_of_getElem? (i := 919) (by decide +kernel)⟩
theorem lw_p24 : lw_okq (⟨"PolyglotPier$Machine", "beginThrowAt", "(I)V"⟩, 16) := ⟨⟨by decide +kernel, by decide +kernel⟩, List.mem_of_getElem? (i := 42) (by decide +kernel), List.mem_of_getElem? (i := 922) (by decide +kernel), List.mem_of_getElem? (i := 923) (by decide +kernel)⟩
theorem lw_p25 : lw_okq (⟨"PolyglotPier", "requireThrow", "()V"⟩, 3) := ⟨⟨by decide +kernel, by decide +kernel⟩, List.mem_of_getElem? (i := 34) (by decide +kernel), List.mem_of_getElem? (i := 991) (by decide +kernel), List.mem_of_getElem? (i := 992) (by decide +kernel)⟩
theorem lw_p26 : lw_okq (⟨"PolyglotPier", "referredThing", "(II)LPolyglotPier$Thing;"⟩, 3) := ⟨⟨by decide +kernel, by decide +kernel⟩, List.mem_of_getElem? (i := 34) (by decide +kernel), List.mem_of_getElem? (i := 1050) (by decide +kernel), List.mem_of_getElem? (i := 1051) (by decide +kernel)⟩
theorem lw_p27 : lw_okq (⟨"PolyglotPier", "thingThere", "(I)LPolyglotPier$Thing;"⟩, 3) := ⟨⟨by decide +kernel, by decide +kernel⟩, List.mem_of_getElem? (i := 34) (by decide +kernel), List.mem_of_getElem? (i := 1131) (by decide +kernel), List.mem_of_getElem? (i := 1132) (by decide +kernel)⟩
theorem lw_p28 : lw_okq (⟨"PolyglotPierModel", "fails", "(I)I"⟩, 31) := ⟨⟨by decide +kernel, by decide +kernel⟩, List.mem_of_getElem? (i := 1173) (by decide +kernel), List.mem_of_getElem? (i := 1317) (by decide +kernel), List.mem_of_getElem? (i := 1318) (by decide +kernel)⟩
theorem lw_p29 : lw_okq (⟨"PolyglotPierModel", "isFunction", "(I)Z"⟩, 31) := ⟨⟨by decide +kernel, by decide +kernel⟩, List.mem_of_getElem? (i := 1173) (by decide +kernel), List.mem_of_getElem? (i := 1325) (by decide +kernel), List.mem_of_getElem? (i := 1326) (by decide +kernel)⟩
theorem lw_p30 : lw_okq (⟨"PolyglotPierModel", "begins", "(I)LPolyglotPierModel$Call;"⟩, 31) := ⟨⟨by decide +kernel, by decide +kernel⟩, List.mem_of_getElem? (i := 1173) (by decide +kernel), List.mem_of_getElem? (i := 1339) (by decide +kernel), List.mem_of_getElem? (i := 1340) (by decide +kernel)⟩
theorem lw_p31 : lw_okq (⟨"PolyglotPierModel", "crosses", "(LPolyglotPierModel$Val;II)LPolyglotPierModel$Val;"⟩, 31) := ⟨⟨by decide +kernel, by decide +kernel⟩, List.mem_of_getElem? (i := 1173) (by decide +kernel), List.mem_of_getElem? (i := 1378) (by decide +kernel), List.mem_of_getElem? (i := 1379) (by decide +kernel)⟩
def lw_privs_2 : List (MethodName × Nat) := [(⟨"PolyglotPier$Machine", "goOn", "(LPolyglotPier$Call;ILPolyglotPier$Value;)V"⟩, 16), (⟨"PolyglotPier$Machine", "doCode", "(LPolyglotPier$Call;II)I"⟩, 16), (⟨"PolyglotPier$Machine", "pushNewThing", "(I)I"⟩, 16), (⟨"PolyglotPier$Machine", "readField", "(II)I"⟩, 16), (⟨"PolyglotPier$Machine", "writeField", "(II)I"⟩, 16), (⟨"PolyglotPier$Machine", "combine", "(II)I"⟩, 16), (⟨"PolyglotPier$Value", "isSameNumber", "(LPolyglotPier$Value;)Z"⟩, 6), (⟨"PolyglotPier$Machine", "raise", "(I)V"⟩, 16), (⟨"PolyglotPier$Machine", "beginThrowAt", "(I)V"⟩, 16), (⟨"PolyglotPier", "requireThrow", "()V"⟩, 3), (⟨"PolyglotPier", "referredThing", "(II)LPolyglotPier$Thing;"⟩, 3), (⟨"PolyglotPier", "thingThere", "(I)LPolyglotPier$Thing;"⟩, 3), (⟨"PolyglotPierModel", "fails", "(I)I"⟩, 31), (⟨"PolyglotPierModel", "isFunction", "(I)Z"⟩, 31), (⟨"PolyglotPierModel", "begins", "(I)LPolyglotPierModel$Call;"⟩, 31), (⟨"PolyglotPierModel", "crosses", "(LPolyglotPierModel$Val;II)LPolyglotPierModel$Val;"⟩, 31)]
theorem lw_r2 : ∀ q ∈ lw_privs_2, lw_okq q := List.forall_mem_cons.mpr ⟨lw_p16, List.forall_mem_cons.mpr ⟨lw_p17, List.forall_mem_cons.mpr ⟨lw_p18, List.forall_mem_cons.mpr ⟨lw_p19, List.forall_mem_cons.mpr ⟨lw_p20, List.forall_mem_cons.mpr ⟨lw_p21, List.forall_mem_cons.mpr ⟨lw_p22, List.forall_mem_cons.mpr ⟨lw_p23, List.forall_mem_cons.mpr ⟨lw_p24, List.forall_mem_cons.mpr ⟨lw_p25, List.forall_mem_cons.mpr ⟨lw_p26, List.forall_mem_cons.mpr ⟨lw_p27, List.forall_mem_cons.mpr ⟨lw_p28, List.forall_mem_cons.mpr ⟨lw_p29, List.forall_mem_cons.mpr ⟨lw_p30, List.forall_mem_cons.mpr ⟨lw_p31, fun _ h => absurd h List.not_mem_nil⟩⟩⟩⟩⟩⟩⟩⟩⟩⟩⟩⟩⟩⟩⟩⟩
theorem lw_p32 : lw_okq (⟨"PolyglotPierModel", "crossed", "(LPolyglotPierModel$Val;II)LPolyglotPierModel$Val;"⟩, 31) := ⟨⟨by decide +kernel, by decide +kernel⟩, List.mem_of_getElem? (i := 1173) (by decide +kernel), List.mem_of_getElem? (i := 1382) (by decide +kernel), List.mem_of_getElem? (i := 1383) (by decide +kernel)⟩
theorem lw_p33 : lw_okq (⟨"PolyglotPierModel", "returns", "(LPolyglotPierModel$Val;)V"⟩, 31) := ⟨⟨by decide +kernel, by decide +kernel⟩, List.mem_of_getElem? (i := 1173) (by decide +kernel), List.mem_of_getElem? (i := 1423) (by decide +kernel), List.mem_of_getElem? (i := 1424) (by decide +kernel)⟩
theorem lw_p34 : lw_okq (⟨"PolyglotPierModel", "pushes", "(LPolyglotPierModel$Call;LPolyglotPierModel$Val;)V"⟩, 31) := ⟨⟨by decide +kernel, by decide +kernel⟩, List.mem_of_getElem? (i := 1173) (by decide +kernel), List.mem_of_getElem? (i := 1427) (by decide +kernel), List.mem_of_getElem? (i := 1428) (by decide +kernel)⟩
theorem lw_p35 : lw_okq (⟨"PolyglotPierModel", "does", "(LPolyglotPierModel$Call;)V"⟩, 31) := ⟨⟨by decide +kernel, by decide +kernel⟩, List.mem_of_getElem? (i := 1173) (by decide +kernel), List.mem_of_getElem? (i := 1431) (by decide +kernel), List.mem_of_getElem? (i := 1432) (by decide +kernel)⟩
theorem lw_p36 : lw_okq (⟨"PolyglotPierModel", "moves", "(LPolyglotPierModel$Call;ICI)Z"⟩, 31) := ⟨⟨by decide +kernel, by decide +kernel⟩, List.mem_of_getElem? (i := 1173) (by decide +kernel), List.mem_of_getElem? (i := 1435) (by decide +kernel), List.mem_of_getElem? (i := 1436) (by decide +kernel)⟩
theorem lw_p37 : lw_okq (⟨"PolyglotPierModel", "global", "(II)LPolyglotPierModel$Val;"⟩, 31) := ⟨⟨by decide +kernel, by decide +kernel⟩, List.mem_of_getElem? (i := 1173) (by decide +kernel), List.mem_of_getElem? (i := 1440) (by decide +kernel), List.mem_of_getElem? (i := 1441) (by decide +kernel)⟩
theorem lw_p38 : lw_okq (⟨"PolyglotPierModel", "pops", "(LPolyglotPierModel$Call;)LPolyglotPierModel$Val;"⟩, 31) := ⟨⟨by decide +kernel, by decide +kernel⟩, List.mem_of_getElem? (i := 1173) (by decide +kernel), List.mem_of_getElem? (i := 1444) (by decide +kernel), List.mem_of_getElem? (i := 1445) (by decide +kernel)⟩
theorem lw_p39 : lw_okq (⟨"PolyglotPierModel", "setsGlobal", "(IILPolyglotPierModel$Val;)V"⟩, 31) := ⟨⟨by decide +kernel, by decide +kernel⟩, List.mem_of_getElem? (i := 1173) (by decide +kernel), List.mem_of_getElem? (i := 1448) (by decide +kernel), List.mem_of_getElem? (i := 1449) (by decide +kernel)⟩
theorem lw_p40 : lw_okq (⟨"PolyglotPierModel", "notes", "(LPolyglotPierModel$Val;)V"⟩, 31) := ⟨⟨by decide +kernel, by decide +kernel⟩, List.mem_of_getElem? (i := 1173) (by decide +kernel), List.mem_of_getElem? (i := 1452) (by decide +kernel), List.mem_of_getElem? (i := 1453) (by decide +kernel)⟩
theorem lw_p41 : lw_okq (⟨"PolyglotPierModel", "pairs", "(LPolyglotPierModel$Call;IC)V"⟩, 31) := ⟨⟨by decide +kernel, by decide +kernel⟩, List.mem_of_getElem? (i := 1173) (by decide +kernel), List.mem_of_getElem? (i := 1456) (by decide +kernel), List.mem_of_getElem? (i := 1457) (by decide +kernel)⟩
theorem lw_p42 : lw_okq (⟨"PolyglotPierModel", "reckoned", "(ICLPolyglotPierModel$Val;LPolyglotPierModel$Val;)LPolyglotPierModel$Val;"⟩, 31) := ⟨⟨by decide +kernel, by decide +kernel⟩, List.mem_of_getElem? (i := 1173) (by decide +kernel), List.mem_of_getElem? (i := 1471) (by decide +kernel), List.mem_of_getElem? (i := 1472) (by decide +kernel)⟩
theorem lw_p43 : lw_okq (⟨"PolyglotPierModel", "handles", "(LPolyglotPierModel$Call;ICI)Z"⟩, 31) := ⟨⟨by decide +kernel, by decide +kernel⟩, List.mem_of_getElem? (i := 1173) (by decide +kernel), List.mem_of_getElem? (i := 1475) (by decide +kernel), List.mem_of_getElem? (i := 1476) (by decide +kernel)⟩
theorem lw_p44 : lw_okq (⟨"PolyglotPierModel", "thereNow", "()I"⟩, 31) := ⟨⟨by decide +kernel, by decide +kernel⟩, List.mem_of_getElem? (i := 1173) (by decide +kernel), List.mem_of_getElem? (i := 1479) (by decide +kernel), List.mem_of_getElem? (i := 1480) (by decide +kernel)⟩
theorem lw_p45 : lw_okq (⟨"PolyglotPierModel", "makes", "(I)I"⟩, 31) := ⟨⟨by decide +kernel, by decide +kernel⟩, List.mem_of_getElem? (i := 1173) (by decide +kernel), List.mem_of_getElem? (i := 1483) (by decide +kernel), List.mem_of_getElem? (i := 1484) (by decide +kernel)⟩
theorem lw_p46 : lw_okq (⟨"PolyglotPierModel", "setsField", "(IILPolyglotPierModel$Val;)V"⟩, 31) := ⟨⟨by decide +kernel, by decide +kernel⟩, List.mem_of_getElem? (i := 1173) (by decide +kernel), List.mem_of_getElem? (i := 1490) (by decide +kernel), List.mem_of_getElem? (i := 1491) (by decide +kernel)⟩
theorem lw_p47 : lw_okq (⟨"PolyglotPierModel", "goesTo", "(LPolyglotPierModel$Call;I)V"⟩, 31) := ⟨⟨by decide +kernel, by decide +kernel⟩, List.mem_of_getElem? (i := 1173) (by decide +kernel), List.mem_of_getElem? (i := 1494) (by decide +kernel), List.mem_of_getElem? (i := 1495) (by decide +kernel)⟩
def lw_privs_3 : List (MethodName × Nat) := [(⟨"PolyglotPierModel", "crossed", "(LPolyglotPierModel$Val;II)LPolyglotPierModel$Val;"⟩, 31), (⟨"PolyglotPierModel", "returns", "(LPolyglotPierModel$Val;)V"⟩, 31), (⟨"PolyglotPierModel", "pushes", "(LPolyglotPierModel$Call;LPolyglotPierModel$Val;)V"⟩, 31), (⟨"PolyglotPierModel", "does", "(LPolyglotPierModel$Call;)V"⟩, 31), (⟨"PolyglotPierModel", "moves", "(LPolyglotPierModel$Call;ICI)Z"⟩, 31), (⟨"PolyglotPierModel", "global", "(II)LPolyglotPierModel$Val;"⟩, 31), (⟨"PolyglotPierModel", "pops", "(LPolyglotPierModel$Call;)LPolyglotPierModel$Val;"⟩, 31), (⟨"PolyglotPierModel", "setsGlobal", "(IILPolyglotPierModel$Val;)V"⟩, 31), (⟨"PolyglotPierModel", "notes", "(LPolyglotPierModel$Val;)V"⟩, 31), (⟨"PolyglotPierModel", "pairs", "(LPolyglotPierModel$Call;IC)V"⟩, 31), (⟨"PolyglotPierModel", "reckoned", "(ICLPolyglotPierModel$Val;LPolyglotPierModel$Val;)LPolyglotPierModel$Val;"⟩, 31), (⟨"PolyglotPierModel", "handles", "(LPolyglotPierModel$Call;ICI)Z"⟩, 31), (⟨"PolyglotPierModel", "thereNow", "()I"⟩, 31), (⟨"PolyglotPierModel", "makes", "(I)I"⟩, 31), (⟨"PolyglotPierModel", "setsField", "(IILPolyglotPierModel$Val;)V"⟩, 31), (⟨"PolyglotPierModel", "goesTo", "(LPolyglotPierModel$Call;I)V"⟩, 31)]
theorem lw_r3 : ∀ q ∈ lw_privs_3, lw_okq q := List.forall_mem_cons.mpr ⟨lw_p32, List.forall_mem_cons.mpr ⟨lw_p33, List.forall_mem_cons.mpr ⟨lw_p34, List.forall_mem_cons.mpr ⟨lw_p35, List.forall_mem_cons.mpr ⟨lw_p36, List.forall_mem_cons.mpr ⟨lw_p37, List.forall_mem_cons.mpr ⟨lw_p38, List.forall_mem_cons.mpr ⟨lw_p39, List.forall_mem_cons.mpr ⟨lw_p40, List.forall_mem_cons.mpr ⟨lw_p41, List.forall_mem_cons.mpr ⟨lw_p42, List.forall_mem_cons.mpr ⟨lw_p43, List.forall_mem_cons.mpr ⟨lw_p44, List.forall_mem_cons.mpr ⟨lw_p45, List.forall_mem_cons.mpr ⟨lw_p46, List.forall_mem_cons.mpr ⟨lw_p47, fun _ h => absurd h List.not_mem_nil⟩⟩⟩⟩⟩⟩⟩⟩⟩⟩⟩⟩⟩⟩⟩⟩
theorem lw_p48 : lw_okq (⟨"PolyglotPierModel", "isPlace", "(II)Z"⟩, 31) := ⟨⟨by decide +kernel, by decide +kernel⟩, List.mem_of_getElem? (i := 1173) (by decide +kernel), List.mem_of_getElem? (i := 1498) (by decide +kernel), List.mem_of_getElem? (i := 1499) (by decide +kernel)⟩
theorem lw_p49 : lw_okq (⟨"PolyglotPierModel", "callsOther", "(LPolyglotPierModel$Call;II)V"⟩, 31) := ⟨⟨by decide +kernel, by decide +kernel⟩, List.mem_of_getElem? (i := 1173) (by decide +kernel), List.mem_of_getElem? (i := 1502) (by decide +kernel), List.mem_of_getElem? (i := 1503) (by decide +kernel)⟩
theorem lw_p50 : lw_okq (⟨"PolyglotPierModel", "raises", "(LPolyglotPierModel$Val;)V"⟩, 31) := ⟨⟨by decide +kernel, by decide +kernel⟩, List.mem_of_getElem? (i := 1173) (by decide +kernel), List.mem_of_getElem? (i := 1506) (by decide +kernel), List.mem_of_getElem? (i := 1507) (by decide +kernel)⟩
theorem lw_p51 : lw_okq (⟨"PolyglotPierModel", "traces", "(I)V"⟩, 31) := ⟨⟨by decide +kernel, by decide +kernel⟩, List.mem_of_getElem? (i := 1173) (by decide +kernel), List.mem_of_getElem? (i := 1510) (by decide +kernel), List.mem_of_getElem? (i := 1511) (by decide +kernel)⟩
theorem lw_p52 : lw_okq (⟨"PolyglotPierModel", "escapes", "(LPolyglotPierModel$Call;I)V"⟩, 31) := ⟨⟨by decide +kernel, by decide +kernel⟩, List.mem_of_getElem? (i := 1173) (by decide +kernel), List.mem_of_getElem? (i := 1514) (by decide +kernel), List.mem_of_getElem? (i := 1515) (by decide +kernel)⟩
theorem lw_p53 : lw_okq (⟨"PolyglotPierModel", "looksAtCounts", "()I"⟩, 31) := ⟨⟨by decide +kernel, by decide +kernel⟩, List.mem_of_getElem? (i := 1173) (by decide +kernel), List.mem_of_getElem? (i := 1518) (by decide +kernel), List.mem_of_getElem? (i := 1519) (by decide +kernel)⟩
theorem lw_p54 : lw_okq (⟨"PolyglotPierModel", "countOf", "(I)I"⟩, 31) := ⟨⟨by decide +kernel, by decide +kernel⟩, List.mem_of_getElem? (i := 1173) (by decide +kernel), List.mem_of_getElem? (i := 1522) (by decide +kernel), List.mem_of_getElem? (i := 1523) (by decide +kernel)⟩
theorem lw_p55 : lw_okq (⟨"PolyglotPierModel", "references", "(II)I"⟩, 31) := ⟨⟨by decide +kernel, by decide +kernel⟩, List.mem_of_getElem? (i := 1173) (by decide +kernel), List.mem_of_getElem? (i := 1526) (by decide +kernel), List.mem_of_getElem? (i := 1527) (by decide +kernel)⟩
theorem lw_p56 : lw_okq (⟨"PolyglotPierModel", "frees", "(I)V"⟩, 31) := ⟨⟨by decide +kernel, by decide +kernel⟩, List.mem_of_getElem? (i := 1173) (by decide +kernel), List.mem_of_getElem? (i := 1533) (by decide +kernel), List.mem_of_getElem? (i := 1534) (by decide +kernel)⟩
theorem lw_p57 : lw_okq (⟨"PolyglotPierModel", "last", "()LPolyglotPierModel$Val;"⟩, 31) := ⟨⟨by decide +kernel, by decide +kernel⟩, List.mem_of_getElem? (i := 1173) (by decide +kernel), List.mem_of_getElem? (i := 1541) (by decide +kernel), List.mem_of_getElem? (i := 1542) (by decide +kernel)⟩
theorem lw_p58 : lw_okq (⟨"PolyglotPierModel", "collects", "(IZ)I"⟩, 31) := ⟨⟨by decide +kernel, by decide +kernel⟩, List.mem_of_getElem? (i := 1173) (by decide +kernel), List.mem_of_getElem? (i := 1624) (by decide +kernel), List.mem_of_getElem? (i := 1625) (by decide +kernel)⟩
theorem lw_p59 : lw_okq (⟨"PolyglotPierModel", "reached", "(IZ)[Z"⟩, 31) := ⟨⟨by decide +kernel, by decide +kernel⟩, List.mem_of_getElem? (i := 1173) (by decide +kernel), List.mem_of_getElem? (i := 1628) (by decide +kernel), List.mem_of_getElem? (i := 1629) (by decide +kernel)⟩
theorem lw_p60 : lw_okq (⟨"PolyglotPierModel", "findsProxies", "()V"⟩, 31) := ⟨⟨by decide +kernel, by decide +kernel⟩, List.mem_of_getElem? (i := 1173) (by decide +kernel), List.mem_of_getElem? (i := 1632) (by decide +kernel), List.mem_of_getElem? (i := 1633) (by decide +kernel)⟩
def lw_privs_4 : List (MethodName × Nat) := [(⟨"PolyglotPierModel", "isPlace", "(II)Z"⟩, 31), (⟨"PolyglotPierModel", "callsOther", "(LPolyglotPierModel$Call;II)V"⟩, 31), (⟨"PolyglotPierModel", "raises", "(LPolyglotPierModel$Val;)V"⟩, 31), (⟨"PolyglotPierModel", "traces", "(I)V"⟩, 31), (⟨"PolyglotPierModel", "escapes", "(LPolyglotPierModel$Call;I)V"⟩, 31), (⟨"PolyglotPierModel", "looksAtCounts", "()I"⟩, 31), (⟨"PolyglotPierModel", "countOf", "(I)I"⟩, 31), (⟨"PolyglotPierModel", "references", "(II)I"⟩, 31), (⟨"PolyglotPierModel", "frees", "(I)V"⟩, 31), (⟨"PolyglotPierModel", "last", "()LPolyglotPierModel$Val;"⟩, 31), (⟨"PolyglotPierModel", "collects", "(IZ)I"⟩, 31), (⟨"PolyglotPierModel", "reached", "(IZ)[Z"⟩, 31), (⟨"PolyglotPierModel", "findsProxies", "()V"⟩, 31)]
theorem lw_r4 : ∀ q ∈ lw_privs_4, lw_okq q := List.forall_mem_cons.mpr ⟨lw_p48, List.forall_mem_cons.mpr ⟨lw_p49, List.forall_mem_cons.mpr ⟨lw_p50, List.forall_mem_cons.mpr ⟨lw_p51, List.forall_mem_cons.mpr ⟨lw_p52, List.forall_mem_cons.mpr ⟨lw_p53, List.forall_mem_cons.mpr ⟨lw_p54, List.forall_mem_cons.mpr ⟨lw_p55, List.forall_mem_cons.mpr ⟨lw_p56, List.forall_mem_cons.mpr ⟨lw_p57, List.forall_mem_cons.mpr ⟨lw_p58, List.forall_mem_cons.mpr ⟨lw_p59, List.forall_mem_cons.mpr ⟨lw_p60, fun _ h => absurd h List.not_mem_nil⟩⟩⟩⟩⟩⟩⟩⟩⟩⟩⟩⟩⟩
def lw_privs : List (MethodName × Nat) := lw_privs_1 ++ (lw_privs_2 ++ (lw_privs_3 ++ (lw_privs_4)))
def lw_tbl : List Cond := k2_sels lw_privs ++ tables_1
theorem lw_privs_ok : ∀ q ∈ lw_privs, lw_okq q := by
  show ∀ q ∈ lw_privs_1 ++ (lw_privs_2 ++ (lw_privs_3 ++ (lw_privs_4))), lw_okq q
  exact List.forall_mem_append.mpr ⟨lw_r1, List.forall_mem_append.mpr ⟨lw_r2, List.forall_mem_append.mpr ⟨lw_r3, lw_r4⟩⟩⟩
/-- the streams that the claim lets the run draw from -/
abbrev lw_cs : List Choice := [Jvm.Choice.named "NaN.bits", Jvm.Choice.named "NaN.copy"]
theorem lw_bits : nanBits ∈ lw_cs := by first | decide | exact List.mem_cons_self | simp [lw_cs, nanBits]
-- ===== end of PART A; then your names; then what follows =====
end
section
/-! ===== BEGIN words of one list among another's, by their places ===== -/
theorem goodIn_r {big : List Cond} (ws : List Cond) (ps : List Nat) (hp : ws = ps.filterMap (fun i => big[i]?)) (h : ws.all goodWord = true) : GoodIn big ws := by
  intro w hw
  have h1 := List.all_eq_true.mp h w hw
  rw [hp] at hw
  obtain ⟨i, -, hi⟩ := List.mem_filterMap.mp hw
  have hm : w ∈ big := by first | exact List.mem_of_getElem? hi | exact List.getElem?_mem hi
  exact ⟨hm, good_of_word h1⟩
theorem goodIn_app {big a b : List Cond} (ha : GoodIn big a) (hb : GoodIn big b) : GoodIn big (a ++ b) := fun w h => (List.mem_append.mp h).elim (ha w) (hb w)
theorem goodIn_ca {big a b : List Cond} {c : Cond} (ha : GoodIn big (c :: a)) (hb : GoodIn big b) : GoodIn big (c :: (a ++ b)) := fun w h => (List.mem_cons.mp h).elim (fun e => ha w (List.mem_cons.mpr (Or.inl e))) (fun h => (List.mem_append.mp h).elim (fun h => ha w (List.mem_cons.mpr (Or.inr h))) (hb w))
theorem goodIn_sub {big ws : List Cond} (hm : ∀ w ∈ ws, w ∈ big) (h : ws.all goodWord = true) : GoodIn big ws := fun w hw => ⟨hm w hw, good_of_word (List.all_eq_true.mp h w hw)⟩
/-! ===== END ===== -/

/-! ===== BEGIN exceptions that leave a method, and their catching by the caller (launches without stack traces) ===== -/
section VXA
/-! The laws vx_back, vx_callV, vx_callS, vx_callSW, vx_throw0, vx_throwS follow proofs of the library, with one case more: JvmDerived/Free/Laws.lean (Back.of_free), Shelf42/LK1.lean (callV, callS), Shelf/KitTraced.lean (throwNew0V, throwNewS). -/
/-- where a method has thrown q: the class by its name, the cell, what was written, the world -/
def vx_T (XC : String → State → State → Prop) (st : State) (q : Addr) (t : State) (mc ms : Nat) (free : Addr → Prop) : Prop :=
  ∃ (E : String) (ce : Cell) (L : List Loc), XC E st t ∧ t.heap[q]? = some ce ∧ ce.vm = .none ∧ st.vm.findClass E = some ce.cls ∧ st.WarmedH t.vm ∧ st.sameButNew ({ t with vm := st.vm } : State) L mc ms ∧ ∀ z ∈ L, free z.base
def vx_Q (Qc : Array Value → State → Outcome → State → Prop) (XC : String → State → State → Prop) (mc ms : Nat) (free : Addr → Prop) : Array Value → State → Outcome → State → Prop := fun a st o t =>
  (Qc a st o t ∧ ∃ L, FrameEnd st o t L mc ms ∧ ∀ q ∈ L, free q.base) ∨ ∃ q, o = .threw q ∧ vx_T XC st q t mc ms free
/-- a callee that returns or throws -/
def vx_Met (l : Launch) (y : MethodName) (ws : List Cond) (rm : Room) (Pc : Array Value → State → Prop) (Qc : Array Value → State → Outcome → State → Prop) (XC : String → State → State → Prop) (mc ms : Nat) (free : Addr → Prop) : Prop :=
  MetFree l y (headSpec ws rm) Pc (fun _ _ _ _ _ => True) (vx_Q Qc XC mc ms free)
def vx_Post (XC : String → State → State → Prop) (mc ms : Nat) (free : Addr → Prop) : Pt → Array Value → Addr → Pt → Prop := fun A a q B =>
  ∃ (g : JFrame) (mk : MethodId) (t : State) (L : List Loc) (E : String) (ce : Cell), B.U.heap = t.heap ∧ B.U.vm = t.vm ∧ XC E (A.U.calling g mk a) t ∧ t.heap[q]? = some ce ∧ ce.vm = .none ∧ A.U.vm.findClass E = some ce.cls ∧ B.locs = A.locs ++ L ∧ (∀ z ∈ L, free z.base) ∧ B.cells = A.cells + mc ∧ B.slots = A.slots + ms
def vx_Back (l : Launch) (R : Room) (p : Program) (e : Env) (below : List Frame) (s : State) (sargs : Array Value) (y : MethodName) (len W9 : Nat)
    (Pre : Pt → Array Value → Prop) (Post : Pt → Array Value → Option Value → Pt → Prop) (PostX : Pt → Array Value → Addr → Pt → Prop) : Prop :=
  ∀ (m : MethodId) (meth : Method) (c : Code) (A : Pt) (g : JFrame) (ig : Instr) (mk : MethodId) (a : Array Value),
    Stand p l e R s m sargs below meth c A.U A.locs A.cells A.slots → g.method = m → g.locals.size = c.maxLocals → decode c.code g.pc = .ok (ig, len) →
    2 * g.monitorRoom + (g.stack.map fun v => v.category).sum ≤ W9 → A.U.methodNamed? y = some mk → Pre A a →
    (∃ (v : Option Value) (B : Pt), Stand p l e R s m sargs below meth c B.U B.locs B.cells B.slots ∧ Post A a v B ∧
      Steps p.tables e below (doInvoke e (A.U.setTop g) [] mk a).1 (B.U.setTop { g with pc := g.pc + len, stack := v.toList ++ g.stack })) ∨
    (∃ (q : Addr) (B : Pt), Stand p l e R s m sargs below meth c B.U B.locs B.cells B.slots ∧ PostX A a q B ∧
      Steps p.tables e below (doInvoke e (A.U.setTop g) [] mk a).1 ((B.U.setTop g).pushFrame (.throwing q)))
section Payer
variable {l : Launch} {R : Room} {p : Program} {e : Env} {below : List Frame} {s : State} {sargs : Array Value} {y : MethodName} {len W9 : Nat}
theorem vx_back {ws : List Cond} {rm : Room} {Pc : Array Value → State → Prop} {Qc : Array Value → State → Outcome → State → Prop} {XC : String → State → State → Prop} {mc ms : Nat} {free : Addr → Prop} {bytes : ByteArray} {maxL : Nat} {ret : Option FieldType}
    (hM : vx_Met l y ws rm Pc Qc XC mc ms free) (hblind : FrameBlind Pc) (hrc : rm.cells = mc) (hrs : rm.slots = ms)
    (hframes : rm.frames + 1 ≤ R.frames) (hlocals : W9 + (maxL + 11) + rm.locals ≤ R.locals)
    (hws : ∀ w ∈ ws, ∀ a' U, s.WarmedH U.vm → w.before a' U = true) (hcode : Cond.code y bytes maxL ret ∈ ws) (hinit : ∀ a' U, s.WarmedH U.vm → (Cond.initialized y.cls).before a' U = true) :
    vx_Back l R p e below s sargs y len W9 (PreOf R mc ms Pc) (PostOf Qc mc ms free) (vx_Post XC mc ms free) := by
  intro m meth c A g ig mk a X hg hsize hdg hW hn hp
  have h1 : (headSpec ws rm).pre.before a A.U = true := atoms_intro fun w hw => hws w hw _ _ X.warmed
  have h2 : (Cond.code y bytes maxL ret).before a A.U = true := hws _ hcode _ _ X.warmed
  have h3 : (Cond.initialized y.cls).before a A.U = true := hinit _ _ X.warmed
  have h4 : A.cells + (headSpec ws rm).room.cells ≤ R.cells := by rw [show (headSpec ws rm).room.cells = mc from hrc]; exact hp.1
  have h5 : A.slots + (headSpec ws rm).room.slots ≤ R.slots := by rw [show (headSpec ws rm).room.slots = ms from hrs]; exact hp.2.1
  have hPc : Pc a (A.U.calling g mk a) := hblind _ _ _ _ hp.2.2
  obtain ⟨U, Ls, c0, s0⟩ := A
  dsimp only [Pt.U, Pt.locs, Pt.cells, Pt.slots] at h1 h2 h3 h4 h5 X hn hPc ⊢
  obtain ⟨methY, cY, hmY, hcY, -, hlY, -, -, -, -⟩ := Cond.code_spec hn h2
  obtain ⟨kY, hkY, -⟩ := className_of_methodNamed hn
  have hinitY : kY.init = .initialized := Cond.initialized_spec (findClass_of_methodNamed hn) hkY h3
  have h : At U g.method c below := by rw [hg]; exact X.here
  have hlocals9 : W9 + (maxL + 11) + (headSpec ws rm).room.locals ≤ R.locals := hlocals
  have happ : (headSpec ws rm).appliesLoose y e.platform (U.calling g mk a) = true :=
    Spec.appliesLoose_calling (g := g) h hdg hn hkY hinitY
      (X.room_calling (g := g) (R' := (headSpec ws rm).room) hsize hmY hcY hframes (by rw [hlY]; omega) h4 h5) h1
  obtain ⟨mid, hmid⟩ := h.above
  have hfr : (U.setTop g).frames = (.java g :: mid) ++ below := by rw [State.frames_setTop' g h.top, hmid]; rfl
  obtain ⟨o, s₂, hsteps, -, hend, hq⟩ := Steps.callFree hM p X.admits X.cas X.clock (acts := []) hfr happ hPc trivial
  have hq' : vx_Q Qc XC mc ms free a (U.calling g mk a) o s₂ := hq
  rw [State.frames_setTop' g h.top] at hend
  obtain ⟨g₀, hg0⟩ := Option.isSome_iff_exists.mp h.top
  obtain ⟨r, hr⟩ := State.topJava?_eq_some.mp hg0
  have hr' : (({ U with heap := s₂.heap, slotsUsed := s₂.slotsUsed } : State).setVm s₂.vm).frames = .java g₀ :: r := hr
  rcases hq' with ⟨hqc, L, hfe, hL⟩ | ⟨q, rfl, E, ce, L, hx, hce, hcv, hcl, hW₂, hsm, hL⟩
  · obtain ⟨⟨v, rfl⟩, hW₂, e2, q2, q3, q4, q5, q6⟩ := id hfe
    have e3 : s₂ = ({ (U.calling g mk a).setFrames s₂.frames with heap := s₂.heap, slotsUsed := s₂.slotsUsed } : State).setVm s₂.vm := by
      have : s₂ = ({ s₂ with vm := (U.calling g mk a).vm } : State).setVm s₂.vm := rfl
      rw [e2] at this
      exact this
    obtain ⟨c₂, i₂, len₂, hc₂, hd₂, hf₂⟩ := hend
    have hW' : U.WarmedH s₂.vm := hW₂
    have hcc : c₂ = c := by
      have h1 : s₂.code? g.method = U.code? g.method := by
        rw [State.code?_eq, State.code?_eq, hW'.alike.method?]
      exact Option.some.inj (hc₂.symm.trans (h1.trans h.code))
    subst hcc
    have hlen : len₂ = len := by rw [hdg] at hd₂; cases hd₂; rfl
    subst hlen
    have hs₂ : s₂ = (({ U with heap := s₂.heap, slotsUsed := s₂.slotsUsed } : State).setVm s₂.vm).setTop { g with pc := g.pc + len₂, stack := v.toList ++ g.stack } := by
      refine e3.trans ?_
      rw [hf₂, State.calling_eq h.top, State.setFrames_setFrames, State.setTop_of_frames _ hr', hr]
      rfl
    have hsame : U.sameButNew ({ U with heap := s₂.heap, slotsUsed := s₂.slotsUsed } : State) L mc ms := by
      refine ⟨?_, q2, q3, q4, q5, q6⟩
      obtain ⟨t, ht, -⟩ := State.frames_cons hr
      show ({ U with heap := s₂.heap, slotsUsed := s₂.slotsUsed } : State) = { U.setFrames U.frames with heap := s₂.heap, slotsUsed := s₂.slotsUsed }
      rw [State.setFrames_self ht]
    subst hg
    refine Or.inl ⟨v, ⟨(({ U with heap := s₂.heap, slotsUsed := s₂.slotsUsed } : State).setVm s₂.vm), Ls ++ L, c0 + mc, s0 + ms⟩,
      ⟨X.admits, X.cas, X.clock, X.frames, X.room, X.hears, X.method, X.code, (X.here.setHeapUsed s₂.heap s₂.slotsUsed).setVm hW'.alike, X.tail, State.WarmedH.trans X.warmed hW', X.limits, X.bytes, X.same.trans (hsame.setVm s.vm)⟩,
      ⟨g, mk, s₂, L, rfl, rfl, hqc, rfl, hL, rfl, rfl⟩, ?_⟩
    show Steps p.tables e below _ ((({ U with heap := s₂.heap, slotsUsed := s₂.slotsUsed } : State).setVm s₂.vm).setTop { g with pc := g.pc + len₂, stack := v.toList ++ g.stack })
    rw [← hs₂]
    exact hsteps
  · obtain ⟨e2, q2, q3, q4, q5, q6⟩ := id hsm
    have e3 : s₂ = ({ (U.calling g mk a).setFrames s₂.frames with heap := s₂.heap, slotsUsed := s₂.slotsUsed } : State).setVm s₂.vm := by
      have : s₂ = ({ s₂ with vm := (U.calling g mk a).vm } : State).setVm s₂.vm := rfl
      rw [e2] at this
      exact this
    have hf₂ : s₂.frames = .throwing q :: .java g :: U.frames.tail := hend
    have hW' : U.WarmedH s₂.vm := hW₂
    have hs₂ : s₂ = ((({ U with heap := s₂.heap, slotsUsed := s₂.slotsUsed } : State).setVm s₂.vm).setTop g).pushFrame (.throwing q) := by
      refine e3.trans ?_
      rw [hf₂, State.calling_eq h.top, State.setFrames_setFrames, State.pushFrame, State.frames_setTop _ hr', State.setTop_of_frames _ hr', State.setFrames_setFrames, hr]
      rfl
    have hsame : U.sameButNew ({ U with heap := s₂.heap, slotsUsed := s₂.slotsUsed } : State) L mc ms := by
      refine ⟨?_, q2, q3, q4, q5, q6⟩
      obtain ⟨t, ht, -⟩ := State.frames_cons hr
      show ({ U with heap := s₂.heap, slotsUsed := s₂.slotsUsed } : State) = { U.setFrames U.frames with heap := s₂.heap, slotsUsed := s₂.slotsUsed }
      rw [State.setFrames_self ht]
    subst hg
    refine Or.inr ⟨q, ⟨(({ U with heap := s₂.heap, slotsUsed := s₂.slotsUsed } : State).setVm s₂.vm), Ls ++ L, c0 + mc, s0 + ms⟩,
      ⟨X.admits, X.cas, X.clock, X.frames, X.room, X.hears, X.method, X.code, (X.here.setHeapUsed s₂.heap s₂.slotsUsed).setVm hW'.alike, X.tail, State.WarmedH.trans X.warmed hW', X.limits, X.bytes, X.same.trans (hsame.setVm s.vm)⟩,
      ⟨g, mk, s₂, L, E, ce, rfl, rfl, hx, hce, hcv, hcl, rfl, hL, rfl, rfl⟩, ?_⟩
    show Steps p.tables e below _ (((({ U with heap := s₂.heap, slotsUsed := s₂.slotsUsed } : State).setVm s₂.vm).setTop g).pushFrame (.throwing q))
    rw [← hs₂]
    exact hsteps
end Payer
section Calls
variable {p : Program} {l : Launch} {e : Env} {R : Room} {s : State} {m : MethodId} {args : Array Value} {below : List Frame} {meth : Method} {c : Code} {T : State} {locs : List Loc} {cells slots : Nat}
theorem vx_callV (X : Stand p l e R s m args below meth c T locs cells slots) (hexec : p.tables.exec = Jvm.exec) {own C : String} {index : Nat} {y : MethodName} {bytes : ByteArray} {maxL : Nat} {ret : Option FieldType}
    (hown : s.vm.findClass own = some m.cls) (hlink : (Cond.methodLink own index y).before args s = true) (hinst : (Cond.instanceMethod y).before args s = true) (hsel : (Cond.selects C y y).before args s = true)
    (hcode : (Cond.code y bytes maxL ret).before args s = true) (hy : y.cls ≠ "java/lang/invoke/MethodHandle" ∧ y.cls ≠ "java/lang/invoke/VarHandle")
    {W9 : Nat} {Pre : Pt → Array Value → Prop} {Post : Pt → Array Value → Option Value → Pt → Prop} {PostX : Pt → Array Value → Addr → Pt → Prop} (hK : vx_Back l R p e below s args y 3 W9 Pre Post PostX)
    {b : Addr} {cellB : Cell} (hcell : T.heap[b]? = some cellB) (hobj : cellB.vm.isStatics = false) (hcls : s.vm.findClass C = some cellB.cls)
    {g : JFrame} (hg : g.method = m) (hsize : g.locals.size = c.maxLocals) {argsL rest : List Value} (hlen : ∀ sig, parseMethodDescriptor y.desc = some sig → argsL.length = sig.parameters.length)
    (hstack : g.stack = argsL.reverse ++ .ref b :: rest) (hW : 2 * g.monitorRoom + (rest.map fun v => v.category).sum ≤ W9) (hdg : decode c.code g.pc = .ok (.invokevirtual index, 3))
    (hpre : ∀ vm₁, s.WarmedH vm₁ → Pre ⟨T.setVm vm₁, locs, cells, slots⟩ (Value.ref b :: argsL).toArray) :
    (∃ (v : Option Value) (vm₁ : Vm) (B : Pt), s.WarmedH vm₁ ∧ Stand p l e R s m args below meth c B.U B.locs B.cells B.slots ∧ Post ⟨T.setVm vm₁, locs, cells, slots⟩ (Value.ref b :: argsL).toArray v B ∧
      ∀ target, Steps p.tables e below (B.U.setTop { g with pc := g.pc + 3, stack := v.toList ++ rest }) target → Steps p.tables e below (T.setTop g) target) ∨
    (∃ (q : Addr) (vm₁ : Vm) (B : Pt), s.WarmedH vm₁ ∧ Stand p l e R s m args below meth c B.U B.locs B.cells B.slots ∧ PostX ⟨T.setVm vm₁, locs, cells, slots⟩ (Value.ref b :: argsL).toArray q B ∧
      Steps p.tables e below (T.setTop g) ((B.U.setTop { g with stack := rest }).pushFrame (.throwing q))) := by
  obtain ⟨mk, methM, hnamed, hmethM, hstM, habM⟩ := Cond.instanceMethod_spec hinst
  obtain ⟨methM', cM, hmethM', -, -, -, -, -, -, hsigM⟩ := Cond.code_spec hnamed hcode
  cases hmethM.symm.trans hmethM'
  obtain ⟨c2, r2, m2, q1, q2, q3, q4, kP, hkP, hkPi⟩ := Cond.selects_spec hsel
  cases hcls.symm.trans q1
  cases (State.methodFound?_of_named hnamed hy).symm.trans q2
  cases hnamed.symm.trans q3
  have hselP : selectMethod e.platform s.vm cellB.cls mk = .method mk := by rw [Launch.admits_selectMethod X.admits]; exact q4
  obtain ⟨vm₁, X₁, hstep₁⟩ := X.invokevirtual hexec hown hlink hnamed hmethM hstM hkP hkPi hy (a := b) (cell := cellB) hcell
    (fun z h => by rw [h] at hobj; cases hobj) hselP hmethM habM hkP hkPi (g := g) hg (argsL := argsL) (rest := rest) (hlen _ hsigM) hstack hdg
  rcases hK m meth c ⟨T.setVm vm₁, locs, cells, slots⟩ { g with stack := rest } (.invokevirtual index) mk (Value.ref b :: argsL).toArray X₁ hg hsize hdg hW (X₁.named hnamed) (hpre vm₁ X₁.warmed) with ⟨v, B, X', hpost, hsteps⟩ | ⟨q, B, X', hpost, hsteps⟩
  · exact Or.inl ⟨v, vm₁, B, X₁.warmed, X', hpost, fun target h => hstep₁ _ fun acts => by rw [doInvoke_state]; exact hsteps.trans h⟩
  · exact Or.inr ⟨q, vm₁, B, X₁.warmed, X', hpost, hstep₁ _ fun acts => by rw [doInvoke_state]; exact hsteps⟩
theorem vx_callS (X : Stand p l e R s m args below meth c T locs cells slots) (hexec : p.tables.exec = Jvm.exec) {own : String} {index : Nat} {y : MethodName} {bytes : ByteArray} {maxL : Nat} {ret : Option FieldType}
    (hown : s.vm.findClass own = some m.cls) (hlink : (Cond.methodLink own index y).before args s = true) (hstat : (Cond.static y).before args s = true) (hinit : (Cond.initialized y.cls).before args s = true)
    (hcode : (Cond.code y bytes maxL ret).before args s = true) (hy : y.cls ≠ "java/lang/invoke/MethodHandle" ∧ y.cls ≠ "java/lang/invoke/VarHandle")
    {W9 : Nat} {Pre : Pt → Array Value → Prop} {Post : Pt → Array Value → Option Value → Pt → Prop} {PostX : Pt → Array Value → Addr → Pt → Prop} (hK : vx_Back l R p e below s args y 3 W9 Pre Post PostX)
    {g : JFrame} (hg : g.method = m) (hsize : g.locals.size = c.maxLocals) {argsL rest : List Value} (hlen : ∀ sig, parseMethodDescriptor y.desc = some sig → argsL.length = sig.parameters.length)
    (hstack : g.stack = argsL.reverse ++ rest) (hW : 2 * g.monitorRoom + (rest.map fun v => v.category).sum ≤ W9) (hdg : decode c.code g.pc = .ok (.invokestatic index, 3))
    (hpre : ∀ vm₁, s.WarmedH vm₁ → Pre ⟨T.setVm vm₁, locs, cells, slots⟩ argsL.toArray) :
    (∃ (v : Option Value) (vm₁ : Vm) (B : Pt), s.WarmedH vm₁ ∧ Stand p l e R s m args below meth c B.U B.locs B.cells B.slots ∧ Post ⟨T.setVm vm₁, locs, cells, slots⟩ argsL.toArray v B ∧
      ∀ target, Steps p.tables e below (B.U.setTop { g with pc := g.pc + 3, stack := v.toList ++ rest }) target → Steps p.tables e below (T.setTop g) target) ∨
    (∃ (q : Addr) (vm₁ : Vm) (B : Pt), s.WarmedH vm₁ ∧ Stand p l e R s m args below meth c B.U B.locs B.cells B.slots ∧ PostX ⟨T.setVm vm₁, locs, cells, slots⟩ argsL.toArray q B ∧
      Steps p.tables e below (T.setTop g) ((B.U.setTop { g with stack := rest }).pushFrame (.throwing q))) := by
  obtain ⟨mk, hnamed⟩ := Cond.code_named hcode
  obtain ⟨methM, cM, hmethM, -, -, -, -, -, -, hsigM⟩ := Cond.code_spec hnamed hcode
  have hstatic : methM.isStatic = true := Cond.static_spec hnamed hmethM hstat
  obtain ⟨kP, hkP, -⟩ := className_of_methodNamed hnamed
  have hinitP : kP.init = .initialized := Cond.initialized_spec (findClass_of_methodNamed hnamed) hkP hinit
  obtain ⟨vm₁, X₁, hstep₁⟩ := X.invokestatic hexec hown hlink hnamed hmethM hstatic hkP hinitP hy (g := g) hg (argsL := argsL) (rest := rest) (hlen _ hsigM) hstack hdg
  rcases hK m meth c ⟨T.setVm vm₁, locs, cells, slots⟩ { g with stack := rest } (.invokestatic index) mk argsL.toArray X₁ hg hsize hdg hW (X₁.named hnamed) (hpre vm₁ X₁.warmed) with ⟨v, B, X', hpost, hsteps⟩ | ⟨q, B, X', hpost, hsteps⟩
  · exact Or.inl ⟨v, vm₁, B, X₁.warmed, X', hpost, fun target h => hstep₁ _ fun acts => by rw [doInvoke_state]; exact hsteps.trans h⟩
  · exact Or.inr ⟨q, vm₁, B, X₁.warmed, X', hpost, hstep₁ _ fun acts => by rw [doInvoke_state]; exact hsteps⟩
end Calls
theorem vx_cls {s : State} {T : State} {vm₁ : Vm} {E : String} {k : ClassId} (hW : s.WarmedH vm₁) (h : (T.setVm vm₁).vm.findClass E = some k) : s.vm.findClass E = some k := by
  have h1 : vm₁.findClass E = some k := h
  rw [hW.alike.findClass] at h1
  exact h1
/-- the method's frame g, with q thrown over it -/
def vx_W (p : Program) (l : Launch) (e : Env) (R : Room) (s : State) (m : MethodId) (args : Array Value) (below : List Frame) (meth : Method) (c : Code) (H : Heap) (locs : List Loc) (cells slots : Nat) (Q : State → Prop) (g : JFrame) (q : Addr) : Prop :=
  ∀ T : State, T.heap = H → Stand p l e R s m args below meth c T locs cells slots → ∃ t, Steps p.tables e below ((T.setTop g).pushFrame (.throwing q)) t ∧ Q t
def vx_Run (p : Program) (l : Launch) (e : Env) (R : Room) (s : State) (m : MethodId) (args : Array Value) (below : List Frame) (meth : Method) (c : Code) (H : Heap) (locs : List Loc) (cells slots mc ms : Nat) (g : JFrame) (rest : List Value) (Qa : State → Outcome → State → Prop) (XC : String → State → State → Prop) (free : Addr → Prop) : Prop :=
  ∀ T : State, T.heap = H → Stand p l e R s m args below meth c T locs cells slots →
    (∃ (v : Option Value) (st₀ t T' : State) (L : List Loc), st₀.heap = H ∧ Stand p l e R s m args below meth c T' (locs ++ L) (cells + mc) (slots + ms) ∧ (∀ q ∈ L, free q.base) ∧ T'.heap = t.heap ∧ T'.vm = t.vm ∧ Qa st₀ (.returned v) t ∧
      Goes p e below T g T' { g with pc := g.pc + 3, stack := v.toList ++ rest }) ∨
    (∃ (q : Addr) (st₀ t T' : State) (L : List Loc) (E : String) (ce : Cell), st₀.heap = H ∧ Stand p l e R s m args below meth c T' (locs ++ L) (cells + mc) (slots + ms) ∧ (∀ z ∈ L, free z.base) ∧ T'.heap = t.heap ∧ T'.vm = t.vm ∧ XC E st₀ t ∧ t.heap[q]? = some ce ∧ ce.vm = .none ∧ s.vm.findClass E = some ce.cls ∧
      Steps p.tables e below (T.setTop g) ((T'.setTop { g with stack := rest }).pushFrame (.throwing q)))
def vx_X {S : Type} (px : S → Prop) (B : String → S → State → Prop) (A : Nat → Prop) : String → State → State → Prop := fun E st t => ∃ u : S, px u ∧ B E u t ∧ va_F A st t
section Runs
variable {p : Program} {l : Launch} {e : Env} {R : Room} {s : State} {m : MethodId} {args : Array Value} {below : List Frame} {meth : Method} {c : Code} {H : Heap} {locs : List Loc} {cells slots : Nat}
variable {y : MethodName} {bytes cc : ByteArray} {maxL nL mc ms n index : Nat} {ret : Option FieldType} {ws : List Cond} {rm : Room} {Pc : Array Value → State → Prop} {Qc : Array Value → State → Outcome → State → Prop} {XC : String → State → State → Prop} {free : Addr → Prop} {Ts : List Cond} {own C : String} {b : Addr} {As rest : List Value} {g : JFrame}
theorem vx_callBack (cb : CallB R s args own index y bytes maxL ret ws rm mc ms n) (hM : vx_Met l y ws rm Pc Qc XC mc ms free) (hbl : FrameBlind Pc) : vx_Back l R p e below s args y 3 8 (PreOf R mc ms Pc) (PostOf Qc mc ms free) (vx_Post XC mc ms free) := by
  obtain ⟨hrc, hrs, hfr, hlo, hws, hcw, -, hini, -⟩ := cb
  exact vx_back (bytes := bytes) (maxL := maxL) (ret := ret) hM hbl hrc hrs hfr hlo hws hcw (fun a' U hW => word_at hW (Or.inl (by first | rfl | simp [Cond.onTables, Cond.keeps, Cond.steady])) hini)
theorem vx_runV (S : CallFix p m c cc nL s args Ts own) (hM : vx_Met l y ws rm Pc Qc XC mc ms free) (cw : CallW R s args own C index y bytes maxL ret ws rm mc ms n) (hp : PreV s H C b Pc As)
    (hg : g.method = m) (hn : As.length = n) (hsize : g.locals.size = nL) (hstack : g.stack = As.reverse ++ .ref b :: rest) (hW : 2 * g.monitorRoom + (rest.map fun v => v.category).sum ≤ 8) (hdg : decode cc g.pc = .ok (.invokevirtual index, 3)) (hf : cells + mc ≤ R.cells ∧ slots + ms ≤ R.slots) :
    vx_Run p l e R s m args below meth c H locs cells slots mc ms g rest (Qc (Value.ref b :: As).toArray) XC free := by
  have hK : vx_Back l R p e below s args y 3 8 (PreOf R mc ms Pc) (PostOf Qc mc ms free) (vx_Post XC mc ms free) := vx_callBack cw.1 hM hp.1
  obtain ⟨⟨-, -, -, -, -, -, hcode, -, hy, hlen, hl⟩, hin, hse⟩ := cw
  obtain ⟨hx, hb, hml, ho, -⟩ := S
  obtain ⟨-, ⟨cellB, hcB, hoB, hclB⟩, hPc⟩ := hp
  intro T hT X
  rcases vx_callV X hx (C := C) (bytes := bytes) (maxL := maxL) (ret := ret) ho hl hin hse hcode hy hK (by rw [hT]; exact hcB) hoB hclB hg (hsize.trans hml.symm) (argsL := As) (rest := rest) (fun sig h => hn.trans (hlen sig h)) hstack hW (by rw [hb]; exact hdg)
    (fun vm₁ hW₁ => ⟨hf.1, hf.2, hPc (T.setVm vm₁) hT hW₁⟩) with ⟨v, vm₁, ⟨U', l2, c2, s2⟩, hW₁, X', ⟨g', mk, t, L, e1, e2, hq, h1, hL, h2, h3⟩, st⟩ | ⟨q, vm₁, ⟨U', l2, c2, s2⟩, hW₁, X', ⟨g', mk, t, L, E, ce, e1, e2, hq, hce, hcv, hcl, h1, hL, h2, h3⟩, st⟩
  · dsimp only [Pt.U, Pt.locs, Pt.cells, Pt.slots] at X' e1 e2 h1 h2 h3 st
    subst h1; subst h2; subst h3
    exact Or.inl ⟨v, (T.setVm vm₁).calling g' mk (Value.ref b :: As).toArray, t, U', L, hT, X', hL, e1, e2, hq, st⟩
  · dsimp only [Pt.U, Pt.locs, Pt.cells, Pt.slots] at X' e1 e2 h1 h2 h3 st hcl
    subst h1; subst h2; subst h3
    exact Or.inr ⟨q, (T.setVm vm₁).calling g' mk (Value.ref b :: As).toArray, t, U', L, E, ce, hT, X', hL, e1, e2, hq, hce, hcv, vx_cls hW₁ hcl, st⟩
theorem vx_runS (S : CallFix p m c cc nL s args Ts own) (hM : vx_Met l y ws rm Pc Qc XC mc ms free) (cw : CallB R s args own index y bytes maxL ret ws rm mc ms n ∧ (Cond.static y).before args s = true) (hp : PreS s H Pc As)
    (hg : g.method = m) (hn : As.length = n) (hsize : g.locals.size = nL) (hstack : g.stack = As.reverse ++ rest) (hW : 2 * g.monitorRoom + (rest.map fun v => v.category).sum ≤ 8) (hdg : decode cc g.pc = .ok (.invokestatic index, 3)) (hf : cells + mc ≤ R.cells ∧ slots + ms ≤ R.slots) :
    vx_Run p l e R s m args below meth c H locs cells slots mc ms g rest (Qc As.toArray) XC free := by
  have hK : vx_Back l R p e below s args y 3 8 (PreOf R mc ms Pc) (PostOf Qc mc ms free) (vx_Post XC mc ms free) := vx_callBack cw.1 hM hp.1
  obtain ⟨⟨-, -, -, -, -, -, hcode, hini, hy, hlen, hl⟩, hstt⟩ := cw
  obtain ⟨hx, hb, hml, ho, -⟩ := S
  intro T hT X
  rcases vx_callS X hx (bytes := bytes) (maxL := maxL) (ret := ret) ho hl hstt hini hcode hy hK hg (hsize.trans hml.symm) (argsL := As) (rest := rest) (fun sig h => hn.trans (hlen sig h)) hstack hW (by rw [hb]; exact hdg)
    (fun vm₁ hW₁ => ⟨hf.1, hf.2, hp.2 (T.setVm vm₁) hT hW₁⟩) with ⟨v, vm₁, ⟨U', l2, c2, s2⟩, hW₁, X', ⟨g', mk, t, L, e1, e2, hq, h1, hL, h2, h3⟩, st⟩ | ⟨q, vm₁, ⟨U', l2, c2, s2⟩, hW₁, X', ⟨g', mk, t, L, E, ce, e1, e2, hq, hce, hcv, hcl, h1, hL, h2, h3⟩, st⟩
  · dsimp only [Pt.U, Pt.locs, Pt.cells, Pt.slots] at X' e1 e2 h1 h2 h3 st
    subst h1; subst h2; subst h3
    exact Or.inl ⟨v, (T.setVm vm₁).calling g' mk As.toArray, t, U', L, hT, X', hL, e1, e2, hq, st⟩
  · dsimp only [Pt.U, Pt.locs, Pt.cells, Pt.slots] at X' e1 e2 h1 h2 h3 st hcl
    subst h1; subst h2; subst h3
    exact Or.inr ⟨q, (T.setVm vm₁).calling g' mk As.toArray, t, U', L, E, ce, hT, X', hL, e1, e2, hq, hce, hcv, vx_cls hW₁ hcl, st⟩
end Runs
section Rows
variable {p : Program} {l : Launch} {e : Env} {R : Room} {s : State} {m : MethodId} {args : Array Value} {below : List Frame} {meth : Method} {c : Code} {H : Heap} {locs : List Loc} {cells slots : Nat} {Q : State → Prop}
variable {mc ms : Nat} {free : Addr → Prop} {A0 A1 : Nat → Prop} {H0 : Heap} {a : Array Value} {pc : Nat} {ls : Array Slot} {st0 rest : List Value}
theorem vx_keep {st₀ t T' : State} {L : List Loc} (h0 : st₀.heap = H) (e1 : T'.heap = t.heap) (hS : va_S A0 H0 H locs) (hA : ∀ q, q < H.size → A1 q → A0 q) (hf : ∀ q, free q → A0 q) (hL : ∀ q ∈ L, free q.base) (hF : va_F A1 st₀ t) :
    H.size ≤ T'.heap.size ∧ (∀ q : Nat, q < H.size → ¬ A1 q → T'.heap[q]? = H[q]?) ∧ va_S A0 H0 T'.heap (locs ++ L) := by
  obtain ⟨hz, hk⟩ := hF
  rw [h0] at hz hk
  exact ⟨by rw [e1]; exact hz, fun q h1 h2 => by rw [e1]; exact hk q h1 h2,
    ⟨Nat.le_trans hS.1 (by rw [e1]; exact hz), fun q h1 h2 => by rw [e1, hk q (Nat.lt_of_lt_of_le h1 hS.1) (fun z => h2 (hA q (Nat.lt_of_lt_of_le h1 hS.1) z))]; exact hS.2.1 q h1 h2, fun q hq => by
      rcases List.mem_append.mp hq with h | h
      · exact hS.2.2 q h
      · exact hf _ (hL q h)⟩⟩
theorem vx_calli {S SX : Type} {post : Int32 → S → Prop} {px : SX → Prop} {B : S → State → Prop} {BX : String → SX → State → Prop} {AX : Nat → Prop} (hr : vx_Run p l e R s m args below meth c H locs cells slots mc ms (F0 m pc ls st0) rest (va_Qi post B A1 a) (vx_X px BX AX) free) (hS : va_S A0 H0 H locs) (hA : ∀ q, q < H.size → A1 q → A0 q) (hf : ∀ q, free q → A0 q) (hAX : ∀ q, q < H.size → AX q → A0 q)
    (kx : ∀ (E : String) (ce : Cell) (q9 : Addr) (u : SX) (t : State) (H1 : Heap) (locs1 : List Loc), t.heap = H1 → s.vm.Alike t.vm → px u → BX E u t → H.size ≤ H1.size → (∀ q : Nat, q < H.size → ¬ AX q → H1[q]? = H[q]?) → va_S A0 H0 H1 locs1 → H1[q9]? = some ce → ce.vm = .none → s.vm.findClass E = some ce.cls → vx_W p l e R s m args below meth c H1 locs1 (cells + mc) (slots + ms) Q (F0 m pc ls rest) q9)
    (kk : ∀ (r : Int32) (u : S) (t : State) (H1 : Heap) (locs1 : List Loc), t.heap = H1 → s.vm.Alike t.vm → post r u → B u t → H.size ≤ H1.size → (∀ q : Nat, q < H.size → ¬ A1 q → H1[q]? = H[q]?) → va_S A0 H0 H1 locs1 → W p l e R s m args below meth c H1 locs1 (cells + mc) (slots + ms) Q (F0 m (pc + 3) ls (.int r :: rest))) : W p l e R s m args below meth c H locs cells slots Q (F0 m pc ls st0) := by
  intro T hT X
  rcases hr T hT X with ⟨v, st₀, t, T', L, h0, X', hL, e1, e2, ⟨⟨r, u, hv, hp, hb⟩, hF⟩, st⟩ | ⟨q, st₀, t, T', L, E, ce, h0, X', hL, e1, e2, ⟨u, hp, hb, hF⟩, hce, hcv, hcl, st⟩
  · cases hv
    obtain ⟨k1, k2, k3⟩ := vx_keep h0 e1 hS hA hf hL hF
    obtain ⟨t2, a1, b1⟩ := kk r u t T'.heap (locs ++ L) e1.symm (by rw [← e2]; exact X'.warmed.alike) hp hb k1 k2 k3 T' rfl X'
    exact ⟨t2, st t2 a1, b1⟩
  · obtain ⟨k1, k2, k3⟩ := vx_keep h0 e1 hS hAX hf hL hF
    obtain ⟨t2, a1, b1⟩ := kx E ce q u t T'.heap (locs ++ L) e1.symm (by rw [← e2]; exact X'.warmed.alike) hp hb k1 k2 k3 (by rw [e1]; exact hce) hcv hcl T' rfl X'
    exact ⟨t2, st.trans a1, b1⟩
theorem vx_calll {S SX : Type} {post : Int64 → S → Prop} {px : SX → Prop} {B : S → State → Prop} {BX : String → SX → State → Prop} {AX : Nat → Prop} (hr : vx_Run p l e R s m args below meth c H locs cells slots mc ms (F0 m pc ls st0) rest (va_Ql post B A1 a) (vx_X px BX AX) free) (hS : va_S A0 H0 H locs) (hA : ∀ q, q < H.size → A1 q → A0 q) (hf : ∀ q, free q → A0 q) (hAX : ∀ q, q < H.size → AX q → A0 q)
    (kx : ∀ (E : String) (ce : Cell) (q9 : Addr) (u : SX) (t : State) (H1 : Heap) (locs1 : List Loc), t.heap = H1 → s.vm.Alike t.vm → px u → BX E u t → H.size ≤ H1.size → (∀ q : Nat, q < H.size → ¬ AX q → H1[q]? = H[q]?) → va_S A0 H0 H1 locs1 → H1[q9]? = some ce → ce.vm = .none → s.vm.findClass E = some ce.cls → vx_W p l e R s m args below meth c H1 locs1 (cells + mc) (slots + ms) Q (F0 m pc ls rest) q9)
    (kk : ∀ (r : Int64) (u : S) (t : State) (H1 : Heap) (locs1 : List Loc), t.heap = H1 → s.vm.Alike t.vm → post r u → B u t → H.size ≤ H1.size → (∀ q : Nat, q < H.size → ¬ A1 q → H1[q]? = H[q]?) → va_S A0 H0 H1 locs1 → W p l e R s m args below meth c H1 locs1 (cells + mc) (slots + ms) Q (F0 m (pc + 3) ls (.long r :: rest))) : W p l e R s m args below meth c H locs cells slots Q (F0 m pc ls st0) := by
  intro T hT X
  rcases hr T hT X with ⟨v, st₀, t, T', L, h0, X', hL, e1, e2, ⟨⟨r, u, hv, hp, hb⟩, hF⟩, st⟩ | ⟨q, st₀, t, T', L, E, ce, h0, X', hL, e1, e2, ⟨u, hp, hb, hF⟩, hce, hcv, hcl, st⟩
  · cases hv
    obtain ⟨k1, k2, k3⟩ := vx_keep h0 e1 hS hA hf hL hF
    obtain ⟨t2, a1, b1⟩ := kk r u t T'.heap (locs ++ L) e1.symm (by rw [← e2]; exact X'.warmed.alike) hp hb k1 k2 k3 T' rfl X'
    exact ⟨t2, st t2 a1, b1⟩
  · obtain ⟨k1, k2, k3⟩ := vx_keep h0 e1 hS hAX hf hL hF
    obtain ⟨t2, a1, b1⟩ := kx E ce q u t T'.heap (locs ++ L) e1.symm (by rw [← e2]; exact X'.warmed.alike) hp hb k1 k2 k3 (by rw [e1]; exact hce) hcv hcl T' rfl X'
    exact ⟨t2, st.trans a1, b1⟩
theorem vx_callf {S SX : Type} {post : UInt32 → S → Prop} {px : SX → Prop} {B : S → State → Prop} {BX : String → SX → State → Prop} {AX : Nat → Prop} (hr : vx_Run p l e R s m args below meth c H locs cells slots mc ms (F0 m pc ls st0) rest (va_Qf post B A1 a) (vx_X px BX AX) free) (hS : va_S A0 H0 H locs) (hA : ∀ q, q < H.size → A1 q → A0 q) (hf : ∀ q, free q → A0 q) (hAX : ∀ q, q < H.size → AX q → A0 q)
    (kx : ∀ (E : String) (ce : Cell) (q9 : Addr) (u : SX) (t : State) (H1 : Heap) (locs1 : List Loc), t.heap = H1 → s.vm.Alike t.vm → px u → BX E u t → H.size ≤ H1.size → (∀ q : Nat, q < H.size → ¬ AX q → H1[q]? = H[q]?) → va_S A0 H0 H1 locs1 → H1[q9]? = some ce → ce.vm = .none → s.vm.findClass E = some ce.cls → vx_W p l e R s m args below meth c H1 locs1 (cells + mc) (slots + ms) Q (F0 m pc ls rest) q9)
    (kk : ∀ (r : UInt32) (u : S) (t : State) (H1 : Heap) (locs1 : List Loc), t.heap = H1 → s.vm.Alike t.vm → post r u → B u t → H.size ≤ H1.size → (∀ q : Nat, q < H.size → ¬ A1 q → H1[q]? = H[q]?) → va_S A0 H0 H1 locs1 → W p l e R s m args below meth c H1 locs1 (cells + mc) (slots + ms) Q (F0 m (pc + 3) ls (.float r :: rest))) : W p l e R s m args below meth c H locs cells slots Q (F0 m pc ls st0) := by
  intro T hT X
  rcases hr T hT X with ⟨v, st₀, t, T', L, h0, X', hL, e1, e2, ⟨⟨r, u, hv, hp, hb⟩, hF⟩, st⟩ | ⟨q, st₀, t, T', L, E, ce, h0, X', hL, e1, e2, ⟨u, hp, hb, hF⟩, hce, hcv, hcl, st⟩
  · cases hv
    obtain ⟨k1, k2, k3⟩ := vx_keep h0 e1 hS hA hf hL hF
    obtain ⟨t2, a1, b1⟩ := kk r u t T'.heap (locs ++ L) e1.symm (by rw [← e2]; exact X'.warmed.alike) hp hb k1 k2 k3 T' rfl X'
    exact ⟨t2, st t2 a1, b1⟩
  · obtain ⟨k1, k2, k3⟩ := vx_keep h0 e1 hS hAX hf hL hF
    obtain ⟨t2, a1, b1⟩ := kx E ce q u t T'.heap (locs ++ L) e1.symm (by rw [← e2]; exact X'.warmed.alike) hp hb k1 k2 k3 (by rw [e1]; exact hce) hcv hcl T' rfl X'
    exact ⟨t2, st.trans a1, b1⟩
theorem vx_calld {S SX : Type} {post : UInt64 → S → Prop} {px : SX → Prop} {B : S → State → Prop} {BX : String → SX → State → Prop} {AX : Nat → Prop} (hr : vx_Run p l e R s m args below meth c H locs cells slots mc ms (F0 m pc ls st0) rest (va_Qd post B A1 a) (vx_X px BX AX) free) (hS : va_S A0 H0 H locs) (hA : ∀ q, q < H.size → A1 q → A0 q) (hf : ∀ q, free q → A0 q) (hAX : ∀ q, q < H.size → AX q → A0 q)
    (kx : ∀ (E : String) (ce : Cell) (q9 : Addr) (u : SX) (t : State) (H1 : Heap) (locs1 : List Loc), t.heap = H1 → s.vm.Alike t.vm → px u → BX E u t → H.size ≤ H1.size → (∀ q : Nat, q < H.size → ¬ AX q → H1[q]? = H[q]?) → va_S A0 H0 H1 locs1 → H1[q9]? = some ce → ce.vm = .none → s.vm.findClass E = some ce.cls → vx_W p l e R s m args below meth c H1 locs1 (cells + mc) (slots + ms) Q (F0 m pc ls rest) q9)
    (kk : ∀ (r : UInt64) (u : S) (t : State) (H1 : Heap) (locs1 : List Loc), t.heap = H1 → s.vm.Alike t.vm → post r u → B u t → H.size ≤ H1.size → (∀ q : Nat, q < H.size → ¬ A1 q → H1[q]? = H[q]?) → va_S A0 H0 H1 locs1 → W p l e R s m args below meth c H1 locs1 (cells + mc) (slots + ms) Q (F0 m (pc + 3) ls (.double r :: rest))) : W p l e R s m args below meth c H locs cells slots Q (F0 m pc ls st0) := by
  intro T hT X
  rcases hr T hT X with ⟨v, st₀, t, T', L, h0, X', hL, e1, e2, ⟨⟨r, u, hv, hp, hb⟩, hF⟩, st⟩ | ⟨q, st₀, t, T', L, E, ce, h0, X', hL, e1, e2, ⟨u, hp, hb, hF⟩, hce, hcv, hcl, st⟩
  · cases hv
    obtain ⟨k1, k2, k3⟩ := vx_keep h0 e1 hS hA hf hL hF
    obtain ⟨t2, a1, b1⟩ := kk r u t T'.heap (locs ++ L) e1.symm (by rw [← e2]; exact X'.warmed.alike) hp hb k1 k2 k3 T' rfl X'
    exact ⟨t2, st t2 a1, b1⟩
  · obtain ⟨k1, k2, k3⟩ := vx_keep h0 e1 hS hAX hf hL hF
    obtain ⟨t2, a1, b1⟩ := kx E ce q u t T'.heap (locs ++ L) e1.symm (by rw [← e2]; exact X'.warmed.alike) hp hb k1 k2 k3 (by rw [e1]; exact hce) hcv hcl T' rfl X'
    exact ⟨t2, st.trans a1, b1⟩
theorem vx_callv {S SX : Type} {post : S → Prop} {px : SX → Prop} {B : S → State → Prop} {BX : String → SX → State → Prop} {AX : Nat → Prop} (hr : vx_Run p l e R s m args below meth c H locs cells slots mc ms (F0 m pc ls st0) rest (va_Qv post B A1 a) (vx_X px BX AX) free) (hS : va_S A0 H0 H locs) (hA : ∀ q, q < H.size → A1 q → A0 q) (hf : ∀ q, free q → A0 q) (hAX : ∀ q, q < H.size → AX q → A0 q)
    (kx : ∀ (E : String) (ce : Cell) (q9 : Addr) (u : SX) (t : State) (H1 : Heap) (locs1 : List Loc), t.heap = H1 → s.vm.Alike t.vm → px u → BX E u t → H.size ≤ H1.size → (∀ q : Nat, q < H.size → ¬ AX q → H1[q]? = H[q]?) → va_S A0 H0 H1 locs1 → H1[q9]? = some ce → ce.vm = .none → s.vm.findClass E = some ce.cls → vx_W p l e R s m args below meth c H1 locs1 (cells + mc) (slots + ms) Q (F0 m pc ls rest) q9)
    (kk : ∀ (u : S) (t : State) (H1 : Heap) (locs1 : List Loc), t.heap = H1 → s.vm.Alike t.vm → post u → B u t → H.size ≤ H1.size → (∀ q : Nat, q < H.size → ¬ A1 q → H1[q]? = H[q]?) → va_S A0 H0 H1 locs1 → W p l e R s m args below meth c H1 locs1 (cells + mc) (slots + ms) Q (F0 m (pc + 3) ls (rest))) : W p l e R s m args below meth c H locs cells slots Q (F0 m pc ls st0) := by
  intro T hT X
  rcases hr T hT X with ⟨v, st₀, t, T', L, h0, X', hL, e1, e2, ⟨⟨u, hv, hp, hb⟩, hF⟩, st⟩ | ⟨q, st₀, t, T', L, E, ce, h0, X', hL, e1, e2, ⟨u, hp, hb, hF⟩, hce, hcv, hcl, st⟩
  · cases hv
    obtain ⟨k1, k2, k3⟩ := vx_keep h0 e1 hS hA hf hL hF
    obtain ⟨t2, a1, b1⟩ := kk u t T'.heap (locs ++ L) e1.symm (by rw [← e2]; exact X'.warmed.alike) hp hb k1 k2 k3 T' rfl X'
    exact ⟨t2, st t2 a1, b1⟩
  · obtain ⟨k1, k2, k3⟩ := vx_keep h0 e1 hS hAX hf hL hF
    obtain ⟨t2, a1, b1⟩ := kx E ce q u t T'.heap (locs ++ L) e1.symm (by rw [← e2]; exact X'.warmed.alike) hp hb k1 k2 k3 (by rw [e1]; exact hce) hcv hcl T' rfl X'
    exact ⟨t2, st.trans a1, b1⟩
/-- caught by the row x of this method's table; the rows ahead don't take it -/
theorem vx_catch {own name : String} {E : String} {ce : Cell} {q : Addr} (hown : s.vm.findClass own = some m.cls) (pre : List ExceptionTableEntry) (x : ExceptionTableEntry) (suf : List ExceptionTableEntry) (hsplit : c.exceptionTable.toList = pre ++ x :: suf)
    (hpass : ∀ z ∈ pre, covers z pc = false ∨ (z.catchType ≠ 0 ∧ ∃ nm : String, (Cond.classLink own z.catchType nm).before args s = true ∧ va_Nc E nm s)) (hx : covers x pc = true) (h0 : x.catchType ≠ 0)
    (hlink : (Cond.classLink own x.catchType name).before args s = true) (hcast : (Cond.castable E name).before args s = true) (hcell : H[q]? = some ce) (hv : ce.vm = .none) (hcl : s.vm.findClass E = some ce.cls)
    (kk : W p l e R s m args below meth c H locs cells slots Q (F0 m x.handlerPc ls [.ref q])) : vx_W p l e R s m args below meth c H locs cells slots Q (F0 m pc ls rest) q := by
  intro T hT X
  have hpl : e.platform.magicAccessors = ({} : Platform).magicAccessors := by rw [X.admits.platform]
  obtain ⟨c3, c4, hc3, hc4, hasg⟩ := Cond.castable_spec hcast
  cases Option.some.inj (hc3.symm.trans hcl)
  obtain ⟨c5, hc5, hcl5⟩ := Cond.classLink_spec hown hlink e.platform hpl
  cases Option.some.inj (hc4.symm.trans hc5)
  obtain ⟨vm', X', st⟩ := X.thenCaughtThrough q (g := F0 m pc ls rest) rfl (Steps.refl _) (by rw [hT]; exact hcell) (by rw [hv]; rfl) (by obtain ⟨k9, h9, -⟩ := Vm.findClass_spec hcl; exact ⟨k9, h9⟩) pre x suf hsplit
    (fun z hz => by
      rcases hpass z hz with h | ⟨hz0, nm, hl1, hn1⟩
      · exact Or.inl h
      · obtain ⟨c6, hc6, hcl6⟩ := Cond.classLink_spec hown hl1 e.platform hpl
        obtain ⟨a8, b8, h1, h2, h3⟩ := hn1
        cases Option.some.inj (h1.symm.trans hcl)
        cases Option.some.inj (h2.symm.trans hc6)
        exact Or.inr ⟨hz0, _, hcl6, h3⟩) hx (Or.inr ⟨h0, c4, hcl5, hasg⟩)
  obtain ⟨t, a1, b1⟩ := kk (T.setVm vm') hT X'
  exact ⟨t, st.trans a1, b1⟩
end Rows
section Ends
variable {p : Program} {l : Launch} {e : Env} {R : Room} {s : State} {m : MethodId} {args : Array Value} {below : List Frame} {meth : Method} {c : Code} {H : Heap} {locs : List Loc} {cells slots : Nat} {Q : State → Prop}
variable {mc ms : Nat} {free : Addr → Prop} {A0 A1 : Nat → Prop} {H0 : Heap} {a : Array Value} {ls : Array Slot} {st0 rest : List Value}
variable {Qc : Array Value → State → Outcome → State → Prop} {XC : String → State → State → Prop}
/-- what a body that may throw owes at its end -/
def vx_MQ (below : List Frame) (Qc : Array Value → State → Outcome → State → Prop) (XC : String → State → State → Prop) (a : Array Value) (s : State) (mc ms : Nat) (free : Addr → Prop) : State → Prop := fun t =>
  ∃ o, t.status = .running ∧ Ended t below o ∧ vx_Q Qc XC mc ms free a s o t
theorem vx_ret {g : JFrame} {mc ms : Nat} (k : W p l e R s m args below meth c H locs cells slots (MQ below Qc args s mc ms free) g) : W p l e R s m args below meth c H locs cells slots (vx_MQ below Qc XC args s mc ms free) g := by
  intro T hT X
  obtain ⟨t, a1, o, b1, b2, b3, b4⟩ := k T hT X
  exact ⟨t, a1, o, b1, b2, Or.inl ⟨b3, b4⟩⟩
/-- not caught here: it goes on to the caller -/
theorem vx_widen {g : JFrame} {q : Addr} {k n : Nat} (h1 : cells ≤ k) (h2 : slots ≤ n) (kk : vx_W p l e R s m args below meth c H locs k n Q g q) : vx_W p l e R s m args below meth c H locs cells slots Q g q := fun T hT X => kk T hT (stand_widen X h1 h2)
theorem vx_out {pc : Nat} {E : String} {ce : Cell} {q : Addr} {mc ms : Nat} (hout : ∀ x ∈ c.exceptionTable.toList, covers x pc = false) (hlocks : meth.locks = false) (hcell : H[q]? = some ce) (hv : ce.vm = .none) (hcl : s.vm.findClass E = some ce.cls)
    (hx : ∀ t : State, t.heap = H → s.vm.Alike t.vm → XC E s t) (hf : ∀ z ∈ locs, free z.base) (hc : cells ≤ mc) (hs : slots ≤ ms) :
    vx_W p l e R s m args below meth c H locs cells slots (vx_MQ below Qc XC args s mc ms free) (F0 m pc ls rest) q := by
  intro T hT X
  obtain ⟨st1, hrun, hend, hW, hsm⟩ := X.leaveThrown q (g := F0 m pc ls rest) rfl rfl rfl hout hlocks
  have hcell9 : (T.setFrames (.throwing q :: below)).heap[q]? = some ce := by
    show T.heap[q]? = some ce
    rw [hT]; exact hcell
  exact ⟨_, st1, .threw q, hrun, hend, Or.inr ⟨q, rfl, E, ce, locs, hx _ hT hW.alike, hcell9, hv, hcl, hW, hsm.mono hc hs, hf⟩⟩
theorem vx_frame {U : State} {k n : Nat} (h : s.sameButNew ({ U with vm := s.vm } : State) locs k n) : s.heap.size ≤ U.heap.size ∧ ∀ q : Nat, q < s.heap.size → (∀ z ∈ locs, z.base ≠ q) → U.heap[q]? = s.heap[q]? := by
  obtain ⟨-, h2, -, -, -, h6⟩ := h
  refine ⟨h2, fun q hq hz => ?_⟩
  obtain ⟨c9, e1, e2, e3, e4⟩ := h6 q _ (Array.getElem?_eq_getElem hq)
  have hs : c9.slots = (s.heap[q]).slots := Array.ext_getElem? fun i => e4 i fun hm => hz _ hm rfl
  have h9 : c9 = s.heap[q] := by
    rw [hs] at e2
    exact e2
  have e5 : U.heap[q]? = some c9 := e1
  rw [e5, h9, Array.getElem?_eq_getElem hq]
/-- the words of a throw but the four that speak of the heap -/
def vx_no (w : Cond) : Bool := decide (w ≠ .isRef (.static Bundle.tN "UNASSIGNED_STACK" Bundle.steD)) && decide (w ≠ .isRef (.static Bundle.tN "SUPPRESSED_SENTINEL" Bundle.listD)) && decide (w ≠ .laysStatic Bundle.tN "UNASSIGNED_STACK" Bundle.steD) && decide (w ≠ .laysStatic Bundle.tN "SUPPRESSED_SENTINEL" Bundle.listD)
def vx_at0 (own : String) (ic : Nat) (X : String) (names : List String) : List Cond := (Bundle.ownAtoms0 own ic X names).filter vx_no
def vx_atS (own : String) (ic : Nat) (X : String) (names : List String) : List Cond := (Bundle.ownAtoms own ic X names).filter vx_no
/-- a word that the tables alone decide, or a good one -/
def vx_ot (w : Cond) : Bool := w.onTables || goodWord w
theorem vx_ot_at {args a' : Array Value} {s U : State} {w : Cond} (hW : s.WarmedH U.vm) (hvm : s.vm = U.vm) (hg : vx_ot w = true) (h : w.before args s = true) : w.before a' U = true := by
  simp only [vx_ot, Bool.or_eq_true] at hg
  rcases hg with hg | hg
  · exact va_tabs hg hvm h
  · exact word_at hW (good_of_word hg) h
/-- a list's words: the good ones out of the method's own list, the others by premises of their own -/
theorem vx_hat {args : Array Value} {s : State} {L B : List Cond} (h1 : ∀ w ∈ L.filter goodWord, w.before args s = true) (h2 : ∀ w ∈ L.filter (fun w => !goodWord w), w ∈ B) (h3 : ∀ w ∈ B, w.before args s = true) : ∀ w ∈ L, w.before args s = true := by
  intro w hw
  by_cases g : goodWord w = true
  · exact h1 w (List.mem_filter.mpr ⟨hw, g⟩)
  · refine h3 w (h2 w (List.mem_filter.mpr ⟨hw, ?_⟩))
    show (!goodWord w) = true
    cases hgw : goodWord w
    · rfl
    · exact absurd hgw g
theorem vx_c {args : Array Value} {s : State} {w : Cond} {B : List Cond} (h : w.before args s = true) (t : ∀ w ∈ B, w.before args s = true) : ∀ w' ∈ w :: B, w'.before args s = true := fun w' h' => (List.mem_cons.mp h').elim (fun e => by rw [e]; exact h) (t w')
theorem vx_n {args : Array Value} {s : State} : ∀ w ∈ ([] : List Cond), w.before args s = true := fun _ h => nomatch h
theorem vx_own {args : Array Value} {s : State} {L : List Cond} (h1 : ∀ w ∈ L.filter vx_no, w.before args s = true)
    (hU : (Cond.isRef (.static Bundle.tN "UNASSIGNED_STACK" Bundle.steD)).before args s = true) (hN : (Cond.isRef (.static Bundle.tN "SUPPRESSED_SENTINEL" Bundle.listD)).before args s = true)
    (lU : (Cond.laysStatic Bundle.tN "UNASSIGNED_STACK" Bundle.steD).before args s = true) (lN : (Cond.laysStatic Bundle.tN "SUPPRESSED_SENTINEL" Bundle.listD).before args s = true) : ∀ w ∈ L, w.before args s = true := by
  intro w hw
  by_cases e1 : w = .isRef (.static Bundle.tN "UNASSIGNED_STACK" Bundle.steD)
  · rw [e1]; exact hU
  · by_cases e2 : w = .isRef (.static Bundle.tN "SUPPRESSED_SENTINEL" Bundle.listD)
    · rw [e2]; exact hN
    · by_cases e3 : w = .laysStatic Bundle.tN "UNASSIGNED_STACK" Bundle.steD
      · rw [e3]; exact lU
      · by_cases e4 : w = .laysStatic Bundle.tN "SUPPRESSED_SENTINEL" Bundle.listD
        · rw [e4]; exact lN
        · exact h1 w (List.mem_filter.mpr ⟨hw, by unfold vx_no; rw [decide_eq_true e1, decide_eq_true e2, decide_eq_true e3, decide_eq_true e4]; rfl⟩)
/-- where a static field lies, its class's statics cell in H -/
def vx_L (C n d : String) (A : Nat → Prop) (U : State) (H : Heap) : Prop := ∃ (c : ClassId) (k : Class) (i : Nat) (f : Field) (a : Nat) (cell : Cell), U.vm.findClass C = some c ∧ U.fieldFound? C n d = some (c, k, i, f) ∧ f.isStatic = true ∧ k.statics = some a ∧ H[a]? = some cell ∧ cell.vm.isStatics = true ∧ cell.cls = c ∧ f.slot < cell.slots.size ∧ k.staticTypes[f.slot]? = some f.type ∧ ¬ A a
theorem vx_L.moved {C n d : String} {A : Nat → Prop} {u U : State} {H : Heap} (hvm : u.vm.Alike U.vm) (h : vx_L C n d A u H) : vx_L C n d A U H := by
  obtain ⟨c, k, i, f, a, cell, h1, h2, h3, h4, h5, h6, h7, h8, h9, h10⟩ := h
  obtain ⟨k', hi', he⟩ := State.fieldFound?_setVm hvm h2
  exact ⟨c, k', i, f, a, cell, by rw [hvm.findClass]; exact h1, hi', h3, by rw [he]; exact h4, h5, h6, h7, h8, by rw [he]; exact h9, h10⟩
theorem vx_L.kept {C n d : String} {A : Nat → Prop} {U : State} {H H1 : Heap} (h : vx_L C n d A U H) (hq : ∀ a : Nat, a < H.size → ¬ A a → H1[a]? = H[a]?) : vx_L C n d A U H1 := by
  obtain ⟨c, k, i, f, a, cell, h1, h2, h3, h4, h5, h6, h7, h8, h9, h10⟩ := h
  exact ⟨c, k, i, f, a, cell, h1, h2, h3, h4, by rw [hq a (Array.getElem?_eq_some_iff.mp h5).1 h10]; exact h5, h6, h7, h8, h9, h10⟩
theorem vx_L.narrow {C n d : String} {A B : Nat → Prop} {U : State} {H : Heap} (h : vx_L C n d A U H) (hAB : ∀ q, B q → A q) : vx_L C n d B U H := by
  obtain ⟨c, k, i, f, a, cell, h1, h2, h3, h4, h5, h6, h7, h8, h9, h10⟩ := h
  exact ⟨c, k, i, f, a, cell, h1, h2, h3, h4, h5, h6, h7, h8, h9, fun z => h10 (hAB _ z)⟩
theorem vx_L.word {C n d : String} {A : Nat → Prop} {s : State} {args : Array Value} (h : vx_L C n d A s s.heap) : (Cond.laysStatic C n d).before args s = true := by
  obtain ⟨c, k, i, f, a, cell, h1, h2, h3, h4, h5, h6, h7, h8, h9, -⟩ := h
  show (Cond.laysStatic C n d).holds args s none s [] = true
  exact Cond.laysStatic_of h1 h2 h3 h4 h5 h6 h7 h8 h9
/-- .. and what it holds: null or some reference -/
def vx_Zq (C n d : String) (A : Nat → Prop) (U : State) (H : Heap) : Prop := va_Zq C n d A U H ∧ vx_L C n d A U H
theorem vx_Zq.moved {C n d : String} {A : Nat → Prop} {u U : State} {H : Heap} (hvm : u.vm.Alike U.vm) (h : vx_Zq C n d A u H) : vx_Zq C n d A U H := ⟨va_Zq.moved hvm h.1, vx_L.moved hvm h.2⟩
theorem vx_Zq.kept {C n d : String} {A : Nat → Prop} {U : State} {H H1 : Heap} (h : vx_Zq C n d A U H) (hq : ∀ a : Nat, a < H.size → ¬ A a → H1[a]? = H[a]?) : vx_Zq C n d A U H1 := ⟨va_Zq.kept h.1 hq, vx_L.kept h.2 hq⟩
theorem vx_Zq.narrow {C n d : String} {A B : Nat → Prop} {U : State} {H : Heap} (h : vx_Zq C n d A U H) (hAB : ∀ q, B q → A q) : vx_Zq C n d B U H := ⟨va_Zq.narrow h.1 hAB, vx_L.narrow h.2 hAB⟩
theorem vx_Zqof {args : Array Value} {s : State} {C n d : String} {A : Nat → Prop} (hl : (Cond.laysStatic C n d).before args s = true) (hini : (Cond.initialized C).before args s = true) (h : (Cond.isRef (.static C n d)).before args s = true) (hA : ∀ a : Nat, a < s.heap.size → ¬ A a) : vx_Zq C n d A s s.heap := by
  refine ⟨va_Zqof hl hini h hA, ?_⟩
  obtain ⟨c, k, i, f, a, cell, h1, h2, h3, h4, h5, h6, h7, h8, h9⟩ := Cond.laysStatic_spec hl
  exact ⟨c, k, i, f, a, cell, h1, h2, h3, h4, h5, h6, h7, h8, h9, hA a (Array.getElem?_eq_some_iff.mp h5).1⟩
theorem vx_isRef {C n d : String} {v : Value} {A : Nat → Prop} {s : State} {args : Array Value} (h : va_Z C n d v A s s.heap) (hv : v.isRef = true) : (Cond.isRef (.static C n d)).before args s = true := by
  obtain ⟨cf, kf, fi, f, a, cell, h1, h2, h3, h4, h5, h6, h7, -⟩ := h
  have he : (Term.static C n d).eval args s none [] s = some v := by
    simp [Term.eval, State.fieldNamed?, h1, h2, h4, h5, h6, h7]
  simp only [Cond.before, Cond.holds, Cond.value, he]
  cases v <;> simp_all [Value.isRef]
theorem vx_isRefq {C n d : String} {A : Nat → Prop} {s : State} {args : Array Value} (h : va_Zq C n d A s s.heap) : (Cond.isRef (.static C n d)).before args s = true := by
  rcases h with h | ⟨t, h⟩
  · exact vx_isRef h rfl
  · exact vx_isRef h rfl
/-- the same frame, seen from here: as if the method were called anew in this heap -/
theorem vx_rebase {T : State} (X : Stand p l e R s m args below meth c T locs cells slots) {R' : Room} (hf : R'.frames ≤ R.frames) (hl : R'.locals ≤ R.locals) (hc : cells + R'.cells ≤ R.cells) (hs : slots + R'.slots ≤ R.slots) :
    Stand p l e R' ((T.setVm s.vm).setFrames (.invoking m args :: below)) m args below meth c T [] 0 0 := by
  have htop : (T.setVm s.vm).topJava?.isSome := X.here.top
  have hF : ((T.setVm s.vm).setFrames (.invoking m args :: below)).frames = .invoking m args :: below := State.frames_setFrames _ (State.cur_lt_of_top htop)
  obtain ⟨g₀, hg0⟩ := Option.isSome_iff_exists.mp htop
  obtain ⟨r, hr⟩ := State.topJava?_eq_some.mp hg0
  have hl9 : e.platform.stackLimits (T.setVm s.vm).me = e.platform.stackLimits s.me := X.limits
  have hb9 : (T.setVm s.vm).me.stackBytes = s.me.stackBytes := X.bytes
  refine ⟨X.admits, X.cas, X.clock, hF, ?_, X.hears, X.method, X.code, X.here, X.tail, X.warmed, ?_, ?_, ?_⟩
  · have h := X.room
    have hU : ((T.setVm s.vm).setFrames (.invoking m args :: below)).localsInUse = s.localsInUse := by
      rw [State.localsInUse_invoking hF (meth := meth) (c := c) X.method X.code, State.localsInUse_invoking X.frames X.method X.code]
    simp only [State.hasRoom, Bool.and_eq_true, decide_eq_true_eq] at h ⊢
    obtain ⟨⟨⟨⟨h1, h2, h3, h4, h5, h6⟩, h7⟩, h8⟩, h9⟩ := h
    rw [X.frames, List.length_cons] at h2 h3
    have q1 := X.heapSize
    have q2 := X.used
    simp only [hF, hU, List.length_cons, State.stackLimits_setFrames, State.stackBytes_setFrames, hl9, hb9]
    refine ⟨⟨⟨⟨by omega, by omega, by omega, by omega, by omega, h6⟩, ?_⟩, ?_⟩, X.book⟩
    · show T.heap.size + R'.cells ≤ e.platform.maxCells
      omega
    · show T.slotsUsed + R'.slots ≤ e.platform.maxSlots
      omega
  · rw [State.stackLimits_setFrames]; rfl
  · rw [State.stackBytes_setFrames]; rfl
  · refine ⟨?_, Nat.le_refl _, Nat.le_refl _, ?_, ?_, fun a c9 h9 => ⟨c9, h9, rfl, rfl, fun _ _ => rfl⟩⟩
    · obtain ⟨t, ht, -⟩ := State.frames_cons hr
      show T.setVm s.vm = { ((T.setVm s.vm).setFrames (.invoking m args :: below)).setFrames (T.setVm s.vm).frames with heap := T.heap, slotsUsed := T.slotsUsed }
      rw [State.setFrames_setFrames, State.setFrames_self ht]
      rfl
    · show T.slotsUsed = T.slotsUsed + ((T.heap.toList.drop T.heap.size).map (·.slots.size)).sum
      rw [List.drop_eq_nil_of_le (Nat.le_of_eq Array.length_toList)]
      rfl
    · show ((T.heap.toList.drop T.heap.size).map (·.slots.size)).sum ≤ 0
      rw [List.drop_eq_nil_of_le (Nat.le_of_eq Array.length_toList)]
      exact Nat.le_refl _
/-- 'throw new E()': new; dup; invokespecial; athrow -/
theorem vx_throw0 {cc : ByteArray} {pc : Nat} (hexec : p.tables.exec = Jvm.exec) (hb : c.code = cc) (hl : l.stackTraces = false) {own cls : String} {names : List String} {ik ic mc ms : Nat} {A : Nat → Prop}
    (hown : s.vm.findClass own = some m.cls) (hcls : Bundle.fit cls = true) (hnames : ∀ n ∈ names, Bundle.fit n = true)
    (hk : (Cond.classLink own ik cls).before args s = true) (hini : (Cond.initialized cls).before args s = true) (hat : ∀ w ∈ vx_at0 own ic cls names, w.before args s = true)
    (hgood : ∀ w ∈ Cond.classLink own ik cls :: Cond.initialized cls :: vx_at0 own ic cls names, vx_ot w = true)
    (hU : vx_Zq Bundle.tN "UNASSIGNED_STACK" Bundle.steD A s s.heap) (hN : vx_Zq Bundle.tN "SUPPRESSED_SENTINEL" Bundle.listD A s s.heap) (hS : va_S A s.heap H locs) (hsize : ls.size = c.maxLocals)
    (d0 : decode cc pc = .ok (.new ik, 3)) (d3 : decode cc (pc + 3) = .ok (.dup, 1)) (d4 : decode cc (pc + 4) = .ok (.invokespecial ic, 3)) (d7 : decode cc (pc + 7) = .ok (.athrow, 1))
    (hout : ∀ x ∈ c.exceptionTable.toList, covers x (pc + 7) = false)
    (hRframes : names.length + 3 < R.frames) (hRlocals : (rest.map fun v => v.category).sum + (13 * (names.length + 1) + 42) ≤ R.locals) (hRcells : cells + 1 ≤ R.cells) (hRslots : slots + 6 ≤ R.slots) (hlocks : meth.locks = false)
    (hx : ∀ t : State, s.vm.Alike t.vm → H.size ≤ t.heap.size → (∀ q : Nat, q < H.size → t.heap[q]? = H[q]?) → XC cls s t)
    (hf : ∀ z ∈ locs, free z.base) (hc : cells + 1 ≤ mc) (hs : slots + 6 ≤ ms) :
    W p l e R s m args below meth c H locs cells slots (vx_MQ below Qc XC args s mc ms free) (F0 m pc ls rest) := by
  intro T hT X
  have htr : e.platform.stackTraces = false := (show e.platform.stackTraces = l.stackTraces by rw [X.admits.platform]).trans hl
  have Y := vx_rebase X (R' := { frames := R.frames, locals := R.locals, cells := 1, slots := 6 }) (Nat.le_refl _) (Nat.le_refl _) hRcells hRslots
  obtain ⟨s', hA⟩ : ∃ z, z = (T.setVm s.vm).setFrames (.invoking m args :: below) := ⟨_, rfl⟩
  rw [← hA] at Y
  have hvm : s'.vm = s.vm := by rw [hA]; rfl
  have hhp : s'.heap = H := by rw [hA]; exact hT
  have hW0 : s.WarmedH s'.vm := by rw [hvm]; exact State.WarmedH.refl s
  have hat' : ∀ w ∈ vx_at0 own ic cls names, w.before args s' = true := fun w hw => vx_ot_at hW0 hvm.symm (hgood w (List.mem_cons_of_mem _ (List.mem_cons_of_mem _ hw))) (hat w hw)
  have hk' : (Cond.classLink own ik cls).before args s' = true := vx_ot_at hW0 hvm.symm (hgood _ List.mem_cons_self) hk
  have hini' : (Cond.initialized cls).before args s' = true := vx_ot_at hW0 hvm.symm (hgood _ (List.mem_cons_of_mem _ List.mem_cons_self)) hini
  have hU' : vx_Zq Bundle.tN "UNASSIGNED_STACK" Bundle.steD A s' s'.heap := by rw [hhp]; exact vx_Zq.moved hW0.alike (hU.kept hS.2.1)
  have hN' : vx_Zq Bundle.tN "SUPPRESSED_SENTINEL" Bundle.listD A s' s'.heap := by rw [hhp]; exact vx_Zq.moved hW0.alike (hN.kept hS.2.1)
  have h : ∀ w ∈ Bundle.ownAtoms0 own ic cls names, w.before args s' = true := vx_own hat' (vx_isRefq hU'.1) (vx_isRefq hN'.1) hU'.2.word hN'.2.word
  have hown' : s'.vm.findClass own = some m.cls := by rw [hvm]; exact hown
  have hins : (Cond.instantiable cls 6).before args s' = true := h _ (by simp [Bundle.ownAtoms0])
  obtain ⟨vm₁, cX, kX, hfX, hkX, -, -, X₁, st1⟩ := Y.newCold hexec (own := own) (C := cls) (index := ik) (n := 6) hown' hk' hins hini'
    (g := F0 m pc ls rest) rfl (by rw [hb]; exact d0) (Nat.le_refl _) (Nat.le_refl _)
  generalize hT1 : (T.setVm vm₁).pushCell { cls := cX, slots := kX.instanceTypes.map defaultValue, vm := .none } = T1 at X₁ st1
  have hcat : (Value.ref T.heap.size).category = 1 := rfl
  have hcellA : T1.heap[T.heap.size]? = some (freshCell cX kX) := by rw [← hT1]; exact State.heap_pushCell_size _ _
  have d3' : decode c.code (pc + 3) = .ok (.dup, 1) := by rw [hb]; exact d3
  obtain ⟨U, hsteps, hrun, hend, hW, hsame, ce, hce, hO⟩ := X₁.ctorThrow0 hexec htr (own := own) (cls := cls) (names := names) (ic := ic) hown' hcls hnames h (fun x hx => nomatch hx) hfX hkX hcellA (by rw [hhp, hT]; exact Nat.le_refl _)
    (g := { method := m, pc := pc + 4, locals := ls, stack := .ref T.heap.size :: .ref T.heap.size :: rest, locked := none }) rfl hsize rfl rfl (rest := rest) rfl
    (by rw [hb]; exact d4) (by rw [hb]; exact d7) hout hRframes (by simp only [List.map_cons, List.sum_cons, hcat]; omega) hlocks
  obtain ⟨f1, f2⟩ := vx_frame hsame
  rw [hhp] at f1 f2
  have hWs : s.WarmedH U.vm := State.WarmedH.trans hW0 hW
  have hcl : s.vm.findClass cls = some ce.cls := by
    have h9 := hO.cls
    rw [hvm] at h9
    exact h9
  have hall : s.sameButNew ({ U with vm := s.vm } : State) locs mc ms := by
    subst hA
    obtain ⟨e1, e2⟩ := hsame
    rw [State.setFrames_setFrames] at e1
    have h2 : (T.setVm s.vm).sameButNew ({ U with vm := s.vm } : State) [] (0 + 1) (0 + 6) := ⟨e1, e2⟩
    have h3 := X.same.trans h2
    rw [List.append_nil] at h3
    exact h3.mono hc hs
  refine ⟨U, ?_, .threw T.heap.size, hrun, hend, Or.inr ⟨T.heap.size, rfl, cls, ce, locs, hx U hWs.alike f1 (fun q hq => f2 q hq (fun z hz => nomatch hz)), hce, hO.vm, hcl, hWs, hall, hf⟩⟩
  refine st1 _ ?_
  show Steps p.tables e below (T1.setTop { method := m, pc := pc + 3, locals := ls, stack := .ref T.heap.size :: rest, locked := none }) _
  jvm_step X₁.here [X₁.here.top, hexec, d3', Value.category]
  exact hsteps
/-- 'throw new E("text")': new; dup; ldc; invokespecial; athrow -/
theorem vx_throwS {cc : ByteArray} {pc : Nat} (hexec : p.tables.exec = Jvm.exec) (hb : c.code = cc) (hl : l.stackTraces = false) {own cls text : String} {names : List String} {ik is ic mc ms sa : Nat} {A : Nat → Prop}
    (hown : s.vm.findClass own = some m.cls) (hcls : Bundle.fit cls = true) (hnames : ∀ n ∈ names, Bundle.fit n = true)
    (hk : (Cond.classLink own ik cls).before args s = true) (hini : (Cond.initialized cls).before args s = true) (hstr : vk_R own is text sa s) (hat : ∀ w ∈ vx_atS own ic cls names, w.before args s = true)
    (hgood : ∀ w ∈ Cond.classLink own ik cls :: Cond.initialized cls :: vx_atS own ic cls names, vx_ot w = true)
    (hU : vx_Zq Bundle.tN "UNASSIGNED_STACK" Bundle.steD A s s.heap) (hN : vx_Zq Bundle.tN "SUPPRESSED_SENTINEL" Bundle.listD A s s.heap) (hS : va_S A s.heap H locs) (hsize : ls.size = c.maxLocals)
    (d0 : decode cc pc = .ok (.new ik, 3)) (d3 : decode cc (pc + 3) = .ok (.dup, 1)) (d4 : decode cc (pc + 4) = .ok (.ldc is, 2)) (d6 : decode cc (pc + 6) = .ok (.invokespecial ic, 3)) (d9 : decode cc (pc + 9) = .ok (.athrow, 1))
    (hout : ∀ x ∈ c.exceptionTable.toList, covers x (pc + 9) = false)
    (hRframes : names.length + 3 < R.frames) (hRlocals : (rest.map fun v => v.category).sum + (13 * (names.length + 1) + 43) ≤ R.locals) (hRcells : cells + 1 ≤ R.cells) (hRslots : slots + 6 ≤ R.slots) (hlocks : meth.locks = false)
    (hx : ∀ t : State, s.vm.Alike t.vm → H.size ≤ t.heap.size → (∀ q : Nat, q < H.size → t.heap[q]? = H[q]?) → XC cls s t)
    (hf : ∀ z ∈ locs, free z.base) (hc : cells + 1 ≤ mc) (hs : slots + 6 ≤ ms) :
    W p l e R s m args below meth c H locs cells slots (vx_MQ below Qc XC args s mc ms free) (F0 m pc ls rest) := by
  intro T hT X
  have htr : e.platform.stackTraces = false := (show e.platform.stackTraces = l.stackTraces by rw [X.admits.platform]).trans hl
  have Y := vx_rebase X (R' := { frames := R.frames, locals := R.locals, cells := 1, slots := 6 }) (Nat.le_refl _) (Nat.le_refl _) hRcells hRslots
  obtain ⟨s', hA⟩ : ∃ z, z = (T.setVm s.vm).setFrames (.invoking m args :: below) := ⟨_, rfl⟩
  rw [← hA] at Y
  have hvm : s'.vm = s.vm := by rw [hA]; rfl
  have hhp : s'.heap = H := by rw [hA]; exact hT
  have hW0 : s.WarmedH s'.vm := by rw [hvm]; exact State.WarmedH.refl s
  have hat' : ∀ w ∈ vx_atS own ic cls names, w.before args s' = true := fun w hw => vx_ot_at hW0 hvm.symm (hgood w (List.mem_cons_of_mem _ (List.mem_cons_of_mem _ hw))) (hat w hw)
  have hk' : (Cond.classLink own ik cls).before args s' = true := vx_ot_at hW0 hvm.symm (hgood _ List.mem_cons_self) hk
  have hini' : (Cond.initialized cls).before args s' = true := vx_ot_at hW0 hvm.symm (hgood _ (List.mem_cons_of_mem _ List.mem_cons_self)) hini
  have hU' : vx_Zq Bundle.tN "UNASSIGNED_STACK" Bundle.steD A s' s'.heap := by rw [hhp]; exact vx_Zq.moved hW0.alike (hU.kept hS.2.1)
  have hN' : vx_Zq Bundle.tN "SUPPRESSED_SENTINEL" Bundle.listD A s' s'.heap := by rw [hhp]; exact vx_Zq.moved hW0.alike (hN.kept hS.2.1)
  have h : ∀ w ∈ Bundle.ownAtoms own ic cls names, w.before args s' = true := vx_own hat' (vx_isRefq hU'.1) (vx_isRefq hN'.1) hU'.2.word hN'.2.word
  have hown' : s'.vm.findClass own = some m.cls := by rw [hvm]; exact hown
  have hins : (Cond.instantiable cls 6).before args s' = true := h _ (by simp [Bundle.ownAtoms])
  obtain ⟨vm₁, cX, kX, hfX, hkX, -, -, X₁, st1⟩ := Y.newCold hexec (own := own) (C := cls) (index := ik) (n := 6) hown' hk' hins hini'
    (g := F0 m pc ls rest) rfl (by rw [hb]; exact d0) (Nat.le_refl _) (Nat.le_refl _)
  generalize hT1 : (T.setVm vm₁).pushCell { cls := cX, slots := kX.instanceTypes.map defaultValue, vm := .none } = T1 at X₁ st1
  have hcat : (Value.ref T.heap.size).category = 1 := rfl
  have hcellA : T1.heap[T.heap.size]? = some (freshCell cX kX) := by rw [← hT1]; exact State.heap_pushCell_size _ _
  have d3' : decode c.code (pc + 3) = .ok (.dup, 1) := by rw [hb]; exact d3
  have d4' : decode c.code (pc + 4) = .ok (.ldc is, 2) := by rw [hb]; exact d4
  have hstr' : vk_R own is text sa s' := vk_R.warm hW0 hstr
  obtain ⟨U, hsteps, hrun, hend, hW, hsame, ce, hce, hO⟩ := X₁.ctorThrowS hexec htr (own := own) (cls := cls) (names := names) (ic := ic) hown' hcls hnames h (fun x hx => nomatch hx) hfX hkX hcellA (by rw [hhp, hT]; exact Nat.le_refl _) (msg := .ref sa) rfl
    (g := { method := m, pc := pc + 6, locals := ls, stack := .ref sa :: .ref T.heap.size :: .ref T.heap.size :: rest, locked := none }) rfl hsize rfl rfl (rest := rest) rfl
    (by rw [hb]; exact d6) (by rw [hb]; exact d9) hout hRframes (by simp only [List.map_cons, List.sum_cons, hcat]; omega) hlocks
  obtain ⟨f1, f2⟩ := vx_frame hsame
  rw [hhp] at f1 f2
  have hWs : s.WarmedH U.vm := State.WarmedH.trans hW0 hW
  have hcl : s.vm.findClass cls = some ce.cls := by
    have h9 := hO.cls
    rw [hvm] at h9
    exact h9
  have hall : s.sameButNew ({ U with vm := s.vm } : State) locs mc ms := by
    subst hA
    obtain ⟨e1, e2⟩ := hsame
    rw [State.setFrames_setFrames] at e1
    have h2 : (T.setVm s.vm).sameButNew ({ U with vm := s.vm } : State) [] (0 + 1) (0 + 6) := ⟨e1, e2⟩
    have h3 := X.same.trans h2
    rw [List.append_nil] at h3
    exact h3.mono hc hs
  refine ⟨U, ?_, .threw T.heap.size, hrun, hend, Or.inr ⟨T.heap.size, rfl, cls, ce, locs, hx U hWs.alike f1 (fun q hq => f2 q hq (fun z hz => nomatch hz)), hce, hO.vm, hcl, hWs, hall, hf⟩⟩
  refine st1 _ ?_
  show Steps p.tables e below (T1.setTop { method := m, pc := pc + 3, locals := ls, stack := .ref T.heap.size :: rest, locked := none }) _
  jvm_step X₁.here [X₁.here.top, hexec, d3', Value.category]
  exact X₁.ldcString hexec (own := own) (text := text) (index := is) (a := sa) hown' hstr'.1 hstr'.2
    (g := { method := m, pc := pc + 4, locals := ls, stack := .ref T.heap.size :: .ref T.heap.size :: rest, locked := none }) rfl d4' _ hsteps
/-- 'throw new E("text")', the text by a wide index -/
theorem vx_throwSW {cc : ByteArray} {pc : Nat} (hexec : p.tables.exec = Jvm.exec) (hb : c.code = cc) (hl : l.stackTraces = false) {own cls text : String} {names : List String} {ik is ic mc ms sa : Nat} {A : Nat → Prop}
    (hown : s.vm.findClass own = some m.cls) (hcls : Bundle.fit cls = true) (hnames : ∀ n ∈ names, Bundle.fit n = true)
    (hk : (Cond.classLink own ik cls).before args s = true) (hini : (Cond.initialized cls).before args s = true) (hstr : vk_R own is text sa s) (hat : ∀ w ∈ vx_atS own ic cls names, w.before args s = true)
    (hgood : ∀ w ∈ Cond.classLink own ik cls :: Cond.initialized cls :: vx_atS own ic cls names, vx_ot w = true)
    (hU : vx_Zq Bundle.tN "UNASSIGNED_STACK" Bundle.steD A s s.heap) (hN : vx_Zq Bundle.tN "SUPPRESSED_SENTINEL" Bundle.listD A s s.heap) (hS : va_S A s.heap H locs) (hsize : ls.size = c.maxLocals)
    (d0 : decode cc pc = .ok (.new ik, 3)) (d3 : decode cc (pc + 3) = .ok (.dup, 1)) (d4 : decode cc (pc + 4) = .ok (.ldc_w is, 3)) (d7 : decode cc (pc + 7) = .ok (.invokespecial ic, 3)) (d10 : decode cc (pc + 10) = .ok (.athrow, 1))
    (hout : ∀ x ∈ c.exceptionTable.toList, covers x (pc + 10) = false)
    (hRframes : names.length + 3 < R.frames) (hRlocals : (rest.map fun v => v.category).sum + (13 * (names.length + 1) + 43) ≤ R.locals) (hRcells : cells + 1 ≤ R.cells) (hRslots : slots + 6 ≤ R.slots) (hlocks : meth.locks = false)
    (hx : ∀ t : State, s.vm.Alike t.vm → H.size ≤ t.heap.size → (∀ q : Nat, q < H.size → t.heap[q]? = H[q]?) → XC cls s t)
    (hf : ∀ z ∈ locs, free z.base) (hc : cells + 1 ≤ mc) (hs : slots + 6 ≤ ms) :
    W p l e R s m args below meth c H locs cells slots (vx_MQ below Qc XC args s mc ms free) (F0 m pc ls rest) := by
  intro T hT X
  have htr : e.platform.stackTraces = false := (show e.platform.stackTraces = l.stackTraces by rw [X.admits.platform]).trans hl
  have Y := vx_rebase X (R' := { frames := R.frames, locals := R.locals, cells := 1, slots := 6 }) (Nat.le_refl _) (Nat.le_refl _) hRcells hRslots
  obtain ⟨s', hA⟩ : ∃ z, z = (T.setVm s.vm).setFrames (.invoking m args :: below) := ⟨_, rfl⟩
  rw [← hA] at Y
  have hvm : s'.vm = s.vm := by rw [hA]; rfl
  have hhp : s'.heap = H := by rw [hA]; exact hT
  have hW0 : s.WarmedH s'.vm := by rw [hvm]; exact State.WarmedH.refl s
  have hat' : ∀ w ∈ vx_atS own ic cls names, w.before args s' = true := fun w hw => vx_ot_at hW0 hvm.symm (hgood w (List.mem_cons_of_mem _ (List.mem_cons_of_mem _ hw))) (hat w hw)
  have hk' : (Cond.classLink own ik cls).before args s' = true := vx_ot_at hW0 hvm.symm (hgood _ List.mem_cons_self) hk
  have hini' : (Cond.initialized cls).before args s' = true := vx_ot_at hW0 hvm.symm (hgood _ (List.mem_cons_of_mem _ List.mem_cons_self)) hini
  have hU' : vx_Zq Bundle.tN "UNASSIGNED_STACK" Bundle.steD A s' s'.heap := by rw [hhp]; exact vx_Zq.moved hW0.alike (hU.kept hS.2.1)
  have hN' : vx_Zq Bundle.tN "SUPPRESSED_SENTINEL" Bundle.listD A s' s'.heap := by rw [hhp]; exact vx_Zq.moved hW0.alike (hN.kept hS.2.1)
  have h : ∀ w ∈ Bundle.ownAtoms own ic cls names, w.before args s' = true := vx_own hat' (vx_isRefq hU'.1) (vx_isRefq hN'.1) hU'.2.word hN'.2.word
  have hown' : s'.vm.findClass own = some m.cls := by rw [hvm]; exact hown
  have hins : (Cond.instantiable cls 6).before args s' = true := h _ (by simp [Bundle.ownAtoms])
  obtain ⟨vm₁, cX, kX, hfX, hkX, -, -, X₁, st1⟩ := Y.newCold hexec (own := own) (C := cls) (index := ik) (n := 6) hown' hk' hins hini'
    (g := F0 m pc ls rest) rfl (by rw [hb]; exact d0) (Nat.le_refl _) (Nat.le_refl _)
  generalize hT1 : (T.setVm vm₁).pushCell { cls := cX, slots := kX.instanceTypes.map defaultValue, vm := .none } = T1 at X₁ st1
  have hcat : (Value.ref T.heap.size).category = 1 := rfl
  have hcellA : T1.heap[T.heap.size]? = some (freshCell cX kX) := by rw [← hT1]; exact State.heap_pushCell_size _ _
  have d3' : decode c.code (pc + 3) = .ok (.dup, 1) := by rw [hb]; exact d3
  have d4' : decode c.code (pc + 4) = .ok (.ldc_w is, 3) := by rw [hb]; exact d4
  have hstr' : vk_R own is text sa s' := vk_R.warm hW0 hstr
  obtain ⟨U, hsteps, hrun, hend, hW, hsame, ce, hce, hO⟩ := X₁.ctorThrowS hexec htr (own := own) (cls := cls) (names := names) (ic := ic) hown' hcls hnames h (fun x hx => nomatch hx) hfX hkX hcellA (by rw [hhp, hT]; exact Nat.le_refl _) (msg := .ref sa) rfl
    (g := { method := m, pc := pc + 7, locals := ls, stack := .ref sa :: .ref T.heap.size :: .ref T.heap.size :: rest, locked := none }) rfl hsize rfl rfl (rest := rest) rfl
    (by rw [hb]; exact d7) (by rw [hb]; exact d10) hout hRframes (by simp only [List.map_cons, List.sum_cons, hcat]; omega) hlocks
  obtain ⟨f1, f2⟩ := vx_frame hsame
  rw [hhp] at f1 f2
  have hWs : s.WarmedH U.vm := State.WarmedH.trans hW0 hW
  have hcl : s.vm.findClass cls = some ce.cls := by
    have h9 := hO.cls
    rw [hvm] at h9
    exact h9
  have hall : s.sameButNew ({ U with vm := s.vm } : State) locs mc ms := by
    subst hA
    obtain ⟨e1, e2⟩ := hsame
    rw [State.setFrames_setFrames] at e1
    have h2 : (T.setVm s.vm).sameButNew ({ U with vm := s.vm } : State) [] (0 + 1) (0 + 6) := ⟨e1, e2⟩
    have h3 := X.same.trans h2
    rw [List.append_nil] at h3
    exact h3.mono hc hs
  refine ⟨U, ?_, .threw T.heap.size, hrun, hend, Or.inr ⟨T.heap.size, rfl, cls, ce, locs, hx U hWs.alike f1 (fun q hq => f2 q hq (fun z hz => nomatch hz)), hce, hO.vm, hcl, hWs, hall, hf⟩⟩
  refine st1 _ ?_
  show Steps p.tables e below (T1.setTop { method := m, pc := pc + 3, locals := ls, stack := .ref T.heap.size :: rest, locked := none }) _
  jvm_step X₁.here [X₁.here.top, hexec, d3', Value.category]
  exact X₁.ldcStringW hexec (own := own) (text := text) (index := is) (a := sa) hown' hstr'.1 hstr'.2
    (g := { method := m, pc := pc + 4, locals := ls, stack := .ref T.heap.size :: .ref T.heap.size :: rest, locked := none }) rfl d4' _ hsteps
end Ends
section Bodies
variable {l : Launch}
theorem vx_ofW {y : MethodName} {ws ws' : List Cond} {rm : Room} {Pc : Array Value → State → Prop} {Qc : Array Value → State → Outcome → State → Prop} {XC : String → State → State → Prop} {mc ms : Nat} {free : Addr → Prop} {cc : ByteArray} {maxL : Nat} {ret : Option FieldType}
    (hy : plainName y.cls = true) (hw : ws = Cond.code y cc maxL ret :: ws')
    (body : ∀ p e s m args below meth c s₁, BodyLoose p l y (headSpec ws rm) cc maxL ret e s m args below meth c s₁ → c.maxLocals = maxL → (∀ x ∈ c.exceptionTable.toList, False) → Pc args s →
      W p l e (headSpec ws rm).room s m args below meth c s.heap [] 0 0 (vx_MQ below Qc XC args s mc ms free) (entryFrame m args maxL)) : vx_Met l y ws rm Pc Qc XC mc ms free := by
  refine MetFree.of_bodyS (code := cc) (maxLocals := maxL) (ret := ret) hy ?_ ?_
  · intro args s m h hn
    obtain ⟨meth, c, h1, h2, h3, h4, h5, h6, -, -⟩ := Cond.code_spec hn (atoms_spec (ws := ws) h _ (by rw [hw]; exact List.mem_cons_self))
    exact ⟨meth, c, h1, h2, h3, h4, h5, h6⟩
  · intro p e s m args below meth c s₁ B hml hP _
    have hh0 : s₁.heap = s.heap := by rw [B.state]; rfl
    have ht : ∀ x ∈ c.exceptionTable.toList, False := by
      obtain ⟨meth9, c9, h1, h2, -, -, -, -, h7, -⟩ := Cond.code_spec B.named (atoms_spec (ws := ws) B.pre _ (by rw [hw]; exact List.mem_cons_self))
      cases Option.some.inj (h1.symm.trans B.method)
      cases Option.some.inj (h2.symm.trans (Stand.of_body B).code)
      intro x hx
      rw [Array.isEmpty_iff.mp h7] at hx
      cases hx
    obtain ⟨t, a1, o, b1, b2, b3⟩ := body p e s m args below meth c s₁ B hml ht hP s₁ hh0 (Stand.of_body B)
    exact ⟨t, o, a1, b1, b2, b3⟩
/-- the table of a body with handlers -/
theorem vx_table {p : Program} {x y : MethodName} {S : Spec} {cc bytes : ByteArray} {maxL maxL' : Nat} {ret ret' : Option FieldType} {e : Env} {s s₁ : State} {m : MethodId} {args : Array Value} {below : List Frame} {meth : Method} {c : Code} {hh : List (Nat × Nat × Nat × Nat)}
    (B : BodyLoose p l y S cc maxL ret e s m args below meth c s₁) (h : (Cond.codeWith y bytes maxL' ret' hh).before args s = true) : c.exceptionTable.toList = tableOf hh := by
  obtain ⟨m9, meth9, c9, hn9, h1, h2, -, -, h6, -⟩ := Cond.codeWith_spec h
  cases Option.some.inj (hn9.symm.trans B.named)
  cases Option.some.inj (h1.symm.trans B.method)
  cases Option.some.inj (h2.symm.trans (Stand.of_body B).code)
  rw [← h6, table_eq]
end Bodies
end VXA
/-! ===== END ===== -/
/-! ===== BEGIN a static call of a method with an exception table ===== -/
section VXS
variable {p : Program} {l : Launch} {e : Env} {R : Room} {s : State} {m : MethodId} {args : Array Value} {below : List Frame} {meth : Method} {c : Code} {T : State} {H : Heap} {locs : List Loc} {cells slots : Nat}
abbrev vx_CSW (R : Room) (s : State) (args : Array Value) (own : String) (index : Nat) (y : MethodName) (bytes : ByteArray) (maxL : Nat) (ret : Option FieldType) (hh : List (Nat × Nat × Nat × Nat)) (ws : List Cond) (rm : Room) (mc ms n : Nat) : Prop :=
  (rm.cells = mc ∧ rm.slots = ms ∧ rm.frames + 1 ≤ R.frames ∧ 8 + (maxL + 11) + rm.locals ≤ R.locals ∧ (∀ w ∈ ws, ∀ (a' : Array Value) (U : State), s.WarmedH U.vm → w.before a' U = true) ∧ Cond.codeWith y bytes maxL ret hh ∈ ws) ∧
  (Cond.codeWith y bytes maxL ret hh).before args s = true ∧ (Cond.initialized y.cls).before args s = true ∧ (y.cls ≠ "java/lang/invoke/MethodHandle" ∧ y.cls ≠ "java/lang/invoke/VarHandle") ∧
  (∀ sig, parseMethodDescriptor y.desc = some sig → n = sig.parameters.length) ∧ (Cond.methodLink own index y).before args s = true ∧ (Cond.static y).before args s = true
theorem vx_cwSW {own : String} {index maxL mc ms : Nat} {y : MethodName} {bytes : ByteArray} {ret : Option FieldType} {hh : List (Nat × Nat × Nat × Nat)} {Ts ws ws' : List Cond} {rm : Room} (n : Nat) (ht : ∀ w ∈ Ts, w.before args s = true) (hT : GoodIn Ts (va_wsS own index y ws)) (hw : ws = Cond.codeWith y bytes maxL ret hh :: ws') (hrc : rm.cells = mc) (hrs : rm.slots = ms)
    (hd : y.cls ≠ "java/lang/invoke/MethodHandle" ∧ y.cls ≠ "java/lang/invoke/VarHandle" ∧ (parseMethodDescriptor y.desc).map (fun d => d.parameters.length) = some n) (hR : rm.frames + 1 ≤ R.frames ∧ 8 + (maxL + 11) + rm.locals ≤ R.locals) :
    vx_CSW R s args own index y bytes maxL ret hh ws rm mc ms n := by
  have ok : ∀ w ∈ va_wsS own index y ws, w.before args s = true := fun w h => ht w (hT w h).1
  have hG : GoodIn Ts ws := fun w h => hT w (by unfold va_wsS; exact List.mem_append_right _ h)
  have hc : Cond.codeWith y bytes maxL ret hh ∈ ws := by rw [hw]; exact List.mem_cons_self
  refine ⟨⟨hrc, hrs, hR.1, hR.2, pay_in ht hG, hc⟩, ht _ (hG _ hc).1, ok _ (by simp [va_wsS]), ⟨hd.1, hd.2.1⟩, fun sig h => ?_, ok _ (by simp [va_wsS]), ok _ (by simp [va_wsS])⟩
  have h2 := hd.2.2
  rw [h] at h2
  exact (Option.some.inj h2).symm
theorem vx_callSW (X : Stand p l e R s m args below meth c T locs cells slots) (hexec : p.tables.exec = Jvm.exec) {own : String} {index : Nat} {y : MethodName} {bytes : ByteArray} {maxL : Nat} {ret : Option FieldType} {hh : List (Nat × Nat × Nat × Nat)}
    (hown : s.vm.findClass own = some m.cls) (hlink : (Cond.methodLink own index y).before args s = true) (hstat : (Cond.static y).before args s = true) (hinit : (Cond.initialized y.cls).before args s = true)
    (hcode : (Cond.codeWith y bytes maxL ret hh).before args s = true) (hy : y.cls ≠ "java/lang/invoke/MethodHandle" ∧ y.cls ≠ "java/lang/invoke/VarHandle")
    {W9 : Nat} {Pre : Pt → Array Value → Prop} {Post : Pt → Array Value → Option Value → Pt → Prop} (hK : Back l R p e below s args y 3 W9 Pre Post)
    {g : JFrame} (hg : g.method = m) (hsize : g.locals.size = c.maxLocals) {argsL rest : List Value} (hlen : ∀ sig, parseMethodDescriptor y.desc = some sig → argsL.length = sig.parameters.length)
    (hstack : g.stack = argsL.reverse ++ rest) (hW : 2 * g.monitorRoom + (rest.map fun v => v.category).sum ≤ W9) (hdg : decode c.code g.pc = .ok (.invokestatic index, 3))
    (hpre : ∀ vm₁, s.WarmedH vm₁ → Pre ⟨T.setVm vm₁, locs, cells, slots⟩ argsL.toArray) :
    ∃ (v : Option Value) (vm₁ : Vm) (B : Pt), s.WarmedH vm₁ ∧ Stand p l e R s m args below meth c B.U B.locs B.cells B.slots ∧ Post ⟨T.setVm vm₁, locs, cells, slots⟩ argsL.toArray v B ∧
      ∀ target, Steps p.tables e below (B.U.setTop { g with pc := g.pc + 3, stack := v.toList ++ rest }) target → Steps p.tables e below (T.setTop g) target := by
  obtain ⟨mk, methM, cM, hnamed, hmethM, -, -, -, -, -, -, hsigM⟩ := Cond.codeWith_spec hcode
  have hstatic : methM.isStatic = true := Cond.static_spec hnamed hmethM hstat
  obtain ⟨kP, hkP, -⟩ := className_of_methodNamed hnamed
  have hinitP : kP.init = .initialized := Cond.initialized_spec (findClass_of_methodNamed hnamed) hkP hinit
  obtain ⟨vm₁, X₁, hstep₁⟩ := X.invokestatic hexec hown hlink hnamed hmethM hstatic hkP hinitP hy (g := g) hg (argsL := argsL) (rest := rest) (hlen _ hsigM) hstack hdg
  obtain ⟨v, B, X', hpost, hsteps⟩ := hK m meth c ⟨T.setVm vm₁, locs, cells, slots⟩ { g with stack := rest } (.invokestatic index) mk argsL.toArray X₁ hg hsize hdg hW (X₁.named hnamed) (hpre vm₁ X₁.warmed)
  exact ⟨v, vm₁, B, X₁.warmed, X', hpost, fun target h => hstep₁ _ fun acts => by rw [doInvoke_state]; exact hsteps.trans h⟩
theorem vx_runSW {y : MethodName} {bytes cc : ByteArray} {maxL nL mc ms n index : Nat} {ret : Option FieldType} {hh : List (Nat × Nat × Nat × Nat)} {ws : List Cond} {rm : Room} {Pc : Array Value → State → Prop} {Qc : Array Value → State → Outcome → State → Prop} {free : Addr → Prop} {Ts : List Cond} {own : String} {As rest : List Value} {g : JFrame}
    (S : CallFix p m c cc nL s args Ts own) (hM : Met l y ws rm Pc Qc mc ms free) (cw : vx_CSW R s args own index y bytes maxL ret hh ws rm mc ms n) (hp : PreS s H Pc As)
    (hg : g.method = m) (hn : As.length = n) (hsize : g.locals.size = nL) (hstack : g.stack = As.reverse ++ rest) (hW : 2 * g.monitorRoom + (rest.map fun v => v.category).sum ≤ 8) (hdg : decode cc g.pc = .ok (.invokestatic index, 3)) (hf : cells + mc ≤ R.cells ∧ slots + ms ≤ R.slots) :
    va_Run p l e R s m args below meth c H locs cells slots mc ms g rest (Qc As.toArray) (free) := by
  obtain ⟨⟨hrc, hrs, hfr, hlo, hws, hcw⟩, hcode, hini, hy, hlen, hl, hstt⟩ := cw
  have hK : Back l R p e below s args y 3 8 (PreOf R mc ms Pc) (PostOf Qc mc ms free) := va_backW (hh := hh) (bytes := bytes) (maxL := maxL) (ret := ret) hM hp.1 hrc hrs hfr hlo hws hcw (fun a' U hW => word_at hW (Or.inl (by first | rfl | simp [Cond.onTables, Cond.keeps, Cond.steady])) hini)
  obtain ⟨hx, hb, hml, ho, -⟩ := S
  intro T hT X
  obtain ⟨v, vm₁, ⟨U', l2, c2, s2⟩, hW₁, X', ⟨g', mk, t, L, e1, e2, hq, h1, hL, h2, h3⟩, st⟩ := vx_callSW X hx (hh := hh) (bytes := bytes) (maxL := maxL) (ret := ret) ho hl hstt hini hcode hy hK hg (hsize.trans hml.symm) (argsL := As) (rest := rest) (fun sig h => hn.trans (hlen sig h)) hstack hW (by rw [hb]; exact hdg)
    (fun vm₁ hW₁ => ⟨hf.1, hf.2, hp.2 (T.setVm vm₁) hT hW₁⟩)
  dsimp only [Pt.U, Pt.locs, Pt.cells, Pt.slots] at X' e1 e2 h1 h2 h3 st
  subst h1; subst h2; subst h3
  exact ⟨v, (T.setVm vm₁).calling g' mk As.toArray, t, U', L, hT, X', hL, e1, e2, hq, st⟩
/-- not caught here, past rows that name other classes: it goes on to the caller -/
theorem vx_outP {p : Program} {l : Launch} {e : Env} {R : Room} {s : State} {m : MethodId} {args : Array Value} {below : List Frame} {meth : Method} {c : Code} {H : Heap} {locs : List Loc} {cells slots : Nat} {free : Addr → Prop} {ls : Array Slot} {rest : List Value} {Qc : Array Value → State → Outcome → State → Prop} {XC : String → State → State → Prop}
    {pc : Nat} {own E : String} {ce : Cell} {q : Addr} {mc ms : Nat} (hown : s.vm.findClass own = some m.cls) (hlocks : meth.locks = false)
    (hpass : ∀ z ∈ c.exceptionTable.toList, covers z pc = false ∨ (z.catchType ≠ 0 ∧ ∃ nm : String, (Cond.classLink own z.catchType nm).before args s = true ∧ va_Nc E nm s)) (hcell : H[q]? = some ce) (hv : ce.vm = .none) (hcl : s.vm.findClass E = some ce.cls)
    (hx : ∀ t : State, t.heap = H → s.vm.Alike t.vm → XC E s t) (hf : ∀ z ∈ locs, free z.base) (hc : cells ≤ mc) (hs : slots ≤ ms) :
    vx_W p l e R s m args below meth c H locs cells slots (vx_MQ below Qc XC args s mc ms free) (F0 m pc ls rest) q := by
  intro T hT X
  have hpl : e.platform.magicAccessors = ({} : Platform).magicAccessors := by rw [X.admits.platform]
  obtain ⟨vm', hW', X', st⟩ := X.outThrough hlocks q (g := F0 m pc ls rest) rfl rfl rfl (cell := ce) (by rw [hT]; exact hcell) (by rw [hv]; rfl)
    (by obtain ⟨k9, h9, -⟩ := Vm.findClass_spec hcl; exact ⟨k9, h9⟩) (fun z hz => by
      rcases hpass z hz with h | ⟨hz0, nm, hl1, hn1⟩
      · exact Or.inl h
      · obtain ⟨c6, hc6, hcl6⟩ := Cond.classLink_spec hown hl1 e.platform hpl
        obtain ⟨a8, b8, h1, h2, h3⟩ := hn1
        cases Option.some.inj (h1.symm.trans hcl)
        cases Option.some.inj (h2.symm.trans hc6)
        exact Or.inr ⟨hz0, _, hcl6, h3⟩)
  obtain ⟨g₀, hfr⟩ := X'.frames_eq
  have hcell9 : ((T.setVm vm').setFrames (.throwing q :: below)).heap[q]? = some ce := by
    show T.heap[q]? = some ce
    rw [hT]; exact hcell
  have hend : Ended ((T.setVm vm').setFrames (.throwing q :: below)) below (.threw q) := State.frames_setFrames _ (State.cur_lt_of_frames hfr)
  refine ⟨(T.setVm vm').setFrames (.throwing q :: below), ?_, .threw q, X'.here.running, hend, Or.inr ⟨q, rfl, E, ce, locs, hx _ hT (X'.ends _).1.alike, hcell9, hv, hcl, (X'.ends _).1, (X'.ends _).2.mono hc hs, hf⟩⟩
  rw [X.pushThrowing_eq]
  exact st
/-- a thing of a world lies in the heap -/
theorem vx_lt {D : va_G} {cl : List vw_C} {ws : va_W} {H1 : Heap} (h : va_P D cl ws H1) {k : Nat} {q : Nat × va_E} (hk : ws[k]? = some q) : q.1 < H1.size := (h k q hk).lt
end VXS
/-! ===== END ===== -/
/-! ===== BEGIN methods with a table of their own: called by a name, returning or throwing ===== -/
section VXH
/-! vx_backW, vx_callVX, vx_callSX, vx_callVW, vx_runVW, vx_runVX, vx_runSX, vx_ofWH follow the same proofs as their sisters above (Free/Laws.lean, Shelf42/LK1.lean); vx_outP calls Shelf42/NT130.lean (outThrough). -/
section
variable {l : Launch} {R : Room} {p : Program} {e : Env} {below : List Frame} {s : State} {sargs : Array Value} {y : MethodName} {len W9 : Nat}
theorem vx_backW {ws : List Cond} {rm : Room} {Pc : Array Value → State → Prop} {Qc : Array Value → State → Outcome → State → Prop} {XC : String → State → State → Prop} {mc ms : Nat} {free : Addr → Prop} {bytes : ByteArray} {maxL : Nat} {ret : Option FieldType} {hh : List (Nat × Nat × Nat × Nat)}
    (hM : vx_Met l y ws rm Pc Qc XC mc ms free) (hblind : FrameBlind Pc) (hrc : rm.cells = mc) (hrs : rm.slots = ms)
    (hframes : rm.frames + 1 ≤ R.frames) (hlocals : W9 + (maxL + 11) + rm.locals ≤ R.locals)
    (hws : ∀ w ∈ ws, ∀ a' U, s.WarmedH U.vm → w.before a' U = true) (hcode : Cond.codeWith y bytes maxL ret hh ∈ ws) (hinit : ∀ a' U, s.WarmedH U.vm → (Cond.initialized y.cls).before a' U = true) :
    vx_Back l R p e below s sargs y len W9 (PreOf R mc ms Pc) (PostOf Qc mc ms free) (vx_Post XC mc ms free) := by
  intro m meth c A g ig mk a X hg hsize hdg hW hn hp
  have h1 : (headSpec ws rm).pre.before a A.U = true := atoms_intro fun w hw => hws w hw _ _ X.warmed
  have h2 : (Cond.codeWith y bytes maxL ret hh).before a A.U = true := hws _ hcode _ _ X.warmed
  have h3 : (Cond.initialized y.cls).before a A.U = true := hinit _ _ X.warmed
  have h4 : A.cells + (headSpec ws rm).room.cells ≤ R.cells := by rw [show (headSpec ws rm).room.cells = mc from hrc]; exact hp.1
  have h5 : A.slots + (headSpec ws rm).room.slots ≤ R.slots := by rw [show (headSpec ws rm).room.slots = ms from hrs]; exact hp.2.1
  have hPc : Pc a (A.U.calling g mk a) := hblind _ _ _ _ hp.2.2
  obtain ⟨U, Ls, c0, s0⟩ := A
  dsimp only [Pt.U, Pt.locs, Pt.cells, Pt.slots] at h1 h2 h3 h4 h5 X hn hPc ⊢
  obtain ⟨m9, methY, cY, hn9, hmY, hcY, -, hlY, -⟩ := Cond.codeWith_spec h2
  cases Option.some.inj (hn9.symm.trans hn)
  obtain ⟨kY, hkY, -⟩ := className_of_methodNamed hn
  have hinitY : kY.init = .initialized := Cond.initialized_spec (findClass_of_methodNamed hn) hkY h3
  have h : At U g.method c below := by rw [hg]; exact X.here
  have hlocals9 : W9 + (maxL + 11) + (headSpec ws rm).room.locals ≤ R.locals := hlocals
  have happ : (headSpec ws rm).appliesLoose y e.platform (U.calling g mk a) = true :=
    Spec.appliesLoose_calling (g := g) h hdg hn hkY hinitY
      (X.room_calling (g := g) (R' := (headSpec ws rm).room) hsize hmY hcY hframes (by rw [hlY]; omega) h4 h5) h1
  obtain ⟨mid, hmid⟩ := h.above
  have hfr : (U.setTop g).frames = (.java g :: mid) ++ below := by rw [State.frames_setTop' g h.top, hmid]; rfl
  obtain ⟨o, s₂, hsteps, -, hend, hq⟩ := Steps.callFree hM p X.admits X.cas X.clock (acts := []) hfr happ hPc trivial
  have hq' : vx_Q Qc XC mc ms free a (U.calling g mk a) o s₂ := hq
  rw [State.frames_setTop' g h.top] at hend
  obtain ⟨g₀, hg0⟩ := Option.isSome_iff_exists.mp h.top
  obtain ⟨r, hr⟩ := State.topJava?_eq_some.mp hg0
  have hr' : (({ U with heap := s₂.heap, slotsUsed := s₂.slotsUsed } : State).setVm s₂.vm).frames = .java g₀ :: r := hr
  rcases hq' with ⟨hqc, L, hfe, hL⟩ | ⟨q, rfl, E, ce, L, hx, hce, hcv, hcl, hW₂, hsm, hL⟩
  · obtain ⟨⟨v, rfl⟩, hW₂, e2, q2, q3, q4, q5, q6⟩ := id hfe
    have e3 : s₂ = ({ (U.calling g mk a).setFrames s₂.frames with heap := s₂.heap, slotsUsed := s₂.slotsUsed } : State).setVm s₂.vm := by
      have : s₂ = ({ s₂ with vm := (U.calling g mk a).vm } : State).setVm s₂.vm := rfl
      rw [e2] at this
      exact this
    obtain ⟨c₂, i₂, len₂, hc₂, hd₂, hf₂⟩ := hend
    have hW' : U.WarmedH s₂.vm := hW₂
    have hcc : c₂ = c := by
      have h1 : s₂.code? g.method = U.code? g.method := by
        rw [State.code?_eq, State.code?_eq, hW'.alike.method?]
      exact Option.some.inj (hc₂.symm.trans (h1.trans h.code))
    subst hcc
    have hlen : len₂ = len := by rw [hdg] at hd₂; cases hd₂; rfl
    subst hlen
    have hs₂ : s₂ = (({ U with heap := s₂.heap, slotsUsed := s₂.slotsUsed } : State).setVm s₂.vm).setTop { g with pc := g.pc + len₂, stack := v.toList ++ g.stack } := by
      refine e3.trans ?_
      rw [hf₂, State.calling_eq h.top, State.setFrames_setFrames, State.setTop_of_frames _ hr', hr]
      rfl
    have hsame : U.sameButNew ({ U with heap := s₂.heap, slotsUsed := s₂.slotsUsed } : State) L mc ms := by
      refine ⟨?_, q2, q3, q4, q5, q6⟩
      obtain ⟨t, ht, -⟩ := State.frames_cons hr
      show ({ U with heap := s₂.heap, slotsUsed := s₂.slotsUsed } : State) = { U.setFrames U.frames with heap := s₂.heap, slotsUsed := s₂.slotsUsed }
      rw [State.setFrames_self ht]
    subst hg
    refine Or.inl ⟨v, ⟨(({ U with heap := s₂.heap, slotsUsed := s₂.slotsUsed } : State).setVm s₂.vm), Ls ++ L, c0 + mc, s0 + ms⟩,
      ⟨X.admits, X.cas, X.clock, X.frames, X.room, X.hears, X.method, X.code, (X.here.setHeapUsed s₂.heap s₂.slotsUsed).setVm hW'.alike, X.tail, State.WarmedH.trans X.warmed hW', X.limits, X.bytes, X.same.trans (hsame.setVm s.vm)⟩,
      ⟨g, mk, s₂, L, rfl, rfl, hqc, rfl, hL, rfl, rfl⟩, ?_⟩
    show Steps p.tables e below _ ((({ U with heap := s₂.heap, slotsUsed := s₂.slotsUsed } : State).setVm s₂.vm).setTop { g with pc := g.pc + len₂, stack := v.toList ++ g.stack })
    rw [← hs₂]
    exact hsteps
  · obtain ⟨e2, q2, q3, q4, q5, q6⟩ := id hsm
    have e3 : s₂ = ({ (U.calling g mk a).setFrames s₂.frames with heap := s₂.heap, slotsUsed := s₂.slotsUsed } : State).setVm s₂.vm := by
      have : s₂ = ({ s₂ with vm := (U.calling g mk a).vm } : State).setVm s₂.vm := rfl
      rw [e2] at this
      exact this
    have hf₂ : s₂.frames = .throwing q :: .java g :: U.frames.tail := hend
    have hW' : U.WarmedH s₂.vm := hW₂
    have hs₂ : s₂ = ((({ U with heap := s₂.heap, slotsUsed := s₂.slotsUsed } : State).setVm s₂.vm).setTop g).pushFrame (.throwing q) := by
      refine e3.trans ?_
      rw [hf₂, State.calling_eq h.top, State.setFrames_setFrames, State.pushFrame, State.frames_setTop _ hr', State.setTop_of_frames _ hr', State.setFrames_setFrames, hr]
      rfl
    have hsame : U.sameButNew ({ U with heap := s₂.heap, slotsUsed := s₂.slotsUsed } : State) L mc ms := by
      refine ⟨?_, q2, q3, q4, q5, q6⟩
      obtain ⟨t, ht, -⟩ := State.frames_cons hr
      show ({ U with heap := s₂.heap, slotsUsed := s₂.slotsUsed } : State) = { U.setFrames U.frames with heap := s₂.heap, slotsUsed := s₂.slotsUsed }
      rw [State.setFrames_self ht]
    subst hg
    refine Or.inr ⟨q, ⟨(({ U with heap := s₂.heap, slotsUsed := s₂.slotsUsed } : State).setVm s₂.vm), Ls ++ L, c0 + mc, s0 + ms⟩,
      ⟨X.admits, X.cas, X.clock, X.frames, X.room, X.hears, X.method, X.code, (X.here.setHeapUsed s₂.heap s₂.slotsUsed).setVm hW'.alike, X.tail, State.WarmedH.trans X.warmed hW', X.limits, X.bytes, X.same.trans (hsame.setVm s.vm)⟩,
      ⟨g, mk, s₂, L, E, ce, rfl, rfl, hx, hce, hcv, hcl, rfl, hL, rfl, rfl⟩, ?_⟩
    show Steps p.tables e below _ (((({ U with heap := s₂.heap, slotsUsed := s₂.slotsUsed } : State).setVm s₂.vm).setTop g).pushFrame (.throwing q))
    rw [← hs₂]
    exact hsteps
end
variable {p : Program} {l : Launch} {e : Env} {R : Room} {s : State} {m : MethodId} {args : Array Value} {below : List Frame} {meth : Method} {c : Code} {T : State} {H : Heap} {locs : List Loc} {cells slots : Nat}
theorem vx_callVX (X : Stand p l e R s m args below meth c T locs cells slots) (hexec : p.tables.exec = Jvm.exec) {own C : String} {index : Nat} {y : MethodName} {bytes : ByteArray} {maxL : Nat} {ret : Option FieldType} {hh : List (Nat × Nat × Nat × Nat)}
    (hown : s.vm.findClass own = some m.cls) (hlink : (Cond.methodLink own index y).before args s = true) (hinst : (Cond.instanceMethod y).before args s = true) (hsel : (Cond.selects C y y).before args s = true)
    (hcode : (Cond.codeWith y bytes maxL ret hh).before args s = true) (hy : y.cls ≠ "java/lang/invoke/MethodHandle" ∧ y.cls ≠ "java/lang/invoke/VarHandle")
    {W9 : Nat} {Pre : Pt → Array Value → Prop} {Post : Pt → Array Value → Option Value → Pt → Prop} {PostX : Pt → Array Value → Addr → Pt → Prop} (hK : vx_Back l R p e below s args y 3 W9 Pre Post PostX)
    {b : Addr} {cellB : Cell} (hcell : T.heap[b]? = some cellB) (hobj : cellB.vm.isStatics = false) (hcls : s.vm.findClass C = some cellB.cls)
    {g : JFrame} (hg : g.method = m) (hsize : g.locals.size = c.maxLocals) {argsL rest : List Value} (hlen : ∀ sig, parseMethodDescriptor y.desc = some sig → argsL.length = sig.parameters.length)
    (hstack : g.stack = argsL.reverse ++ .ref b :: rest) (hW : 2 * g.monitorRoom + (rest.map fun v => v.category).sum ≤ W9) (hdg : decode c.code g.pc = .ok (.invokevirtual index, 3))
    (hpre : ∀ vm₁, s.WarmedH vm₁ → Pre ⟨T.setVm vm₁, locs, cells, slots⟩ (Value.ref b :: argsL).toArray) :
    (∃ (v : Option Value) (vm₁ : Vm) (B : Pt), s.WarmedH vm₁ ∧ Stand p l e R s m args below meth c B.U B.locs B.cells B.slots ∧ Post ⟨T.setVm vm₁, locs, cells, slots⟩ (Value.ref b :: argsL).toArray v B ∧
      ∀ target, Steps p.tables e below (B.U.setTop { g with pc := g.pc + 3, stack := v.toList ++ rest }) target → Steps p.tables e below (T.setTop g) target) ∨
    (∃ (q : Addr) (vm₁ : Vm) (B : Pt), s.WarmedH vm₁ ∧ Stand p l e R s m args below meth c B.U B.locs B.cells B.slots ∧ PostX ⟨T.setVm vm₁, locs, cells, slots⟩ (Value.ref b :: argsL).toArray q B ∧
      Steps p.tables e below (T.setTop g) ((B.U.setTop { g with stack := rest }).pushFrame (.throwing q))) := by
  obtain ⟨mk, methM, hnamed, hmethM, hstM, habM⟩ := Cond.instanceMethod_spec hinst
  obtain ⟨m8, methM', cM, hn8, hmethM', -, -, -, -, -, -, hsigM⟩ := Cond.codeWith_spec hcode
  cases Option.some.inj (hn8.symm.trans hnamed)
  cases hmethM.symm.trans hmethM'
  obtain ⟨c2, r2, m2, q1, q2, q3, q4, kP, hkP, hkPi⟩ := Cond.selects_spec hsel
  cases hcls.symm.trans q1
  cases (State.methodFound?_of_named hnamed hy).symm.trans q2
  cases hnamed.symm.trans q3
  have hselP : selectMethod e.platform s.vm cellB.cls mk = .method mk := by rw [Launch.admits_selectMethod X.admits]; exact q4
  obtain ⟨vm₁, X₁, hstep₁⟩ := X.invokevirtual hexec hown hlink hnamed hmethM hstM hkP hkPi hy (a := b) (cell := cellB) hcell
    (fun z h => by rw [h] at hobj; cases hobj) hselP hmethM habM hkP hkPi (g := g) hg (argsL := argsL) (rest := rest) (hlen _ hsigM) hstack hdg
  rcases hK m meth c ⟨T.setVm vm₁, locs, cells, slots⟩ { g with stack := rest } (.invokevirtual index) mk (Value.ref b :: argsL).toArray X₁ hg hsize hdg hW (X₁.named hnamed) (hpre vm₁ X₁.warmed) with ⟨v, B, X', hpost, hsteps⟩ | ⟨q, B, X', hpost, hsteps⟩
  · exact Or.inl ⟨v, vm₁, B, X₁.warmed, X', hpost, fun target h => hstep₁ _ fun acts => by rw [doInvoke_state]; exact hsteps.trans h⟩
  · exact Or.inr ⟨q, vm₁, B, X₁.warmed, X', hpost, hstep₁ _ fun acts => by rw [doInvoke_state]; exact hsteps⟩
theorem vx_callSX (X : Stand p l e R s m args below meth c T locs cells slots) (hexec : p.tables.exec = Jvm.exec) {own : String} {index : Nat} {y : MethodName} {bytes : ByteArray} {maxL : Nat} {ret : Option FieldType} {hh : List (Nat × Nat × Nat × Nat)}
    (hown : s.vm.findClass own = some m.cls) (hlink : (Cond.methodLink own index y).before args s = true) (hstat : (Cond.static y).before args s = true) (hinit : (Cond.initialized y.cls).before args s = true)
    (hcode : (Cond.codeWith y bytes maxL ret hh).before args s = true) (hy : y.cls ≠ "java/lang/invoke/MethodHandle" ∧ y.cls ≠ "java/lang/invoke/VarHandle")
    {W9 : Nat} {Pre : Pt → Array Value → Prop} {Post : Pt → Array Value → Option Value → Pt → Prop} {PostX : Pt → Array Value → Addr → Pt → Prop} (hK : vx_Back l R p e below s args y 3 W9 Pre Post PostX)
    {g : JFrame} (hg : g.method = m) (hsize : g.locals.size = c.maxLocals) {argsL rest : List Value} (hlen : ∀ sig, parseMethodDescriptor y.desc = some sig → argsL.length = sig.parameters.length)
    (hstack : g.stack = argsL.reverse ++ rest) (hW : 2 * g.monitorRoom + (rest.map fun v => v.category).sum ≤ W9) (hdg : decode c.code g.pc = .ok (.invokestatic index, 3))
    (hpre : ∀ vm₁, s.WarmedH vm₁ → Pre ⟨T.setVm vm₁, locs, cells, slots⟩ argsL.toArray) :
    (∃ (v : Option Value) (vm₁ : Vm) (B : Pt), s.WarmedH vm₁ ∧ Stand p l e R s m args below meth c B.U B.locs B.cells B.slots ∧ Post ⟨T.setVm vm₁, locs, cells, slots⟩ argsL.toArray v B ∧
      ∀ target, Steps p.tables e below (B.U.setTop { g with pc := g.pc + 3, stack := v.toList ++ rest }) target → Steps p.tables e below (T.setTop g) target) ∨
    (∃ (q : Addr) (vm₁ : Vm) (B : Pt), s.WarmedH vm₁ ∧ Stand p l e R s m args below meth c B.U B.locs B.cells B.slots ∧ PostX ⟨T.setVm vm₁, locs, cells, slots⟩ argsL.toArray q B ∧
      Steps p.tables e below (T.setTop g) ((B.U.setTop { g with stack := rest }).pushFrame (.throwing q))) := by
  obtain ⟨mk, methM, cM, hnamed, hmethM, -, -, -, -, -, -, hsigM⟩ := Cond.codeWith_spec hcode
  have hstatic : methM.isStatic = true := Cond.static_spec hnamed hmethM hstat
  obtain ⟨kP, hkP, -⟩ := className_of_methodNamed hnamed
  have hinitP : kP.init = .initialized := Cond.initialized_spec (findClass_of_methodNamed hnamed) hkP hinit
  obtain ⟨vm₁, X₁, hstep₁⟩ := X.invokestatic hexec hown hlink hnamed hmethM hstatic hkP hinitP hy (g := g) hg (argsL := argsL) (rest := rest) (hlen _ hsigM) hstack hdg
  rcases hK m meth c ⟨T.setVm vm₁, locs, cells, slots⟩ { g with stack := rest } (.invokestatic index) mk argsL.toArray X₁ hg hsize hdg hW (X₁.named hnamed) (hpre vm₁ X₁.warmed) with ⟨v, B, X', hpost, hsteps⟩ | ⟨q, B, X', hpost, hsteps⟩
  · exact Or.inl ⟨v, vm₁, B, X₁.warmed, X', hpost, fun target h => hstep₁ _ fun acts => by rw [doInvoke_state]; exact hsteps.trans h⟩
  · exact Or.inr ⟨q, vm₁, B, X₁.warmed, X', hpost, hstep₁ _ fun acts => by rw [doInvoke_state]; exact hsteps⟩
theorem vx_callVW (X : Stand p l e R s m args below meth c T locs cells slots) (hexec : p.tables.exec = Jvm.exec) {own C : String} {index : Nat} {y : MethodName} {bytes : ByteArray} {maxL : Nat} {ret : Option FieldType} {hh : List (Nat × Nat × Nat × Nat)}
    (hown : s.vm.findClass own = some m.cls) (hlink : (Cond.methodLink own index y).before args s = true) (hinst : (Cond.instanceMethod y).before args s = true) (hsel : (Cond.selects C y y).before args s = true)
    (hcode : (Cond.codeWith y bytes maxL ret hh).before args s = true) (hy : y.cls ≠ "java/lang/invoke/MethodHandle" ∧ y.cls ≠ "java/lang/invoke/VarHandle")
    {W9 : Nat} {Pre : Pt → Array Value → Prop} {Post : Pt → Array Value → Option Value → Pt → Prop} (hK : Back l R p e below s args y 3 W9 Pre Post)
    {b : Addr} {cellB : Cell} (hcell : T.heap[b]? = some cellB) (hobj : cellB.vm.isStatics = false) (hcls : s.vm.findClass C = some cellB.cls)
    {g : JFrame} (hg : g.method = m) (hsize : g.locals.size = c.maxLocals) {argsL rest : List Value} (hlen : ∀ sig, parseMethodDescriptor y.desc = some sig → argsL.length = sig.parameters.length)
    (hstack : g.stack = argsL.reverse ++ .ref b :: rest) (hW : 2 * g.monitorRoom + (rest.map fun v => v.category).sum ≤ W9) (hdg : decode c.code g.pc = .ok (.invokevirtual index, 3))
    (hpre : ∀ vm₁, s.WarmedH vm₁ → Pre ⟨T.setVm vm₁, locs, cells, slots⟩ (Value.ref b :: argsL).toArray) :
    ∃ (v : Option Value) (vm₁ : Vm) (B : Pt), s.WarmedH vm₁ ∧ Stand p l e R s m args below meth c B.U B.locs B.cells B.slots ∧ Post ⟨T.setVm vm₁, locs, cells, slots⟩ (Value.ref b :: argsL).toArray v B ∧
      ∀ target, Steps p.tables e below (B.U.setTop { g with pc := g.pc + 3, stack := v.toList ++ rest }) target → Steps p.tables e below (T.setTop g) target := by
  obtain ⟨mk, methM, hnamed, hmethM, hstM, habM⟩ := Cond.instanceMethod_spec hinst
  obtain ⟨m8, methM', cM, hn8, hmethM', -, -, -, -, -, -, hsigM⟩ := Cond.codeWith_spec hcode
  cases Option.some.inj (hn8.symm.trans hnamed)
  cases hmethM.symm.trans hmethM'
  obtain ⟨c2, r2, m2, q1, q2, q3, q4, kP, hkP, hkPi⟩ := Cond.selects_spec hsel
  cases hcls.symm.trans q1
  cases (State.methodFound?_of_named hnamed hy).symm.trans q2
  cases hnamed.symm.trans q3
  have hselP : selectMethod e.platform s.vm cellB.cls mk = .method mk := by rw [Launch.admits_selectMethod X.admits]; exact q4
  obtain ⟨vm₁, X₁, hstep₁⟩ := X.invokevirtual hexec hown hlink hnamed hmethM hstM hkP hkPi hy (a := b) (cell := cellB) hcell
    (fun z h => by rw [h] at hobj; cases hobj) hselP hmethM habM hkP hkPi (g := g) hg (argsL := argsL) (rest := rest) (hlen _ hsigM) hstack hdg
  obtain ⟨v, B, X', hpost, hsteps⟩ := hK m meth c ⟨T.setVm vm₁, locs, cells, slots⟩ { g with stack := rest } (.invokevirtual index) mk (Value.ref b :: argsL).toArray X₁ hg hsize hdg hW (X₁.named hnamed) (hpre vm₁ X₁.warmed)
  exact ⟨v, vm₁, B, X₁.warmed, X', hpost, fun target h => hstep₁ _ fun acts => by rw [doInvoke_state]; exact hsteps.trans h⟩
abbrev vx_CVW (R : Room) (s : State) (args : Array Value) (own C : String) (index : Nat) (y : MethodName) (bytes : ByteArray) (maxL : Nat) (ret : Option FieldType) (hh : List (Nat × Nat × Nat × Nat)) (ws : List Cond) (rm : Room) (mc ms n : Nat) : Prop :=
  (rm.cells = mc ∧ rm.slots = ms ∧ rm.frames + 1 ≤ R.frames ∧ 8 + (maxL + 11) + rm.locals ≤ R.locals ∧ (∀ w ∈ ws, ∀ (a' : Array Value) (U : State), s.WarmedH U.vm → w.before a' U = true) ∧ Cond.codeWith y bytes maxL ret hh ∈ ws) ∧
  (Cond.codeWith y bytes maxL ret hh).before args s = true ∧ (Cond.initialized y.cls).before args s = true ∧ (y.cls ≠ "java/lang/invoke/MethodHandle" ∧ y.cls ≠ "java/lang/invoke/VarHandle") ∧
  (∀ sig, parseMethodDescriptor y.desc = some sig → n = sig.parameters.length) ∧ (Cond.methodLink own index y).before args s = true ∧ (Cond.instanceMethod y).before args s = true ∧ (Cond.selects C y y).before args s = true
theorem vx_cwVW {own C : String} {index maxL mc ms : Nat} {y : MethodName} {bytes : ByteArray} {ret : Option FieldType} {hh : List (Nat × Nat × Nat × Nat)} {Ts ws ws' : List Cond} {rm : Room} (n : Nat) (ht : ∀ w ∈ Ts, w.before args s = true) (hT : GoodIn Ts (wsV own index C y ws)) (hw : ws = Cond.codeWith y bytes maxL ret hh :: ws') (hrc : rm.cells = mc) (hrs : rm.slots = ms)
    (hd : y.cls = C ∧ y.cls ≠ "java/lang/invoke/MethodHandle" ∧ y.cls ≠ "java/lang/invoke/VarHandle" ∧ (parseMethodDescriptor y.desc).map (fun d => d.parameters.length) = some n) (hR : rm.frames + 1 ≤ R.frames ∧ 8 + (maxL + 11) + rm.locals ≤ R.locals) :
    vx_CVW R s args own C index y bytes maxL ret hh ws rm mc ms n := by
  obtain ⟨hC, hd⟩ := hd
  subst hC
  have ok : ∀ w ∈ wsV own index y.cls y ws, w.before args s = true := fun w h => ht w (hT w h).1
  have hG : GoodIn Ts ws := fun w h => hT w (by unfold wsV; exact List.mem_append_right _ h)
  have hc : Cond.codeWith y bytes maxL ret hh ∈ ws := by rw [hw]; exact List.mem_cons_self
  refine ⟨⟨hrc, hrs, hR.1, hR.2, pay_in ht hG, hc⟩, ht _ (hG _ hc).1, ok _ (by simp [wsV]), ⟨hd.1, hd.2.1⟩, fun sig h => ?_, ok _ (by simp [wsV]), ok _ (by simp [wsV]), ok _ (by simp [wsV])⟩
  have h2 := hd.2.2
  rw [h] at h2
  exact (Option.some.inj h2).symm
theorem vx_runVW {y : MethodName} {bytes cc : ByteArray} {maxL nL mc ms n index : Nat} {ret : Option FieldType} {hh : List (Nat × Nat × Nat × Nat)} {ws : List Cond} {rm : Room} {Pc : Array Value → State → Prop} {Qc : Array Value → State → Outcome → State → Prop} {free : Addr → Prop} {Ts : List Cond} {own C : String} {b : Addr} {As rest : List Value} {g : JFrame}
    (S : CallFix p m c cc nL s args Ts own) (hM : Met l y ws rm Pc Qc mc ms free) (cw : vx_CVW R s args own C index y bytes maxL ret hh ws rm mc ms n) (hp : PreV s H C b Pc As)
    (hg : g.method = m) (hn : As.length = n) (hsize : g.locals.size = nL) (hstack : g.stack = As.reverse ++ .ref b :: rest) (hW : 2 * g.monitorRoom + (rest.map fun v => v.category).sum ≤ 8) (hdg : decode cc g.pc = .ok (.invokevirtual index, 3)) (hf : cells + mc ≤ R.cells ∧ slots + ms ≤ R.slots) :
    va_Run p l e R s m args below meth c H locs cells slots mc ms g rest (Qc (Value.ref b :: As).toArray) free := by
  obtain ⟨⟨hrc, hrs, hfr, hlo, hws, hcw⟩, hcode, hini, hy, hlen, hl, hin, hse⟩ := cw
  have hK : Back l R p e below s args y 3 8 (PreOf R mc ms Pc) (PostOf Qc mc ms free) := va_backW (hh := hh) (bytes := bytes) (maxL := maxL) (ret := ret) hM hp.1 hrc hrs hfr hlo hws hcw (fun a' U hW => word_at hW (Or.inl (by first | rfl | simp [Cond.onTables, Cond.keeps, Cond.steady])) hini)
  obtain ⟨hx, hb, hml, ho, -⟩ := S
  obtain ⟨-, ⟨cellB, hcB, hoB, hclB⟩, hPc⟩ := hp
  intro T hT X
  obtain ⟨v, vm₁, ⟨U', l2, c2, s2⟩, hW₁, X', ⟨g', mk, t, L, e1, e2, hq, h1, hL, h2, h3⟩, st⟩ := vx_callVW X hx (C := C) (hh := hh) (bytes := bytes) (maxL := maxL) (ret := ret) ho hl hin hse hcode hy hK (by rw [hT]; exact hcB) hoB hclB hg (hsize.trans hml.symm) (argsL := As) (rest := rest) (fun sig h => hn.trans (hlen sig h)) hstack hW (by rw [hb]; exact hdg)
    (fun vm₁ hW₁ => ⟨hf.1, hf.2, hPc (T.setVm vm₁) hT hW₁⟩)
  dsimp only [Pt.U, Pt.locs, Pt.cells, Pt.slots] at X' e1 e2 h1 h2 h3 st
  subst h1; subst h2; subst h3
  exact ⟨v, (T.setVm vm₁).calling g' mk (Value.ref b :: As).toArray, t, U', L, hT, X', hL, e1, e2, hq, st⟩
section
variable {y : MethodName} {bytes cc : ByteArray} {maxL nL mc ms n index : Nat} {ret : Option FieldType} {ws : List Cond} {rm : Room} {Pc : Array Value → State → Prop} {Qc : Array Value → State → Outcome → State → Prop} {XC : String → State → State → Prop} {free : Addr → Prop} {Ts : List Cond} {own C : String} {b : Addr} {As rest : List Value} {g : JFrame}
theorem vx_runVX {hh : List (Nat × Nat × Nat × Nat)} (S : CallFix p m c cc nL s args Ts own) (hM : vx_Met l y ws rm Pc Qc XC mc ms free) (cw : vx_CVW R s args own C index y bytes maxL ret hh ws rm mc ms n) (hp : PreV s H C b Pc As)
    (hg : g.method = m) (hn : As.length = n) (hsize : g.locals.size = nL) (hstack : g.stack = As.reverse ++ .ref b :: rest) (hW : 2 * g.monitorRoom + (rest.map fun v => v.category).sum ≤ 8) (hdg : decode cc g.pc = .ok (.invokevirtual index, 3)) (hf : cells + mc ≤ R.cells ∧ slots + ms ≤ R.slots) :
    vx_Run p l e R s m args below meth c H locs cells slots mc ms g rest (Qc (Value.ref b :: As).toArray) XC free := by
  obtain ⟨⟨hrc, hrs, hfr, hlo, hws, hcw⟩, hcode, hini, hy, hlen, hl, hin, hse⟩ := cw
  have hK : vx_Back l R p e below s args y 3 8 (PreOf R mc ms Pc) (PostOf Qc mc ms free) (vx_Post XC mc ms free) := vx_backW (hh := hh) (bytes := bytes) (maxL := maxL) (ret := ret) hM hp.1 hrc hrs hfr hlo hws hcw (fun a' U hW => word_at hW (Or.inl (by first | rfl | simp [Cond.onTables, Cond.keeps, Cond.steady])) hini)
  obtain ⟨hx, hb, hml, ho, -⟩ := S
  obtain ⟨-, ⟨cellB, hcB, hoB, hclB⟩, hPc⟩ := hp
  intro T hT X
  rcases vx_callVX X hx (C := C) (hh := hh) (bytes := bytes) (maxL := maxL) (ret := ret) ho hl hin hse hcode hy hK (by rw [hT]; exact hcB) hoB hclB hg (hsize.trans hml.symm) (argsL := As) (rest := rest) (fun sig h => hn.trans (hlen sig h)) hstack hW (by rw [hb]; exact hdg)
    (fun vm₁ hW₁ => ⟨hf.1, hf.2, hPc (T.setVm vm₁) hT hW₁⟩) with ⟨v, vm₁, ⟨U', l2, c2, s2⟩, hW₁, X', ⟨g', mk, t, L, e1, e2, hq, h1, hL, h2, h3⟩, st⟩ | ⟨q, vm₁, ⟨U', l2, c2, s2⟩, hW₁, X', ⟨g', mk, t, L, E, ce, e1, e2, hq, hce, hcv, hcl, h1, hL, h2, h3⟩, st⟩
  · dsimp only [Pt.U, Pt.locs, Pt.cells, Pt.slots] at X' e1 e2 h1 h2 h3 st
    subst h1; subst h2; subst h3
    exact Or.inl ⟨v, (T.setVm vm₁).calling g' mk (Value.ref b :: As).toArray, t, U', L, hT, X', hL, e1, e2, hq, st⟩
  · dsimp only [Pt.U, Pt.locs, Pt.cells, Pt.slots] at X' e1 e2 h1 h2 h3 st hcl
    subst h1; subst h2; subst h3
    exact Or.inr ⟨q, (T.setVm vm₁).calling g' mk (Value.ref b :: As).toArray, t, U', L, E, ce, hT, X', hL, e1, e2, hq, hce, hcv, vx_cls hW₁ hcl, st⟩
theorem vx_runSX {hh : List (Nat × Nat × Nat × Nat)} (S : CallFix p m c cc nL s args Ts own) (hM : vx_Met l y ws rm Pc Qc XC mc ms free) (cw : vx_CSW R s args own index y bytes maxL ret hh ws rm mc ms n) (hp : PreS s H Pc As)
    (hg : g.method = m) (hn : As.length = n) (hsize : g.locals.size = nL) (hstack : g.stack = As.reverse ++ rest) (hW : 2 * g.monitorRoom + (rest.map fun v => v.category).sum ≤ 8) (hdg : decode cc g.pc = .ok (.invokestatic index, 3)) (hf : cells + mc ≤ R.cells ∧ slots + ms ≤ R.slots) :
    vx_Run p l e R s m args below meth c H locs cells slots mc ms g rest (Qc As.toArray) XC free := by
  obtain ⟨⟨hrc, hrs, hfr, hlo, hws, hcw⟩, hcode, hini, hy, hlen, hl, hstt⟩ := cw
  have hK : vx_Back l R p e below s args y 3 8 (PreOf R mc ms Pc) (PostOf Qc mc ms free) (vx_Post XC mc ms free) := vx_backW (hh := hh) (bytes := bytes) (maxL := maxL) (ret := ret) hM hp.1 hrc hrs hfr hlo hws hcw (fun a' U hW => word_at hW (Or.inl (by first | rfl | simp [Cond.onTables, Cond.keeps, Cond.steady])) hini)
  obtain ⟨hx, hb, hml, ho, -⟩ := S
  intro T hT X
  rcases vx_callSX X hx (hh := hh) (bytes := bytes) (maxL := maxL) (ret := ret) ho hl hstt hini hcode hy hK hg (hsize.trans hml.symm) (argsL := As) (rest := rest) (fun sig h => hn.trans (hlen sig h)) hstack hW (by rw [hb]; exact hdg)
    (fun vm₁ hW₁ => ⟨hf.1, hf.2, hp.2 (T.setVm vm₁) hT hW₁⟩) with ⟨v, vm₁, ⟨U', l2, c2, s2⟩, hW₁, X', ⟨g', mk, t, L, e1, e2, hq, h1, hL, h2, h3⟩, st⟩ | ⟨q, vm₁, ⟨U', l2, c2, s2⟩, hW₁, X', ⟨g', mk, t, L, E, ce, e1, e2, hq, hce, hcv, hcl, h1, hL, h2, h3⟩, st⟩
  · dsimp only [Pt.U, Pt.locs, Pt.cells, Pt.slots] at X' e1 e2 h1 h2 h3 st
    subst h1; subst h2; subst h3
    exact Or.inl ⟨v, (T.setVm vm₁).calling g' mk As.toArray, t, U', L, hT, X', hL, e1, e2, hq, st⟩
  · dsimp only [Pt.U, Pt.locs, Pt.cells, Pt.slots] at X' e1 e2 h1 h2 h3 st hcl
    subst h1; subst h2; subst h3
    exact Or.inr ⟨q, (T.setVm vm₁).calling g' mk As.toArray, t, U', L, E, ce, hT, X', hL, e1, e2, hq, hce, hcv, vx_cls hW₁ hcl, st⟩
end
end VXH
theorem vx_ofWH {l : Launch} {y : MethodName} {ws ws' : List Cond} {rm : Room} {Pc : Array Value → State → Prop} {Qc : Array Value → State → Outcome → State → Prop} {XC : String → State → State → Prop} {mc ms : Nat} {free : Addr → Prop} {cc : ByteArray} {maxL : Nat} {ret : Option FieldType} {hh : List (Nat × Nat × Nat × Nat)}
    (hy : plainName y.cls = true) (hw : ws = Cond.codeWith y cc maxL ret hh :: ws')
    (body : ∀ p e s m args below meth c s₁, BodyLoose p l y (headSpec ws rm) cc maxL ret e s m args below meth c s₁ → c.maxLocals = maxL → Pc args s →
      W p l e (headSpec ws rm).room s m args below meth c s.heap [] 0 0 (vx_MQ below Qc XC args s mc ms free) (entryFrame m args maxL)) : vx_Met l y ws rm Pc Qc XC mc ms free := by
  refine MetFree.of_bodyS (code := cc) (maxLocals := maxL) (ret := ret) hy ?_ ?_
  · intro args s m h hn
    obtain ⟨m9, meth, c, hn9, h1, h2, h3, h4, -, h5, h6, -⟩ := Cond.codeWith_spec (atoms_spec (ws := ws) h _ (by rw [hw]; exact List.mem_cons_self))
    cases hn.symm.trans hn9
    exact ⟨meth, c, h1, h2, h3, h4, h5, h6⟩
  · intro p e s m args below meth c s₁ B hml hP _
    have hh0 : s₁.heap = s.heap := by rw [B.state]; rfl
    obtain ⟨t, a1, o, b1, b2, b3⟩ := body p e s m args below meth c s₁ B hml hP s₁ hh0 (Stand.of_body B)
    exact ⟨t, o, a1, b1, b2, b3⟩
/-! ===== END ===== -/

/-! ===== BEGIN what the machine throws by itself, no traces kept ===== -/
section VXM
set_option maxHeartbeats 1000000 in
/-- the machine throws cls with the message text, no traces kept: from its note over the frame g to 'throwing' over the same frame (follows the proofs of Stand.vmThrowsMessage, Shelf/KitTracedVmS.lean, and Stand.throwsMessageColdBareV, StandMessageColdV.lean, without the step out of the frame) -/
theorem vx_vmAt {p : Program} {l : Launch} {e : Env} {R : Room} {s : State} {m₀ : MethodId} {args : Array Value} {below : List Frame} {meth : Method} {c : Code} {W : State} {locs : List Loc} {cells slots : Nat}
    (X : Stand p l e R s m₀ args below meth c W locs cells slots) (hexec : p.tables.exec = Jvm.exec) (htr : e.platform.stackTraces = false) {cls : String} {names : List String} {text : String}
    (hcls : Bundle.fit cls = true) (hnames : ∀ n ∈ names, Bundle.fit n = true) (hsoe : (cls == "java/lang/StackOverflowError") = false) (hoom : (cls == "java/lang/OutOfMemoryError") = false)
    (h : ∀ a ∈ Bundle.messageArmAtoms cls names, a.before args s = true)
    (hlocs : ∀ x ∈ locs, ∀ cell, s.heap[x.base]? = some cell → cell.vm.isStatics = false)
    (htext : (text == notModelled) = false) (hlimit : ¬ (stringBytes (stringToUtf16 text)).size > e.platform.arrayLengthLimit) (hheap : ¬ (stringBytes (stringToUtf16 text)).size * componentBytes .byte > e.platform.maxHeapBytes)
    {g : JFrame} (hg : g.method = m₀) (hsize : g.locals.size = c.maxLocals)
    (hRframes : names.length + 4 < R.frames) (hRlocals : 2 * g.monitorRoom + (g.stack.map fun v => v.category).sum + 10240 ≤ R.locals) (hshort : 13 * names.length + 55 ≤ 10240)
    (hRcells : cells + 3 ≤ R.cells) (hRslots : slots + ((stringBytes (stringToUtf16 text)).size + 4 + 6) ≤ R.slots) (hlocks : meth.locks = false) :
    ∃ (S : State) (q : Addr) (ce : Cell), (∀ target, Steps p.tables e below ((S.setTop g).pushFrame (.throwing q)) target → Steps p.tables e below ((W.setTop g).pushFrame (.throwNew cls (some text) none)) target) ∧
      Stand p l e R s m₀ args below meth c S locs (cells + 3) (slots + ((stringBytes (stringToUtf16 text)).size + 4 + 6)) ∧ S.heap[q]? = some ce ∧ s.vm.findClass cls = some ce.cls ∧ ce.vm = .none := by
  have howns : e.platform.frameOwnsMonitors = true := by rw [X.admits.platform]
  have hfin : e.platform.finalization = false := by rw [X.admits.platform]
  have hpl : e.platform.magicAccessors = ({} : Platform).magicAccessors := by rw [X.admits.platform]
  have a : ∀ x, x ∈ Bundle.messageArmAtoms cls names → x.holds args s none s [] = true := fun x hx => h x hx
  obtain ⟨T, Z0, L, -, Y⟩ := ThrowableC.of_atoms (args := args) howns hfin hpl (fun x hx => h x (by simp [Bundle.messageArmAtoms, hx]))
  obtain ⟨Z, M, LZ, LM, hnZ⟩ := Init0T.ofS_atoms (args := args) hpl L Y (fun x hx => h x (by simp [Bundle.messageArmAtoms, hx]))
  obtain ⟨P1, Ps, hlen, L1, hL, hP1m, hlink1, hlink⟩ := Bundle.chainS (args := args) hpl hnZ names cls hcls hnames (fun x hx => h x (by simp [Bundle.messageArmAtoms, hx]))
  obtain ⟨Zs, LZs, hn4, hfitv, hfitc⟩ := StringT.of_atoms (args := args) (fun x hx => h x (by simp [Bundle.messageArmAtoms, hx]))
  have hfound : s.vm.findClass cls = some P1.m.cls := findClass_of_methodNamed hP1m
  obtain ⟨c1, kX, hc1, hk, hord, -, -, hn6⟩ := Cond.instantiable_spec (a (.instantiable cls 6) (by simp [Bundle.messageArmAtoms]))
  cases Option.some.inj (hc1.symm.trans hfound)
  have hinit := Cond.initialized_spec hfound hk (a (.initialized cls) (by simp [Bundle.messageArmAtoms]))
  have hctor : kX.findMethod "<init>" "(Ljava/lang/String;)V" = some P1.m.idx := findMethod_of_methodNamed hP1m hk
  have hsel0 : selectMethod e.platform s.vm P1.m.cls T.fill0 = .method T.fill0 := by
    obtain ⟨c2, r2, m2, q1, q2, q3, q4, -⟩ := Cond.selects_spec (a (.selects cls Bundle.tFill0 Bundle.tFill0) (by simp [Bundle.messageArmAtoms]))
    cases Option.some.inj (q1.symm.trans hfound)
    cases Option.some.inj (q2.symm.trans (State.methodFound?_of_named Y.fill0 (by decide)))
    cases Option.some.inj (q3.symm.trans Y.fill0)
    rw [Launch.admits_selectMethod X.admits]; exact q4
  have hselF : selectMethod e.platform s.vm P1.m.cls T.fill = .method T.fill := by
    obtain ⟨c2, r2, m2, q1, q2, q3, q4, -⟩ := Cond.selects_spec (a (.selects cls Bundle.tFill Bundle.tFill) (by simp [Bundle.messageArmAtoms]))
    cases Option.some.inj (q1.symm.trans hfound)
    cases Option.some.inj (q2.symm.trans (State.methodFound?_of_named Y.fill (by decide)))
    cases Option.some.inj (q3.symm.trans Y.fill)
    rw [Launch.admits_selectMethod X.admits]; exact q4
  obtain ⟨cellS0, hcS0, hiss⟩ := Y.statics
  obtain ⟨u0, hu0⟩ := Cond.staticRefV Y.unassigned L.unassignedStatic L.statics hcS0 hiss (a (.isRef (.static Bundle.tN "UNASSIGNED_STACK" Bundle.steD)) (by simp [Bundle.messageArmAtoms]))
  obtain ⟨sen, hsen⟩ := Cond.staticRefV Y.sentinel L.sentinelStatic L.statics hcS0 hiss (a (.isRef (.static Bundle.tN "SUPPRESSED_SENTINEL" Bundle.listD)) (by simp [Bundle.messageArmAtoms]))
  obtain ⟨ci198, i198, fB, hk198, hg198, ha198, hsB, -, hnB, htB, hffB⟩ := Cond.ownField (t := .object "java/lang/Object") Y.found L.cls (by decide +kernel) (a (.fieldLink Bundle.tN 198 Bundle.tN "backtrace" "Ljava/lang/Object;") (by simp [Bundle.messageArmAtoms])) (a (.lays Bundle.tN Bundle.tN "backtrace" "Ljava/lang/Object;") (by simp [Bundle.messageArmAtoms])) e.platform hpl
  obtain ⟨cellS, hcS', heS, -, hkeep⟩ := X.same.2.2.2.2.2 T.aS cellS0 hcS0
  have hcellS : W.heap[T.aS]? = some cellS := hcS'
  have hout' : ∀ i, (⟨T.aS, i⟩ : Loc) ∉ locs := fun i hmem => by
    have := hlocs _ hmem cellS0 hcS0
    rw [hiss] at this; cases this
  have hknownS : cellS.vm ≠ .unknown := by
    rw [heS]; intro hu
    rw [show cellS0.vm = .unknown from hu] at hiss
    cases hiss
  have hvU : cellS.slots[T.fUnassigned.slot]? = some u0.v := by rw [hkeep _ (hout' _)]; exact hu0
  have hvSen : cellS.slots[T.fSentinel.slot]? = some sen.v := by rw [hkeep _ (hout' _)]; exact hsen
  obtain ⟨iM, hffM⟩ := Y.msg
  obtain ⟨tyC, dC, hdC, hdnC⟩ := Cond.laysAt hfound hk Y.cause (a (.lays cls Bundle.tN "cause" "Ljava/lang/Throwable;") (by simp [Bundle.messageArmAtoms]))
  obtain ⟨tyS, dS, hdS, hdnS⟩ := Cond.laysAt hfound hk Y.stack (a (.lays cls Bundle.tN "stackTrace" Bundle.steD) (by simp [Bundle.messageArmAtoms]))
  obtain ⟨tyP, dP, hdP, hdnP⟩ := Cond.laysAt hfound hk Y.supp (a (.lays cls Bundle.tN "suppressedExceptions" Bundle.listD) (by simp [Bundle.messageArmAtoms]))
  obtain ⟨tyM, dM, hdM, hdnM⟩ := Cond.laysAt hfound hk hffM (a (.lays cls Bundle.tN "detailMessage" "Ljava/lang/String;") (by simp [Bundle.messageArmAtoms]))
  obtain ⟨tyB, dB, hdB, hdnB⟩ := Cond.laysAt hfound hk hffB (a (.lays cls Bundle.tN "backtrace" "Ljava/lang/Object;") (by simp [Bundle.messageArmAtoms]))
  have bC := Cond.laysApart hdB hdC hdnB hdnC (by rw [hnB, Y.causeName]; decide)
  have bS := Cond.laysApart hdB hdS hdnB hdnS (by rw [hnB, Y.stackName]; decide)
  have bP := Cond.laysApart hdB hdP hdnB hdnP (by rw [hnB, Y.suppName]; decide)
  have hbk : ((preparedCellV T.toThrowableT (freshCell P1.m.cls kX) (W.heap.size + 2) u0 sen).withEntry W.cur).slots[fB.slot]? = some .null := by
    have := fresh_default (c := P1.m.cls) tyB
    rw [htB] at this
    simpa [preparedCellV, Cell.setSlot, Cell.withEntry, Array.getElem?_setIfInBounds, bC, bS, bP, bC.symm, bS.symm, bP.symm, defaultValue] using this
  have tkC := Takes.of_laid (v := .ref (W.heap.size + 2)) hk hord tyC (by rw [Y.causeType]; rfl)
  have tkS := Takes.of_laid (v := u0.v) hk hord tyS (by rw [Y.stackType]; exact fits_refV_array _ u0)
  have tkP := Takes.of_laid (v := sen.v) hk hord tyP (by rw [Y.suppType]; exact fits_refV_object _ sen)
  have tkM := Takes.of_laid (v := .ref (W.heap.size + 1)) hk hord tyM (by rw [Y.msgType]; rfl)
  have hskip : SkipFacts T e.platform s (fun u => u) u0 ((preparedCellV T.toThrowableT (freshCell P1.m.cls kX) (W.heap.size + 2) u0 sen).withEntry W.cur) := ⟨{ ci198 := ci198, i198 := i198, fBack := fB }, ⟨hk198, hg198, ha198, hsB⟩, hbk, fun _ _ => rfl⟩
  have h0 : At W g.method c below := by rw [hg]; exact X.here
  obtain ⟨hbeyond, hfreeW⟩ := X.vmMayThrow hsize (.throwNew cls (some text) none) (fun f hf => by cases hf) rfl hRlocals
  have hfr' : W.frames.length + Ps.length + 4 < (e.platform.stackLimits W.me).1 := by have := X.framesAbove hRframes; omega
  have hwd' : (stackUse (.java g :: W.frames.tail)).2 + 13 * Ps.length + 55 ≤ (e.platform.stackLimits W.me).2 := by have := X.stackAbove hsize (K := 13 * Ps.length + 55) (by omega); omega
  have hslots : W.slotsUsed + (stringBytes (stringToUtf16 text)).size + Zs.kS.instanceTypes.size + kX.instanceTypes.size ≤ e.platform.maxSlots := by
    have := X.slotsAbove hRslots
    rw [hn4, hn6]
    omega
  obtain ⟨vm', hW', st⟩ := Steps.vmThrowsMessageColdByV p (s₀ := s) (S := W) (g := g) h0 hexec T L Z LZ M LM X.warmed (t := W.cur) rfl Zs LZs P1 L1 Ps hL hlink1 hlink hsoe hoom hfound hk hinit hord hctor
    (Launch.admits_hotImplicitExceptions X.admits) hbeyond hfreeW htext hlimit hheap (X.cellsAbove hRcells) hslots (hfitv _) (hfitc _)
    (Nn := fun u => u) heapOnly_id (fun _ _ => rfl) (fun _ => rfl) (fun u x y => setCell_twice _ _ _ _) (fun _ => Nat.le_refl _) (cN := ((preparedCellV T.toThrowableT (freshCell P1.m.cls kX) (W.heap.size + 2) u0 sen).withEntry W.cur))
    hsel0 hcellS hknownS hvU tkS (fun _ hu => hu) (fun _ hu => hu) rfl rfl rfl (by simp [preparedCellV, Cell.setSlot, Cell.withEntry]) hskip (fun _ _ hA hW _ hroom _ hrest => L.nativeOff p htr hA hW hroom hrest) hselF hvSen tkC tkP tkM Y.objLocals rfl hfr' hwd'
  rw [plainBareV_eq T.toThrowableT (W.heap.size + 2) u0 sen (.ref (W.heap.size + 1)) W.cur rfl rfl] at st
  obtain ⟨-, -, w3, w4, -, -, -⟩ := withThrown_facts e.platform W Zs text P1.m.cls kX
  have X3 := ((X.pushed (bytesOf Zs.cB (stringToUtf16 text))).pushed (stringAt Zs.cS Zs.kS Zs.fv Zs.fc (stringToUtf16 text) W.heap.size)).pushed (freshCell P1.m.cls kX)
  rw [← withString_eq] at X3
  have X4 := X3.noted hW'
  have ha : (W.heap.size + 2) < ((withThrown W Zs text P1.m.cls kX).setVm vm').heap.size := by show _ < (withThrown W Zs text P1.m.cls kX).heap.size; rw [w3]; omega
  have hcell : ((withThrown W Zs text P1.m.cls kX).setVm vm').heap[(W.heap.size + 2)]? = some (freshCell P1.m.cls kX) := w4
  have X5 := ((((X4.stored hcell T.fCause.slot (.ref (W.heap.size + 2))).storedAgain ha T.fStack.slot u0.v).storedAgain ha T.fSupp.slot sen.v).storedAgain ha T.fStack.slot u0.v).storedAgain ha T.fMsg.slot (.ref (W.heap.size + 1))
  obtain ⟨g₁, hfrM⟩ := X5.frames_eq
  have hU : ((((withThrown W Zs text P1.m.cls kX).setVm vm').setCell (W.heap.size + 2) (plainBareV T.toThrowableT (freshCell P1.m.cls kX) (W.heap.size + 2) u0 sen (.ref (W.heap.size + 1)))).setTop g).pushFrame (.throwing (W.heap.size + 2)) = (((withThrown W Zs text P1.m.cls kX).setVm vm').setCell (W.heap.size + 2) (plainBareV T.toThrowableT (freshCell P1.m.cls kX) (W.heap.size + 2) u0 sen (.ref (W.heap.size + 1)))).setFrames (.throwing (W.heap.size + 2) :: .java g :: below) := by
    rw [State.pushFrame, State.frames_setTop _ hfrM, State.setTop_of_frames _ hfrM, State.setFrames_setFrames]
  have b1 : (bytesOf Zs.cB (stringToUtf16 text)).slots.size = (stringBytes (stringToUtf16 text)).size := by
    rw [(Cell.writeAll_facts _ _).2.2]; simp [bytes0]
  have b2 : (stringAt Zs.cS Zs.kS Zs.fv Zs.fc (stringToUtf16 text) W.heap.size).slots.size = 4 := by simp [string0, Cell.setSlot, hn4]
  have b3 : (freshCell P1.m.cls kX).slots.size = 6 := by simp [hn6]
  rw [b1, b2, b3] at X5
  have e9 : slots + (stringBytes (stringToUtf16 text)).size + 4 + 6 = slots + ((stringBytes (stringToUtf16 text)).size + 4 + 6) := by omega
  rw [e9] at X5
  simp only [List.append_assoc, List.cons_append, List.nil_append] at X5
  refine ⟨((withThrown W Zs text P1.m.cls kX).setVm vm').setCell (W.heap.size + 2) (plainBareV T.toThrowableT (freshCell P1.m.cls kX) (W.heap.size + 2) u0 sen (.ref (W.heap.size + 1))), W.heap.size + 2, _, fun target ht => st _ (by rw [X.tail, ← hU]; exact ht),
    X5.forget (fun y hy => ?_), heapAt_setCell_self _ ha, hfound, rfl⟩
  simp only [List.mem_cons, List.not_mem_nil, or_false] at hy
  have hge : s.heap.size ≤ W.heap.size := X.same.2.1
  rcases hy with rfl | rfl | rfl | rfl | rfl <;> exact Nat.le_trans hge (Nat.le_add_right _ 2)
set_option maxHeartbeats 1000000 in
/-- the machine throws NullPointerException, no traces kept: from its note over the frame g to 'throwing' over the same frame (follows the proof of Stand.vmThrowsNpe, Shelf42/KT2.lean; throwsNpeColdBareVAt, Shelf42/NT91.lean, called) -/
theorem vx_npeAt {p : Program} {l : Launch} {e : Env} {R : Room} {s : State} {m₀ : MethodId} {args : Array Value} {below : List Frame} {meth : Method} {c : Code} {W : State} {locs : List Loc} {cells slots : Nat}
    (X : Stand p l e R s m₀ args below meth c W locs cells slots) (hexec : p.tables.exec = Jvm.exec) (htr : e.platform.stackTraces = false) {n : Nat}
    (h : ∀ a ∈ Bundle.npeArmAtoms n, a.before args s = true)
    (hlocs : ∀ x ∈ locs, ∀ cell, s.heap[x.base]? = some cell → cell.vm.isStatics = false)
    {g : JFrame} (hg : g.method = m₀) (hsize : g.locals.size = c.maxLocals)
    (hRframes : 7 < R.frames) (hRlocals : 2 * g.monitorRoom + (g.stack.map fun v => v.category).sum + 10240 ≤ R.locals)
    (hRcells : cells + 1 ≤ R.cells) (hRslots : slots + n ≤ R.slots) (hlocks : meth.locks = false) :
    ∃ (S : State) (q : Addr) (ce : Cell), (∀ target, Steps p.tables e below ((S.setTop g).pushFrame (.throwing q)) target → Steps p.tables e below ((W.setTop g).pushFrame (.throwNew "java/lang/NullPointerException" none none)) target) ∧
      Stand p l e R s m₀ args below meth c S locs (cells + 1) (slots + n) ∧ S.heap[q]? = some ce ∧ s.vm.findClass "java/lang/NullPointerException" = some ce.cls ∧ ce.vm = .none := by
  have howns : e.platform.frameOwnsMonitors = true := by rw [X.admits.platform]
  have hfin : e.platform.finalization = false := by rw [X.admits.platform]
  have hpl : e.platform.magicAccessors = ({} : Platform).magicAccessors := by rw [X.admits.platform]
  have hpl2 : e.platform.arrayCloneIsPublic = true := by rw [X.admits.platform]
  have a' : ∀ x, x ∈ Bundle.npeArmAtoms n → x.holds args s none s [] = true := fun x hx => h x hx
  obtain ⟨T, Z, L, LZ, Y⟩ := ThrowableC.of_atoms (args := args) howns hfin hpl (fun x hx => h x (by simp [Bundle.npeArmAtoms, hx]))
  obtain ⟨N, LN, hcN, hnNF, hordN, hffS⟩ := NpeC.of_atoms (args := args) hpl hpl2 L Y (fun x hx => h x (by simp [Bundle.npeArmAtoms, hx]))
  obtain ⟨P1, L1, hP1m, hP1s⟩ := PassC.of_atoms (args := args) (s := s) hpl (X := Bundle.nN) (Y := Bundle.rN) (by decide) (by decide) LibCode.NullPointerException.Init0.at_0 LibCode.NullPointerException.Init0.at_1 LibCode.NullPointerException.Init0.at_4 (fun x hx => h x (by simp [Bundle.npeArmAtoms, hx]))
  obtain ⟨PR, LR, hPRm, hPRs⟩ := PassC.of_atoms (args := args) (s := s) hpl (X := Bundle.rN) (Y := Bundle.eN) (by decide) (by decide) LibCode.RuntimeException.Init0.at_0 LibCode.RuntimeException.Init0.at_1 LibCode.RuntimeException.Init0.at_4 (fun x hx => h x (by simp [Bundle.npeArmAtoms, hx]))
  obtain ⟨PE, LEx, hPEm, hPEs⟩ := PassC.of_atoms (args := args) (s := s) hpl (X := Bundle.eN) (Y := Bundle.tN) (by decide) (by decide) LibCode.Exception.Init0.at_0 LibCode.Exception.Init0.at_1 LibCode.Exception.Init0.at_4 (fun x hx => h x (by simp [Bundle.npeArmAtoms, hx]))
  have hfound : s.vm.findClass Bundle.nN = some P1.m.cls := findClass_of_methodNamed hP1m
  have ecls : N.cN = P1.m.cls := Option.some.inj (hcN.symm.trans hfound)
  have hk : s.vm.classes[P1.m.cls]? = some N.kN := by rw [← ecls]; exact LN.cls
  have hinit := Cond.initialized_spec hfound hk (a' (.initialized Bundle.nN) (by simp [Bundle.npeArmAtoms]))
  have hctor : N.kN.findMethod "<init>" "()V" = some P1.m.idx := findMethod_of_methodNamed hP1m hk
  obtain ⟨c1, k1, hc1, hk1, -, -, -, hn⟩ := Cond.instantiable_spec (a' (.instantiable Bundle.nN n) (by simp [Bundle.npeArmAtoms]))
  cases Option.some.inj (hc1.symm.trans hfound)
  cases Option.some.inj (hk1.symm.trans hk)
  have hfsz : (freshCell P1.m.cls N.kN).slots.size = n := by simp [hn]
  have hlink1 : P1.sup = PR.m := Option.some.inj (hP1s.symm.trans hPRm)
  have hlinkR : PR.sup = PE.m := Option.some.inj (hPRs.symm.trans hPEm)
  have hlinkE : PE.sup = Z.m T.toThrowableT := Option.some.inj (hPEs.symm.trans Y.init0)
  have hLs : ∀ P, P ∈ [PR, PE] → P.Links0 e.platform s := fun P hP => by
    simp only [List.mem_cons, List.not_mem_nil, or_false] at hP
    rcases hP with rfl | rfl
    · exact LR
    · exact LEx
  have hsel0 : selectMethod e.platform s.vm P1.m.cls T.fill0 = .method T.fill0 := by
    obtain ⟨c2, r2, m2, q1, q2, q3, q4, -⟩ := Cond.selects_spec (a' (.selects Bundle.nN Bundle.tFill0 Bundle.tFill0) (by simp [Bundle.npeArmAtoms]))
    cases Option.some.inj (q1.symm.trans hfound)
    cases Option.some.inj (q2.symm.trans (State.methodFound?_of_named Y.fill0 (by decide)))
    cases Option.some.inj (q3.symm.trans Y.fill0)
    rw [Launch.admits_selectMethod X.admits]; exact q4
  have hselF : selectMethod e.platform s.vm P1.m.cls T.fill = .method N.fill := by
    obtain ⟨c2, r2, m2, q1, q2, q3, q4, -⟩ := Cond.selects_spec (a' (.selects Bundle.nN Bundle.tFill Bundle.nFill) (by simp [Bundle.npeArmAtoms]))
    cases Option.some.inj (q1.symm.trans hfound)
    cases Option.some.inj (q2.symm.trans (State.methodFound?_of_named Y.fill (by decide)))
    cases Option.some.inj (q3.symm.trans hnNF)
    rw [Launch.admits_selectMethod X.admits]; exact q4
  obtain ⟨cellS0, hcS0, hiss⟩ := Y.statics
  obtain ⟨u0, hu0⟩ := Cond.staticRefV Y.unassigned L.unassignedStatic L.statics hcS0 hiss (a' (.isRef (.static Bundle.tN "UNASSIGNED_STACK" Bundle.steD)) (by simp [Bundle.npeArmAtoms]))
  obtain ⟨sen, hsen⟩ := Cond.staticRefV Y.sentinel L.sentinelStatic L.statics hcS0 hiss (a' (.isRef (.static Bundle.tN "SUPPRESSED_SENTINEL" Bundle.listD)) (by simp [Bundle.npeArmAtoms]))
  obtain ⟨ci198, i198, fB, hk198, hg198, ha198, hsB, -, hnB, htB, hffB⟩ := Cond.ownField (t := .object "java/lang/Object") Y.found L.cls (by decide +kernel) (a' (.fieldLink Bundle.tN 198 Bundle.tN "backtrace" Bundle.objD) (by simp [Bundle.npeArmAtoms])) (a' (.lays Bundle.tN Bundle.tN "backtrace" Bundle.objD) (by simp [Bundle.npeArmAtoms])) e.platform hpl
  obtain ⟨cellS, hcS', heS, -, hkeep⟩ := X.same.2.2.2.2.2 T.aS cellS0 hcS0
  have hcellS : W.heap[T.aS]? = some cellS := hcS'
  have hout' : ∀ i, (⟨T.aS, i⟩ : Loc) ∉ locs := fun i hmem => by
    have := hlocs _ hmem cellS0 hcS0
    rw [hiss] at this; cases this
  have hknownS : cellS.vm ≠ .unknown := by
    rw [heS]; intro hu
    rw [show cellS0.vm = .unknown from hu] at hiss
    cases hiss
  have hvU : cellS.slots[T.fUnassigned.slot]? = some u0.v := by rw [hkeep _ (hout' _)]; exact hu0
  have hvSen : cellS.slots[T.fSentinel.slot]? = some sen.v := by rw [hkeep _ (hout' _)]; exact hsen
  obtain ⟨tyC, dC, hdC, hdnC⟩ := Cond.laysAt hfound hk Y.cause (a' (.lays Bundle.nN Bundle.tN "cause" "Ljava/lang/Throwable;") (by simp [Bundle.npeArmAtoms]))
  obtain ⟨tyS, dS, hdS, hdnS⟩ := Cond.laysAt hfound hk Y.stack (a' (.lays Bundle.nN Bundle.tN "stackTrace" Bundle.steD) (by simp [Bundle.npeArmAtoms]))
  obtain ⟨tyP, dP, hdP, hdnP⟩ := Cond.laysAt hfound hk Y.supp (a' (.lays Bundle.nN Bundle.tN "suppressedExceptions" Bundle.listD) (by simp [Bundle.npeArmAtoms]))
  obtain ⟨tyX, dX, hdX, hdnX⟩ := Cond.laysAt hfound hk hffS (a' (.lays Bundle.nN Bundle.nN "extendedMessageState" "I") (by simp [Bundle.npeArmAtoms, Bundle.npeAtoms]))
  obtain ⟨hnX, htX⟩ := State.fieldFound?_type hffS (t := .int) (by decide +kernel)
  have xC := Cond.laysApart hdC hdX hdnC hdnX (by rw [hnX, Y.causeName]; decide)
  have xS := Cond.laysApart hdS hdX hdnS hdnX (by rw [hnX, Y.stackName]; decide)
  have xP := Cond.laysApart hdP hdX hdnP hdnX (by rw [hnX, Y.suppName]; decide)
  have hv0 : (freshCell P1.m.cls N.kN).slots[N.fState.slot]? = some (.int 0) := by
    have := fresh_default (c := P1.m.cls) tyX
    rw [htX] at this; exact this
  obtain ⟨tyB, dB, hdB, hdnB⟩ := Cond.laysAt hfound hk hffB (a' (.lays Bundle.nN Bundle.tN "backtrace" Bundle.objD) (by simp [Bundle.npeArmAtoms]))
  have bC := Cond.laysApart hdB hdC hdnB hdnC (by rw [hnB, Y.causeName]; decide)
  have bS := Cond.laysApart hdB hdS hdnB hdnS (by rw [hnB, Y.stackName]; decide)
  have bP := Cond.laysApart hdB hdP hdnB hdnP (by rw [hnB, Y.suppName]; decide)
  have bX := Cond.laysApart hdB hdX hdnB hdnX (by rw [hnB, hnX]; decide)
  have hbk : ((npeCell N.toNpeT (preparedCellV T.toThrowableT (freshCell P1.m.cls N.kN) W.heap.size u0 sen) W.cur).withEntry W.cur).slots[fB.slot]? = some .null := by
    have := fresh_default (c := P1.m.cls) tyB
    rw [htB] at this
    simpa [npeCell, preparedCellV, Cell.setSlot, Cell.withEntry, Array.getElem?_setIfInBounds, bC, bS, bP, bX, bC.symm, bS.symm, bP.symm, bX.symm, defaultValue] using this
  have tkC := Takes.of_laid (v := .ref W.heap.size) hk hordN tyC (by rw [Y.causeType]; rfl)
  have tkS := Takes.of_laid (v := u0.v) hk hordN tyS (by rw [Y.stackType]; exact fits_refV_array _ u0)
  have tkP := Takes.of_laid (v := sen.v) hk hordN tyP (by rw [Y.suppType]; exact fits_refV_object _ sen)
  have tkX := Takes.of_laid (v := .int 1) hk hordN tyX (by rw [htX]; rfl)
  have hskip : SkipFacts T e.platform s (fun u => u) u0 ((npeCell N.toNpeT (preparedCellV T.toThrowableT (freshCell P1.m.cls N.kN) W.heap.size u0 sen) W.cur).withEntry W.cur) := ⟨{ ci198 := ci198, i198 := i198, fBack := fB }, ⟨hk198, hg198, ha198, hsB⟩, hbk, fun _ _ => rfl⟩
  obtain ⟨vm', X3, st, -⟩ := X.throwsNpeColdBareVAt hexec hg hsize T L Z LZ N LN P1 L1 [PR, PE] hLs hlink1 ⟨hlinkR, hlinkE, trivial⟩ hfound hk hinit hordN hctor hsel0 hselF hcellS hknownS hvU hvSen
    hv0 xC xS xP tkC tkS tkP tkX Y.objLocals hskip (fun _ _ hA hW _ hroom _ hrest => L.nativeOff p htr hA hW hroom hrest) (by simpa using hRframes) hRlocals (by simp) hRcells (by rw [hn]; exact hRslots)
  have hlt : W.heap.size < ((W.pushCell (freshCell P1.m.cls N.kN)).setVm vm').heap.size := by
    show W.heap.size < (W.pushCell (freshCell P1.m.cls N.kN)).heap.size
    rw [State.heap_size_pushCell]; omega
  rw [hfsz] at X3
  obtain ⟨g₁, hfrM⟩ := X3.frames_eq
  have hU : ((((W.pushCell (freshCell P1.m.cls N.kN)).setVm vm').setCell W.heap.size (npeBareV T.toThrowableT N.toNpeT (freshCell P1.m.cls N.kN) W.heap.size u0 sen)).setTop g).pushFrame (.throwing W.heap.size) = (((W.pushCell (freshCell P1.m.cls N.kN)).setVm vm').setCell W.heap.size (npeBareV T.toThrowableT N.toNpeT (freshCell P1.m.cls N.kN) W.heap.size u0 sen)).setFrames (.throwing W.heap.size :: .java g :: below) := by
    rw [State.pushFrame, State.frames_setTop _ hfrM, State.setTop_of_frames _ hfrM, State.setFrames_setFrames]
  refine ⟨_, W.heap.size, _, fun target ht => st.trans (by rw [← hU]; exact ht), X3.forget (fun y hy => ?_), heapAt_setCell_self _ hlt, hfound, rfl⟩
  simp only [List.mem_cons, List.not_mem_nil, or_false] at hy
  have hge : s.heap.size ≤ W.heap.size := X.same.2.1
  rcases hy with rfl | rfl | rfl | rfl | rfl <;> exact hge
/-- the words of a machine's NullPointerException, but the four that speak of the heap -/
def vx_atN (n : Nat) : List Cond := (Bundle.npeArmAtoms n).filter vx_no
/-- the words of a machine's throw with a message, but the four that speak of the heap -/
def vx_atM (X : String) (names : List String) : List Cond := (Bundle.messageArmAtoms X names).filter vx_no
section
variable {p : Program} {l : Launch} {e : Env} {R : Room} {s : State} {m : MethodId} {args : Array Value} {below : List Frame} {meth : Method} {c : Code} {H : Heap} {locs : List Loc} {cells slots : Nat}
/-- a frame seen from a rebased start, seen from the first start again -/
theorem vx_back9 {T S : State} {R' : Room} {k n : Nat} (X : Stand p l e R s m args below meth c T locs cells slots) (Y : Stand p l e R' ((T.setVm s.vm).setFrames (.invoking m args :: below)) m args below meth c T [] 0 0) (Z : Stand p l e R' ((T.setVm s.vm).setFrames (.invoking m args :: below)) m args below meth c S [] k n) :
    Stand p l e R s m args below meth c S locs (cells + k) (slots + n) := by
  have hW0 : s.WarmedH ((T.setVm s.vm).setFrames (.invoking m args :: below)).vm := State.WarmedH.refl s
  refine { admits := X.admits, cas := X.cas, clock := X.clock, frames := X.frames, room := X.room, hears := X.hears, method := X.method, code := X.code, here := Z.here, tail := Z.tail, warmed := State.WarmedH.trans hW0 Z.warmed, limits := Z.limits.trans (Y.limits.symm.trans X.limits), bytes := Z.bytes.trans (Y.bytes.symm.trans X.bytes), same := ?_ }
  obtain ⟨e1, e2⟩ := Z.same
  rw [State.setFrames_setFrames] at e1
  have h2 : (T.setVm s.vm).sameButNew (S.setVm s.vm) [] k n := ⟨e1, e2⟩
  have h3 := X.same.trans h2
  rw [List.append_nil] at h3
  exact h3
/-- from the machine's note that E is thrown here with this text -/
def vx_Note (p : Program) (l : Launch) (e : Env) (R : Room) (s : State) (m : MethodId) (args : Array Value) (below : List Frame) (meth : Method) (c : Code) (H : Heap) (locs : List Loc) (cells slots : Nat) (Q : State → Prop) (g : JFrame) (E text : String) : Prop :=
  ∀ T : State, T.heap = H → Stand p l e R s m args below meth c T locs cells slots → ∃ t, Steps p.tables e below ((T.setTop g).pushFrame (.throwNew E (some text) none)) t ∧ Q t
theorem vx_vm {pc : Nat} {ls : Array Slot} {rest : List Value} {Q : State → Prop} (hexec : p.tables.exec = Jvm.exec) (hl : l.stackTraces = false) {cls text : String} {names : List String} {nb : Nat} {A : Nat → Prop}
    (hcls : Bundle.fit cls = true) (hnames : ∀ n ∈ names, Bundle.fit n = true) (hsoe : (cls == "java/lang/StackOverflowError") = false) (hoom : (cls == "java/lang/OutOfMemoryError") = false)
    (hat : ∀ w ∈ vx_atM cls names, w.before args s = true) (hgood : ∀ w ∈ vx_atM cls names, vx_ot w = true)
    (hU : vx_Zq Bundle.tN "UNASSIGNED_STACK" Bundle.steD A s s.heap) (hN : vx_Zq Bundle.tN "SUPPRESSED_SENTINEL" Bundle.listD A s s.heap) (hS : va_S A s.heap H locs) (hsize : ls.size = c.maxLocals)
    (htext : (text == notModelled) = false) (hnb : (stringBytes (stringToUtf16 text)).size ≤ nb) (hnb1 : nb ≤ 1000)
    (hRframes : names.length + 4 < R.frames) (hRlocals : (rest.map fun v => v.category).sum + 10240 ≤ R.locals) (hshort : 13 * names.length + 55 ≤ 10240) (hRcells : cells + 3 ≤ R.cells) (hRslots : slots + (nb + 10) ≤ R.slots) (hlocks : meth.locks = false)
    (k : ∀ (H1 : Heap) (q9 : Addr) (ce : Cell), H.size ≤ H1.size → (∀ q : Nat, q < H.size → H1[q]? = H[q]?) → va_S A s.heap H1 locs → H1[q9]? = some ce → ce.vm = .none → s.vm.findClass cls = some ce.cls → vx_W p l e R s m args below meth c H1 locs (cells + 3) (slots + (nb + 10)) Q (F0 m pc ls rest) q9) :
    vx_Note p l e R s m args below meth c H locs cells slots Q (F0 m pc ls rest) cls text := by
  intro T hT X
  have htr : e.platform.stackTraces = false := (show e.platform.stackTraces = l.stackTraces by rw [X.admits.platform]).trans hl
  have Y := vx_rebase X (R' := { frames := R.frames, locals := R.locals, cells := 3, slots := nb + 10 }) (Nat.le_refl _) (Nat.le_refl _) hRcells hRslots
  have hhp : ((T.setVm s.vm).setFrames (.invoking m args :: below)).heap = H := hT
  have hW0 : s.WarmedH ((T.setVm s.vm).setFrames (.invoking m args :: below)).vm := State.WarmedH.refl s
  have hat' : ∀ w ∈ vx_atM cls names, w.before args ((T.setVm s.vm).setFrames (.invoking m args :: below)) = true := fun w hw => vx_ot_at hW0 rfl (hgood w hw) (hat w hw)
  have hU' : vx_Zq Bundle.tN "UNASSIGNED_STACK" Bundle.steD A ((T.setVm s.vm).setFrames (.invoking m args :: below)) ((T.setVm s.vm).setFrames (.invoking m args :: below)).heap := by rw [hhp]; exact vx_Zq.moved hW0.alike (hU.kept hS.2.1)
  have hN' : vx_Zq Bundle.tN "SUPPRESSED_SENTINEL" Bundle.listD A ((T.setVm s.vm).setFrames (.invoking m args :: below)) ((T.setVm s.vm).setFrames (.invoking m args :: below)).heap := by rw [hhp]; exact vx_Zq.moved hW0.alike (hN.kept hS.2.1)
  obtain ⟨S, q, ce, st, Z, hce, hcl', hv⟩ := vx_vmAt Y hexec htr (cls := cls) (names := names) (text := text) hcls hnames hsoe hoom (vx_own hat' (vx_isRefq hU'.1) (vx_isRefq hN'.1) hU'.2.word hN'.2.word) (fun x hx => nomatch hx) htext
    (by rw [Launch.admits_arrayLengthLimit X.admits]; omega) (by rw [Launch.admits_maxHeapBytes X.admits]; simp only [componentBytes]; omega)
    (g := F0 m pc ls rest) rfl hsize hRframes (by show 2 * 0 + (rest.map fun v => v.category).sum + 10240 ≤ R.locals; omega) hshort (by show 0 + 3 ≤ 3; omega) (by show 0 + (_ + 4 + 6) ≤ nb + 10; omega) hlocks
  obtain ⟨f1, f2⟩ := vx_frame Z.same
  have f1' : H.size ≤ S.heap.size := by rw [← hT]; exact f1
  have f2' : ∀ q : Nat, q < H.size → S.heap[q]? = H[q]? := fun q hq => by
    rw [← hT]
    exact f2 q (by rw [← hT] at hq; exact hq) (fun z hz => nomatch hz)
  have X5 := vx_back9 X Y Z
  have X6 : Stand p l e R s m args below meth c S locs (cells + 3) (slots + (nb + 10)) := { X5 with same := X5.same.mono (by omega) (by omega) }
  obtain ⟨t, a1, b1⟩ := k S.heap q ce f1' f2' ⟨Nat.le_trans hS.1 f1', fun q h1 h2 => (f2' q (Nat.lt_of_lt_of_le h1 hS.1)).trans (hS.2.1 q h1 h2), hS.2.2⟩ hce hv hcl' S rfl X6
  exact ⟨t, st t a1, b1⟩
/-- from the machine's note that NullPointerException is thrown here -/
def vx_NoteN (p : Program) (l : Launch) (e : Env) (R : Room) (s : State) (m : MethodId) (args : Array Value) (below : List Frame) (meth : Method) (c : Code) (H : Heap) (locs : List Loc) (cells slots : Nat) (Q : State → Prop) (g : JFrame) : Prop :=
  ∀ T : State, T.heap = H → Stand p l e R s m args below meth c T locs cells slots → ∃ t, Steps p.tables e below ((T.setTop g).pushFrame (.throwNew "java/lang/NullPointerException" none none)) t ∧ Q t
theorem vx_npe {pc : Nat} {ls : Array Slot} {rest : List Value} {Q : State → Prop} (hexec : p.tables.exec = Jvm.exec) (hl : l.stackTraces = false) {nb : Nat} {A : Nat → Prop}
    (hat : ∀ w ∈ vx_atN nb, w.before args s = true) (hgood : ∀ w ∈ vx_atN nb, vx_ot w = true)
    (hU : vx_Zq Bundle.tN "UNASSIGNED_STACK" Bundle.steD A s s.heap) (hN : vx_Zq Bundle.tN "SUPPRESSED_SENTINEL" Bundle.listD A s s.heap) (hS : va_S A s.heap H locs) (hsize : ls.size = c.maxLocals)
    (hRframes : 7 < R.frames) (hRlocals : (rest.map fun v => v.category).sum + 10240 ≤ R.locals) (hRcells : cells + 1 ≤ R.cells) (hRslots : slots + nb ≤ R.slots) (hlocks : meth.locks = false)
    (k : ∀ (H1 : Heap) (q9 : Addr) (ce : Cell), H.size ≤ H1.size → (∀ q : Nat, q < H.size → H1[q]? = H[q]?) → va_S A s.heap H1 locs → H1[q9]? = some ce → ce.vm = .none → s.vm.findClass "java/lang/NullPointerException" = some ce.cls → vx_W p l e R s m args below meth c H1 locs (cells + 1) (slots + nb) Q (F0 m pc ls rest) q9) :
    vx_NoteN p l e R s m args below meth c H locs cells slots Q (F0 m pc ls rest) := by
  intro T hT X
  have htr : e.platform.stackTraces = false := (show e.platform.stackTraces = l.stackTraces by rw [X.admits.platform]).trans hl
  have Y := vx_rebase X (R' := { frames := R.frames, locals := R.locals, cells := 1, slots := nb }) (Nat.le_refl _) (Nat.le_refl _) hRcells hRslots
  have hhp : ((T.setVm s.vm).setFrames (.invoking m args :: below)).heap = H := hT
  have hW0 : s.WarmedH ((T.setVm s.vm).setFrames (.invoking m args :: below)).vm := State.WarmedH.refl s
  have hat' : ∀ w ∈ vx_atN nb, w.before args ((T.setVm s.vm).setFrames (.invoking m args :: below)) = true := fun w hw => vx_ot_at hW0 rfl (hgood w hw) (hat w hw)
  have hU' : vx_Zq Bundle.tN "UNASSIGNED_STACK" Bundle.steD A ((T.setVm s.vm).setFrames (.invoking m args :: below)) ((T.setVm s.vm).setFrames (.invoking m args :: below)).heap := by rw [hhp]; exact vx_Zq.moved hW0.alike (hU.kept hS.2.1)
  have hN' : vx_Zq Bundle.tN "SUPPRESSED_SENTINEL" Bundle.listD A ((T.setVm s.vm).setFrames (.invoking m args :: below)) ((T.setVm s.vm).setFrames (.invoking m args :: below)).heap := by rw [hhp]; exact vx_Zq.moved hW0.alike (hN.kept hS.2.1)
  obtain ⟨S, q, ce, st, Z, hce, hcl', hv⟩ := vx_npeAt Y hexec htr (n := nb) (vx_own hat' (vx_isRefq hU'.1) (vx_isRefq hN'.1) hU'.2.word hN'.2.word) (fun x hx => nomatch hx)
    (g := F0 m pc ls rest) rfl hsize hRframes (by show 2 * 0 + (rest.map fun v => v.category).sum + 10240 ≤ R.locals; omega) (by show 0 + 1 ≤ 1; omega) (by show 0 + nb ≤ nb; omega) hlocks
  obtain ⟨f1, f2⟩ := vx_frame Z.same
  have f1' : H.size ≤ S.heap.size := by rw [← hT]; exact f1
  have f2' : ∀ q : Nat, q < H.size → S.heap[q]? = H[q]? := fun q hq => by
    rw [← hT]
    exact f2 q (by rw [← hT] at hq; exact hq) (fun z hz => nomatch hz)
  have X5 := vx_back9 X Y Z
  have X6 : Stand p l e R s m args below meth c S locs (cells + 1) (slots + nb) := { X5 with same := X5.same.mono (by omega) (by omega) }
  obtain ⟨t, a1, b1⟩ := k S.heap q ce f1' f2' ⟨Nat.le_trans hS.1 f1', fun q h1 h2 => (f2' q (Nat.lt_of_lt_of_le h1 hS.1)).trans (hS.2.1 q h1 h2), hS.2.2⟩ hce hv hcl' S rfl X6
  exact ⟨t, st t a1, b1⟩
variable {Q : State → Prop} {cc : ByteArray} {pc : Nat} {ls : Array Slot} {rest : List Value}
theorem vx_idivZ (hexec : p.tables.exec = Jvm.exec) (hb : c.code = cc) {a b : Int32} (h0 : b = 0) (d : decode cc pc = .ok (.idiv, 1)) (k : vx_Note p l e R s m args below meth c H locs cells slots Q (F0 m pc ls rest) "java/lang/ArithmeticException" "/ by zero") :
    W p l e R s m args below meth c H locs cells slots Q (F0 m pc ls (.int b :: .int a :: rest)) := by
  intro T hT X
  obtain ⟨t, st, q⟩ := k T hT X
  exact ⟨t, X.idivZero hexec (g := F0 m pc ls (.int b :: .int a :: rest)) rfl (a := a) (rest := rest) (by rw [h0]) (by rw [hb]; exact d) t st, q⟩
theorem vx_iremZ (hexec : p.tables.exec = Jvm.exec) (hb : c.code = cc) {a b : Int32} (h0 : b = 0) (d : decode cc pc = .ok (.irem, 1)) (k : vx_Note p l e R s m args below meth c H locs cells slots Q (F0 m pc ls rest) "java/lang/ArithmeticException" "/ by zero") :
    W p l e R s m args below meth c H locs cells slots Q (F0 m pc ls (.int b :: .int a :: rest)) := by
  intro T hT X
  obtain ⟨t, st, q⟩ := k T hT X
  exact ⟨t, X.iremZero hexec (g := F0 m pc ls (.int b :: .int a :: rest)) rfl (a := a) (rest := rest) (by rw [h0]) (by rw [hb]; exact d) t st, q⟩
theorem vx_ldivZ (hexec : p.tables.exec = Jvm.exec) (hb : c.code = cc) {a b : Int64} (h0 : b = 0) (d : decode cc pc = .ok (.ldiv, 1)) (k : vx_Note p l e R s m args below meth c H locs cells slots Q (F0 m pc ls rest) "java/lang/ArithmeticException" "/ by zero") :
    W p l e R s m args below meth c H locs cells slots Q (F0 m pc ls (.long b :: .long a :: rest)) := by
  intro T hT X
  obtain ⟨t, st, q⟩ := k T hT X
  exact ⟨t, X.ldivZero hexec (g := F0 m pc ls (.long b :: .long a :: rest)) rfl (a := a) (rest := rest) (by rw [h0]) (by rw [hb]; exact d) t st, q⟩
theorem vx_lremZ (hexec : p.tables.exec = Jvm.exec) (hb : c.code = cc) {a b : Int64} (h0 : b = 0) (d : decode cc pc = .ok (.lrem, 1)) (k : vx_Note p l e R s m args below meth c H locs cells slots Q (F0 m pc ls rest) "java/lang/ArithmeticException" "/ by zero") :
    W p l e R s m args below meth c H locs cells slots Q (F0 m pc ls (.long b :: .long a :: rest)) := by
  intro T hT X
  obtain ⟨t, st, q⟩ := k T hT X
  exact ⟨t, X.lremZero hexec (g := F0 m pc ls (.long b :: .long a :: rest)) rfl (a := a) (rest := rest) (by rw [h0]) (by rw [hb]; exact d) t st, q⟩
theorem vx_ialdZ {D : va_G} {cl : List vw_C} {ws : va_W} {tys : List (ClassId × FieldType)} {a : Nat} (hexec : p.tables.exec = Jvm.exec) (hb : c.code = cc) (hK : va_K D cl tys s) (hP : va_P D cl ws H) (q0 t0 : Nat) {cA : ClassId} {n : Nat} {f : Nat → Int32} (ha : ws[q0]? = some (a, .inl (cA, n, .inl f))) (ht : tys[t0]? = some (cA, .int)) {i : Int32} (hout : ¬ vp_in i n) (hdg : decode cc pc = .ok (.iaload, 1))
    (k : ∀ tx : String, tx = (toString "Index " ++ toString i ++ toString " out of bounds for length " ++ toString n : String) → vx_Note p l e R s m args below meth c H locs cells slots Q (F0 m pc ls rest) "java/lang/ArrayIndexOutOfBoundsException" tx) : W p l e R s m args below meth c H locs cells slots Q (F0 m pc ls (.int i :: .ref a :: rest)) := by
  intro T hT X
  obtain ⟨t, st, q⟩ := k _ rfl T hT X
  refine ⟨t, ?_, q⟩
  have h1 := X.ialoadOut hexec (by rw [hT]; exact hP q0 _ ha) ((hK.2 t0 _ ht).1 n (fun j => .int (f j))) (j := i) (by show (i < 0 ∨ (arrV _ _ _).slots.size ≤ _); rw [arrV_size]; exact Classical.byContradiction hout) (g := F0 m pc ls (.int i :: .ref a :: rest)) rfl (rest := rest) rfl (by rw [hb]; exact hdg) t
  simp only [arrV_size] at h1
  exact h1 st
theorem vx_iastZ {D : va_G} {cl : List vw_C} {ws : va_W} {tys : List (ClassId × FieldType)} {a : Nat} (hexec : p.tables.exec = Jvm.exec) (hb : c.code = cc) (hK : va_K D cl tys s) (hP : va_P D cl ws H) (q0 t0 : Nat) {cA : ClassId} {n : Nat} {f : Nat → Int32} (ha : ws[q0]? = some (a, .inl (cA, n, .inl f))) (ht : tys[t0]? = some (cA, .int)) {i : Int32} {x : Int32} (hout : ¬ vp_in i n) (hdg : decode cc pc = .ok (.iastore, 1))
    (k : ∀ tx : String, tx = (toString "Index " ++ toString i ++ toString " out of bounds for length " ++ toString n : String) → vx_Note p l e R s m args below meth c H locs cells slots Q (F0 m pc ls rest) "java/lang/ArrayIndexOutOfBoundsException" tx) : W p l e R s m args below meth c H locs cells slots Q (F0 m pc ls (.int x :: .int i :: .ref a :: rest)) := by
  intro T hT X
  obtain ⟨t, st, q⟩ := k _ rfl T hT X
  refine ⟨t, ?_, q⟩
  have h1 := X.iastoreOut hexec (by rw [hT]; exact hP q0 _ ha) ((hK.2 t0 _ ht).1 n (fun j => .int (f j))) (j := i) (by show (i < 0 ∨ (arrV _ _ _).slots.size ≤ _); rw [arrV_size]; exact Classical.byContradiction hout) (g := F0 m pc ls (.int x :: .int i :: .ref a :: rest)) rfl (rest := rest) rfl (by rw [hb]; exact hdg) t
  simp only [arrV_size] at h1
  exact h1 st
theorem vx_baldZ {D : va_G} {cl : List vw_C} {ws : va_W} {tys : List (ClassId × FieldType)} {a : Nat} (hexec : p.tables.exec = Jvm.exec) (hb : c.code = cc) (hK : va_K D cl tys s) (hP : va_P D cl ws H) (q0 t0 : Nat) {cA : ClassId} {n : Nat} {f : Nat → Int32} (ha : ws[q0]? = some (a, .inl (cA, n, .inl f))) (ht : tys[t0]? = some (cA, .byte)) {i : Int32} (hout : ¬ vp_in i n) (hdg : decode cc pc = .ok (.baload, 1))
    (k : ∀ tx : String, tx = (toString "Index " ++ toString i ++ toString " out of bounds for length " ++ toString n : String) → vx_Note p l e R s m args below meth c H locs cells slots Q (F0 m pc ls rest) "java/lang/ArrayIndexOutOfBoundsException" tx) : W p l e R s m args below meth c H locs cells slots Q (F0 m pc ls (.int i :: .ref a :: rest)) := by
  intro T hT X
  obtain ⟨t, st, q⟩ := k _ rfl T hT X
  refine ⟨t, ?_, q⟩
  have h1 := X.baloadOut hexec (by rw [hT]; exact hP q0 _ ha) ((hK.2 t0 _ ht).1 n (fun j => .int (f j))) (j := i) (by show (i < 0 ∨ (arrV _ _ _).slots.size ≤ _); rw [arrV_size]; exact Classical.byContradiction hout) (g := F0 m pc ls (.int i :: .ref a :: rest)) rfl (rest := rest) rfl (by rw [hb]; exact hdg) t
  simp only [arrV_size] at h1
  exact h1 st
theorem vx_bastZ {D : va_G} {cl : List vw_C} {ws : va_W} {tys : List (ClassId × FieldType)} {a : Nat} (hexec : p.tables.exec = Jvm.exec) (hb : c.code = cc) (hK : va_K D cl tys s) (hP : va_P D cl ws H) (q0 t0 : Nat) {cA : ClassId} {n : Nat} {f : Nat → Int32} (ha : ws[q0]? = some (a, .inl (cA, n, .inl f))) (ht : tys[t0]? = some (cA, .byte)) {i : Int32} {x : Int32} (hout : ¬ vp_in i n) (hdg : decode cc pc = .ok (.bastore, 1))
    (k : ∀ tx : String, tx = (toString "Index " ++ toString i ++ toString " out of bounds for length " ++ toString n : String) → vx_Note p l e R s m args below meth c H locs cells slots Q (F0 m pc ls rest) "java/lang/ArrayIndexOutOfBoundsException" tx) : W p l e R s m args below meth c H locs cells slots Q (F0 m pc ls (.int x :: .int i :: .ref a :: rest)) := by
  intro T hT X
  obtain ⟨t, st, q⟩ := k _ rfl T hT X
  refine ⟨t, ?_, q⟩
  have h1 := X.bastoreOut hexec (by rw [hT]; exact hP q0 _ ha) ((hK.2 t0 _ ht).1 n (fun j => .int (f j))) (j := i) (by show (i < 0 ∨ (arrV _ _ _).slots.size ≤ _); rw [arrV_size]; exact Classical.byContradiction hout) (g := F0 m pc ls (.int x :: .int i :: .ref a :: rest)) rfl (rest := rest) rfl (by rw [hb]; exact hdg) t
  simp only [arrV_size] at h1
  exact h1 st
theorem vx_zaldZ {D : va_G} {cl : List vw_C} {ws : va_W} {tys : List (ClassId × FieldType)} {a : Nat} (hexec : p.tables.exec = Jvm.exec) (hb : c.code = cc) (hK : va_K D cl tys s) (hP : va_P D cl ws H) (q0 t0 : Nat) {cA : ClassId} {n : Nat} {f : Nat → Int32} (ha : ws[q0]? = some (a, .inl (cA, n, .inl f))) (ht : tys[t0]? = some (cA, .boolean)) {i : Int32} (hout : ¬ vp_in i n) (hdg : decode cc pc = .ok (.baload, 1))
    (k : ∀ tx : String, tx = (toString "Index " ++ toString i ++ toString " out of bounds for length " ++ toString n : String) → vx_Note p l e R s m args below meth c H locs cells slots Q (F0 m pc ls rest) "java/lang/ArrayIndexOutOfBoundsException" tx) : W p l e R s m args below meth c H locs cells slots Q (F0 m pc ls (.int i :: .ref a :: rest)) := by
  intro T hT X
  obtain ⟨t, st, q⟩ := k _ rfl T hT X
  refine ⟨t, ?_, q⟩
  have h1 := X.baloadOut hexec (by rw [hT]; exact hP q0 _ ha) ((hK.2 t0 _ ht).1 n (fun j => .int (f j))) (j := i) (by show (i < 0 ∨ (arrV _ _ _).slots.size ≤ _); rw [arrV_size]; exact Classical.byContradiction hout) (g := F0 m pc ls (.int i :: .ref a :: rest)) rfl (rest := rest) rfl (by rw [hb]; exact hdg) t
  simp only [arrV_size] at h1
  exact h1 st
theorem vx_zastZ {D : va_G} {cl : List vw_C} {ws : va_W} {tys : List (ClassId × FieldType)} {a : Nat} (hexec : p.tables.exec = Jvm.exec) (hb : c.code = cc) (hK : va_K D cl tys s) (hP : va_P D cl ws H) (q0 t0 : Nat) {cA : ClassId} {n : Nat} {f : Nat → Int32} (ha : ws[q0]? = some (a, .inl (cA, n, .inl f))) (ht : tys[t0]? = some (cA, .boolean)) {i : Int32} {x : Int32} (hout : ¬ vp_in i n) (hdg : decode cc pc = .ok (.bastore, 1))
    (k : ∀ tx : String, tx = (toString "Index " ++ toString i ++ toString " out of bounds for length " ++ toString n : String) → vx_Note p l e R s m args below meth c H locs cells slots Q (F0 m pc ls rest) "java/lang/ArrayIndexOutOfBoundsException" tx) : W p l e R s m args below meth c H locs cells slots Q (F0 m pc ls (.int x :: .int i :: .ref a :: rest)) := by
  intro T hT X
  obtain ⟨t, st, q⟩ := k _ rfl T hT X
  refine ⟨t, ?_, q⟩
  have h1 := X.bastoreOut hexec (by rw [hT]; exact hP q0 _ ha) ((hK.2 t0 _ ht).1 n (fun j => .int (f j))) (j := i) (by show (i < 0 ∨ (arrV _ _ _).slots.size ≤ _); rw [arrV_size]; exact Classical.byContradiction hout) (g := F0 m pc ls (.int x :: .int i :: .ref a :: rest)) rfl (rest := rest) rfl (by rw [hb]; exact hdg) t
  simp only [arrV_size] at h1
  exact h1 st
theorem vx_caldZ {D : va_G} {cl : List vw_C} {ws : va_W} {tys : List (ClassId × FieldType)} {a : Nat} (hexec : p.tables.exec = Jvm.exec) (hb : c.code = cc) (hK : va_K D cl tys s) (hP : va_P D cl ws H) (q0 t0 : Nat) {cA : ClassId} {n : Nat} {f : Nat → Int32} (ha : ws[q0]? = some (a, .inl (cA, n, .inl f))) (ht : tys[t0]? = some (cA, .char)) {i : Int32} (hout : ¬ vp_in i n) (hdg : decode cc pc = .ok (.caload, 1))
    (k : ∀ tx : String, tx = (toString "Index " ++ toString i ++ toString " out of bounds for length " ++ toString n : String) → vx_Note p l e R s m args below meth c H locs cells slots Q (F0 m pc ls rest) "java/lang/ArrayIndexOutOfBoundsException" tx) : W p l e R s m args below meth c H locs cells slots Q (F0 m pc ls (.int i :: .ref a :: rest)) := by
  intro T hT X
  obtain ⟨t, st, q⟩ := k _ rfl T hT X
  refine ⟨t, ?_, q⟩
  have h1 := X.caloadOut hexec (by rw [hT]; exact hP q0 _ ha) ((hK.2 t0 _ ht).1 n (fun j => .int (f j))) (j := i) (by show (i < 0 ∨ (arrV _ _ _).slots.size ≤ _); rw [arrV_size]; exact Classical.byContradiction hout) (g := F0 m pc ls (.int i :: .ref a :: rest)) rfl (rest := rest) rfl (by rw [hb]; exact hdg) t
  simp only [arrV_size] at h1
  exact h1 st
theorem vx_castZ {D : va_G} {cl : List vw_C} {ws : va_W} {tys : List (ClassId × FieldType)} {a : Nat} (hexec : p.tables.exec = Jvm.exec) (hb : c.code = cc) (hK : va_K D cl tys s) (hP : va_P D cl ws H) (q0 t0 : Nat) {cA : ClassId} {n : Nat} {f : Nat → Int32} (ha : ws[q0]? = some (a, .inl (cA, n, .inl f))) (ht : tys[t0]? = some (cA, .char)) {i : Int32} {x : Int32} (hout : ¬ vp_in i n) (hdg : decode cc pc = .ok (.castore, 1))
    (k : ∀ tx : String, tx = (toString "Index " ++ toString i ++ toString " out of bounds for length " ++ toString n : String) → vx_Note p l e R s m args below meth c H locs cells slots Q (F0 m pc ls rest) "java/lang/ArrayIndexOutOfBoundsException" tx) : W p l e R s m args below meth c H locs cells slots Q (F0 m pc ls (.int x :: .int i :: .ref a :: rest)) := by
  intro T hT X
  obtain ⟨t, st, q⟩ := k _ rfl T hT X
  refine ⟨t, ?_, q⟩
  have h1 := X.castoreOut hexec (by rw [hT]; exact hP q0 _ ha) ((hK.2 t0 _ ht).1 n (fun j => .int (f j))) (j := i) (by show (i < 0 ∨ (arrV _ _ _).slots.size ≤ _); rw [arrV_size]; exact Classical.byContradiction hout) (g := F0 m pc ls (.int x :: .int i :: .ref a :: rest)) rfl (rest := rest) rfl (by rw [hb]; exact hdg) t
  simp only [arrV_size] at h1
  exact h1 st
theorem vx_saldZ {D : va_G} {cl : List vw_C} {ws : va_W} {tys : List (ClassId × FieldType)} {a : Nat} (hexec : p.tables.exec = Jvm.exec) (hb : c.code = cc) (hK : va_K D cl tys s) (hP : va_P D cl ws H) (q0 t0 : Nat) {cA : ClassId} {n : Nat} {f : Nat → Int32} (ha : ws[q0]? = some (a, .inl (cA, n, .inl f))) (ht : tys[t0]? = some (cA, .short)) {i : Int32} (hout : ¬ vp_in i n) (hdg : decode cc pc = .ok (.saload, 1))
    (k : ∀ tx : String, tx = (toString "Index " ++ toString i ++ toString " out of bounds for length " ++ toString n : String) → vx_Note p l e R s m args below meth c H locs cells slots Q (F0 m pc ls rest) "java/lang/ArrayIndexOutOfBoundsException" tx) : W p l e R s m args below meth c H locs cells slots Q (F0 m pc ls (.int i :: .ref a :: rest)) := by
  intro T hT X
  obtain ⟨t, st, q⟩ := k _ rfl T hT X
  refine ⟨t, ?_, q⟩
  have h1 := X.saloadOut hexec (by rw [hT]; exact hP q0 _ ha) ((hK.2 t0 _ ht).1 n (fun j => .int (f j))) (j := i) (by show (i < 0 ∨ (arrV _ _ _).slots.size ≤ _); rw [arrV_size]; exact Classical.byContradiction hout) (g := F0 m pc ls (.int i :: .ref a :: rest)) rfl (rest := rest) rfl (by rw [hb]; exact hdg) t
  simp only [arrV_size] at h1
  exact h1 st
theorem vx_sastZ {D : va_G} {cl : List vw_C} {ws : va_W} {tys : List (ClassId × FieldType)} {a : Nat} (hexec : p.tables.exec = Jvm.exec) (hb : c.code = cc) (hK : va_K D cl tys s) (hP : va_P D cl ws H) (q0 t0 : Nat) {cA : ClassId} {n : Nat} {f : Nat → Int32} (ha : ws[q0]? = some (a, .inl (cA, n, .inl f))) (ht : tys[t0]? = some (cA, .short)) {i : Int32} {x : Int32} (hout : ¬ vp_in i n) (hdg : decode cc pc = .ok (.sastore, 1))
    (k : ∀ tx : String, tx = (toString "Index " ++ toString i ++ toString " out of bounds for length " ++ toString n : String) → vx_Note p l e R s m args below meth c H locs cells slots Q (F0 m pc ls rest) "java/lang/ArrayIndexOutOfBoundsException" tx) : W p l e R s m args below meth c H locs cells slots Q (F0 m pc ls (.int x :: .int i :: .ref a :: rest)) := by
  intro T hT X
  obtain ⟨t, st, q⟩ := k _ rfl T hT X
  refine ⟨t, ?_, q⟩
  have h1 := X.sastoreOut hexec (by rw [hT]; exact hP q0 _ ha) ((hK.2 t0 _ ht).1 n (fun j => .int (f j))) (j := i) (by show (i < 0 ∨ (arrV _ _ _).slots.size ≤ _); rw [arrV_size]; exact Classical.byContradiction hout) (g := F0 m pc ls (.int x :: .int i :: .ref a :: rest)) rfl (rest := rest) rfl (by rw [hb]; exact hdg) t
  simp only [arrV_size] at h1
  exact h1 st
theorem vx_laldZ {D : va_G} {cl : List vw_C} {ws : va_W} {tys : List (ClassId × FieldType)} {a : Nat} (hexec : p.tables.exec = Jvm.exec) (hb : c.code = cc) (hK : va_K D cl tys s) (hP : va_P D cl ws H) (q0 t0 : Nat) {cA : ClassId} {n : Nat} {f : Nat → Int64} (ha : ws[q0]? = some (a, .inl (cA, n, .inr (.inl f)))) (ht : tys[t0]? = some (cA, .long)) {i : Int32} (hout : ¬ vp_in i n) (hdg : decode cc pc = .ok (.laload, 1))
    (k : ∀ tx : String, tx = (toString "Index " ++ toString i ++ toString " out of bounds for length " ++ toString n : String) → vx_Note p l e R s m args below meth c H locs cells slots Q (F0 m pc ls rest) "java/lang/ArrayIndexOutOfBoundsException" tx) : W p l e R s m args below meth c H locs cells slots Q (F0 m pc ls (.int i :: .ref a :: rest)) := by
  intro T hT X
  obtain ⟨t, st, q⟩ := k _ rfl T hT X
  refine ⟨t, ?_, q⟩
  have h1 := X.laloadOut hexec (by rw [hT]; exact hP q0 _ ha) ((hK.2 t0 _ ht).1 n (fun j => .long (f j))) (j := i) (by show (i < 0 ∨ (arrV _ _ _).slots.size ≤ _); rw [arrV_size]; exact Classical.byContradiction hout) (g := F0 m pc ls (.int i :: .ref a :: rest)) rfl (rest := rest) rfl (by rw [hb]; exact hdg) t
  simp only [arrV_size] at h1
  exact h1 st
theorem vx_lastZ {D : va_G} {cl : List vw_C} {ws : va_W} {tys : List (ClassId × FieldType)} {a : Nat} (hexec : p.tables.exec = Jvm.exec) (hb : c.code = cc) (hK : va_K D cl tys s) (hP : va_P D cl ws H) (q0 t0 : Nat) {cA : ClassId} {n : Nat} {f : Nat → Int64} (ha : ws[q0]? = some (a, .inl (cA, n, .inr (.inl f)))) (ht : tys[t0]? = some (cA, .long)) {i : Int32} {x : Int64} (hout : ¬ vp_in i n) (hdg : decode cc pc = .ok (.lastore, 1))
    (k : ∀ tx : String, tx = (toString "Index " ++ toString i ++ toString " out of bounds for length " ++ toString n : String) → vx_Note p l e R s m args below meth c H locs cells slots Q (F0 m pc ls rest) "java/lang/ArrayIndexOutOfBoundsException" tx) : W p l e R s m args below meth c H locs cells slots Q (F0 m pc ls (.long x :: .int i :: .ref a :: rest)) := by
  intro T hT X
  obtain ⟨t, st, q⟩ := k _ rfl T hT X
  refine ⟨t, ?_, q⟩
  have h1 := X.lastoreOut hexec (by rw [hT]; exact hP q0 _ ha) ((hK.2 t0 _ ht).1 n (fun j => .long (f j))) (j := i) (by show (i < 0 ∨ (arrV _ _ _).slots.size ≤ _); rw [arrV_size]; exact Classical.byContradiction hout) (g := F0 m pc ls (.long x :: .int i :: .ref a :: rest)) rfl (rest := rest) rfl (by rw [hb]; exact hdg) t
  simp only [arrV_size] at h1
  exact h1 st
theorem vx_faldZ {D : va_G} {cl : List vw_C} {ws : va_W} {tys : List (ClassId × FieldType)} {a : Nat} (hexec : p.tables.exec = Jvm.exec) (hb : c.code = cc) (hK : va_K D cl tys s) (hP : va_P D cl ws H) (q0 t0 : Nat) {cA : ClassId} {n : Nat} {f : Nat → UInt32} (ha : ws[q0]? = some (a, .inl (cA, n, .inr (.inr (.inl f))))) (ht : tys[t0]? = some (cA, .float)) {i : Int32} (hout : ¬ vp_in i n) (hdg : decode cc pc = .ok (.faload, 1))
    (k : ∀ tx : String, tx = (toString "Index " ++ toString i ++ toString " out of bounds for length " ++ toString n : String) → vx_Note p l e R s m args below meth c H locs cells slots Q (F0 m pc ls rest) "java/lang/ArrayIndexOutOfBoundsException" tx) : W p l e R s m args below meth c H locs cells slots Q (F0 m pc ls (.int i :: .ref a :: rest)) := by
  intro T hT X
  obtain ⟨t, st, q⟩ := k _ rfl T hT X
  refine ⟨t, ?_, q⟩
  have h1 := X.faloadOut hexec (by rw [hT]; exact hP q0 _ ha) ((hK.2 t0 _ ht).1 n (fun j => .float (f j))) (j := i) (by show (i < 0 ∨ (arrV _ _ _).slots.size ≤ _); rw [arrV_size]; exact Classical.byContradiction hout) (g := F0 m pc ls (.int i :: .ref a :: rest)) rfl (rest := rest) rfl (by rw [hb]; exact hdg) t
  simp only [arrV_size] at h1
  exact h1 st
theorem vx_fastZ {D : va_G} {cl : List vw_C} {ws : va_W} {tys : List (ClassId × FieldType)} {a : Nat} (hexec : p.tables.exec = Jvm.exec) (hb : c.code = cc) (hK : va_K D cl tys s) (hP : va_P D cl ws H) (q0 t0 : Nat) {cA : ClassId} {n : Nat} {f : Nat → UInt32} (ha : ws[q0]? = some (a, .inl (cA, n, .inr (.inr (.inl f))))) (ht : tys[t0]? = some (cA, .float)) {i : Int32} {x : UInt32} (hout : ¬ vp_in i n) (hdg : decode cc pc = .ok (.fastore, 1))
    (k : ∀ tx : String, tx = (toString "Index " ++ toString i ++ toString " out of bounds for length " ++ toString n : String) → vx_Note p l e R s m args below meth c H locs cells slots Q (F0 m pc ls rest) "java/lang/ArrayIndexOutOfBoundsException" tx) : W p l e R s m args below meth c H locs cells slots Q (F0 m pc ls (.float x :: .int i :: .ref a :: rest)) := by
  intro T hT X
  obtain ⟨t, st, q⟩ := k _ rfl T hT X
  refine ⟨t, ?_, q⟩
  have h1 := X.fastoreOut hexec (by rw [hT]; exact hP q0 _ ha) ((hK.2 t0 _ ht).1 n (fun j => .float (f j))) (j := i) (by show (i < 0 ∨ (arrV _ _ _).slots.size ≤ _); rw [arrV_size]; exact Classical.byContradiction hout) (g := F0 m pc ls (.float x :: .int i :: .ref a :: rest)) rfl (rest := rest) rfl (by rw [hb]; exact hdg) t
  simp only [arrV_size] at h1
  exact h1 st
theorem vx_daldZ {D : va_G} {cl : List vw_C} {ws : va_W} {tys : List (ClassId × FieldType)} {a : Nat} (hexec : p.tables.exec = Jvm.exec) (hb : c.code = cc) (hK : va_K D cl tys s) (hP : va_P D cl ws H) (q0 t0 : Nat) {cA : ClassId} {n : Nat} {f : Nat → UInt64} (ha : ws[q0]? = some (a, .inl (cA, n, .inr (.inr (.inr (.inl f)))))) (ht : tys[t0]? = some (cA, .double)) {i : Int32} (hout : ¬ vp_in i n) (hdg : decode cc pc = .ok (.daload, 1))
    (k : ∀ tx : String, tx = (toString "Index " ++ toString i ++ toString " out of bounds for length " ++ toString n : String) → vx_Note p l e R s m args below meth c H locs cells slots Q (F0 m pc ls rest) "java/lang/ArrayIndexOutOfBoundsException" tx) : W p l e R s m args below meth c H locs cells slots Q (F0 m pc ls (.int i :: .ref a :: rest)) := by
  intro T hT X
  obtain ⟨t, st, q⟩ := k _ rfl T hT X
  refine ⟨t, ?_, q⟩
  have h1 := X.daloadOut hexec (by rw [hT]; exact hP q0 _ ha) ((hK.2 t0 _ ht).1 n (fun j => .double (f j))) (j := i) (by show (i < 0 ∨ (arrV _ _ _).slots.size ≤ _); rw [arrV_size]; exact Classical.byContradiction hout) (g := F0 m pc ls (.int i :: .ref a :: rest)) rfl (rest := rest) rfl (by rw [hb]; exact hdg) t
  simp only [arrV_size] at h1
  exact h1 st
theorem vx_dastZ {D : va_G} {cl : List vw_C} {ws : va_W} {tys : List (ClassId × FieldType)} {a : Nat} (hexec : p.tables.exec = Jvm.exec) (hb : c.code = cc) (hK : va_K D cl tys s) (hP : va_P D cl ws H) (q0 t0 : Nat) {cA : ClassId} {n : Nat} {f : Nat → UInt64} (ha : ws[q0]? = some (a, .inl (cA, n, .inr (.inr (.inr (.inl f)))))) (ht : tys[t0]? = some (cA, .double)) {i : Int32} {x : UInt64} (hout : ¬ vp_in i n) (hdg : decode cc pc = .ok (.dastore, 1))
    (k : ∀ tx : String, tx = (toString "Index " ++ toString i ++ toString " out of bounds for length " ++ toString n : String) → vx_Note p l e R s m args below meth c H locs cells slots Q (F0 m pc ls rest) "java/lang/ArrayIndexOutOfBoundsException" tx) : W p l e R s m args below meth c H locs cells slots Q (F0 m pc ls (.double x :: .int i :: .ref a :: rest)) := by
  intro T hT X
  obtain ⟨t, st, q⟩ := k _ rfl T hT X
  refine ⟨t, ?_, q⟩
  have h1 := X.dastoreOut hexec (by rw [hT]; exact hP q0 _ ha) ((hK.2 t0 _ ht).1 n (fun j => .double (f j))) (j := i) (by show (i < 0 ∨ (arrV _ _ _).slots.size ≤ _); rw [arrV_size]; exact Classical.byContradiction hout) (g := F0 m pc ls (.double x :: .int i :: .ref a :: rest)) rfl (rest := rest) rfl (by rw [hb]; exact hdg) t
  simp only [arrV_size] at h1
  exact h1 st
theorem vx_arraylengthN (hexec : p.tables.exec = Jvm.exec) (hb : c.code = cc) (hdg : decode cc pc = .ok (.arraylength, 1)) (k : vx_NoteN p l e R s m args below meth c H locs cells slots Q (F0 m pc ls rest)) : W p l e R s m args below meth c H locs cells slots Q (F0 m pc ls (.null :: rest)) := by
  intro T hT X
  obtain ⟨t, st, q⟩ := k T hT X
  exact ⟨t, X.arraylengthNull hexec (g := F0 m pc ls (.null :: rest)) rfl (rest := rest) rfl (by rw [hb]; exact hdg) t st, q⟩
theorem vx_ialoadN (hexec : p.tables.exec = Jvm.exec) (hb : c.code = cc) {i : Int32} (hdg : decode cc pc = .ok (.iaload, 1)) (k : vx_NoteN p l e R s m args below meth c H locs cells slots Q (F0 m pc ls rest)) : W p l e R s m args below meth c H locs cells slots Q (F0 m pc ls (.int i :: .null :: rest)) := by
  intro T hT X
  obtain ⟨t, st, q⟩ := k T hT X
  exact ⟨t, X.ialoadNull hexec (g := F0 m pc ls (.int i :: .null :: rest)) rfl (rest := rest) rfl (by rw [hb]; exact hdg) t st, q⟩
theorem vx_laloadN (hexec : p.tables.exec = Jvm.exec) (hb : c.code = cc) {i : Int32} (hdg : decode cc pc = .ok (.laload, 1)) (k : vx_NoteN p l e R s m args below meth c H locs cells slots Q (F0 m pc ls rest)) : W p l e R s m args below meth c H locs cells slots Q (F0 m pc ls (.int i :: .null :: rest)) := by
  intro T hT X
  obtain ⟨t, st, q⟩ := k T hT X
  exact ⟨t, X.laloadNull hexec (g := F0 m pc ls (.int i :: .null :: rest)) rfl (rest := rest) rfl (by rw [hb]; exact hdg) t st, q⟩
theorem vx_faloadN (hexec : p.tables.exec = Jvm.exec) (hb : c.code = cc) {i : Int32} (hdg : decode cc pc = .ok (.faload, 1)) (k : vx_NoteN p l e R s m args below meth c H locs cells slots Q (F0 m pc ls rest)) : W p l e R s m args below meth c H locs cells slots Q (F0 m pc ls (.int i :: .null :: rest)) := by
  intro T hT X
  obtain ⟨t, st, q⟩ := k T hT X
  exact ⟨t, X.faloadNull hexec (g := F0 m pc ls (.int i :: .null :: rest)) rfl (rest := rest) rfl (by rw [hb]; exact hdg) t st, q⟩
theorem vx_daloadN (hexec : p.tables.exec = Jvm.exec) (hb : c.code = cc) {i : Int32} (hdg : decode cc pc = .ok (.daload, 1)) (k : vx_NoteN p l e R s m args below meth c H locs cells slots Q (F0 m pc ls rest)) : W p l e R s m args below meth c H locs cells slots Q (F0 m pc ls (.int i :: .null :: rest)) := by
  intro T hT X
  obtain ⟨t, st, q⟩ := k T hT X
  exact ⟨t, X.daloadNull hexec (g := F0 m pc ls (.int i :: .null :: rest)) rfl (rest := rest) rfl (by rw [hb]; exact hdg) t st, q⟩
theorem vx_aaloadN (hexec : p.tables.exec = Jvm.exec) (hb : c.code = cc) {i : Int32} (hdg : decode cc pc = .ok (.aaload, 1)) (k : vx_NoteN p l e R s m args below meth c H locs cells slots Q (F0 m pc ls rest)) : W p l e R s m args below meth c H locs cells slots Q (F0 m pc ls (.int i :: .null :: rest)) := by
  intro T hT X
  obtain ⟨t, st, q⟩ := k T hT X
  exact ⟨t, X.aaloadNull hexec (g := F0 m pc ls (.int i :: .null :: rest)) rfl (rest := rest) rfl (by rw [hb]; exact hdg) t st, q⟩
theorem vx_baloadN (hexec : p.tables.exec = Jvm.exec) (hb : c.code = cc) {i : Int32} (hdg : decode cc pc = .ok (.baload, 1)) (k : vx_NoteN p l e R s m args below meth c H locs cells slots Q (F0 m pc ls rest)) : W p l e R s m args below meth c H locs cells slots Q (F0 m pc ls (.int i :: .null :: rest)) := by
  intro T hT X
  obtain ⟨t, st, q⟩ := k T hT X
  exact ⟨t, X.baloadNull hexec (g := F0 m pc ls (.int i :: .null :: rest)) rfl (rest := rest) rfl (by rw [hb]; exact hdg) t st, q⟩
theorem vx_caloadN (hexec : p.tables.exec = Jvm.exec) (hb : c.code = cc) {i : Int32} (hdg : decode cc pc = .ok (.caload, 1)) (k : vx_NoteN p l e R s m args below meth c H locs cells slots Q (F0 m pc ls rest)) : W p l e R s m args below meth c H locs cells slots Q (F0 m pc ls (.int i :: .null :: rest)) := by
  intro T hT X
  obtain ⟨t, st, q⟩ := k T hT X
  exact ⟨t, X.caloadNull hexec (g := F0 m pc ls (.int i :: .null :: rest)) rfl (rest := rest) rfl (by rw [hb]; exact hdg) t st, q⟩
theorem vx_saloadN (hexec : p.tables.exec = Jvm.exec) (hb : c.code = cc) {i : Int32} (hdg : decode cc pc = .ok (.saload, 1)) (k : vx_NoteN p l e R s m args below meth c H locs cells slots Q (F0 m pc ls rest)) : W p l e R s m args below meth c H locs cells slots Q (F0 m pc ls (.int i :: .null :: rest)) := by
  intro T hT X
  obtain ⟨t, st, q⟩ := k T hT X
  exact ⟨t, X.saloadNull hexec (g := F0 m pc ls (.int i :: .null :: rest)) rfl (rest := rest) rfl (by rw [hb]; exact hdg) t st, q⟩
theorem vx_iastoreN (hexec : p.tables.exec = Jvm.exec) (hb : c.code = cc) {x : Int32} {i : Int32} (hdg : decode cc pc = .ok (.iastore, 1)) (k : vx_NoteN p l e R s m args below meth c H locs cells slots Q (F0 m pc ls rest)) : W p l e R s m args below meth c H locs cells slots Q (F0 m pc ls (.int x :: .int i :: .null :: rest)) := by
  intro T hT X
  obtain ⟨t, st, q⟩ := k T hT X
  exact ⟨t, X.iastoreNull hexec (g := F0 m pc ls (.int x :: .int i :: .null :: rest)) rfl (rest := rest) rfl (by rw [hb]; exact hdg) t st, q⟩
theorem vx_lastoreN (hexec : p.tables.exec = Jvm.exec) (hb : c.code = cc) {x : Int64} {i : Int32} (hdg : decode cc pc = .ok (.lastore, 1)) (k : vx_NoteN p l e R s m args below meth c H locs cells slots Q (F0 m pc ls rest)) : W p l e R s m args below meth c H locs cells slots Q (F0 m pc ls (.long x :: .int i :: .null :: rest)) := by
  intro T hT X
  obtain ⟨t, st, q⟩ := k T hT X
  exact ⟨t, X.lastoreNull hexec (g := F0 m pc ls (.long x :: .int i :: .null :: rest)) rfl (rest := rest) rfl (by rw [hb]; exact hdg) t st, q⟩
theorem vx_fastoreN (hexec : p.tables.exec = Jvm.exec) (hb : c.code = cc) {x : UInt32} {i : Int32} (hdg : decode cc pc = .ok (.fastore, 1)) (k : vx_NoteN p l e R s m args below meth c H locs cells slots Q (F0 m pc ls rest)) : W p l e R s m args below meth c H locs cells slots Q (F0 m pc ls (.float x :: .int i :: .null :: rest)) := by
  intro T hT X
  obtain ⟨t, st, q⟩ := k T hT X
  exact ⟨t, X.fastoreNull hexec (g := F0 m pc ls (.float x :: .int i :: .null :: rest)) rfl (rest := rest) rfl (by rw [hb]; exact hdg) t st, q⟩
theorem vx_dastoreN (hexec : p.tables.exec = Jvm.exec) (hb : c.code = cc) {x : UInt64} {i : Int32} (hdg : decode cc pc = .ok (.dastore, 1)) (k : vx_NoteN p l e R s m args below meth c H locs cells slots Q (F0 m pc ls rest)) : W p l e R s m args below meth c H locs cells slots Q (F0 m pc ls (.double x :: .int i :: .null :: rest)) := by
  intro T hT X
  obtain ⟨t, st, q⟩ := k T hT X
  exact ⟨t, X.dastoreNull hexec (g := F0 m pc ls (.double x :: .int i :: .null :: rest)) rfl (rest := rest) rfl (by rw [hb]; exact hdg) t st, q⟩
theorem vx_bastoreN (hexec : p.tables.exec = Jvm.exec) (hb : c.code = cc) {x : Int32} {i : Int32} (hdg : decode cc pc = .ok (.bastore, 1)) (k : vx_NoteN p l e R s m args below meth c H locs cells slots Q (F0 m pc ls rest)) : W p l e R s m args below meth c H locs cells slots Q (F0 m pc ls (.int x :: .int i :: .null :: rest)) := by
  intro T hT X
  obtain ⟨t, st, q⟩ := k T hT X
  exact ⟨t, X.bastoreNull hexec (g := F0 m pc ls (.int x :: .int i :: .null :: rest)) rfl (rest := rest) rfl (by rw [hb]; exact hdg) t st, q⟩
theorem vx_castoreN (hexec : p.tables.exec = Jvm.exec) (hb : c.code = cc) {x : Int32} {i : Int32} (hdg : decode cc pc = .ok (.castore, 1)) (k : vx_NoteN p l e R s m args below meth c H locs cells slots Q (F0 m pc ls rest)) : W p l e R s m args below meth c H locs cells slots Q (F0 m pc ls (.int x :: .int i :: .null :: rest)) := by
  intro T hT X
  obtain ⟨t, st, q⟩ := k T hT X
  exact ⟨t, X.castoreNull hexec (g := F0 m pc ls (.int x :: .int i :: .null :: rest)) rfl (rest := rest) rfl (by rw [hb]; exact hdg) t st, q⟩
theorem vx_sastoreN (hexec : p.tables.exec = Jvm.exec) (hb : c.code = cc) {x : Int32} {i : Int32} (hdg : decode cc pc = .ok (.sastore, 1)) (k : vx_NoteN p l e R s m args below meth c H locs cells slots Q (F0 m pc ls rest)) : W p l e R s m args below meth c H locs cells slots Q (F0 m pc ls (.int x :: .int i :: .null :: rest)) := by
  intro T hT X
  obtain ⟨t, st, q⟩ := k T hT X
  exact ⟨t, X.sastoreNull hexec (g := F0 m pc ls (.int x :: .int i :: .null :: rest)) rfl (rest := rest) rfl (by rw [hb]; exact hdg) t st, q⟩
theorem vx_invokeN {own C : String} {index maxL : Nat} {y : MethodName} {bytes : ByteArray} {ret : Option FieldType} (hexec : p.tables.exec = Jvm.exec) (hb : c.code = cc) (hown : s.vm.findClass own = some m.cls) (hlink : (Cond.methodLink own index y).before args s = true) (hinst : (Cond.instanceMethod y).before args s = true) (hcode : (Cond.code y bytes maxL ret).before args s = true) (hsel : (Cond.selects C y y).before args s = true)
    (hx : y.cls ≠ "java/lang/invoke/MethodHandle" ∧ y.cls ≠ "java/lang/invoke/VarHandle") {As : List Value} (hlen : (parseMethodDescriptor y.desc).map (fun d => d.parameters.length) = some As.length) (hdg : decode cc pc = .ok (.invokevirtual index, 3))
    (k : vx_NoteN p l e R s m args below meth c H locs cells slots Q (F0 m pc ls rest)) {st0 : List Value} (hst : st0 = As.reverse ++ .null :: rest) : W p l e R s m args below meth c H locs cells slots Q (F0 m pc ls st0) := by
  intro T hT X
  obtain ⟨r0, r, hn, hrm, hstR, hsigR⟩ := va_Decl.of hinst hcode
  obtain ⟨c2, r2, m2, q1, q2, q3, q4, kP, hkP, hkPi⟩ := Cond.selects_spec hsel
  cases hn.symm.trans q3
  have hl9 : As.length = r.sig.parameters.length := by
    rw [hsigR] at hlen
    exact (Option.some.inj hlen).symm
  obtain ⟨vm', X1, st1⟩ := X.invokevirtualNull hexec hown hlink hn hrm hstR hkP hkPi hx (g := F0 m pc ls st0) rfl (argsL := As) (rest := rest) hl9 hst (by rw [hb]; exact hdg)
  obtain ⟨t, st, q⟩ := k (T.setVm vm') hT X1
  exact ⟨t, st1 t st, q⟩
theorem vx_newarrayZ {atype : ArrayType} (hexec : p.tables.exec = Jvm.exec) (hb : c.code = cc) {n : Int32} (h0 : n < 0) (hdg : decode cc pc = .ok (.newarray atype, 2)) (k : ∀ tx : String, tx = toString n → vx_Note p l e R s m args below meth c H locs cells slots Q (F0 m pc ls rest) "java/lang/NegativeArraySizeException" tx) : W p l e R s m args below meth c H locs cells slots Q (F0 m pc ls (.int n :: rest)) := by
  intro T hT X
  obtain ⟨t, st, q⟩ := k _ rfl T hT X
  exact ⟨t, X.newarrayNegative hexec (g := F0 m pc ls (.int n :: rest)) rfl h0 (rest := rest) rfl (by rw [hb]; exact hdg) t st, q⟩
end
end VXM
/-! ===== END ===== -/

/-! ===== BEGIN printed: names, fields, word lists, decode rows ===== -/
def RX0 : String := "PolyglotPier$Border"
def TX0 : u_T := fun k => match k with
  | _ => ("", "", "", false)
def tyX0 : Nat → FieldType := fun k => match k with
  | _ => .int
abbrev wsX00 : List Cond := u_ws RX0 TX0 0
theorem nmX0 : ∀ a, a < 0 → ∀ b, b < 0 → a ≠ b → (TX0 a).2.1 ≠ (TX0 b).2.1 := by decide +kernel
theorem tyX0_ok : ∀ k, k < 0 → parseFieldDescriptor (TX0 k).2.2.1 = some (tyX0 k) := by decide +kernel
abbrev cX0_cross : ByteArray := prog_2_method_2_code
def yX0_cross : MethodName := ⟨RX0, "cross", "(LPolyglotPier$Value;II)I"⟩
abbrev cX0_toAsh : ByteArray := prog_2_method_3_code
def yX0_toAsh : MethodName := ⟨RX0, "toAsh", "(LPolyglotPier$Value;)I"⟩
abbrev cX0_toBirch : ByteArray := prog_2_method_4_code
def yX0_toBirch : MethodName := ⟨RX0, "toBirch", "(LPolyglotPier$Value;)I"⟩
abbrev cX0_toCedar : ByteArray := prog_2_method_5_code
def yX0_toCedar : MethodName := ⟨RX0, "toCedar", "(LPolyglotPier$Value;)I"⟩
abbrev cX0_isWhole : ByteArray := prog_2_method_6_code
def yX0_isWhole : MethodName := ⟨RX0, "isWhole", "(LPolyglotPier$Value;)Z"⟩
def RX1 : String := "PolyglotPier$Call"
def TX1 : u_T := fun k => match k with
  | 0 => ("PolyglotPier$Call", "function", "LPolyglotPier$Function;", false)
  | 1 => ("PolyglotPier$Call", "functionNumber", "I", false)
  | 2 => ("PolyglotPier$Call", "identity", "J", false)
  | 3 => ("PolyglotPier$Call", "place", "I", false)
  | 4 => ("PolyglotPier$Call", "next", "I", false)
  | 5 => ("PolyglotPier$Call", "base", "I", false)
  | _ => ("PolyglotPier$Call", "locals", "[LPolyglotPier$Value;", true)
def tyX1 : Nat → FieldType := fun k => match k with
  | 0 => .object "PolyglotPier$Function"
  | 1 => .int
  | 2 => .long
  | 3 => .int
  | 4 => .int
  | 5 => .int
  | _ => .array (.object "PolyglotPier$Value")
abbrev wsX10 : List Cond := u_ws RX1 TX1 7
theorem nmX1 : ∀ a, a < 7 → ∀ b, b < 7 → a ≠ b → (TX1 a).2.1 ≠ (TX1 b).2.1 := by decide +kernel
theorem tyX1_ok : ∀ k, k < 7 → parseFieldDescriptor (TX1 k).2.2.1 = some (tyX1 k) := by decide +kernel
abbrev cX1_init : ByteArray := prog_3_method_1_code
def yX1_init : MethodName := ⟨RX1, "<init>", "(LPolyglotPier$Function;)V"⟩
abbrev cX1_begin : ByteArray := prog_3_method_2_code
def yX1_begin : MethodName := ⟨RX1, "begin", "(LPolyglotPier$Function;IJ)V"⟩
abbrev cX1_isBehindLastCode : ByteArray := prog_3_method_3_code
def yX1_isBehindLastCode : MethodName := ⟨RX1, "isBehindLastCode", "()Z"⟩
def RX2 : String := "PolyglotPier$Function"
def TX2 : u_T := fun k => match k with
  | 0 => ("PolyglotPier$Function", "language", "I", false)
  | 1 => ("PolyglotPier$Function", "parameters", "I", false)
  | 2 => ("PolyglotPier$Function", "ops", "[C", true)
  | 3 => ("PolyglotPier$Function", "numbers", "[I", true)
  | 4 => ("PolyglotPier$Function", "size", "I", false)
  | 5 => ("PolyglotPier$Function", "guardFrom", "I", false)
  | 6 => ("PolyglotPier$Function", "guardTo", "I", false)
  | 7 => ("PolyglotPier$Function", "guardAt", "I", false)
  | _ => ("PolyglotPier$Function", "guardTakesAll", "Z", false)
def tyX2 : Nat → FieldType := fun k => match k with
  | 0 => .int
  | 1 => .int
  | 2 => .array .char
  | 3 => .array .int
  | 4 => .int
  | 5 => .int
  | 6 => .int
  | 7 => .int
  | _ => .boolean
abbrev wsX20 : List Cond := u_ws RX2 TX2 9
theorem nmX2 : ∀ a, a < 9 → ∀ b, b < 9 → a ≠ b → (TX2 a).2.1 ≠ (TX2 b).2.1 := by decide +kernel
theorem tyX2_ok : ∀ k, k < 9 → parseFieldDescriptor (TX2 k).2.2.1 = some (tyX2 k) := by decide +kernel
abbrev cX2_init : ByteArray := prog_4_method_1_code
def yX2_init : MethodName := ⟨RX2, "<init>", "()V"⟩
abbrev cX2_append : ByteArray := prog_4_method_2_code
def yX2_append : MethodName := ⟨RX2, "append", "(CI)I"⟩
abbrev cX2_hasPlace : ByteArray := prog_4_method_3_code
def yX2_hasPlace : MethodName := ⟨RX2, "hasPlace", "(I)Z"⟩
abbrev cX2_takes : ByteArray := prog_4_method_4_code
def yX2_takes : MethodName := ⟨RX2, "takes", "(II)Z"⟩
def RX3 : String := "PolyglotPier$Heap"
def TX3 : u_T := fun k => match k with
  | 0 => ("PolyglotPier$Heap", "globals", "[LPolyglotPier$Value;", true)
  | 1 => ("PolyglotPier$Heap", "rooms", "[LPolyglotPier$Thing;", true)
  | 2 => ("PolyglotPier$Heap", "pending", "[LPolyglotPier$Thing;", true)
  | 3 => ("PolyglotPier$Heap", "pendingCount", "I", false)
  | 4 => ("PolyglotPier$Heap", "madeCount", "I", false)
  | _ => ("PolyglotPier$Heap", "freedCount", "I", false)
def tyX3 : Nat → FieldType := fun k => match k with
  | 0 => .array (.object "PolyglotPier$Value")
  | 1 => .array (.object "PolyglotPier$Thing")
  | 2 => .array (.object "PolyglotPier$Thing")
  | 3 => .int
  | 4 => .int
  | _ => .int
abbrev wsX30 : List Cond := u_ws RX3 TX3 6
theorem nmX3 : ∀ a, a < 6 → ∀ b, b < 6 → a ≠ b → (TX3 a).2.1 ≠ (TX3 b).2.1 := by decide +kernel
theorem tyX3_ok : ∀ k, k < 6 → parseFieldDescriptor (TX3 k).2.2.1 = some (tyX3 k) := by decide +kernel
abbrev cX3_init : ByteArray := prog_5_method_1_code
def yX3_init : MethodName := ⟨RX3, "<init>", "()V"⟩
abbrev cX3_globalOf : ByteArray := prog_5_method_2_code
def yX3_globalOf : MethodName := ⟨RX3, "globalOf", "(II)LPolyglotPier$Value;"⟩
abbrev cX3_storeGlobal : ByteArray := prog_5_method_3_code
def yX3_storeGlobal : MethodName := ⟨RX3, "storeGlobal", "(IILPolyglotPier$Value;)V"⟩
abbrev cX3_storeField : ByteArray := prog_5_method_4_code
def yX3_storeField : MethodName := ⟨RX3, "storeField", "(LPolyglotPier$Thing;ILPolyglotPier$Value;)V"⟩
abbrev cX3_noteProxy : ByteArray := prog_5_method_5_code
def yX3_noteProxy : MethodName := ⟨RX3, "noteProxy", "(ILPolyglotPier$Value;)V"⟩
abbrev cX3_newThing : ByteArray := prog_5_method_6_code
def yX3_newThing : MethodName := ⟨RX3, "newThing", "(I)LPolyglotPier$Thing;"⟩
abbrev cX3_find : ByteArray := prog_5_method_7_code
def yX3_find : MethodName := ⟨RX3, "find", "(I)LPolyglotPier$Thing;"⟩
abbrev cX3_thingsOf : ByteArray := prog_5_method_8_code
def yX3_thingsOf : MethodName := ⟨RX3, "thingsOf", "(I)I"⟩
abbrev cX3_tally : ByteArray := prog_5_method_9_code
def yX3_tally : MethodName := ⟨RX3, "tally", "()V"⟩
abbrev cX3_addFieldsInAsh : ByteArray := prog_5_method_10_code
def yX3_addFieldsInAsh : MethodName := ⟨RX3, "addFieldsInAsh", "(LPolyglotPier$Thing;I)V"⟩
abbrev cX3_addInAsh : ByteArray := prog_5_method_11_code
def yX3_addInAsh : MethodName := ⟨RX3, "addInAsh", "(LPolyglotPier$Value;I)V"⟩
abbrev cX3_settle : ByteArray := prog_5_method_12_code
def yX3_settle : MethodName := ⟨RX3, "settle", "()I"⟩
abbrev cX3_free : ByteArray := prog_5_method_13_code
def yX3_free : MethodName := ⟨RX3, "free", "(LPolyglotPier$Thing;)V"⟩
abbrev cX3_freeUnreached : ByteArray := prog_5_method_14_code
def yX3_freeUnreached : MethodName := ⟨RX3, "freeUnreached", "(Z)I"⟩
abbrev cX3_reachRoots : ByteArray := prog_5_method_15_code
def yX3_reachRoots : MethodName := ⟨RX3, "reachRoots", "(Z)V"⟩
abbrev cX3_reach : ByteArray := prog_5_method_16_code
def yX3_reach : MethodName := ⟨RX3, "reach", "(LPolyglotPier$Value;Z)V"⟩
abbrev cX3_reachThing : ByteArray := prog_5_method_17_code
def yX3_reachThing : MethodName := ⟨RX3, "reachThing", "(LPolyglotPier$Thing;)V"⟩
abbrev cX3_renewProxies : ByteArray := prog_5_method_18_code
def yX3_renewProxies : MethodName := ⟨RX3, "renewProxies", "()V"⟩
abbrev cX3_noteFieldProxies : ByteArray := prog_5_method_19_code
def yX3_noteFieldProxies : MethodName := ⟨RX3, "noteFieldProxies", "(LPolyglotPier$Thing;)V"⟩
abbrev cX3_holdsTogether : ByteArray := prog_5_method_20_code
def yX3_holdsTogether : MethodName := ⟨RX3, "holdsTogether", "()Z"⟩
abbrev cX3_isSoundThing : ByteArray := prog_5_method_21_code
def yX3_isSoundThing : MethodName := ⟨RX3, "isSoundThing", "(LPolyglotPier$Thing;)Z"⟩
abbrev cX3_isWhereItRefers : ByteArray := prog_5_method_22_code
def yX3_isWhereItRefers : MethodName := ⟨RX3, "isWhereItRefers", "(LPolyglotPier$Value;)Z"⟩
def RX4 : String := "PolyglotPier$Machine"
def TX4 : u_T := fun k => match k with
  | 0 => ("PolyglotPier$Machine", "heap", "LPolyglotPier$Heap;", true)
  | 1 => ("PolyglotPier$Machine", "functions", "[LPolyglotPier$Function;", true)
  | 2 => ("PolyglotPier$Machine", "functionCount", "I", false)
  | 3 => ("PolyglotPier$Machine", "calls", "[LPolyglotPier$Call;", true)
  | 4 => ("PolyglotPier$Machine", "depth", "I", false)
  | 5 => ("PolyglotPier$Machine", "lastIdentity", "J", false)
  | 6 => ("PolyglotPier$Machine", "stack", "LPolyglotPier$Stack;", true)
  | 7 => ("PolyglotPier$Machine", "codesDone", "I", false)
  | 8 => ("PolyglotPier$Machine", "crossed", "J", false)
  | 9 => ("PolyglotPier$Machine", "outcome", "C", false)
  | 10 => ("PolyglotPier$Machine", "result", "LPolyglotPier$Value;", true)
  | 11 => ("PolyglotPier$Machine", "carried", "LPolyglotPier$Value;", true)
  | 12 => ("PolyglotPier$Machine", "thrown", "LPolyglotPier$Value;", true)
  | 13 => ("PolyglotPier$Machine", "thrownLanguage", "I", false)
  | 14 => ("PolyglotPier$Machine", "traceRow", "[I", true)
  | _ => ("PolyglotPier$Machine", "traceLength", "I", false)
def tyX4 : Nat → FieldType := fun k => match k with
  | 0 => .object "PolyglotPier$Heap"
  | 1 => .array (.object "PolyglotPier$Function")
  | 2 => .int
  | 3 => .array (.object "PolyglotPier$Call")
  | 4 => .int
  | 5 => .long
  | 6 => .object "PolyglotPier$Stack"
  | 7 => .int
  | 8 => .long
  | 9 => .char
  | 10 => .object "PolyglotPier$Value"
  | 11 => .object "PolyglotPier$Value"
  | 12 => .object "PolyglotPier$Value"
  | 13 => .int
  | 14 => .array .int
  | _ => .int
abbrev wsX40 : List Cond := u_ws RX4 TX4 16
theorem nmX4 : ∀ a, a < 16 → ∀ b, b < 16 → a ≠ b → (TX4 a).2.1 ≠ (TX4 b).2.1 := by decide +kernel
theorem tyX4_ok : ∀ k, k < 16 → parseFieldDescriptor (TX4 k).2.2.1 = some (tyX4 k) := by decide +kernel
abbrev cX4_init : ByteArray := prog_6_method_1_code
def yX4_init : MethodName := ⟨RX4, "<init>", "()V"⟩
abbrev cX4_newFunction : ByteArray := prog_6_method_2_code
def yX4_newFunction : MethodName := ⟨RX4, "newFunction", "(II)I"⟩
abbrev cX4_hasResult : ByteArray := prog_6_method_3_code
def yX4_hasResult : MethodName := ⟨RX4, "hasResult", "()Z"⟩
abbrev cX4_begin : ByteArray := prog_6_method_4_code
def yX4_begin : MethodName := ⟨RX4, "begin", "(III)V"⟩
abbrev cX4_advance : ByteArray := prog_6_method_5_code
def yX4_advance : MethodName := ⟨RX4, "advance", "()V"⟩
abbrev cX4_faultAhead : ByteArray := prog_6_method_6_code
def yX4_faultAhead : MethodName := ⟨RX4, "faultAhead", "(LPolyglotPier$Call;II)I"⟩
abbrev cX4_isMove : ByteArray := prog_6_method_7_code
def yX4_isMove : MethodName := ⟨RX4, "isMove", "(I)Z"⟩
abbrev cX4_doCode : ByteArray := prog_6_method_8_code
def yX4_doCode : MethodName := ⟨RX4, "doCode", "(LPolyglotPier$Call;II)I"⟩
abbrev cX4_moveOn : ByteArray := prog_6_method_9_code
def yX4_moveOn : MethodName := ⟨RX4, "moveOn", "(LPolyglotPier$Call;II)I"⟩
abbrev cX4_isNotThere : ByteArray := prog_6_method_10_code
def yX4_isNotThere : MethodName := ⟨RX4, "isNotThere", "(LPolyglotPier$Function;II)Z"⟩
abbrev cX4_popsOf : ByteArray := prog_6_method_11_code
def yX4_popsOf : MethodName := ⟨RX4, "popsOf", "(II)I"⟩
abbrev cX4_crossInRun : ByteArray := prog_6_method_12_code
def yX4_crossInRun : MethodName := ⟨RX4, "crossInRun", "(LPolyglotPier$Value;II)I"⟩
abbrev cX4_combine : ByteArray := prog_6_method_13_code
def yX4_combine : MethodName := ⟨RX4, "combine", "(II)I"⟩
abbrev cX4_pushNewThing : ByteArray := prog_6_method_14_code
def yX4_pushNewThing : MethodName := ⟨RX4, "pushNewThing", "(I)I"⟩
abbrev cX4_readField : ByteArray := prog_6_method_15_code
def yX4_readField : MethodName := ⟨RX4, "readField", "(II)I"⟩
abbrev cX4_writeField : ByteArray := prog_6_method_16_code
def yX4_writeField : MethodName := ⟨RX4, "writeField", "(II)I"⟩
abbrev cX4_enter : ByteArray := prog_6_method_17_code
def yX4_enter : MethodName := ⟨RX4, "enter", "(II)I"⟩
abbrev cX4_endCall : ByteArray := prog_6_method_18_code
def yX4_endCall : MethodName := ⟨RX4, "endCall", "(LPolyglotPier$Call;)I"⟩
abbrev cX4_escape : ByteArray := prog_6_method_19_code
def yX4_escape : MethodName := ⟨RX4, "escape", "()I"⟩
abbrev cX4_levelWithin : ByteArray := prog_6_method_20_code
def yX4_levelWithin : MethodName := ⟨RX4, "levelWithin", "(J)I"⟩
abbrev cX4_goOn : ByteArray := prog_6_method_21_code
def yX4_goOn : MethodName := ⟨RX4, "goOn", "(LPolyglotPier$Call;ILPolyglotPier$Value;)V"⟩
abbrev cX4_raise : ByteArray := prog_6_method_22_code
def yX4_raise : MethodName := ⟨RX4, "raise", "(I)V"⟩
abbrev cX4_beginThrowAt : ByteArray := prog_6_method_23_code
def yX4_beginThrowAt : MethodName := ⟨RX4, "beginThrowAt", "(I)V"⟩
def RX5 : String := "PolyglotPier$Stack"
def TX5 : u_T := fun k => match k with
  | 0 => ("PolyglotPier$Stack", "cells", "[LPolyglotPier$Value;", true)
  | 1 => ("PolyglotPier$Stack", "spare", "LPolyglotPier$Value;", true)
  | _ => ("PolyglotPier$Stack", "top", "I", false)
def tyX5 : Nat → FieldType := fun k => match k with
  | 0 => .array (.object "PolyglotPier$Value")
  | 1 => .object "PolyglotPier$Value"
  | _ => .int
abbrev wsX50 : List Cond := u_ws RX5 TX5 3
theorem nmX5 : ∀ a, a < 3 → ∀ b, b < 3 → a ≠ b → (TX5 a).2.1 ≠ (TX5 b).2.1 := by decide +kernel
theorem tyX5_ok : ∀ k, k < 3 → parseFieldDescriptor (TX5 k).2.2.1 = some (tyX5 k) := by decide +kernel
abbrev cX5_init : ByteArray := prog_7_method_1_code
def yX5_init : MethodName := ⟨RX5, "<init>", "()V"⟩
abbrev cX5_push : ByteArray := prog_7_method_2_code
def yX5_push : MethodName := ⟨RX5, "push", "()LPolyglotPier$Value;"⟩
abbrev cX5_pop : ByteArray := prog_7_method_3_code
def yX5_pop : MethodName := ⟨RX5, "pop", "()LPolyglotPier$Value;"⟩
abbrev cX5_under : ByteArray := prog_7_method_4_code
def yX5_under : MethodName := ⟨RX5, "under", "(I)LPolyglotPier$Value;"⟩
def RX6 : String := "PolyglotPier$Sums"
def TX6 : u_T := fun k => match k with
  | _ => ("", "", "", false)
def tyX6 : Nat → FieldType := fun k => match k with
  | _ => .int
abbrev wsX60 : List Cond := u_ws RX6 TX6 0
theorem nmX6 : ∀ a, a < 0 → ∀ b, b < 0 → a ≠ b → (TX6 a).2.1 ≠ (TX6 b).2.1 := by decide +kernel
theorem tyX6_ok : ∀ k, k < 0 → parseFieldDescriptor (TX6 k).2.2.1 = some (tyX6 k) := by decide +kernel
abbrev cX6_apply : ByteArray := prog_8_method_2_code
def yX6_apply : MethodName := ⟨RX6, "apply", "(ILPolyglotPier$Value;LPolyglotPier$Value;)I"⟩
abbrev cX6_ofWholes : ByteArray := prog_8_method_3_code
def yX6_ofWholes : MethodName := ⟨RX6, "ofWholes", "(IJJ)J"⟩
abbrev cX6_applyToReals : ByteArray := prog_8_method_4_code
def yX6_applyToReals : MethodName := ⟨RX6, "applyToReals", "(ILPolyglotPier$Value;LPolyglotPier$Value;)V"⟩
abbrev cX6_isNoNumber : ByteArray := prog_8_method_5_code
def yX6_isNoNumber : MethodName := ⟨RX6, "isNoNumber", "(IDD)Z"⟩
def RX7 : String := "PolyglotPier$Thing"
def TX7 : u_T := fun k => match k with
  | 0 => ("PolyglotPier$Thing", "number", "I", false)
  | 1 => ("PolyglotPier$Thing", "language", "I", false)
  | 2 => ("PolyglotPier$Thing", "fields", "[LPolyglotPier$Value;", true)
  | 3 => ("PolyglotPier$Thing", "hasProxy", "Z", false)
  | 4 => ("PolyglotPier$Thing", "inAsh", "I", false)
  | _ => ("PolyglotPier$Thing", "isReached", "Z", false)
def tyX7 : Nat → FieldType := fun k => match k with
  | 0 => .int
  | 1 => .int
  | 2 => .array (.object "PolyglotPier$Value")
  | 3 => .boolean
  | 4 => .int
  | _ => .boolean
abbrev wsX70 : List Cond := u_ws RX7 TX7 6
theorem nmX7 : ∀ a, a < 6 → ∀ b, b < 6 → a ≠ b → (TX7 a).2.1 ≠ (TX7 b).2.1 := by decide +kernel
theorem tyX7_ok : ∀ k, k < 6 → parseFieldDescriptor (TX7 k).2.2.1 = some (tyX7 k) := by decide +kernel
abbrev cX7_init : ByteArray := prog_9_method_1_code
def yX7_init : MethodName := ⟨RX7, "<init>", "()V"⟩
abbrev cX7_begin : ByteArray := prog_9_method_2_code
def yX7_begin : MethodName := ⟨RX7, "begin", "(II)V"⟩
abbrev cX7_isOf : ByteArray := prog_9_method_3_code
def yX7_isOf : MethodName := ⟨RX7, "isOf", "(I)Z"⟩
abbrev cX7_ownCount : ByteArray := prog_9_method_4_code
def yX7_ownCount : MethodName := ⟨RX7, "ownCount", "()I"⟩
abbrev cX7_hasProxyOrHandle : ByteArray := prog_9_method_5_code
def yX7_hasProxyOrHandle : MethodName := ⟨RX7, "hasProxyOrHandle", "()Z"⟩
def RX8 : String := "PolyglotPier$Value"
def TX8 : u_T := fun k => match k with
  | 0 => ("PolyglotPier$Value", "kind", "C", false)
  | 1 => ("PolyglotPier$Value", "real", "D", false)
  | 2 => ("PolyglotPier$Value", "isStrange", "Z", false)
  | 3 => ("PolyglotPier$Value", "whole", "J", false)
  | 4 => ("PolyglotPier$Value", "place", "I", false)
  | _ => ("PolyglotPier$Value", "target", "LPolyglotPier$Thing;", false)
def tyX8 : Nat → FieldType := fun k => match k with
  | 0 => .char
  | 1 => .double
  | 2 => .boolean
  | 3 => .long
  | 4 => .int
  | _ => .object "PolyglotPier$Thing"
abbrev wsX80 : List Cond := u_ws RX8 TX8 6
theorem nmX8 : ∀ a, a < 6 → ∀ b, b < 6 → a ≠ b → (TX8 a).2.1 ≠ (TX8 b).2.1 := by decide +kernel
theorem tyX8_ok : ∀ k, k < 6 → parseFieldDescriptor (TX8 k).2.2.1 = some (tyX8 k) := by decide +kernel
abbrev cX8_init : ByteArray := prog_10_method_1_code
def yX8_init : MethodName := ⟨RX8, "<init>", "()V"⟩
abbrev cX8_become : ByteArray := prog_10_method_2_code
def yX8_become : MethodName := ⟨RX8, "become", "(LPolyglotPier$Value;)V"⟩
abbrev cX8_becomeReal : ByteArray := prog_10_method_3_code
def yX8_becomeReal : MethodName := ⟨RX8, "becomeReal", "(D)V"⟩
abbrev cX8_becomeStrange : ByteArray := prog_10_method_4_code
def yX8_becomeStrange : MethodName := ⟨RX8, "becomeStrange", "()V"⟩
abbrev cX8_becomeWhole : ByteArray := prog_10_method_5_code
def yX8_becomeWhole : MethodName := ⟨RX8, "becomeWhole", "(CJ)V"⟩
abbrev cX8_becomeNumber : ByteArray := prog_10_method_6_code
def yX8_becomeNumber : MethodName := ⟨RX8, "becomeNumber", "(II)V"⟩
abbrev cX8_becomeNothing : ByteArray := prog_10_method_7_code
def yX8_becomeNothing : MethodName := ⟨RX8, "becomeNothing", "(C)V"⟩
abbrev cX8_becomeEscape : ByteArray := prog_10_method_8_code
def yX8_becomeEscape : MethodName := ⟨RX8, "becomeEscape", "(JI)V"⟩
abbrev cX8_becomeReference : ByteArray := prog_10_method_9_code
def yX8_becomeReference : MethodName := ⟨RX8, "becomeReference", "(LPolyglotPier$Thing;)V"⟩
abbrev cX8_isNumber : ByteArray := prog_10_method_10_code
def yX8_isNumber : MethodName := ⟨RX8, "isNumber", "()Z"⟩
abbrev cX8_isNothing : ByteArray := prog_10_method_11_code
def yX8_isNothing : MethodName := ⟨RX8, "isNothing", "()Z"⟩
abbrev cX8_isReference : ByteArray := prog_10_method_12_code
def yX8_isReference : MethodName := ⟨RX8, "isReference", "()Z"⟩
abbrev cX8_isWholeOrReference : ByteArray := prog_10_method_13_code
def yX8_isWholeOrReference : MethodName := ⟨RX8, "isWholeOrReference", "()Z"⟩
abbrev cX8_isZeroOrNothing : ByteArray := prog_10_method_14_code
def yX8_isZeroOrNothing : MethodName := ⟨RX8, "isZeroOrNothing", "()Z"⟩
abbrev cX8_asDouble : ByteArray := prog_10_method_15_code
def yX8_asDouble : MethodName := ⟨RX8, "asDouble", "()D"⟩
abbrev cX8_told : ByteArray := prog_10_method_16_code
def yX8_told : MethodName := ⟨RX8, "told", "()D"⟩
abbrev cX8_isSameAs : ByteArray := prog_10_method_17_code
def yX8_isSameAs : MethodName := ⟨RX8, "isSameAs", "(LPolyglotPier$Value;)Z"⟩
abbrev cX8_isSameNumber : ByteArray := prog_10_method_18_code
def yX8_isSameNumber : MethodName := ⟨RX8, "isSameNumber", "(LPolyglotPier$Value;)Z"⟩
abbrev cX8_isLessThan : ByteArray := prog_10_method_19_code
def yX8_isLessThan : MethodName := ⟨RX8, "isLessThan", "(LPolyglotPier$Value;)Z"⟩
def RX9 : String := "PolyglotPier"
def TX9 : u_T := fun k => match k with
  | 0 => ("PolyglotPier", "machine", "LPolyglotPier$Machine;", true)
  | 1 => ("PolyglotPier", "heap", "LPolyglotPier$Heap;", true)
  | _ => ("PolyglotPier", "carried", "LPolyglotPier$Value;", true)
def tyX9 : Nat → FieldType := fun k => match k with
  | 0 => .object "PolyglotPier$Machine"
  | 1 => .object "PolyglotPier$Heap"
  | _ => .object "PolyglotPier$Value"
abbrev wsX90 : List Cond := u_ws RX9 TX9 3
theorem nmX9 : ∀ a, a < 3 → ∀ b, b < 3 → a ≠ b → (TX9 a).2.1 ≠ (TX9 b).2.1 := by decide +kernel
theorem tyX9_ok : ∀ k, k < 3 → parseFieldDescriptor (TX9 k).2.2.1 = some (tyX9 k) := by decide +kernel
abbrev cX9_init : ByteArray := prog_1_method_1_code
def yX9_init : MethodName := ⟨RX9, "<init>", "()V"⟩
abbrev cX9_addFunction : ByteArray := prog_1_method_2_code
def yX9_addFunction : MethodName := ⟨RX9, "addFunction", "(II)I"⟩
abbrev cX9_code : ByteArray := prog_1_method_3_code
def yX9_code : MethodName := ⟨RX9, "code", "(ICI)I"⟩
abbrev cX9_guard : ByteArray := prog_1_method_4_code
def yX9_guard : MethodName := ⟨RX9, "guard", "(IIIIZ)Z"⟩
abbrev cX9_run : ByteArray := prog_1_method_5_code
def yX9_run : MethodName := ⟨RX9, "run", "(III)C"⟩
abbrev cX9_resultKind : ByteArray := prog_1_method_6_code
def yX9_resultKind : MethodName := ⟨RX9, "resultKind", "()C"⟩
abbrev cX9_resultNumber : ByteArray := prog_1_method_7_code
def yX9_resultNumber : MethodName := ⟨RX9, "resultNumber", "()D"⟩
abbrev cX9_resultWhole : ByteArray := prog_1_method_8_code
def yX9_resultWhole : MethodName := ⟨RX9, "resultWhole", "()J"⟩
abbrev cX9_trace : ByteArray := prog_1_method_9_code
def yX9_trace : MethodName := ⟨RX9, "trace", "()I"⟩
abbrev cX9_traceAt : ByteArray := prog_1_method_10_code
def yX9_traceAt : MethodName := ⟨RX9, "traceAt", "(I)I"⟩
abbrev cX9_thrownIn : ByteArray := prog_1_method_11_code
def yX9_thrownIn : MethodName := ⟨RX9, "thrownIn", "()I"⟩
abbrev cX9_set : ByteArray := prog_1_method_12_code
def yX9_set : MethodName := ⟨RX9, "set", "(III)I"⟩
abbrev cX9_make : ByteArray := prog_1_method_13_code
def yX9_make : MethodName := ⟨RX9, "make", "(II)I"⟩
abbrev cX9_pass : ByteArray := prog_1_method_14_code
def yX9_pass : MethodName := ⟨RX9, "pass", "(IIII)I"⟩
abbrev cX9_put : ByteArray := prog_1_method_15_code
def yX9_put : MethodName := ⟨RX9, "put", "(IIII)I"⟩
abbrev cX9_get : ByteArray := prog_1_method_16_code
def yX9_get : MethodName := ⟨RX9, "get", "(IIII)I"⟩
abbrev cX9_kindOf : ByteArray := prog_1_method_17_code
def yX9_kindOf : MethodName := ⟨RX9, "kindOf", "(II)C"⟩
abbrev cX9_numberOf : ByteArray := prog_1_method_18_code
def yX9_numberOf : MethodName := ⟨RX9, "numberOf", "(II)D"⟩
abbrev cX9_equal : ByteArray := prog_1_method_19_code
def yX9_equal : MethodName := ⟨RX9, "equal", "(III)Z"⟩
abbrev cX9_made : ByteArray := prog_1_method_20_code
def yX9_made : MethodName := ⟨RX9, "made", "()I"⟩
abbrev cX9_things : ByteArray := prog_1_method_21_code
def yX9_things : MethodName := ⟨RX9, "things", "(I)I"⟩
abbrev cX9_isThere : ByteArray := prog_1_method_22_code
def yX9_isThere : MethodName := ⟨RX9, "isThere", "(I)Z"⟩
abbrev cX9_count : ByteArray := prog_1_method_23_code
def yX9_count : MethodName := ⟨RX9, "count", "(I)I"⟩
abbrev cX9_isHeld : ByteArray := prog_1_method_24_code
def yX9_isHeld : MethodName := ⟨RX9, "isHeld", "(I)Z"⟩
abbrev cX9_collect : ByteArray := prog_1_method_25_code
def yX9_collect : MethodName := ⟨RX9, "collect", "()I"⟩
abbrev cX9_collectRings : ByteArray := prog_1_method_26_code
def yX9_collectRings : MethodName := ⟨RX9, "collectRings", "()I"⟩
abbrev cX9_freed : ByteArray := prog_1_method_27_code
def yX9_freed : MethodName := ⟨RX9, "freed", "()I"⟩
abbrev cX9_crossings : ByteArray := prog_1_method_28_code
def yX9_crossings : MethodName := ⟨RX9, "crossings", "()J"⟩
abbrev cX9_freedShare : ByteArray := prog_1_method_29_code
def yX9_freedShare : MethodName := ⟨RX9, "freedShare", "()F"⟩
abbrev cX9_isSound : ByteArray := prog_1_method_30_code
def yX9_isSound : MethodName := ⟨RX9, "isSound", "()Z"⟩
abbrev cX9_isWithin : ByteArray := prog_1_method_31_code
def yX9_isWithin : MethodName := ⟨RX9, "isWithin", "(II)Z"⟩
abbrev cX9_nothingOf : ByteArray := prog_1_method_32_code
def yX9_nothingOf : MethodName := ⟨RX9, "nothingOf", "(I)C"⟩
abbrev cX9_requireIndex : ByteArray := prog_1_method_33_code
def yX9_requireIndex : MethodName := ⟨RX9, "requireIndex", "(II)V"⟩
abbrev cX9_requireGlobal : ByteArray := prog_1_method_34_code
def yX9_requireGlobal : MethodName := ⟨RX9, "requireGlobal", "(II)V"⟩
abbrev cX9_requireFunction : ByteArray := prog_1_method_35_code
def yX9_requireFunction : MethodName := ⟨RX9, "requireFunction", "(I)V"⟩
abbrev cX9_requireThrow : ByteArray := prog_1_method_36_code
def yX9_requireThrow : MethodName := ⟨RX9, "requireThrow", "()V"⟩
abbrev cX9_referredThing : ByteArray := prog_1_method_37_code
def yX9_referredThing : MethodName := ⟨RX9, "referredThing", "(II)LPolyglotPier$Thing;"⟩
abbrev cX9_thingThere : ByteArray := prog_1_method_38_code
def yX9_thingThere : MethodName := ⟨RX9, "thingThere", "(I)LPolyglotPier$Thing;"⟩
def RX10 : String := "PolyglotPierModel$Call"
def TX10 : u_T := fun k => match k with
  | 0 => ("PolyglotPierModel$Call", "id", "I", true)
  | 1 => ("PolyglotPierModel$Call", "function", "I", true)
  | 2 => ("PolyglotPierModel$Call", "place", "I", false)
  | 3 => ("PolyglotPierModel$Call", "many", "I", false)
  | 4 => ("PolyglotPierModel$Call", "stack", "[LPolyglotPierModel$Val;", false)
  | _ => ("PolyglotPierModel$Call", "locals", "[LPolyglotPierModel$Val;", true)
def tyX10 : Nat → FieldType := fun k => match k with
  | 0 => .int
  | 1 => .int
  | 2 => .int
  | 3 => .int
  | 4 => .array (.object "PolyglotPierModel$Val")
  | _ => .array (.object "PolyglotPierModel$Val")
abbrev wsX100 : List Cond := u_ws RX10 TX10 6
theorem nmX10 : ∀ a, a < 6 → ∀ b, b < 6 → a ≠ b → (TX10 a).2.1 ≠ (TX10 b).2.1 := by decide +kernel
theorem tyX10_ok : ∀ k, k < 6 → parseFieldDescriptor (TX10 k).2.2.1 = some (tyX10 k) := by decide +kernel
abbrev cX10_init : ByteArray := prog_13_method_1_code
def yX10_init : MethodName := ⟨RX10, "<init>", "(II)V"⟩
def RX11 : String := "PolyglotPierModel$Val"
def TX11 : u_T := fun k => match k with
  | 0 => ("PolyglotPierModel$Val", "kind", "C", true)
  | 1 => ("PolyglotPierModel$Val", "number", "D", true)
  | 2 => ("PolyglotPierModel$Val", "whole", "J", true)
  | _ => ("PolyglotPierModel$Val", "place", "I", true)
def tyX11 : Nat → FieldType := fun k => match k with
  | 0 => .char
  | 1 => .double
  | 2 => .long
  | _ => .int
abbrev wsX110 : List Cond := u_ws RX11 TX11 4
theorem nmX11 : ∀ a, a < 4 → ∀ b, b < 4 → a ≠ b → (TX11 a).2.1 ≠ (TX11 b).2.1 := by decide +kernel
theorem tyX11_ok : ∀ k, k < 4 → parseFieldDescriptor (TX11 k).2.2.1 = some (tyX11 k) := by decide +kernel
abbrev cX11_init : ByteArray := prog_14_method_1_code
def yX11_init : MethodName := ⟨RX11, "<init>", "(CDJI)V"⟩
abbrev cX11_isNumber : ByteArray := prog_14_method_2_code
def yX11_isNumber : MethodName := ⟨RX11, "isNumber", "()Z"⟩
abbrev cX11_worth : ByteArray := prog_14_method_3_code
def yX11_worth : MethodName := ⟨RX11, "worth", "()D"⟩
abbrev cX11_isNothing : ByteArray := prog_14_method_4_code
def yX11_isNothing : MethodName := ⟨RX11, "isNothing", "()Z"⟩
def RX12 : String := "PolyglotPierModel"
def TX12 : u_T := fun k => match k with
  | 0 => ("PolyglotPierModel", "code", "I", false)
  | 1 => ("PolyglotPierModel", "functions", "I", false)
  | 2 => ("PolyglotPierModel", "language", "[I", true)
  | 3 => ("PolyglotPierModel", "parameters", "[I", true)
  | 4 => ("PolyglotPierModel", "codes", "[I", true)
  | 5 => ("PolyglotPierModel", "op", "[C", true)
  | 6 => ("PolyglotPierModel", "operand", "[I", true)
  | 7 => ("PolyglotPierModel", "hasGuard", "[Z", true)
  | 8 => ("PolyglotPierModel", "guardFrom", "[I", true)
  | 9 => ("PolyglotPierModel", "guardTo", "[I", true)
  | 10 => ("PolyglotPierModel", "guardAt", "[I", true)
  | 11 => ("PolyglotPierModel", "takesAll", "[Z", true)
  | 12 => ("PolyglotPierModel", "globals", "[LPolyglotPierModel$Val;", true)
  | 13 => ("PolyglotPierModel", "made", "I", false)
  | 14 => ("PolyglotPierModel", "freed", "I", false)
  | 15 => ("PolyglotPierModel", "home", "[I", false)
  | 16 => ("PolyglotPierModel", "isThere", "[Z", false)
  | 17 => ("PolyglotPierModel", "hasProxy", "[Z", false)
  | 18 => ("PolyglotPierModel", "fields", "[LPolyglotPierModel$Val;", false)
  | 19 => ("PolyglotPierModel", "crossings", "J", false)
  | 20 => ("PolyglotPierModel", "nextId", "I", false)
  | 21 => ("PolyglotPierModel", "depth", "I", false)
  | 22 => ("PolyglotPierModel", "calls", "[LPolyglotPierModel$Call;", true)
  | 23 => ("PolyglotPierModel", "done", "I", false)
  | 24 => ("PolyglotPierModel", "ending", "C", false)
  | 25 => ("PolyglotPierModel", "result", "LPolyglotPierModel$Val;", false)
  | 26 => ("PolyglotPierModel", "thrown", "LPolyglotPierModel$Val;", false)
  | 27 => ("PolyglotPierModel", "began", "I", false)
  | 28 => ("PolyglotPierModel", "traced", "I", false)
  | 29 => ("PolyglotPierModel", "trace", "[I", false)
  | _ => ("PolyglotPierModel", "fault", "I", false)
def tyX12 : Nat → FieldType := fun k => match k with
  | 0 => .int
  | 1 => .int
  | 2 => .array .int
  | 3 => .array .int
  | 4 => .array .int
  | 5 => .array .char
  | 6 => .array .int
  | 7 => .array .boolean
  | 8 => .array .int
  | 9 => .array .int
  | 10 => .array .int
  | 11 => .array .boolean
  | 12 => .array (.object "PolyglotPierModel$Val")
  | 13 => .int
  | 14 => .int
  | 15 => .array .int
  | 16 => .array .boolean
  | 17 => .array .boolean
  | 18 => .array (.object "PolyglotPierModel$Val")
  | 19 => .long
  | 20 => .int
  | 21 => .int
  | 22 => .array (.object "PolyglotPierModel$Call")
  | 23 => .int
  | 24 => .char
  | 25 => .object "PolyglotPierModel$Val"
  | 26 => .object "PolyglotPierModel$Val"
  | 27 => .int
  | 28 => .int
  | 29 => .array .int
  | _ => .int
abbrev wsX120 : List Cond := u_ws RX12 TX12 31
theorem nmX12 : ∀ a, a < 31 → ∀ b, b < 31 → a ≠ b → (TX12 a).2.1 ≠ (TX12 b).2.1 := by decide +kernel
theorem tyX12_ok : ∀ k, k < 31 → parseFieldDescriptor (TX12 k).2.2.1 = some (tyX12 k) := by decide +kernel
abbrev cX12_init : ByteArray := prog_12_method_1_code
def yX12_init : MethodName := ⟨RX12, "<init>", "()V"⟩
abbrev cX12_thrown : ByteArray := prog_12_method_2_code
def yX12_thrown : MethodName := ⟨RX12, "thrown", "()I"⟩
abbrev cX12_in : ByteArray := prog_12_method_3_code
def yX12_in : MethodName := ⟨RX12, "in", "(III)Z"⟩
abbrev cX12_fails : ByteArray := prog_12_method_4_code
def yX12_fails : MethodName := ⟨RX12, "fails", "(I)I"⟩
abbrev cX12_nothing : ByteArray := prog_12_method_5_code
def yX12_nothing : MethodName := ⟨RX12, "nothing", "(I)LPolyglotPierModel$Val;"⟩
abbrev cX12_decimal : ByteArray := prog_12_method_6_code
def yX12_decimal : MethodName := ⟨RX12, "decimal", "(D)LPolyglotPierModel$Val;"⟩
abbrev cX12_whole : ByteArray := prog_12_method_7_code
def yX12_whole : MethodName := ⟨RX12, "whole", "(IJ)LPolyglotPierModel$Val;"⟩
abbrev cX12_thing : ByteArray := prog_12_method_8_code
def yX12_thing : MethodName := ⟨RX12, "thing", "(I)LPolyglotPierModel$Val;"⟩
abbrev cX12_isLanguage : ByteArray := prog_12_method_9_code
def yX12_isLanguage : MethodName := ⟨RX12, "isLanguage", "(I)Z"⟩
abbrev cX12_isWhole : ByteArray := prog_12_method_10_code
def yX12_isWhole : MethodName := ⟨RX12, "isWhole", "(DDD)Z"⟩
abbrev cX12_crossed : ByteArray := prog_12_method_11_code
def yX12_crossed : MethodName := ⟨RX12, "crossed", "(LPolyglotPierModel$Val;II)LPolyglotPierModel$Val;"⟩
abbrev cX12_crosses : ByteArray := prog_12_method_12_code
def yX12_crosses : MethodName := ⟨RX12, "crosses", "(LPolyglotPierModel$Val;II)LPolyglotPierModel$Val;"⟩
abbrev cX12_addFunction : ByteArray := prog_12_method_13_code
def yX12_addFunction : MethodName := ⟨RX12, "addFunction", "(II)I"⟩
abbrev cX12_isFunction : ByteArray := prog_12_method_14_code
def yX12_isFunction : MethodName := ⟨RX12, "isFunction", "(I)Z"⟩
abbrev cX12_code : ByteArray := prog_12_method_15_code
def yX12_code : MethodName := ⟨RX12, "code", "(ICI)I"⟩
abbrev cX12_guard : ByteArray := prog_12_method_16_code
def yX12_guard : MethodName := ⟨RX12, "guard", "(IIIIZ)Z"⟩
abbrev cX12_global : ByteArray := prog_12_method_17_code
def yX12_global : MethodName := ⟨RX12, "global", "(II)LPolyglotPierModel$Val;"⟩
abbrev cX12_notes : ByteArray := prog_12_method_18_code
def yX12_notes : MethodName := ⟨RX12, "notes", "(LPolyglotPierModel$Val;)V"⟩
abbrev cX12_setsGlobal : ByteArray := prog_12_method_19_code
def yX12_setsGlobal : MethodName := ⟨RX12, "setsGlobal", "(IILPolyglotPierModel$Val;)V"⟩
abbrev cX12_setsField : ByteArray := prog_12_method_20_code
def yX12_setsField : MethodName := ⟨RX12, "setsField", "(IILPolyglotPierModel$Val;)V"⟩
abbrev cX12_thereNow : ByteArray := prog_12_method_21_code
def yX12_thereNow : MethodName := ⟨RX12, "thereNow", "()I"⟩
abbrev cX12_makes : ByteArray := prog_12_method_22_code
def yX12_makes : MethodName := ⟨RX12, "makes", "(I)I"⟩
abbrev cX12_isTo : ByteArray := prog_12_method_23_code
def yX12_isTo : MethodName := ⟨RX12, "isTo", "(LPolyglotPierModel$Val;I)Z"⟩
abbrev cX12_references : ByteArray := prog_12_method_24_code
def yX12_references : MethodName := ⟨RX12, "references", "(II)I"⟩
abbrev cX12_countOf : ByteArray := prog_12_method_25_code
def yX12_countOf : MethodName := ⟨RX12, "countOf", "(I)I"⟩
abbrev cX12_frees : ByteArray := prog_12_method_26_code
def yX12_frees : MethodName := ⟨RX12, "frees", "(I)V"⟩
abbrev cX12_looksAtCounts : ByteArray := prog_12_method_27_code
def yX12_looksAtCounts : MethodName := ⟨RX12, "looksAtCounts", "()I"⟩
abbrev cX12_findsProxies : ByteArray := prog_12_method_28_code
def yX12_findsProxies : MethodName := ⟨RX12, "findsProxies", "()V"⟩
abbrev cX12_pushes : ByteArray := prog_12_method_29_code
def yX12_pushes : MethodName := ⟨RX12, "pushes", "(LPolyglotPierModel$Call;LPolyglotPierModel$Val;)V"⟩
abbrev cX12_pops : ByteArray := prog_12_method_30_code
def yX12_pops : MethodName := ⟨RX12, "pops", "(LPolyglotPierModel$Call;)LPolyglotPierModel$Val;"⟩
abbrev cX12_begins : ByteArray := prog_12_method_31_code
def yX12_begins : MethodName := ⟨RX12, "begins", "(I)LPolyglotPierModel$Call;"⟩
abbrev cX12_isPlace : ByteArray := prog_12_method_32_code
def yX12_isPlace : MethodName := ⟨RX12, "isPlace", "(II)Z"⟩
abbrev cX12_goesTo : ByteArray := prog_12_method_33_code
def yX12_goesTo : MethodName := ⟨RX12, "goesTo", "(LPolyglotPierModel$Call;I)V"⟩
abbrev cX12_traces : ByteArray := prog_12_method_34_code
def yX12_traces : MethodName := ⟨RX12, "traces", "(I)V"⟩
abbrev cX12_raises : ByteArray := prog_12_method_35_code
def yX12_raises : MethodName := ⟨RX12, "raises", "(LPolyglotPierModel$Val;)V"⟩
abbrev cX12_returns : ByteArray := prog_12_method_36_code
def yX12_returns : MethodName := ⟨RX12, "returns", "(LPolyglotPierModel$Val;)V"⟩
abbrev cX12_reckoned : ByteArray := prog_12_method_37_code
def yX12_reckoned : MethodName := ⟨RX12, "reckoned", "(ICLPolyglotPierModel$Val;LPolyglotPierModel$Val;)LPolyglotPierModel$Val;"⟩
abbrev cX12_isEqual : ByteArray := prog_12_method_38_code
def yX12_isEqual : MethodName := ⟨RX12, "isEqual", "(LPolyglotPierModel$Val;LPolyglotPierModel$Val;)Z"⟩
abbrev cX12_moves : ByteArray := prog_12_method_39_code
def yX12_moves : MethodName := ⟨RX12, "moves", "(LPolyglotPierModel$Call;ICI)Z"⟩
abbrev cX12_pairs : ByteArray := prog_12_method_40_code
def yX12_pairs : MethodName := ⟨RX12, "pairs", "(LPolyglotPierModel$Call;IC)V"⟩
abbrev cX12_handles : ByteArray := prog_12_method_41_code
def yX12_handles : MethodName := ⟨RX12, "handles", "(LPolyglotPierModel$Call;ICI)Z"⟩
abbrev cX12_callsOther : ByteArray := prog_12_method_42_code
def yX12_callsOther : MethodName := ⟨RX12, "callsOther", "(LPolyglotPierModel$Call;II)V"⟩
abbrev cX12_escapes : ByteArray := prog_12_method_43_code
def yX12_escapes : MethodName := ⟨RX12, "escapes", "(LPolyglotPierModel$Call;I)V"⟩
abbrev cX12_does : ByteArray := prog_12_method_44_code
def yX12_does : MethodName := ⟨RX12, "does", "(LPolyglotPierModel$Call;)V"⟩
abbrev cX12_run : ByteArray := prog_12_method_45_code
def yX12_run : MethodName := ⟨RX12, "run", "(III)C"⟩
abbrev cX12_last : ByteArray := prog_12_method_46_code
def yX12_last : MethodName := ⟨RX12, "last", "()LPolyglotPierModel$Val;"⟩
abbrev cX12_resultKind : ByteArray := prog_12_method_47_code
def yX12_resultKind : MethodName := ⟨RX12, "resultKind", "()C"⟩
abbrev cX12_resultNumber : ByteArray := prog_12_method_48_code
def yX12_resultNumber : MethodName := ⟨RX12, "resultNumber", "()D"⟩
abbrev cX12_resultWhole : ByteArray := prog_12_method_49_code
def yX12_resultWhole : MethodName := ⟨RX12, "resultWhole", "()J"⟩
abbrev cX12_trace : ByteArray := prog_12_method_50_code
def yX12_trace : MethodName := ⟨RX12, "trace", "()I"⟩
abbrev cX12_traceAt : ByteArray := prog_12_method_51_code
def yX12_traceAt : MethodName := ⟨RX12, "traceAt", "(I)I"⟩
abbrev cX12_thrownIn : ByteArray := prog_12_method_52_code
def yX12_thrownIn : MethodName := ⟨RX12, "thrownIn", "()I"⟩
abbrev cX12_isGlobal : ByteArray := prog_12_method_53_code
def yX12_isGlobal : MethodName := ⟨RX12, "isGlobal", "(II)Z"⟩
abbrev cX12_set : ByteArray := prog_12_method_54_code
def yX12_set : MethodName := ⟨RX12, "set", "(III)I"⟩
abbrev cX12_make : ByteArray := prog_12_method_55_code
def yX12_make : MethodName := ⟨RX12, "make", "(II)I"⟩
abbrev cX12_pass : ByteArray := prog_12_method_56_code
def yX12_pass : MethodName := ⟨RX12, "pass", "(IIII)I"⟩
abbrev cX12_put : ByteArray := prog_12_method_57_code
def yX12_put : MethodName := ⟨RX12, "put", "(IIII)I"⟩
abbrev cX12_get : ByteArray := prog_12_method_58_code
def yX12_get : MethodName := ⟨RX12, "get", "(IIII)I"⟩
abbrev cX12_kindOf : ByteArray := prog_12_method_59_code
def yX12_kindOf : MethodName := ⟨RX12, "kindOf", "(II)C"⟩
abbrev cX12_numberOf : ByteArray := prog_12_method_60_code
def yX12_numberOf : MethodName := ⟨RX12, "numberOf", "(II)D"⟩
abbrev cX12_equal : ByteArray := prog_12_method_61_code
def yX12_equal : MethodName := ⟨RX12, "equal", "(III)Z"⟩
abbrev cX12_made : ByteArray := prog_12_method_62_code
def yX12_made : MethodName := ⟨RX12, "made", "()I"⟩
abbrev cX12_things : ByteArray := prog_12_method_63_code
def yX12_things : MethodName := ⟨RX12, "things", "(I)I"⟩
abbrev cX12_isThere : ByteArray := prog_12_method_64_code
def yX12_isThere : MethodName := ⟨RX12, "isThere", "(I)Z"⟩
abbrev cX12_count : ByteArray := prog_12_method_65_code
def yX12_count : MethodName := ⟨RX12, "count", "(I)I"⟩
abbrev cX12_isHeld : ByteArray := prog_12_method_66_code
def yX12_isHeld : MethodName := ⟨RX12, "isHeld", "(I)Z"⟩
abbrev cX12_reached : ByteArray := prog_12_method_67_code
def yX12_reached : MethodName := ⟨RX12, "reached", "(IZ)[Z"⟩
abbrev cX12_collects : ByteArray := prog_12_method_68_code
def yX12_collects : MethodName := ⟨RX12, "collects", "(IZ)I"⟩
abbrev cX12_collect : ByteArray := prog_12_method_69_code
def yX12_collect : MethodName := ⟨RX12, "collect", "()I"⟩
abbrev cX12_collectRings : ByteArray := prog_12_method_70_code
def yX12_collectRings : MethodName := ⟨RX12, "collectRings", "()I"⟩
abbrev cX12_freed : ByteArray := prog_12_method_71_code
def yX12_freed : MethodName := ⟨RX12, "freed", "()I"⟩
abbrev cX12_crossings : ByteArray := prog_12_method_72_code
def yX12_crossings : MethodName := ⟨RX12, "crossings", "()J"⟩
abbrev cX12_freedShare : ByteArray := prog_12_method_73_code
def yX12_freedShare : MethodName := ⟨RX12, "freedShare", "()F"⟩
abbrev cX12_isSound : ByteArray := prog_12_method_74_code
def yX12_isSound : MethodName := ⟨RX12, "isSound", "()Z"⟩
def RJx145de : String := "java/io/Serializable"
def TJx145de : u_T := fun k => match k with
  | _ => ("", "", "", false)
def tyJx145de : Nat → FieldType := fun k => match k with
  | _ => .int
abbrev wsJx145de0 : List Cond := u_ws RJx145de TJx145de 0
theorem nmJx145de : ∀ a, a < 0 → ∀ b, b < 0 → a ≠ b → (TJx145de a).2.1 ≠ (TJx145de b).2.1 := by decide +kernel
theorem tyJx145de_ok : ∀ k, k < 0 → parseFieldDescriptor (TJx145de k).2.2.1 = some (tyJx145de k) := by decide +kernel
def RJx00060 : String := "java/lang/ArrayIndexOutOfBoundsException"
def TJx00060 : u_T := fun k => match k with
  | 0 => ("java/lang/Throwable", "backtrace", "Ljava/lang/Object;", false)
  | 1 => ("java/lang/Throwable", "detailMessage", "Ljava/lang/String;", false)
  | 2 => ("java/lang/Throwable", "cause", "Ljava/lang/Throwable;", false)
  | 3 => ("java/lang/Throwable", "stackTrace", "[Ljava/lang/StackTraceElement;", false)
  | 4 => ("java/lang/Throwable", "depth", "I", false)
  | _ => ("java/lang/Throwable", "suppressedExceptions", "Ljava/util/List;", false)
def tyJx00060 : Nat → FieldType := fun k => match k with
  | 0 => .object "java/lang/Object"
  | 1 => .object "java/lang/String"
  | 2 => .object "java/lang/Throwable"
  | 3 => .array (.object "java/lang/StackTraceElement")
  | 4 => .int
  | _ => .object "java/util/List"
abbrev wsJx000600 : List Cond := u_ws RJx00060 TJx00060 6
theorem nmJx00060 : ∀ a, a < 6 → ∀ b, b < 6 → a ≠ b → (TJx00060 a).2.1 ≠ (TJx00060 b).2.1 := by decide +kernel
theorem tyJx00060_ok : ∀ k, k < 6 → parseFieldDescriptor (TJx00060 k).2.2.1 = some (tyJx00060 k) := by decide +kernel
abbrev cJx00060_init_a7421 : ByteArray := prog_17_method_2_code
def yJx00060_init_a7421 : MethodName := ⟨RJx00060, "<init>", "(Ljava/lang/String;)V"⟩
def RJx9f9b0 : String := "java/lang/CharSequence"
def TJx9f9b0 : u_T := fun k => match k with
  | _ => ("", "", "", false)
def tyJx9f9b0 : Nat → FieldType := fun k => match k with
  | _ => .int
abbrev wsJx9f9b00 : List Cond := u_ws RJx9f9b0 TJx9f9b0 0
theorem nmJx9f9b0 : ∀ a, a < 0 → ∀ b, b < 0 → a ≠ b → (TJx9f9b0 a).2.1 ≠ (TJx9f9b0 b).2.1 := by decide +kernel
theorem tyJx9f9b0_ok : ∀ k, k < 0 → parseFieldDescriptor (TJx9f9b0 k).2.2.1 = some (tyJx9f9b0 k) := by decide +kernel
def RJ11 : String := "java/lang/Character"
def TJ11 : u_T := fun k => match k with
  | _ => ("", "", "", false)
def tyJ11 : Nat → FieldType := fun k => match k with
  | _ => .int
abbrev wsJ110 : List Cond := u_ws RJ11 TJ11 0
theorem nmJ11 : ∀ a, a < 0 → ∀ b, b < 0 → a ≠ b → (TJ11 a).2.1 ≠ (TJ11 b).2.1 := by decide +kernel
theorem tyJ11_ok : ∀ k, k < 0 → parseFieldDescriptor (TJ11 k).2.2.1 = some (tyJ11 k) := by decide +kernel
abbrev cJ11_isValidCodePoint_9a6ad : ByteArray := prog_19_method_11_code
def yJ11_isValidCodePoint_9a6ad : MethodName := ⟨RJ11, "isValidCodePoint", "(I)Z"⟩
abbrev cJ11_highSurrogate_5068e : ByteArray := prog_19_method_28_code
def yJ11_highSurrogate_5068e : MethodName := ⟨RJ11, "highSurrogate", "(I)C"⟩
abbrev cJ11_lowSurrogate_5068e : ByteArray := prog_19_method_29_code
def yJ11_lowSurrogate_5068e : MethodName := ⟨RJ11, "lowSurrogate", "(I)C"⟩
def RJxb160c : String := "java/lang/Comparable"
def TJxb160c : u_T := fun k => match k with
  | _ => ("", "", "", false)
def tyJxb160c : Nat → FieldType := fun k => match k with
  | _ => .int
abbrev wsJxb160c0 : List Cond := u_ws RJxb160c TJxb160c 0
theorem nmJxb160c : ∀ a, a < 0 → ∀ b, b < 0 → a ≠ b → (TJxb160c a).2.1 ≠ (TJxb160c b).2.1 := by decide +kernel
theorem tyJxb160c_ok : ∀ k, k < 0 → parseFieldDescriptor (TJxb160c k).2.2.1 = some (tyJxb160c k) := by decide +kernel
def RJxe99ae : String := "java/lang/Double"
def TJxe99ae : u_T := fun k => match k with
  | _ => ("", "", "", false)
def tyJxe99ae : Nat → FieldType := fun k => match k with
  | _ => .int
abbrev wsJxe99ae0 : List Cond := u_ws RJxe99ae TJxe99ae 0
theorem nmJxe99ae : ∀ a, a < 0 → ∀ b, b < 0 → a ≠ b → (TJxe99ae a).2.1 ≠ (TJxe99ae b).2.1 := by decide +kernel
theorem tyJxe99ae_ok : ∀ k, k < 0 → parseFieldDescriptor (TJxe99ae k).2.2.1 = some (tyJxe99ae k) := by decide +kernel
def RJ9 : String := "java/lang/Math"
def TJ9 : u_T := fun k => match k with
  | _ => ("", "", "", false)
def tyJ9 : Nat → FieldType := fun k => match k with
  | _ => .int
abbrev wsJ90 : List Cond := u_ws RJ9 TJ9 0
theorem nmJ9 : ∀ a, a < 0 → ∀ b, b < 0 → a ≠ b → (TJ9 a).2.1 ≠ (TJ9 b).2.1 := by decide +kernel
theorem tyJ9_ok : ∀ k, k < 0 → parseFieldDescriptor (TJ9 k).2.2.1 = some (tyJ9 k) := by decide +kernel
abbrev cJ9_floor_294c1 : ByteArray := prog_26_method_17_code
def yJ9_floor_294c1 : MethodName := ⟨RJ9, "floor", "(D)D"⟩
abbrev cJ9_max_7cf53 : ByteArray := prog_26_method_65_code
def yJ9_max_7cf53 : MethodName := ⟨RJ9, "max", "(II)I"⟩
abbrev cJ9_min_7cf53 : ByteArray := prog_26_method_69_code
def yJ9_min_7cf53 : MethodName := ⟨RJ9, "min", "(II)I"⟩
abbrev cJ9_getExponent_b4643 : ByteArray := prog_26_method_92_code
def yJ9_getExponent_b4643 : MethodName := ⟨RJ9, "getExponent", "(D)I"⟩
def RJxd2413 : String := "java/lang/Number"
def TJxd2413 : u_T := fun k => match k with
  | _ => ("", "", "", false)
def tyJxd2413 : Nat → FieldType := fun k => match k with
  | _ => .int
abbrev wsJxd24130 : List Cond := u_ws RJxd2413 TJxd2413 0
theorem nmJxd2413 : ∀ a, a < 0 → ∀ b, b < 0 → a ≠ b → (TJxd2413 a).2.1 ≠ (TJxd2413 b).2.1 := by decide +kernel
theorem tyJxd2413_ok : ∀ k, k < 0 → parseFieldDescriptor (TJxd2413 k).2.2.1 = some (tyJxd2413 k) := by decide +kernel
def RJxfc994 : String := "java/lang/StrictMath"
def TJxfc994 : u_T := fun k => match k with
  | _ => ("", "", "", false)
def tyJxfc994 : Nat → FieldType := fun k => match k with
  | _ => .int
abbrev wsJxfc9940 : List Cond := u_ws RJxfc994 TJxfc994 0
theorem nmJxfc994 : ∀ a, a < 0 → ∀ b, b < 0 → a ≠ b → (TJxfc994 a).2.1 ≠ (TJxfc994 b).2.1 := by decide +kernel
theorem tyJxfc994_ok : ∀ k, k < 0 → parseFieldDescriptor (TJxfc994 k).2.2.1 = some (tyJxfc994 k) := by decide +kernel
abbrev cJxfc994_floor_294c1 : ByteArray := prog_29_method_17_code
def yJxfc994_floor_294c1 : MethodName := ⟨RJxfc994, "floor", "(D)D"⟩
abbrev cJxfc994_floorOrCeil_f4a47 : ByteArray := prog_29_method_18_code
def yJxfc994_floorOrCeil_f4a47 : MethodName := ⟨RJxfc994, "floorOrCeil", "(DDDD)D"⟩
def RJ0 : String := "java/lang/String"
def TJ0 : u_T := fun k => match k with
  | 0 => ("java/lang/String", "value", "[B", true)
  | _ => ("java/lang/String", "coder", "B", true)
def tyJ0 : Nat → FieldType := fun k => match k with
  | 0 => .array .byte
  | _ => .byte
abbrev wsJ00 : List Cond := u_ws RJ0 TJ0 2
theorem nmJ0 : ∀ a, a < 2 → ∀ b, b < 2 → a ≠ b → (TJ0 a).2.1 ≠ (TJ0 b).2.1 := by decide +kernel
theorem tyJ0_ok : ∀ k, k < 2 → parseFieldDescriptor (TJ0 k).2.2.1 = some (tyJ0 k) := by decide +kernel
abbrev cJ0_length_8abf5 : ByteArray := prog_30_method_54_code
def yJ0_length_8abf5 : MethodName := ⟨RJ0, "length", "()I"⟩
abbrev cJ0_indexOf_0f7a4 : ByteArray := prog_30_method_79_code
def yJ0_indexOf_0f7a4 : MethodName := ⟨RJ0, "indexOf", "(I)I"⟩
abbrev cJ0_indexOf_7cf53 : ByteArray := prog_30_method_80_code
def yJ0_indexOf_7cf53 : MethodName := ⟨RJ0, "indexOf", "(II)I"⟩
abbrev cJ0_coder_7d493 : ByteArray := prog_30_method_152_code
def yJ0_coder_7d493 : MethodName := ⟨RJ0, "coder", "()B"⟩
abbrev cJ0_isLatin1_aae02 : ByteArray := prog_30_method_154_code
def yJ0_isLatin1_aae02 : MethodName := ⟨RJ0, "isLatin1", "()Z"⟩
abbrev cJ0_checkBoundsBeginEnd_23922 : ByteArray := prog_30_method_158_code
def yJ0_checkBoundsBeginEnd_23922 : MethodName := ⟨RJ0, "checkBoundsBeginEnd", "(III)V"⟩
def RJ1 : String := "java/lang/StringLatin1"
def TJ1 : u_T := fun k => match k with
  | _ => ("", "", "", false)
def tyJ1 : Nat → FieldType := fun k => match k with
  | _ => .int
abbrev wsJ10 : List Cond := u_ws RJ1 TJ1 0
theorem nmJ1 : ∀ a, a < 0 → ∀ b, b < 0 → a ≠ b → (TJ1 a).2.1 ≠ (TJ1 b).2.1 := by decide +kernel
theorem tyJ1_ok : ∀ k, k < 0 → parseFieldDescriptor (TJ1 k).2.2.1 = some (tyJ1 k) := by decide +kernel
abbrev cJ1_canEncode_9a6ad : ByteArray := prog_31_method_4_code
def yJ1_canEncode_9a6ad : MethodName := ⟨RJ1, "canEncode", "(I)Z"⟩
abbrev cJ1_indexOf_4cfef : ByteArray := prog_31_method_22_code
def yJ1_indexOf_4cfef : MethodName := ⟨RJ1, "indexOf", "([BIII)I"⟩
abbrev cJ1_indexOfChar_4cfef : ByteArray := prog_31_method_23_code
def yJ1_indexOfChar_4cfef : MethodName := ⟨RJ1, "indexOfChar", "([BIII)I"⟩
def RJ2 : String := "java/lang/StringUTF16"
def TJ2 : u_T := fun k => match k with
  | _ => ("", "", "", false)
def tyJ2 : Nat → FieldType := fun k => match k with
  | _ => .int
abbrev wsJ20 : List Cond := u_ws RJ2 TJ2 0
theorem nmJ2 : ∀ a, a < 0 → ∀ b, b < 0 → a ≠ b → (TJ2 a).2.1 ≠ (TJ2 b).2.1 := by decide +kernel
theorem tyJ2_ok : ∀ k, k < 0 → parseFieldDescriptor (TJ2 k).2.2.1 = some (tyJ2 k) := by decide +kernel
abbrev cJ2_getChar_3b067 : ByteArray := prog_32_method_5_code
def yJ2_getChar_3b067 : MethodName := ⟨RJ2, "getChar", "([BI)C"⟩
abbrev cJ2_length_9d52b : ByteArray := prog_32_method_6_code
def yJ2_length_9d52b : MethodName := ⟨RJ2, "length", "([B)I"⟩
abbrev cJ2_indexOf_4cfef : ByteArray := prog_32_method_40_code
def yJ2_indexOf_4cfef : MethodName := ⟨RJ2, "indexOf", "([BIII)I"⟩
abbrev cJ2_indexOfChar_4cfef : ByteArray := prog_32_method_47_code
def yJ2_indexOfChar_4cfef : MethodName := ⟨RJ2, "indexOfChar", "([BIII)I"⟩
abbrev cJ2_indexOfCharUnsafe_4cfef : ByteArray := prog_32_method_48_code
def yJ2_indexOfCharUnsafe_4cfef : MethodName := ⟨RJ2, "indexOfCharUnsafe", "([BIII)I"⟩
abbrev cJ2_indexOfSupplementary_4cfef : ByteArray := prog_32_method_49_code
def yJ2_indexOfSupplementary_4cfef : MethodName := ⟨RJ2, "indexOfSupplementary", "([BIII)I"⟩
abbrev cJ2_checkBoundsBeginEnd_d044e : ByteArray := prog_32_method_93_code
def yJ2_checkBoundsBeginEnd_d044e : MethodName := ⟨RJ2, "checkBoundsBeginEnd", "(II[B)V"⟩
def RJxfd54e : String := "java/lang/constant/Constable"
def TJxfd54e : u_T := fun k => match k with
  | _ => ("", "", "", false)
def tyJxfd54e : Nat → FieldType := fun k => match k with
  | _ => .int
abbrev wsJxfd54e0 : List Cond := u_ws RJxfd54e TJxfd54e 0
theorem nmJxfd54e : ∀ a, a < 0 → ∀ b, b < 0 → a ≠ b → (TJxfd54e a).2.1 ≠ (TJxfd54e b).2.1 := by decide +kernel
theorem tyJxfd54e_ok : ∀ k, k < 0 → parseFieldDescriptor (TJxfd54e k).2.2.1 = some (tyJxfd54e k) := by decide +kernel
def RJx3cf43 : String := "java/lang/constant/ConstantDesc"
def TJx3cf43 : u_T := fun k => match k with
  | _ => ("", "", "", false)
def tyJx3cf43 : Nat → FieldType := fun k => match k with
  | _ => .int
abbrev wsJx3cf430 : List Cond := u_ws RJx3cf43 TJx3cf43 0
theorem nmJx3cf43 : ∀ a, a < 0 → ∀ b, b < 0 → a ≠ b → (TJx3cf43 a).2.1 ≠ (TJx3cf43 b).2.1 := by decide +kernel
theorem tyJx3cf43_ok : ∀ k, k < 0 → parseFieldDescriptor (TJx3cf43 k).2.2.1 = some (tyJx3cf43 k) := by decide +kernel
def RJ3 : String := "jdk/internal/util/Preconditions"
def TJ3 : u_T := fun k => match k with
  | _ => ("", "", "", false)
def tyJ3 : Nat → FieldType := fun k => match k with
  | _ => .int
abbrev wsJ30 : List Cond := u_ws RJ3 TJ3 0
theorem nmJ3 : ∀ a, a < 0 → ∀ b, b < 0 → a ≠ b → (TJ3 a).2.1 ≠ (TJ3 b).2.1 := by decide +kernel
theorem tyJ3_ok : ∀ k, k < 0 → parseFieldDescriptor (TJ3 k).2.2.1 = some (tyJ3 k) := by decide +kernel
abbrev cJ3_checkFromToIndex_8c36e : ByteArray := prog_38_method_12_code
def yJ3_checkFromToIndex_8c36e : MethodName := ⟨RJ3, "checkFromToIndex", "(IIILjava/util/function/BiFunction;)I"⟩
def RL : String := "PolyglotPierLaw"
abbrev cL_addFunction : ByteArray := method_3_code
def yL_addFunction : MethodName := ⟨RL, "addFunction", "(LPolyglotPier;II[J)I"⟩
abbrev cL_code : ByteArray := method_4_code
def yL_code : MethodName := ⟨RL, "code", "(LPolyglotPier;ICI[J)I"⟩
abbrev cL_guard : ByteArray := method_5_code
def yL_guard : MethodName := ⟨RL, "guard", "(LPolyglotPier;IIIIZ[J)I"⟩
abbrev cL_run : ByteArray := method_6_code
def yL_run : MethodName := ⟨RL, "run", "(LPolyglotPier;III[J)I"⟩
abbrev cL_resultKind : ByteArray := method_7_code
def yL_resultKind : MethodName := ⟨RL, "resultKind", "(LPolyglotPier;[J)I"⟩
abbrev cL_resultNumber : ByteArray := method_8_code
def yL_resultNumber : MethodName := ⟨RL, "resultNumber", "(LPolyglotPier;[D)I"⟩
abbrev cL_resultWhole : ByteArray := method_9_code
def yL_resultWhole : MethodName := ⟨RL, "resultWhole", "(LPolyglotPier;[J)I"⟩
abbrev cL_trace : ByteArray := method_10_code
def yL_trace : MethodName := ⟨RL, "trace", "(LPolyglotPier;[J)I"⟩
abbrev cL_traceAt : ByteArray := method_11_code
def yL_traceAt : MethodName := ⟨RL, "traceAt", "(LPolyglotPier;I[J)I"⟩
abbrev cL_thrownIn : ByteArray := method_12_code
def yL_thrownIn : MethodName := ⟨RL, "thrownIn", "(LPolyglotPier;[J)I"⟩
abbrev cL_set : ByteArray := method_13_code
def yL_set : MethodName := ⟨RL, "set", "(LPolyglotPier;III[J)I"⟩
abbrev cL_make : ByteArray := method_14_code
def yL_make : MethodName := ⟨RL, "make", "(LPolyglotPier;II[J)I"⟩
abbrev cL_pass : ByteArray := method_15_code
def yL_pass : MethodName := ⟨RL, "pass", "(LPolyglotPier;IIII[J)I"⟩
abbrev cL_put : ByteArray := method_16_code
def yL_put : MethodName := ⟨RL, "put", "(LPolyglotPier;IIII[J)I"⟩
abbrev cL_get : ByteArray := method_17_code
def yL_get : MethodName := ⟨RL, "get", "(LPolyglotPier;IIII[J)I"⟩
abbrev cL_kindOf : ByteArray := method_18_code
def yL_kindOf : MethodName := ⟨RL, "kindOf", "(LPolyglotPier;II[J)I"⟩
abbrev cL_numberOf : ByteArray := method_19_code
def yL_numberOf : MethodName := ⟨RL, "numberOf", "(LPolyglotPier;II[D)I"⟩
abbrev cL_equal : ByteArray := method_20_code
def yL_equal : MethodName := ⟨RL, "equal", "(LPolyglotPier;III[J)I"⟩
abbrev cL_things : ByteArray := method_21_code
def yL_things : MethodName := ⟨RL, "things", "(LPolyglotPier;I[J)I"⟩
abbrev cL_isThere : ByteArray := method_22_code
def yL_isThere : MethodName := ⟨RL, "isThere", "(LPolyglotPier;I[J)I"⟩
abbrev cL_count : ByteArray := method_23_code
def yL_count : MethodName := ⟨RL, "count", "(LPolyglotPier;I[J)I"⟩
abbrev cL_isHeld : ByteArray := method_24_code
def yL_isHeld : MethodName := ⟨RL, "isHeld", "(LPolyglotPier;I[J)I"⟩
abbrev cL_freedShare : ByteArray := method_25_code
def yL_freedShare : MethodName := ⟨RL, "freedShare", "(LPolyglotPier;[D)I"⟩
abbrev cL_law : ByteArray := code
def yL_law : MethodName := ⟨RL, "law", "([I)Z"⟩
end
section
/-! THE EXECUTOR: a run of the bytecode over a picture, decided by the kernel. Own definitions alone. -/
/-- a value: its kind and a number. 0 null, 1 the cell k, 2 int, 3 long, 4 double 0 or 1, 5 the script's int j, 6 it as a char, 7 it as a long, 8 it as a double, 9 it as a long as a double, 10 the script, 11 float 0 -/
abbrev xV : Type := Nat × Int
abbrev xL : Type := List (Nat × xV)
/-- a cell: object (0) or array (1); its class or type; what it holds -/
abbrev xC : Type := Nat × Nat × List xV
abbrev xT : Type := Lean.RArray xC
/-- pc, locals, stack, does the count hold of the heap's end, how many cells, the tree, new cells, new slots -/
abbrev xS : Type := Nat × xL × List xV × Bool × Nat × xT × Nat × Nat
/-- 1 at a return, 2 at a throw of class v, 3 class v was thrown and isn't caught here, 4 fails, 5 asks to part the script's int v at c -/
abbrev xO : Type := Nat × Nat × Int × xS
/-- the call's number, the script's length, bounds of its ints -/
abbrev xB : Type := Nat × Nat × List (Int × Int)
/-- of a method: handlers (from, to, class, local, behind the store), parameters, kind of answer, new cells, new slots -/
abbrev xQ : Type := List (Nat × Nat × Nat × Nat × Nat) × Nat × Nat × Nat × Nat
/-- how it goes on -/
abbrev xG : Type := Nat → xL → List xV → Bool → Nat → xT → Nat → Nat → xO
abbrev xA : Type := Nat → List xV → Bool → Nat → xT → xO
abbrev xH : Type := xA → (Nat → xQ) → xQ → xB → Nat → Nat → Nat → Nat → xG → xG
/-- an instruction's way, its place, its length, three numbers -/
abbrev xEn : Type := xH × Nat × Nat × Nat × Nat × Nat
/-- a method: code (the tree's depth, the slots of its locals, the tree), and the rest -/
abbrev xP : Type := ((Nat × Nat) × Lean.RArray xEn) × xQ

noncomputable def tget {α : Type} (z : α) (d : Nat) : Lean.RArray α → Nat → α := Nat.rec (fun t _ => Lean.RArray.rec (fun x => x) (fun _ _ _ _ _ => z) t) (fun _ ih t k => Lean.RArray.rec (fun x => x) (fun _ l r _ _ => cond (Nat.beq (Nat.mod k 2) 0) (ih l (Nat.div k 2)) (ih r (Nat.div k 2))) t) d
noncomputable def tset {α : Type} (x : α) (d : Nat) : Lean.RArray α → Nat → Lean.RArray α := Nat.rec (fun _ _ => .leaf x) (fun _ ih t k => Lean.RArray.rec (fun y => cond (Nat.beq (Nat.mod k 2) 0) (.branch 0 (ih (.leaf y) (Nat.div k 2)) (.leaf y)) (.branch 0 (.leaf y) (ih (.leaf y) (Nat.div k 2)))) (fun _ l r _ _ => cond (Nat.beq (Nat.mod k 2) 0) (.branch 0 (ih l (Nat.div k 2)) r) (.branch 0 l (ih r (Nat.div k 2)))) t) d
/-- the k-th of a list, or z -/
noncomputable def lget {α : Type} (z : α) (l : List α) : Nat → α := List.rec (fun _ => z) (fun a _ ih k => Nat.rec a (fun k _ => ih k) k) l
noncomputable def lset {α : Type} (x : α) (l : List α) : Nat → List α := List.rec (fun _ => []) (fun a t ih k => Nat.rec (x :: t) (fun k _ => a :: ih k) k) l
noncomputable def lrep {α : Type} (x : α) (n : Nat) : List α := Nat.rec [] (fun _ ih => x :: ih) n
noncomputable def xlook (l : xL) (k : Nat) (f : Nat → Int → xO) : xO := List.rec (f 99 0) (fun q _ ih => cond (Nat.beq q.1 k) (f q.2.1 q.2.2) ih) l
noncomputable def xforce {α : Type} (n : Nat) (f : Nat → α) : α := Nat.rec (f 0) (fun k _ => f (Nat.succ k)) n
noncomputable def xilt (a b : Int) : Bool := Int.rec (fun m => Int.rec (fun n => Nat.blt m n) (fun _ => false) b) (fun m => Int.rec (fun _ => true) (fun n => Nat.blt n m) b) a
noncomputable def xieq (a b : Int) : Bool := Int.rec (fun m => Int.rec (fun n => Nat.beq m n) (fun _ => false) b) (fun m => Int.rec (fun _ => false) (fun n => Nat.beq m n) b) a
noncomputable def xnat (a : Int) : Nat := Int.rec (fun m => m) (fun _ => 0) a

/-- 0 null, 1 ref, 2 int, 3 long, 4 double, 5 float, 9 none -/
noncomputable def xkind (t : Nat) : Nat := lget 9 [0, 1, 2, 3, 4, 2, 2, 3, 4, 4, 1, 5] t
noncomputable def xtwo (t : Nat) : Bool := lget false [false, false, false, true, true, false] (xkind t)
noncomputable def xkeep (k t : Nat) (q : Nat × xV) : Bool := cond (Nat.beq q.1 k) false (cond (cond (Nat.beq (Nat.succ q.1) k) (xtwo q.2.1) false) false (cond (cond (Nat.beq q.1 (Nat.succ k)) (xtwo t) false) false true))
noncomputable def xfilt (p : Nat × xV → Bool) (l : xL) : xL := List.rec [] (fun q _ ih => cond (p q) (q :: ih) ih) l

def xfail : xO := (4, 0, 0, 0, [], [], false, 0, .leaf (9, 0, []), 0, 0)
def xask (v : Nat) (c : Int) : xO := (5, v, c, 0, [], [], false, 0, .leaf (9, 0, []), 0, 0)
noncomputable def xlo (B : xB) (j : Nat) : Int × Int := lget (Int.negSucc 2147483647, Int.ofNat 2147483647) B.2.2 j
/-- an int by its number: of the script's it asks for a part -/
noncomputable def xneed (B : xB) (t : Nat) (z : Int) (k : Int → xO) : xO := cond (Nat.beq t 2) (k z) (cond (Nat.beq t 5) (xask (xnat z) ((xlo B (xnat z)).1 + 1)) xfail)
noncomputable def xin32 (z : Int) : Bool := cond (xilt z (Int.negSucc 2147483647)) false (xilt z (Int.ofNat 2147483648))
noncomputable def xin63 (z : Int) : Bool := cond (xilt z (Int.negSucc 9223372036854775807)) false (xilt z (Int.ofNat 9223372036854775808))
/-- bounds of an int: a number, or the script's -/
noncomputable def xbd (B : xB) (t : Nat) (z : Int) (k : Int → Int → xO) : xO := cond (Nat.beq t 2) (cond (xin32 z) (k z z) xfail) (cond (Nat.beq t 5) (Prod.rec (fun lo hi => k lo hi) (xlo B (xnat z))) xfail)
noncomputable def xsplit (t : Nat) (z : Int) (u : Nat) (w : Int) (a b : Int) : xO := cond (Nat.beq t 5) (xask (xnat z) a) (cond (Nat.beq u 5) (xask (xnat w) b) xfail)
noncomputable def xlt (B : xB) (t : Nat) (z : Int) (u : Nat) (w : Int) (y n : xO) : xO :=
  xbd B t z (fun a b => xbd B u w (fun c d => cond (xilt b c) y (cond (xilt a d) (xsplit t z u w c (b + 1)) n)))
noncomputable def xeq (B : xB) (t : Nat) (z : Int) (u : Nat) (w : Int) (y n : xO) : xO :=
  xbd B t z (fun a b => xbd B u w (fun c d => cond (xilt b c) n (cond (xilt d a) n (cond (xieq a b) (cond (xieq c d) y (xsplit t z u w c (cond (xilt c a) a (a + 1)))) (xsplit t z u w (cond (xilt a c) c (c + 1)) a)))))
noncomputable def xcond (c : ClassFile.Cond) (B : xB) (t : Nat) (z : Int) (u : Nat) (w : Int) (y n : xO) : xO :=
  ClassFile.Cond.rec (xeq B t z u w y n) (xeq B t z u w n y) (xlt B t z u w y n) (xlt B t z u w n y) (xlt B u w t z y n) (xlt B u w t z n y) c
/-- the stack's top, and below it -/
noncomputable def xpop (st : List xV) (k : Nat → Int → List xV → xO) : xO := List.rec xfail (fun v t _ => Prod.rec (fun a z => k a z t) v) st
/-- the cell at k -/
noncomputable def xcell (n : Nat) (t : xT) (k : Nat) (f : Nat → Nat → List xV → xO) : xO := cond (Nat.blt k n) (Prod.rec (fun a bl => Prod.rec (fun b l => f a b l) bl) (tget (9, 0, []) 10 t k)) xfail
noncomputable def xval (l : List xV) (k : Nat) (f : Nat → Int → xO) : xO := Prod.rec (fun a z => f a z) (lget (99, 0) l k)
/-- an object of class ci -/
noncomputable def xobj (n : Nat) (t : xT) (a : Nat) (z : Int) (ci : Nat) (f : List xV → xO) : xO := cond (Nat.beq a 1) (xcell n t (xnat z) (fun k c l => cond (Nat.beq k 0) (cond (Nat.beq c ci) (f l) xfail) xfail)) xfail
/-- an array of a type from lo to hi -/
noncomputable def xarr (n : Nat) (t : xT) (a : Nat) (z : Int) (lo hi : Nat) (f : Nat → List xV → xO) : xO := cond (Nat.beq a 1) (xcell n t (xnat z) (fun k c l => cond (Nat.beq k 1) (cond (Nat.ble lo c) (cond (Nat.ble c hi) (f c l) xfail) xfail) xfail)) xfail

noncomputable def hpush (a : Nat) (z : Int) : xH := fun _ _ _ _ len _ _ _ go pc ls st ex n t c d => go (pc + len) ls ((a, z) :: st) ex n t c d
noncomputable def hload (kd i : Nat) : xH := fun _ _ _ _ len _ _ _ go pc ls st ex n t c d => xlook ls i (fun a z => cond (Nat.beq (xkind a) kd) (go (pc + len) ls ((a, z) :: st) ex n t c d) xfail)
noncomputable def hloada (i : Nat) : xH := fun _ _ _ _ len _ _ _ go pc ls st ex n t c d => xlook ls i (fun a z => cond (Nat.ble (xkind a) 1) (go (pc + len) ls ((a, z) :: st) ex n t c d) xfail)
noncomputable def hstore (kd i : Nat) : xH := fun _ _ _ _ len _ _ _ go pc ls st ex n t c d => xpop st (fun a z st => cond (Nat.beq (xkind a) kd) (go (pc + len) ((i, a, z) :: xfilt (xkeep i a) ls) st ex n t c d) xfail)
noncomputable def hstorea (i : Nat) : xH := fun _ _ _ _ len _ _ _ go pc ls st ex n t c d => xpop st (fun a z st => cond (Nat.ble (xkind a) 1) (go (pc + len) ((i, a, z) :: xfilt (xkeep i a) ls) st ex n t c d) xfail)
noncomputable def hiinc (i : Nat) (k : Int) : xH := fun _ _ _ _ len _ _ _ go pc ls st ex n t c d => xlook ls i (fun a z => cond (Nat.beq a 2) (go (pc + len) ((i, 2, z + k) :: xfilt (xkeep i 2) ls) st ex n t c d) xfail)
noncomputable def hbin (f : Int → Int → Int) (ok : Int → Int → Bool) : xH := fun _ _ _ B len _ _ _ go pc ls st ex n t c d => xpop st (fun u w st => xpop st (fun a z st => xneed B a z (fun x => xneed B u w (fun y => cond (ok x y) (go (pc + len) ls ((2, f x y) :: st) ex n t c d) xfail))))
noncomputable def hand : xH := fun _ _ _ B len _ _ _ go pc ls st ex n t c d => xpop st (fun u w st => xpop st (fun a z st => cond (Nat.beq a 5) (cond (xieq z (Int.ofNat 0)) (cond (Nat.beq u 2) (cond (xieq w (Int.ofNat 31)) (go (pc + len) ls ((2, Int.ofNat B.1) :: st) ex n t c d) xfail) xfail) xfail) xfail))
noncomputable def hconv (f : Nat → Nat) (ok : Nat → Int → Bool) : xH := fun _ _ _ _ len _ _ _ go pc ls st ex n t c d => xpop st (fun a z st => cond (ok a z) (go (pc + len) ls ((f a, z) :: st) ex n t c d) xfail)
noncomputable def hlcmp : xH := fun _ _ _ _ len _ _ _ go pc ls st ex n t c d => xpop st (fun u w st => xpop st (fun a z st => cond (Nat.beq a 3) (cond (Nat.beq u 3) (cond (xin63 z) (cond (xin63 w) (go (pc + len) ls ((2, cond (xilt z w) (Int.negSucc 0) (cond (xieq z w) (Int.ofNat 0) (Int.ofNat 1))) :: st) ex n t c d) xfail) xfail) xfail) xfail))
noncomputable def hdup : xH := fun _ _ _ _ len _ _ _ go pc ls st ex n t c d => xpop st (fun a z st => cond (xtwo a) xfail (go (pc + len) ls ((a, z) :: (a, z) :: st) ex n t c d))
noncomputable def hpop : xH := fun _ _ _ _ len _ _ _ go pc ls st ex n t c d => xpop st (fun a _ st => cond (xtwo a) xfail (go (pc + len) ls st ex n t c d))
noncomputable def hif (k : ClassFile.Cond) : xH := fun _ _ _ B len x _ _ go pc ls st ex n t c d => xpop st (fun a z st => xcond k B a z 2 (Int.ofNat 0) (go x ls st ex n t c d) (go (pc + len) ls st ex n t c d))
noncomputable def hicmp (k : ClassFile.Cond) : xH := fun _ _ _ B len x _ _ go pc ls st ex n t c d => xpop st (fun u w st => xpop st (fun a z st => xcond k B a z u w (go x ls st ex n t c d) (go (pc + len) ls st ex n t c d)))
noncomputable def hgoto : xH := fun _ _ _ _ _ x _ _ go _ ls st ex n t c d => go x ls st ex n t c d
noncomputable def hnull (want : Bool) : xH := fun _ _ _ _ len x _ _ go pc ls st ex n t c d => xpop st (fun a _ st => cond (Nat.beq a 0) (cond want (go x ls st ex n t c d) (go (pc + len) ls st ex n t c d)) (cond (Nat.beq a 1) (cond want (go (pc + len) ls st ex n t c d) (go x ls st ex n t c d)) xfail))
noncomputable def hswitch (dflt lo hi : Int) (offs : List Int) : xH := fun _ _ _ _ _ _ _ _ go pc ls st ex n t c d => xpop st (fun a z st => cond (Nat.beq a 2) (cond (xin32 z) (cond (xilt z lo) (go (xnat (Int.ofNat pc + dflt)) ls st ex n t c d) (cond (xilt hi z) (go (xnat (Int.ofNat pc + dflt)) ls st ex n t c d) (go (xnat (Int.ofNat pc + lget 0 offs (xnat (z - lo)))) ls st ex n t c d))) xfail) xfail)
noncomputable def hget : xH := fun _ _ _ _ len ci k _ go pc ls st ex n t c d => xpop st (fun a z st => xobj n t a z ci (fun l => xval l k (fun u w => cond (Nat.beq u 99) xfail (go (pc + len) ls ((u, w) :: st) ex n t c d))))
/-- does a value fit a field's or an array's type: 0 int, 1 char, 2 boolean, 3 long, 4 double, 5 and on references -/
noncomputable def xfit (ty : Nat) (a : Nat) (z : Int) : Bool := cond (Nat.ble 5 ty) (Nat.ble a 1) (cond (Nat.beq ty 0) (Nat.beq (xkind a) 2) (cond (Nat.beq ty 1) (cond (Nat.beq a 2) (cond (xilt z (Int.ofNat 0)) false (xilt z (Int.ofNat 65536))) false) (cond (Nat.beq ty 2) (cond (Nat.beq a 2) (cond (xieq z (Int.ofNat 0)) true (xieq z (Int.ofNat 1))) false) (Nat.beq (xkind a) ty))))
noncomputable def hputf : xH := fun _ _ _ _ len ci k ty go pc ls st ex n t c d => xpop st (fun u w st => xpop st (fun a z st => xobj n t a z ci (fun l => xval l k (fun o _ => cond (Nat.beq o 99) xfail (cond (xfit ty u w) (go (pc + len) ls st ex n (tset (0, ci, lset (u, w) l k) 10 t (xnat z)) c d) xfail)))))
/-- a new cell -/
noncomputable def xnew (P : xQ) (len : Nat) (x : xC) (s : Nat) (go : xG) (pc : Nat) (ls : xL) (st : List xV) (ex : Bool) (n : Nat) (t : xT) (c d : Nat) : xO :=
  cond ex (cond (Nat.blt n 1024) (cond (Nat.blt c P.2.2.2.1) (cond (Nat.ble (d + s) P.2.2.2.2) (xforce (d + s) (fun d => go (pc + len) ls ((1, Int.ofNat n) :: st) true (Nat.succ n) (tset x 10 t n) (Nat.succ c) d)) xfail) xfail) xfail) xfail
noncomputable def xdflt (ty : Nat) : xV := lget (0, Int.ofNat 0) [(2, Int.ofNat 0), (2, Int.ofNat 0), (2, Int.ofNat 0), (3, Int.ofNat 0), (4, Int.ofNat 0)] ty
noncomputable def hnewa : xH := fun _ _ P B len ty _ _ go pc ls st ex n t c d => xpop st (fun a z st => xneed B a z (fun x => cond (xilt x (Int.ofNat 0)) xfail (cond (xilt x (Int.ofNat 100000)) (xnew P len (1, ty, lrep (xdflt ty) (xnat x)) (xnat x) go pc ls st ex n t c d) xfail)))
noncomputable def halen : xH := fun _ _ _ B len _ _ _ go pc ls st ex n t c d => xpop st (fun a z st => cond (Nat.beq a 10) (go (pc + len) ls ((2, Int.ofNat B.2.1) :: st) ex n t c d) (xarr n t a z 0 10 (fun _ l => go (pc + len) ls ((2, Int.ofNat l.length) :: st) ex n t c d)))
/-- the kind of what an array of the instruction's types gives -/
noncomputable def xkd (lo o : Nat) : Bool := cond (Nat.ble 5 lo) (Nat.ble o 1) (cond (Nat.beq lo 3) (Nat.beq (xkind o) 3) (Nat.beq (xkind o) 2))
/-- an index -/
noncomputable def xidx (x : Int) (k : xO) : xO := cond (xilt x (Int.ofNat 0)) xfail (cond (xilt x (Int.ofNat 2147483648)) k xfail)
/-- from an array: its type must be one of the instruction's -/
noncomputable def hald (lo hi : Nat) : xH := fun _ _ _ B len _ _ _ go pc ls st ex n t c d => xpop st (fun u w st => xpop st (fun a z st => xneed B u w (fun x => xidx x
  (cond (Nat.beq a 10) (cond (Nat.beq lo 0) (cond (Nat.blt (xnat x) B.2.1) (Prod.rec (fun p q => cond (xieq p q) (go (pc + len) ls ((2, p) :: st) ex n t c d) (go (pc + len) ls ((5, x) :: st) ex n t c d)) (xlo B (xnat x))) xfail) xfail)
    (xarr n t a z lo hi (fun _ l => xval l (xnat x) (fun o y => cond (xkd lo o) (go (pc + len) ls ((o, y) :: st) ex n t c d) xfail)))))))
/-- the class of what an array of references holds -/
noncomputable def xelem (ty : Nat) : Nat := lget 99 [99, 99, 99, 99, 99, 6, 5, 1, 0, 9, 8] ty
noncomputable def hast (lo hi : Nat) : xH := fun _ _ _ B len _ _ _ go pc ls st ex n t c d => xpop st (fun u w st => xpop st (fun v x st => xpop st (fun a z st => xneed B v x (fun x => xidx x
  (xarr n t a z lo hi (fun ty l => xval l (xnat x) (fun o _ => cond (Nat.beq o 99) xfail (cond (xfit ty u w)
    (cond (Nat.ble 5 lo) (xobj n t u w (xelem ty) (fun _ => go (pc + len) ls st ex n (tset (1, ty, lset (u, w) l (xnat x)) 10 t (xnat z)) c d)) (go (pc + len) ls st ex n (tset (1, ty, lset (u, w) l (xnat x)) 10 t (xnat z)) c d)) xfail))))))))
noncomputable def xsum (st : List xV) : Nat := List.rec 0 (fun v _ ih => Nat.add (cond (xtwo v.1) 2 1) ih) st
/-- a return: 0 none, 1 int, 4 long, 5 double, 6 reference, 7 float -/
noncomputable def hret (k : Nat) : xH := fun _ _ P _ _ _ _ _ _ pc ls st ex n t c d => cond (Nat.ble c P.2.2.2.1) (cond (Nat.ble d P.2.2.2.2) (1, k, 0, pc, ls, st, ex, n, t, c, d) xfail) xfail
/-- does the stack hold nothing but an answer of this kind: 0 none, 1 int, 2 char, 3 boolean, 4 long, 5 double, 6 reference, 7 float -/
noncomputable def xans (r : Nat) (st : List xV) : Bool := List.rec (Nat.beq r 0) (fun v t _ => Prod.rec (fun a z => List.rec (lget false [false, Nat.beq (xkind a) 2, xfit 1 a z, xfit 2 a z, xfit 3 a z, xfit 4 a z, Nat.ble a 1, Nat.beq a 11] r) (fun _ _ _ => false) t) v) st
noncomputable def xtake (n : Nat) : List xV → List xV → (List xV → List xV → xO) → xO := Nat.rec (fun acc st k => k acc st) (fun _ ih acc st k => List.rec xfail (fun v t _ => ih (v :: acc) t k) st) n
/-- the row of the table that takes class E at pc; a row of another class is passed only by what the tables say isn't of it -/
noncomputable def xtab (h : List (Nat × Nat × Nat × Nat × Nat)) (E pc : Nat) (k : Nat → Nat → xO) : xO := List.rec xfail (fun r _ ih => cond (Nat.ble r.1 pc) (cond (Nat.blt pc r.2.1) (cond (Nat.beq r.2.2.1 E) (k r.2.2.2.1 r.2.2.2.2) (cond (Nat.beq r.2.2.1 4) (cond (Nat.beq E 2) ih (cond (Nat.beq E 3) ih xfail)) xfail)) ih) ih) h
/-- the return's kind of an answer's -/
noncomputable def xrd (k : Nat) : Nat := cond (Nat.beq k 2) 1 (cond (Nat.beq k 3) 1 k)
/-- behind a call of P9 -/
noncomputable def xback (P P9 : xQ) (r : xO) (go : xG) (pc : Nat) (ls : xL) (st : List xV) (c d : Nat) : xO :=
  Prod.rec (fun k r => Prod.rec (fun v r => Prod.rec (fun y s => Prod.rec (fun _ s => Prod.rec (fun _ s => Prod.rec (fun st9 s => Prod.rec (fun ex s => Prod.rec (fun n s => Prod.rec (fun t _ =>
    cond (Nat.beq k 1) (cond (xans P9.2.2.1 st9) (cond (Nat.beq v (xrd P9.2.2.1)) (go (pc + 3) ls (st9 ++ st) ex n t c d) xfail) xfail)
      (cond (Nat.ble k 3) (List.rec (List.rec (3, v, 0, pc, ls, st, false, n, t, c, d) (fun _ _ _ => xtab P.1 v pc (fun i pc => go pc (xfilt (fun q => xkeep i 1 q) ls) [] false n t c d)) P.1) (fun _ _ _ => xfail) P9.1)
        (cond (Nat.beq k 5) (xask v y) xfail))) s) s) s) s) s) s) r) r) r
/-- instance methods: y 0 virtual (the receiver's class z), 1 a constructor -/
noncomputable def xroom (P P9 : xQ) (st : List xV) (c d : Nat) (k : Nat → Nat → xO) : xO := cond (Nat.ble (xsum st) 8) (xforce (c + P9.2.2.2.1) (fun c => cond (Nat.ble c P.2.2.2.1) (xforce (d + P9.2.2.2.2) (fun d => cond (Nat.ble d P.2.2.2.2) (k c d) xfail)) xfail)) xfail
noncomputable def hcalls : xH := fun call meths P _ _ i _ _ go pc ls st ex n t c d => xtake (meths i).2.1 [] st (fun as st => xroom P (meths i) st c d (fun c d => xback P (meths i) (call i as ex n t) go pc ls st c d))
noncomputable def hcallv : xH := fun call meths P _ _ i y ci go pc ls st ex n t c d => xtake (meths i).2.1 [] st (fun as st => xpop st (fun a z st => xroom P (meths i) st c d (fun c d =>
  cond (Nat.beq y 0) (xobj n t a z ci (fun _ => xback P (meths i) (call i ((a, z) :: as) ex n t) go pc ls st c d)) (cond (Nat.beq a 1) (xback P (meths i) (call i ((a, z) :: as) ex n t) go pc ls st c d) xfail))))
noncomputable def hspec : xH := fun call meths P B len i y ci go pc ls st ex n t c d => cond (Nat.beq y 9) (xpop st (fun a _ st => cond (Nat.beq a 1) (cond (Nat.ble (xsum st) 8) (go (pc + len) ls st ex n t c d) xfail) xfail)) (hcallv call meths P B len i y ci go pc ls st ex n t c d)
/-- a new object's fields -/
noncomputable def xnews (ci : Nat) : List xV := lget [] [
  [(0,Int.ofNat 0),(2,Int.ofNat 0),(3,Int.ofNat 0),(2,Int.ofNat 0),(2,Int.ofNat 0),(2,Int.ofNat 0),(0,Int.ofNat 0)],
  [(2,Int.ofNat 0),(2,Int.ofNat 0),(0,Int.ofNat 0),(0,Int.ofNat 0),(2,Int.ofNat 0),(2,Int.ofNat 0),(2,Int.ofNat 0),(2,Int.ofNat 0),(2,Int.ofNat 0)],
  [(0,Int.ofNat 0),(0,Int.ofNat 0),(0,Int.ofNat 0),(2,Int.ofNat 0),(2,Int.ofNat 0),(2,Int.ofNat 0)],
  [(0,Int.ofNat 0),(0,Int.ofNat 0),(2,Int.ofNat 0),(0,Int.ofNat 0),(2,Int.ofNat 0),(3,Int.ofNat 0),(0,Int.ofNat 0),(2,Int.ofNat 0),(3,Int.ofNat 0),(2,Int.ofNat 0),(0,Int.ofNat 0),(0,Int.ofNat 0),(0,Int.ofNat 0),(2,Int.ofNat 0),(0,Int.ofNat 0),(2,Int.ofNat 0)],
  [(0,Int.ofNat 0),(0,Int.ofNat 0),(2,Int.ofNat 0)],
  [(2,Int.ofNat 0),(2,Int.ofNat 0),(0,Int.ofNat 0),(2,Int.ofNat 0),(2,Int.ofNat 0),(2,Int.ofNat 0)],
  [(2,Int.ofNat 0),(4,Int.ofNat 0),(2,Int.ofNat 0),(3,Int.ofNat 0),(2,Int.ofNat 0),(0,Int.ofNat 0)],
  [(0,Int.ofNat 0),(0,Int.ofNat 0),(0,Int.ofNat 0)],
  [(2,Int.ofNat 0),(2,Int.ofNat 0),(2,Int.ofNat 0),(2,Int.ofNat 0),(0,Int.ofNat 0),(0,Int.ofNat 0)],
  [(2,Int.ofNat 0),(4,Int.ofNat 0),(3,Int.ofNat 0),(2,Int.ofNat 0)],
  [(2,Int.ofNat 0),(2,Int.ofNat 0),(0,Int.ofNat 0),(0,Int.ofNat 0),(0,Int.ofNat 0),(0,Int.ofNat 0),(0,Int.ofNat 0),(0,Int.ofNat 0),(0,Int.ofNat 0),(0,Int.ofNat 0),(0,Int.ofNat 0),(0,Int.ofNat 0),(0,Int.ofNat 0),(2,Int.ofNat 0),(2,Int.ofNat 0),(0,Int.ofNat 0),(0,Int.ofNat 0),(0,Int.ofNat 0),(0,Int.ofNat 0),(3,Int.ofNat 0),(2,Int.ofNat 0),(2,Int.ofNat 0),(0,Int.ofNat 0),(2,Int.ofNat 0),(2,Int.ofNat 0),(0,Int.ofNat 0),(0,Int.ofNat 0),(2,Int.ofNat 0),(2,Int.ofNat 0),(0,Int.ofNat 0),(2,Int.ofNat 0)]] ci
noncomputable def hnew : xH := fun _ _ P _ len ci N z go pc ls st ex n t c d => cond (Nat.beq z 1) (cond (Nat.ble (xsum st) 8) (cond (Nat.blt c P.2.2.2.1) (cond (Nat.ble (d + 6) P.2.2.2.2) (2, ci, 0, pc, ls, st, ex, n, t, c, d) xfail) xfail) xfail) (xnew P len (0, ci, xnews ci) N go pc ls st ex n t c d)
noncomputable def hbad : xH := fun _ _ _ _ _ _ _ _ _ _ _ _ _ _ _ _ _ => xfail
noncomputable def xin31 (a b : Int) : Bool := cond (xilt a (Int.ofNat 0)) false (cond (xilt a (Int.ofNat 2147483648)) (cond (xilt (Int.ofNat 0) b) (xilt b (Int.ofNat 2147483648)) false) false)

noncomputable def xhand (i : Instr) : xH := match i with
  | .aconst_null => hpush 0 (Int.ofNat 0)
  | .iconst n => hpush 2 n
  | .bipush n => hpush 2 n
  | .sipush n => hpush 2 n
  | .lconst n => hpush 3 (Int.ofNat n.val)
  | .dconst n => hpush 4 (Int.ofNat n.val)
  | .fconst n => cond (Nat.beq n.val 0) (hpush 11 (Int.ofNat 0)) hbad
  | .iload_n k => hload 2 k.val
  | .iload k => hload 2 k
  | .lload_n k => hload 3 k.val
  | .lload k => hload 3 k
  | .dload_n k => hload 4 k.val
  | .dload k => hload 4 k
  | .aload_n k => hloada k.val
  | .aload k => hloada k
  | .istore_n k => hstore 2 k.val
  | .istore k => hstore 2 k
  | .lstore_n k => hstore 3 k.val
  | .lstore k => hstore 3 k
  | .dstore_n k => hstore 4 k.val
  | .dstore k => hstore 4 k
  | .fstore_n k => hstore 5 k.val
  | .fstore k => hstore 5 k
  | .astore_n k => hstorea k.val
  | .astore k => hstorea k
  | .iinc k n => hiinc k n
  | .iadd => hbin (fun a b => a + b) (fun _ _ => true)
  | .isub => hbin (fun a b => a - b) (fun _ _ => true)
  | .imul => hbin (fun a b => a * b) (fun _ _ => true)
  | .idiv => hbin (fun a b => a / b) xin31
  | .iand => hand
  | .i2l => hconv (fun a => cond (Nat.beq a 2) 3 7) (fun a z => cond (Nat.beq a 2) (xin32 z) (Nat.beq a 5))
  | .l2i => hconv (fun _ => 2) (fun a _ => Nat.beq a 3)
  | .i2c => hconv (fun _ => 6) (fun a _ => Nat.beq a 5)
  | .i2d => hconv (fun _ => 8) (fun a _ => Nat.beq a 5)
  | .l2d => hconv (fun _ => 9) (fun a _ => Nat.beq a 7)
  | .lcmp => hlcmp
  | .dup => hdup
  | .pop => hpop
  | .ifCond c _ => hif c
  | .if_icmp c _ => hicmp c
  | .goto _ => hgoto
  | .ifnull _ => hnull true
  | .ifnonnull _ => hnull false
  | .tableswitch d lo hi offs => hswitch d lo hi offs.toList
  | .getfield _ => hget
  | .putfield _ => hputf
  | .new _ => hnew
  | .newarray _ => hnewa
  | .anewarray _ => hnewa
  | .arraylength => halen
  | .iaload => hald 0 0
  | .baload => hald 2 2
  | .laload => hald 3 3
  | .aaload => hald 5 10
  | .iastore => hast 0 0
  | .bastore => hast 2 2
  | .lastore => hast 3 3
  | .aastore => hast 5 10
  | .invokestatic _ => hcalls
  | .invokevirtual _ => hcallv
  | .invokespecial _ => hspec
  | .ireturn => hret 1
  | .lreturn => hret 4
  | .dreturn => hret 5
  | .freturn => hret 7
  | .areturn => hret 6
  | .return_ => hret 0
  | _ => hbad

noncomputable def xdo (e : xEn) (f : xH → Nat → Nat → Nat → Nat → Nat → xO) : xO := Prod.rec (fun i e => Prod.rec (fun p e => Prod.rec (fun a e => Prod.rec (fun b e => Prod.rec (fun c d => f i p a b c d) e) e) e) e) e
noncomputable def xno : xEn := (hbad, 0, 0, 0, 0, 0)
noncomputable def xstep (call : xA) (info : Nat → xQ) (P : xP) (B : xB) (go : xG) : xG := fun pc ls st ex n t c d => xforce pc (fun pc => xdo (tget xno P.1.1.1 P.1.2 pc) (fun h q len x y z => cond (Nat.beq pc q) (h call info P.2 B len x y z go pc ls st ex n t c d) xfail))
noncomputable def xloop (call : xA) (info : Nat → xQ) (P : xP) (B : xB) (n : Nat) : xG := Nat.rec (fun _ _ _ _ _ _ _ _ => xfail) (fun _ ih => xstep call info P B ih) n
noncomputable def xargs (as : List xV) : Nat → xL := List.rec (fun _ => []) (fun v _ ih i => (i, v) :: ih (Nat.add i (cond (xtwo v.1) 2 1))) as
noncomputable def xcall (meths : Nat → xP) (B : xB) (fuel d : Nat) : xA := Nat.rec (fun _ _ _ _ _ => xfail) (fun _ ih i as ex n t => cond (Nat.ble (xsum as) (meths i).1.1.2) (xloop ih (fun j => (meths j).2) (meths i) B fuel 0 (xargs as 0) [] ex n t 0 0) xfail) d
end
section
noncomputable def xz : Lean.RArray xEn := .leaf xno
noncomputable def xc0 : Lean.RArray xEn := .branch 0 (.branch 0 (.branch 0 (.branch 0 (.branch 0 (.branch 0 (.leaf (hloada 0, 0, 1, 0, 0, 0)) xz) (.branch 0 (.leaf (hloada 0, 16, 1, 0, 0, 0)) xz)) (.branch 0 (.branch 0 (.leaf (hdup, 8, 1, 0, 0, 0)) xz) xz)) (.branch 0 (.branch 0 (.branch 0 (.leaf (hloada 0, 4, 1, 0, 0, 0)) xz) (.branch 0 (.leaf (hget, 20, 3, 3, 0, 5)) xz)) (.branch 0 (.branch 0 (.leaf (hputf, 12, 3, 7, 0, 5)) xz) xz))) (.branch 0 (.branch 0 (.branch 0 (.branch 0 xz (.leaf (hputf, 34, 3, 7, 2, 5))) xz) (.branch 0 xz (.branch 0 (.leaf (hloada 0, 26, 1, 0, 0, 0)) xz))) (.branch 0 xz (.branch 0 xz (.branch 0 (.leaf (hdup, 30, 1, 0, 0, 0)) xz))))) (.branch 0 (.branch 0 (.branch 0 (.branch 0 (.branch 0 (.leaf (hspec, 1, 3, 0, 9, 0)) xz) (.branch 0 (.leaf (hget, 17, 3, 7, 0, 5)) xz)) (.branch 0 (.branch 0 (.leaf (hspec, 9, 3, 1, 1, 0)) xz) xz)) (.branch 0 (.branch 0 (.branch 0 (.leaf (hnew, 5, 3, 3, 16, 0)) (.leaf (hret 0, 37, 1, 0, 0, 0))) xz) xz)) (.branch 0 (.branch 0 xz (.branch 0 xz (.branch 0 (.leaf (hnew, 27, 3, 6, 6, 0)) xz))) (.branch 0 (.branch 0 xz (.branch 0 (.leaf (hputf, 23, 3, 7, 1, 5)) xz)) (.branch 0 (.branch 0 (.leaf (hloada 0, 15, 1, 0, 0, 0)) xz) (.branch 0 (.leaf (hspec, 31, 3, 3, 1, 0)) xz)))))
noncomputable def xp0 : xP := (((6, 1), xc0), [], 0, 0, 853, 5802)
noncomputable def xc1 : Lean.RArray xEn := .branch 0 (.branch 0 (.branch 0 (.branch 0 (.branch 0 (.branch 0 (.branch 0 (.branch 0 (.leaf (hloada 0, 0, 1, 0, 0, 0)) (.leaf (hload 2 2, 128, 1, 0, 0, 0))) xz) (.branch 0 xz (.branch 0 (.leaf (hicmp .ge, 96, 3, 118, 0, 0)) xz))) (.branch 0 (.branch 0 (.branch 0 (.leaf (hpush 2 (Int.ofNat 9), 16, 2, 0, 0, 0)) (.leaf (hspec, 144, 3, 9, 1, 0))) (.branch 0 (.leaf (hputf, 80, 3, 3, 12, 5)) xz)) (.branch 0 xz (.branch 0 (.leaf (hiinc 1 (Int.ofNat 1), 112, 3, 0, 0, 0)) xz)))) (.branch 0 (.branch 0 (.branch 0 (.branch 0 (.leaf (hdup, 8, 1, 0, 0, 0)) xz) (.branch 0 (.leaf (hloada 0, 72, 1, 0, 0, 0)) xz)) (.branch 0 xz (.branch 0 (.leaf (hnew, 104, 3, 1, 9, 0)) xz))) (.branch 0 (.branch 0 (.branch 0 (.leaf (hloada 0, 24, 1, 0, 0, 0)) xz) (.branch 0 (.leaf (hputf, 88, 3, 3, 14, 5)) xz)) xz))) (.branch 0 (.branch 0 (.branch 0 (.branch 0 (.branch 0 (.leaf (hloada 0, 4, 1, 0, 0, 0)) xz) xz) (.branch 0 xz (.branch 0 (.leaf (hget, 100, 3, 3, 1, 5)) xz))) (.branch 0 (.branch 0 (.branch 0 xz (.leaf (hiinc 2 (Int.ofNat 1), 148, 3, 0, 0, 0))) (.branch 0 (.leaf (hpush 2 (Int.ofNat 24), 84, 2, 0, 0, 0)) xz)) xz)) (.branch 0 (.branch 0 (.branch 0 (.branch 0 (.leaf (hputf, 12, 3, 3, 0, 5)) xz) (.branch 0 (.leaf (hdup, 76, 1, 0, 0, 0)) xz)) (.branch 0 (.branch 0 (.leaf (hloada 0, 44, 1, 0, 0, 0)) xz) (.branch 0 (.leaf (hspec, 108, 3, 8, 1, 0)) xz))) (.branch 0 (.branch 0 xz (.branch 0 (.leaf (hstore 2 1, 92, 1, 0, 0, 0)) xz)) xz)))) (.branch 0 (.branch 0 (.branch 0 (.branch 0 (.branch 0 xz (.branch 0 (.leaf (hspec, 66, 3, 3, 1, 0)) xz)) (.branch 0 (.branch 0 (.leaf (hnew, 34, 3, 4, 3, 0)) xz) xz)) (.branch 0 (.branch 0 (.branch 0 (.leaf (hnewa, 18, 3, 7, 0, 0)) xz) xz) (.branch 0 (.branch 0 (.leaf (hloada 0, 50, 1, 0, 0, 0)) xz) xz))) (.branch 0 (.branch 0 (.branch 0 (.branch 0 xz (.leaf (hload 2 2, 138, 1, 0, 0, 0))) xz) xz) (.branch 0 (.branch 0 (.branch 0 xz (.leaf (hret 0, 154, 1, 0, 0, 0))) xz) (.branch 0 (.branch 0 (.leaf (hputf, 58, 3, 3, 10, 5)) xz) (.branch 0 (.leaf (hspec, 122, 3, 8, 1, 0)) xz))))) (.branch 0 (.branch 0 (.branch 0 (.branch 0 (.branch 0 xz (.leaf (hloada 0, 134, 1, 0, 0, 0))) xz) (.branch 0 (.branch 0 (.leaf (hspec, 38, 3, 7, 1, 0)) xz) xz)) (.branch 0 (.branch 0 xz (.branch 0 (.leaf (hnewa, 86, 2, 0, 0, 0)) xz)) (.branch 0 (.branch 0 (.leaf (hdup, 54, 1, 0, 0, 0)) xz) (.branch 0 (.leaf (hnew, 118, 3, 1, 9, 0)) xz)))) (.branch 0 (.branch 0 (.branch 0 (.branch 0 xz (.leaf (hdup, 142, 1, 0, 0, 0))) xz) xz) (.branch 0 (.branch 0 (.branch 0 (.leaf (hputf, 30, 3, 3, 3, 5)) xz) (.branch 0 (.leaf (hpush 2 (Int.ofNat 9), 94, 2, 0, 0, 0)) xz)) (.branch 0 (.branch 0 (.leaf (hnew, 62, 3, 6, 6, 0)) xz) (.branch 0 (.leaf (hpush 2 (Int.ofNat 0), 126, 1, 0, 0, 0)) xz))))))) (.branch 0 (.branch 0 (.branch 0 (.branch 0 (.branch 0 (.branch 0 (.branch 0 (.leaf (hspec, 1, 3, 0, 9, 0)) (.leaf (hpush 2 (Int.ofNat 12), 129, 2, 0, 0, 0))) (.branch 0 (.leaf (hdup, 65, 1, 0, 0, 0)) xz)) (.branch 0 (.branch 0 (.leaf (hloada 0, 33, 1, 0, 0, 0)) xz) xz)) xz) (.branch 0 (.branch 0 (.branch 0 (.branch 0 (.leaf (hspec, 9, 3, 2, 1, 0)) xz) (.branch 0 (.leaf (hnew, 73, 3, 6, 6, 0)) xz)) (.branch 0 (.branch 0 (.leaf (hputf, 41, 3, 3, 6, 5)) xz) xz)) (.branch 0 (.branch 0 (.branch 0 (.leaf (hpush 2 (Int.ofNat 12), 25, 2, 0, 0, 0)) xz) xz) (.branch 0 xz (.branch 0 (.leaf (hdup, 121, 1, 0, 0, 0)) xz))))) (.branch 0 (.branch 0 (.branch 0 (.branch 0 (.branch 0 (.leaf (hnew, 5, 3, 2, 6, 0)) xz) (.branch 0 (.leaf (hputf, 69, 3, 3, 11, 5)) xz)) (.branch 0 (.branch 0 (.leaf (hdup, 37, 1, 0, 0, 0)) xz) xz)) (.branch 0 (.branch 0 (.branch 0 (.leaf (hputf, 21, 3, 3, 1, 5)) xz) xz) xz)) (.branch 0 (.branch 0 (.branch 0 xz (.branch 0 (.leaf (hspec, 77, 3, 3, 1, 0)) xz)) (.branch 0 (.branch 0 (.leaf (hpush 2 (Int.ofNat 45), 45, 2, 0, 0, 0)) xz) xz)) (.branch 0 (.branch 0 xz (.branch 0 (.leaf (hload 2 1, 93, 1, 0, 0, 0)) xz)) (.branch 0 (.branch 0 (.leaf (hloada 0, 61, 1, 0, 0, 0)) xz) (.branch 0 (.leaf (hstorea 1, 125, 1, 0, 0, 0)) xz)))))) (.branch 0 (.branch 0 (.branch 0 (.branch 0 (.branch 0 (.branch 0 xz (.leaf (hicmp .ge, 131, 3, 154, 0, 0))) xz) (.branch 0 xz (.branch 0 (.leaf (hloada 0, 99, 1, 0, 0, 0)) xz))) (.branch 0 (.branch 0 (.branch 0 xz (.leaf (hast 5 10, 147, 1, 0, 0, 0))) (.branch 0 (.leaf (hloada 0, 83, 1, 0, 0, 0)) xz)) (.branch 0 (.branch 0 (.leaf (hnew, 51, 3, 6, 6, 0)) xz) (.branch 0 (.leaf (hgoto, 115, 3, 93, 0, 0)) xz)))) (.branch 0 (.branch 0 (.branch 0 (.branch 0 xz (.leaf (hnew, 139, 3, 0, 7, 0))) xz) (.branch 0 xz (.branch 0 (.leaf (hdup, 107, 1, 0, 0, 0)) xz))) (.branch 0 (.branch 0 (.branch 0 (.leaf (hnewa, 27, 3, 8, 0, 0)) xz) (.branch 0 (.leaf (hpush 2 (Int.ofNat 0), 91, 1, 0, 0, 0)) xz)) xz))) (.branch 0 (.branch 0 (.branch 0 (.branch 0 (.branch 0 xz (.leaf (hget, 135, 3, 3, 3, 5))) xz) (.branch 0 xz (.branch 0 (.leaf (hload 2 1, 103, 1, 0, 0, 0)) xz))) (.branch 0 (.branch 0 (.branch 0 xz (.leaf (hgoto, 151, 3, 128, 0, 0))) xz) (.branch 0 (.branch 0 (.leaf (hspec, 55, 3, 3, 1, 0)) xz) xz))) (.branch 0 (.branch 0 (.branch 0 (.branch 0 (.leaf (hloada 0, 15, 1, 0, 0, 0)) (.leaf (hloada 1, 143, 1, 0, 0, 0))) xz) (.branch 0 (.branch 0 (.leaf (hputf, 47, 3, 3, 9, 1)) xz) (.branch 0 (.leaf (hast 5 10, 111, 1, 0, 0, 0)) xz))) (.branch 0 xz (.branch 0 xz (.branch 0 (.leaf (hstore 2 2, 127, 1, 0, 0, 0)) xz)))))))
noncomputable def xp1 : xP := (((8, 3), xc1), [], 0, 0, 851, 5780)
noncomputable def xc2 : Lean.RArray xEn := .branch 0 (.branch 0 (.branch 0 (.branch 0 (.branch 0 (.branch 0 (.branch 0 (.leaf (hloada 0, 0, 1, 0, 0, 0)) xz) (.branch 0 (.leaf (hstore 2 1, 32, 1, 0, 0, 0)) xz)) (.branch 0 (.branch 0 (.leaf (hnewa, 16, 3, 6, 0, 0)) xz) (.branch 0 (.leaf (hspec, 48, 3, 3, 1, 0)) xz))) (.branch 0 (.branch 0 xz (.branch 0 (.leaf (hget, 40, 3, 2, 0, 5)) xz)) (.branch 0 xz (.branch 0 (.leaf (hload 2 1, 56, 1, 0, 0, 0)) xz)))) (.branch 0 (.branch 0 (.branch 0 (.branch 0 (.leaf (hloada 0, 4, 1, 0, 0, 0)) (.leaf (hiinc 1 (Int.ofNat 1), 68, 3, 0, 0, 0))) (.branch 0 (.leaf (hicmp .ge, 36, 3, 74, 0, 0)) xz)) (.branch 0 xz (.branch 0 (.leaf (hloada 0, 52, 1, 0, 0, 0)) xz))) (.branch 0 (.branch 0 (.branch 0 xz (.leaf (hload 2 1, 76, 1, 0, 0, 0))) (.branch 0 (.leaf (hnew, 44, 3, 6, 6, 0)) xz)) (.branch 0 (.branch 0 (.leaf (hputf, 28, 3, 2, 2, 5)) xz) xz)))) (.branch 0 (.branch 0 (.branch 0 (.branch 0 xz (.branch 0 (.leaf (hpush 2 (Int.ofNat 24), 34, 2, 0, 0, 0)) (.leaf (hgoto, 98, 3, 76, 0, 0)))) (.branch 0 (.branch 0 xz (.leaf (hloada 0, 82, 1, 0, 0, 0))) xz)) (.branch 0 (.branch 0 (.branch 0 (.leaf (hputf, 10, 3, 2, 0, 5)) (.leaf (hpush 2 (Int.ofNat 0), 74, 1, 0, 0, 0))) xz) (.branch 0 (.branch 0 xz (.leaf (hdup, 90, 1, 0, 0, 0))) (.branch 0 (.leaf (hload 2 1, 58, 1, 0, 0, 0)) xz)))) (.branch 0 (.branch 0 xz (.branch 0 (.branch 0 (.leaf (hloada 0, 22, 1, 0, 0, 0)) (.leaf (hload 2 1, 86, 1, 0, 0, 0))) xz)) (.branch 0 (.branch 0 (.branch 0 (.leaf (hpush 2 (Int.ofNat 60), 14, 2, 0, 0, 0)) xz) xz) (.branch 0 (.branch 0 xz (.leaf (hast 5 10, 94, 1, 0, 0, 0))) (.branch 0 (.leaf (hcalls, 62, 3, 4, 0, 0)) xz)))))) (.branch 0 (.branch 0 (.branch 0 (.branch 0 (.branch 0 (.branch 0 (.leaf (hspec, 1, 3, 0, 9, 0)) (.leaf (hcallv, 65, 3, 5, 0, 6))) (.branch 0 (.leaf (hload 2 1, 33, 1, 0, 0, 0)) xz)) xz) (.branch 0 xz (.branch 0 (.branch 0 (.leaf (hnewa, 25, 3, 6, 0, 0)) xz) (.branch 0 (.leaf (hald 5 10, 57, 1, 0, 0, 0)) xz)))) (.branch 0 (.branch 0 (.branch 0 (.branch 0 (.leaf (hpush 2 (Int.ofNat 24), 5, 2, 0, 0, 0)) xz) (.branch 0 xz (.leaf (hret 0, 101, 1, 0, 0, 0)))) (.branch 0 xz (.branch 0 (.leaf (hget, 53, 3, 2, 0, 5)) xz))) (.branch 0 (.branch 0 (.branch 0 (.leaf (hloada 0, 13, 1, 0, 0, 0)) (.leaf (hpush 2 (Int.ofNat 60), 77, 2, 0, 0, 0))) xz) (.branch 0 xz (.branch 0 (.leaf (hbin (fun a b => a / b) xin31, 61, 1, 0, 0, 0)) xz))))) (.branch 0 (.branch 0 (.branch 0 xz (.branch 0 (.branch 0 (.leaf (hputf, 19, 3, 2, 1, 5)) (.leaf (hget, 83, 3, 2, 1, 5))) (.branch 0 (.leaf (hast 5 10, 51, 1, 0, 0, 0)) xz))) (.branch 0 (.branch 0 (.branch 0 xz (.leaf (hstore 2 1, 75, 1, 0, 0, 0))) (.branch 0 (.leaf (hload 2 1, 43, 1, 0, 0, 0)) xz)) (.branch 0 (.branch 0 xz (.leaf (hspec, 91, 3, 6, 1, 0))) (.branch 0 (.leaf (hpush 2 (Int.ofNat 8), 59, 2, 0, 0, 0)) xz)))) (.branch 0 (.branch 0 (.branch 0 (.branch 0 (.leaf (hnewa, 7, 3, 5, 0, 0)) (.leaf (hgoto, 71, 3, 33, 0, 0))) (.branch 0 (.leaf (hloada 0, 39, 1, 0, 0, 0)) xz)) (.branch 0 (.branch 0 (.leaf (hpush 2 (Int.ofNat 60), 23, 2, 0, 0, 0)) (.leaf (hnew, 87, 3, 5, 6, 0))) xz)) (.branch 0 (.branch 0 (.branch 0 xz (.leaf (hicmp .ge, 79, 3, 101, 0, 0))) (.branch 0 (.leaf (hdup, 47, 1, 0, 0, 0)) xz)) (.branch 0 (.branch 0 (.leaf (hpush 2 (Int.ofNat 0), 31, 1, 0, 0, 0)) (.leaf (hiinc 1 (Int.ofNat 1), 95, 3, 0, 0, 0))) xz)))))
noncomputable def xp2 : xP := (((7, 2), xc2), [], 0, 0, 327, 1908)
noncomputable def xc3 : Lean.RArray xEn := .branch 0 (.branch 0 (.branch 0 (.branch 0 (.leaf (hloada 0, 0, 1, 0, 0, 0)) xz) (.branch 0 (.leaf (hloada 0, 4, 1, 0, 0, 0)) xz)) (.branch 0 (.branch 0 xz (.leaf (hret 0, 10, 1, 0, 0, 0))) xz)) (.branch 0 (.branch 0 (.branch 0 (.leaf (hspec, 1, 3, 0, 9, 0)) xz) (.branch 0 (.leaf (hpush 2 (Int.ofNat 110), 5, 2, 0, 0, 0)) xz)) (.branch 0 xz (.branch 0 (.leaf (hputf, 7, 3, 6, 0, 1)) xz)))
noncomputable def xp3 : xP := (((4, 1), xc3), [], 0, 0, 0, 0)
noncomputable def xc4 : Lean.RArray xEn := .branch 0 (.branch 0 (.branch 0 (.branch 0 (.branch 0 (.leaf (hload 2 0, 0, 1, 0, 0, 0)) (.leaf (hgoto, 16, 3, 21, 0, 0))) xz) (.branch 0 (.branch 0 (.leaf (hpush 2 (Int.ofNat 117), 4, 2, 0, 0, 0)) xz) xz)) (.branch 0 (.branch 0 xz (.branch 0 (.leaf (hpush 2 (Int.ofNat 1), 10, 1, 0, 0, 0)) xz)) (.branch 0 (.branch 0 (.leaf (hgoto, 6, 3, 21, 0, 0)) xz) (.branch 0 (.leaf (hpush 2 (Int.ofNat 110), 14, 2, 0, 0, 0)) xz)))) (.branch 0 (.branch 0 (.branch 0 (.branch 0 (.leaf (hif .ne, 1, 3, 9, 0, 0)) xz) (.branch 0 (.leaf (hload 2 0, 9, 1, 0, 0, 0)) xz)) (.branch 0 (.branch 0 xz (.leaf (hret 1, 21, 1, 0, 0, 0))) xz)) (.branch 0 (.branch 0 (.branch 0 xz (.leaf (hpush 2 (Int.ofNat 101), 19, 2, 0, 0, 0))) (.branch 0 (.leaf (hicmp .ne, 11, 3, 19, 0, 0)) xz)) xz))
noncomputable def xp4 : xP := (((5, 1), xc4), [], 1, 2, 0, 0)
noncomputable def xc5 : Lean.RArray xEn := .branch 0 (.branch 0 (.branch 0 (.branch 0 (.leaf (hloada 0, 0, 1, 0, 0, 0)) xz) (.branch 0 xz (.leaf (hputf, 12, 3, 6, 5, 5)))) (.branch 0 (.branch 0 (.leaf (hputf, 2, 3, 6, 0, 1)) (.leaf (hloada 0, 10, 1, 0, 0, 0))) (.branch 0 (.leaf (hpush 2 (Int.ofNat 0), 6, 1, 0, 0, 0)) xz))) (.branch 0 (.branch 0 (.branch 0 (.leaf (hload 2 1, 1, 1, 0, 0, 0)) xz) (.branch 0 (.leaf (hloada 0, 5, 1, 0, 0, 0)) xz)) (.branch 0 (.branch 0 xz (.leaf (hpush 0 (Int.ofNat 0), 11, 1, 0, 0, 0))) (.branch 0 (.leaf (hputf, 7, 3, 6, 2, 2)) (.leaf (hret 0, 15, 1, 0, 0, 0)))))
noncomputable def xp5 : xP := (((4, 2), xc5), [], 1, 0, 0, 0)
noncomputable def xc6 : Lean.RArray xEn := .branch 0 (.branch 0 (.branch 0 (.branch 0 (.branch 0 (.branch 0 (.leaf (hloada 0, 0, 1, 0, 0, 0)) (.leaf (hdup, 32, 1, 0, 0, 0))) xz) (.branch 0 (.branch 0 xz (.leaf (hgoto, 40, 3, 19, 0, 0))) (.branch 0 (.leaf (hloada 0, 24, 1, 0, 0, 0)) xz))) (.branch 0 (.branch 0 (.branch 0 (.leaf (hloada 0, 4, 1, 0, 0, 0)) (.leaf (hast 5 10, 36, 1, 0, 0, 0))) (.branch 0 (.leaf (hpush 2 (Int.ofNat 3), 20, 1, 0, 0, 0)) xz)) (.branch 0 xz (.branch 0 (.leaf (hload 2 1, 28, 1, 0, 0, 0)) xz)))) (.branch 0 (.branch 0 (.branch 0 xz (.branch 0 (.leaf (hstore 2 1, 18, 1, 0, 0, 0)) xz)) (.branch 0 (.branch 0 (.leaf (hpush 2 (Int.ofNat 3), 10, 1, 0, 0, 0)) xz) xz)) (.branch 0 (.branch 0 (.branch 0 (.leaf (hputf, 6, 3, 5, 0, 0)) xz) xz) (.branch 0 (.branch 0 (.leaf (hputf, 14, 3, 5, 2, 5)) xz) xz)))) (.branch 0 (.branch 0 (.branch 0 (.branch 0 (.branch 0 (.leaf (hspec, 1, 3, 0, 9, 0)) (.leaf (hspec, 33, 3, 3, 1, 0))) (.branch 0 (.leaf (hpush 2 (Int.ofNat 0), 17, 1, 0, 0, 0)) xz)) (.branch 0 (.branch 0 (.leaf (hloada 0, 9, 1, 0, 0, 0)) xz) (.branch 0 (.leaf (hget, 25, 3, 5, 2, 5)) xz))) (.branch 0 (.branch 0 (.branch 0 (.leaf (hpush 2 (Int.negSucc 0), 5, 1, 0, 0, 0)) (.leaf (hiinc 1 (Int.ofNat 1), 37, 3, 0, 0, 0))) (.branch 0 (.leaf (hicmp .ge, 21, 3, 43, 0, 0)) xz)) (.branch 0 xz (.branch 0 (.leaf (hnew, 29, 3, 6, 6, 0)) xz)))) (.branch 0 (.branch 0 (.branch 0 xz (.branch 0 (.leaf (hload 2 1, 19, 1, 0, 0, 0)) xz)) (.branch 0 (.branch 0 (.leaf (hnewa, 11, 3, 5, 0, 0)) (.leaf (hret 0, 43, 1, 0, 0, 0))) xz)) xz))
noncomputable def xp6 : xP := (((6, 2), xc6), [], 0, 0, 4, 21)
noncomputable def xc7 : Lean.RArray xEn := .branch 0 (.branch 0 (.branch 0 (.branch 0 (.branch 0 (.branch 0 (.leaf (hloada 0, 0, 1, 0, 0, 0)) xz) xz) (.branch 0 (.branch 0 (.leaf (hnewa, 8, 3, 5, 0, 0)) xz) xz)) (.branch 0 (.branch 0 (.branch 0 (.leaf (hloada 0, 4, 1, 0, 0, 0)) xz) xz) (.branch 0 xz (.branch 0 (.leaf (hpush 2 (Int.ofNat 412), 28, 3, 0, 0, 0)) xz)))) (.branch 0 (.branch 0 (.branch 0 (.branch 0 xz (.leaf (hloada 0, 34, 1, 0, 0, 0))) (.branch 0 (.leaf (hdup, 18, 1, 0, 0, 0)) (.leaf (hgoto, 50, 3, 27, 0, 0)))) (.branch 0 (.branch 0 xz (.leaf (hdup, 42, 1, 0, 0, 0))) (.branch 0 (.leaf (hstore 2 1, 26, 1, 0, 0, 0)) xz))) (.branch 0 (.branch 0 (.branch 0 xz (.leaf (hload 2 1, 38, 1, 0, 0, 0))) (.branch 0 (.leaf (hputf, 22, 3, 4, 1, 5)) xz)) (.branch 0 (.branch 0 (.leaf (hloada 0, 14, 1, 0, 0, 0)) (.leaf (hast 5 10, 46, 1, 0, 0, 0))) xz)))) (.branch 0 (.branch 0 (.branch 0 (.branch 0 (.branch 0 (.leaf (hspec, 1, 3, 0, 9, 0)) xz) xz) (.branch 0 xz (.branch 0 (.leaf (hpush 2 (Int.ofNat 0), 25, 1, 0, 0, 0)) xz))) (.branch 0 (.branch 0 (.branch 0 (.leaf (hpush 2 (Int.ofNat 412), 5, 3, 0, 0, 0)) xz) (.branch 0 xz (.leaf (hret 0, 53, 1, 0, 0, 0)))) xz)) (.branch 0 (.branch 0 (.branch 0 (.branch 0 xz (.leaf (hget, 35, 3, 4, 0, 5))) (.branch 0 (.leaf (hspec, 19, 3, 3, 1, 0)) xz)) (.branch 0 (.branch 0 (.leaf (hputf, 11, 3, 4, 0, 5)) (.leaf (hspec, 43, 3, 3, 1, 0))) (.branch 0 (.leaf (hload 2 1, 27, 1, 0, 0, 0)) xz))) (.branch 0 (.branch 0 (.branch 0 xz (.leaf (hnew, 39, 3, 6, 6, 0))) xz) (.branch 0 (.branch 0 (.leaf (hnew, 15, 3, 6, 6, 0)) (.leaf (hiinc 1 (Int.ofNat 1), 47, 3, 0, 0, 0))) (.branch 0 (.leaf (hicmp .ge, 31, 3, 53, 0, 0)) xz)))))
noncomputable def xp7 : xP := (((6, 2), xc7), [], 0, 0, 414, 2890)
noncomputable def xc8 : Lean.RArray xEn := .branch 0 (.branch 0 (.branch 0 (.branch 0 (.branch 0 (.leaf (hloada 0, 0, 1, 0, 0, 0)) xz) xz) (.branch 0 (.branch 0 (.leaf (hloada 0, 4, 1, 0, 0, 0)) (.leaf (hloada 0, 20, 1, 0, 0, 0))) (.branch 0 (.leaf (hloada 0, 12, 1, 0, 0, 0)) xz))) (.branch 0 xz (.branch 0 (.branch 0 xz (.leaf (hputf, 22, 3, 1, 7, 0))) xz))) (.branch 0 (.branch 0 (.branch 0 (.branch 0 (.leaf (hspec, 1, 3, 0, 9, 0)) (.leaf (hputf, 17, 3, 1, 3, 5))) (.branch 0 (.leaf (hputf, 9, 3, 1, 2, 5)) (.leaf (hret 0, 25, 1, 0, 0, 0)))) (.branch 0 (.branch 0 (.leaf (hpush 2 (Int.ofNat 20), 5, 2, 0, 0, 0)) (.leaf (hpush 2 (Int.negSucc 0), 21, 1, 0, 0, 0))) (.branch 0 (.leaf (hpush 2 (Int.ofNat 20), 13, 2, 0, 0, 0)) xz))) (.branch 0 xz (.branch 0 (.branch 0 (.leaf (hnewa, 7, 2, 1, 0, 0)) xz) (.branch 0 (.leaf (hnewa, 15, 2, 0, 0, 0)) xz))))
noncomputable def xp8 : xP := (((5, 1), xc8), [], 0, 0, 2, 40)
noncomputable def xc9 : Lean.RArray xEn := .branch 0 (.branch 0 (.branch 0 (.branch 0 (.branch 0 (.branch 0 (.leaf (hloada 0, 0, 1, 0, 0, 0)) (.leaf (hdup, 32, 1, 0, 0, 0))) xz) (.branch 0 (.branch 0 xz (.leaf (hgoto, 40, 3, 19, 0, 0))) (.branch 0 (.leaf (hloada 0, 24, 1, 0, 0, 0)) xz))) (.branch 0 (.branch 0 (.branch 0 (.leaf (hloada 0, 4, 1, 0, 0, 0)) (.leaf (hast 5 10, 36, 1, 0, 0, 0))) (.branch 0 (.leaf (hpush 2 (Int.ofNat 4), 20, 1, 0, 0, 0)) xz)) (.branch 0 (.branch 0 (.leaf (hloada 0, 12, 1, 0, 0, 0)) xz) (.branch 0 (.leaf (hload 2 2, 28, 1, 0, 0, 0)) xz)))) (.branch 0 (.branch 0 (.branch 0 xz (.branch 0 (.leaf (hstore 2 2, 18, 1, 0, 0, 0)) xz)) xz) (.branch 0 (.branch 0 (.branch 0 (.leaf (hnewa, 6, 3, 5, 0, 0)) xz) xz) (.branch 0 (.branch 0 (.leaf (hputf, 14, 3, 0, 0, 5)) xz) xz)))) (.branch 0 (.branch 0 (.branch 0 (.branch 0 (.branch 0 (.leaf (hspec, 1, 3, 0, 9, 0)) (.leaf (hspec, 33, 3, 3, 1, 0))) (.branch 0 (.leaf (hpush 2 (Int.ofNat 0), 17, 1, 0, 0, 0)) xz)) (.branch 0 (.branch 0 (.leaf (hputf, 9, 3, 0, 6, 5)) xz) (.branch 0 (.leaf (hget, 25, 3, 0, 6, 5)) xz))) (.branch 0 (.branch 0 (.branch 0 (.leaf (hpush 2 (Int.ofNat 4), 5, 1, 0, 0, 0)) (.leaf (hiinc 2 (Int.ofNat 1), 37, 3, 0, 0, 0))) (.branch 0 (.leaf (hicmp .ge, 21, 3, 43, 0, 0)) xz)) (.branch 0 (.branch 0 (.leaf (hloada 1, 13, 1, 0, 0, 0)) xz) (.branch 0 (.leaf (hnew, 29, 3, 6, 6, 0)) xz)))) (.branch 0 (.branch 0 (.branch 0 xz (.branch 0 (.leaf (hload 2 2, 19, 1, 0, 0, 0)) xz)) (.branch 0 (.branch 0 xz (.leaf (hret 0, 43, 1, 0, 0, 0))) xz)) xz))
noncomputable def xp9 : xP := (((6, 3), xc9), [], 1, 0, 5, 28)
noncomputable def xc10 : Lean.RArray xEn := .branch 0 (.branch 0 (.branch 0 (.branch 0 (.branch 0 (.branch 0 (.branch 0 (.branch 0 (.leaf (hloada 0, 0, 1, 0, 0, 0)) xz) xz) (.branch 0 (.branch 0 (.leaf (hnewa, 32, 2, 1, 0, 0)) (.leaf (hpush 2 (Int.ofNat 8), 160, 2, 0, 0, 0))) (.branch 0 (.leaf (hpush 2 (Int.ofNat 64), 96, 2, 0, 0, 0)) xz))) (.branch 0 xz (.branch 0 xz (.branch 0 (.leaf (hpush 2 (Int.ofNat 64), 112, 2, 0, 0, 0)) xz)))) (.branch 0 (.branch 0 xz (.branch 0 xz (.branch 0 (.leaf (hpush 2 (Int.ofNat 64), 104, 2, 0, 0, 0)) xz))) (.branch 0 xz (.branch 0 xz (.branch 0 (.leaf (hpush 2 (Int.ofNat 192), 120, 3, 0, 0, 0)) xz))))) (.branch 0 (.branch 0 (.branch 0 (.branch 0 (.branch 0 (.leaf (hloada 0, 4, 1, 0, 0, 0)) (.leaf (hnewa, 132, 3, 10, 0, 0))) xz) (.branch 0 xz (.branch 0 (.leaf (hputf, 100, 3, 10, 15, 5)) xz))) (.branch 0 (.branch 0 (.branch 0 (.leaf (hloada 0, 20, 1, 0, 0, 0)) (.leaf (hload 2 1, 148, 1, 0, 0, 0))) xz) (.branch 0 xz (.branch 0 (.leaf (hputf, 116, 3, 10, 17, 5)) xz)))) (.branch 0 (.branch 0 (.branch 0 (.branch 0 (.leaf (hloada 0, 12, 1, 0, 0, 0)) xz) xz) (.branch 0 xz (.branch 0 (.leaf (hputf, 108, 3, 10, 16, 5)) xz))) (.branch 0 (.branch 0 (.branch 0 (.leaf (hloada 0, 28, 1, 0, 0, 0)) xz) (.branch 0 (.leaf (hputf, 92, 3, 10, 12, 5)) xz)) xz)))) (.branch 0 (.branch 0 (.branch 0 (.branch 0 (.branch 0 (.branch 0 xz (.leaf (hpush 2 (Int.ofNat 12), 130, 2, 0, 0, 0))) xz) (.branch 0 (.branch 0 (.leaf (hputf, 34, 3, 10, 5, 5)) (.leaf (hbin (fun a b => a / b) xin31, 162, 1, 0, 0, 0))) (.branch 0 (.leaf (hnewa, 98, 2, 0, 0, 0)) xz))) (.branch 0 (.branch 0 (.branch 0 xz (.leaf (hpush 2 (Int.ofNat 0), 146, 1, 0, 0, 0))) xz) (.branch 0 xz (.branch 0 (.leaf (hnewa, 114, 2, 2, 0, 0)) xz)))) (.branch 0 (.branch 0 (.branch 0 (.branch 0 xz (.leaf (hloada 0, 138, 1, 0, 0, 0))) xz) (.branch 0 (.branch 0 xz (.leaf (hgoto, 170, 3, 148, 0, 0))) (.branch 0 (.leaf (hnewa, 106, 2, 2, 0, 0)) xz))) (.branch 0 (.branch 0 (.branch 0 xz (.leaf (hloada 0, 154, 1, 0, 0, 0))) xz) xz))) (.branch 0 (.branch 0 (.branch 0 (.branch 0 xz (.branch 0 (.leaf (hloada 0, 70, 1, 0, 0, 0)) xz)) (.branch 0 (.branch 0 (.leaf (hpush 2 (Int.ofNat 180), 38, 3, 0, 0, 0)) (.leaf (hast 5 10, 166, 1, 0, 0, 0))) xz)) (.branch 0 (.branch 0 xz (.branch 0 (.leaf (hloada 0, 86, 1, 0, 0, 0)) xz)) (.branch 0 (.branch 0 (.leaf (hloada 0, 54, 1, 0, 0, 0)) xz) xz))) (.branch 0 (.branch 0 (.branch 0 xz (.branch 0 (.leaf (hloada 0, 78, 1, 0, 0, 0)) xz)) (.branch 0 (.branch 0 (.leaf (hloada 0, 46, 1, 0, 0, 0)) xz) xz)) (.branch 0 (.branch 0 (.branch 0 xz (.leaf (hload 2 1, 158, 1, 0, 0, 0))) xz) (.branch 0 (.branch 0 (.leaf (hloada 0, 62, 1, 0, 0, 0)) xz) (.branch 0 (.leaf (hputf, 126, 3, 10, 18, 5)) xz))))))) (.branch 0 (.branch 0 (.branch 0 (.branch 0 (.branch 0 (.branch 0 (.branch 0 (.leaf (hspec, 1, 3, 0, 9, 0)) (.leaf (hloada 0, 129, 1, 0, 0, 0))) (.branch 0 (.leaf (hnewa, 65, 2, 0, 0, 0)) xz)) xz) (.branch 0 (.branch 0 (.branch 0 (.leaf (hputf, 17, 3, 10, 3, 5)) xz) (.branch 0 (.leaf (hnewa, 81, 2, 2, 0, 0)) xz)) (.branch 0 (.branch 0 (.leaf (hnewa, 49, 2, 2, 0, 0)) xz) xz))) (.branch 0 (.branch 0 (.branch 0 (.branch 0 (.leaf (hputf, 9, 3, 10, 2, 5)) xz) (.branch 0 (.leaf (hnewa, 73, 2, 0, 0, 0)) xz)) (.branch 0 (.branch 0 (.leaf (hnewa, 41, 2, 0, 0, 0)) xz) xz)) (.branch 0 (.branch 0 (.branch 0 (.leaf (hputf, 25, 3, 10, 4, 5)) xz) (.branch 0 (.leaf (hnewa, 89, 3, 9, 0, 0)) xz)) (.branch 0 (.branch 0 (.leaf (hnewa, 57, 2, 0, 0, 0)) xz) xz)))) (.branch 0 (.branch 0 (.branch 0 (.branch 0 (.branch 0 (.leaf (hpush 2 (Int.ofNat 9), 5, 2, 0, 0, 0)) xz) xz) (.branch 0 (.branch 0 (.leaf (hloada 0, 37, 1, 0, 0, 0)) xz) xz)) (.branch 0 (.branch 0 (.branch 0 (.leaf (hpush 2 (Int.ofNat 9), 21, 2, 0, 0, 0)) (.leaf (hpush 2 (Int.ofNat 24), 149, 2, 0, 0, 0))) xz) xz)) (.branch 0 (.branch 0 (.branch 0 (.branch 0 (.leaf (hpush 2 (Int.ofNat 9), 13, 2, 0, 0, 0)) (.leaf (hnewa, 141, 2, 0, 0, 0))) xz) (.branch 0 (.branch 0 xz (.leaf (hret 0, 173, 1, 0, 0, 0))) xz)) (.branch 0 (.branch 0 (.branch 0 (.leaf (hpush 2 (Int.ofNat 180), 29, 3, 0, 0, 0)) xz) xz) xz)))) (.branch 0 (.branch 0 (.branch 0 (.branch 0 (.branch 0 xz (.branch 0 (.leaf (hputf, 67, 3, 10, 9, 5)) xz)) (.branch 0 (.branch 0 xz (.leaf (hcalls, 163, 3, 11, 0, 0))) xz)) (.branch 0 (.branch 0 (.branch 0 xz (.leaf (hstore 2 1, 147, 1, 0, 0, 0))) (.branch 0 (.leaf (hputf, 83, 3, 10, 11, 5)) xz)) (.branch 0 (.branch 0 (.leaf (hputf, 51, 3, 10, 7, 5)) xz) xz))) (.branch 0 (.branch 0 (.branch 0 (.branch 0 xz (.leaf (hpush 2 (Int.ofNat 64), 139, 2, 0, 0, 0))) (.branch 0 (.leaf (hputf, 75, 3, 10, 10, 5)) xz)) (.branch 0 (.branch 0 (.leaf (hputf, 43, 3, 10, 6, 5)) xz) xz)) (.branch 0 (.branch 0 (.branch 0 xz (.leaf (hget, 155, 3, 10, 12, 5))) xz) (.branch 0 (.branch 0 (.leaf (hputf, 59, 3, 10, 8, 5)) xz) (.branch 0 (.leaf (hnewa, 123, 3, 9, 0, 0)) xz))))) (.branch 0 (.branch 0 (.branch 0 (.branch 0 (.branch 0 (.leaf (hnewa, 7, 2, 0, 0, 0)) (.leaf (hputf, 135, 3, 10, 22, 5))) (.branch 0 (.leaf (hpush 2 (Int.ofNat 9), 71, 2, 0, 0, 0)) xz)) (.branch 0 (.branch 0 xz (.leaf (hiinc 1 (Int.ofNat 1), 167, 3, 0, 0, 0))) (.branch 0 (.leaf (hloada 0, 103, 1, 0, 0, 0)) xz))) (.branch 0 (.branch 0 (.branch 0 (.leaf (hnewa, 23, 2, 0, 0, 0)) (.leaf (hicmp .ge, 151, 3, 173, 0, 0))) (.branch 0 (.leaf (hpush 2 (Int.ofNat 24), 87, 2, 0, 0, 0)) xz)) (.branch 0 (.branch 0 (.leaf (hpush 2 (Int.ofNat 9), 55, 2, 0, 0, 0)) xz) (.branch 0 (.leaf (hloada 0, 119, 1, 0, 0, 0)) xz)))) (.branch 0 (.branch 0 (.branch 0 (.branch 0 (.leaf (hnewa, 15, 2, 0, 0, 0)) (.leaf (hputf, 143, 3, 10, 29, 5))) (.branch 0 (.leaf (hpush 2 (Int.ofNat 9), 79, 2, 0, 0, 0)) xz)) (.branch 0 (.branch 0 (.leaf (hpush 2 (Int.ofNat 9), 47, 2, 0, 0, 0)) xz) (.branch 0 (.leaf (hloada 0, 111, 1, 0, 0, 0)) xz))) (.branch 0 (.branch 0 (.branch 0 xz (.leaf (hload 2 1, 159, 1, 0, 0, 0))) (.branch 0 (.leaf (hloada 0, 95, 1, 0, 0, 0)) xz)) (.branch 0 (.branch 0 (.leaf (hpush 2 (Int.ofNat 9), 63, 2, 0, 0, 0)) xz) xz))))))
noncomputable def xp10 : xP := (((8, 2), xc10), [], 0, 0, 41, 1012)
noncomputable def xc11 : Lean.RArray xEn := .branch 0 (.branch 0 (.branch 0 (.branch 0 (.branch 0 (.leaf (hnew, 0, 3, 9, 4, 0)) xz) (.branch 0 (.leaf (hpush 2 (Int.ofNat 117), 8, 2, 0, 0, 0)) xz)) (.branch 0 (.branch 0 (.leaf (hload 2 0, 4, 1, 0, 0, 0)) (.leaf (hgoto, 20, 3, 25, 0, 0))) (.branch 0 xz (.leaf (hspec, 28, 3, 12, 1, 0))))) (.branch 0 (.branch 0 (.branch 0 xz (.leaf (hpush 2 (Int.ofNat 110), 18, 2, 0, 0, 0))) (.branch 0 (.leaf (hgoto, 10, 3, 25, 0, 0)) (.leaf (hpush 3 (Int.ofNat 0), 26, 1, 0, 0, 0)))) (.branch 0 xz (.branch 0 (.leaf (hpush 2 (Int.ofNat 1), 14, 1, 0, 0, 0)) xz)))) (.branch 0 (.branch 0 (.branch 0 xz (.branch 0 xz (.leaf (hpush 4 (Int.ofNat 0), 25, 1, 0, 0, 0)))) (.branch 0 (.branch 0 (.leaf (hif .ne, 5, 3, 13, 0, 0)) xz) (.branch 0 (.leaf (hload 2 0, 13, 1, 0, 0, 0)) xz))) (.branch 0 (.branch 0 (.branch 0 (.leaf (hdup, 3, 1, 0, 0, 0)) xz) (.branch 0 xz (.leaf (hpush 2 (Int.ofNat 0), 27, 1, 0, 0, 0)))) (.branch 0 (.branch 0 xz (.leaf (hpush 2 (Int.ofNat 101), 23, 2, 0, 0, 0))) (.branch 0 (.leaf (hicmp .ne, 15, 3, 23, 0, 0)) (.leaf (hret 6, 31, 1, 0, 0, 0))))))
noncomputable def xp11 : xP := (((5, 1), xc11), [], 1, 6, 1, 4)
noncomputable def xc12 : Lean.RArray xEn := .branch 0 (.branch 0 (.branch 0 (.branch 0 (.branch 0 (.leaf (hloada 0, 0, 1, 0, 0, 0)) xz) xz) (.branch 0 (.branch 0 (.leaf (hloada 0, 4, 1, 0, 0, 0)) (.leaf (hloada 0, 20, 1, 0, 0, 0))) xz)) (.branch 0 (.branch 0 xz (.branch 0 (.leaf (hload 4 2, 10, 1, 0, 0, 0)) (.leaf (hret 0, 26, 1, 0, 0, 0)))) (.branch 0 (.branch 0 (.leaf (hputf, 6, 3, 9, 0, 1)) xz) (.branch 0 (.leaf (hloada 0, 14, 1, 0, 0, 0)) xz)))) (.branch 0 (.branch 0 (.branch 0 (.branch 0 (.leaf (hspec, 1, 3, 0, 9, 0)) (.leaf (hputf, 17, 3, 9, 2, 3))) (.branch 0 (.leaf (hloada 0, 9, 1, 0, 0, 0)) xz)) (.branch 0 (.branch 0 (.leaf (hload 2 1, 5, 1, 0, 0, 0)) (.leaf (hload 2 6, 21, 2, 0, 0, 0))) xz)) (.branch 0 (.branch 0 xz (.branch 0 (.leaf (hputf, 11, 3, 9, 1, 4)) xz)) (.branch 0 (.branch 0 xz (.leaf (hputf, 23, 3, 9, 3, 0))) (.branch 0 (.leaf (hload 3 4, 15, 2, 0, 0, 0)) xz))))
noncomputable def xp12 : xP := (((5, 7), xc12), [], 4, 0, 0, 0)
noncomputable def xc13 : Lean.RArray xEn := .branch 0 (.branch 0 (.branch 0 (.branch 0 (.branch 0 (.leaf (hloada 3, 0, 1, 0, 0, 0)) (.leaf (hret 1, 16, 1, 0, 0, 0))) (.branch 0 (.leaf (hconv (fun a => cond (Nat.beq a 2) 3 7) (fun a z => cond (Nat.beq a 2) (xin32 z) (Nat.beq a 5)), 8, 1, 0, 0, 0)) xz)) (.branch 0 (.branch 0 (.leaf (hload 2 2, 4, 1, 0, 0, 0)) xz) xz)) (.branch 0 (.branch 0 (.branch 0 (.leaf (hloada 0, 2, 1, 0, 0, 0)) xz) (.branch 0 (.leaf (hgoto, 10, 3, 21, 0, 0)) xz)) (.branch 0 (.branch 0 xz (.leaf (hret 1, 22, 1, 0, 0, 0))) xz))) (.branch 0 (.branch 0 (.branch 0 (.branch 0 (.leaf (hpush 2 (Int.ofNat 0), 1, 1, 0, 0, 0)) xz) (.branch 0 (.leaf (hast 3 3, 9, 1, 0, 0, 0)) xz)) (.branch 0 (.branch 0 (.leaf (hcallv, 5, 3, 14, 0, 7)) (.leaf (hpush 2 (Int.ofNat 0), 21, 1, 0, 0, 0))) xz)) (.branch 0 (.branch 0 (.branch 0 (.leaf (hload 2 1, 3, 1, 0, 0, 0)) xz) xz) (.branch 0 xz (.branch 0 (.leaf (hpush 2 (Int.ofNat 1), 15, 1, 0, 0, 0)) xz))))
noncomputable def xp13 : xP := (((5, 5), xc13), [(0, 10, 0, 4, 15), (0, 10, 5, 4, 19)], 4, 1, 1, 6)
noncomputable def xc14 : Lean.RArray xEn := .branch 0 (.branch 0 (.branch 0 (.branch 0 (.branch 0 (.branch 0 (.leaf (hload 2 1, 0, 1, 0, 0, 0)) xz) (.branch 0 (.leaf (hnew, 16, 3, 0, 0, 1)) (.leaf (hloada 0, 48, 1, 0, 0, 0)))) (.branch 0 (.branch 0 (.leaf (hload 2 2, 8, 1, 0, 0, 0)) xz) xz)) (.branch 0 (.branch 0 xz (.branch 0 xz (.leaf (hload 2 1, 52, 1, 0, 0, 0)))) xz)) (.branch 0 (.branch 0 (.branch 0 (.branch 0 (.leaf (hcalls, 2, 3, 15, 0, 0)) xz) xz) (.branch 0 (.branch 0 (.leaf (hcalls, 10, 3, 15, 0, 0)) xz) (.branch 0 (.leaf (hloada 0, 26, 1, 0, 0, 0)) xz))) (.branch 0 (.branch 0 xz (.branch 0 xz (.leaf (hcallv, 54, 3, 21, 0, 3)))) (.branch 0 xz (.branch 0 (.leaf (hget, 30, 3, 3, 2, 0)) xz))))) (.branch 0 (.branch 0 (.branch 0 (.branch 0 (.branch 0 (.leaf (hpush 2 (Int.ofNat 3), 1, 1, 0, 0, 0)) (.leaf (hpush 2 (Int.ofNat 9), 33, 2, 0, 0, 0))) (.branch 0 xz (.leaf (hget, 49, 3, 7, 0, 5)))) (.branch 0 (.branch 0 (.leaf (hpush 2 (Int.ofNat 3), 9, 1, 0, 0, 0)) xz) (.branch 0 xz (.leaf (hret 1, 57, 1, 0, 0, 0))))) (.branch 0 (.branch 0 (.branch 0 (.leaf (hif .eq, 5, 3, 16, 0, 0)) xz) (.branch 0 xz (.leaf (hload 2 2, 53, 1, 0, 0, 0)))) (.branch 0 (.branch 0 (.leaf (hif .ne, 13, 3, 26, 0, 0)) xz) xz))) (.branch 0 (.branch 0 (.branch 0 (.branch 0 xz (.leaf (hicmp .lt, 35, 3, 48, 0, 0))) xz) (.branch 0 xz (.branch 0 (.leaf (hget, 27, 3, 7, 0, 5)) xz))) xz))
noncomputable def xp14 : xP := (((6, 3), xc14), [], 2, 1, 1, 6)
noncomputable def xc15 : Lean.RArray xEn := .branch 0 (.branch 0 (.branch 0 (.branch 0 (.leaf (hload 2 0, 0, 1, 0, 0, 0)) xz) (.branch 0 (.leaf (hload 2 0, 4, 1, 0, 0, 0)) xz)) (.branch 0 (.branch 0 xz (.leaf (hgoto, 10, 3, 14, 0, 0))) (.branch 0 (.leaf (hicmp .ge, 6, 3, 13, 0, 0)) (.leaf (hret 1, 14, 1, 0, 0, 0))))) (.branch 0 (.branch 0 (.branch 0 (.leaf (hif .lt, 1, 3, 13, 0, 0)) (.leaf (hpush 2 (Int.ofNat 1), 9, 1, 0, 0, 0))) (.branch 0 (.leaf (hload 2 1, 5, 1, 0, 0, 0)) (.leaf (hpush 2 (Int.ofNat 0), 13, 1, 0, 0, 0)))) xz)
noncomputable def xp15 : xP := (((4, 2), xc15), [], 2, 3, 0, 0)
noncomputable def xc16 : Lean.RArray xEn := .branch 0 (.branch 0 (.branch 0 (.branch 0 (.branch 0 (.branch 0 (.branch 0 (.leaf (hloada 0, 0, 1, 0, 0, 0)) (.leaf (hget, 64, 3, 10, 1, 0))) xz) xz) (.branch 0 (.branch 0 (.branch 0 xz (.leaf (hloada 0, 72, 1, 0, 0, 0))) xz) (.branch 0 xz (.branch 0 (.leaf (hloada 0, 56, 1, 0, 0, 0)) xz)))) (.branch 0 (.branch 0 (.branch 0 (.branch 0 xz (.leaf (hbin (fun a b => a + b) (fun _ _ => true), 68, 1, 0, 0, 0))) xz) (.branch 0 xz (.branch 0 (.leaf (hloada 0, 52, 1, 0, 0, 0)) xz))) (.branch 0 (.branch 0 (.branch 0 (.leaf (hload 2 2, 12, 1, 0, 0, 0)) (.leaf (hpush 2 (Int.ofNat 1), 76, 1, 0, 0, 0))) xz) (.branch 0 (.branch 0 (.leaf (hget, 28, 3, 10, 1, 0)) xz) (.branch 0 (.leaf (hload 2 2, 60, 1, 0, 0, 0)) xz))))) (.branch 0 (.branch 0 (.branch 0 (.branch 0 (.branch 0 (.leaf (hputf, 2, 3, 10, 0, 0)) xz) xz) (.branch 0 (.branch 0 (.leaf (hif .ne, 18, 3, 27, 0, 0)) xz) (.branch 0 (.leaf (hload 2 1, 50, 1, 0, 0, 0)) xz))) (.branch 0 (.branch 0 xz (.branch 0 (.leaf (hloada 0, 42, 1, 0, 0, 0)) xz)) (.branch 0 (.branch 0 (.leaf (hret 1, 26, 1, 0, 0, 0)) xz) xz))) (.branch 0 (.branch 0 (.branch 0 (.branch 0 (.leaf (hcalls, 6, 3, 17, 0, 0)) xz) xz) (.branch 0 (.branch 0 (.leaf (hpush 2 (Int.ofNat 1), 22, 1, 0, 0, 0)) xz) xz)) (.branch 0 (.branch 0 (.branch 0 (.leaf (hpush 2 (Int.ofNat 2), 14, 1, 0, 0, 0)) (.leaf (hret 1, 78, 1, 0, 0, 0))) (.branch 0 (.leaf (hloada 0, 46, 1, 0, 0, 0)) xz)) (.branch 0 xz (.branch 0 (.leaf (hloada 0, 62, 1, 0, 0, 0)) xz)))))) (.branch 0 (.branch 0 (.branch 0 (.branch 0 (.branch 0 (.branch 0 (.leaf (hpush 2 (Int.ofNat 0), 1, 1, 0, 0, 0)) xz) (.branch 0 (.leaf (hicmp .ne, 33, 3, 42, 0, 0)) xz)) xz) (.branch 0 (.branch 0 (.branch 0 (.leaf (hif .eq, 9, 3, 21, 0, 0)) (.leaf (hget, 73, 3, 10, 1, 0))) xz) (.branch 0 xz (.branch 0 (.leaf (hget, 57, 3, 10, 1, 0)) xz)))) (.branch 0 (.branch 0 (.branch 0 (.branch 0 (.leaf (hload 2 1, 5, 1, 0, 0, 0)) (.leaf (hputf, 69, 3, 10, 1, 0))) xz) (.branch 0 (.branch 0 (.leaf (hloada 0, 21, 1, 0, 0, 0)) xz) (.branch 0 (.leaf (hget, 53, 3, 10, 3, 5)) xz))) (.branch 0 (.branch 0 (.branch 0 (.leaf (hpush 2 (Int.ofNat 0), 13, 1, 0, 0, 0)) (.leaf (hbin (fun a b => a - b) (fun _ _ => true), 77, 1, 0, 0, 0))) xz) (.branch 0 xz (.branch 0 (.leaf (hast 0 0, 61, 1, 0, 0, 0)) xz))))) (.branch 0 (.branch 0 (.branch 0 (.branch 0 (.branch 0 xz (.leaf (hpush 2 (Int.ofNat 1), 67, 1, 0, 0, 0))) xz) (.branch 0 xz (.branch 0 (.leaf (hast 0 0, 51, 1, 0, 0, 0)) xz))) (.branch 0 (.branch 0 xz (.branch 0 (.leaf (hget, 43, 3, 10, 2, 5)) xz)) (.branch 0 (.branch 0 (.leaf (hloada 0, 27, 1, 0, 0, 0)) xz) xz))) (.branch 0 (.branch 0 xz (.branch 0 (.branch 0 (.leaf (hcallv, 23, 3, 19, 0, 10)) xz) xz)) (.branch 0 (.branch 0 (.branch 0 (.leaf (hcalls, 15, 3, 18, 0, 0)) xz) (.branch 0 (.leaf (hget, 47, 3, 10, 1, 0)) xz)) (.branch 0 (.branch 0 (.leaf (hpush 2 (Int.ofNat 9), 31, 2, 0, 0, 0)) xz) (.branch 0 (.leaf (hdup, 63, 1, 0, 0, 0)) xz))))))
noncomputable def xp16 : xP := (((7, 3), xc16), [], 2, 1, 0, 0)
noncomputable def xc17 : Lean.RArray xEn := .branch 0 (.branch 0 (.branch 0 (.leaf (hload 2 0, 0, 1, 0, 0, 0)) xz) (.branch 0 (.leaf (hpush 2 (Int.ofNat 2), 2, 1, 0, 0, 0)) (.leaf (hret 1, 6, 1, 0, 0, 0)))) (.branch 0 (.branch 0 (.leaf (hpush 2 (Int.ofNat 0), 1, 1, 0, 0, 0)) xz) (.branch 0 (.leaf (hcalls, 3, 3, 18, 0, 0)) xz))
noncomputable def xp17 : xP := (((3, 1), xc17), [], 1, 3, 0, 0)
noncomputable def xc18 : Lean.RArray xEn := .branch 0 (.branch 0 (.branch 0 (.branch 0 (.leaf (hload 2 0, 0, 1, 0, 0, 0)) xz) xz) (.branch 0 (.branch 0 (.leaf (hicmp .lt, 2, 3, 14, 0, 0)) (.leaf (hpush 2 (Int.ofNat 1), 10, 1, 0, 0, 0))) (.branch 0 (.leaf (hload 2 2, 6, 1, 0, 0, 0)) (.leaf (hpush 2 (Int.ofNat 0), 14, 1, 0, 0, 0))))) (.branch 0 (.branch 0 (.branch 0 (.leaf (hload 2 1, 1, 1, 0, 0, 0)) xz) (.branch 0 (.leaf (hload 2 0, 5, 1, 0, 0, 0)) xz)) (.branch 0 (.branch 0 xz (.leaf (hgoto, 11, 3, 15, 0, 0))) (.branch 0 (.leaf (hicmp .gt, 7, 3, 14, 0, 0)) (.leaf (hret 1, 15, 1, 0, 0, 0)))))
noncomputable def xp18 : xP := (((4, 3), xc18), [], 3, 3, 0, 0)
noncomputable def xc19 : Lean.RArray xEn := .branch 0 (.branch 0 (.branch 0 (.leaf (hloada 0, 0, 1, 0, 0, 0)) xz) (.branch 0 (.leaf (hputf, 2, 3, 10, 0, 0)) (.leaf (hret 1, 6, 1, 0, 0, 0)))) (.branch 0 (.branch 0 (.leaf (hload 2 1, 1, 1, 0, 0, 0)) (.leaf (hpush 2 (Int.ofNat 0), 5, 1, 0, 0, 0))) xz)
noncomputable def xp19 : xP := (((3, 2), xc19), [], 1, 1, 0, 0)
noncomputable def xc20 : Lean.RArray xEn := .branch 0 (.branch 0 (.branch 0 (.leaf (hloada 0, 0, 1, 0, 0, 0)) (.leaf (hret 1, 4, 1, 0, 0, 0))) xz) (.branch 0 (.branch 0 (.leaf (hget, 1, 3, 10, 0, 0)) xz) xz)
noncomputable def xp20 : xP := (((3, 1), xc20), [], 0, 1, 0, 0)
noncomputable def xc21 : Lean.RArray xEn := .branch 0 (.branch 0 (.branch 0 (.branch 0 (.branch 0 (.branch 0 (.leaf (hloada 0, 0, 1, 0, 0, 0)) (.leaf (hdup, 32, 1, 0, 0, 0))) (.branch 0 (.leaf (hald 5 10, 16, 1, 0, 0, 0)) xz)) (.branch 0 (.branch 0 (.leaf (hicmp .ge, 8, 3, 41, 0, 0)) xz) xz)) (.branch 0 (.branch 0 (.branch 0 (.leaf (hstore 2 3, 4, 1, 0, 0, 0)) (.leaf (hpush 2 (Int.ofNat 1), 36, 1, 0, 0, 0))) xz) (.branch 0 (.branch 0 (.leaf (hget, 12, 3, 3, 1, 5)) xz) (.branch 0 (.leaf (hputf, 28, 3, 1, 1, 0)) xz)))) (.branch 0 (.branch 0 (.branch 0 xz (.branch 0 (.leaf (hputf, 18, 3, 1, 0, 0)) xz)) (.branch 0 (.branch 0 xz (.leaf (hret 1, 42, 1, 0, 0, 0))) (.branch 0 (.leaf (hald 5 10, 26, 1, 0, 0, 0)) xz))) (.branch 0 (.branch 0 (.branch 0 (.leaf (hpush 2 (Int.ofNat 9), 6, 2, 0, 0, 0)) (.leaf (hputf, 38, 3, 3, 2, 0))) (.branch 0 (.leaf (hget, 22, 3, 3, 1, 5)) xz)) xz))) (.branch 0 (.branch 0 (.branch 0 (.branch 0 (.branch 0 (.leaf (hget, 1, 3, 3, 2, 0)) (.leaf (hget, 33, 3, 3, 2, 0))) (.branch 0 (.leaf (hload 2 1, 17, 1, 0, 0, 0)) xz)) (.branch 0 (.branch 0 xz (.leaf (hload 2 3, 41, 1, 0, 0, 0))) (.branch 0 (.leaf (hload 2 3, 25, 1, 0, 0, 0)) xz))) (.branch 0 (.branch 0 (.branch 0 (.leaf (hload 2 3, 5, 1, 0, 0, 0)) (.leaf (hbin (fun a b => a + b) (fun _ _ => true), 37, 1, 0, 0, 0))) (.branch 0 (.leaf (hloada 0, 21, 1, 0, 0, 0)) xz)) xz)) (.branch 0 (.branch 0 xz (.branch 0 (.branch 0 (.leaf (hloada 0, 11, 1, 0, 0, 0)) xz) (.branch 0 (.leaf (hload 2 2, 27, 1, 0, 0, 0)) xz))) (.branch 0 xz (.branch 0 (.branch 0 (.leaf (hload 2 3, 15, 1, 0, 0, 0)) xz) (.branch 0 (.leaf (hloada 0, 31, 1, 0, 0, 0)) xz)))))
noncomputable def xp21 : xP := (((6, 4), xc21), [], 2, 1, 0, 0)
noncomputable def xc22 : Lean.RArray xEn := .branch 0 (.branch 0 (.branch 0 (.branch 0 (.branch 0 (.leaf (hloada 4, 0, 2, 0, 0, 0)) xz) xz) (.branch 0 (.branch 0 (.leaf (hload 2 1, 4, 1, 0, 0, 0)) xz) xz)) (.branch 0 (.branch 0 (.branch 0 (.leaf (hpush 2 (Int.ofNat 0), 2, 1, 0, 0, 0)) (.leaf (hret 1, 18, 1, 0, 0, 0))) xz) (.branch 0 (.branch 0 (.leaf (hload 2 3, 6, 1, 0, 0, 0)) xz) xz))) (.branch 0 (.branch 0 (.branch 0 (.branch 0 xz (.leaf (hpush 2 (Int.ofNat 1), 17, 1, 0, 0, 0))) xz) (.branch 0 (.branch 0 (.leaf (hload 2 2, 5, 1, 0, 0, 0)) xz) xz)) (.branch 0 (.branch 0 (.branch 0 (.leaf (hloada 0, 3, 1, 0, 0, 0)) xz) xz) (.branch 0 (.branch 0 (.leaf (hcallv, 7, 3, 23, 0, 7)) xz) xz)))
noncomputable def xp22 : xP := (((5, 6), xc22), [(0, 12, 4, 5, 17), (0, 12, 0, 5, 21), (0, 12, 5, 5, 25)], 5, 1, 1, 6)
noncomputable def xc23 : Lean.RArray xEn := .branch 0 (.branch 0 (.leaf (hloada 0, 0, 1, 0, 0, 0)) (.leaf (hcallv, 2, 3, 24, 0, 7))) (.branch 0 (.leaf (hload 2 1, 1, 1, 0, 0, 0)) xz)
noncomputable def xp23 : xP := (((2, 5), xc23), [], 3, 1, 1, 6)
noncomputable def xc24 : Lean.RArray xEn := .branch 0 (.branch 0 (.branch 0 (.branch 0 (.leaf (hload 2 1, 0, 1, 0, 0, 0)) (.leaf (hcalls, 8, 3, 25, 0, 0))) xz) (.branch 0 (.branch 0 (.leaf (hget, 2, 3, 7, 0, 5)) xz) xz)) (.branch 0 (.branch 0 (.branch 0 (.leaf (hloada 0, 1, 1, 0, 0, 0)) xz) (.branch 0 (.leaf (hget, 5, 3, 3, 2, 0)) xz)) xz)
noncomputable def xp24 : xP := (((4, 2), xc24), [], 1, 0, 1, 6)
noncomputable def xc25 : Lean.RArray xEn := .branch 0 (.branch 0 (.branch 0 (.branch 0 (.branch 0 (.leaf (hload 2 0, 0, 1, 0, 0, 0)) xz) (.branch 0 (.leaf (hnew, 8, 3, 4, 0, 1)) xz)) xz) (.branch 0 (.branch 0 (.branch 0 (.leaf (hcalls, 2, 3, 15, 0, 0)) xz) xz) xz)) (.branch 0 (.branch 0 (.branch 0 (.branch 0 (.leaf (hload 2 1, 1, 1, 0, 0, 0)) xz) xz) (.branch 0 (.branch 0 (.leaf (hif .ne, 5, 3, 19, 0, 0)) xz) xz)) (.branch 0 (.branch 0 (.branch 0 xz (.leaf (hret 0, 19, 1, 0, 0, 0))) xz) xz))
noncomputable def xp25 : xP := (((5, 2), xc25), [], 2, 0, 1, 6)
noncomputable def xc26 : Lean.RArray xEn := .branch 0 (.branch 0 (.branch 0 (.branch 0 (.branch 0 (.leaf (hloada 0, 0, 1, 0, 0, 0)) xz) xz) xz) (.branch 0 (.branch 0 (.branch 0 (.leaf (hputf, 2, 3, 10, 0, 0)) (.leaf (hret 1, 18, 1, 0, 0, 0))) (.branch 0 (.leaf (hif .ne, 10, 3, 19, 0, 0)) xz)) (.branch 0 (.branch 0 (.leaf (hload 2 1, 6, 1, 0, 0, 0)) xz) (.branch 0 (.leaf (hpush 2 (Int.ofNat 1), 14, 1, 0, 0, 0)) xz)))) (.branch 0 (.branch 0 (.branch 0 (.branch 0 (.leaf (hpush 2 (Int.ofNat 0), 1, 1, 0, 0, 0)) xz) xz) (.branch 0 (.branch 0 (.leaf (hloada 0, 5, 1, 0, 0, 0)) xz) (.branch 0 (.leaf (hloada 0, 13, 1, 0, 0, 0)) xz))) (.branch 0 xz (.branch 0 (.branch 0 (.leaf (hcallv, 7, 3, 27, 0, 10)) xz) (.branch 0 (.leaf (hcallv, 15, 3, 19, 0, 10)) xz))))
noncomputable def xp26 : xP := (((5, 4), xc26), [], 3, 1, 0, 0)
noncomputable def xc27 : Lean.RArray xEn := .branch 0 (.branch 0 (.branch 0 (.branch 0 (.leaf (hload 2 1, 0, 1, 0, 0, 0)) (.leaf (hcalls, 8, 3, 18, 0, 0))) xz) (.branch 0 (.branch 0 (.leaf (hloada 0, 2, 1, 0, 0, 0)) xz) (.branch 0 (.leaf (hpush 2 (Int.ofNat 1), 6, 1, 0, 0, 0)) xz))) (.branch 0 (.branch 0 (.branch 0 (.leaf (hpush 2 (Int.ofNat 0), 1, 1, 0, 0, 0)) xz) xz) (.branch 0 (.branch 0 (.leaf (hget, 3, 3, 10, 1, 0)) (.leaf (hret 1, 11, 1, 0, 0, 0))) (.branch 0 (.leaf (hbin (fun a b => a - b) (fun _ _ => true), 7, 1, 0, 0, 0)) xz)))
noncomputable def xp27 : xP := (((4, 2), xc27), [], 1, 3, 0, 0)
noncomputable def xc28 : Lean.RArray xEn := .branch 0 (.branch 0 (.branch 0 (.branch 0 (.branch 0 (.leaf (hloada 6, 0, 2, 0, 0, 0)) xz) xz) (.branch 0 (.branch 0 (.leaf (hload 2 1, 4, 1, 0, 0, 0)) xz) (.branch 0 xz (.leaf (hpush 2 (Int.ofNat 1), 28, 1, 0, 0, 0))))) (.branch 0 (.branch 0 (.branch 0 (.leaf (hpush 2 (Int.ofNat 0), 2, 1, 0, 0, 0)) xz) xz) (.branch 0 (.branch 0 (.leaf (hload 2 3, 6, 1, 0, 0, 0)) xz) xz))) (.branch 0 (.branch 0 (.branch 0 xz (.branch 0 (.leaf (hload 2 5, 9, 2, 0, 0, 0)) xz)) (.branch 0 (.branch 0 (.leaf (hload 2 2, 5, 1, 0, 0, 0)) xz) (.branch 0 xz (.leaf (hret 1, 29, 1, 0, 0, 0))))) (.branch 0 (.branch 0 (.branch 0 (.leaf (hloada 0, 3, 1, 0, 0, 0)) xz) (.branch 0 (.leaf (hcallv, 11, 3, 29, 0, 7)) xz)) (.branch 0 (.branch 0 (.leaf (hload 2 4, 7, 2, 0, 0, 0)) xz) xz)))
noncomputable def xp28 : xP := (((5, 8), xc28), [(0, 23, 4, 7, 28), (0, 23, 0, 7, 32)], 7, 1, 1, 6)
noncomputable def xc29 : Lean.RArray xEn := .branch 0 (.branch 0 (.leaf (hloada 0, 0, 1, 0, 0, 0)) (.leaf (hcallv, 2, 3, 24, 0, 7))) (.branch 0 (.leaf (hload 2 1, 1, 1, 0, 0, 0)) xz)
noncomputable def xp29 : xP := (((2, 9), xc29), [], 5, 3, 1, 6)
noncomputable def xc30 : Lean.RArray xEn := .branch 0 (.branch 0 (.branch 0 (.branch 0 (.branch 0 (.branch 0 (.leaf (hloada 0, 0, 1, 0, 0, 0)) xz) xz) (.branch 0 xz (.branch 0 xz (.leaf (hif .le, 56, 3, 61, 0, 0))))) (.branch 0 (.branch 0 xz (.branch 0 xz (.leaf (hloada 0, 52, 1, 0, 0, 0)))) (.branch 0 xz (.branch 0 xz (.leaf (hret 1, 60, 1, 0, 0, 0)))))) (.branch 0 (.branch 0 (.branch 0 (.branch 0 (.leaf (hload 2 1, 2, 1, 0, 0, 0)) xz) xz) (.branch 0 (.branch 0 (.leaf (hgoto, 10, 3, 49, 0, 0)) xz) xz)) (.branch 0 (.branch 0 (.branch 0 (.leaf (hif .ne, 6, 3, 13, 0, 0)) xz) xz) xz))) (.branch 0 (.branch 0 (.branch 0 (.branch 0 (.branch 0 (.leaf (hloada 0, 1, 1, 0, 0, 0)) xz) (.branch 0 xz (.leaf (hputf, 49, 3, 10, 0, 0)))) (.branch 0 (.branch 0 (.leaf (hpush 2 (Int.ofNat 1), 9, 1, 0, 0, 0)) xz) xz)) (.branch 0 (.branch 0 xz (.branch 0 xz (.leaf (hget, 53, 3, 10, 0, 0)))) xz)) (.branch 0 (.branch 0 (.branch 0 (.branch 0 (.leaf (hcallv, 3, 3, 27, 0, 10)) xz) xz) (.branch 0 xz (.branch 0 xz (.leaf (hpush 2 (Int.ofNat 0), 59, 1, 0, 0, 0))))) xz))
noncomputable def xp30 : xP := (((6, 7), xc30), [], 5, 3, 0, 0)
noncomputable def xc31 : Lean.RArray xEn := .branch 0 (.branch 0 (.branch 0 (.branch 0 (.branch 0 (.leaf (hloada 4, 0, 2, 0, 0, 0)) xz) xz) (.branch 0 (.branch 0 (.leaf (hload 2 1, 4, 1, 0, 0, 0)) xz) xz)) (.branch 0 (.branch 0 (.branch 0 (.leaf (hpush 2 (Int.ofNat 0), 2, 1, 0, 0, 0)) (.leaf (hret 1, 18, 1, 0, 0, 0))) xz) (.branch 0 (.branch 0 (.leaf (hload 2 3, 6, 1, 0, 0, 0)) xz) xz))) (.branch 0 (.branch 0 (.branch 0 (.branch 0 xz (.leaf (hpush 2 (Int.ofNat 1), 17, 1, 0, 0, 0))) xz) (.branch 0 (.branch 0 (.leaf (hload 2 2, 5, 1, 0, 0, 0)) xz) xz)) (.branch 0 (.branch 0 (.branch 0 (.leaf (hloada 0, 3, 1, 0, 0, 0)) xz) xz) (.branch 0 (.branch 0 (.leaf (hcallv, 7, 3, 32, 0, 7)) xz) xz)))
noncomputable def xp31 : xP := (((5, 6), xc31), [(0, 12, 4, 5, 17)], 5, 1, 1, 6)
noncomputable def xc32 : Lean.RArray xEn := .branch 0 (.branch 0 (.leaf (hloada 0, 0, 1, 0, 0, 0)) (.leaf (hcallv, 2, 3, 24, 0, 7))) (.branch 0 (.leaf (hload 2 1, 1, 1, 0, 0, 0)) xz)
noncomputable def xp32 : xP := (((2, 5), xc32), [], 3, 2, 1, 6)
noncomputable def xc33 : Lean.RArray xEn := .branch 0 (.branch 0 (.branch 0 (.branch 0 (.branch 0 (.leaf (hloada 0, 0, 1, 0, 0, 0)) xz) (.branch 0 xz (.leaf (hpush 2 (Int.ofNat 0), 24, 1, 0, 0, 0)))) xz) (.branch 0 (.branch 0 (.branch 0 (.leaf (hload 2 1, 2, 1, 0, 0, 0)) (.leaf (hget, 18, 3, 10, 0, 0))) xz) (.branch 0 (.branch 0 (.leaf (hif .eq, 6, 3, 13, 0, 0)) xz) (.branch 0 (.leaf (hputf, 14, 3, 10, 0, 0)) xz)))) (.branch 0 (.branch 0 (.branch 0 (.branch 0 (.leaf (hloada 0, 1, 1, 0, 0, 0)) (.leaf (hloada 0, 17, 1, 0, 0, 0))) (.branch 0 xz (.leaf (hret 1, 25, 1, 0, 0, 0)))) (.branch 0 (.branch 0 xz (.leaf (hif .le, 21, 3, 26, 0, 0))) (.branch 0 (.leaf (hpush 2 (Int.ofNat 1), 13, 1, 0, 0, 0)) xz))) (.branch 0 (.branch 0 (.branch 0 (.leaf (hcallv, 3, 3, 27, 0, 10)) xz) xz) xz))
noncomputable def xp33 : xP := (((5, 7), xc33), [], 3, 2, 0, 0)
noncomputable def xc34 : Lean.RArray xEn := .branch 0 (.branch 0 (.branch 0 (.branch 0 (.leaf (hloada 1, 0, 1, 0, 0, 0)) xz) (.branch 0 xz (.leaf (hpush 2 (Int.ofNat 1), 12, 1, 0, 0, 0)))) (.branch 0 (.branch 0 (.leaf (hloada 0, 2, 1, 0, 0, 0)) xz) xz)) (.branch 0 (.branch 0 (.branch 0 (.leaf (hpush 2 (Int.ofNat 0), 1, 1, 0, 0, 0)) xz) (.branch 0 xz (.leaf (hret 1, 13, 1, 0, 0, 0)))) (.branch 0 (.branch 0 (.leaf (hcallv, 3, 3, 35, 0, 7)) xz) xz))
noncomputable def xp34 : xP := (((4, 3), xc34), [(0, 8, 2, 2, 12)], 2, 1, 1, 6)
noncomputable def xc35 : Lean.RArray xEn := .branch 0 (.branch 0 (.branch 0 (.branch 0 (.leaf (hloada 0, 0, 1, 0, 0, 0)) xz) (.branch 0 (.leaf (hcallv, 4, 3, 36, 0, 3)) xz)) (.branch 0 (.branch 0 xz (.leaf (hnew, 10, 3, 2, 0, 1))) xz)) (.branch 0 (.branch 0 (.branch 0 (.leaf (hget, 1, 3, 7, 0, 5)) xz) xz) (.branch 0 xz (.branch 0 (.leaf (hif .ne, 7, 3, 20, 0, 0)) xz)))
noncomputable def xp35 : xP := (((4, 1), xc35), [], 0, 2, 1, 6)
noncomputable def xc36 : Lean.RArray xEn := .branch 0 (.branch 0 (.branch 0 (.branch 0 (.branch 0 (.leaf (hloada 0, 0, 1, 0, 0, 0)) xz) xz) (.branch 0 (.branch 0 (.leaf (hpush 2 (Int.ofNat 114), 4, 2, 0, 0, 0)) xz) xz)) (.branch 0 (.branch 0 xz (.branch 0 (.leaf (hget, 10, 3, 3, 9, 1)) xz)) (.branch 0 (.branch 0 (.leaf (hicmp .eq, 6, 3, 18, 0, 0)) (.leaf (hpush 2 (Int.ofNat 0), 22, 1, 0, 0, 0))) xz))) (.branch 0 (.branch 0 (.branch 0 (.branch 0 (.leaf (hget, 1, 3, 3, 9, 1)) xz) (.branch 0 (.leaf (hloada 0, 9, 1, 0, 0, 0)) xz)) (.branch 0 xz (.branch 0 (.leaf (hpush 2 (Int.ofNat 120), 13, 2, 0, 0, 0)) xz))) (.branch 0 xz (.branch 0 (.branch 0 xz (.leaf (hret 1, 23, 1, 0, 0, 0))) (.branch 0 (.leaf (hicmp .ne, 15, 3, 22, 0, 0)) xz))))
noncomputable def xp36 : xP := (((5, 1), xc36), [], 0, 3, 0, 0)
noncomputable def xc37 : Lean.RArray xEn := .branch 0 (.branch 0 (.branch 0 (.branch 0 (.branch 0 (.leaf (hloada 0, 0, 1, 0, 0, 0)) xz) xz) (.branch 0 (.branch 0 (.leaf (hstorea 1, 4, 1, 0, 0, 0)) xz) xz)) (.branch 0 (.branch 0 (.branch 0 xz (.leaf (hloada 1, 18, 1, 0, 0, 0))) (.branch 0 (.leaf (hpush 2 (Int.ofNat 1), 10, 1, 0, 0, 0)) xz)) (.branch 0 (.branch 0 (.leaf (hloada 1, 6, 1, 0, 0, 0)) (.leaf (hpush 2 (Int.ofNat 0), 22, 1, 0, 0, 0))) (.branch 0 xz (.leaf (hret 1, 30, 1, 0, 0, 0)))))) (.branch 0 (.branch 0 (.branch 0 (.branch 0 (.leaf (hcallv, 1, 3, 38, 0, 10)) xz) xz) (.branch 0 (.branch 0 (.leaf (hloada 0, 5, 1, 0, 0, 0)) xz) xz)) (.branch 0 (.branch 0 (.branch 0 xz (.leaf (hnull false, 19, 3, 26, 0, 0))) (.branch 0 (.leaf (hgoto, 11, 3, 15, 0, 0)) xz)) (.branch 0 (.branch 0 (.leaf (hnull false, 7, 3, 14, 0, 0)) (.leaf (hgoto, 23, 3, 30, 0, 0))) (.branch 0 (.leaf (hputf, 15, 3, 10, 0, 0)) xz))))
noncomputable def xp37 : xP := (((5, 2), xc37), [], 0, 2, 0, 0)
noncomputable def xc38 : Lean.RArray xEn := .branch 0 (.branch 0 (.branch 0 (.branch 0 (.branch 0 (.branch 0 (.leaf (hloada 0, 0, 1, 0, 0, 0)) (.leaf (hpush 0 (Int.ofNat 0), 32, 1, 0, 0, 0))) (.branch 0 (.leaf (hloada 0, 16, 1, 0, 0, 0)) xz)) xz) (.branch 0 (.branch 0 (.branch 0 (.leaf (hpush 2 (Int.ofNat 114), 4, 2, 0, 0, 0)) xz) (.branch 0 (.leaf (hpush 2 (Int.ofNat 120), 20, 2, 0, 0, 0)) xz)) xz)) (.branch 0 xz (.branch 0 (.branch 0 (.branch 0 (.leaf (hicmp .ne, 6, 3, 16, 0, 0)) xz) (.branch 0 (.leaf (hicmp .ne, 22, 3, 32, 0, 0)) xz)) xz))) (.branch 0 (.branch 0 (.branch 0 (.branch 0 (.branch 0 (.leaf (hget, 1, 3, 10, 24, 1)) (.leaf (hret 6, 33, 1, 0, 0, 0))) (.branch 0 (.leaf (hget, 17, 3, 10, 24, 1)) xz)) xz) xz) xz)
noncomputable def xp38 : xP := (((6, 1), xc38), [], 0, 6, 0, 0)
noncomputable def xc39 : Lean.RArray xEn := .branch 0 (.branch 0 (.branch 0 (.branch 0 (.leaf (hloada 1, 0, 1, 0, 0, 0)) xz) (.branch 0 xz (.leaf (hret 1, 12, 1, 0, 0, 0)))) (.branch 0 (.branch 0 (.leaf (hloada 0, 2, 1, 0, 0, 0)) xz) xz)) (.branch 0 (.branch 0 (.branch 0 (.leaf (hpush 2 (Int.ofNat 0), 1, 1, 0, 0, 0)) xz) xz) (.branch 0 (.branch 0 (.leaf (hcallv, 3, 3, 40, 0, 7)) (.leaf (hpush 2 (Int.ofNat 1), 11, 1, 0, 0, 0))) xz))
noncomputable def xp39 : xP := (((4, 3), xc39), [(0, 7, 2, 2, 11)], 2, 1, 1, 6)
noncomputable def xc40 : Lean.RArray xEn := .branch 0 (.branch 0 (.branch 0 (.branch 0 (.branch 0 (.leaf (hloada 0, 0, 1, 0, 0, 0)) xz) xz) (.branch 0 (.branch 0 (.leaf (hcallv, 4, 3, 36, 0, 3)) xz) xz)) xz) (.branch 0 (.branch 0 (.branch 0 (.branch 0 (.leaf (hget, 1, 3, 7, 0, 5)) xz) xz) xz) (.branch 0 xz (.branch 0 (.branch 0 (.leaf (hif .eq, 7, 3, 23, 0, 0)) (.leaf (hnew, 23, 3, 2, 0, 1))) xz)))
noncomputable def xp40 : xP := (((5, 1), xc40), [], 0, 5, 1, 6)
noncomputable def xc41 : Lean.RArray xEn := .branch 0 (.branch 0 (.branch 0 (.branch 0 (.branch 0 (.branch 0 (.leaf (hloada 0, 0, 1, 0, 0, 0)) (.leaf (hpush 4 (Int.ofNat 0), 32, 1, 0, 0, 0))) xz) (.branch 0 (.branch 0 xz (.leaf (hret 5, 40, 1, 0, 0, 0))) xz)) (.branch 0 (.branch 0 (.branch 0 (.leaf (hstorea 1, 4, 1, 0, 0, 0)) xz) xz) xz)) (.branch 0 (.branch 0 (.branch 0 xz (.branch 0 (.leaf (hgoto, 18, 3, 22, 0, 0)) xz)) (.branch 0 xz (.branch 0 (.leaf (hget, 26, 3, 10, 0, 0)) xz))) (.branch 0 (.branch 0 (.branch 0 (.leaf (hloada 1, 6, 1, 0, 0, 0)) xz) (.branch 0 (.leaf (hputf, 22, 3, 10, 0, 0)) xz)) xz))) (.branch 0 (.branch 0 (.branch 0 (.branch 0 (.branch 0 (.leaf (hcallv, 1, 3, 38, 0, 10)) (.leaf (hgoto, 33, 3, 40, 0, 0))) (.branch 0 (.leaf (hpush 2 (Int.ofNat 1), 17, 1, 0, 0, 0)) xz)) (.branch 0 xz (.branch 0 (.leaf (hloada 0, 25, 1, 0, 0, 0)) xz))) (.branch 0 (.branch 0 (.branch 0 (.leaf (hloada 0, 5, 1, 0, 0, 0)) xz) xz) (.branch 0 xz (.branch 0 (.leaf (hif .le, 29, 3, 36, 0, 0)) xz)))) (.branch 0 xz (.branch 0 (.branch 0 (.branch 0 (.leaf (hnull true, 7, 3, 17, 0, 0)) xz) xz) xz)))
noncomputable def xp41 : xP := (((6, 2), xc41), [], 0, 5, 0, 0)
noncomputable def xc42 : Lean.RArray xEn := .branch 0 (.branch 0 (.branch 0 (.branch 0 (.leaf (hloada 1, 0, 1, 0, 0, 0)) xz) (.branch 0 xz (.leaf (hret 1, 12, 1, 0, 0, 0)))) (.branch 0 (.branch 0 (.leaf (hloada 0, 2, 1, 0, 0, 0)) xz) xz)) (.branch 0 (.branch 0 (.branch 0 (.leaf (hpush 2 (Int.ofNat 0), 1, 1, 0, 0, 0)) xz) xz) (.branch 0 (.branch 0 (.leaf (hcallv, 3, 3, 43, 0, 7)) (.leaf (hpush 2 (Int.ofNat 1), 11, 1, 0, 0, 0))) xz))
noncomputable def xp42 : xP := (((4, 3), xc42), [(0, 7, 2, 2, 11)], 2, 1, 1, 6)
noncomputable def xc43 : Lean.RArray xEn := .branch 0 (.branch 0 (.branch 0 (.branch 0 (.branch 0 (.leaf (hloada 0, 0, 1, 0, 0, 0)) xz) xz) (.branch 0 (.branch 0 (.leaf (hcallv, 4, 3, 36, 0, 3)) xz) xz)) xz) (.branch 0 (.branch 0 (.branch 0 (.branch 0 (.leaf (hget, 1, 3, 7, 0, 5)) xz) xz) xz) (.branch 0 xz (.branch 0 (.branch 0 (.leaf (hif .eq, 7, 3, 23, 0, 0)) (.leaf (hnew, 23, 3, 2, 0, 1))) xz)))
noncomputable def xp43 : xP := (((5, 1), xc43), [], 0, 4, 1, 6)
noncomputable def xc44 : Lean.RArray xEn := .branch 0 (.branch 0 (.branch 0 (.branch 0 (.branch 0 (.branch 0 (.leaf (hloada 0, 0, 1, 0, 0, 0)) xz) xz) xz) (.branch 0 (.branch 0 (.branch 0 (.leaf (hstorea 1, 4, 1, 0, 0, 0)) xz) (.branch 0 xz (.leaf (hpush 3 (Int.ofNat 0), 52, 1, 0, 0, 0)))) (.branch 0 xz (.branch 0 xz (.leaf (hret 4, 60, 1, 0, 0, 0)))))) (.branch 0 (.branch 0 xz (.branch 0 (.branch 0 xz (.leaf (hputf, 42, 3, 10, 0, 0))) xz)) (.branch 0 (.branch 0 (.branch 0 (.leaf (hloada 1, 6, 1, 0, 0, 0)) (.leaf (hgoto, 38, 3, 42, 0, 0))) xz) (.branch 0 (.branch 0 xz (.leaf (hget, 46, 3, 10, 0, 0))) xz)))) (.branch 0 (.branch 0 (.branch 0 (.branch 0 (.branch 0 (.leaf (hcallv, 1, 3, 38, 0, 10)) xz) (.branch 0 xz (.leaf (hif .le, 49, 3, 56, 0, 0)))) xz) (.branch 0 (.branch 0 (.branch 0 (.leaf (hloada 0, 5, 1, 0, 0, 0)) (.leaf (hpush 2 (Int.ofNat 1), 37, 1, 0, 0, 0))) (.branch 0 xz (.leaf (hgoto, 53, 3, 60, 0, 0)))) (.branch 0 (.branch 0 xz (.leaf (hloada 0, 45, 1, 0, 0, 0))) xz))) (.branch 0 xz (.branch 0 (.branch 0 (.branch 0 (.leaf (hnull true, 7, 3, 37, 0, 0)) xz) xz) xz)))
noncomputable def xp44 : xP := (((6, 2), xc44), [], 0, 4, 0, 0)
noncomputable def xc45 : Lean.RArray xEn := .branch 0 (.branch 0 (.branch 0 (.branch 0 (.leaf (hloada 1, 0, 1, 0, 0, 0)) xz) (.branch 0 xz (.leaf (hpush 2 (Int.ofNat 1), 12, 1, 0, 0, 0)))) (.branch 0 (.branch 0 (.leaf (hloada 0, 2, 1, 0, 0, 0)) xz) xz)) (.branch 0 (.branch 0 (.branch 0 (.leaf (hpush 2 (Int.ofNat 0), 1, 1, 0, 0, 0)) xz) (.branch 0 xz (.leaf (hret 1, 13, 1, 0, 0, 0)))) (.branch 0 (.branch 0 (.leaf (hcallv, 3, 3, 46, 0, 7)) xz) xz))
noncomputable def xp45 : xP := (((4, 3), xc45), [(0, 8, 2, 2, 12)], 2, 1, 1, 6)
noncomputable def xc46 : Lean.RArray xEn := .branch 0 (.leaf (hloada 0, 0, 1, 0, 0, 0)) (.leaf (hcallv, 1, 3, 47, 0, 7))
noncomputable def xp46 : xP := (((1, 1), xc46), [], 0, 1, 1, 6)
noncomputable def xc47 : Lean.RArray xEn := .branch 0 (.branch 0 (.branch 0 (.branch 0 (.leaf (hloada 0, 0, 1, 0, 0, 0)) xz) (.branch 0 (.leaf (hget, 4, 3, 3, 9, 1)) (.leaf (hnew, 12, 3, 2, 0, 1)))) xz) (.branch 0 (.branch 0 (.branch 0 (.leaf (hget, 1, 3, 7, 0, 5)) (.leaf (hicmp .eq, 9, 3, 23, 0, 0))) xz) (.branch 0 xz (.branch 0 (.leaf (hpush 2 (Int.ofNat 120), 7, 2, 0, 0, 0)) xz)))
noncomputable def xp47 : xP := (((4, 1), xc47), [], 0, 0, 1, 6)
noncomputable def xc48 : Lean.RArray xEn := .branch 0 (.branch 0 (.branch 0 (.branch 0 (.branch 0 (.leaf (hloada 0, 0, 1, 0, 0, 0)) xz) xz) xz) (.branch 0 (.branch 0 (.branch 0 (.leaf (hputf, 2, 3, 10, 0, 0)) xz) (.branch 0 xz (.leaf (hret 1, 26, 1, 0, 0, 0)))) (.branch 0 (.branch 0 (.leaf (hget, 6, 3, 10, 24, 1)) (.leaf (hpush 2 (Int.ofNat 1), 22, 1, 0, 0, 0))) xz))) (.branch 0 (.branch 0 (.branch 0 (.branch 0 (.leaf (hpush 2 (Int.ofNat 0), 1, 1, 0, 0, 0)) xz) (.branch 0 (.leaf (hpush 2 (Int.ofNat 120), 9, 2, 0, 0, 0)) xz)) (.branch 0 (.branch 0 (.leaf (hloada 0, 5, 1, 0, 0, 0)) (.leaf (hloada 0, 21, 1, 0, 0, 0))) xz)) (.branch 0 (.branch 0 xz (.branch 0 (.leaf (hicmp .ne, 11, 3, 21, 0, 0)) xz)) (.branch 0 (.branch 0 xz (.leaf (hcallv, 23, 3, 19, 0, 10))) xz)))
noncomputable def xp48 : xP := (((5, 1), xc48), [], 0, 1, 0, 0)
noncomputable def xc49 : Lean.RArray xEn := .branch 0 (.branch 0 (.branch 0 (.branch 0 (.leaf (hloada 2, 0, 1, 0, 0, 0)) xz) (.branch 0 (.leaf (hcallv, 4, 3, 50, 0, 7)) xz)) (.branch 0 (.branch 0 (.leaf (hloada 0, 2, 1, 0, 0, 0)) xz) (.branch 0 xz (.leaf (hret 1, 14, 1, 0, 0, 0))))) (.branch 0 (.branch 0 (.branch 0 (.leaf (hpush 2 (Int.ofNat 0), 1, 1, 0, 0, 0)) xz) (.branch 0 xz (.leaf (hpush 2 (Int.ofNat 1), 13, 1, 0, 0, 0)))) (.branch 0 (.branch 0 (.leaf (hload 2 1, 3, 1, 0, 0, 0)) xz) xz))
noncomputable def xp49 : xP := (((4, 4), xc49), [(0, 9, 2, 3, 13), (0, 9, 4, 3, 16)], 3, 1, 1, 6)
noncomputable def xc50 : Lean.RArray xEn := .branch 0 (.leaf (hloada 0, 0, 1, 0, 0, 0)) (.leaf (hcallv, 1, 3, 47, 0, 7))
noncomputable def xp50 : xP := (((1, 2), xc50), [], 1, 1, 1, 6)
noncomputable def xc51 : Lean.RArray xEn := .branch 0 (.branch 0 (.branch 0 (.branch 0 (.branch 0 (.leaf (hloada 0, 0, 1, 0, 0, 0)) (.leaf (hcallv, 16, 3, 19, 0, 10))) xz) xz) (.branch 0 (.branch 0 (.branch 0 (.leaf (hputf, 2, 3, 10, 0, 0)) xz) xz) (.branch 0 (.branch 0 (.leaf (hget, 6, 3, 10, 24, 1)) xz) (.branch 0 (.leaf (hloada 0, 14, 1, 0, 0, 0)) xz)))) (.branch 0 (.branch 0 (.branch 0 (.branch 0 (.leaf (hpush 2 (Int.ofNat 0), 1, 1, 0, 0, 0)) xz) (.branch 0 (.leaf (hpush 2 (Int.ofNat 120), 9, 2, 0, 0, 0)) xz)) (.branch 0 (.branch 0 (.leaf (hloada 0, 5, 1, 0, 0, 0)) xz) xz)) (.branch 0 (.branch 0 (.branch 0 xz (.leaf (hret 1, 19, 1, 0, 0, 0))) (.branch 0 (.leaf (hicmp .eq, 11, 3, 20, 0, 0)) xz)) (.branch 0 xz (.branch 0 (.leaf (hpush 2 (Int.ofNat 1), 15, 1, 0, 0, 0)) xz))))
noncomputable def xp51 : xP := (((5, 2), xc51), [], 1, 1, 0, 0)
noncomputable def xc52 : Lean.RArray xEn := .branch 0 (.branch 0 (.branch 0 (.branch 0 (.leaf (hloada 1, 0, 1, 0, 0, 0)) xz) (.branch 0 xz (.leaf (hpush 2 (Int.ofNat 1), 12, 1, 0, 0, 0)))) (.branch 0 (.branch 0 (.leaf (hloada 0, 2, 1, 0, 0, 0)) xz) xz)) (.branch 0 (.branch 0 (.branch 0 (.leaf (hpush 2 (Int.ofNat 0), 1, 1, 0, 0, 0)) xz) (.branch 0 xz (.leaf (hret 1, 13, 1, 0, 0, 0)))) (.branch 0 (.branch 0 (.leaf (hcallv, 3, 3, 53, 0, 7)) xz) xz))
noncomputable def xp52 : xP := (((4, 3), xc52), [(0, 8, 2, 2, 12)], 2, 1, 1, 6)
noncomputable def xc53 : Lean.RArray xEn := .branch 0 (.leaf (hloada 0, 0, 1, 0, 0, 0)) (.leaf (hcallv, 1, 3, 47, 0, 7))
noncomputable def xp53 : xP := (((1, 1), xc53), [], 0, 1, 1, 6)
noncomputable def xc54 : Lean.RArray xEn := .branch 0 (.branch 0 (.branch 0 (.branch 0 (.branch 0 (.leaf (hloada 0, 0, 1, 0, 0, 0)) xz) xz) xz) (.branch 0 (.branch 0 (.branch 0 (.leaf (hputf, 2, 3, 10, 0, 0)) xz) (.branch 0 xz (.leaf (hret 1, 26, 1, 0, 0, 0)))) (.branch 0 (.branch 0 (.leaf (hget, 6, 3, 10, 24, 1)) (.leaf (hpush 2 (Int.ofNat 1), 22, 1, 0, 0, 0))) xz))) (.branch 0 (.branch 0 (.branch 0 (.branch 0 (.leaf (hpush 2 (Int.ofNat 0), 1, 1, 0, 0, 0)) xz) (.branch 0 (.leaf (hpush 2 (Int.ofNat 120), 9, 2, 0, 0, 0)) xz)) (.branch 0 (.branch 0 (.leaf (hloada 0, 5, 1, 0, 0, 0)) (.leaf (hloada 0, 21, 1, 0, 0, 0))) xz)) (.branch 0 (.branch 0 xz (.branch 0 (.leaf (hicmp .ne, 11, 3, 21, 0, 0)) xz)) (.branch 0 (.branch 0 xz (.leaf (hcallv, 23, 3, 19, 0, 10))) xz)))
noncomputable def xp54 : xP := (((5, 1), xc54), [], 0, 1, 0, 0)
noncomputable def xc55 : Lean.RArray xEn := .branch 0 (.branch 0 (.branch 0 (.branch 0 (.branch 0 (.leaf (hloada 4, 0, 2, 0, 0, 0)) xz) xz) (.branch 0 (.branch 0 (.leaf (hload 2 1, 4, 1, 0, 0, 0)) (.leaf (hret 1, 20, 1, 0, 0, 0))) (.branch 0 (.leaf (hgoto, 12, 3, 19, 0, 0)) xz))) (.branch 0 (.branch 0 (.branch 0 (.leaf (hpush 2 (Int.ofNat 0), 2, 1, 0, 0, 0)) (.leaf (hret 1, 18, 1, 0, 0, 0))) (.branch 0 (.leaf (hconv (fun a => cond (Nat.beq a 2) 3 7) (fun a z => cond (Nat.beq a 2) (xin32 z) (Nat.beq a 5)), 10, 1, 0, 0, 0)) xz)) (.branch 0 (.branch 0 (.leaf (hload 2 3, 6, 1, 0, 0, 0)) xz) xz))) (.branch 0 (.branch 0 (.branch 0 (.branch 0 xz (.leaf (hpush 2 (Int.ofNat 1), 17, 1, 0, 0, 0))) xz) (.branch 0 (.branch 0 (.leaf (hload 2 2, 5, 1, 0, 0, 0)) xz) xz)) (.branch 0 (.branch 0 (.branch 0 (.leaf (hloada 0, 3, 1, 0, 0, 0)) (.leaf (hpush 2 (Int.ofNat 0), 19, 1, 0, 0, 0))) (.branch 0 (.leaf (hast 3 3, 11, 1, 0, 0, 0)) xz)) (.branch 0 (.branch 0 (.leaf (hcallv, 7, 3, 56, 0, 7)) xz) xz)))
noncomputable def xp55 : xP := (((5, 6), xc55), [(0, 12, 4, 5, 17)], 5, 1, 2, 12)
noncomputable def xc56 : Lean.RArray xEn := .branch 0 (.branch 0 (.branch 0 (.branch 0 (.branch 0 (.branch 0 (.leaf (hload 2 1, 0, 1, 0, 0, 0)) xz) xz) (.branch 0 xz (.branch 0 (.leaf (hcallv, 24, 3, 62, 0, 2)) xz))) (.branch 0 (.branch 0 xz (.branch 0 (.leaf (hloada 0, 20, 1, 0, 0, 0)) xz)) (.branch 0 xz (.branch 0 (.leaf (hget, 28, 3, 7, 1, 5)) xz)))) (.branch 0 (.branch 0 (.branch 0 (.branch 0 (.leaf (hcalls, 2, 3, 57, 0, 0)) (.leaf (hret 1, 34, 1, 0, 0, 0))) (.branch 0 (.leaf (hload 2 1, 18, 1, 0, 0, 0)) xz)) (.branch 0 (.branch 0 (.leaf (hload 2 3, 10, 1, 0, 0, 0)) xz) xz)) (.branch 0 (.branch 0 (.branch 0 (.leaf (hget, 6, 3, 7, 2, 5)) xz) xz) (.branch 0 (.branch 0 (.leaf (hloada 0, 14, 1, 0, 0, 0)) xz) xz)))) (.branch 0 (.branch 0 (.branch 0 (.branch 0 (.branch 0 (.leaf (hload 2 2, 1, 1, 0, 0, 0)) xz) xz) (.branch 0 (.branch 0 (.leaf (hload 2 1, 9, 1, 0, 0, 0)) xz) xz)) (.branch 0 (.branch 0 (.branch 0 (.leaf (hloada 0, 5, 1, 0, 0, 0)) xz) (.branch 0 (.leaf (hget, 21, 3, 7, 2, 5)) xz)) xz)) (.branch 0 (.branch 0 (.branch 0 xz (.branch 0 (.leaf (hload 2 2, 19, 1, 0, 0, 0)) xz)) (.branch 0 (.branch 0 (.leaf (hcallv, 11, 3, 60, 0, 6)) xz) (.branch 0 (.leaf (hloada 0, 27, 1, 0, 0, 0)) xz))) (.branch 0 xz (.branch 0 (.branch 0 (.leaf (hget, 15, 3, 7, 1, 5)) xz) (.branch 0 (.leaf (hcallv, 31, 3, 66, 0, 2)) xz)))))
noncomputable def xp56 : xP := (((6, 4), xc56), [], 3, 1, 2, 12)
noncomputable def xc57 : Lean.RArray xEn := .branch 0 (.branch 0 (.branch 0 (.branch 0 (.leaf (hload 2 0, 0, 1, 0, 0, 0)) (.leaf (hcalls, 8, 3, 25, 0, 0))) xz) (.branch 0 (.branch 0 (.leaf (hcalls, 2, 3, 25, 0, 0)) xz) (.branch 0 (.leaf (hpush 2 (Int.ofNat 8), 6, 2, 0, 0, 0)) xz))) (.branch 0 (.branch 0 (.branch 0 (.leaf (hpush 2 (Int.ofNat 3), 1, 1, 0, 0, 0)) xz) (.branch 0 (.leaf (hload 2 1, 5, 1, 0, 0, 0)) xz)) (.branch 0 (.branch 0 xz (.leaf (hret 0, 11, 1, 0, 0, 0))) xz))
noncomputable def xp57 : xP := (((4, 2), xc57), [], 2, 0, 2, 12)
noncomputable def xc58 : Lean.RArray xEn := .branch 0 (.branch 0 (.branch 0 (.branch 0 (.branch 0 (.branch 0 (.leaf (hloada 0, 0, 1, 0, 0, 0)) (.leaf (hcallv, 32, 3, 74, 0, 10))) xz) (.branch 0 xz (.branch 0 (.leaf (hconv (fun a => cond (Nat.beq a 2) 3 7) (fun a z => cond (Nat.beq a 2) (xin32 z) (Nat.beq a 5)), 24, 1, 0, 0, 0)) xz))) (.branch 0 (.branch 0 xz (.branch 0 (.leaf (hload 2 1, 20, 1, 0, 0, 0)) xz)) (.branch 0 xz (.branch 0 (.leaf (hcallv, 28, 3, 73, 0, 10)) xz)))) (.branch 0 (.branch 0 (.branch 0 (.branch 0 (.leaf (hputf, 2, 3, 10, 0, 0)) xz) (.branch 0 (.leaf (hret 1, 18, 1, 0, 0, 0)) xz)) (.branch 0 (.branch 0 (.leaf (hif .ne, 10, 3, 19, 0, 0)) xz) xz)) (.branch 0 (.branch 0 (.branch 0 (.leaf (hload 2 2, 6, 1, 0, 0, 0)) xz) (.branch 0 (.leaf (hload 2 1, 22, 1, 0, 0, 0)) xz)) (.branch 0 (.branch 0 (.leaf (hpush 2 (Int.ofNat 1), 14, 1, 0, 0, 0)) xz) xz)))) (.branch 0 (.branch 0 (.branch 0 (.branch 0 (.branch 0 (.leaf (hpush 2 (Int.ofNat 0), 1, 1, 0, 0, 0)) xz) xz) (.branch 0 xz (.branch 0 (.leaf (hcalls, 25, 3, 71, 0, 0)) xz))) (.branch 0 (.branch 0 (.branch 0 (.leaf (hload 2 1, 5, 1, 0, 0, 0)) xz) (.branch 0 (.leaf (hload 2 2, 21, 1, 0, 0, 0)) xz)) (.branch 0 (.branch 0 (.leaf (hloada 0, 13, 1, 0, 0, 0)) xz) xz))) (.branch 0 (.branch 0 (.branch 0 (.branch 0 xz (.leaf (hret 1, 35, 1, 0, 0, 0))) (.branch 0 (.leaf (hloada 0, 19, 1, 0, 0, 0)) xz)) xz) (.branch 0 (.branch 0 (.branch 0 (.leaf (hcalls, 7, 3, 59, 0, 0)) xz) (.branch 0 (.leaf (hload 2 3, 23, 1, 0, 0, 0)) xz)) (.branch 0 (.branch 0 (.leaf (hcallv, 15, 3, 19, 0, 10)) xz) (.branch 0 (.leaf (hloada 0, 31, 1, 0, 0, 0)) xz)))))
noncomputable def xp58 : xP := (((6, 4), xc58), [], 3, 1, 1, 4)
noncomputable def xc59 : Lean.RArray xEn := .branch 0 (.branch 0 (.branch 0 (.branch 0 (.branch 0 (.leaf (hload 2 0, 0, 1, 0, 0, 0)) xz) (.branch 0 (.leaf (hpush 2 (Int.ofNat 0), 8, 1, 0, 0, 0)) xz)) (.branch 0 (.branch 0 (.leaf (hif .eq, 4, 3, 21, 0, 0)) xz) xz)) (.branch 0 (.branch 0 (.branch 0 xz (.leaf (hgoto, 18, 3, 22, 0, 0))) xz) (.branch 0 (.branch 0 xz (.leaf (hret 1, 22, 1, 0, 0, 0))) (.branch 0 (.leaf (hif .eq, 14, 3, 21, 0, 0)) xz)))) (.branch 0 (.branch 0 (.branch 0 (.branch 0 (.leaf (hcalls, 1, 3, 17, 0, 0)) (.leaf (hpush 2 (Int.ofNat 1), 17, 1, 0, 0, 0))) (.branch 0 (.leaf (hpush 2 (Int.ofNat 7), 9, 2, 0, 0, 0)) xz)) (.branch 0 (.branch 0 xz (.leaf (hpush 2 (Int.ofNat 0), 21, 1, 0, 0, 0))) xz)) (.branch 0 (.branch 0 xz (.branch 0 (.leaf (hcalls, 11, 3, 18, 0, 0)) xz)) (.branch 0 (.branch 0 (.leaf (hload 2 1, 7, 1, 0, 0, 0)) xz) xz)))
noncomputable def xp59 : xP := (((5, 2), xc59), [], 2, 3, 0, 0)
noncomputable def xc60 : Lean.RArray xEn := .branch 0 (.branch 0 (.branch 0 (.branch 0 (.branch 0 (.leaf (hload 2 1, 0, 1, 0, 0, 0)) (.leaf (hicmp .ne, 16, 3, 24, 0, 0))) (.branch 0 xz (.leaf (hpush 2 (Int.ofNat 106), 24, 2, 0, 0, 0)))) (.branch 0 (.branch 0 (.leaf (hloada 0, 4, 1, 0, 0, 0)) xz) (.branch 0 xz (.leaf (hcallv, 28, 3, 75, 0, 6))))) (.branch 0 (.branch 0 xz (.branch 0 (.leaf (hgoto, 10, 3, 31, 0, 0)) (.leaf (hload 2 2, 26, 1, 0, 0, 0)))) (.branch 0 (.branch 0 (.leaf (hconv (fun _ => 8) (fun a _ => Nat.beq a 5), 6, 1, 0, 0, 0)) xz) (.branch 0 (.leaf (hload 2 1, 14, 1, 0, 0, 0)) xz)))) (.branch 0 (.branch 0 (.branch 0 (.branch 0 (.leaf (hif .ne, 1, 3, 13, 0, 0)) xz) xz) (.branch 0 (.branch 0 (.leaf (hload 2 2, 5, 1, 0, 0, 0)) (.leaf (hgoto, 21, 3, 26, 0, 0))) (.branch 0 (.leaf (hloada 0, 13, 1, 0, 0, 0)) xz))) (.branch 0 (.branch 0 (.branch 0 xz (.leaf (hpush 2 (Int.ofNat 105), 19, 2, 0, 0, 0))) (.branch 0 xz (.leaf (hconv (fun a => cond (Nat.beq a 2) 3 7) (fun a z => cond (Nat.beq a 2) (xin32 z) (Nat.beq a 5)), 27, 1, 0, 0, 0)))) (.branch 0 (.branch 0 (.leaf (hcallv, 7, 3, 61, 0, 6)) xz) (.branch 0 (.leaf (hpush 2 (Int.ofNat 1), 15, 1, 0, 0, 0)) (.leaf (hret 0, 31, 1, 0, 0, 0))))))
noncomputable def xp60 : xP := (((5, 3), xc60), [], 2, 0, 0, 0)
noncomputable def xc61 : Lean.RArray xEn := .branch 0 (.branch 0 (.branch 0 (.branch 0 (.branch 0 (.leaf (hloada 0, 0, 1, 0, 0, 0)) (.leaf (hloada 0, 16, 1, 0, 0, 0))) (.branch 0 (.leaf (hputf, 8, 3, 6, 1, 4)) xz)) (.branch 0 xz (.branch 0 (.leaf (hpush 2 (Int.ofNat 0), 12, 1, 0, 0, 0)) xz))) (.branch 0 (.branch 0 (.branch 0 xz (.leaf (hputf, 18, 3, 6, 5, 5))) xz) (.branch 0 (.branch 0 (.leaf (hloada 0, 6, 1, 0, 0, 0)) xz) xz))) (.branch 0 (.branch 0 (.branch 0 (.branch 0 (.leaf (hpush 2 (Int.ofNat 100), 1, 2, 0, 0, 0)) (.leaf (hpush 0 (Int.ofNat 0), 17, 1, 0, 0, 0))) xz) (.branch 0 (.branch 0 xz (.leaf (hret 0, 21, 1, 0, 0, 0))) (.branch 0 (.leaf (hputf, 13, 3, 6, 2, 2)) xz))) (.branch 0 (.branch 0 (.branch 0 (.leaf (hputf, 3, 3, 6, 0, 1)) xz) (.branch 0 (.leaf (hloada 0, 11, 1, 0, 0, 0)) xz)) (.branch 0 (.branch 0 (.leaf (hload 4 1, 7, 1, 0, 0, 0)) xz) xz)))
noncomputable def xp61 : xP := (((5, 3), xc61), [], 1, 0, 0, 0)
noncomputable def xc62 : Lean.RArray xEn := .branch 0 (.branch 0 (.branch 0 (.branch 0 (.leaf (hloada 0, 0, 1, 0, 0, 0)) xz) (.branch 0 xz (.leaf (hcalls, 12, 3, 65, 0, 0)))) (.branch 0 (.branch 0 (.leaf (hload 2 2, 2, 1, 0, 0, 0)) (.leaf (hload 2 1, 10, 1, 0, 0, 0))) (.branch 0 (.leaf (hloada 3, 6, 1, 0, 0, 0)) xz))) (.branch 0 (.branch 0 (.branch 0 (.leaf (hload 2 1, 1, 1, 0, 0, 0)) xz) xz) (.branch 0 (.branch 0 (.leaf (hcallv, 3, 3, 63, 0, 2)) (.leaf (hloada 3, 11, 1, 0, 0, 0))) (.branch 0 (.leaf (hcallv, 7, 3, 64, 0, 6)) (.leaf (hret 0, 15, 1, 0, 0, 0)))))
noncomputable def xp62 : xP := (((4, 4), xc62), [], 3, 0, 0, 0)
noncomputable def xc63 : Lean.RArray xEn := .branch 0 (.branch 0 (.branch 0 (.branch 0 (.leaf (hloada 0, 0, 1, 0, 0, 0)) (.leaf (hload 2 2, 8, 1, 0, 0, 0))) (.branch 0 (.leaf (hload 2 1, 4, 1, 0, 0, 0)) xz)) (.branch 0 (.branch 0 xz (.leaf (hald 5 10, 10, 1, 0, 0, 0))) xz)) (.branch 0 (.branch 0 (.branch 0 (.leaf (hget, 1, 3, 2, 0, 5)) (.leaf (hbin (fun a b => a + b) (fun _ _ => true), 9, 1, 0, 0, 0))) (.branch 0 (.leaf (hpush 2 (Int.ofNat 8), 5, 2, 0, 0, 0)) xz)) (.branch 0 (.branch 0 xz (.leaf (hret 6, 11, 1, 0, 0, 0))) (.branch 0 (.leaf (hbin (fun a b => a * b) (fun _ _ => true), 7, 1, 0, 0, 0)) xz)))
noncomputable def xp63 : xP := (((4, 3), xc63), [], 2, 6, 0, 0)
noncomputable def xc64 : Lean.RArray xEn := .branch 0 (.branch 0 (.branch 0 (.branch 0 (.branch 0 (.branch 0 (.leaf (hloada 0, 0, 1, 0, 0, 0)) (.leaf (hloada 0, 32, 1, 0, 0, 0))) (.branch 0 (.leaf (hloada 0, 16, 1, 0, 0, 0)) (.leaf (hret 0, 48, 1, 0, 0, 0)))) (.branch 0 (.branch 0 (.leaf (hloada 0, 8, 1, 0, 0, 0)) (.leaf (hloada 0, 40, 1, 0, 0, 0))) (.branch 0 (.leaf (hloada 0, 24, 1, 0, 0, 0)) xz))) xz) (.branch 0 (.branch 0 (.branch 0 (.branch 0 (.leaf (hget, 2, 3, 6, 0, 1)) (.leaf (hget, 34, 3, 6, 4, 0))) (.branch 0 (.leaf (hget, 18, 3, 6, 2, 2)) xz)) (.branch 0 (.branch 0 (.leaf (hget, 10, 3, 6, 1, 4)) (.leaf (hget, 42, 3, 6, 5, 5))) (.branch 0 (.leaf (hget, 26, 3, 6, 3, 3)) xz))) xz)) (.branch 0 (.branch 0 (.branch 0 (.branch 0 (.branch 0 (.leaf (hloada 1, 1, 1, 0, 0, 0)) (.leaf (hloada 1, 33, 1, 0, 0, 0))) (.branch 0 (.leaf (hloada 1, 17, 1, 0, 0, 0)) xz)) (.branch 0 (.branch 0 (.leaf (hloada 1, 9, 1, 0, 0, 0)) (.leaf (hloada 1, 41, 1, 0, 0, 0))) (.branch 0 (.leaf (hloada 1, 25, 1, 0, 0, 0)) xz))) (.branch 0 (.branch 0 (.branch 0 (.leaf (hputf, 5, 3, 6, 0, 1)) (.leaf (hputf, 37, 3, 6, 4, 0))) (.branch 0 (.leaf (hputf, 21, 3, 6, 2, 2)) xz)) (.branch 0 (.branch 0 (.leaf (hputf, 13, 3, 6, 1, 4)) (.leaf (hputf, 45, 3, 6, 5, 5))) (.branch 0 (.leaf (hputf, 29, 3, 6, 3, 3)) xz)))) xz)
noncomputable def xp64 : xP := (((6, 2), xc64), [], 1, 0, 0, 0)
noncomputable def xc65 : Lean.RArray xEn := .branch 0 (.branch 0 (.branch 0 (.branch 0 (.branch 0 (.leaf (hload 2 0, 0, 1, 0, 0, 0)) xz) (.branch 0 (.leaf (hif .eq, 8, 3, 29, 0, 0)) xz)) (.branch 0 (.branch 0 (.leaf (hloada 1, 4, 1, 0, 0, 0)) xz) (.branch 0 (.leaf (hget, 12, 3, 6, 5, 5)) xz))) (.branch 0 (.branch 0 (.branch 0 xz (.leaf (hif .ne, 18, 3, 29, 0, 0))) xz) xz)) (.branch 0 (.branch 0 (.branch 0 (.branch 0 (.leaf (hif .eq, 1, 3, 29, 0, 0)) xz) xz) (.branch 0 (.branch 0 (.leaf (hcallv, 5, 3, 69, 0, 6)) xz) (.branch 0 xz (.leaf (hret 0, 29, 1, 0, 0, 0))))) (.branch 0 (.branch 0 xz (.branch 0 (.leaf (hloada 1, 11, 1, 0, 0, 0)) xz)) (.branch 0 xz (.branch 0 (.leaf (hget, 15, 3, 5, 1, 0)) xz))))
noncomputable def xp65 : xP := (((5, 2), xc65), [], 2, 0, 0, 0)
noncomputable def xc66 : Lean.RArray xEn := .branch 0 (.branch 0 (.branch 0 (.branch 0 (.branch 0 (.branch 0 (.branch 0 (.leaf (hloada 0, 0, 1, 0, 0, 0)) (.leaf (hcallv, 64, 3, 84, 0, 5))) (.branch 0 xz (.leaf (hloada 0, 96, 1, 0, 0, 0)))) (.branch 0 (.branch 0 (.leaf (hicmp .gt, 16, 3, 96, 0, 0)) xz) (.branch 0 (.leaf (hload 2 6, 48, 2, 0, 0, 0)) xz))) (.branch 0 xz (.branch 0 (.branch 0 (.leaf (hstore 2 2, 24, 1, 0, 0, 0)) xz) (.branch 0 (.leaf (hcallv, 56, 3, 70, 0, 5)) xz)))) (.branch 0 (.branch 0 (.branch 0 (.branch 0 (.leaf (hstore 2 1, 4, 1, 0, 0, 0)) xz) (.branch 0 (.leaf (hpush 2 (Int.ofNat 0), 36, 1, 0, 0, 0)) (.leaf (hload 2 1, 100, 1, 0, 0, 0)))) (.branch 0 (.branch 0 (.leaf (hif .eq, 20, 3, 96, 0, 0)) (.leaf (hiinc 6 (Int.ofNat 1), 84, 3, 0, 0, 0))) xz)) (.branch 0 (.branch 0 (.branch 0 (.leaf (hstore 2 3, 12, 1, 0, 0, 0)) xz) xz) xz))) (.branch 0 (.branch 0 (.branch 0 (.branch 0 xz (.branch 0 (.leaf (hstore 2 5, 34, 2, 0, 0, 0)) xz)) (.branch 0 xz (.branch 0 (.leaf (hald 5 10, 50, 1, 0, 0, 0)) xz))) (.branch 0 (.branch 0 (.branch 0 (.leaf (hstore 2 2, 10, 1, 0, 0, 0)) xz) xz) (.branch 0 (.branch 0 (.leaf (hget, 26, 3, 2, 1, 5)) (.leaf (hiinc 3 (Int.ofNat 1), 90, 3, 0, 0, 0))) xz))) (.branch 0 (.branch 0 (.branch 0 (.branch 0 (.leaf (hcallv, 6, 3, 67, 0, 2)) xz) (.branch 0 xz (.leaf (hret 1, 102, 1, 0, 0, 0)))) xz) (.branch 0 (.branch 0 (.branch 0 (.leaf (hpush 2 (Int.ofNat 60), 14, 2, 0, 0, 0)) xz) (.branch 0 (.leaf (hloada 4, 46, 2, 0, 0, 0)) xz)) (.branch 0 xz (.branch 0 (.leaf (hloada 7, 62, 2, 0, 0, 0)) xz)))))) (.branch 0 (.branch 0 (.branch 0 (.branch 0 (.branch 0 (.branch 0 (.leaf (hget, 1, 3, 2, 5, 0)) xz) (.branch 0 (.leaf (halen, 33, 1, 0, 0, 0)) (.leaf (hget, 97, 3, 2, 5, 0)))) xz) (.branch 0 (.branch 0 (.branch 0 (.leaf (hpush 2 (Int.ofNat 1), 9, 1, 0, 0, 0)) xz) (.branch 0 (.leaf (hload 2 5, 41, 2, 0, 0, 0)) xz)) (.branch 0 (.branch 0 (.leaf (hloada 0, 25, 1, 0, 0, 0)) xz) xz))) (.branch 0 (.branch 0 (.branch 0 (.branch 0 (.leaf (hloada 0, 5, 1, 0, 0, 0)) xz) (.branch 0 (.leaf (hstore 2 6, 37, 2, 0, 0, 0)) (.leaf (hbin (fun a b => a - b) (fun _ _ => true), 101, 1, 0, 0, 0)))) (.branch 0 xz (.branch 0 (.leaf (hloada 7, 53, 2, 0, 0, 0)) xz))) (.branch 0 (.branch 0 (.branch 0 (.leaf (hload 2 3, 13, 1, 0, 0, 0)) xz) xz) (.branch 0 (.branch 0 (.leaf (hstorea 4, 29, 2, 0, 0, 0)) (.leaf (hgoto, 93, 3, 13, 0, 0))) xz)))) (.branch 0 (.branch 0 (.branch 0 (.branch 0 (.branch 0 xz (.leaf (hif .ne, 67, 3, 84, 0, 0))) xz) (.branch 0 (.branch 0 (.leaf (hload 2 2, 19, 1, 0, 0, 0)) xz) (.branch 0 (.leaf (hstorea 7, 51, 2, 0, 0, 0)) xz))) (.branch 0 (.branch 0 (.branch 0 (.leaf (hpush 2 (Int.ofNat 0), 11, 1, 0, 0, 0)) xz) (.branch 0 (.leaf (hicmp .ge, 43, 3, 90, 0, 0)) xz)) (.branch 0 xz (.branch 0 (.leaf (hif .eq, 59, 3, 84, 0, 0)) xz)))) (.branch 0 (.branch 0 (.branch 0 xz (.branch 0 (.leaf (hload 2 6, 39, 2, 0, 0, 0)) xz)) (.branch 0 (.branch 0 (.leaf (hpush 2 (Int.ofNat 0), 23, 1, 0, 0, 0)) (.leaf (hgoto, 87, 3, 39, 0, 0))) (.branch 0 (.leaf (hpush 2 (Int.ofNat 0), 55, 1, 0, 0, 0)) xz))) (.branch 0 xz (.branch 0 (.branch 0 (.leaf (hloada 4, 31, 2, 0, 0, 0)) xz) xz)))))
noncomputable def xp66 : xP := (((7, 8), xc66), [], 0, 1, 0, 0)
noncomputable def xc67 : Lean.RArray xEn := .branch 0 (.branch 0 (.branch 0 (.branch 0 (.branch 0 (.branch 0 (.branch 0 (.leaf (hloada 0, 0, 1, 0, 0, 0)) (.leaf (hpush 2 (Int.ofNat 0), 64, 1, 0, 0, 0))) (.branch 0 (.leaf (hpush 2 (Int.ofNat 0), 32, 1, 0, 0, 0)) xz)) (.branch 0 (.branch 0 (.leaf (hload 2 3, 16, 1, 0, 0, 0)) xz) xz)) (.branch 0 (.branch 0 (.branch 0 (.leaf (hpush 2 (Int.ofNat 0), 8, 1, 0, 0, 0)) (.leaf (hload 2 3, 72, 1, 0, 0, 0))) (.branch 0 (.leaf (hloada 0, 40, 1, 0, 0, 0)) xz)) (.branch 0 (.branch 0 xz (.leaf (hcalls, 88, 3, 83, 0, 0))) (.branch 0 (.leaf (hloada 0, 56, 1, 0, 0, 0)) xz)))) (.branch 0 (.branch 0 (.branch 0 (.branch 0 (.leaf (hstorea 1, 4, 1, 0, 0, 0)) (.leaf (hicmp .ge, 68, 3, 97, 0, 0))) xz) (.branch 0 (.branch 0 (.leaf (hloada 4, 20, 2, 0, 0, 0)) xz) xz)) (.branch 0 (.branch 0 (.branch 0 (.leaf (hicmp .ge, 12, 3, 32, 0, 0)) (.leaf (hloada 4, 76, 2, 0, 0, 0))) xz) (.branch 0 xz (.branch 0 (.leaf (hstorea 1, 60, 1, 0, 0, 0)) xz))))) (.branch 0 (.branch 0 (.branch 0 (.branch 0 (.branch 0 xz (.leaf (hload 2 3, 66, 1, 0, 0, 0))) (.branch 0 (.leaf (hload 2 1, 34, 1, 0, 0, 0)) xz)) (.branch 0 (.branch 0 (.leaf (hstorea 4, 18, 2, 0, 0, 0)) (.leaf (hif .eq, 82, 3, 91, 0, 0))) (.branch 0 (.leaf (hiinc 1 (Int.ofNat 1), 50, 3, 0, 0, 0)) xz))) (.branch 0 (.branch 0 (.branch 0 (.leaf (hload 2 3, 10, 1, 0, 0, 0)) (.leaf (hstorea 4, 74, 2, 0, 0, 0))) (.branch 0 (.leaf (hload 2 1, 42, 1, 0, 0, 0)) xz)) (.branch 0 (.branch 0 (.leaf (hiinc 3 (Int.ofNat 1), 26, 3, 0, 0, 0)) xz) xz))) (.branch 0 (.branch 0 (.branch 0 (.branch 0 (.leaf (halen, 6, 1, 0, 0, 0)) xz) xz) (.branch 0 (.branch 0 (.leaf (hpush 2 (Int.ofNat 0), 22, 1, 0, 0, 0)) xz) xz)) (.branch 0 (.branch 0 (.branch 0 xz (.leaf (hpush 2 (Int.ofNat 0), 78, 1, 0, 0, 0))) (.branch 0 (.leaf (hpush 2 (Int.ofNat 1), 46, 1, 0, 0, 0)) xz)) (.branch 0 (.branch 0 xz (.leaf (hgoto, 94, 3, 66, 0, 0))) (.branch 0 (.leaf (halen, 62, 1, 0, 0, 0)) xz)))))) (.branch 0 (.branch 0 (.branch 0 (.branch 0 (.branch 0 (.branch 0 (.leaf (hget, 1, 3, 2, 1, 5)) (.leaf (hstore 2 3, 65, 1, 0, 0, 0))) (.branch 0 (.leaf (hstore 2 1, 33, 1, 0, 0, 0)) (.leaf (hret 0, 97, 1, 0, 0, 0)))) (.branch 0 (.branch 0 (.leaf (hald 5 10, 17, 1, 0, 0, 0)) xz) xz)) (.branch 0 (.branch 0 (.branch 0 (.leaf (hstore 2 3, 9, 1, 0, 0, 0)) (.leaf (hald 5 10, 73, 1, 0, 0, 0))) (.branch 0 (.leaf (hpush 2 (Int.ofNat 0), 41, 1, 0, 0, 0)) xz)) (.branch 0 xz (.branch 0 (.leaf (hget, 57, 3, 2, 1, 5)) xz)))) (.branch 0 (.branch 0 (.branch 0 (.branch 0 (.leaf (hloada 1, 5, 1, 0, 0, 0)) xz) (.branch 0 (.leaf (hicmp .ge, 37, 3, 56, 0, 0)) xz)) (.branch 0 (.branch 0 xz (.leaf (hloada 4, 85, 2, 0, 0, 0))) (.branch 0 (.leaf (hgoto, 53, 3, 34, 0, 0)) xz))) (.branch 0 xz (.branch 0 (.branch 0 (.leaf (hgoto, 29, 3, 10, 0, 0)) xz) (.branch 0 (.leaf (hloada 1, 61, 1, 0, 0, 0)) xz))))) (.branch 0 (.branch 0 (.branch 0 (.branch 0 (.branch 0 xz (.leaf (hload 2 2, 67, 1, 0, 0, 0))) (.branch 0 (.leaf (hpush 2 (Int.ofNat 8), 35, 2, 0, 0, 0)) xz)) xz) (.branch 0 (.branch 0 (.branch 0 (.leaf (hload 2 2, 11, 1, 0, 0, 0)) xz) (.branch 0 (.leaf (hcallv, 43, 3, 63, 0, 2)) xz)) (.branch 0 (.branch 0 xz (.leaf (hiinc 3 (Int.ofNat 1), 91, 3, 0, 0, 0))) xz))) (.branch 0 (.branch 0 (.branch 0 (.branch 0 (.leaf (hstore 2 2, 7, 1, 0, 0, 0)) (.leaf (hloada 1, 71, 1, 0, 0, 0))) xz) (.branch 0 (.branch 0 (.leaf (hputf, 23, 3, 5, 4, 0)) (.leaf (hpush 2 (Int.ofNat 1), 87, 1, 0, 0, 0))) xz)) (.branch 0 (.branch 0 (.branch 0 (.leaf (hloada 1, 15, 1, 0, 0, 0)) (.leaf (hcallv, 79, 3, 70, 0, 5))) (.branch 0 (.leaf (hcalls, 47, 3, 68, 0, 0)) xz)) (.branch 0 xz (.branch 0 (.leaf (hstore 2 2, 63, 1, 0, 0, 0)) xz))))))
noncomputable def xp67 : xP := (((7, 5), xc67), [], 0, 0, 0, 0)
noncomputable def xc68 : Lean.RArray xEn := .branch 0 (.branch 0 (.branch 0 (.branch 0 (.branch 0 (.leaf (hloada 0, 0, 1, 0, 0, 0)) (.leaf (hbin (fun a b => a + b) (fun _ _ => true), 16, 1, 0, 0, 0))) (.branch 0 (.leaf (hget, 8, 3, 6, 5, 5)) xz)) (.branch 0 (.branch 0 (.leaf (hif .eq, 4, 3, 20, 0, 0)) (.leaf (hret 0, 20, 1, 0, 0, 0))) (.branch 0 (.leaf (hget, 12, 3, 5, 4, 0)) xz))) xz) (.branch 0 (.branch 0 (.branch 0 (.branch 0 (.leaf (hcallv, 1, 3, 69, 0, 6)) (.leaf (hputf, 17, 3, 5, 4, 0))) xz) xz) (.branch 0 (.branch 0 xz (.branch 0 (.leaf (hdup, 11, 1, 0, 0, 0)) xz)) (.branch 0 (.branch 0 (.leaf (hloada 0, 7, 1, 0, 0, 0)) xz) (.branch 0 (.leaf (hload 2 1, 15, 1, 0, 0, 0)) xz))))
noncomputable def xp68 : xP := (((5, 2), xc68), [], 2, 0, 0, 0)
noncomputable def xc69 : Lean.RArray xEn := .branch 0 (.branch 0 (.branch 0 (.branch 0 (.branch 0 (.leaf (hloada 0, 0, 1, 0, 0, 0)) (.leaf (hpush 2 (Int.ofNat 1), 16, 1, 0, 0, 0))) xz) (.branch 0 (.branch 0 (.leaf (hpush 2 (Int.ofNat 116), 4, 2, 0, 0, 0)) (.leaf (hpush 2 (Int.ofNat 0), 20, 1, 0, 0, 0))) xz)) (.branch 0 (.branch 0 xz (.branch 0 (.leaf (hget, 10, 3, 6, 5, 5)) xz)) (.branch 0 (.branch 0 (.leaf (hicmp .ne, 6, 3, 20, 0, 0)) xz) xz))) (.branch 0 (.branch 0 (.branch 0 (.branch 0 (.leaf (hget, 1, 3, 6, 0, 1)) (.leaf (hgoto, 17, 3, 21, 0, 0))) (.branch 0 (.leaf (hloada 0, 9, 1, 0, 0, 0)) xz)) (.branch 0 (.branch 0 xz (.leaf (hret 1, 21, 1, 0, 0, 0))) (.branch 0 (.leaf (hnull true, 13, 3, 20, 0, 0)) xz))) xz)
noncomputable def xp69 : xP := (((5, 1), xc69), [], 0, 3, 0, 0)
noncomputable def xc70 : Lean.RArray xEn := .branch 0 (.branch 0 (.branch 0 (.branch 0 (.branch 0 (.leaf (hloada 0, 0, 1, 0, 0, 0)) (.leaf (hgoto, 16, 3, 20, 0, 0))) (.branch 0 (.leaf (hget, 8, 3, 5, 1, 0)) xz)) (.branch 0 (.branch 0 (.leaf (hif .lt, 4, 3, 19, 0, 0)) (.leaf (hret 1, 20, 1, 0, 0, 0))) (.branch 0 (.leaf (hicmp .ne, 12, 3, 19, 0, 0)) xz))) xz) (.branch 0 (.branch 0 (.branch 0 (.branch 0 (.leaf (hget, 1, 3, 5, 0, 0)) xz) xz) xz) (.branch 0 (.branch 0 (.branch 0 xz (.leaf (hpush 2 (Int.ofNat 0), 19, 1, 0, 0, 0))) (.branch 0 (.leaf (hload 2 1, 11, 1, 0, 0, 0)) xz)) (.branch 0 (.branch 0 (.leaf (hloada 0, 7, 1, 0, 0, 0)) xz) (.branch 0 (.leaf (hpush 2 (Int.ofNat 1), 15, 1, 0, 0, 0)) xz))))
noncomputable def xp70 : xP := (((5, 2), xc70), [], 1, 3, 0, 0)
noncomputable def xc71 : Lean.RArray xEn := .branch 0 (.branch 0 (.branch 0 (.branch 0 (.branch 0 (.branch 0 (.leaf (hload 2 0, 0, 1, 0, 0, 0)) xz) (.branch 0 (.leaf (hload 2 0, 16, 1, 0, 0, 0)) xz)) xz) (.branch 0 (.branch 0 (.branch 0 (.leaf (hload 3 1, 4, 1, 0, 0, 0)) xz) xz) (.branch 0 (.branch 0 (.leaf (hnew, 12, 3, 9, 4, 0)) xz) (.branch 0 (.leaf (hpush 4 (Int.ofNat 0), 28, 1, 0, 0, 0)) xz)))) (.branch 0 (.branch 0 (.branch 0 (.branch 0 xz (.leaf (hret 6, 34, 1, 0, 0, 0))) (.branch 0 (.leaf (hicmp .ne, 18, 3, 26, 0, 0)) xz)) (.branch 0 xz (.branch 0 (.leaf (hpush 2 (Int.ofNat 106), 26, 2, 0, 0, 0)) xz))) (.branch 0 (.branch 0 (.branch 0 (.leaf (hcalls, 6, 3, 72, 0, 0)) xz) xz) (.branch 0 xz (.branch 0 (.leaf (hpush 2 (Int.ofNat 0), 30, 1, 0, 0, 0)) xz))))) (.branch 0 (.branch 0 (.branch 0 (.branch 0 (.branch 0 (.leaf (hif .ne, 1, 3, 12, 0, 0)) xz) (.branch 0 (.leaf (hpush 2 (Int.ofNat 1), 17, 1, 0, 0, 0)) xz)) (.branch 0 (.branch 0 (.leaf (hgoto, 9, 3, 34, 0, 0)) xz) xz)) (.branch 0 (.branch 0 (.branch 0 (.leaf (hconv (fun _ => 9) (fun a _ => Nat.beq a 7), 5, 1, 0, 0, 0)) xz) (.branch 0 (.leaf (hpush 2 (Int.ofNat 105), 21, 2, 0, 0, 0)) xz)) (.branch 0 xz (.branch 0 (.leaf (hload 3 1, 29, 1, 0, 0, 0)) xz)))) (.branch 0 xz (.branch 0 (.branch 0 xz (.branch 0 (.leaf (hgoto, 23, 3, 28, 0, 0)) xz)) (.branch 0 (.branch 0 (.leaf (hdup, 15, 1, 0, 0, 0)) xz) (.branch 0 (.leaf (hspec, 31, 3, 12, 1, 0)) xz)))))
noncomputable def xp71 : xP := (((6, 3), xc71), [], 2, 6, 1, 4)
noncomputable def xc72 : Lean.RArray xEn := .branch 0 (.branch 0 (.branch 0 (.branch 0 (.leaf (hnew, 0, 3, 9, 4, 0)) (.leaf (hpush 2 (Int.ofNat 0), 8, 1, 0, 0, 0))) (.branch 0 (.leaf (hpush 2 (Int.ofNat 100), 4, 2, 0, 0, 0)) (.leaf (hret 6, 12, 1, 0, 0, 0)))) (.branch 0 xz (.branch 0 (.leaf (hload 4 0, 6, 1, 0, 0, 0)) xz))) (.branch 0 (.branch 0 (.branch 0 xz (.leaf (hspec, 9, 3, 12, 1, 0))) xz) (.branch 0 (.branch 0 (.leaf (hdup, 3, 1, 0, 0, 0)) xz) (.branch 0 (.leaf (hpush 3 (Int.ofNat 0), 7, 1, 0, 0, 0)) xz)))
noncomputable def xp72 : xP := (((4, 2), xc72), [], 1, 6, 1, 4)
noncomputable def xc73 : Lean.RArray xEn := .branch 0 (.branch 0 (.branch 0 (.branch 0 (.branch 0 (.leaf (hloada 0, 0, 1, 0, 0, 0)) (.leaf (hloada 0, 16, 1, 0, 0, 0))) (.branch 0 (.leaf (hload 2 2, 8, 1, 0, 0, 0)) xz)) (.branch 0 (.branch 0 (.leaf (hpush 2 (Int.ofNat 8), 4, 2, 0, 0, 0)) xz) (.branch 0 (.leaf (hload 2 1, 12, 1, 0, 0, 0)) xz))) (.branch 0 (.branch 0 (.branch 0 xz (.leaf (hcallv, 18, 3, 76, 0, 10))) (.branch 0 (.leaf (hloada 3, 10, 1, 0, 0, 0)) xz)) (.branch 0 (.branch 0 (.leaf (hload 2 1, 6, 1, 0, 0, 0)) xz) xz))) (.branch 0 (.branch 0 (.branch 0 (.branch 0 (.leaf (hget, 1, 3, 10, 12, 5)) (.leaf (hloada 3, 17, 1, 0, 0, 0))) (.branch 0 (.leaf (hbin (fun a b => a + b) (fun _ _ => true), 9, 1, 0, 0, 0)) xz)) (.branch 0 (.branch 0 xz (.leaf (hret 0, 21, 1, 0, 0, 0))) (.branch 0 (.leaf (hif .le, 13, 3, 21, 0, 0)) xz))) (.branch 0 (.branch 0 xz (.branch 0 (.leaf (hast 5 10, 11, 1, 0, 0, 0)) xz)) (.branch 0 (.branch 0 (.leaf (hbin (fun a b => a * b) (fun _ _ => true), 7, 1, 0, 0, 0)) xz) xz)))
noncomputable def xp73 : xP := (((5, 4), xc73), [], 3, 0, 0, 0)
noncomputable def xc74 : Lean.RArray xEn := .branch 0 (.branch 0 (.branch 0 (.branch 0 (.branch 0 (.branch 0 (.branch 0 (.leaf (hloada 0, 0, 1, 0, 0, 0)) xz) (.branch 0 (.leaf (hloada 0, 32, 1, 0, 0, 0)) xz)) (.branch 0 (.branch 0 (.leaf (hloada 0, 16, 1, 0, 0, 0)) xz) xz)) (.branch 0 (.branch 0 (.branch 0 (.leaf (hif .eq, 8, 3, 65, 0, 0)) xz) xz) (.branch 0 (.branch 0 (.leaf (hget, 24, 3, 10, 16, 5)) xz) (.branch 0 (.leaf (hiinc 3 (Int.ofNat 1), 56, 3, 0, 0, 0)) xz)))) (.branch 0 (.branch 0 (.branch 0 (.branch 0 (.leaf (hstore 2 1, 4, 1, 0, 0, 0)) xz) (.branch 0 (.leaf (hload 2 3, 36, 1, 0, 0, 0)) xz)) (.branch 0 (.branch 0 (.leaf (hicmp .ge, 20, 3, 62, 0, 0)) xz) xz)) (.branch 0 (.branch 0 (.branch 0 (.leaf (hstore 2 2, 12, 1, 0, 0, 0)) xz) xz) (.branch 0 (.branch 0 (.leaf (hald 2 2, 28, 1, 0, 0, 0)) xz) xz)))) (.branch 0 (.branch 0 (.branch 0 (.branch 0 (.branch 0 xz (.leaf (hget, 66, 3, 10, 14, 0))) xz) xz) (.branch 0 (.branch 0 xz (.branch 0 (.leaf (hload 2 3, 42, 1, 0, 0, 0)) xz)) xz)) (.branch 0 (.branch 0 (.branch 0 (.branch 0 (.leaf (hstore 2 2, 6, 1, 0, 0, 0)) (.leaf (hbin (fun a b => a - b) (fun _ _ => true), 70, 1, 0, 0, 0))) (.branch 0 (.leaf (hif .ne, 38, 3, 56, 0, 0)) xz)) xz) (.branch 0 (.branch 0 (.branch 0 (.leaf (hstore 2 3, 14, 1, 0, 0, 0)) xz) (.branch 0 (.leaf (hif .ne, 46, 3, 56, 0, 0)) xz)) (.branch 0 xz (.branch 0 (.leaf (hgoto, 62, 3, 7, 0, 0)) xz)))))) (.branch 0 (.branch 0 (.branch 0 (.branch 0 (.branch 0 (.branch 0 (.leaf (hget, 1, 3, 10, 14, 0)) (.leaf (hloada 0, 65, 1, 0, 0, 0))) (.branch 0 (.leaf (hget, 33, 3, 10, 15, 5)) xz)) (.branch 0 (.branch 0 (.leaf (hget, 17, 3, 10, 13, 0)) xz) xz)) (.branch 0 (.branch 0 xz (.branch 0 (.leaf (hloada 0, 41, 1, 0, 0, 0)) xz)) xz)) (.branch 0 (.branch 0 (.branch 0 (.branch 0 (.leaf (hpush 2 (Int.ofNat 1), 5, 1, 0, 0, 0)) (.leaf (hload 2 1, 69, 1, 0, 0, 0))) (.branch 0 (.leaf (hald 0 0, 37, 1, 0, 0, 0)) xz)) xz) (.branch 0 (.branch 0 (.branch 0 (.leaf (hpush 2 (Int.ofNat 0), 13, 1, 0, 0, 0)) xz) xz) (.branch 0 (.branch 0 (.leaf (hif .eq, 29, 3, 56, 0, 0)) xz) xz)))) (.branch 0 (.branch 0 xz (.branch 0 (.branch 0 (.branch 0 (.leaf (hpush 2 (Int.ofNat 0), 11, 1, 0, 0, 0)) xz) (.branch 0 (.leaf (hcallv, 43, 3, 88, 0, 10)) xz)) (.branch 0 (.branch 0 (.leaf (hload 2 3, 27, 1, 0, 0, 0)) xz) (.branch 0 (.leaf (hgoto, 59, 3, 15, 0, 0)) xz)))) (.branch 0 (.branch 0 (.branch 0 (.branch 0 (.leaf (hload 2 2, 7, 1, 0, 0, 0)) (.leaf (hret 1, 71, 1, 0, 0, 0))) xz) (.branch 0 (.branch 0 (.leaf (hloada 0, 23, 1, 0, 0, 0)) xz) xz)) (.branch 0 (.branch 0 (.branch 0 (.leaf (hload 2 3, 15, 1, 0, 0, 0)) xz) xz) xz))))
noncomputable def xp74 : xP := (((7, 4), xc74), [], 0, 1, 0, 0)
noncomputable def xc75 : Lean.RArray xEn := .branch 0 (.branch 0 (.branch 0 (.branch 0 (.branch 0 (.leaf (hloada 0, 0, 1, 0, 0, 0)) (.leaf (hpush 0 (Int.ofNat 0), 16, 1, 0, 0, 0))) xz) (.branch 0 (.branch 0 xz (.leaf (hret 0, 20, 1, 0, 0, 0))) (.branch 0 (.leaf (hputf, 12, 3, 6, 2, 2)) xz))) (.branch 0 (.branch 0 (.branch 0 (.leaf (hputf, 2, 3, 6, 0, 1)) xz) (.branch 0 (.leaf (hloada 0, 10, 1, 0, 0, 0)) xz)) (.branch 0 (.branch 0 (.leaf (hload 3 2, 6, 1, 0, 0, 0)) xz) xz))) (.branch 0 (.branch 0 (.branch 0 (.branch 0 (.leaf (hload 2 1, 1, 1, 0, 0, 0)) (.leaf (hputf, 17, 3, 6, 5, 5))) xz) (.branch 0 (.branch 0 (.leaf (hloada 0, 5, 1, 0, 0, 0)) xz) xz)) (.branch 0 (.branch 0 xz (.branch 0 (.leaf (hpush 2 (Int.ofNat 0), 11, 1, 0, 0, 0)) xz)) (.branch 0 (.branch 0 (.leaf (hputf, 7, 3, 6, 3, 3)) xz) (.branch 0 (.leaf (hloada 0, 15, 1, 0, 0, 0)) xz))))
noncomputable def xp75 : xP := (((5, 4), xc75), [], 2, 0, 0, 0)
noncomputable def xc76 : Lean.RArray xEn := .branch 0 (.branch 0 (.branch 0 (.branch 0 (.branch 0 (.branch 0 (.leaf (hloada 1, 0, 1, 0, 0, 0)) xz) xz) xz) (.branch 0 (.branch 0 (.branch 0 (.leaf (hpush 2 (Int.ofNat 116), 4, 2, 0, 0, 0)) xz) xz) xz)) (.branch 0 (.branch 0 (.branch 0 xz (.branch 0 (.leaf (hald 0 0, 18, 1, 0, 0, 0)) xz)) (.branch 0 (.branch 0 (.leaf (hget, 10, 3, 10, 15, 5)) xz) xz)) (.branch 0 (.branch 0 (.branch 0 (.leaf (hicmp .ne, 6, 3, 33, 0, 0)) xz) xz) (.branch 0 (.branch 0 (.leaf (hget, 14, 3, 9, 2, 3)) xz) xz)))) (.branch 0 (.branch 0 (.branch 0 (.branch 0 (.branch 0 (.leaf (hget, 1, 3, 9, 0, 1)) (.leaf (hret 0, 33, 1, 0, 0, 0))) (.branch 0 (.leaf (hconv (fun _ => 2) (fun a _ => Nat.beq a 3), 17, 1, 0, 0, 0)) xz)) (.branch 0 (.branch 0 (.leaf (hloada 0, 9, 1, 0, 0, 0)) xz) xz)) (.branch 0 xz (.branch 0 (.branch 0 (.leaf (hloada 1, 13, 1, 0, 0, 0)) xz) xz))) (.branch 0 (.branch 0 (.branch 0 xz (.branch 0 (.leaf (hif .ne, 19, 3, 33, 0, 0)) xz)) xz) xz))
noncomputable def xp76 : xP := (((6, 2), xc76), [], 1, 0, 0, 0)
noncomputable def xc77 : Lean.RArray xEn := .branch 0 (.branch 0 (.branch 0 (.branch 0 (.branch 0 (.leaf (hloada 3, 0, 1, 0, 0, 0)) (.leaf (hret 1, 16, 1, 0, 0, 0))) (.branch 0 (.leaf (hconv (fun a => cond (Nat.beq a 2) 3 7) (fun a z => cond (Nat.beq a 2) (xin32 z) (Nat.beq a 5)), 8, 1, 0, 0, 0)) xz)) (.branch 0 (.branch 0 (.leaf (hload 2 2, 4, 1, 0, 0, 0)) xz) xz)) (.branch 0 (.branch 0 (.branch 0 (.leaf (hloada 0, 2, 1, 0, 0, 0)) xz) (.branch 0 (.leaf (hgoto, 10, 3, 21, 0, 0)) xz)) (.branch 0 (.branch 0 xz (.leaf (hret 1, 22, 1, 0, 0, 0))) xz))) (.branch 0 (.branch 0 (.branch 0 (.branch 0 (.leaf (hpush 2 (Int.ofNat 0), 1, 1, 0, 0, 0)) xz) (.branch 0 (.leaf (hast 3 3, 9, 1, 0, 0, 0)) xz)) (.branch 0 (.branch 0 (.leaf (hcallv, 5, 3, 78, 0, 7)) (.leaf (hpush 2 (Int.ofNat 0), 21, 1, 0, 0, 0))) xz)) (.branch 0 (.branch 0 (.branch 0 (.leaf (hload 2 1, 3, 1, 0, 0, 0)) xz) xz) (.branch 0 xz (.branch 0 (.leaf (hpush 2 (Int.ofNat 1), 15, 1, 0, 0, 0)) xz))))
noncomputable def xp77 : xP := (((5, 5), xc77), [(0, 10, 4, 4, 15), (0, 10, 5, 4, 19)], 4, 1, 2, 12)
noncomputable def xc78 : Lean.RArray xEn := .branch 0 (.branch 0 (.branch 0 (.branch 0 (.branch 0 (.branch 0 (.leaf (hload 2 1, 0, 1, 0, 0, 0)) (.leaf (hloada 3, 32, 1, 0, 0, 0))) xz) (.branch 0 (.branch 0 xz (.leaf (hload 2 1, 40, 1, 0, 0, 0))) (.branch 0 xz (.leaf (hpop, 56, 1, 0, 0, 0))))) (.branch 0 (.branch 0 (.branch 0 xz (.leaf (hloada 0, 36, 1, 0, 0, 0))) xz) (.branch 0 xz (.branch 0 (.leaf (hloada 0, 28, 1, 0, 0, 0)) xz)))) (.branch 0 (.branch 0 (.branch 0 (.branch 0 (.leaf (hcalls, 2, 3, 57, 0, 0)) xz) (.branch 0 xz (.leaf (hget, 50, 3, 7, 1, 5)))) (.branch 0 (.branch 0 (.leaf (hcallv, 10, 3, 80, 0, 2)) (.leaf (hloada 0, 42, 1, 0, 0, 0))) (.branch 0 xz (.leaf (hget, 58, 3, 5, 0, 0))))) (.branch 0 (.branch 0 (.branch 0 (.leaf (hget, 6, 3, 7, 1, 5)) xz) xz) (.branch 0 (.branch 0 (.leaf (hloada 3, 14, 1, 0, 0, 0)) (.leaf (hcallv, 46, 3, 62, 0, 2))) xz)))) (.branch 0 (.branch 0 (.branch 0 (.branch 0 (.branch 0 (.leaf (hload 2 2, 1, 1, 0, 0, 0)) (.leaf (hcallv, 33, 3, 82, 0, 6))) (.branch 0 xz (.leaf (hloada 0, 49, 1, 0, 0, 0)))) (.branch 0 (.branch 0 (.leaf (hload 2 1, 9, 1, 0, 0, 0)) (.leaf (hload 2 2, 41, 1, 0, 0, 0))) (.branch 0 xz (.leaf (hloada 3, 57, 1, 0, 0, 0))))) (.branch 0 (.branch 0 (.branch 0 (.leaf (hloada 0, 5, 1, 0, 0, 0)) (.leaf (hget, 37, 3, 7, 1, 5))) (.branch 0 xz (.leaf (hcallv, 53, 3, 66, 0, 2)))) (.branch 0 (.branch 0 (.leaf (hstorea 3, 13, 1, 0, 0, 0)) xz) (.branch 0 (.leaf (hget, 29, 3, 7, 2, 5)) (.leaf (hret 1, 61, 1, 0, 0, 0)))))) (.branch 0 (.branch 0 xz (.branch 0 (.branch 0 xz (.leaf (hget, 43, 3, 7, 2, 5))) xz)) (.branch 0 xz (.branch 0 (.branch 0 (.leaf (hnull false, 15, 3, 28, 0, 0)) xz) xz))))
noncomputable def xp78 : xP := (((6, 4), xc78), [], 2, 1, 2, 12)
noncomputable def xc79 : Lean.RArray xEn := .branch 0 (.branch 0 (.branch 0 (.branch 0 (.branch 0 (.branch 0 (.leaf (hloada 0, 0, 1, 0, 0, 0)) xz) xz) (.branch 0 (.branch 0 xz (.leaf (hloada 0, 40, 1, 0, 0, 0))) (.branch 0 xz (.leaf (hload 2 3, 56, 1, 0, 0, 0))))) (.branch 0 (.branch 0 (.branch 0 xz (.leaf (hcallv, 36, 3, 86, 0, 10))) (.branch 0 (.leaf (hcallv, 20, 3, 85, 0, 10)) xz)) (.branch 0 (.branch 0 xz (.leaf (hcalls, 44, 3, 87, 0, 0))) xz))) (.branch 0 (.branch 0 (.branch 0 (.branch 0 (.leaf (hputf, 2, 3, 10, 0, 0)) (.leaf (hloada 0, 34, 1, 0, 0, 0))) (.branch 0 (.leaf (hret 1, 18, 1, 0, 0, 0)) (.leaf (hloada 0, 50, 1, 0, 0, 0)))) (.branch 0 (.branch 0 (.leaf (hif .ne, 10, 3, 19, 0, 0)) (.leaf (hload 2 2, 42, 1, 0, 0, 0))) xz)) (.branch 0 (.branch 0 (.branch 0 (.leaf (hload 2 2, 6, 1, 0, 0, 0)) xz) (.branch 0 xz (.leaf (hstore 2 4, 54, 2, 0, 0, 0)))) (.branch 0 (.branch 0 (.leaf (hpush 2 (Int.ofNat 1), 14, 1, 0, 0, 0)) xz) xz)))) (.branch 0 (.branch 0 (.branch 0 (.branch 0 (.branch 0 (.leaf (hpush 2 (Int.ofNat 0), 1, 1, 0, 0, 0)) xz) xz) (.branch 0 (.branch 0 xz (.leaf (hload 2 1, 41, 1, 0, 0, 0))) (.branch 0 (.leaf (hicmp .ne, 25, 3, 34, 0, 0)) (.leaf (hret 1, 57, 1, 0, 0, 0))))) (.branch 0 (.branch 0 (.branch 0 (.leaf (hload 2 1, 5, 1, 0, 0, 0)) xz) xz) (.branch 0 (.branch 0 (.leaf (hloada 0, 13, 1, 0, 0, 0)) xz) xz))) (.branch 0 (.branch 0 (.branch 0 (.branch 0 xz (.leaf (hload 2 1, 35, 1, 0, 0, 0))) (.branch 0 (.leaf (hloada 0, 19, 1, 0, 0, 0)) (.leaf (hcallv, 51, 3, 74, 0, 10)))) (.branch 0 (.branch 0 xz (.leaf (hload 2 3, 43, 1, 0, 0, 0))) xz)) (.branch 0 (.branch 0 (.branch 0 (.leaf (hcalls, 7, 3, 59, 0, 0)) (.leaf (hstore 2 3, 39, 1, 0, 0, 0))) (.branch 0 (.leaf (hpush 2 (Int.ofNat 60), 23, 2, 0, 0, 0)) xz)) (.branch 0 (.branch 0 (.leaf (hcallv, 15, 3, 19, 0, 10)) (.leaf (hcallv, 47, 3, 73, 0, 10))) xz))))
noncomputable def xp79 : xP := (((6, 5), xc79), [], 2, 1, 4, 16)
noncomputable def xc80 : Lean.RArray xEn := .branch 0 (.branch 0 (.branch 0 (.branch 0 (.branch 0 (.branch 0 (.leaf (hloada 0, 0, 1, 0, 0, 0)) xz) (.branch 0 xz (.leaf (hputf, 48, 3, 2, 4, 0)))) (.branch 0 (.branch 0 (.leaf (hpush 2 (Int.ofNat 0), 8, 1, 0, 0, 0)) xz) xz)) (.branch 0 (.branch 0 (.branch 0 (.leaf (hstorea 2, 4, 1, 0, 0, 0)) xz) (.branch 0 (.leaf (hald 5 10, 20, 1, 0, 0, 0)) xz)) (.branch 0 xz (.branch 0 (.leaf (hif .ge, 28, 3, 54, 0, 0)) xz)))) (.branch 0 (.branch 0 (.branch 0 (.branch 0 xz (.leaf (hget, 34, 3, 2, 4, 0))) (.branch 0 (.leaf (hload 2 4, 18, 2, 0, 0, 0)) xz)) (.branch 0 (.branch 0 xz (.leaf (hdup, 42, 1, 0, 0, 0))) xz)) (.branch 0 (.branch 0 (.branch 0 (.leaf (halen, 6, 1, 0, 0, 0)) (.leaf (hcallv, 38, 3, 81, 0, 5))) xz) (.branch 0 (.branch 0 (.leaf (hicmp .ge, 14, 3, 60, 0, 0)) (.leaf (hpush 2 (Int.ofNat 1), 46, 1, 0, 0, 0))) xz)))) (.branch 0 (.branch 0 (.branch 0 (.branch 0 (.branch 0 (.leaf (hget, 1, 3, 2, 1, 5)) (.leaf (hloada 0, 33, 1, 0, 0, 0))) (.branch 0 (.leaf (hloada 2, 17, 1, 0, 0, 0)) xz)) (.branch 0 (.branch 0 (.leaf (hstore 2 4, 9, 2, 0, 0, 0)) (.leaf (hloada 0, 41, 1, 0, 0, 0))) (.branch 0 (.leaf (hget, 25, 3, 5, 0, 0)) xz))) (.branch 0 (.branch 0 (.branch 0 (.leaf (hloada 2, 5, 1, 0, 0, 0)) (.leaf (hload 2 1, 37, 1, 0, 0, 0))) (.branch 0 (.leaf (hstorea 5, 21, 2, 0, 0, 0)) (.leaf (hret 6, 53, 1, 0, 0, 0)))) (.branch 0 (.branch 0 (.leaf (hload 2 3, 13, 1, 0, 0, 0)) xz) xz))) (.branch 0 (.branch 0 (.branch 0 xz (.branch 0 xz (.leaf (hloada 5, 51, 2, 0, 0, 0)))) (.branch 0 (.branch 0 (.leaf (hload 2 4, 11, 2, 0, 0, 0)) (.leaf (hget, 43, 3, 2, 4, 0))) xz)) (.branch 0 (.branch 0 (.branch 0 (.leaf (hstore 2 3, 7, 1, 0, 0, 0)) xz) (.branch 0 (.leaf (hloada 5, 23, 2, 0, 0, 0)) xz)) (.branch 0 (.branch 0 xz (.leaf (hbin (fun a b => a + b) (fun _ _ => true), 47, 1, 0, 0, 0))) (.branch 0 (.leaf (hloada 5, 31, 2, 0, 0, 0)) xz)))))
noncomputable def xp80 : xP := (((6, 6), xc80), [], 1, 6, 0, 0)
noncomputable def xc81 : Lean.RArray xEn := .branch 0 (.branch 0 (.branch 0 (.branch 0 (.branch 0 (.branch 0 (.leaf (hloada 0, 0, 1, 0, 0, 0)) (.leaf (hald 5 10, 32, 1, 0, 0, 0))) (.branch 0 (.leaf (hpush 2 (Int.ofNat 0), 16, 1, 0, 0, 0)) xz)) (.branch 0 (.branch 0 xz (.leaf (hiinc 3 (Int.ofNat 1), 40, 3, 0, 0, 0))) (.branch 0 (.leaf (hicmp .ge, 24, 3, 46, 0, 0)) xz))) (.branch 0 (.branch 0 xz (.branch 0 (.leaf (hpush 2 (Int.ofNat 0), 20, 1, 0, 0, 0)) xz)) (.branch 0 (.branch 0 (.leaf (hputf, 12, 3, 5, 3, 2)) xz) (.branch 0 (.leaf (hget, 28, 3, 5, 2, 5)) xz)))) (.branch 0 (.branch 0 (.branch 0 (.branch 0 (.leaf (hputf, 2, 3, 5, 0, 0)) (.leaf (hcalls, 34, 3, 4, 0, 0))) xz) (.branch 0 (.branch 0 (.leaf (hloada 0, 10, 1, 0, 0, 0)) xz) xz)) (.branch 0 (.branch 0 (.branch 0 (.leaf (hload 2 2, 6, 1, 0, 0, 0)) xz) (.branch 0 (.leaf (hload 2 3, 22, 1, 0, 0, 0)) xz)) (.branch 0 (.branch 0 xz (.leaf (hret 0, 46, 1, 0, 0, 0))) xz)))) (.branch 0 (.branch 0 (.branch 0 (.branch 0 (.branch 0 (.leaf (hload 2 1, 1, 1, 0, 0, 0)) (.leaf (hload 2 2, 33, 1, 0, 0, 0))) (.branch 0 (.leaf (hputf, 17, 3, 5, 4, 0)) xz)) xz) (.branch 0 (.branch 0 (.branch 0 (.leaf (hloada 0, 5, 1, 0, 0, 0)) (.leaf (hcallv, 37, 3, 5, 0, 6))) (.branch 0 (.leaf (hstore 2 3, 21, 1, 0, 0, 0)) xz)) xz)) (.branch 0 (.branch 0 xz (.branch 0 (.branch 0 (.leaf (hpush 2 (Int.ofNat 0), 11, 1, 0, 0, 0)) (.leaf (hgoto, 43, 3, 22, 0, 0))) (.branch 0 (.leaf (hloada 0, 27, 1, 0, 0, 0)) xz))) (.branch 0 (.branch 0 (.branch 0 (.leaf (hputf, 7, 3, 5, 1, 0)) xz) (.branch 0 (.leaf (hpush 2 (Int.ofNat 3), 23, 1, 0, 0, 0)) xz)) (.branch 0 (.branch 0 (.leaf (hloada 0, 15, 1, 0, 0, 0)) xz) (.branch 0 (.leaf (hload 2 3, 31, 1, 0, 0, 0)) xz)))))
noncomputable def xp81 : xP := (((6, 4), xc81), [], 2, 0, 0, 0)
noncomputable def xc82 : Lean.RArray xEn := .branch 0 (.branch 0 (.branch 0 (.branch 0 (.branch 0 (.leaf (hloada 0, 0, 1, 0, 0, 0)) (.leaf (hret 0, 16, 1, 0, 0, 0))) (.branch 0 (.leaf (hcallv, 8, 3, 75, 0, 6)) xz)) (.branch 0 (.branch 0 (.leaf (hget, 4, 3, 5, 0, 0)) xz) (.branch 0 (.leaf (hloada 1, 12, 1, 0, 0, 0)) xz))) xz) (.branch 0 (.branch 0 (.branch 0 (.branch 0 (.leaf (hpush 2 (Int.ofNat 116), 1, 2, 0, 0, 0)) xz) xz) (.branch 0 xz (.branch 0 (.leaf (hputf, 13, 3, 6, 5, 5)) xz))) (.branch 0 (.branch 0 (.branch 0 (.leaf (hloada 1, 3, 1, 0, 0, 0)) xz) (.branch 0 (.leaf (hloada 0, 11, 1, 0, 0, 0)) xz)) (.branch 0 (.branch 0 (.leaf (hconv (fun a => cond (Nat.beq a 2) 3 7) (fun a z => cond (Nat.beq a 2) (xin32 z) (Nat.beq a 5)), 7, 1, 0, 0, 0)) xz) xz)))
noncomputable def xp82 : xP := (((5, 2), xc82), [], 1, 0, 0, 0)
noncomputable def xc83 : Lean.RArray xEn := .branch 0 (.branch 0 (.branch 0 (.branch 0 (.branch 0 (.branch 0 (.leaf (hloada 0, 0, 1, 0, 0, 0)) (.leaf (hgoto, 32, 3, 11, 0, 0))) xz) (.branch 0 (.branch 0 (.leaf (hpush 2 (Int.ofNat 0), 8, 1, 0, 0, 0)) xz) xz)) (.branch 0 (.branch 0 (.branch 0 (.leaf (hstorea 2, 4, 1, 0, 0, 0)) xz) (.branch 0 (.leaf (hald 5 10, 20, 1, 0, 0, 0)) xz)) xz)) (.branch 0 (.branch 0 (.branch 0 xz (.branch 0 (.leaf (hload 2 4, 18, 2, 0, 0, 0)) xz)) (.branch 0 xz (.branch 0 (.leaf (hcalls, 26, 3, 68, 0, 0)) xz))) (.branch 0 (.branch 0 (.branch 0 (.leaf (halen, 6, 1, 0, 0, 0)) xz) xz) (.branch 0 (.branch 0 (.leaf (hicmp .ge, 14, 3, 35, 0, 0)) xz) xz)))) (.branch 0 (.branch 0 (.branch 0 (.branch 0 (.branch 0 (.leaf (hget, 1, 3, 5, 2, 5)) xz) (.branch 0 (.leaf (hloada 2, 17, 1, 0, 0, 0)) xz)) (.branch 0 (.branch 0 (.leaf (hstore 2 4, 9, 2, 0, 0, 0)) xz) (.branch 0 (.leaf (hload 2 1, 25, 1, 0, 0, 0)) xz))) (.branch 0 (.branch 0 (.branch 0 (.leaf (hloada 2, 5, 1, 0, 0, 0)) xz) (.branch 0 (.leaf (hstorea 5, 21, 2, 0, 0, 0)) xz)) (.branch 0 (.branch 0 (.leaf (hload 2 3, 13, 1, 0, 0, 0)) xz) (.branch 0 (.leaf (hiinc 4 (Int.ofNat 1), 29, 3, 0, 0, 0)) xz)))) (.branch 0 (.branch 0 (.branch 0 (.branch 0 xz (.leaf (hret 0, 35, 1, 0, 0, 0))) xz) (.branch 0 (.branch 0 (.leaf (hload 2 4, 11, 2, 0, 0, 0)) xz) xz)) (.branch 0 (.branch 0 (.branch 0 (.leaf (hstore 2 3, 7, 1, 0, 0, 0)) xz) (.branch 0 (.leaf (hloada 5, 23, 2, 0, 0, 0)) xz)) xz)))
noncomputable def xp83 : xP := (((6, 6), xc83), [], 2, 0, 0, 0)
noncomputable def xc84 : Lean.RArray xEn := .branch 0 (.branch 0 (.branch 0 (.branch 0 (.branch 0 (.leaf (hloada 0, 0, 1, 0, 0, 0)) xz) (.branch 0 (.leaf (hif .ne, 8, 3, 22, 0, 0)) (.leaf (hret 1, 24, 1, 0, 0, 0)))) (.branch 0 (.branch 0 (.leaf (hloada 0, 4, 1, 0, 0, 0)) xz) (.branch 0 (.leaf (hget, 12, 3, 5, 3, 2)) xz))) (.branch 0 xz (.branch 0 (.branch 0 xz (.leaf (hpush 2 (Int.ofNat 0), 22, 1, 0, 0, 0))) xz))) (.branch 0 (.branch 0 (.branch 0 (.branch 0 (.leaf (hget, 1, 3, 5, 4, 0)) xz) xz) (.branch 0 (.branch 0 (.leaf (hget, 5, 3, 5, 1, 0)) xz) xz)) (.branch 0 (.branch 0 xz (.branch 0 (.leaf (hloada 0, 11, 1, 0, 0, 0)) xz)) (.branch 0 (.branch 0 xz (.leaf (hbin (fun a b => a + b) (fun _ _ => true), 23, 1, 0, 0, 0))) (.branch 0 (.leaf (hif .eq, 15, 3, 22, 0, 0)) xz))))
noncomputable def xp84 : xP := (((5, 1), xc84), [], 0, 1, 0, 0)
noncomputable def xc85 : Lean.RArray xEn := .branch 0 (.branch 0 (.branch 0 (.branch 0 (.leaf (hloada 0, 0, 1, 0, 0, 0)) (.leaf (hbin (fun a b => a - b) (fun _ _ => true), 8, 1, 0, 0, 0))) (.branch 0 (.leaf (hloada 0, 4, 1, 0, 0, 0)) xz)) xz) (.branch 0 (.branch 0 (.branch 0 (.leaf (hget, 1, 3, 10, 13, 0)) (.leaf (hret 1, 9, 1, 0, 0, 0))) (.branch 0 (.leaf (hget, 5, 3, 10, 14, 0)) xz)) xz)
noncomputable def xp85 : xP := (((4, 1), xc85), [], 0, 1, 0, 0)
noncomputable def xc86 : Lean.RArray xEn := .branch 0 (.branch 0 (.branch 0 (.branch 0 (.branch 0 (.branch 0 (.branch 0 (.branch 0 (.leaf (hloada 0, 0, 1, 0, 0, 0)) xz) (.branch 0 xz (.leaf (hicmp .ge, 192, 3, 218, 0, 0)))) (.branch 0 xz (.branch 0 xz (.leaf (hbin (fun a b => a + b) (fun _ _ => true), 224, 1, 0, 0, 0))))) (.branch 0 (.branch 0 xz (.branch 0 xz (.leaf (hcalls, 208, 3, 11, 0, 0)))) (.branch 0 (.branch 0 xz (.leaf (hpush 2 (Int.ofNat 1), 176, 1, 0, 0, 0))) xz))) (.branch 0 (.branch 0 (.branch 0 (.branch 0 (.leaf (halen, 8, 1, 0, 0, 0)) xz) (.branch 0 xz (.leaf (hloada 0, 200, 1, 0, 0, 0)))) (.branch 0 (.branch 0 xz (.leaf (hloada 0, 168, 1, 0, 0, 0))) (.branch 0 xz (.leaf (hpush 2 (Int.ofNat 1), 232, 1, 0, 0, 0))))) xz)) (.branch 0 (.branch 0 (.branch 0 (.branch 0 (.branch 0 (.leaf (hloada 0, 4, 1, 0, 0, 0)) xz) (.branch 0 xz (.leaf (hget, 196, 3, 10, 18, 5)))) (.branch 0 xz (.branch 0 xz (.leaf (hloada 0, 228, 1, 0, 0, 0))))) (.branch 0 (.branch 0 xz (.branch 0 xz (.leaf (hiinc 2 (Int.ofNat 1), 212, 3, 0, 0, 0)))) xz)) (.branch 0 (.branch 0 (.branch 0 xz (.branch 0 xz (.leaf (hbin (fun a b => a * b) (fun _ _ => true), 204, 1, 0, 0, 0)))) (.branch 0 (.branch 0 xz (.leaf (hloada 0, 172, 1, 0, 0, 0))) xz)) (.branch 0 (.branch 0 xz (.branch 0 xz (.leaf (hget, 220, 3, 10, 13, 0)))) (.branch 0 (.branch 0 xz (.leaf (hpush 2 (Int.ofNat 0), 188, 1, 0, 0, 0))) xz))))) (.branch 0 (.branch 0 (.branch 0 (.branch 0 xz (.branch 0 (.branch 0 xz (.leaf (hloada 0, 162, 1, 0, 0, 0))) xz)) (.branch 0 xz (.branch 0 (.branch 0 xz (.leaf (hloada 0, 178, 1, 0, 0, 0))) xz))) (.branch 0 (.branch 0 xz (.branch 0 xz (.branch 0 xz (.leaf (hret 1, 234, 1, 0, 0, 0))))) (.branch 0 (.branch 0 xz (.branch 0 xz (.leaf (hloada 0, 218, 1, 0, 0, 0)))) (.branch 0 (.branch 0 xz (.leaf (hpush 2 (Int.ofNat 0), 186, 1, 0, 0, 0))) xz)))) (.branch 0 (.branch 0 (.branch 0 xz (.branch 0 (.branch 0 xz (.leaf (hload 2 1, 166, 1, 0, 0, 0))) xz)) (.branch 0 xz (.branch 0 (.branch 0 xz (.leaf (hloada 0, 182, 1, 0, 0, 0))) xz))) (.branch 0 (.branch 0 (.branch 0 xz (.branch 0 xz (.leaf (hbin (fun a b => a + b) (fun _ _ => true), 206, 1, 0, 0, 0)))) xz) (.branch 0 (.branch 0 (.branch 0 xz (.leaf (hloada 0, 158, 1, 0, 0, 0))) xz) (.branch 0 (.branch 0 xz (.leaf (hload 2 2, 190, 1, 0, 0, 0))) xz)))))) (.branch 0 (.branch 0 (.branch 0 (.branch 0 (.branch 0 (.branch 0 (.branch 0 (.leaf (hget, 1, 3, 10, 13, 0)) xz) xz) (.branch 0 xz (.branch 0 xz (.leaf (hputf, 225, 3, 10, 13, 0))))) (.branch 0 xz (.branch 0 (.branch 0 xz (.leaf (hast 2 2, 177, 1, 0, 0, 0))) xz))) (.branch 0 (.branch 0 (.branch 0 (.branch 0 (.leaf (hicmp .ne, 9, 3, 158, 0, 0)) xz) (.branch 0 xz (.leaf (hget, 201, 3, 10, 13, 0)))) (.branch 0 (.branch 0 xz (.leaf (hget, 169, 3, 10, 16, 5))) (.branch 0 xz (.leaf (hbin (fun a b => a - b) (fun _ _ => true), 233, 1, 0, 0, 0))))) xz)) (.branch 0 (.branch 0 (.branch 0 (.branch 0 (.branch 0 (.leaf (hget, 5, 3, 10, 15, 5)) xz) xz) (.branch 0 xz (.branch 0 xz (.leaf (hget, 229, 3, 10, 13, 0))))) xz) (.branch 0 (.branch 0 (.branch 0 xz (.branch 0 xz (.leaf (hload 2 2, 205, 1, 0, 0, 0)))) (.branch 0 (.branch 0 xz (.leaf (hget, 173, 3, 10, 13, 0))) xz)) (.branch 0 xz (.branch 0 (.branch 0 xz (.leaf (hstore 2 2, 189, 1, 0, 0, 0))) xz))))) (.branch 0 (.branch 0 (.branch 0 (.branch 0 (.branch 0 xz (.branch 0 xz (.leaf (hloada 0, 195, 1, 0, 0, 0)))) (.branch 0 (.branch 0 xz (.leaf (hget, 163, 3, 10, 13, 0))) xz)) (.branch 0 (.branch 0 xz (.branch 0 xz (.leaf (hast 5 10, 211, 1, 0, 0, 0)))) (.branch 0 (.branch 0 xz (.leaf (hget, 179, 3, 10, 17, 5))) xz))) (.branch 0 xz (.branch 0 (.branch 0 xz (.branch 0 xz (.leaf (hdup, 219, 1, 0, 0, 0)))) (.branch 0 (.branch 0 xz (.leaf (hast 2 2, 187, 1, 0, 0, 0))) xz)))) (.branch 0 (.branch 0 (.branch 0 (.branch 0 xz (.branch 0 xz (.leaf (hpush 2 (Int.ofNat 3), 199, 1, 0, 0, 0)))) (.branch 0 (.branch 0 xz (.leaf (hast 0 0, 167, 1, 0, 0, 0))) xz)) (.branch 0 (.branch 0 xz (.branch 0 xz (.leaf (hgoto, 215, 3, 190, 0, 0)))) (.branch 0 (.branch 0 xz (.leaf (hget, 183, 3, 10, 13, 0))) xz))) (.branch 0 (.branch 0 (.branch 0 xz (.branch 0 xz (.leaf (hload 2 1, 207, 1, 0, 0, 0)))) xz) (.branch 0 (.branch 0 (.branch 0 xz (.leaf (hget, 159, 3, 10, 15, 5))) (.branch 0 xz (.leaf (hpush 2 (Int.ofNat 1), 223, 1, 0, 0, 0)))) (.branch 0 (.branch 0 xz (.leaf (hpush 2 (Int.ofNat 3), 191, 1, 0, 0, 0))) xz))))))
noncomputable def xp86 : xP := (((8, 7), xc86), [], 1, 1, 3, 12)
noncomputable def xc87 : Lean.RArray xEn := .branch 0 (.branch 0 (.branch 0 (.branch 0 (.leaf (hnew, 0, 3, 9, 4, 0)) (.leaf (hconv (fun a => cond (Nat.beq a 2) 3 7) (fun a z => cond (Nat.beq a 2) (xin32 z) (Nat.beq a 5)), 8, 1, 0, 0, 0))) (.branch 0 (.leaf (hpush 2 (Int.ofNat 116), 4, 2, 0, 0, 0)) xz)) (.branch 0 (.branch 0 xz (.leaf (hspec, 10, 3, 12, 1, 0))) (.branch 0 (.leaf (hpush 4 (Int.ofNat 0), 6, 1, 0, 0, 0)) xz))) (.branch 0 (.branch 0 (.branch 0 xz (.leaf (hpush 2 (Int.ofNat 0), 9, 1, 0, 0, 0))) (.branch 0 xz (.leaf (hret 6, 13, 1, 0, 0, 0)))) (.branch 0 (.branch 0 (.leaf (hdup, 3, 1, 0, 0, 0)) xz) (.branch 0 (.leaf (hload 2 0, 7, 1, 0, 0, 0)) xz)))
noncomputable def xp87 : xP := (((4, 1), xc87), [], 1, 6, 1, 4)
noncomputable def xc88 : Lean.RArray xEn := .branch 0 (.branch 0 (.branch 0 (.branch 0 (.branch 0 (.leaf (hloada 0, 0, 1, 0, 0, 0)) (.leaf (hget, 16, 3, 10, 17, 5))) xz) (.branch 0 (.branch 0 xz (.leaf (hald 2 2, 20, 1, 0, 0, 0))) (.branch 0 (.leaf (hif .ne, 12, 3, 28, 0, 0)) (.leaf (hpush 2 (Int.ofNat 0), 28, 1, 0, 0, 0))))) (.branch 0 (.branch 0 (.branch 0 (.leaf (hpush 2 (Int.ofNat 0), 2, 1, 0, 0, 0)) xz) (.branch 0 (.leaf (hload 2 1, 10, 1, 0, 0, 0)) xz)) (.branch 0 (.branch 0 (.leaf (hloada 0, 6, 1, 0, 0, 0)) xz) (.branch 0 xz (.leaf (hret 1, 30, 1, 0, 0, 0)))))) (.branch 0 (.branch 0 (.branch 0 (.branch 0 (.leaf (hload 2 1, 1, 1, 0, 0, 0)) xz) xz) (.branch 0 (.branch 0 xz (.leaf (hif .eq, 21, 3, 28, 0, 0))) (.branch 0 xz (.leaf (hbin (fun a b => a + b) (fun _ _ => true), 29, 1, 0, 0, 0))))) (.branch 0 (.branch 0 (.branch 0 (.leaf (hcallv, 3, 3, 89, 0, 10)) (.leaf (hload 2 1, 19, 1, 0, 0, 0))) (.branch 0 (.leaf (hald 0 0, 11, 1, 0, 0, 0)) xz)) (.branch 0 (.branch 0 (.leaf (hget, 7, 3, 10, 15, 5)) xz) (.branch 0 (.leaf (hloada 0, 15, 1, 0, 0, 0)) xz))))
noncomputable def xp88 : xP := (((5, 2), xc88), [], 1, 1, 0, 0)
noncomputable def xc89 : Lean.RArray xEn := .branch 0 (.branch 0 (.branch 0 (.branch 0 (.branch 0 (.branch 0 (.branch 0 (.leaf (hpush 2 (Int.ofNat 0), 0, 1, 0, 0, 0)) (.leaf (hif .eq, 64, 3, 98, 0, 0))) (.branch 0 (.leaf (hbin (fun a b => a + b) (fun _ _ => true), 32, 1, 0, 0, 0)) xz)) (.branch 0 (.branch 0 xz (.leaf (hloada 0, 80, 1, 0, 0, 0))) xz)) (.branch 0 (.branch 0 xz (.branch 0 (.leaf (hpush 2 (Int.ofNat 0), 40, 1, 0, 0, 0)) (.leaf (hgoto, 104, 3, 43, 0, 0)))) (.branch 0 (.branch 0 (.leaf (hif .eq, 24, 3, 31, 0, 0)) (.leaf (hcalls, 88, 3, 91, 0, 0))) (.branch 0 (.leaf (hget, 56, 3, 10, 16, 5)) xz)))) (.branch 0 (.branch 0 (.branch 0 (.branch 0 xz (.leaf (hget, 68, 3, 10, 15, 5))) (.branch 0 xz (.leaf (hstore 2 3, 100, 1, 0, 0, 0)))) (.branch 0 (.branch 0 (.leaf (hload 2 1, 20, 1, 0, 0, 0)) (.leaf (hload 2 4, 84, 2, 0, 0, 0))) xz)) (.branch 0 (.branch 0 (.branch 0 (.leaf (hload 2 3, 12, 1, 0, 0, 0)) (.leaf (hload 2 2, 76, 1, 0, 0, 0))) (.branch 0 xz (.leaf (hret 1, 108, 1, 0, 0, 0)))) (.branch 0 (.branch 0 (.leaf (hgoto, 28, 3, 32, 0, 0)) xz) xz)))) (.branch 0 (.branch 0 (.branch 0 (.branch 0 (.branch 0 (.leaf (hpush 2 (Int.ofNat 0), 2, 1, 0, 0, 0)) xz) (.branch 0 (.leaf (hiinc 4 (Int.ofNat 1), 34, 3, 0, 0, 0)) (.leaf (hpush 2 (Int.ofNat 0), 98, 1, 0, 0, 0)))) (.branch 0 xz (.branch 0 (.leaf (hbin (fun a b => a * b) (fun _ _ => true), 50, 1, 0, 0, 0)) xz))) (.branch 0 (.branch 0 (.branch 0 xz (.leaf (hbin (fun a b => a / b) xin31, 74, 1, 0, 0, 0))) xz) xz)) (.branch 0 (.branch 0 xz (.branch 0 (.branch 0 xz (.leaf (hald 5 10, 86, 1, 0, 0, 0))) (.branch 0 (.leaf (hload 2 3, 54, 1, 0, 0, 0)) xz))) (.branch 0 (.branch 0 (.branch 0 (.leaf (hload 2 2, 14, 1, 0, 0, 0)) xz) (.branch 0 (.leaf (hloada 0, 46, 1, 0, 0, 0)) xz)) (.branch 0 xz (.branch 0 (.leaf (hbin (fun a b => a / b) xin31, 62, 1, 0, 0, 0)) xz)))))) (.branch 0 (.branch 0 (.branch 0 (.branch 0 (.branch 0 (.branch 0 (.leaf (hstore 2 3, 1, 1, 0, 0, 0)) xz) (.branch 0 (.leaf (hstore 2 3, 33, 1, 0, 0, 0)) xz)) (.branch 0 (.branch 0 (.leaf (hcallv, 17, 3, 90, 0, 10)) (.leaf (hget, 81, 3, 10, 18, 5))) xz)) (.branch 0 (.branch 0 (.branch 0 (.leaf (hicmp .ge, 9, 3, 40, 0, 0)) (.leaf (hpush 2 (Int.ofNat 3), 73, 1, 0, 0, 0))) (.branch 0 (.leaf (hstore 2 4, 41, 2, 0, 0, 0)) xz)) xz)) (.branch 0 (.branch 0 (.branch 0 (.branch 0 (.leaf (hload 2 4, 5, 2, 0, 0, 0)) xz) (.branch 0 (.leaf (hgoto, 37, 3, 5, 0, 0)) (.leaf (hiinc 4 (Int.ofNat 1), 101, 3, 0, 0, 0)))) (.branch 0 (.branch 0 (.leaf (hcalls, 21, 3, 91, 0, 0)) xz) xz)) (.branch 0 (.branch 0 (.branch 0 (.leaf (hloada 0, 13, 1, 0, 0, 0)) (.leaf (hicmp .ne, 77, 3, 98, 0, 0))) (.branch 0 (.leaf (hpush 2 (Int.ofNat 3), 45, 1, 0, 0, 0)) xz)) (.branch 0 xz (.branch 0 (.leaf (hpush 2 (Int.ofNat 3), 61, 1, 0, 0, 0)) xz))))) (.branch 0 (.branch 0 (.branch 0 (.branch 0 (.branch 0 (.leaf (hstore 2 4, 3, 2, 0, 0, 0)) (.leaf (hloada 0, 67, 1, 0, 0, 0))) (.branch 0 xz (.leaf (hbin (fun a b => a + b) (fun _ _ => true), 99, 1, 0, 0, 0)))) (.branch 0 xz (.branch 0 (.leaf (hicmp .ge, 51, 3, 107, 0, 0)) xz))) (.branch 0 (.branch 0 (.branch 0 xz (.leaf (hald 0 0, 75, 1, 0, 0, 0))) (.branch 0 (.leaf (hload 2 4, 43, 2, 0, 0, 0)) (.leaf (hload 2 3, 107, 1, 0, 0, 0)))) (.branch 0 (.branch 0 (.leaf (hpush 2 (Int.ofNat 1), 27, 1, 0, 0, 0)) (.leaf (hif .eq, 91, 3, 98, 0, 0))) (.branch 0 (.leaf (hload 2 4, 59, 2, 0, 0, 0)) xz)))) (.branch 0 (.branch 0 (.branch 0 (.branch 0 (.leaf (hpush 2 (Int.ofNat 8), 7, 2, 0, 0, 0)) (.leaf (hload 2 4, 71, 2, 0, 0, 0))) xz) (.branch 0 (.branch 0 xz (.leaf (hload 2 1, 87, 1, 0, 0, 0))) (.branch 0 (.leaf (hloada 0, 55, 1, 0, 0, 0)) xz))) (.branch 0 (.branch 0 (.branch 0 (.leaf (hload 2 4, 15, 2, 0, 0, 0)) xz) (.branch 0 (.leaf (hget, 47, 3, 10, 13, 0)) xz)) (.branch 0 (.branch 0 (.leaf (hpush 2 (Int.ofNat 0), 31, 1, 0, 0, 0)) xz) (.branch 0 (.leaf (hald 2 2, 63, 1, 0, 0, 0)) xz))))))
noncomputable def xp89 : xP := (((7, 5), xc89), [], 2, 1, 0, 0)
noncomputable def xc90 : Lean.RArray xEn := .branch 0 (.branch 0 (.branch 0 (.branch 0 (.leaf (hloada 0, 0, 1, 0, 0, 0)) (.leaf (hload 2 2, 8, 1, 0, 0, 0))) (.branch 0 (.leaf (hpush 2 (Int.ofNat 8), 4, 2, 0, 0, 0)) xz)) (.branch 0 (.branch 0 xz (.leaf (hald 5 10, 10, 1, 0, 0, 0))) (.branch 0 (.leaf (hload 2 1, 6, 1, 0, 0, 0)) xz))) (.branch 0 (.branch 0 (.branch 0 (.leaf (hget, 1, 3, 10, 12, 5)) (.leaf (hbin (fun a b => a + b) (fun _ _ => true), 9, 1, 0, 0, 0))) xz) (.branch 0 (.branch 0 xz (.leaf (hret 6, 11, 1, 0, 0, 0))) (.branch 0 (.leaf (hbin (fun a b => a * b) (fun _ _ => true), 7, 1, 0, 0, 0)) xz)))
noncomputable def xp90 : xP := (((4, 3), xc90), [], 2, 6, 0, 0)
noncomputable def xc91 : Lean.RArray xEn := .branch 0 (.branch 0 (.branch 0 (.branch 0 (.branch 0 (.leaf (hloada 0, 0, 1, 0, 0, 0)) (.leaf (hif .ne, 16, 3, 23, 0, 0))) (.branch 0 xz (.leaf (hret 1, 24, 1, 0, 0, 0)))) (.branch 0 (.branch 0 (.leaf (hpush 2 (Int.ofNat 116), 4, 2, 0, 0, 0)) (.leaf (hgoto, 20, 3, 24, 0, 0))) xz)) (.branch 0 (.branch 0 xz (.branch 0 (.leaf (hget, 10, 3, 9, 2, 3)) xz)) (.branch 0 (.branch 0 (.leaf (hicmp .ne, 6, 3, 23, 0, 0)) xz) (.branch 0 (.leaf (hconv (fun a => cond (Nat.beq a 2) 3 7) (fun a z => cond (Nat.beq a 2) (xin32 z) (Nat.beq a 5)), 14, 1, 0, 0, 0)) xz)))) (.branch 0 (.branch 0 (.branch 0 (.branch 0 (.leaf (hget, 1, 3, 9, 0, 1)) xz) (.branch 0 (.leaf (hloada 0, 9, 1, 0, 0, 0)) xz)) (.branch 0 xz (.branch 0 (.leaf (hload 2 1, 13, 1, 0, 0, 0)) xz))) (.branch 0 (.branch 0 (.branch 0 xz (.leaf (hpush 2 (Int.ofNat 1), 19, 1, 0, 0, 0))) xz) (.branch 0 (.branch 0 xz (.leaf (hpush 2 (Int.ofNat 0), 23, 1, 0, 0, 0))) (.branch 0 (.leaf (hlcmp, 15, 1, 0, 0, 0)) xz))))
noncomputable def xp91 : xP := (((5, 2), xc91), [], 2, 3, 0, 0)
noncomputable def xc92 : Lean.RArray xEn := .branch 0 (.branch 0 (.branch 0 (.branch 0 (.branch 0 (.leaf (hloada 5, 0, 2, 0, 0, 0)) xz) (.branch 0 xz (.leaf (hret 1, 24, 1, 0, 0, 0)))) (.branch 0 (.branch 0 (.leaf (hload 2 1, 4, 1, 0, 0, 0)) (.leaf (hret 1, 20, 1, 0, 0, 0))) xz)) (.branch 0 (.branch 0 (.branch 0 (.leaf (hpush 2 (Int.ofNat 0), 2, 1, 0, 0, 0)) xz) xz) (.branch 0 (.branch 0 (.leaf (hload 2 3, 6, 1, 0, 0, 0)) xz) xz))) (.branch 0 (.branch 0 (.branch 0 xz (.branch 0 (.leaf (hcallv, 9, 3, 93, 0, 7)) xz)) (.branch 0 (.branch 0 (.leaf (hload 2 2, 5, 1, 0, 0, 0)) xz) xz)) (.branch 0 (.branch 0 (.branch 0 (.leaf (hloada 0, 3, 1, 0, 0, 0)) (.leaf (hpush 2 (Int.ofNat 1), 19, 1, 0, 0, 0))) xz) (.branch 0 (.branch 0 (.leaf (hload 2 4, 7, 2, 0, 0, 0)) (.leaf (hpush 2 (Int.ofNat 2), 23, 1, 0, 0, 0))) xz)))
noncomputable def xp92 : xP := (((5, 7), xc92), [(0, 14, 4, 6, 19), (0, 14, 3, 6, 23)], 6, 1, 6, 36)
noncomputable def xc93 : Lean.RArray xEn := .branch 0 (.branch 0 (.branch 0 (.branch 0 (.branch 0 (.leaf (hload 2 1, 0, 1, 0, 0, 0)) (.leaf (hloada 0, 16, 1, 0, 0, 0))) (.branch 0 (.leaf (hcalls, 8, 3, 57, 0, 0)) xz)) (.branch 0 xz (.branch 0 (.leaf (hpush 2 (Int.ofNat 3), 12, 1, 0, 0, 0)) xz))) (.branch 0 (.branch 0 (.branch 0 (.leaf (hcalls, 2, 3, 57, 0, 0)) (.leaf (hload 2 2, 18, 1, 0, 0, 0))) xz) (.branch 0 (.branch 0 (.leaf (hload 2 4, 6, 2, 0, 0, 0)) xz) xz))) (.branch 0 (.branch 0 (.branch 0 (.branch 0 (.leaf (hload 2 2, 1, 1, 0, 0, 0)) (.leaf (hload 2 1, 17, 1, 0, 0, 0))) xz) (.branch 0 (.branch 0 (.leaf (hload 2 1, 5, 1, 0, 0, 0)) xz) (.branch 0 (.leaf (hcalls, 13, 3, 25, 0, 0)) xz))) (.branch 0 (.branch 0 (.branch 0 xz (.leaf (hcallv, 19, 3, 95, 0, 7))) (.branch 0 (.leaf (hload 2 3, 11, 1, 0, 0, 0)) xz)) xz))
noncomputable def xp93 : xP := (((5, 7), xc93), [], 4, 1, 6, 36)
noncomputable def xc94 : Lean.RArray xEn := .branch 0 (.branch 0 (.branch 0 (.branch 0 (.branch 0 (.branch 0 (.leaf (hloada 0, 0, 1, 0, 0, 0)) xz) (.branch 0 (.leaf (hcalls, 16, 3, 18, 0, 0)) (.leaf (hpush 2 (Int.ofNat 116), 48, 2, 0, 0, 0)))) (.branch 0 (.branch 0 xz (.leaf (hload 2 1, 40, 1, 0, 0, 0))) (.branch 0 (.leaf (hpush 2 (Int.ofNat 0), 24, 1, 0, 0, 0)) xz))) xz) (.branch 0 (.branch 0 (.branch 0 (.branch 0 (.leaf (hputf, 2, 3, 10, 0, 0)) (.leaf (hpush 2 (Int.ofNat 1), 34, 1, 0, 0, 0))) (.branch 0 xz (.leaf (hicmp .eq, 50, 3, 59, 0, 0)))) (.branch 0 (.branch 0 (.leaf (hif .eq, 10, 3, 33, 0, 0)) (.leaf (hcallv, 42, 3, 90, 0, 10))) (.branch 0 xz (.leaf (hret 1, 58, 1, 0, 0, 0))))) (.branch 0 (.branch 0 (.branch 0 (.leaf (hload 2 2, 6, 1, 0, 0, 0)) (.leaf (hret 1, 38, 1, 0, 0, 0))) (.branch 0 (.leaf (hload 2 4, 22, 2, 0, 0, 0)) (.leaf (hpush 2 (Int.ofNat 2), 54, 1, 0, 0, 0)))) (.branch 0 (.branch 0 (.leaf (hpush 2 (Int.ofNat 0), 14, 1, 0, 0, 0)) xz) (.branch 0 (.leaf (hif .ne, 30, 3, 39, 0, 0)) xz))))) (.branch 0 (.branch 0 (.branch 0 (.branch 0 (.branch 0 (.leaf (hpush 2 (Int.ofNat 0), 1, 1, 0, 0, 0)) (.leaf (hloada 0, 33, 1, 0, 0, 0))) xz) (.branch 0 (.branch 0 xz (.leaf (hload 2 2, 41, 1, 0, 0, 0))) (.branch 0 (.leaf (hpush 2 (Int.ofNat 7), 25, 2, 0, 0, 0)) xz))) (.branch 0 (.branch 0 (.branch 0 (.leaf (hload 2 1, 5, 1, 0, 0, 0)) xz) (.branch 0 xz (.leaf (hloada 0, 53, 1, 0, 0, 0)))) (.branch 0 (.branch 0 (.leaf (hload 2 3, 13, 1, 0, 0, 0)) (.leaf (hget, 45, 3, 9, 0, 1))) xz))) (.branch 0 (.branch 0 (.branch 0 (.branch 0 xz (.leaf (hcallv, 35, 3, 19, 0, 10))) (.branch 0 (.leaf (hif .eq, 19, 3, 33, 0, 0)) xz)) (.branch 0 xz (.branch 0 (.leaf (hcalls, 27, 3, 18, 0, 0)) xz))) (.branch 0 (.branch 0 (.branch 0 (.leaf (hcalls, 7, 3, 59, 0, 0)) (.leaf (hloada 0, 39, 1, 0, 0, 0))) (.branch 0 xz (.leaf (hcallv, 55, 3, 19, 0, 10)))) (.branch 0 (.branch 0 (.leaf (hpush 2 (Int.ofNat 2), 15, 1, 0, 0, 0)) xz) xz))))
noncomputable def xp94 : xP := (((6, 8), xc94), [], 4, 1, 0, 0)
noncomputable def xc95 : Lean.RArray xEn := .branch 0 (.branch 0 (.branch 0 (.branch 0 (.branch 0 (.leaf (hloada 0, 0, 1, 0, 0, 0)) xz) xz) (.branch 0 (.branch 0 (.leaf (hload 2 1, 4, 1, 0, 0, 0)) xz) xz)) (.branch 0 (.branch 0 xz (.branch 0 (.leaf (hloada 3, 10, 1, 0, 0, 0)) xz)) (.branch 0 (.branch 0 (.leaf (hcallv, 6, 3, 63, 0, 2)) xz) (.branch 0 (.leaf (hif .ne, 14, 3, 28, 0, 0)) xz)))) (.branch 0 (.branch 0 (.branch 0 (.branch 0 (.leaf (hget, 1, 3, 7, 1, 5)) (.leaf (hnew, 17, 3, 3, 0, 1))) (.branch 0 (.leaf (hstorea 3, 9, 1, 0, 0, 0)) xz)) (.branch 0 (.branch 0 (.leaf (hload 2 2, 5, 1, 0, 0, 0)) xz) xz)) (.branch 0 (.branch 0 xz (.branch 0 (.leaf (hcallv, 11, 3, 69, 0, 6)) xz)) xz))
noncomputable def xp95 : xP := (((5, 4), xc95), [], 2, 6, 1, 6)
noncomputable def xc96 : Lean.RArray xEn := .branch 0 (.branch 0 (.branch 0 (.branch 0 (.branch 0 (.leaf (hloada 5, 0, 2, 0, 0, 0)) xz) (.branch 0 xz (.leaf (hret 1, 24, 1, 0, 0, 0)))) (.branch 0 (.branch 0 (.leaf (hload 2 1, 4, 1, 0, 0, 0)) (.leaf (hret 1, 20, 1, 0, 0, 0))) xz)) (.branch 0 (.branch 0 (.branch 0 (.leaf (hpush 2 (Int.ofNat 0), 2, 1, 0, 0, 0)) xz) xz) (.branch 0 (.branch 0 (.leaf (hload 2 3, 6, 1, 0, 0, 0)) xz) xz))) (.branch 0 (.branch 0 (.branch 0 xz (.branch 0 (.leaf (hcallv, 9, 3, 97, 0, 7)) xz)) (.branch 0 (.branch 0 (.leaf (hload 2 2, 5, 1, 0, 0, 0)) xz) xz)) (.branch 0 (.branch 0 (.branch 0 (.leaf (hloada 0, 3, 1, 0, 0, 0)) (.leaf (hpush 2 (Int.ofNat 1), 19, 1, 0, 0, 0))) xz) (.branch 0 (.branch 0 (.leaf (hload 2 4, 7, 2, 0, 0, 0)) (.leaf (hpush 2 (Int.ofNat 2), 23, 1, 0, 0, 0))) xz)))
noncomputable def xp96 : xP := (((5, 7), xc96), [(0, 14, 4, 6, 19), (0, 14, 3, 6, 23)], 6, 1, 6, 36)
noncomputable def xc97 : Lean.RArray xEn := .branch 0 (.branch 0 (.branch 0 (.branch 0 (.branch 0 (.leaf (hload 2 1, 0, 1, 0, 0, 0)) (.leaf (hloada 0, 16, 1, 0, 0, 0))) (.branch 0 (.leaf (hcalls, 8, 3, 57, 0, 0)) xz)) (.branch 0 xz (.branch 0 (.leaf (hpush 2 (Int.ofNat 3), 12, 1, 0, 0, 0)) xz))) (.branch 0 (.branch 0 (.branch 0 (.leaf (hcalls, 2, 3, 57, 0, 0)) (.leaf (hload 2 2, 18, 1, 0, 0, 0))) xz) (.branch 0 (.branch 0 (.leaf (hload 2 4, 6, 2, 0, 0, 0)) xz) xz))) (.branch 0 (.branch 0 (.branch 0 (.branch 0 (.leaf (hload 2 2, 1, 1, 0, 0, 0)) (.leaf (hload 2 1, 17, 1, 0, 0, 0))) xz) (.branch 0 (.branch 0 (.leaf (hload 2 1, 5, 1, 0, 0, 0)) xz) (.branch 0 (.leaf (hcalls, 13, 3, 25, 0, 0)) xz))) (.branch 0 (.branch 0 (.branch 0 xz (.leaf (hcallv, 19, 3, 95, 0, 7))) (.branch 0 (.leaf (hload 2 3, 11, 1, 0, 0, 0)) xz)) xz))
noncomputable def xp97 : xP := (((5, 7), xc97), [], 4, 1, 6, 36)
noncomputable def xc98 : Lean.RArray xEn := .branch 0 (.branch 0 (.branch 0 (.branch 0 (.branch 0 (.branch 0 (.leaf (hloada 0, 0, 1, 0, 0, 0)) xz) (.branch 0 (.leaf (hcalls, 16, 3, 18, 0, 0)) (.leaf (hpush 2 (Int.ofNat 116), 48, 2, 0, 0, 0)))) (.branch 0 (.branch 0 xz (.leaf (hload 2 1, 40, 1, 0, 0, 0))) (.branch 0 (.leaf (hpush 2 (Int.ofNat 0), 24, 1, 0, 0, 0)) xz))) xz) (.branch 0 (.branch 0 (.branch 0 (.branch 0 (.leaf (hputf, 2, 3, 10, 0, 0)) (.leaf (hpush 2 (Int.ofNat 1), 34, 1, 0, 0, 0))) (.branch 0 xz (.leaf (hicmp .eq, 50, 3, 59, 0, 0)))) (.branch 0 (.branch 0 (.leaf (hif .eq, 10, 3, 33, 0, 0)) (.leaf (hcallv, 42, 3, 90, 0, 10))) (.branch 0 xz (.leaf (hret 1, 58, 1, 0, 0, 0))))) (.branch 0 (.branch 0 (.branch 0 (.leaf (hload 2 2, 6, 1, 0, 0, 0)) (.leaf (hret 1, 38, 1, 0, 0, 0))) (.branch 0 (.leaf (hload 2 4, 22, 2, 0, 0, 0)) (.leaf (hpush 2 (Int.ofNat 2), 54, 1, 0, 0, 0)))) (.branch 0 (.branch 0 (.leaf (hpush 2 (Int.ofNat 0), 14, 1, 0, 0, 0)) xz) (.branch 0 (.leaf (hif .ne, 30, 3, 39, 0, 0)) xz))))) (.branch 0 (.branch 0 (.branch 0 (.branch 0 (.branch 0 (.leaf (hpush 2 (Int.ofNat 0), 1, 1, 0, 0, 0)) (.leaf (hloada 0, 33, 1, 0, 0, 0))) xz) (.branch 0 (.branch 0 xz (.leaf (hload 2 2, 41, 1, 0, 0, 0))) (.branch 0 (.leaf (hpush 2 (Int.ofNat 7), 25, 2, 0, 0, 0)) xz))) (.branch 0 (.branch 0 (.branch 0 (.leaf (hload 2 1, 5, 1, 0, 0, 0)) xz) (.branch 0 xz (.leaf (hloada 0, 53, 1, 0, 0, 0)))) (.branch 0 (.branch 0 (.leaf (hload 2 3, 13, 1, 0, 0, 0)) (.leaf (hget, 45, 3, 9, 0, 1))) xz))) (.branch 0 (.branch 0 (.branch 0 (.branch 0 xz (.leaf (hcallv, 35, 3, 19, 0, 10))) (.branch 0 (.leaf (hif .eq, 19, 3, 33, 0, 0)) xz)) (.branch 0 xz (.branch 0 (.leaf (hcalls, 27, 3, 18, 0, 0)) xz))) (.branch 0 (.branch 0 (.branch 0 (.leaf (hcalls, 7, 3, 59, 0, 0)) (.leaf (hloada 0, 39, 1, 0, 0, 0))) (.branch 0 xz (.leaf (hcallv, 55, 3, 19, 0, 10)))) (.branch 0 (.branch 0 (.leaf (hpush 2 (Int.ofNat 2), 15, 1, 0, 0, 0)) xz) xz))))
noncomputable def xp98 : xP := (((6, 8), xc98), [], 4, 1, 0, 0)
noncomputable def xc99 : Lean.RArray xEn := .branch 0 (.branch 0 (.branch 0 (.branch 0 (.branch 0 (.leaf (hloada 3, 0, 1, 0, 0, 0)) (.leaf (hret 1, 16, 1, 0, 0, 0))) (.branch 0 (.leaf (hconv (fun a => cond (Nat.beq a 2) 3 7) (fun a z => cond (Nat.beq a 2) (xin32 z) (Nat.beq a 5)), 8, 1, 0, 0, 0)) xz)) (.branch 0 (.branch 0 (.leaf (hload 2 2, 4, 1, 0, 0, 0)) xz) xz)) (.branch 0 (.branch 0 (.branch 0 (.leaf (hloada 0, 2, 1, 0, 0, 0)) (.leaf (hret 1, 18, 1, 0, 0, 0))) (.branch 0 (.leaf (hgoto, 10, 3, 17, 0, 0)) xz)) xz)) (.branch 0 (.branch 0 (.branch 0 (.branch 0 (.leaf (hpush 2 (Int.ofNat 0), 1, 1, 0, 0, 0)) (.leaf (hpush 2 (Int.ofNat 0), 17, 1, 0, 0, 0))) (.branch 0 (.leaf (hast 3 3, 9, 1, 0, 0, 0)) xz)) (.branch 0 (.branch 0 (.leaf (hcallv, 5, 3, 100, 0, 7)) xz) xz)) (.branch 0 (.branch 0 (.branch 0 (.leaf (hload 2 1, 3, 1, 0, 0, 0)) xz) xz) (.branch 0 xz (.branch 0 (.leaf (hpush 2 (Int.ofNat 1), 15, 1, 0, 0, 0)) xz))))
noncomputable def xp99 : xP := (((5, 5), xc99), [(0, 10, 4, 4, 15)], 4, 1, 2, 12)
noncomputable def xc100 : Lean.RArray xEn := .branch 0 (.branch 0 (.branch 0 (.branch 0 (.branch 0 (.leaf (hload 2 1, 0, 1, 0, 0, 0)) xz) xz) xz) (.branch 0 (.branch 0 (.branch 0 (.leaf (hcalls, 2, 3, 57, 0, 0)) xz) (.branch 0 (.leaf (hload 2 2, 10, 1, 0, 0, 0)) xz)) (.branch 0 (.branch 0 (.leaf (hget, 6, 3, 7, 1, 5)) xz) (.branch 0 (.leaf (hget, 14, 3, 6, 0, 1)) xz)))) (.branch 0 (.branch 0 (.branch 0 (.branch 0 (.leaf (hload 2 2, 1, 1, 0, 0, 0)) (.leaf (hret 1, 17, 1, 0, 0, 0))) (.branch 0 (.leaf (hload 2 1, 9, 1, 0, 0, 0)) xz)) (.branch 0 (.branch 0 (.leaf (hloada 0, 5, 1, 0, 0, 0)) xz) xz)) (.branch 0 (.branch 0 xz (.branch 0 (.leaf (hcallv, 11, 3, 63, 0, 2)) xz)) xz))
noncomputable def xp100 : xP := (((5, 3), xc100), [], 2, 2, 2, 12)
noncomputable def xc101 : Lean.RArray xEn := .branch 0 (.branch 0 (.branch 0 (.branch 0 (.branch 0 (.branch 0 (.leaf (hloada 0, 0, 1, 0, 0, 0)) xz) xz) (.branch 0 xz (.branch 0 (.leaf (hpush 2 (Int.ofNat 0), 24, 1, 0, 0, 0)) xz))) (.branch 0 xz (.branch 0 xz (.branch 0 (.leaf (hloada 0, 28, 1, 0, 0, 0)) xz)))) (.branch 0 (.branch 0 (.branch 0 (.branch 0 (.leaf (hload 2 2, 2, 1, 0, 0, 0)) (.leaf (hget, 34, 3, 9, 0, 1))) (.branch 0 (.leaf (hget, 18, 3, 10, 0, 0)) xz)) (.branch 0 (.branch 0 (.leaf (hgoto, 10, 3, 14, 0, 0)) xz) xz)) (.branch 0 (.branch 0 (.branch 0 (.leaf (hif .eq, 6, 3, 13, 0, 0)) xz) xz) (.branch 0 (.branch 0 (.leaf (hputf, 14, 3, 10, 0, 0)) xz) (.branch 0 (.leaf (hload 2 2, 30, 1, 0, 0, 0)) xz))))) (.branch 0 (.branch 0 (.branch 0 (.branch 0 (.branch 0 (.leaf (hload 2 1, 1, 1, 0, 0, 0)) xz) (.branch 0 (.leaf (hloada 0, 17, 1, 0, 0, 0)) xz)) (.branch 0 (.branch 0 (.leaf (hpush 2 (Int.ofNat 0), 9, 1, 0, 0, 0)) xz) (.branch 0 (.leaf (hgoto, 25, 3, 37, 0, 0)) xz))) (.branch 0 (.branch 0 (.branch 0 xz (.leaf (hret 1, 37, 1, 0, 0, 0))) (.branch 0 (.leaf (hif .le, 21, 3, 28, 0, 0)) xz)) (.branch 0 (.branch 0 (.leaf (hpush 2 (Int.ofNat 1), 13, 1, 0, 0, 0)) xz) (.branch 0 (.leaf (hload 2 1, 29, 1, 0, 0, 0)) xz)))) (.branch 0 (.branch 0 (.branch 0 (.branch 0 (.leaf (hcalls, 3, 3, 59, 0, 0)) xz) xz) xz) (.branch 0 xz (.branch 0 xz (.branch 0 (.leaf (hcallv, 31, 3, 90, 0, 10)) xz)))))
noncomputable def xp101 : xP := (((6, 3), xc101), [], 2, 2, 0, 0)
noncomputable def xc102 : Lean.RArray xEn := .branch 0 (.branch 0 (.branch 0 (.branch 0 (.branch 0 (.leaf (hloada 3, 0, 1, 0, 0, 0)) xz) xz) (.branch 0 (.branch 0 (.leaf (hload 2 2, 4, 1, 0, 0, 0)) xz) xz)) (.branch 0 (.branch 0 (.branch 0 (.leaf (hloada 0, 2, 1, 0, 0, 0)) (.leaf (hpush 2 (Int.ofNat 2), 18, 1, 0, 0, 0))) xz) (.branch 0 xz (.branch 0 (.leaf (hpush 2 (Int.ofNat 1), 14, 1, 0, 0, 0)) xz)))) (.branch 0 (.branch 0 (.branch 0 (.branch 0 (.leaf (hpush 2 (Int.ofNat 0), 1, 1, 0, 0, 0)) xz) xz) (.branch 0 (.branch 0 (.leaf (hcallv, 5, 3, 103, 0, 7)) xz) xz)) (.branch 0 (.branch 0 (.branch 0 (.leaf (hload 2 1, 3, 1, 0, 0, 0)) (.leaf (hret 1, 19, 1, 0, 0, 0))) xz) (.branch 0 xz (.branch 0 (.leaf (hret 1, 15, 1, 0, 0, 0)) xz))))
noncomputable def xp102 : xP := (((5, 5), xc102), [(0, 9, 4, 4, 14), (0, 9, 2, 4, 18)], 4, 1, 3, 18)
noncomputable def xc103 : Lean.RArray xEn := .branch 0 (.branch 0 (.branch 0 (.branch 0 (.branch 0 (.leaf (hload 2 1, 0, 1, 0, 0, 0)) (.leaf (hcallv, 16, 3, 105, 0, 6))) xz) xz) (.branch 0 (.branch 0 (.branch 0 (.leaf (hcalls, 2, 3, 57, 0, 0)) xz) (.branch 0 (.leaf (hload 2 2, 10, 1, 0, 0, 0)) (.leaf (hif .ne, 26, 3, 39, 0, 0)))) (.branch 0 (.branch 0 (.leaf (hget, 6, 3, 7, 1, 5)) (.leaf (hloada 3, 22, 1, 0, 0, 0))) (.branch 0 (.leaf (hstorea 3, 14, 1, 0, 0, 0)) xz)))) (.branch 0 (.branch 0 (.branch 0 (.branch 0 (.leaf (hload 2 2, 1, 1, 0, 0, 0)) xz) (.branch 0 (.leaf (hload 2 1, 9, 1, 0, 0, 0)) xz)) (.branch 0 (.branch 0 (.leaf (hloada 0, 5, 1, 0, 0, 0)) xz) (.branch 0 xz (.leaf (hnew, 29, 3, 2, 0, 1))))) (.branch 0 (.branch 0 (.branch 0 xz (.leaf (hif .ne, 19, 3, 39, 0, 0))) (.branch 0 (.leaf (hcallv, 11, 3, 63, 0, 2)) xz)) (.branch 0 (.branch 0 xz (.leaf (hcallv, 23, 3, 69, 0, 6))) (.branch 0 (.leaf (hloada 3, 15, 1, 0, 0, 0)) xz))))
noncomputable def xp103 : xP := (((5, 4), xc103), [], 2, 5, 3, 18)
noncomputable def xc104 : Lean.RArray xEn := .branch 0 (.branch 0 (.branch 0 (.branch 0 (.branch 0 (.branch 0 (.branch 0 (.leaf (hloada 0, 0, 1, 0, 0, 0)) xz) (.branch 0 (.leaf (hstorea 3, 32, 1, 0, 0, 0)) xz)) xz) (.branch 0 xz (.branch 0 (.branch 0 (.leaf (hpush 4 (Int.ofNat 0), 24, 1, 0, 0, 0)) xz) xz))) (.branch 0 xz (.branch 0 xz (.branch 0 (.branch 0 (.leaf (hload 2 2, 28, 1, 0, 0, 0)) xz) xz)))) (.branch 0 (.branch 0 (.branch 0 (.branch 0 (.branch 0 (.leaf (hload 2 2, 2, 1, 0, 0, 0)) (.leaf (hgoto, 66, 3, 73, 0, 0))) (.branch 0 (.leaf (hloada 3, 34, 1, 0, 0, 0)) xz)) (.branch 0 (.branch 0 (.leaf (hget, 18, 3, 10, 0, 0)) xz) xz)) (.branch 0 (.branch 0 (.branch 0 (.leaf (hgoto, 10, 3, 14, 0, 0)) xz) (.branch 0 (.leaf (hget, 42, 3, 9, 0, 1)) xz)) (.branch 0 (.branch 0 (.leaf (hloada 0, 26, 1, 0, 0, 0)) xz) (.branch 0 (.leaf (hloada 0, 58, 1, 0, 0, 0)) xz)))) (.branch 0 (.branch 0 (.branch 0 (.branch 0 (.leaf (hif .eq, 6, 3, 13, 0, 0)) xz) (.branch 0 (.leaf (hif .ne, 38, 3, 50, 0, 0)) xz)) (.branch 0 xz (.branch 0 (.leaf (hpush 2 (Int.ofNat 2), 54, 1, 0, 0, 0)) xz))) (.branch 0 (.branch 0 (.branch 0 (.leaf (hputf, 14, 3, 10, 0, 0)) xz) xz) (.branch 0 xz (.branch 0 (.leaf (hif .le, 62, 3, 69, 0, 0)) xz)))))) (.branch 0 (.branch 0 (.branch 0 (.branch 0 (.branch 0 (.branch 0 (.leaf (hload 2 1, 1, 1, 0, 0, 0)) (.leaf (hpush 4 (Int.ofNat 0), 65, 1, 0, 0, 0))) (.branch 0 (.leaf (hloada 0, 33, 1, 0, 0, 0)) xz)) (.branch 0 (.branch 0 (.leaf (hloada 0, 17, 1, 0, 0, 0)) xz) xz)) (.branch 0 (.branch 0 (.branch 0 (.leaf (hpush 2 (Int.ofNat 0), 9, 1, 0, 0, 0)) (.leaf (hret 5, 73, 1, 0, 0, 0))) (.branch 0 (.leaf (hloada 3, 41, 1, 0, 0, 0)) xz)) (.branch 0 (.branch 0 (.leaf (hret 5, 25, 1, 0, 0, 0)) xz) xz))) (.branch 0 (.branch 0 xz (.branch 0 (.branch 0 (.leaf (hif .le, 21, 3, 26, 0, 0)) xz) xz)) (.branch 0 (.branch 0 (.branch 0 (.leaf (hpush 2 (Int.ofNat 1), 13, 1, 0, 0, 0)) xz) (.branch 0 (.leaf (hpush 2 (Int.ofNat 116), 45, 2, 0, 0, 0)) xz)) (.branch 0 (.branch 0 (.leaf (hcallv, 29, 3, 90, 0, 10)) xz) xz)))) (.branch 0 (.branch 0 (.branch 0 (.branch 0 (.branch 0 (.leaf (hcalls, 3, 3, 59, 0, 0)) xz) (.branch 0 (.leaf (hcallv, 35, 3, 106, 0, 9)) xz)) xz) (.branch 0 xz (.branch 0 (.branch 0 (.leaf (hload 2 1, 27, 1, 0, 0, 0)) xz) (.branch 0 (.leaf (hget, 59, 3, 10, 0, 0)) xz)))) (.branch 0 (.branch 0 xz (.branch 0 xz (.branch 0 (.leaf (hputf, 55, 3, 10, 0, 0)) xz))) (.branch 0 (.branch 0 xz (.branch 0 (.leaf (hicmp .ne, 47, 3, 54, 0, 0)) xz)) xz))))
noncomputable def xp104 : xP := (((7, 4), xc104), [], 2, 5, 0, 0)
noncomputable def xc105 : Lean.RArray xEn := .branch 0 (.branch 0 (.branch 0 (.branch 0 (.branch 0 (.branch 0 (.leaf (hloada 0, 0, 1, 0, 0, 0)) (.leaf (hret 1, 32, 1, 0, 0, 0))) xz) (.branch 0 xz (.branch 0 (.leaf (hicmp .ne, 24, 3, 31, 0, 0)) xz))) (.branch 0 (.branch 0 (.branch 0 (.leaf (hpush 2 (Int.ofNat 100), 4, 2, 0, 0, 0)) xz) xz) xz)) (.branch 0 (.branch 0 (.branch 0 xz (.branch 0 (.leaf (hloada 0, 18, 1, 0, 0, 0)) xz)) (.branch 0 (.branch 0 (.leaf (hget, 10, 3, 6, 0, 1)) xz) xz)) (.branch 0 (.branch 0 (.branch 0 (.leaf (hicmp .eq, 6, 3, 27, 0, 0)) xz) (.branch 0 (.leaf (hpush 2 (Int.ofNat 106), 22, 2, 0, 0, 0)) xz)) xz))) (.branch 0 (.branch 0 (.branch 0 (.branch 0 (.branch 0 (.leaf (hget, 1, 3, 6, 0, 1)) xz) xz) (.branch 0 (.branch 0 (.leaf (hloada 0, 9, 1, 0, 0, 0)) xz) xz)) (.branch 0 xz (.branch 0 (.branch 0 (.leaf (hpush 2 (Int.ofNat 105), 13, 2, 0, 0, 0)) xz) xz))) (.branch 0 (.branch 0 (.branch 0 xz (.branch 0 (.leaf (hget, 19, 3, 6, 0, 1)) xz)) xz) (.branch 0 xz (.branch 0 (.branch 0 (.leaf (hicmp .eq, 15, 3, 27, 0, 0)) xz) (.branch 0 (.leaf (hpush 2 (Int.ofNat 0), 31, 1, 0, 0, 0)) xz)))))
noncomputable def xp105 : xP := (((6, 1), xc105), [], 0, 3, 0, 0)
noncomputable def xc106 : Lean.RArray xEn := .branch 0 (.branch 0 (.branch 0 (.branch 0 (.branch 0 (.branch 0 (.leaf (hloada 0, 0, 1, 0, 0, 0)) (.leaf (hret 1, 32, 1, 0, 0, 0))) xz) (.branch 0 xz (.branch 0 (.leaf (hicmp .ne, 24, 3, 31, 0, 0)) xz))) (.branch 0 (.branch 0 (.branch 0 (.leaf (hpush 2 (Int.ofNat 100), 4, 2, 0, 0, 0)) xz) xz) xz)) (.branch 0 (.branch 0 (.branch 0 xz (.branch 0 (.leaf (hloada 0, 18, 1, 0, 0, 0)) xz)) (.branch 0 (.branch 0 (.leaf (hget, 10, 3, 9, 0, 1)) xz) xz)) (.branch 0 (.branch 0 (.branch 0 (.leaf (hicmp .eq, 6, 3, 27, 0, 0)) xz) (.branch 0 (.leaf (hpush 2 (Int.ofNat 106), 22, 2, 0, 0, 0)) xz)) xz))) (.branch 0 (.branch 0 (.branch 0 (.branch 0 (.branch 0 (.leaf (hget, 1, 3, 9, 0, 1)) xz) xz) (.branch 0 (.branch 0 (.leaf (hloada 0, 9, 1, 0, 0, 0)) xz) xz)) (.branch 0 xz (.branch 0 (.branch 0 (.leaf (hpush 2 (Int.ofNat 105), 13, 2, 0, 0, 0)) xz) xz))) (.branch 0 (.branch 0 (.branch 0 xz (.branch 0 (.leaf (hget, 19, 3, 9, 0, 1)) xz)) xz) (.branch 0 xz (.branch 0 (.branch 0 (.leaf (hicmp .eq, 15, 3, 27, 0, 0)) xz) (.branch 0 (.leaf (hpush 2 (Int.ofNat 0), 31, 1, 0, 0, 0)) xz)))))
noncomputable def xp106 : xP := (((6, 1), xc106), [], 0, 3, 0, 0)
noncomputable def xc107 : Lean.RArray xEn := .branch 0 (.branch 0 (.branch 0 (.branch 0 (.branch 0 (.leaf (hloada 4, 0, 2, 0, 0, 0)) xz) (.branch 0 xz (.leaf (hpush 2 (Int.ofNat 1), 24, 1, 0, 0, 0)))) (.branch 0 (.branch 0 (.leaf (hload 2 1, 4, 1, 0, 0, 0)) xz) xz)) (.branch 0 (.branch 0 (.branch 0 (.leaf (hpush 2 (Int.ofNat 0), 2, 1, 0, 0, 0)) (.leaf (hast 3 3, 18, 1, 0, 0, 0))) (.branch 0 (.leaf (hif .eq, 10, 3, 17, 0, 0)) (.leaf (hpush 2 (Int.ofNat 0), 26, 1, 0, 0, 0)))) (.branch 0 (.branch 0 (.leaf (hload 2 3, 6, 1, 0, 0, 0)) xz) (.branch 0 (.leaf (hgoto, 14, 3, 18, 0, 0)) xz)))) (.branch 0 (.branch 0 (.branch 0 xz (.branch 0 xz (.leaf (hret 1, 25, 1, 0, 0, 0)))) (.branch 0 (.branch 0 (.leaf (hload 2 2, 5, 1, 0, 0, 0)) xz) (.branch 0 (.leaf (hpush 3 (Int.ofNat 1), 13, 1, 0, 0, 0)) xz))) (.branch 0 (.branch 0 (.branch 0 (.leaf (hloada 0, 3, 1, 0, 0, 0)) (.leaf (hgoto, 19, 3, 26, 0, 0))) (.branch 0 xz (.leaf (hret 1, 27, 1, 0, 0, 0)))) (.branch 0 (.branch 0 (.leaf (hcallv, 7, 3, 108, 0, 7)) xz) xz)))
noncomputable def xp107 : xP := (((5, 6), xc107), [(0, 19, 4, 5, 24)], 5, 1, 4, 24)
noncomputable def xc108 : Lean.RArray xEn := .branch 0 (.branch 0 (.branch 0 (.branch 0 (.branch 0 (.leaf (hload 2 1, 0, 1, 0, 0, 0)) (.leaf (hcallv, 16, 3, 63, 0, 2))) (.branch 0 xz (.leaf (hload 2 3, 24, 1, 0, 0, 0)))) (.branch 0 (.branch 0 xz (.leaf (hget, 20, 3, 7, 1, 5))) (.branch 0 xz (.leaf (hcallv, 28, 3, 110, 0, 6))))) (.branch 0 (.branch 0 (.branch 0 (.leaf (hcalls, 2, 3, 57, 0, 0)) xz) (.branch 0 (.leaf (hloada 0, 10, 1, 0, 0, 0)) xz)) (.branch 0 (.branch 0 (.leaf (hload 2 3, 6, 1, 0, 0, 0)) xz) (.branch 0 (.leaf (hload 2 1, 14, 1, 0, 0, 0)) xz)))) (.branch 0 (.branch 0 (.branch 0 (.branch 0 (.leaf (hload 2 2, 1, 1, 0, 0, 0)) xz) (.branch 0 xz (.leaf (hcallv, 25, 3, 63, 0, 2)))) (.branch 0 (.branch 0 (.leaf (hload 2 1, 5, 1, 0, 0, 0)) xz) xz)) (.branch 0 (.branch 0 (.branch 0 xz (.leaf (hloada 0, 19, 1, 0, 0, 0))) (.branch 0 (.leaf (hget, 11, 3, 7, 1, 5)) xz)) (.branch 0 (.branch 0 (.leaf (hcalls, 7, 3, 57, 0, 0)) (.leaf (hload 2 1, 23, 1, 0, 0, 0))) (.branch 0 (.leaf (hload 2 2, 15, 1, 0, 0, 0)) (.leaf (hret 1, 31, 1, 0, 0, 0))))))
noncomputable def xp108 : xP := (((5, 4), xc108), [], 3, 3, 4, 24)
noncomputable def xc109 : Lean.RArray xEn := .branch 0 (.branch 0 (.branch 0 (.branch 0 (.branch 0 (.branch 0 (.leaf (hloada 0, 0, 1, 0, 0, 0)) xz) (.branch 0 (.leaf (hif .eq, 16, 3, 23, 0, 0)) xz)) (.branch 0 (.branch 0 xz (.leaf (hloada 0, 40, 1, 0, 0, 0))) (.branch 0 (.leaf (hputf, 24, 3, 10, 0, 0)) (.leaf (hpush 2 (Int.ofNat 0), 56, 1, 0, 0, 0))))) (.branch 0 (.branch 0 (.branch 0 xz (.leaf (hload 2 2, 36, 1, 0, 0, 0))) (.branch 0 (.leaf (hgoto, 20, 3, 24, 0, 0)) (.leaf (hpush 2 (Int.ofNat 1), 52, 1, 0, 0, 0)))) (.branch 0 xz (.branch 0 (.leaf (hget, 28, 3, 10, 0, 0)) xz)))) (.branch 0 (.branch 0 (.branch 0 (.branch 0 (.leaf (hload 2 2, 2, 1, 0, 0, 0)) (.leaf (hloada 0, 34, 1, 0, 0, 0))) xz) (.branch 0 (.branch 0 (.leaf (hpush 2 (Int.ofNat 0), 10, 1, 0, 0, 0)) (.leaf (hload 2 3, 42, 1, 0, 0, 0))) xz)) (.branch 0 (.branch 0 (.branch 0 (.leaf (hif .eq, 6, 3, 23, 0, 0)) xz) xz) (.branch 0 (.branch 0 xz (.leaf (hcalls, 46, 3, 112, 0, 0))) xz)))) (.branch 0 (.branch 0 (.branch 0 (.branch 0 (.branch 0 (.leaf (hload 2 1, 1, 1, 0, 0, 0)) xz) (.branch 0 xz (.leaf (hif .eq, 49, 3, 56, 0, 0)))) (.branch 0 (.branch 0 (.leaf (hload 2 3, 9, 1, 0, 0, 0)) (.leaf (hload 2 1, 41, 1, 0, 0, 0))) (.branch 0 xz (.leaf (hret 1, 57, 1, 0, 0, 0))))) (.branch 0 (.branch 0 (.branch 0 xz (.leaf (hcallv, 37, 3, 90, 0, 10))) (.branch 0 xz (.leaf (hgoto, 53, 3, 57, 0, 0)))) (.branch 0 (.branch 0 (.leaf (hcalls, 13, 3, 18, 0, 0)) xz) xz))) (.branch 0 (.branch 0 (.branch 0 (.branch 0 (.leaf (hcalls, 3, 3, 59, 0, 0)) (.leaf (hload 2 1, 35, 1, 0, 0, 0))) (.branch 0 (.leaf (hpush 2 (Int.ofNat 0), 19, 1, 0, 0, 0)) xz)) (.branch 0 (.branch 0 (.leaf (hpush 2 (Int.ofNat 7), 11, 2, 0, 0, 0)) (.leaf (hcallv, 43, 3, 90, 0, 10))) (.branch 0 (.leaf (hloada 0, 27, 1, 0, 0, 0)) xz))) (.branch 0 (.branch 0 xz (.branch 0 (.leaf (hpush 2 (Int.ofNat 1), 23, 1, 0, 0, 0)) xz)) (.branch 0 xz (.branch 0 (.leaf (hif .ne, 31, 3, 56, 0, 0)) xz)))))
noncomputable def xp109 : xP := (((6, 4), xc109), [], 3, 3, 0, 0)
noncomputable def xc110 : Lean.RArray xEn := .branch 0 (.branch 0 (.branch 0 (.branch 0 (.branch 0 (.branch 0 (.leaf (hloada 0, 0, 1, 0, 0, 0)) xz) xz) (.branch 0 xz (.branch 0 (.leaf (hif .eq, 24, 3, 36, 0, 0)) xz))) (.branch 0 (.branch 0 (.branch 0 (.leaf (hif .eq, 4, 3, 20, 0, 0)) xz) (.branch 0 (.leaf (hloada 0, 20, 1, 0, 0, 0)) xz)) (.branch 0 xz (.branch 0 (.leaf (hcallv, 28, 3, 111, 0, 6)) xz)))) (.branch 0 (.branch 0 (.branch 0 (.branch 0 xz (.leaf (hpush 2 (Int.ofNat 1), 34, 1, 0, 0, 0))) xz) xz) xz)) (.branch 0 (.branch 0 (.branch 0 (.branch 0 (.branch 0 (.leaf (hcallv, 1, 3, 105, 0, 6)) xz) xz) xz) (.branch 0 (.branch 0 xz (.branch 0 (.leaf (hcallv, 21, 3, 111, 0, 6)) xz)) xz)) (.branch 0 (.branch 0 (.branch 0 (.branch 0 xz (.leaf (hret 1, 35, 1, 0, 0, 0))) xz) (.branch 0 xz (.branch 0 (.leaf (hloada 1, 27, 1, 0, 0, 0)) xz))) (.branch 0 xz (.branch 0 xz (.branch 0 (.leaf (hif .eq, 31, 3, 36, 0, 0)) xz)))))
noncomputable def xp110 : xP := (((6, 3), xc110), [], 1, 3, 0, 0)
noncomputable def xc111 : Lean.RArray xEn := .branch 0 (.branch 0 (.branch 0 (.branch 0 (.branch 0 (.branch 0 (.leaf (hloada 0, 0, 1, 0, 0, 0)) (.leaf (hret 1, 32, 1, 0, 0, 0))) xz) (.branch 0 xz (.branch 0 (.leaf (hicmp .ne, 24, 3, 31, 0, 0)) xz))) (.branch 0 (.branch 0 (.branch 0 (.leaf (hpush 2 (Int.ofNat 117), 4, 2, 0, 0, 0)) xz) xz) (.branch 0 xz (.branch 0 (.leaf (hgoto, 28, 3, 32, 0, 0)) xz)))) (.branch 0 (.branch 0 (.branch 0 xz (.branch 0 (.leaf (hloada 0, 18, 1, 0, 0, 0)) xz)) (.branch 0 (.branch 0 (.leaf (hget, 10, 3, 6, 0, 1)) xz) xz)) (.branch 0 (.branch 0 (.branch 0 (.leaf (hicmp .eq, 6, 3, 27, 0, 0)) xz) (.branch 0 (.leaf (hpush 2 (Int.ofNat 101), 22, 2, 0, 0, 0)) xz)) xz))) (.branch 0 (.branch 0 (.branch 0 (.branch 0 (.branch 0 (.leaf (hget, 1, 3, 6, 0, 1)) xz) xz) (.branch 0 (.branch 0 (.leaf (hloada 0, 9, 1, 0, 0, 0)) xz) xz)) (.branch 0 xz (.branch 0 (.branch 0 (.leaf (hpush 2 (Int.ofNat 110), 13, 2, 0, 0, 0)) xz) xz))) (.branch 0 (.branch 0 (.branch 0 xz (.branch 0 (.leaf (hget, 19, 3, 6, 0, 1)) xz)) (.branch 0 xz (.branch 0 (.leaf (hpush 2 (Int.ofNat 1), 27, 1, 0, 0, 0)) xz))) (.branch 0 xz (.branch 0 (.branch 0 (.leaf (hicmp .eq, 15, 3, 27, 0, 0)) xz) xz))))
noncomputable def xp111 : xP := (((6, 1), xc111), [], 0, 3, 0, 0)
noncomputable def xc112 : Lean.RArray xEn := .branch 0 (.branch 0 (.branch 0 (.branch 0 (.branch 0 (.branch 0 (.branch 0 (.leaf (hloada 0, 0, 1, 0, 0, 0)) xz) xz) xz) xz) (.branch 0 (.branch 0 (.branch 0 (.branch 0 (.leaf (hif .eq, 4, 3, 70, 0, 0)) xz) xz) (.branch 0 (.branch 0 xz (.leaf (hpush 2 (Int.ofNat 1), 84, 1, 0, 0, 0))) xz)) xz)) (.branch 0 (.branch 0 xz (.branch 0 (.branch 0 (.branch 0 xz (.leaf (hif .eq, 74, 3, 86, 0, 0))) xz) xz)) (.branch 0 (.branch 0 (.branch 0 (.branch 0 xz (.leaf (hloada 0, 70, 1, 0, 0, 0))) xz) xz) (.branch 0 (.branch 0 (.branch 0 xz (.leaf (hcallv, 78, 3, 113, 0, 9))) xz) xz)))) (.branch 0 (.branch 0 (.branch 0 (.branch 0 (.branch 0 (.branch 0 (.leaf (hcallv, 1, 3, 106, 0, 9)) xz) xz) (.branch 0 (.branch 0 xz (.leaf (hif .eq, 81, 3, 86, 0, 0))) xz)) xz) (.branch 0 (.branch 0 xz (.branch 0 (.branch 0 xz (.leaf (hret 1, 85, 1, 0, 0, 0))) xz)) (.branch 0 (.branch 0 (.branch 0 xz (.leaf (hloada 1, 77, 1, 0, 0, 0))) xz) xz))) (.branch 0 xz (.branch 0 (.branch 0 (.branch 0 (.branch 0 xz (.leaf (hcallv, 71, 3, 113, 0, 9))) xz) xz) xz)))
noncomputable def xp112 : xP := (((7, 2), xc112), [], 2, 3, 0, 0)
noncomputable def xc113 : Lean.RArray xEn := .branch 0 (.branch 0 (.branch 0 (.branch 0 (.branch 0 (.branch 0 (.leaf (hloada 0, 0, 1, 0, 0, 0)) (.leaf (hret 1, 32, 1, 0, 0, 0))) xz) (.branch 0 xz (.branch 0 (.leaf (hicmp .ne, 24, 3, 31, 0, 0)) xz))) (.branch 0 (.branch 0 (.branch 0 (.leaf (hpush 2 (Int.ofNat 117), 4, 2, 0, 0, 0)) xz) xz) (.branch 0 xz (.branch 0 (.leaf (hgoto, 28, 3, 32, 0, 0)) xz)))) (.branch 0 (.branch 0 (.branch 0 xz (.branch 0 (.leaf (hloada 0, 18, 1, 0, 0, 0)) xz)) (.branch 0 (.branch 0 (.leaf (hget, 10, 3, 9, 0, 1)) xz) xz)) (.branch 0 (.branch 0 (.branch 0 (.leaf (hicmp .eq, 6, 3, 27, 0, 0)) xz) (.branch 0 (.leaf (hpush 2 (Int.ofNat 101), 22, 2, 0, 0, 0)) xz)) xz))) (.branch 0 (.branch 0 (.branch 0 (.branch 0 (.branch 0 (.leaf (hget, 1, 3, 9, 0, 1)) xz) xz) (.branch 0 (.branch 0 (.leaf (hloada 0, 9, 1, 0, 0, 0)) xz) xz)) (.branch 0 xz (.branch 0 (.branch 0 (.leaf (hpush 2 (Int.ofNat 110), 13, 2, 0, 0, 0)) xz) xz))) (.branch 0 (.branch 0 (.branch 0 xz (.branch 0 (.leaf (hget, 19, 3, 9, 0, 1)) xz)) (.branch 0 xz (.branch 0 (.leaf (hpush 2 (Int.ofNat 1), 27, 1, 0, 0, 0)) xz))) (.branch 0 xz (.branch 0 (.branch 0 (.leaf (hicmp .eq, 15, 3, 27, 0, 0)) xz) xz))))
noncomputable def xp113 : xP := (((6, 1), xc113), [], 0, 3, 0, 0)
noncomputable def xc114 : Lean.RArray xEn := .branch 0 (.branch 0 (.branch 0 (.leaf (hloada 0, 0, 1, 0, 0, 0)) (.leaf (hget, 4, 3, 2, 4, 0))) xz) (.branch 0 (.branch 0 (.leaf (hget, 1, 3, 7, 1, 5)) xz) (.branch 0 xz (.leaf (hret 1, 7, 1, 0, 0, 0))))
noncomputable def xp114 : xP := (((3, 1), xc114), [], 0, 1, 0, 0)
noncomputable def xc115 : Lean.RArray xEn := .branch 0 (.branch 0 (.branch 0 (.branch 0 (.leaf (hloada 0, 0, 1, 0, 0, 0)) xz) xz) (.branch 0 (.branch 0 (.leaf (hputf, 2, 3, 10, 0, 0)) xz) (.branch 0 (.leaf (hget, 6, 3, 10, 13, 0)) xz))) (.branch 0 (.branch 0 (.branch 0 (.leaf (hpush 2 (Int.ofNat 0), 1, 1, 0, 0, 0)) (.leaf (hret 1, 9, 1, 0, 0, 0))) (.branch 0 (.leaf (hloada 0, 5, 1, 0, 0, 0)) xz)) xz)
noncomputable def xp115 : xP := (((4, 1), xc115), [], 0, 1, 0, 0)
noncomputable def xc116 : Lean.RArray xEn := .branch 0 (.branch 0 (.branch 0 (.branch 0 (.branch 0 (.leaf (hloada 2, 0, 1, 0, 0, 0)) (.leaf (hret 1, 16, 1, 0, 0, 0))) (.branch 0 (.leaf (hast 3 3, 8, 1, 0, 0, 0)) xz)) (.branch 0 (.branch 0 (.leaf (hcallv, 4, 3, 117, 0, 7)) xz) xz)) (.branch 0 (.branch 0 (.branch 0 (.leaf (hloada 0, 2, 1, 0, 0, 0)) xz) xz) (.branch 0 xz (.branch 0 (.leaf (hret 1, 14, 1, 0, 0, 0)) xz)))) (.branch 0 (.branch 0 (.branch 0 (.branch 0 (.leaf (hpush 2 (Int.ofNat 0), 1, 1, 0, 0, 0)) xz) (.branch 0 (.leaf (hgoto, 9, 3, 15, 0, 0)) xz)) (.branch 0 xz (.branch 0 (.leaf (hpush 2 (Int.ofNat 1), 13, 1, 0, 0, 0)) xz))) (.branch 0 (.branch 0 (.branch 0 (.leaf (hload 2 1, 3, 1, 0, 0, 0)) xz) xz) (.branch 0 (.branch 0 (.leaf (hconv (fun a => cond (Nat.beq a 2) 3 7) (fun a z => cond (Nat.beq a 2) (xin32 z) (Nat.beq a 5)), 7, 1, 0, 0, 0)) xz) (.branch 0 (.leaf (hpush 2 (Int.ofNat 0), 15, 1, 0, 0, 0)) xz))))
noncomputable def xp116 : xP := (((5, 4), xc116), [(0, 9, 4, 3, 13)], 3, 1, 1, 6)
noncomputable def xc117 : Lean.RArray xEn := .branch 0 (.branch 0 (.branch 0 (.branch 0 (.leaf (hload 2 1, 0, 1, 0, 0, 0)) xz) xz) (.branch 0 (.branch 0 (.leaf (hcalls, 2, 3, 25, 0, 0)) (.leaf (hcallv, 10, 3, 119, 0, 2))) (.branch 0 (.leaf (hget, 6, 3, 7, 1, 5)) xz))) (.branch 0 (.branch 0 (.branch 0 (.leaf (hpush 2 (Int.ofNat 3), 1, 1, 0, 0, 0)) (.leaf (hload 2 1, 9, 1, 0, 0, 0))) (.branch 0 (.leaf (hloada 0, 5, 1, 0, 0, 0)) (.leaf (hret 1, 13, 1, 0, 0, 0)))) xz)
noncomputable def xp117 : xP := (((4, 2), xc117), [], 1, 1, 1, 6)
noncomputable def xc118 : Lean.RArray xEn := .branch 0 (.branch 0 (.branch 0 (.branch 0 (.branch 0 (.branch 0 (.branch 0 (.leaf (hloada 0, 0, 1, 0, 0, 0)) (.leaf (hret 1, 64, 1, 0, 0, 0))) xz) xz) (.branch 0 xz (.branch 0 (.branch 0 (.leaf (hget, 24, 3, 10, 13, 0)) xz) xz))) (.branch 0 (.branch 0 xz (.branch 0 (.branch 0 (.leaf (hpush 2 (Int.ofNat 0), 20, 1, 0, 0, 0)) xz) xz)) (.branch 0 (.branch 0 (.branch 0 (.leaf (hloada 0, 12, 1, 0, 0, 0)) xz) xz) xz))) (.branch 0 (.branch 0 (.branch 0 (.branch 0 (.branch 0 (.leaf (hputf, 2, 3, 10, 0, 0)) xz) xz) (.branch 0 (.branch 0 (.leaf (hpush 2 (Int.ofNat 0), 18, 1, 0, 0, 0)) xz) xz)) xz) (.branch 0 (.branch 0 (.branch 0 (.branch 0 (.leaf (hcalls, 6, 3, 17, 0, 0)) xz) xz) (.branch 0 (.branch 0 (.leaf (hload 2 3, 22, 1, 0, 0, 0)) xz) xz)) (.branch 0 (.branch 0 (.branch 0 (.leaf (hcallv, 14, 3, 19, 0, 10)) xz) xz) xz)))) (.branch 0 (.branch 0 (.branch 0 (.branch 0 (.branch 0 (.branch 0 (.leaf (hpush 2 (Int.ofNat 0), 1, 1, 0, 0, 0)) xz) xz) (.branch 0 (.branch 0 (.leaf (hret 1, 17, 1, 0, 0, 0)) xz) xz)) (.branch 0 (.branch 0 (.branch 0 (.leaf (hif .ne, 9, 3, 18, 0, 0)) xz) xz) xz)) (.branch 0 (.branch 0 (.branch 0 (.branch 0 (.leaf (hload 2 1, 5, 1, 0, 0, 0)) xz) xz) (.branch 0 (.branch 0 (.leaf (hstore 2 3, 21, 1, 0, 0, 0)) xz) xz)) (.branch 0 (.branch 0 (.branch 0 (.leaf (hpush 2 (Int.ofNat 1), 13, 1, 0, 0, 0)) xz) xz) xz))) (.branch 0 (.branch 0 (.branch 0 xz (.branch 0 (.branch 0 (.leaf (hstore 2 2, 19, 1, 0, 0, 0)) xz) xz)) (.branch 0 xz (.branch 0 (.branch 0 (.leaf (hicmp .ge, 27, 3, 63, 0, 0)) xz) xz))) (.branch 0 (.branch 0 xz (.branch 0 (.branch 0 (.leaf (hloada 0, 23, 1, 0, 0, 0)) xz) xz)) (.branch 0 xz (.branch 0 xz (.branch 0 (.leaf (hload 2 2, 63, 1, 0, 0, 0)) xz))))))
noncomputable def xp118 : xP := (((7, 4), xc118), [], 1, 1, 0, 0)
noncomputable def xc119 : Lean.RArray xEn := .branch 0 (.branch 0 (.branch 0 (.branch 0 (.branch 0 (.branch 0 (.leaf (hpush 2 (Int.ofNat 0), 0, 1, 0, 0, 0)) xz) (.branch 0 (.leaf (hload 2 4, 16, 2, 0, 0, 0)) xz)) (.branch 0 (.branch 0 (.leaf (halen, 8, 1, 0, 0, 0)) xz) (.branch 0 (.leaf (hald 5 10, 24, 1, 0, 0, 0)) xz))) (.branch 0 xz (.branch 0 (.branch 0 (.leaf (hstore 2 5, 12, 2, 0, 0, 0)) (.leaf (hiinc 5 (Int.ofNat 1), 44, 3, 0, 0, 0))) (.branch 0 (.leaf (hloada 6, 28, 2, 0, 0, 0)) xz)))) (.branch 0 (.branch 0 (.branch 0 (.branch 0 (.leaf (hloada 0, 2, 1, 0, 0, 0)) (.leaf (hif .eq, 34, 3, 41, 0, 0))) (.branch 0 (.leaf (hicmp .ge, 18, 3, 50, 0, 0)) (.leaf (hload 2 2, 50, 1, 0, 0, 0)))) (.branch 0 (.branch 0 xz (.leaf (hbin (fun a b => a + b) (fun _ _ => true), 42, 1, 0, 0, 0))) xz)) (.branch 0 (.branch 0 (.branch 0 (.leaf (hstorea 3, 6, 1, 0, 0, 0)) xz) (.branch 0 (.leaf (hload 2 5, 22, 2, 0, 0, 0)) xz)) (.branch 0 (.branch 0 (.leaf (hload 2 5, 14, 2, 0, 0, 0)) xz) (.branch 0 (.leaf (hload 2 1, 30, 1, 0, 0, 0)) xz))))) (.branch 0 (.branch 0 (.branch 0 (.branch 0 (.branch 0 (.leaf (hstore 2 2, 1, 1, 0, 0, 0)) xz) xz) (.branch 0 (.branch 0 (.leaf (hstore 2 4, 9, 2, 0, 0, 0)) (.leaf (hpush 2 (Int.ofNat 0), 41, 1, 0, 0, 0))) (.branch 0 (.leaf (hstorea 6, 25, 2, 0, 0, 0)) xz))) (.branch 0 (.branch 0 xz (.branch 0 (.leaf (hloada 3, 21, 1, 0, 0, 0)) xz)) xz)) (.branch 0 (.branch 0 (.branch 0 (.branch 0 (.leaf (hget, 3, 3, 2, 1, 5)) xz) (.branch 0 xz (.leaf (hret 1, 51, 1, 0, 0, 0)))) (.branch 0 (.branch 0 (.leaf (hpush 2 (Int.ofNat 0), 11, 1, 0, 0, 0)) (.leaf (hstore 2 2, 43, 1, 0, 0, 0))) (.branch 0 (.leaf (hload 2 2, 27, 1, 0, 0, 0)) xz))) (.branch 0 (.branch 0 (.branch 0 (.leaf (hloada 3, 7, 1, 0, 0, 0)) xz) xz) (.branch 0 (.branch 0 xz (.leaf (hgoto, 47, 3, 14, 0, 0))) (.branch 0 (.leaf (hcallv, 31, 3, 70, 0, 5)) xz)))))
noncomputable def xp119 : xP := (((6, 7), xc119), [], 1, 1, 0, 0)
noncomputable def xc120 : Lean.RArray xEn := .branch 0 (.branch 0 (.branch 0 (.branch 0 (.branch 0 (.leaf (hloada 2, 0, 1, 0, 0, 0)) xz) xz) (.branch 0 (.branch 0 (.leaf (hcallv, 4, 3, 121, 0, 7)) (.leaf (hpush 2 (Int.ofNat 1), 20, 1, 0, 0, 0))) xz)) (.branch 0 (.branch 0 (.branch 0 (.leaf (hloada 0, 2, 1, 0, 0, 0)) xz) xz) xz)) (.branch 0 (.branch 0 (.branch 0 (.branch 0 (.leaf (hpush 2 (Int.ofNat 0), 1, 1, 0, 0, 0)) xz) xz) (.branch 0 (.branch 0 xz (.leaf (hret 1, 21, 1, 0, 0, 0))) xz)) (.branch 0 (.branch 0 (.branch 0 (.leaf (hload 2 1, 3, 1, 0, 0, 0)) xz) xz) xz))
noncomputable def xp120 : xP := (((5, 4), xc120), [(0, 16, 4, 3, 20)], 3, 1, 1, 6)
noncomputable def xc121 : Lean.RArray xEn := .branch 0 (.branch 0 (.branch 0 (.branch 0 (.leaf (hload 2 1, 0, 1, 0, 0, 0)) (.leaf (hcalls, 8, 3, 25, 0, 0))) xz) (.branch 0 (.branch 0 (.leaf (hget, 2, 3, 7, 1, 5)) xz) xz)) (.branch 0 (.branch 0 (.branch 0 (.leaf (hloada 0, 1, 1, 0, 0, 0)) xz) (.branch 0 (.leaf (hget, 5, 3, 2, 4, 0)) xz)) xz)
noncomputable def xp121 : xP := (((4, 2), xc121), [], 1, 3, 1, 6)
noncomputable def xc122 : Lean.RArray xEn := .branch 0 (.branch 0 (.branch 0 (.branch 0 (.branch 0 (.branch 0 (.leaf (hloada 0, 0, 1, 0, 0, 0)) xz) xz) (.branch 0 (.branch 0 (.leaf (hbin (fun a b => a - b) (fun _ _ => true), 8, 1, 0, 0, 0)) xz) (.branch 0 (.leaf (hget, 24, 3, 10, 0, 0)) xz))) (.branch 0 (.branch 0 (.branch 0 (.leaf (hget, 4, 3, 10, 13, 0)) xz) (.branch 0 (.leaf (hputf, 20, 3, 10, 0, 0)) xz)) (.branch 0 (.branch 0 (.leaf (hif .eq, 12, 3, 19, 0, 0)) (.leaf (hret 1, 44, 1, 0, 0, 0))) xz))) (.branch 0 (.branch 0 (.branch 0 (.branch 0 (.leaf (hpush 2 (Int.ofNat 0), 2, 1, 0, 0, 0)) xz) xz) xz) xz)) (.branch 0 (.branch 0 (.branch 0 (.branch 0 (.branch 0 (.leaf (hload 2 1, 1, 1, 0, 0, 0)) xz) xz) (.branch 0 (.branch 0 (.leaf (hcalls, 9, 3, 18, 0, 0)) xz) xz)) xz) (.branch 0 (.branch 0 (.branch 0 (.branch 0 (.leaf (hloada 0, 3, 1, 0, 0, 0)) xz) (.branch 0 (.leaf (hpush 2 (Int.ofNat 1), 19, 1, 0, 0, 0)) xz)) (.branch 0 (.branch 0 xz (.leaf (hpush 2 (Int.ofNat 0), 43, 1, 0, 0, 0))) (.branch 0 (.leaf (hif .ne, 27, 3, 43, 0, 0)) xz))) (.branch 0 (.branch 0 (.branch 0 (.leaf (hpush 2 (Int.ofNat 1), 7, 1, 0, 0, 0)) xz) (.branch 0 (.leaf (hloada 0, 23, 1, 0, 0, 0)) xz)) xz)))
noncomputable def xp122 : xP := (((6, 2), xc122), [], 1, 3, 0, 0)
noncomputable def xc123 : Lean.RArray xEn := .branch 0 (.branch 0 (.branch 0 (.branch 0 (.leaf (hloada 2, 0, 1, 0, 0, 0)) xz) (.branch 0 (.leaf (hcallv, 4, 3, 124, 0, 7)) xz)) (.branch 0 (.branch 0 (.leaf (hloada 0, 2, 1, 0, 0, 0)) xz) (.branch 0 xz (.leaf (hret 1, 14, 1, 0, 0, 0))))) (.branch 0 (.branch 0 (.branch 0 (.leaf (hpush 2 (Int.ofNat 0), 1, 1, 0, 0, 0)) xz) (.branch 0 xz (.leaf (hpush 2 (Int.ofNat 1), 13, 1, 0, 0, 0)))) (.branch 0 (.branch 0 (.leaf (hload 2 1, 3, 1, 0, 0, 0)) xz) xz))
noncomputable def xp123 : xP := (((4, 4), xc123), [(0, 9, 4, 3, 13), (0, 9, 2, 3, 16)], 3, 1, 1, 6)
noncomputable def xc124 : Lean.RArray xEn := .branch 0 (.branch 0 (.leaf (hloada 0, 0, 1, 0, 0, 0)) (.leaf (hcallv, 2, 3, 125, 0, 7))) (.branch 0 (.leaf (hload 2 1, 1, 1, 0, 0, 0)) xz)
noncomputable def xp124 : xP := (((2, 3), xc124), [], 1, 1, 1, 6)
noncomputable def xc125 : Lean.RArray xEn := .branch 0 (.branch 0 (.branch 0 (.branch 0 (.leaf (hload 2 1, 0, 1, 0, 0, 0)) (.leaf (hcalls, 8, 3, 25, 0, 0))) xz) (.branch 0 (.branch 0 (.leaf (hget, 2, 3, 7, 1, 5)) xz) xz)) (.branch 0 (.branch 0 (.branch 0 (.leaf (hloada 0, 1, 1, 0, 0, 0)) xz) (.branch 0 (.leaf (hget, 5, 3, 2, 4, 0)) xz)) xz)
noncomputable def xp125 : xP := (((4, 3), xc125), [], 1, 6, 1, 6)
noncomputable def xc126 : Lean.RArray xEn := .branch 0 (.branch 0 (.branch 0 (.branch 0 (.branch 0 (.leaf (hloada 0, 0, 1, 0, 0, 0)) (.leaf (hif .ne, 16, 3, 25, 0, 0))) (.branch 0 (.leaf (hget, 8, 3, 10, 13, 0)) (.leaf (hret 1, 24, 1, 0, 0, 0)))) (.branch 0 (.branch 0 xz (.leaf (hpush 2 (Int.ofNat 1), 20, 1, 0, 0, 0))) (.branch 0 (.leaf (hbin (fun a b => a - b) (fun _ _ => true), 12, 1, 0, 0, 0)) xz))) (.branch 0 (.branch 0 (.branch 0 (.leaf (hputf, 2, 3, 10, 0, 0)) xz) xz) (.branch 0 (.branch 0 (.leaf (hpush 2 (Int.ofNat 0), 6, 1, 0, 0, 0)) xz) xz))) (.branch 0 (.branch 0 (.branch 0 (.branch 0 (.leaf (hpush 2 (Int.ofNat 0), 1, 1, 0, 0, 0)) xz) xz) (.branch 0 (.branch 0 (.leaf (hload 2 1, 5, 1, 0, 0, 0)) (.leaf (hcallv, 21, 3, 19, 0, 10))) (.branch 0 (.leaf (hcalls, 13, 3, 18, 0, 0)) xz))) (.branch 0 (.branch 0 (.branch 0 xz (.leaf (hloada 0, 19, 1, 0, 0, 0))) (.branch 0 (.leaf (hpush 2 (Int.ofNat 1), 11, 1, 0, 0, 0)) xz)) (.branch 0 (.branch 0 (.leaf (hloada 0, 7, 1, 0, 0, 0)) xz) xz)))
noncomputable def xp126 : xP := (((5, 2), xc126), [], 1, 1, 0, 0)
noncomputable def xc127 : Lean.RArray xEn := .branch 0 (.branch 0 (.branch 0 (.branch 0 (.branch 0 (.leaf (hloada 2, 0, 1, 0, 0, 0)) xz) xz) (.branch 0 (.branch 0 (.leaf (hcallv, 4, 3, 128, 0, 7)) (.leaf (hpush 2 (Int.ofNat 1), 20, 1, 0, 0, 0))) xz)) (.branch 0 (.branch 0 (.branch 0 (.leaf (hloada 0, 2, 1, 0, 0, 0)) xz) xz) xz)) (.branch 0 (.branch 0 (.branch 0 (.branch 0 (.leaf (hpush 2 (Int.ofNat 0), 1, 1, 0, 0, 0)) xz) xz) (.branch 0 (.branch 0 xz (.leaf (hret 1, 21, 1, 0, 0, 0))) xz)) (.branch 0 (.branch 0 (.branch 0 (.leaf (hload 2 1, 3, 1, 0, 0, 0)) xz) xz) xz))
noncomputable def xp127 : xP := (((5, 4), xc127), [(0, 16, 4, 3, 20), (0, 16, 2, 3, 23)], 3, 1, 1, 6)
noncomputable def xc128 : Lean.RArray xEn := .branch 0 (.branch 0 (.leaf (hloada 0, 0, 1, 0, 0, 0)) (.leaf (hcallv, 2, 3, 125, 0, 7))) (.branch 0 (.leaf (hload 2 1, 1, 1, 0, 0, 0)) xz)
noncomputable def xp128 : xP := (((2, 3), xc128), [], 1, 3, 1, 6)
noncomputable def xc129 : Lean.RArray xEn := .branch 0 (.branch 0 (.branch 0 (.branch 0 (.branch 0 (.branch 0 (.branch 0 (.leaf (hloada 0, 0, 1, 0, 0, 0)) xz) xz) (.branch 0 (.branch 0 (.leaf (hgoto, 16, 3, 33, 0, 0)) xz) xz)) (.branch 0 (.branch 0 (.branch 0 (.leaf (hbin (fun a b => a - b) (fun _ _ => true), 8, 1, 0, 0, 0)) xz) (.branch 0 (.leaf (hif .ne, 40, 3, 77, 0, 0)) xz)) xz)) (.branch 0 (.branch 0 (.branch 0 (.branch 0 (.leaf (hget, 4, 3, 10, 13, 0)) xz) (.branch 0 (.leaf (hloada 0, 36, 1, 0, 0, 0)) xz)) xz) (.branch 0 (.branch 0 (.branch 0 (.leaf (hif .ne, 12, 3, 19, 0, 0)) xz) xz) xz))) (.branch 0 (.branch 0 (.branch 0 (.branch 0 (.branch 0 (.leaf (hpush 2 (Int.ofNat 0), 2, 1, 0, 0, 0)) xz) xz) xz) xz) (.branch 0 xz (.branch 0 (.branch 0 (.branch 0 xz (.leaf (hret 1, 78, 1, 0, 0, 0))) xz) xz)))) (.branch 0 (.branch 0 (.branch 0 (.branch 0 (.branch 0 (.branch 0 (.leaf (hload 2 1, 1, 1, 0, 0, 0)) xz) (.branch 0 (.leaf (hputf, 33, 3, 10, 0, 0)) xz)) xz) (.branch 0 (.branch 0 (.branch 0 (.leaf (hcalls, 9, 3, 18, 0, 0)) xz) xz) xz)) (.branch 0 (.branch 0 (.branch 0 xz (.branch 0 (.leaf (hget, 37, 3, 10, 0, 0)) xz)) xz) (.branch 0 (.branch 0 (.branch 0 xz (.leaf (hpush 2 (Int.ofNat 0), 77, 1, 0, 0, 0))) xz) xz))) (.branch 0 (.branch 0 (.branch 0 (.branch 0 (.branch 0 (.leaf (hloada 0, 3, 1, 0, 0, 0)) xz) xz) xz) xz) (.branch 0 (.branch 0 (.branch 0 (.branch 0 (.leaf (hpush 2 (Int.ofNat 1), 7, 1, 0, 0, 0)) xz) xz) xz) (.branch 0 (.branch 0 (.branch 0 (.leaf (hpush 2 (Int.ofNat 1), 15, 1, 0, 0, 0)) xz) xz) xz))))
noncomputable def xp129 : xP := (((7, 2), xc129), [], 1, 3, 0, 0)
noncomputable def xc130 : Lean.RArray xEn := .branch 0 (.branch 0 (.branch 0 (.branch 0 (.leaf (hloada 0, 0, 1, 0, 0, 0)) (.leaf (hret 1, 8, 1, 0, 0, 0))) (.branch 0 (.leaf (hpush 2 (Int.ofNat 0), 4, 1, 0, 0, 0)) xz)) xz) (.branch 0 (.branch 0 (.branch 0 (.leaf (hget, 1, 3, 7, 1, 5)) xz) (.branch 0 (.leaf (hcallv, 5, 3, 131, 0, 2)) xz)) xz)
noncomputable def xp130 : xP := (((4, 1), xc130), [], 0, 1, 0, 0)
noncomputable def xc131 : Lean.RArray xEn := .branch 0 (.branch 0 (.branch 0 (.branch 0 (.branch 0 (.branch 0 (.branch 0 (.branch 0 (.leaf (hloada 0, 0, 1, 0, 0, 0)) xz) xz) (.branch 0 (.branch 0 xz (.leaf (hcallv, 160, 3, 134, 0, 2))) (.branch 0 (.leaf (hload 2 4, 96, 2, 0, 0, 0)) xz))) (.branch 0 (.branch 0 (.branch 0 (.leaf (hload 2 3, 16, 1, 0, 0, 0)) xz) xz) (.branch 0 xz (.branch 0 (.leaf (hif .lt, 112, 3, 131, 0, 0)) xz)))) (.branch 0 (.branch 0 (.branch 0 (.branch 0 xz (.leaf (hif .eq, 136, 3, 153, 0, 0))) xz) (.branch 0 (.branch 0 xz (.leaf (hloada 0, 168, 1, 0, 0, 0))) (.branch 0 (.leaf (hald 5 10, 104, 1, 0, 0, 0)) xz))) (.branch 0 (.branch 0 (.branch 0 (.leaf (hget, 24, 3, 2, 3, 0)) xz) (.branch 0 (.leaf (halen, 88, 1, 0, 0, 0)) xz)) xz))) (.branch 0 (.branch 0 (.branch 0 (.branch 0 (.branch 0 (.leaf (hstore 2 2, 4, 1, 0, 0, 0)) (.leaf (hstore 2 7, 132, 2, 0, 0, 0))) xz) (.branch 0 (.branch 0 xz (.leaf (hcallv, 164, 3, 66, 0, 2))) xz)) xz) (.branch 0 (.branch 0 xz (.branch 0 (.branch 0 xz (.leaf (hload 2 2, 172, 1, 0, 0, 0))) xz)) (.branch 0 (.branch 0 (.branch 0 xz (.leaf (hgoto, 156, 3, 94, 0, 0))) (.branch 0 (.leaf (hstore 2 5, 92, 2, 0, 0, 0)) xz)) xz)))) (.branch 0 (.branch 0 (.branch 0 (.branch 0 xz (.branch 0 xz (.branch 0 (.leaf (hicmp .ge, 98, 3, 159, 0, 0)) xz))) (.branch 0 (.branch 0 xz (.branch 0 (.leaf (hloada 0, 82, 1, 0, 0, 0)) xz)) xz)) (.branch 0 (.branch 0 (.branch 0 (.branch 0 (.leaf (hload 2 1, 10, 1, 0, 0, 0)) xz) xz) xz) xz)) (.branch 0 (.branch 0 (.branch 0 (.branch 0 (.branch 0 (.leaf (hcallv, 6, 3, 67, 0, 2)) (.leaf (hload 2 7, 134, 2, 0, 0, 0))) xz) (.branch 0 xz (.branch 0 (.leaf (hload 2 5, 102, 2, 0, 0, 0)) xz))) (.branch 0 (.branch 0 (.branch 0 (.leaf (hload 2 3, 22, 1, 0, 0, 0)) xz) (.branch 0 (.leaf (hstorea 3, 86, 1, 0, 0, 0)) xz)) xz)) (.branch 0 (.branch 0 (.branch 0 (.branch 0 (.leaf (hpush 2 (Int.ofNat 0), 14, 1, 0, 0, 0)) xz) xz) (.branch 0 (.branch 0 xz (.leaf (hret 1, 174, 1, 0, 0, 0))) xz)) (.branch 0 (.branch 0 xz (.branch 0 (.leaf (hload 2 5, 94, 2, 0, 0, 0)) xz)) xz))))) (.branch 0 (.branch 0 (.branch 0 (.branch 0 (.branch 0 (.branch 0 (.branch 0 (.leaf (hget, 1, 3, 2, 5, 0)) xz) xz) xz) (.branch 0 (.branch 0 (.branch 0 (.leaf (hpush 2 (Int.ofNat 60), 17, 2, 0, 0, 0)) xz) xz) xz)) (.branch 0 (.branch 0 (.branch 0 (.branch 0 (.leaf (hloada 0, 9, 1, 0, 0, 0)) xz) xz) (.branch 0 (.branch 0 xz (.leaf (hget, 169, 3, 2, 5, 0))) (.branch 0 (.leaf (hstorea 6, 105, 2, 0, 0, 0)) xz))) (.branch 0 (.branch 0 (.branch 0 xz (.leaf (hiinc 5 (Int.ofNat 1), 153, 3, 0, 0, 0))) (.branch 0 (.leaf (hstore 2 4, 89, 2, 0, 0, 0)) xz)) xz))) (.branch 0 (.branch 0 (.branch 0 (.branch 0 (.branch 0 (.leaf (hloada 0, 5, 1, 0, 0, 0)) xz) xz) (.branch 0 xz (.branch 0 (.leaf (hloada 3, 101, 1, 0, 0, 0)) xz))) xz) (.branch 0 (.branch 0 xz (.branch 0 (.branch 0 xz (.leaf (hbin (fun a b => a - b) (fun _ _ => true), 173, 1, 0, 0, 0))) (.branch 0 (.leaf (hget, 109, 3, 5, 0, 0)) xz))) xz))) (.branch 0 (.branch 0 (.branch 0 (.branch 0 (.branch 0 (.branch 0 xz (.leaf (hpush 2 (Int.ofNat 0), 131, 1, 0, 0, 0))) xz) (.branch 0 (.branch 0 xz (.leaf (hloada 0, 163, 1, 0, 0, 0))) xz)) (.branch 0 (.branch 0 (.branch 0 (.leaf (hicmp .ge, 19, 3, 82, 0, 0)) xz) (.branch 0 (.leaf (hget, 83, 3, 2, 1, 5)) xz)) xz)) (.branch 0 (.branch 0 (.branch 0 (.branch 0 (.leaf (hcallv, 11, 3, 132, 0, 2)) xz) xz) (.branch 0 xz (.branch 0 (.leaf (hloada 6, 107, 2, 0, 0, 0)) xz))) (.branch 0 (.branch 0 (.branch 0 (.leaf (hicmp .ge, 27, 3, 82, 0, 0)) xz) (.branch 0 (.leaf (hpush 2 (Int.ofNat 0), 91, 1, 0, 0, 0)) xz)) xz))) (.branch 0 (.branch 0 (.branch 0 xz (.branch 0 (.branch 0 xz (.leaf (hpop, 167, 1, 0, 0, 0))) xz)) (.branch 0 (.branch 0 (.branch 0 (.leaf (hloada 0, 23, 1, 0, 0, 0)) xz) (.branch 0 (.leaf (hloada 3, 87, 1, 0, 0, 0)) xz)) xz)) (.branch 0 (.branch 0 (.branch 0 (.branch 0 (.leaf (hstore 2 3, 15, 1, 0, 0, 0)) xz) xz) xz) (.branch 0 (.branch 0 (.branch 0 xz (.leaf (hloada 0, 159, 1, 0, 0, 0))) xz) xz)))))
noncomputable def xp131 : xP := (((8, 8), xc131), [], 1, 1, 0, 0)
noncomputable def xc132 : Lean.RArray xEn := .branch 0 (.branch 0 (.branch 0 (.branch 0 (.branch 0 (.branch 0 (.branch 0 (.branch 0 (.leaf (hloada 0, 0, 1, 0, 0, 0)) (.leaf (hstore 2 6, 128, 2, 0, 0, 0))) (.branch 0 (.leaf (hloada 5, 64, 2, 0, 0, 0)) xz)) (.branch 0 xz (.branch 0 (.leaf (hald 5 10, 96, 1, 0, 0, 0)) xz))) (.branch 0 (.branch 0 (.branch 0 (.leaf (hload 2 4, 16, 2, 0, 0, 0)) xz) (.branch 0 (.leaf (hstorea 2, 80, 1, 0, 0, 0)) xz)) (.branch 0 (.branch 0 (.leaf (hpush 2 (Int.ofNat 0), 48, 1, 0, 0, 0)) xz) xz))) (.branch 0 (.branch 0 (.branch 0 (.branch 0 xz (.leaf (hif .eq, 136, 3, 145, 0, 0))) xz) (.branch 0 (.branch 0 (.leaf (hloada 0, 40, 1, 0, 0, 0)) xz) (.branch 0 (.leaf (hif .lt, 104, 3, 127, 0, 0)) xz))) xz)) (.branch 0 (.branch 0 xz (.branch 0 (.branch 0 (.branch 0 xz (.leaf (hgoto, 148, 3, 87, 0, 0))) (.branch 0 (.leaf (hpush 2 (Int.ofNat 0), 84, 1, 0, 0, 0)) xz)) xz)) (.branch 0 (.branch 0 (.branch 0 (.branch 0 (.leaf (hstore 2 3, 12, 1, 0, 0, 0)) xz) (.branch 0 (.leaf (hloada 0, 76, 1, 0, 0, 0)) xz)) (.branch 0 (.branch 0 (.leaf (hstorea 2, 44, 1, 0, 0, 0)) xz) xz)) (.branch 0 (.branch 0 (.branch 0 (.leaf (hloada 5, 28, 2, 0, 0, 0)) xz) xz) (.branch 0 (.branch 0 (.leaf (hald 5 10, 60, 1, 0, 0, 0)) xz) xz))))) (.branch 0 (.branch 0 (.branch 0 (.branch 0 (.branch 0 (.branch 0 (.leaf (hputf, 2, 3, 2, 3, 0)) (.leaf (hload 2 1, 130, 1, 0, 0, 0))) (.branch 0 (.leaf (hload 2 1, 66, 1, 0, 0, 0)) xz)) (.branch 0 (.branch 0 (.leaf (hiinc 4 (Int.ofNat 1), 34, 3, 0, 0, 0)) xz) xz)) (.branch 0 (.branch 0 (.branch 0 (.leaf (hload 2 3, 18, 1, 0, 0, 0)) xz) (.branch 0 (.leaf (halen, 82, 1, 0, 0, 0)) xz)) xz)) (.branch 0 (.branch 0 (.branch 0 (.branch 0 (.leaf (hloada 2, 10, 1, 0, 0, 0)) xz) xz) xz) (.branch 0 (.branch 0 (.branch 0 (.leaf (hstorea 5, 26, 2, 0, 0, 0)) xz) (.branch 0 (.leaf (hicmp .ge, 90, 3, 151, 0, 0)) xz)) (.branch 0 (.branch 0 (.leaf (hload 2 4, 58, 2, 0, 0, 0)) xz) xz)))) (.branch 0 (.branch 0 (.branch 0 (.branch 0 (.branch 0 (.leaf (hget, 6, 3, 2, 1, 5)) (.leaf (hload 2 6, 134, 2, 0, 0, 0))) (.branch 0 (.leaf (hiinc 4 (Int.ofNat 1), 70, 3, 0, 0, 0)) xz)) xz) (.branch 0 (.branch 0 (.branch 0 (.leaf (hloada 2, 22, 1, 0, 0, 0)) xz) xz) (.branch 0 (.branch 0 (.leaf (hicmp .ge, 54, 3, 76, 0, 0)) xz) xz))) (.branch 0 (.branch 0 (.branch 0 (.branch 0 (.leaf (hstore 2 4, 14, 2, 0, 0, 0)) xz) xz) (.branch 0 (.branch 0 (.leaf (halen, 46, 1, 0, 0, 0)) xz) xz)) (.branch 0 (.branch 0 (.branch 0 (.leaf (hpush 2 (Int.ofNat 0), 30, 1, 0, 0, 0)) xz) (.branch 0 (.leaf (hload 2 4, 94, 2, 0, 0, 0)) xz)) xz))))) (.branch 0 (.branch 0 (.branch 0 (.branch 0 (.branch 0 (.branch 0 (.branch 0 (.leaf (hpush 2 (Int.ofNat 0), 1, 1, 0, 0, 0)) xz) xz) (.branch 0 xz (.branch 0 (.leaf (hstorea 5, 97, 2, 0, 0, 0)) xz))) (.branch 0 (.branch 0 (.branch 0 xz (.leaf (hiinc 4 (Int.ofNat 1), 145, 3, 0, 0, 0))) (.branch 0 (.leaf (hloada 2, 81, 1, 0, 0, 0)) xz)) (.branch 0 (.branch 0 (.leaf (hstore 2 4, 49, 2, 0, 0, 0)) xz) xz))) (.branch 0 (.branch 0 (.branch 0 (.branch 0 (.leaf (hstorea 2, 9, 1, 0, 0, 0)) xz) (.branch 0 (.leaf (hgoto, 73, 3, 51, 0, 0)) xz)) (.branch 0 (.branch 0 (.leaf (hget, 41, 3, 2, 0, 5)) xz) xz)) (.branch 0 (.branch 0 (.branch 0 (.leaf (hald 5 10, 25, 1, 0, 0, 0)) xz) (.branch 0 (.leaf (hload 2 3, 89, 1, 0, 0, 0)) xz)) (.branch 0 (.branch 0 (.leaf (hloada 2, 57, 1, 0, 0, 0)) xz) xz)))) (.branch 0 (.branch 0 (.branch 0 (.branch 0 (.branch 0 (.leaf (hloada 0, 5, 1, 0, 0, 0)) xz) xz) (.branch 0 (.branch 0 (.leaf (hgoto, 37, 3, 16, 0, 0)) xz) (.branch 0 (.leaf (hget, 101, 3, 5, 0, 0)) xz))) (.branch 0 (.branch 0 xz (.branch 0 (.leaf (hstore 2 4, 85, 2, 0, 0, 0)) xz)) (.branch 0 (.branch 0 (.leaf (hload 2 3, 53, 1, 0, 0, 0)) xz) xz))) (.branch 0 (.branch 0 (.branch 0 (.branch 0 (.leaf (hpush 2 (Int.ofNat 0), 13, 1, 0, 0, 0)) xz) (.branch 0 (.leaf (hget, 77, 3, 2, 1, 5)) xz)) (.branch 0 (.branch 0 (.leaf (hloada 2, 45, 1, 0, 0, 0)) xz) xz)) (.branch 0 (.branch 0 xz (.branch 0 (.leaf (hloada 2, 93, 1, 0, 0, 0)) xz)) (.branch 0 (.branch 0 (.leaf (hstorea 5, 61, 2, 0, 0, 0)) xz) xz))))) (.branch 0 (.branch 0 (.branch 0 (.branch 0 (.branch 0 (.branch 0 xz (.leaf (hif .ne, 131, 3, 145, 0, 0))) (.branch 0 (.leaf (hcallv, 67, 3, 133, 0, 2)) xz)) (.branch 0 xz (.branch 0 (.leaf (hloada 5, 99, 2, 0, 0, 0)) xz))) (.branch 0 (.branch 0 (.branch 0 (.leaf (hicmp .ge, 19, 3, 40, 0, 0)) xz) (.branch 0 (.leaf (hstore 2 3, 83, 1, 0, 0, 0)) xz)) (.branch 0 (.branch 0 (.leaf (hload 2 4, 51, 2, 0, 0, 0)) xz) xz))) (.branch 0 (.branch 0 (.branch 0 (.branch 0 (.leaf (halen, 11, 1, 0, 0, 0)) xz) xz) xz) xz)) (.branch 0 (.branch 0 xz (.branch 0 (.branch 0 (.branch 0 (.leaf (hload 2 4, 23, 2, 0, 0, 0)) (.leaf (hret 0, 151, 1, 0, 0, 0))) (.branch 0 (.leaf (hload 2 4, 87, 2, 0, 0, 0)) xz)) xz)) (.branch 0 (.branch 0 xz (.branch 0 (.branch 0 (.leaf (hstore 2 3, 47, 1, 0, 0, 0)) xz) xz)) (.branch 0 (.branch 0 (.branch 0 (.leaf (hputf, 31, 3, 5, 5, 2)) xz) xz) (.branch 0 (.branch 0 (.leaf (hloada 0, 63, 1, 0, 0, 0)) xz) (.branch 0 (.leaf (hpush 2 (Int.ofNat 0), 127, 1, 0, 0, 0)) xz)))))))
noncomputable def xp132 : xP := (((8, 7), xc132), [], 1, 0, 0, 0)
noncomputable def xc133 : Lean.RArray xEn := .branch 0 (.branch 0 (.branch 0 (.branch 0 (.branch 0 (.leaf (hloada 1, 0, 1, 0, 0, 0)) xz) xz) (.branch 0 (.branch 0 (.leaf (hif .eq, 4, 3, 29, 0, 0)) xz) xz)) xz) (.branch 0 (.branch 0 (.branch 0 (.branch 0 (.leaf (hcallv, 1, 3, 69, 0, 6)) xz) xz) (.branch 0 xz (.branch 0 xz (.leaf (hret 0, 29, 1, 0, 0, 0))))) xz)
noncomputable def xp133 : xP := (((5, 3), xc133), [], 2, 0, 0, 0)
noncomputable def xc134 : Lean.RArray xEn := .branch 0 (.branch 0 (.branch 0 (.branch 0 (.branch 0 (.branch 0 (.branch 0 (.leaf (hloada 0, 0, 1, 0, 0, 0)) (.leaf (hloada 1, 64, 1, 0, 0, 0))) (.branch 0 (.leaf (hpush 2 (Int.ofNat 0), 32, 1, 0, 0, 0)) xz)) (.branch 0 (.branch 0 (.leaf (hload 2 3, 16, 1, 0, 0, 0)) xz) (.branch 0 (.leaf (hload 2 1, 48, 1, 0, 0, 0)) xz))) (.branch 0 (.branch 0 (.branch 0 (.leaf (hpush 2 (Int.ofNat 0), 8, 1, 0, 0, 0)) xz) (.branch 0 (.leaf (hload 2 1, 40, 1, 0, 0, 0)) xz)) (.branch 0 xz (.branch 0 (.leaf (hgoto, 56, 3, 34, 0, 0)) xz)))) (.branch 0 (.branch 0 (.branch 0 (.branch 0 (.leaf (hstorea 1, 4, 1, 0, 0, 0)) (.leaf (hstore 2 3, 68, 1, 0, 0, 0))) xz) (.branch 0 (.branch 0 (.leaf (hloada 4, 20, 2, 0, 0, 0)) (.leaf (hif .lt, 84, 3, 92, 0, 0))) xz)) (.branch 0 (.branch 0 (.branch 0 (.leaf (hicmp .ge, 12, 3, 32, 0, 0)) (.leaf (hald 5 10, 76, 1, 0, 0, 0))) (.branch 0 (.leaf (hloada 0, 44, 1, 0, 0, 0)) xz)) (.branch 0 (.branch 0 xz (.leaf (hiinc 3 (Int.ofNat 1), 92, 3, 0, 0, 0))) (.branch 0 (.leaf (hget, 60, 3, 2, 1, 5)) xz))))) (.branch 0 (.branch 0 (.branch 0 (.branch 0 (.branch 0 xz (.leaf (hstore 2 2, 66, 1, 0, 0, 0))) (.branch 0 (.leaf (hload 2 1, 34, 1, 0, 0, 0)) (.leaf (hret 0, 98, 1, 0, 0, 0)))) (.branch 0 (.branch 0 (.leaf (hstorea 4, 18, 2, 0, 0, 0)) xz) (.branch 0 (.leaf (hcalls, 50, 3, 65, 0, 0)) xz))) (.branch 0 (.branch 0 (.branch 0 (.leaf (hload 2 3, 10, 1, 0, 0, 0)) (.leaf (hloada 1, 74, 1, 0, 0, 0))) xz) (.branch 0 (.branch 0 (.leaf (hiinc 3 (Int.ofNat 1), 26, 3, 0, 0, 0)) xz) xz))) (.branch 0 (.branch 0 (.branch 0 (.branch 0 (.leaf (halen, 6, 1, 0, 0, 0)) (.leaf (hload 2 2, 70, 1, 0, 0, 0))) xz) (.branch 0 (.branch 0 (.leaf (hpush 2 (Int.ofNat 0), 22, 1, 0, 0, 0)) xz) xz)) xz))) (.branch 0 (.branch 0 (.branch 0 (.branch 0 (.branch 0 (.branch 0 (.leaf (hget, 1, 3, 2, 1, 5)) (.leaf (halen, 65, 1, 0, 0, 0))) (.branch 0 (.leaf (hstore 2 1, 33, 1, 0, 0, 0)) xz)) (.branch 0 (.branch 0 (.leaf (hald 5 10, 17, 1, 0, 0, 0)) (.leaf (hget, 81, 3, 5, 0, 0))) (.branch 0 (.leaf (hald 5 10, 49, 1, 0, 0, 0)) xz))) (.branch 0 (.branch 0 (.branch 0 (.leaf (hstore 2 3, 9, 1, 0, 0, 0)) xz) (.branch 0 (.leaf (hpush 2 (Int.ofNat 8), 41, 2, 0, 0, 0)) xz)) xz)) (.branch 0 (.branch 0 (.branch 0 (.branch 0 (.leaf (hloada 1, 5, 1, 0, 0, 0)) (.leaf (hload 2 3, 69, 1, 0, 0, 0))) (.branch 0 (.leaf (hicmp .ge, 37, 3, 59, 0, 0)) xz)) (.branch 0 xz (.branch 0 (.leaf (hiinc 1 (Int.ofNat 1), 53, 3, 0, 0, 0)) xz))) (.branch 0 (.branch 0 (.branch 0 xz (.leaf (hstorea 4, 77, 2, 0, 0, 0))) (.branch 0 (.leaf (hget, 45, 3, 2, 0, 5)) xz)) (.branch 0 (.branch 0 (.leaf (hgoto, 29, 3, 10, 0, 0)) xz) xz)))) (.branch 0 (.branch 0 (.branch 0 (.branch 0 (.branch 0 xz (.leaf (hpush 2 (Int.ofNat 0), 67, 1, 0, 0, 0))) (.branch 0 (.leaf (hpush 2 (Int.ofNat 24), 35, 2, 0, 0, 0)) xz)) xz) (.branch 0 (.branch 0 (.branch 0 (.leaf (hload 2 2, 11, 1, 0, 0, 0)) (.leaf (hload 2 3, 75, 1, 0, 0, 0))) (.branch 0 (.leaf (hbin (fun a b => a / b) xin31, 43, 1, 0, 0, 0)) xz)) (.branch 0 xz (.branch 0 (.leaf (hloada 0, 59, 1, 0, 0, 0)) xz)))) (.branch 0 (.branch 0 (.branch 0 (.branch 0 (.leaf (hstore 2 2, 7, 1, 0, 0, 0)) (.leaf (hicmp .ge, 71, 3, 98, 0, 0))) xz) (.branch 0 (.branch 0 (.leaf (hputf, 23, 3, 5, 3, 2)) xz) xz)) (.branch 0 (.branch 0 (.branch 0 (.leaf (hloada 1, 15, 1, 0, 0, 0)) (.leaf (hloada 4, 79, 2, 0, 0, 0))) xz) (.branch 0 (.branch 0 xz (.leaf (hgoto, 95, 3, 69, 0, 0))) (.branch 0 (.leaf (hstorea 1, 63, 1, 0, 0, 0)) xz))))))
noncomputable def xp134 : xP := (((7, 5), xc134), [], 0, 0, 0, 0)
noncomputable def xc135 : Lean.RArray xEn := .branch 0 (.branch 0 (.branch 0 (.branch 0 (.leaf (hloada 0, 0, 1, 0, 0, 0)) (.leaf (hcallv, 8, 3, 136, 0, 10))) xz) (.branch 0 (.branch 0 (.leaf (hputf, 2, 3, 10, 0, 0)) xz) (.branch 0 (.leaf (hpush 2 (Int.ofNat 1), 6, 1, 0, 0, 0)) xz))) (.branch 0 (.branch 0 (.branch 0 (.leaf (hpush 2 (Int.ofNat 0), 1, 1, 0, 0, 0)) xz) (.branch 0 (.leaf (hloada 0, 5, 1, 0, 0, 0)) xz)) (.branch 0 (.branch 0 xz (.leaf (hret 1, 11, 1, 0, 0, 0))) (.branch 0 (.leaf (hpush 2 (Int.ofNat 1), 7, 1, 0, 0, 0)) xz)))
noncomputable def xp135 : xP := (((4, 1), xc135), [], 0, 1, 1, 0)
noncomputable def xc136 : Lean.RArray xEn := .branch 0 (.branch 0 (.branch 0 (.branch 0 (.branch 0 (.branch 0 (.branch 0 (.leaf (hloada 0, 0, 1, 0, 0, 0)) xz) xz) (.branch 0 (.branch 0 (.leaf (hload 2 5, 16, 2, 0, 0, 0)) (.leaf (hload 2 3, 80, 1, 0, 0, 0))) xz)) (.branch 0 (.branch 0 (.branch 0 (.leaf (hcallv, 8, 3, 137, 0, 10)) xz) xz) xz)) (.branch 0 (.branch 0 (.branch 0 (.branch 0 (.leaf (hstore 2 3, 4, 1, 0, 0, 0)) xz) xz) xz) (.branch 0 (.branch 0 (.branch 0 xz (.leaf (hloada 0, 76, 1, 0, 0, 0))) xz) xz))) (.branch 0 (.branch 0 (.branch 0 (.branch 0 (.branch 0 xz (.leaf (hloada 0, 66, 1, 0, 0, 0))) xz) (.branch 0 (.branch 0 (.leaf (hloada 0, 18, 1, 0, 0, 0)) (.leaf (hret 1, 82, 1, 0, 0, 0))) xz)) (.branch 0 (.branch 0 (.branch 0 xz (.leaf (hstore 2 5, 74, 2, 0, 0, 0))) xz) xz)) (.branch 0 (.branch 0 (.branch 0 (.branch 0 (.leaf (hload 2 1, 6, 1, 0, 0, 0)) (.leaf (hloada 0, 70, 1, 0, 0, 0))) xz) (.branch 0 (.branch 0 (.leaf (hicmp .ge, 22, 3, 66, 0, 0)) xz) xz)) (.branch 0 (.branch 0 (.branch 0 (.leaf (hstore 2 5, 14, 2, 0, 0, 0)) xz) xz) xz)))) (.branch 0 (.branch 0 (.branch 0 (.branch 0 (.branch 0 (.branch 0 (.leaf (hget, 1, 3, 10, 14, 0)) xz) xz) (.branch 0 (.branch 0 xz (.leaf (hbin (fun a b => a - b) (fun _ _ => true), 81, 1, 0, 0, 0))) xz)) xz) (.branch 0 (.branch 0 (.branch 0 (.branch 0 (.leaf (hloada 0, 5, 1, 0, 0, 0)) xz) xz) xz) (.branch 0 (.branch 0 (.branch 0 (.leaf (hpush 2 (Int.ofNat 0), 13, 1, 0, 0, 0)) (.leaf (hget, 77, 3, 10, 14, 0))) xz) xz))) (.branch 0 (.branch 0 (.branch 0 (.branch 0 (.branch 0 xz (.leaf (hcallv, 67, 3, 138, 0, 10))) xz) (.branch 0 (.branch 0 (.leaf (hget, 19, 3, 10, 13, 0)) xz) xz)) (.branch 0 (.branch 0 (.branch 0 (.leaf (hstorea 4, 11, 2, 0, 0, 0)) xz) xz) xz)) (.branch 0 (.branch 0 (.branch 0 (.branch 0 (.leaf (hload 2 2, 7, 1, 0, 0, 0)) (.leaf (hcallv, 71, 3, 74, 0, 10))) xz) xz) xz)))
noncomputable def xp136 : xP := (((7, 6), xc136), [], 2, 1, 1, 0)
noncomputable def xc137 : Lean.RArray xEn := .branch 0 (.branch 0 (.branch 0 (.branch 0 (.branch 0 (.branch 0 (.branch 0 (.branch 0 (.branch 0 (.leaf (hloada 0, 0, 1, 0, 0, 0)) xz) xz) xz) (.branch 0 (.branch 0 (.branch 0 (.leaf (hicmp .ne, 32, 3, 69, 0, 0)) xz) (.branch 0 (.leaf (hloada 0, 160, 1, 0, 0, 0)) xz)) xz)) (.branch 0 (.branch 0 (.branch 0 xz (.branch 0 (.leaf (hstore 2 4, 144, 2, 0, 0, 0)) xz)) (.branch 0 (.branch 0 (.leaf (hloada 0, 80, 1, 0, 0, 0)) xz) xz)) xz)) (.branch 0 (.branch 0 (.branch 0 xz (.branch 0 (.branch 0 (.leaf (hgoto, 72, 3, 13, 0, 0)) xz) xz)) xz) (.branch 0 (.branch 0 (.branch 0 (.branch 0 (.leaf (hload 2 4, 24, 2, 0, 0, 0)) xz) (.branch 0 (.leaf (hstore 2 4, 152, 2, 0, 0, 0)) xz)) xz) xz))) (.branch 0 (.branch 0 (.branch 0 (.branch 0 (.branch 0 (.branch 0 (.leaf (hnewa, 4, 2, 2, 0, 0)) xz) xz) xz) (.branch 0 (.branch 0 xz (.branch 0 (.leaf (hbin (fun a b => a * b) (fun _ _ => true), 164, 1, 0, 0, 0)) xz)) xz)) (.branch 0 (.branch 0 (.branch 0 (.branch 0 (.leaf (hloada 0, 20, 1, 0, 0, 0)) xz) (.branch 0 (.leaf (hif .eq, 148, 3, 266, 0, 0)) xz)) (.branch 0 (.branch 0 (.leaf (hicmp .ge, 84, 3, 143, 0, 0)) xz) xz)) xz)) (.branch 0 (.branch 0 (.branch 0 xz (.branch 0 (.branch 0 (.leaf (hstore 2 4, 76, 2, 0, 0, 0)) xz) xz)) xz) xz))) (.branch 0 (.branch 0 (.branch 0 xz (.branch 0 (.branch 0 (.branch 0 xz (.branch 0 (.leaf (hload 2 4, 146, 2, 0, 0, 0)) xz)) xz) xz)) (.branch 0 (.branch 0 (.branch 0 (.branch 0 (.branch 0 (.leaf (hbin (fun a b => a * b) (fun _ _ => true), 10, 1, 0, 0, 0)) (.leaf (hloada 3, 266, 1, 0, 0, 0))) xz) xz) xz) (.branch 0 (.branch 0 (.branch 0 (.branch 0 (.leaf (hald 5 10, 26, 1, 0, 0, 0)) xz) (.branch 0 (.leaf (hpush 2 (Int.ofNat 0), 154, 1, 0, 0, 0)) xz)) xz) xz))) (.branch 0 (.branch 0 (.branch 0 (.branch 0 (.branch 0 (.branch 0 (.leaf (hstorea 3, 6, 1, 0, 0, 0)) xz) xz) xz) xz) xz) (.branch 0 (.branch 0 (.branch 0 xz (.branch 0 (.branch 0 (.leaf (hload 2 4, 78, 2, 0, 0, 0)) xz) xz)) xz) (.branch 0 (.branch 0 (.branch 0 (.branch 0 (.leaf (hpush 2 (Int.ofNat 116), 30, 2, 0, 0, 0)) xz) xz) xz) xz))))) (.branch 0 (.branch 0 (.branch 0 (.branch 0 (.branch 0 (.branch 0 (.branch 0 (.branch 0 (.leaf (hget, 1, 3, 10, 13, 0)) xz) xz) xz) (.branch 0 (.branch 0 xz (.branch 0 (.leaf (hget, 161, 3, 10, 13, 0)) xz)) xz)) (.branch 0 (.branch 0 (.branch 0 (.branch 0 (.leaf (hicmp .ge, 17, 3, 75, 0, 0)) xz) xz) (.branch 0 (.branch 0 (.leaf (hget, 81, 3, 10, 13, 0)) xz) xz)) xz)) (.branch 0 (.branch 0 (.branch 0 (.branch 0 (.branch 0 (.leaf (hload 2 1, 9, 1, 0, 0, 0)) xz) xz) xz) xz) xz)) (.branch 0 (.branch 0 (.branch 0 (.branch 0 xz (.branch 0 (.branch 0 (.leaf (hiinc 4 (Int.ofNat 1), 69, 3, 0, 0, 0)) xz) xz)) (.branch 0 (.branch 0 xz (.branch 0 (.leaf (hicmp .ge, 165, 3, 263, 0, 0)) xz)) xz)) (.branch 0 (.branch 0 (.branch 0 (.branch 0 (.leaf (hget, 21, 3, 10, 12, 5)) xz) xz) xz) xz)) (.branch 0 (.branch 0 (.branch 0 (.branch 0 (.branch 0 (.leaf (hload 2 4, 13, 2, 0, 0, 0)) xz) xz) xz) xz) (.branch 0 (.branch 0 (.branch 0 xz (.branch 0 (.leaf (hload 2 5, 157, 2, 0, 0, 0)) xz)) xz) xz)))) (.branch 0 (.branch 0 xz (.branch 0 (.branch 0 (.branch 0 (.branch 0 (.branch 0 (.leaf (hstore 2 4, 11, 2, 0, 0, 0)) (.leaf (hret 6, 267, 1, 0, 0, 0))) xz) (.branch 0 (.branch 0 (.leaf (hpush 2 (Int.ofNat 0), 75, 1, 0, 0, 0)) xz) xz)) xz) (.branch 0 (.branch 0 (.branch 0 (.branch 0 (.leaf (hget, 27, 3, 9, 0, 1)) xz) (.branch 0 (.leaf (hstore 2 5, 155, 2, 0, 0, 0)) xz)) xz) xz))) (.branch 0 (.branch 0 (.branch 0 (.branch 0 (.branch 0 (.branch 0 (.leaf (hpush 2 (Int.ofNat 8), 7, 2, 0, 0, 0)) (.leaf (hgoto, 263, 3, 146, 0, 0))) xz) xz) xz) (.branch 0 (.branch 0 (.branch 0 xz (.branch 0 (.leaf (hpush 2 (Int.ofNat 0), 151, 1, 0, 0, 0)) xz)) xz) xz)) (.branch 0 (.branch 0 (.branch 0 (.branch 0 (.branch 0 (.leaf (hpush 2 (Int.ofNat 24), 15, 2, 0, 0, 0)) xz) (.branch 0 (.leaf (hpush 2 (Int.ofNat 1), 143, 1, 0, 0, 0)) xz)) xz) xz) (.branch 0 (.branch 0 (.branch 0 xz (.branch 0 (.leaf (hpush 2 (Int.ofNat 3), 159, 1, 0, 0, 0)) xz)) xz) xz)))))
noncomputable def xp137 : xP := (((9, 7), xc137), [], 2, 6, 1, 0)
noncomputable def xc138 : Lean.RArray xEn := .branch 0 (.branch 0 (.branch 0 (.branch 0 (.branch 0 (.branch 0 (.leaf (hpush 2 (Int.ofNat 0), 0, 1, 0, 0, 0)) xz) xz) xz) (.branch 0 (.branch 0 (.branch 0 (.leaf (hget, 4, 3, 10, 13, 0)) xz) xz) xz)) (.branch 0 (.branch 0 (.branch 0 (.branch 0 (.leaf (hload 2 1, 2, 1, 0, 0, 0)) xz) xz) xz) xz)) (.branch 0 (.branch 0 (.branch 0 (.branch 0 (.branch 0 (.leaf (hstore 2 1, 1, 1, 0, 0, 0)) xz) xz) xz) (.branch 0 xz (.branch 0 xz (.branch 0 xz (.leaf (hret 0, 61, 1, 0, 0, 0)))))) (.branch 0 (.branch 0 (.branch 0 (.branch 0 (.leaf (hloada 0, 3, 1, 0, 0, 0)) xz) xz) xz) (.branch 0 (.branch 0 (.branch 0 (.leaf (hicmp .ge, 7, 3, 61, 0, 0)) xz) xz) xz)))
noncomputable def xp138 : xP := (((6, 2), xc138), [], 0, 0, 0, 0)
noncomputable def xc139 : Lean.RArray xEn := .branch 0 (.branch 0 (.branch 0 (.branch 0 (.leaf (hloada 0, 0, 1, 0, 0, 0)) (.leaf (hret 1, 8, 1, 0, 0, 0))) (.branch 0 (.leaf (hpush 2 (Int.ofNat 1), 4, 1, 0, 0, 0)) xz)) xz) (.branch 0 (.branch 0 (.branch 0 (.leaf (hget, 1, 3, 7, 1, 5)) xz) (.branch 0 (.leaf (hcallv, 5, 3, 131, 0, 2)) xz)) xz)
noncomputable def xp139 : xP := (((4, 1), xc139), [], 0, 1, 0, 0)
noncomputable def xc140 : Lean.RArray xEn := .branch 0 (.branch 0 (.branch 0 (.branch 0 (.leaf (hloada 0, 0, 1, 0, 0, 0)) (.leaf (hcallv, 8, 3, 136, 0, 10))) xz) (.branch 0 (.branch 0 (.leaf (hputf, 2, 3, 10, 0, 0)) xz) (.branch 0 (.leaf (hpush 2 (Int.ofNat 0), 6, 1, 0, 0, 0)) xz))) (.branch 0 (.branch 0 (.branch 0 (.leaf (hpush 2 (Int.ofNat 0), 1, 1, 0, 0, 0)) xz) (.branch 0 (.leaf (hloada 0, 5, 1, 0, 0, 0)) xz)) (.branch 0 (.branch 0 xz (.leaf (hret 1, 11, 1, 0, 0, 0))) (.branch 0 (.leaf (hpush 2 (Int.ofNat 0), 7, 1, 0, 0, 0)) xz)))
noncomputable def xp140 : xP := (((4, 1), xc140), [], 0, 1, 1, 0)
noncomputable def xc141 : Lean.RArray xEn := .branch 0 (.branch 0 (.branch 0 (.leaf (hloada 0, 0, 1, 0, 0, 0)) (.leaf (hget, 4, 3, 2, 5, 0))) xz) (.branch 0 (.branch 0 (.leaf (hget, 1, 3, 7, 1, 5)) xz) (.branch 0 xz (.leaf (hret 1, 7, 1, 0, 0, 0))))
noncomputable def xp141 : xP := (((3, 1), xc141), [], 0, 1, 0, 0)
noncomputable def xc142 : Lean.RArray xEn := .branch 0 (.branch 0 (.branch 0 (.branch 0 (.leaf (hloada 0, 0, 1, 0, 0, 0)) xz) xz) (.branch 0 (.branch 0 (.leaf (hputf, 2, 3, 10, 0, 0)) xz) (.branch 0 (.leaf (hget, 6, 3, 10, 14, 0)) xz))) (.branch 0 (.branch 0 (.branch 0 (.leaf (hpush 2 (Int.ofNat 0), 1, 1, 0, 0, 0)) (.leaf (hret 1, 9, 1, 0, 0, 0))) (.branch 0 (.leaf (hloada 0, 5, 1, 0, 0, 0)) xz)) xz)
noncomputable def xp142 : xP := (((4, 1), xc142), [], 0, 1, 0, 0)
noncomputable def xc143 : Lean.RArray xEn := .branch 0 (.branch 0 (.branch 0 (.leaf (hloada 0, 0, 1, 0, 0, 0)) (.leaf (hget, 4, 3, 3, 8, 3))) xz) (.branch 0 (.branch 0 (.leaf (hget, 1, 3, 7, 0, 5)) xz) (.branch 0 xz (.leaf (hret 4, 7, 1, 0, 0, 0))))
noncomputable def xp143 : xP := (((3, 1), xc143), [], 0, 4, 0, 0)
noncomputable def xc144 : Lean.RArray xEn := .branch 0 (.branch 0 (.branch 0 (.branch 0 (.leaf (hloada 0, 0, 1, 0, 0, 0)) xz) xz) (.branch 0 (.branch 0 (.leaf (hputf, 2, 3, 10, 0, 0)) xz) (.branch 0 (.leaf (hget, 6, 3, 10, 19, 3)) xz))) (.branch 0 (.branch 0 (.branch 0 (.leaf (hpush 2 (Int.ofNat 0), 1, 1, 0, 0, 0)) (.leaf (hret 4, 9, 1, 0, 0, 0))) (.branch 0 (.leaf (hloada 0, 5, 1, 0, 0, 0)) xz)) xz)
noncomputable def xp144 : xP := (((4, 1), xc144), [], 0, 4, 0, 0)
noncomputable def xc145 : Lean.RArray xEn := .branch 0 (.branch 0 (.branch 0 (.branch 0 (.leaf (hloada 1, 0, 1, 0, 0, 0)) xz) (.branch 0 xz (.leaf (hpush 2 (Int.ofNat 1), 12, 1, 0, 0, 0)))) (.branch 0 (.branch 0 (.leaf (hloada 0, 2, 1, 0, 0, 0)) xz) xz)) (.branch 0 (.branch 0 (.branch 0 (.leaf (hpush 2 (Int.ofNat 0), 1, 1, 0, 0, 0)) xz) (.branch 0 xz (.leaf (hret 1, 13, 1, 0, 0, 0)))) (.branch 0 (.branch 0 (.leaf (hcallv, 3, 3, 146, 0, 7)) xz) xz))
noncomputable def xp145 : xP := (((4, 3), xc145), [(0, 8, 1, 2, 12)], 2, 1, 1, 6)
noncomputable def xc146 : Lean.RArray xEn := .branch 0 (.branch 0 (.branch 0 (.branch 0 (.leaf (hloada 0, 0, 1, 0, 0, 0)) xz) (.branch 0 (.leaf (hget, 4, 3, 2, 4, 0)) xz)) (.branch 0 (.branch 0 xz (.leaf (hnew, 10, 3, 1, 0, 1))) xz)) (.branch 0 (.branch 0 (.branch 0 (.leaf (hget, 1, 3, 7, 1, 5)) xz) xz) (.branch 0 xz (.branch 0 (.leaf (hif .gt, 7, 3, 21, 0, 0)) xz)))
noncomputable def xp146 : xP := (((4, 1), xc146), [], 0, 7, 1, 6)
noncomputable def xc147 : Lean.RArray xEn := .branch 0 (.branch 0 (.branch 0 (.branch 0 (.branch 0 (.branch 0 (.leaf (hloada 0, 0, 1, 0, 0, 0)) xz) (.branch 0 (.leaf (hloada 0, 16, 1, 0, 0, 0)) xz)) (.branch 0 (.branch 0 (.leaf (hpush 2 (Int.ofNat 1), 8, 1, 0, 0, 0)) xz) (.branch 0 (.leaf (hgoto, 24, 3, 38, 0, 0)) xz))) (.branch 0 (.branch 0 xz (.branch 0 (.leaf (hif .le, 20, 3, 27, 0, 0)) xz)) xz)) (.branch 0 (.branch 0 (.branch 0 (.branch 0 (.leaf (hget, 2, 3, 10, 13, 0)) xz) xz) xz) (.branch 0 (.branch 0 (.branch 0 xz (.leaf (hret 7, 38, 1, 0, 0, 0))) xz) xz))) (.branch 0 (.branch 0 (.branch 0 (.branch 0 (.branch 0 (.leaf (hloada 0, 1, 1, 0, 0, 0)) xz) (.branch 0 (.leaf (hget, 17, 3, 10, 0, 0)) xz)) (.branch 0 (.branch 0 (.leaf (hgoto, 9, 3, 13, 0, 0)) xz) xz)) (.branch 0 (.branch 0 (.branch 0 (.leaf (hif .ne, 5, 3, 12, 0, 0)) xz) xz) (.branch 0 (.branch 0 (.leaf (hputf, 13, 3, 10, 0, 0)) xz) xz))) (.branch 0 xz (.branch 0 (.branch 0 xz (.branch 0 (.leaf (hpush 11 (Int.ofNat 0), 23, 1, 0, 0, 0)) xz)) xz)))
noncomputable def xp147 : xP := (((6, 1), xc147), [], 0, 7, 0, 0)
noncomputable def xc148 : Lean.RArray xEn := .branch 0 (.branch 0 (.branch 0 (.leaf (hloada 0, 0, 1, 0, 0, 0)) (.leaf (hcallv, 4, 3, 149, 0, 2))) xz) (.branch 0 (.branch 0 (.leaf (hget, 1, 3, 7, 1, 5)) xz) (.branch 0 xz (.leaf (hret 1, 7, 1, 0, 0, 0))))
noncomputable def xp148 : xP := (((3, 1), xc148), [], 0, 3, 0, 0)
noncomputable def xc149 : Lean.RArray xEn := .branch 0 (.branch 0 (.branch 0 (.branch 0 (.branch 0 (.branch 0 (.branch 0 (.leaf (hloada 0, 0, 1, 0, 0, 0)) xz) xz) (.branch 0 (.branch 0 (.leaf (hicmp .ge, 16, 3, 40, 0, 0)) xz) (.branch 0 (.leaf (hpush 2 (Int.ofNat 0), 48, 1, 0, 0, 0)) xz))) (.branch 0 (.branch 0 (.branch 0 (.leaf (hstorea 1, 8, 1, 0, 0, 0)) xz) (.branch 0 (.leaf (hloada 0, 40, 1, 0, 0, 0)) xz)) (.branch 0 (.branch 0 (.leaf (hloada 4, 24, 2, 0, 0, 0)) xz) (.branch 0 (.leaf (hload 2 3, 56, 1, 0, 0, 0)) xz)))) (.branch 0 (.branch 0 (.branch 0 (.branch 0 (.leaf (hloada 0, 4, 1, 0, 0, 0)) xz) xz) (.branch 0 (.branch 0 (.leaf (hload 2 3, 20, 1, 0, 0, 0)) (.leaf (hpush 2 (Int.ofNat 1), 84, 1, 0, 0, 0))) (.branch 0 (.leaf (hicmp .ge, 52, 3, 84, 0, 0)) xz))) (.branch 0 (.branch 0 (.branch 0 (.leaf (hpush 2 (Int.ofNat 0), 12, 1, 0, 0, 0)) xz) (.branch 0 (.leaf (hstorea 1, 44, 1, 0, 0, 0)) xz)) (.branch 0 xz (.branch 0 (.leaf (hloada 4, 60, 2, 0, 0, 0)) xz))))) (.branch 0 (.branch 0 (.branch 0 (.branch 0 xz (.branch 0 (.leaf (hiinc 3 (Int.ofNat 1), 34, 3, 0, 0, 0)) xz)) (.branch 0 xz (.branch 0 (.leaf (hload 2 3, 50, 1, 0, 0, 0)) xz))) (.branch 0 (.branch 0 (.branch 0 (.leaf (halen, 10, 1, 0, 0, 0)) xz) xz) (.branch 0 (.branch 0 (.leaf (hcalls, 26, 3, 150, 0, 0)) xz) (.branch 0 (.leaf (hstorea 4, 58, 2, 0, 0, 0)) xz)))) (.branch 0 (.branch 0 xz (.branch 0 (.branch 0 (.leaf (hstorea 4, 22, 2, 0, 0, 0)) xz) xz)) (.branch 0 (.branch 0 (.branch 0 (.leaf (hload 2 3, 14, 1, 0, 0, 0)) (.leaf (hiinc 3 (Int.ofNat 1), 78, 3, 0, 0, 0))) (.branch 0 (.leaf (halen, 46, 1, 0, 0, 0)) xz)) (.branch 0 xz (.branch 0 (.leaf (hget, 62, 3, 5, 0, 0)) xz)))))) (.branch 0 (.branch 0 (.branch 0 (.branch 0 (.branch 0 (.branch 0 (.leaf (hcallv, 1, 3, 67, 0, 2)) (.leaf (hif .lt, 65, 3, 78, 0, 0))) xz) (.branch 0 (.branch 0 xz (.leaf (hgoto, 81, 3, 50, 0, 0))) (.branch 0 (.leaf (hstore 2 3, 49, 1, 0, 0, 0)) xz))) (.branch 0 (.branch 0 (.branch 0 (.leaf (hloada 1, 9, 1, 0, 0, 0)) xz) (.branch 0 (.leaf (hget, 41, 3, 2, 1, 5)) xz)) (.branch 0 xz (.branch 0 (.leaf (hald 5 10, 57, 1, 0, 0, 0)) xz)))) (.branch 0 (.branch 0 (.branch 0 (.branch 0 (.leaf (hget, 5, 3, 2, 0, 5)) xz) (.branch 0 (.leaf (hgoto, 37, 3, 14, 0, 0)) xz)) (.branch 0 (.branch 0 (.leaf (hald 5 10, 21, 1, 0, 0, 0)) (.leaf (hret 1, 85, 1, 0, 0, 0))) xz)) (.branch 0 (.branch 0 (.branch 0 (.leaf (hstore 2 3, 13, 1, 0, 0, 0)) xz) (.branch 0 (.leaf (hloada 1, 45, 1, 0, 0, 0)) xz)) (.branch 0 (.branch 0 (.leaf (hif .ne, 29, 3, 34, 0, 0)) xz) xz)))) (.branch 0 (.branch 0 (.branch 0 xz (.branch 0 (.branch 0 (.leaf (hloada 1, 19, 1, 0, 0, 0)) xz) (.branch 0 (.leaf (hload 2 2, 51, 1, 0, 0, 0)) xz))) (.branch 0 (.branch 0 (.branch 0 (.leaf (hstore 2 2, 11, 1, 0, 0, 0)) xz) xz) xz)) (.branch 0 (.branch 0 xz (.branch 0 xz (.branch 0 (.leaf (hloada 1, 55, 1, 0, 0, 0)) xz))) (.branch 0 (.branch 0 (.branch 0 (.leaf (hload 2 2, 15, 1, 0, 0, 0)) xz) (.branch 0 (.leaf (hstore 2 2, 47, 1, 0, 0, 0)) xz)) xz))))
noncomputable def xp149 : xP := (((7, 5), xc149), [], 0, 3, 0, 0)
noncomputable def xc150 : Lean.RArray xEn := .branch 0 (.branch 0 (.branch 0 (.branch 0 (.branch 0 (.branch 0 (.leaf (hloada 0, 0, 1, 0, 0, 0)) (.leaf (hpush 2 (Int.ofNat 1), 32, 1, 0, 0, 0))) xz) xz) (.branch 0 (.branch 0 (.branch 0 (.leaf (hpush 2 (Int.ofNat 116), 4, 2, 0, 0, 0)) xz) xz) xz)) (.branch 0 xz (.branch 0 (.branch 0 (.branch 0 (.leaf (hicmp .ne, 6, 3, 32, 0, 0)) xz) xz) xz))) (.branch 0 (.branch 0 (.branch 0 (.branch 0 (.branch 0 (.leaf (hget, 1, 3, 6, 0, 1)) (.leaf (hgoto, 33, 3, 37, 0, 0))) xz) xz) (.branch 0 (.branch 0 (.branch 0 xz (.leaf (hret 1, 37, 1, 0, 0, 0))) xz) xz)) xz)
noncomputable def xp150 : xP := (((6, 1), xc150), [], 1, 3, 0, 0)
noncomputable def xc151 : Lean.RArray xEn := .branch 0 (.branch 0 (.branch 0 (.leaf (hloada 0, 0, 1, 0, 0, 0)) xz) (.branch 0 (.leaf (hputf, 2, 3, 10, 0, 0)) (.leaf (hret 1, 6, 1, 0, 0, 0)))) (.branch 0 (.branch 0 (.leaf (hpush 2 (Int.ofNat 0), 1, 1, 0, 0, 0)) (.leaf (hpush 2 (Int.ofNat 1), 5, 1, 0, 0, 0))) xz)
noncomputable def xp151 : xP := (((3, 1), xc151), [], 0, 3, 0, 0)
noncomputable def xc152 : Lean.RArray xEn := .branch 0 (.branch 0 (.branch 0 (.branch 0 (.branch 0 (.leaf (hloada 5, 0, 2, 0, 0, 0)) xz) xz) (.branch 0 (.branch 0 (.leaf (hload 2 1, 4, 1, 0, 0, 0)) (.leaf (hret 1, 20, 1, 0, 0, 0))) (.branch 0 (.leaf (hconv (fun a => cond (Nat.beq a 2) 3 7) (fun a z => cond (Nat.beq a 2) (xin32 z) (Nat.beq a 5)), 12, 1, 0, 0, 0)) xz))) (.branch 0 (.branch 0 (.branch 0 (.leaf (hpush 2 (Int.ofNat 0), 2, 1, 0, 0, 0)) xz) xz) (.branch 0 (.branch 0 (.leaf (hload 2 3, 6, 1, 0, 0, 0)) (.leaf (hret 1, 22, 1, 0, 0, 0))) (.branch 0 (.leaf (hgoto, 14, 3, 21, 0, 0)) xz)))) (.branch 0 (.branch 0 (.branch 0 xz (.branch 0 (.leaf (hcallv, 9, 3, 153, 0, 7)) xz)) (.branch 0 (.branch 0 (.leaf (hload 2 2, 5, 1, 0, 0, 0)) (.leaf (hpush 2 (Int.ofNat 0), 21, 1, 0, 0, 0))) (.branch 0 (.leaf (hast 3 3, 13, 1, 0, 0, 0)) xz))) (.branch 0 (.branch 0 (.branch 0 (.leaf (hloada 0, 3, 1, 0, 0, 0)) (.leaf (hpush 2 (Int.ofNat 1), 19, 1, 0, 0, 0))) xz) (.branch 0 (.branch 0 (.leaf (hload 2 4, 7, 2, 0, 0, 0)) xz) xz)))
noncomputable def xp152 : xP := (((5, 7), xc152), [(0, 14, 4, 6, 19)], 6, 1, 1, 6)
noncomputable def xc153 : Lean.RArray xEn := .branch 0 (.branch 0 (.branch 0 (.branch 0 (.branch 0 (.branch 0 (.branch 0 (.leaf (hload 2 1, 0, 1, 0, 0, 0)) (.leaf (hpop, 64, 1, 0, 0, 0))) (.branch 0 (.leaf (hload 2 3, 32, 1, 0, 0, 0)) xz)) (.branch 0 (.branch 0 (.leaf (hget, 16, 3, 7, 1, 5)) xz) (.branch 0 (.leaf (hload 2 4, 48, 2, 0, 0, 0)) xz))) (.branch 0 (.branch 0 (.branch 0 (.leaf (hcalls, 8, 3, 57, 0, 0)) xz) (.branch 0 (.leaf (hif .ne, 40, 3, 65, 0, 0)) xz)) (.branch 0 (.branch 0 (.leaf (hcallv, 24, 3, 64, 0, 6)) xz) xz))) (.branch 0 (.branch 0 (.branch 0 xz (.branch 0 (.leaf (hstore 2 5, 36, 2, 0, 0, 0)) xz)) (.branch 0 (.branch 0 (.leaf (hload 2 2, 20, 1, 0, 0, 0)) xz) xz)) (.branch 0 (.branch 0 (.branch 0 (.leaf (hget, 12, 3, 7, 2, 5)) xz) (.branch 0 (.leaf (hget, 44, 3, 7, 1, 5)) xz)) (.branch 0 (.branch 0 (.leaf (hget, 28, 3, 7, 2, 5)) xz) xz)))) (.branch 0 (.branch 0 (.branch 0 (.branch 0 (.branch 0 (.leaf (hcalls, 2, 3, 57, 0, 0)) xz) xz) (.branch 0 xz (.branch 0 (.leaf (hloada 0, 50, 1, 0, 0, 0)) xz))) (.branch 0 xz (.branch 0 xz (.branch 0 (.leaf (hget, 58, 3, 7, 1, 5)) xz)))) (.branch 0 (.branch 0 (.branch 0 (.branch 0 (.leaf (hload 2 4, 6, 2, 0, 0, 0)) xz) (.branch 0 (.leaf (hload 2 5, 38, 2, 0, 0, 0)) xz)) (.branch 0 xz (.branch 0 (.leaf (hcallv, 54, 3, 62, 0, 2)) xz))) xz))) (.branch 0 (.branch 0 (.branch 0 (.branch 0 (.branch 0 (.branch 0 (.leaf (hload 2 2, 1, 1, 0, 0, 0)) (.leaf (hload 2 5, 65, 2, 0, 0, 0))) (.branch 0 (.leaf (hcalls, 33, 3, 155, 0, 0)) xz)) xz) (.branch 0 xz (.branch 0 xz (.branch 0 (.leaf (hloada 0, 57, 1, 0, 0, 0)) xz)))) (.branch 0 (.branch 0 (.branch 0 (.branch 0 (.leaf (hload 2 3, 5, 1, 0, 0, 0)) xz) xz) (.branch 0 (.branch 0 (.leaf (hcallv, 21, 3, 63, 0, 2)) xz) xz)) (.branch 0 xz (.branch 0 xz (.branch 0 (.leaf (hcallv, 61, 3, 66, 0, 2)) xz))))) (.branch 0 (.branch 0 (.branch 0 (.branch 0 (.branch 0 xz (.leaf (hret 1, 67, 1, 0, 0, 0))) xz) (.branch 0 (.branch 0 (.leaf (hload 2 1, 19, 1, 0, 0, 0)) xz) (.branch 0 (.leaf (hget, 51, 3, 7, 2, 5)) xz))) (.branch 0 (.branch 0 (.branch 0 (.leaf (hloada 0, 11, 1, 0, 0, 0)) xz) (.branch 0 (.leaf (hloada 0, 43, 1, 0, 0, 0)) xz)) (.branch 0 (.branch 0 (.leaf (hloada 0, 27, 1, 0, 0, 0)) xz) xz))) (.branch 0 xz (.branch 0 (.branch 0 (.branch 0 (.leaf (hloada 0, 15, 1, 0, 0, 0)) xz) (.branch 0 (.leaf (hload 2 3, 47, 1, 0, 0, 0)) xz)) (.branch 0 (.branch 0 (.leaf (hload 2 1, 31, 1, 0, 0, 0)) xz) xz)))))
noncomputable def xp153 : xP := (((7, 6), xc153), [], 4, 1, 1, 6)
noncomputable def xc154 : Lean.RArray xEn := .branch 0 (.branch 0 (.branch 0 (.branch 0 (.branch 0 (.branch 0 (.branch 0 (.leaf (hloada 0, 0, 1, 0, 0, 0)) xz) (.branch 0 (.leaf (hcallv, 32, 3, 90, 0, 10)) xz)) (.branch 0 (.branch 0 (.leaf (hcalls, 16, 3, 59, 0, 0)) xz) xz)) (.branch 0 (.branch 0 xz (.branch 0 (.leaf (hstorea 5, 40, 2, 0, 0, 0)) xz)) (.branch 0 (.branch 0 (.leaf (hcallv, 24, 3, 19, 0, 10)) xz) (.branch 0 (.leaf (hloada 5, 56, 2, 0, 0, 0)) xz)))) (.branch 0 (.branch 0 (.branch 0 (.branch 0 xz (.leaf (hret 1, 68, 1, 0, 0, 0))) (.branch 0 (.leaf (hload 2 3, 36, 1, 0, 0, 0)) xz)) (.branch 0 xz (.branch 0 (.leaf (hloada 0, 52, 1, 0, 0, 0)) xz))) (.branch 0 (.branch 0 xz (.branch 0 (.leaf (hnull false, 44, 3, 52, 0, 0)) xz)) (.branch 0 (.branch 0 (.leaf (hloada 0, 28, 1, 0, 0, 0)) xz) xz)))) (.branch 0 (.branch 0 (.branch 0 (.branch 0 (.branch 0 (.leaf (hputf, 2, 3, 10, 0, 0)) xz) xz) xz) (.branch 0 (.branch 0 (.branch 0 (.leaf (hif .eq, 10, 3, 22, 0, 0)) xz) (.branch 0 (.leaf (hloada 5, 42, 2, 0, 0, 0)) xz)) (.branch 0 xz (.branch 0 (.leaf (hcallv, 58, 3, 73, 0, 10)) xz)))) (.branch 0 (.branch 0 (.branch 0 (.branch 0 (.leaf (hload 2 2, 6, 1, 0, 0, 0)) xz) xz) (.branch 0 (.branch 0 (.leaf (hloada 0, 22, 1, 0, 0, 0)) xz) (.branch 0 (.leaf (hload 2 4, 54, 2, 0, 0, 0)) xz))) (.branch 0 (.branch 0 (.branch 0 (.leaf (hload 2 4, 14, 2, 0, 0, 0)) xz) xz) (.branch 0 (.branch 0 (.leaf (hload 2 1, 30, 1, 0, 0, 0)) xz) (.branch 0 (.leaf (hcallv, 62, 3, 74, 0, 10)) xz)))))) (.branch 0 (.branch 0 (.branch 0 (.branch 0 (.branch 0 (.branch 0 (.leaf (hpush 2 (Int.ofNat 0), 1, 1, 0, 0, 0)) (.leaf (hstore 2 6, 65, 2, 0, 0, 0))) xz) xz) xz) (.branch 0 (.branch 0 (.branch 0 (.branch 0 (.leaf (hload 2 1, 5, 1, 0, 0, 0)) xz) (.branch 0 (.leaf (hcallv, 37, 3, 156, 0, 10)) xz)) (.branch 0 xz (.branch 0 (.leaf (hload 2 3, 53, 1, 0, 0, 0)) xz))) (.branch 0 (.branch 0 (.branch 0 (.leaf (hload 2 3, 13, 1, 0, 0, 0)) xz) xz) (.branch 0 (.branch 0 (.leaf (hloada 0, 29, 1, 0, 0, 0)) xz) (.branch 0 (.leaf (hloada 0, 61, 1, 0, 0, 0)) xz))))) (.branch 0 (.branch 0 (.branch 0 (.branch 0 (.branch 0 xz (.leaf (hpush 2 (Int.ofNat 0), 67, 1, 0, 0, 0))) (.branch 0 (.leaf (hload 2 1, 35, 1, 0, 0, 0)) xz)) (.branch 0 (.branch 0 (.leaf (hif .ne, 19, 3, 28, 0, 0)) xz) xz)) (.branch 0 xz (.branch 0 (.branch 0 (.leaf (hret 1, 27, 1, 0, 0, 0)) xz) xz))) (.branch 0 (.branch 0 (.branch 0 (.branch 0 (.leaf (hcalls, 7, 3, 59, 0, 0)) xz) xz) (.branch 0 (.branch 0 (.leaf (hpush 2 (Int.ofNat 1), 23, 1, 0, 0, 0)) xz) xz)) (.branch 0 xz (.branch 0 (.branch 0 (.leaf (hload 2 2, 31, 1, 0, 0, 0)) xz) xz)))))
noncomputable def xp154 : xP := (((7, 7), xc154), [], 4, 1, 1, 4)
noncomputable def xc155 : Lean.RArray xEn := .branch 0 (.branch 0 (.branch 0 (.branch 0 (.branch 0 (.branch 0 (.leaf (hload 2 1, 0, 1, 0, 0, 0)) xz) (.branch 0 (.leaf (hloada 0, 16, 1, 0, 0, 0)) xz)) (.branch 0 (.branch 0 xz (.leaf (hpush 2 (Int.ofNat 101), 40, 2, 0, 0, 0))) xz)) (.branch 0 (.branch 0 (.branch 0 xz (.leaf (hpush 2 (Int.ofNat 2), 36, 1, 0, 0, 0))) (.branch 0 (.leaf (hpush 2 (Int.ofNat 107), 20, 2, 0, 0, 0)) xz)) (.branch 0 xz (.branch 0 (.leaf (hcallv, 28, 3, 111, 0, 6)) xz)))) (.branch 0 (.branch 0 (.branch 0 (.branch 0 (.leaf (hicmp .eq, 2, 3, 14, 0, 0)) (.leaf (hloada 0, 34, 1, 0, 0, 0))) (.branch 0 xz (.leaf (hpush 2 (Int.ofNat 0), 50, 1, 0, 0, 0)))) (.branch 0 (.branch 0 xz (.leaf (hgoto, 42, 3, 47, 0, 0))) xz)) (.branch 0 (.branch 0 (.branch 0 (.leaf (hget, 6, 3, 6, 0, 1)) xz) (.branch 0 (.leaf (hicmp .ne, 22, 3, 27, 0, 0)) xz)) (.branch 0 (.branch 0 (.leaf (hpush 2 (Int.ofNat 0), 14, 1, 0, 0, 0)) xz) xz)))) (.branch 0 (.branch 0 (.branch 0 (.branch 0 (.branch 0 (.leaf (hload 2 2, 1, 1, 0, 0, 0)) xz) (.branch 0 (.leaf (hget, 17, 3, 6, 0, 1)) xz)) (.branch 0 (.branch 0 (.leaf (hpush 2 (Int.ofNat 116), 9, 2, 0, 0, 0)) xz) xz)) (.branch 0 (.branch 0 (.branch 0 (.leaf (hloada 0, 5, 1, 0, 0, 0)) (.leaf (hicmp .ne, 37, 3, 45, 0, 0))) xz) (.branch 0 (.branch 0 xz (.leaf (hpush 2 (Int.ofNat 110), 45, 2, 0, 0, 0))) xz))) (.branch 0 (.branch 0 (.branch 0 (.branch 0 xz (.leaf (hload 2 2, 35, 1, 0, 0, 0))) (.branch 0 xz (.leaf (hret 1, 51, 1, 0, 0, 0)))) (.branch 0 (.branch 0 (.leaf (hicmp .ne, 11, 3, 16, 0, 0)) xz) (.branch 0 (.leaf (hloada 0, 27, 1, 0, 0, 0)) xz))) (.branch 0 xz (.branch 0 (.branch 0 (.leaf (hret 1, 15, 1, 0, 0, 0)) (.leaf (hcallv, 47, 3, 5, 0, 6))) (.branch 0 (.leaf (hif .eq, 31, 3, 52, 0, 0)) xz)))))
noncomputable def xp155 : xP := (((6, 3), xc155), [], 3, 1, 0, 0)
noncomputable def xc156 : Lean.RArray xEn := .branch 0 (.branch 0 (.branch 0 (.branch 0 (.branch 0 (.branch 0 (.leaf (hloada 0, 0, 1, 0, 0, 0)) (.leaf (hload 2 3, 32, 1, 0, 0, 0))) (.branch 0 (.leaf (hicmp .ne, 16, 3, 21, 0, 0)) xz)) xz) (.branch 0 (.branch 0 xz (.branch 0 (.leaf (hret 6, 20, 1, 0, 0, 0)) xz)) (.branch 0 (.branch 0 xz (.leaf (hpush 4 (Int.ofNat 0), 44, 1, 0, 0, 0))) (.branch 0 (.leaf (hnew, 28, 3, 9, 4, 0)) xz)))) (.branch 0 (.branch 0 (.branch 0 (.branch 0 (.leaf (hputf, 2, 3, 10, 30, 0)) (.leaf (hicmp .ne, 34, 3, 42, 0, 0))) (.branch 0 xz (.leaf (hret 6, 50, 1, 0, 0, 0)))) (.branch 0 (.branch 0 (.leaf (hloada 1, 10, 1, 0, 0, 0)) (.leaf (hpush 2 (Int.ofNat 110), 42, 2, 0, 0, 0))) xz)) (.branch 0 (.branch 0 (.branch 0 (.leaf (hload 2 3, 6, 1, 0, 0, 0)) xz) (.branch 0 (.leaf (hcallv, 22, 3, 113, 0, 9)) xz)) (.branch 0 (.branch 0 (.leaf (hpush 2 (Int.ofNat 116), 14, 2, 0, 0, 0)) (.leaf (hpush 2 (Int.ofNat 0), 46, 1, 0, 0, 0))) xz)))) (.branch 0 (.branch 0 (.branch 0 (.branch 0 (.branch 0 (.leaf (hpush 2 (Int.ofNat 0), 1, 1, 0, 0, 0)) (.leaf (hpush 2 (Int.ofNat 2), 33, 1, 0, 0, 0))) xz) (.branch 0 xz (.branch 0 (.leaf (hif .eq, 25, 3, 51, 0, 0)) xz))) (.branch 0 (.branch 0 (.branch 0 (.leaf (hload 2 2, 5, 1, 0, 0, 0)) (.leaf (hpush 2 (Int.ofNat 101), 37, 2, 0, 0, 0))) (.branch 0 (.leaf (hloada 1, 21, 1, 0, 0, 0)) xz)) (.branch 0 (.branch 0 xz (.leaf (hpush 3 (Int.ofNat 0), 45, 1, 0, 0, 0))) xz))) (.branch 0 (.branch 0 (.branch 0 xz (.branch 0 (.leaf (hloada 1, 19, 1, 0, 0, 0)) xz)) (.branch 0 (.branch 0 (.leaf (hget, 11, 3, 9, 0, 1)) xz) xz)) (.branch 0 (.branch 0 (.branch 0 (.leaf (hicmp .eq, 7, 3, 19, 0, 0)) (.leaf (hgoto, 39, 3, 44, 0, 0))) xz) (.branch 0 (.branch 0 xz (.leaf (hspec, 47, 3, 12, 1, 0))) (.branch 0 (.leaf (hdup, 31, 1, 0, 0, 0)) xz)))))
noncomputable def xp156 : xP := (((6, 6), xc156), [], 3, 6, 1, 4)
noncomputable def xc157 : Lean.RArray xEn := .branch 0 (.branch 0 (.branch 0 (.branch 0 (.branch 0 (.branch 0 (.branch 0 (.branch 0 (.branch 0 (.branch 0 (.branch 0 (.leaf (hnew, 0, 3, 7, 3, 0)) (.leaf (hpush 2 (Int.ofNat 3), 1024, 1, 0, 0, 0))) (.branch 0 xz (.leaf (hcallv, 1536, 3, 20, 0, 10)))) (.branch 0 (.branch 0 (.leaf (hald 0 0, 256, 1, 0, 0, 0)) (.leaf (hload 2 5, 1280, 2, 0, 0, 0))) (.branch 0 xz (.leaf (hcallv, 1792, 3, 144, 0, 10))))) (.branch 0 xz (.branch 0 (.branch 0 (.leaf (hloada 0, 384, 1, 0, 0, 0)) xz) (.branch 0 (.leaf (hald 3 3, 896, 1, 0, 0, 0)) xz)))) (.branch 0 (.branch 0 (.branch 0 (.branch 0 xz (.leaf (hloada 0, 1088, 1, 0, 0, 0))) xz) xz) (.branch 0 (.branch 0 (.branch 0 xz (.leaf (hald 0 0, 1216, 1, 0, 0, 0))) (.branch 0 (.leaf (hicmp .eq, 704, 3, 709, 0, 0)) xz)) (.branch 0 (.branch 0 xz (.leaf (hif .ne, 1472, 3, 1494, 0, 0))) xz)))) (.branch 0 (.branch 0 (.branch 0 (.branch 0 (.branch 0 (.leaf (hpush 2 (Int.ofNat 6), 32, 2, 0, 0, 0)) (.leaf (hald 3 3, 1056, 1, 0, 0, 0))) (.branch 0 (.leaf (hstore 2 7, 544, 2, 0, 0, 0)) (.leaf (hload 2 5, 1568, 2, 0, 0, 0)))) (.branch 0 (.branch 0 (.leaf (hbin (fun a b => a + b) (fun _ _ => true), 288, 1, 0, 0, 0)) (.leaf (hlcmp, 1312, 1, 0, 0, 0))) xz)) (.branch 0 (.branch 0 (.branch 0 xz (.leaf (hbin (fun a b => a + b) (fun _ _ => true), 1184, 1, 0, 0, 0))) (.branch 0 xz (.leaf (hstore 2 6, 1696, 2, 0, 0, 0)))) (.branch 0 (.branch 0 (.leaf (hcallv, 416, 3, 20, 0, 10)) (.leaf (hbin (fun a b => a + b) (fun _ _ => true), 1440, 1, 0, 0, 0))) (.branch 0 (.leaf (hloada 2, 928, 1, 0, 0, 0)) xz)))) (.branch 0 (.branch 0 (.branch 0 (.branch 0 xz (.leaf (hload 2 5, 1120, 2, 0, 0, 0))) xz) (.branch 0 (.branch 0 (.leaf (hload 2 5, 352, 2, 0, 0, 0)) xz) (.branch 0 (.leaf (hpush 2 (Int.ofNat 2), 864, 1, 0, 0, 0)) xz))) (.branch 0 (.branch 0 (.branch 0 (.leaf (hload 2 6, 224, 2, 0, 0, 0)) xz) (.branch 0 (.leaf (hloada 3, 736, 1, 0, 0, 0)) xz)) (.branch 0 (.branch 0 (.leaf (hload 2 5, 480, 2, 0, 0, 0)) xz) xz))))) (.branch 0 (.branch 0 (.branch 0 (.branch 0 (.branch 0 (.branch 0 (.leaf (hpush 2 (Int.ofNat 1), 16, 1, 0, 0, 0)) xz) (.branch 0 xz (.leaf (hpush 2 (Int.ofNat 0), 1552, 1, 0, 0, 0)))) (.branch 0 (.branch 0 (.leaf (hload 2 5, 272, 2, 0, 0, 0)) (.leaf (hicmp .eq, 1296, 3, 1301, 0, 0))) xz)) (.branch 0 (.branch 0 (.branch 0 xz (.leaf (hloada 0, 1168, 1, 0, 0, 0))) (.branch 0 (.leaf (hcallv, 656, 3, 20, 0, 10)) xz)) (.branch 0 (.branch 0 (.leaf (hbin (fun a b => a + b) (fun _ _ => true), 400, 1, 0, 0, 0)) (.leaf (hload 2 5, 1424, 2, 0, 0, 0))) xz))) (.branch 0 (.branch 0 (.branch 0 (.branch 0 xz (.leaf (hpush 2 (Int.ofNat 1), 1104, 1, 0, 0, 0))) (.branch 0 (.leaf (hcallv, 592, 3, 20, 0, 10)) xz)) (.branch 0 (.branch 0 (.leaf (hpush 2 (Int.ofNat 2), 336, 1, 0, 0, 0)) (.leaf (hcallv, 1360, 3, 20, 0, 10))) (.branch 0 (.leaf (hloada 3, 848, 1, 0, 0, 0)) (.leaf (hcallv, 1872, 3, 151, 0, 10))))) (.branch 0 (.branch 0 (.branch 0 (.leaf (hcallv, 208, 3, 16, 0, 10)) xz) xz) (.branch 0 (.branch 0 (.leaf (hbin (fun a b => a + b) (fun _ _ => true), 464, 1, 0, 0, 0)) (.leaf (hlcmp, 1488, 1, 0, 0, 0))) xz)))) (.branch 0 (.branch 0 (.branch 0 (.branch 0 xz (.branch 0 xz (.leaf (hbin (fun a b => a + b) (fun _ _ => true), 1584, 1, 0, 0, 0)))) (.branch 0 (.branch 0 xz (.leaf (hloada 0, 1328, 1, 0, 0, 0))) xz)) (.branch 0 (.branch 0 (.branch 0 (.leaf (hloada 1, 176, 1, 0, 0, 0)) (.leaf (hload 2 5, 1200, 2, 0, 0, 0))) xz) (.branch 0 xz (.branch 0 (.leaf (hstore 2 7, 944, 2, 0, 0, 0)) xz)))) (.branch 0 (.branch 0 (.branch 0 (.branch 0 xz (.leaf (hicmp .eq, 1136, 3, 1141, 0, 0))) (.branch 0 xz (.leaf (hald 0 0, 1648, 1, 0, 0, 0)))) xz) (.branch 0 (.branch 0 (.branch 0 xz (.leaf (hbin (fun a b => a + b) (fun _ _ => true), 1264, 1, 0, 0, 0))) (.branch 0 (.leaf (hstore 2 7, 752, 2, 0, 0, 0)) xz)) (.branch 0 (.branch 0 (.leaf (hald 0 0, 496, 1, 0, 0, 0)) xz) (.branch 0 (.leaf (hloada 2, 1008, 1, 0, 0, 0)) xz))))))) (.branch 0 (.branch 0 (.branch 0 (.branch 0 (.branch 0 (.branch 0 (.branch 0 (.leaf (hnew, 8, 3, 10, 31, 0)) (.leaf (hald 0 0, 1032, 1, 0, 0, 0))) xz) (.branch 0 (.branch 0 (.leaf (hloada 3, 264, 1, 0, 0, 0)) (.leaf (hstore 2 7, 1288, 2, 0, 0, 0))) xz)) (.branch 0 xz (.branch 0 (.branch 0 xz (.leaf (hald 0 0, 1416, 1, 0, 0, 0))) xz))) (.branch 0 (.branch 0 xz (.branch 0 (.branch 0 (.leaf (hload 2 5, 328, 2, 0, 0, 0)) (.leaf (hbin (fun a b => a + b) (fun _ _ => true), 1352, 1, 0, 0, 0))) (.branch 0 (.leaf (hbin (fun a b => a + b) (fun _ _ => true), 840, 1, 0, 0, 0)) (.leaf (hgoto, 1864, 3, 1880, 0, 0))))) (.branch 0 (.branch 0 (.branch 0 (.leaf (hbin (fun a b => a + b) (fun _ _ => true), 200, 1, 0, 0, 0)) xz) xz) (.branch 0 (.branch 0 xz (.leaf (hif .eq, 1480, 3, 1487, 0, 0))) (.branch 0 (.leaf (hlcmp, 968, 1, 0, 0, 0)) xz))))) (.branch 0 (.branch 0 (.branch 0 (.branch 0 xz (.branch 0 (.leaf (hicmp .eq, 552, 3, 557, 0, 0)) xz)) (.branch 0 (.branch 0 (.leaf (hcallv, 296, 3, 20, 0, 10)) xz) xz)) (.branch 0 (.branch 0 (.branch 0 xz (.leaf (hloada 2, 1192, 1, 0, 0, 0))) (.branch 0 xz (.leaf (hald 0 0, 1704, 1, 0, 0, 0)))) (.branch 0 (.branch 0 xz (.leaf (hloada 0, 1448, 1, 0, 0, 0))) (.branch 0 (.leaf (hload 2 5, 936, 2, 0, 0, 0)) xz)))) (.branch 0 (.branch 0 (.branch 0 (.branch 0 xz (.leaf (hstore 2 7, 1128, 2, 0, 0, 0))) (.branch 0 xz (.leaf (hstore 2 6, 1640, 2, 0, 0, 0)))) (.branch 0 (.branch 0 (.leaf (hpush 2 (Int.ofNat 1), 360, 1, 0, 0, 0)) xz) (.branch 0 (.leaf (hald 0 0, 872, 1, 0, 0, 0)) xz))) (.branch 0 (.branch 0 (.branch 0 (.leaf (hload 2 7, 232, 2, 0, 0, 0)) xz) (.branch 0 (.leaf (hload 2 5, 744, 2, 0, 0, 0)) xz)) (.branch 0 (.branch 0 (.leaf (hpush 2 (Int.ofNat 2), 488, 1, 0, 0, 0)) (.leaf (hload 2 5, 1512, 2, 0, 0, 0))) (.branch 0 (.leaf (hbin (fun a b => a + b) (fun _ _ => true), 1000, 1, 0, 0, 0)) xz)))))) (.branch 0 (.branch 0 (.branch 0 (.branch 0 xz (.branch 0 (.branch 0 (.leaf (hpush 2 (Int.ofNat 2), 280, 1, 0, 0, 0)) xz) (.branch 0 (.leaf (hloada 2, 792, 1, 0, 0, 0)) (.leaf (hcallv, 1816, 3, 20, 0, 10))))) (.branch 0 xz (.branch 0 xz (.branch 0 (.leaf (hbin (fun a b => a + b) (fun _ _ => true), 920, 1, 0, 0, 0)) xz)))) (.branch 0 (.branch 0 (.branch 0 (.branch 0 xz (.leaf (hald 0 0, 1112, 1, 0, 0, 0))) xz) (.branch 0 (.branch 0 (.leaf (hald 0 0, 344, 1, 0, 0, 0)) xz) (.branch 0 (.leaf (hload 2 5, 856, 2, 0, 0, 0)) (.leaf (hiinc 5 (Int.ofNat 6), 1880, 3, 0, 0, 0))))) (.branch 0 (.branch 0 xz (.branch 0 xz (.leaf (hloada 2, 1752, 1, 0, 0, 0)))) (.branch 0 (.branch 0 (.leaf (hloada 3, 472, 1, 0, 0, 0)) xz) (.branch 0 (.leaf (hloada 0, 984, 1, 0, 0, 0)) xz))))) (.branch 0 (.branch 0 (.branch 0 (.branch 0 (.branch 0 xz (.leaf (hbin (fun a b => a + b) (fun _ _ => true), 1080, 1, 0, 0, 0))) (.branch 0 xz (.leaf (hcallv, 1592, 3, 20, 0, 10)))) (.branch 0 (.branch 0 xz (.leaf (hcalls, 1336, 3, 102, 0, 0))) xz)) (.branch 0 (.branch 0 (.branch 0 (.leaf (hload 2 5, 184, 2, 0, 0, 0)) (.leaf (hpush 2 (Int.ofNat 3), 1208, 1, 0, 0, 0))) (.branch 0 (.leaf (hstore 2 7, 696, 2, 0, 0, 0)) xz)) (.branch 0 xz (.branch 0 (.leaf (hicmp .eq, 952, 3, 957, 0, 0)) xz)))) (.branch 0 (.branch 0 xz (.branch 0 (.branch 0 (.leaf (hbin (fun a b => a + b) (fun _ _ => true), 376, 1, 0, 0, 0)) xz) xz)) (.branch 0 (.branch 0 (.branch 0 (.leaf (hpush 2 (Int.ofNat 1), 248, 1, 0, 0, 0)) (.leaf (hloada 2, 1272, 1, 0, 0, 0))) (.branch 0 (.leaf (hicmp .eq, 760, 3, 765, 0, 0)) xz)) (.branch 0 (.branch 0 xz (.leaf (hbin (fun a b => a + b) (fun _ _ => true), 1528, 1, 0, 0, 0))) (.branch 0 (.leaf (hload 2 5, 1016, 2, 0, 0, 0)) xz)))))))) (.branch 0 (.branch 0 (.branch 0 (.branch 0 (.branch 0 (.branch 0 (.branch 0 (.branch 0 (.leaf (hspec, 4, 3, 0, 1, 0)) (.leaf (hload 2 5, 1028, 2, 0, 0, 0))) xz) (.branch 0 (.branch 0 xz (.leaf (hald 0 0, 1284, 1, 0, 0, 0))) (.branch 0 xz (.leaf (hif .eq, 1796, 3, 1880, 0, 0))))) (.branch 0 (.branch 0 xz (.branch 0 (.leaf (hcalls, 644, 3, 42, 0, 0)) xz)) (.branch 0 (.branch 0 (.leaf (hbin (fun a b => a + b) (fun _ _ => true), 388, 1, 0, 0, 0)) (.leaf (hload 2 5, 1412, 2, 0, 0, 0))) (.branch 0 (.leaf (hlcmp, 900, 1, 0, 0, 0)) xz)))) (.branch 0 (.branch 0 (.branch 0 (.branch 0 xz (.leaf (hbin (fun a b => a + b) (fun _ _ => true), 1092, 1, 0, 0, 0))) (.branch 0 (.leaf (hcalls, 580, 3, 39, 0, 0)) (.leaf (hif .ne, 1604, 3, 1626, 0, 0)))) (.branch 0 (.branch 0 xz (.leaf (hloada 0, 1348, 1, 0, 0, 0))) (.branch 0 (.leaf (hloada 0, 836, 1, 0, 0, 0)) xz))) (.branch 0 (.branch 0 (.branch 0 (.leaf (hloada 0, 196, 1, 0, 0, 0)) (.leaf (hstore 2 7, 1220, 2, 0, 0, 0))) xz) (.branch 0 (.branch 0 xz (.leaf (hpush 2 (Int.ofNat 0), 1476, 1, 0, 0, 0))) (.branch 0 (.leaf (hald 3 3, 964, 1, 0, 0, 0)) xz))))) (.branch 0 (.branch 0 (.branch 0 (.branch 0 (.branch 0 xz (.leaf (hlcmp, 1060, 1, 0, 0, 0))) (.branch 0 xz (.leaf (hald 0 0, 1572, 1, 0, 0, 0)))) (.branch 0 xz (.branch 0 (.leaf (hicmp .eq, 804, 3, 809, 0, 0)) (.leaf (hif .ne, 1828, 3, 1864, 0, 0))))) (.branch 0 (.branch 0 xz (.branch 0 xz (.leaf (hload 2 5, 1700, 2, 0, 0, 0)))) (.branch 0 xz (.branch 0 (.leaf (hpush 2 (Int.ofNat 1), 932, 1, 0, 0, 0)) xz)))) (.branch 0 (.branch 0 (.branch 0 (.branch 0 xz (.leaf (hald 0 0, 1124, 1, 0, 0, 0))) (.branch 0 xz (.leaf (hloada 3, 1636, 1, 0, 0, 0)))) (.branch 0 (.branch 0 (.leaf (hald 0 0, 356, 1, 0, 0, 0)) xz) (.branch 0 (.leaf (hload 2 5, 868, 2, 0, 0, 0)) xz))) (.branch 0 (.branch 0 xz (.branch 0 (.leaf (hstore 2 6, 740, 2, 0, 0, 0)) xz)) (.branch 0 (.branch 0 (.leaf (hald 0 0, 484, 1, 0, 0, 0)) xz) (.branch 0 (.leaf (hloada 0, 996, 1, 0, 0, 0)) xz)))))) (.branch 0 (.branch 0 (.branch 0 (.branch 0 (.branch 0 (.branch 0 (.leaf (hpush 2 (Int.ofNat 1), 20, 1, 0, 0, 0)) (.leaf (hicmp .eq, 1044, 3, 1049, 0, 0))) (.branch 0 xz (.leaf (hconv (fun a => cond (Nat.beq a 2) 3 7) (fun a z => cond (Nat.beq a 2) (xin32 z) (Nat.beq a 5)), 1556, 1, 0, 0, 0)))) (.branch 0 (.branch 0 (.leaf (hald 0 0, 276, 1, 0, 0, 0)) xz) xz)) (.branch 0 (.branch 0 (.branch 0 xz (.leaf (hbin (fun a b => a + b) (fun _ _ => true), 1172, 1, 0, 0, 0))) xz) (.branch 0 (.branch 0 xz (.leaf (hald 0 0, 1428, 1, 0, 0, 0))) (.branch 0 (.leaf (hloada 0, 916, 1, 0, 0, 0)) xz)))) (.branch 0 (.branch 0 (.branch 0 (.branch 0 xz (.leaf (hload 2 5, 1108, 2, 0, 0, 0))) xz) (.branch 0 (.branch 0 (.leaf (hload 2 5, 340, 2, 0, 0, 0)) xz) (.branch 0 (.leaf (hstore 2 6, 852, 2, 0, 0, 0)) xz))) (.branch 0 (.branch 0 xz (.branch 0 xz (.leaf (hloada 1, 1748, 1, 0, 0, 0)))) xz))) (.branch 0 (.branch 0 (.branch 0 (.branch 0 (.branch 0 xz (.leaf (hloada 0, 1076, 1, 0, 0, 0))) xz) (.branch 0 (.branch 0 (.leaf (hif .ne, 308, 3, 323, 0, 0)) (.leaf (hbin (fun a b => a + b) (fun _ _ => true), 1332, 1, 0, 0, 0))) xz)) (.branch 0 (.branch 0 (.branch 0 (.leaf (hpush 2 (Int.ofNat 1), 180, 1, 0, 0, 0)) (.leaf (hald 0 0, 1204, 1, 0, 0, 0))) (.branch 0 (.leaf (hloada 2, 692, 1, 0, 0, 0)) (.leaf (hicmp .eq, 1716, 3, 1721, 0, 0)))) (.branch 0 (.branch 0 xz (.leaf (hcallv, 1460, 3, 20, 0, 10))) xz))) (.branch 0 (.branch 0 (.branch 0 xz (.branch 0 xz (.leaf (hstore 2 7, 1652, 2, 0, 0, 0)))) (.branch 0 (.branch 0 (.leaf (hloada 0, 372, 1, 0, 0, 0)) xz) (.branch 0 (.leaf (hicmp .eq, 884, 3, 889, 0, 0)) xz))) (.branch 0 (.branch 0 (.branch 0 (.leaf (hloada 1, 244, 1, 0, 0, 0)) xz) xz) (.branch 0 (.branch 0 (.leaf (hstore 2 7, 500, 2, 0, 0, 0)) (.leaf (hloada 0, 1524, 1, 0, 0, 0))) (.branch 0 (.leaf (hpush 2 (Int.ofNat 1), 1012, 1, 0, 0, 0)) xz))))))) (.branch 0 (.branch 0 (.branch 0 (.branch 0 (.branch 0 (.branch 0 (.branch 0 (.leaf (hspec, 12, 3, 10, 1, 0)) (.leaf (hstore 2 7, 1036, 2, 0, 0, 0))) (.branch 0 xz (.leaf (hif .ne, 1548, 3, 1563, 0, 0)))) (.branch 0 (.branch 0 (.leaf (hstore 2 6, 268, 2, 0, 0, 0)) xz) (.branch 0 xz (.leaf (hcalls, 1804, 3, 145, 0, 0))))) (.branch 0 xz (.branch 0 (.branch 0 (.leaf (hloada 0, 396, 1, 0, 0, 0)) (.leaf (hpush 2 (Int.ofNat 2), 1420, 1, 0, 0, 0))) xz))) (.branch 0 (.branch 0 (.branch 0 (.branch 0 xz (.leaf (hloada 2, 1100, 1, 0, 0, 0))) xz) (.branch 0 (.branch 0 (.leaf (hald 0 0, 332, 1, 0, 0, 0)) xz) (.branch 0 xz (.leaf (hcallv, 1868, 3, 148, 0, 7))))) (.branch 0 (.branch 0 (.branch 0 xz (.leaf (hicmp .eq, 1228, 3, 1233, 0, 0))) xz) (.branch 0 (.branch 0 (.leaf (hloada 0, 460, 1, 0, 0, 0)) (.leaf (hgoto, 1484, 3, 1488, 0, 0))) xz)))) (.branch 0 (.branch 0 (.branch 0 (.branch 0 (.branch 0 (.leaf (hand, 44, 1, 0, 0, 0)) xz) (.branch 0 xz (.leaf (hloada 0, 1580, 1, 0, 0, 0)))) xz) (.branch 0 (.branch 0 (.branch 0 xz (.leaf (hpush 2 (Int.ofNat 1), 1196, 1, 0, 0, 0))) (.branch 0 xz (.leaf (hstore 2 7, 1708, 2, 0, 0, 0)))) (.branch 0 (.branch 0 (.leaf (hif .ne, 428, 3, 450, 0, 0)) (.leaf (hbin (fun a b => a + b) (fun _ _ => true), 1452, 1, 0, 0, 0))) (.branch 0 (.leaf (hald 0 0, 940, 1, 0, 0, 0)) xz)))) (.branch 0 (.branch 0 (.branch 0 xz (.branch 0 xz (.leaf (hload 2 5, 1644, 2, 0, 0, 0)))) (.branch 0 (.branch 0 (.leaf (hpush 2 (Int.ofNat 0), 364, 1, 0, 0, 0)) xz) (.branch 0 (.leaf (hstore 2 7, 876, 2, 0, 0, 0)) xz))) (.branch 0 (.branch 0 (.branch 0 (.leaf (hif .eq, 236, 3, 241, 0, 0)) (.leaf (hloada 0, 1260, 1, 0, 0, 0))) (.branch 0 (.leaf (hald 0 0, 748, 1, 0, 0, 0)) xz)) (.branch 0 (.branch 0 (.leaf (hload 2 5, 492, 2, 0, 0, 0)) (.leaf (hald 0 0, 1516, 1, 0, 0, 0))) xz))))) (.branch 0 (.branch 0 (.branch 0 (.branch 0 (.branch 0 (.branch 0 (.leaf (hload 2 5, 28, 2, 0, 0, 0)) xz) (.branch 0 (.leaf (hloada 2, 540, 1, 0, 0, 0)) xz)) (.branch 0 (.branch 0 (.leaf (hloada 0, 284, 1, 0, 0, 0)) (.leaf (hald 3 3, 1308, 1, 0, 0, 0))) (.branch 0 (.leaf (hstore 2 7, 796, 2, 0, 0, 0)) xz))) (.branch 0 (.branch 0 (.branch 0 xz (.leaf (hloada 0, 1180, 1, 0, 0, 0))) (.branch 0 (.leaf (hif .ne, 668, 3, 682, 0, 0)) (.leaf (hloada 3, 1692, 1, 0, 0, 0)))) (.branch 0 (.branch 0 xz (.leaf (hloada 0, 1436, 1, 0, 0, 0))) xz))) (.branch 0 (.branch 0 (.branch 0 (.branch 0 xz (.leaf (hpush 2 (Int.ofNat 3), 1116, 1, 0, 0, 0))) (.branch 0 (.leaf (hif .ne, 604, 3, 639, 0, 0)) xz)) (.branch 0 (.branch 0 (.leaf (hpush 2 (Int.ofNat 4), 348, 1, 0, 0, 0)) (.leaf (hif .ne, 1372, 3, 1407, 0, 0))) (.branch 0 (.leaf (hald 0 0, 860, 1, 0, 0, 0)) xz))) (.branch 0 (.branch 0 xz (.branch 0 xz (.leaf (hicmp .eq, 1756, 3, 1880, 0, 0)))) (.branch 0 (.branch 0 (.leaf (hstore 2 6, 476, 2, 0, 0, 0)) xz) (.branch 0 (.leaf (hbin (fun a b => a + b) (fun _ _ => true), 988, 1, 0, 0, 0)) xz))))) (.branch 0 (.branch 0 xz (.branch 0 (.branch 0 (.branch 0 (.leaf (hald 0 0, 188, 1, 0, 0, 0)) (.leaf (hload 2 5, 1212, 2, 0, 0, 0))) xz) xz)) (.branch 0 (.branch 0 (.branch 0 xz (.branch 0 xz (.leaf (hicmp .eq, 1660, 3, 1665, 0, 0)))) xz) (.branch 0 (.branch 0 (.branch 0 (.leaf (hload 2 5, 252, 2, 0, 0, 0)) (.leaf (hpush 2 (Int.ofNat 1), 1276, 1, 0, 0, 0))) (.branch 0 xz (.leaf (hcallv, 1788, 3, 143, 0, 7)))) (.branch 0 (.branch 0 (.leaf (hicmp .eq, 508, 3, 513, 0, 0)) xz) (.branch 0 (.leaf (hald 0 0, 1020, 1, 0, 0, 0)) xz))))))))) (.branch 0 (.branch 0 (.branch 0 (.branch 0 (.branch 0 (.branch 0 (.branch 0 (.branch 0 (.branch 0 xz (.leaf (hald 0 0, 1026, 1, 0, 0, 0))) xz) (.branch 0 (.branch 0 (.leaf (hloada 0, 258, 1, 0, 0, 0)) (.leaf (hpush 2 (Int.ofNat 2), 1282, 1, 0, 0, 0))) xz)) (.branch 0 (.branch 0 xz (.branch 0 (.leaf (hloada 1, 642, 1, 0, 0, 0)) xz)) (.branch 0 (.branch 0 xz (.leaf (hloada 1, 1410, 1, 0, 0, 0))) xz))) (.branch 0 (.branch 0 (.branch 0 xz (.branch 0 (.leaf (hloada 4, 578, 2, 0, 0, 0)) (.leaf (hload 2 6, 1602, 2, 0, 0, 0)))) (.branch 0 (.branch 0 xz (.leaf (hbin (fun a b => a + b) (fun _ _ => true), 1346, 1, 0, 0, 0))) (.branch 0 (.leaf (hbin (fun a b => a + b) (fun _ _ => true), 834, 1, 0, 0, 0)) xz))) (.branch 0 xz (.branch 0 (.branch 0 (.leaf (hgoto, 450, 3, 1880, 0, 0)) xz) (.branch 0 (.leaf (hloada 3, 962, 1, 0, 0, 0)) xz))))) (.branch 0 (.branch 0 (.branch 0 (.branch 0 (.branch 0 (.leaf (hbin (fun a b => a - b) (fun _ _ => true), 34, 1, 0, 0, 0)) xz) (.branch 0 (.leaf (hloada 2, 546, 1, 0, 0, 0)) (.leaf (hpush 2 (Int.ofNat 1), 1570, 1, 0, 0, 0)))) (.branch 0 (.branch 0 (.leaf (hcallv, 290, 3, 26, 0, 10)) xz) (.branch 0 (.leaf (hload 2 6, 802, 2, 0, 0, 0)) (.leaf (hload 2 6, 1826, 2, 0, 0, 0))))) (.branch 0 (.branch 0 (.branch 0 xz (.leaf (hloada 3, 1186, 1, 0, 0, 0))) (.branch 0 xz (.leaf (hloada 2, 1698, 1, 0, 0, 0)))) (.branch 0 (.branch 0 xz (.leaf (hloada 0, 1442, 1, 0, 0, 0))) (.branch 0 (.leaf (hload 2 5, 930, 2, 0, 0, 0)) xz)))) (.branch 0 (.branch 0 (.branch 0 (.branch 0 xz (.leaf (hpush 2 (Int.ofNat 4), 1122, 1, 0, 0, 0))) (.branch 0 xz (.leaf (hbin (fun a b => a + b) (fun _ _ => true), 1634, 1, 0, 0, 0)))) (.branch 0 (.branch 0 (.leaf (hpush 2 (Int.ofNat 5), 354, 1, 0, 0, 0)) xz) (.branch 0 (.leaf (hald 0 0, 866, 1, 0, 0, 0)) xz))) (.branch 0 (.branch 0 (.branch 0 (.leaf (hif .ne, 226, 3, 241, 0, 0)) (.leaf (hgoto, 1250, 3, 1880, 0, 0))) (.branch 0 xz (.leaf (hcallv, 1762, 3, 139, 0, 7)))) (.branch 0 (.branch 0 (.leaf (hpush 2 (Int.ofNat 1), 482, 1, 0, 0, 0)) xz) (.branch 0 (.leaf (hbin (fun a b => a + b) (fun _ _ => true), 994, 1, 0, 0, 0)) xz)))))) (.branch 0 (.branch 0 (.branch 0 (.branch 0 (.branch 0 (.branch 0 xz (.leaf (hload 2 6, 1042, 2, 0, 0, 0))) (.branch 0 (.leaf (hgoto, 530, 3, 1880, 0, 0)) (.leaf (hload 2 7, 1554, 2, 0, 0, 0)))) (.branch 0 (.branch 0 (.leaf (hpush 2 (Int.ofNat 1), 274, 1, 0, 0, 0)) xz) (.branch 0 (.leaf (hloada 3, 786, 1, 0, 0, 0)) (.leaf (hcallv, 1810, 3, 147, 0, 10))))) (.branch 0 (.branch 0 xz (.branch 0 xz (.leaf (hgoto, 1682, 3, 1880, 0, 0)))) (.branch 0 (.branch 0 (.leaf (hif .eq, 402, 3, 409, 0, 0)) (.leaf (hpush 2 (Int.ofNat 3), 1426, 1, 0, 0, 0))) (.branch 0 (.leaf (hbin (fun a b => a + b) (fun _ _ => true), 914, 1, 0, 0, 0)) xz)))) (.branch 0 (.branch 0 (.branch 0 (.branch 0 xz (.leaf (hald 0 0, 1106, 1, 0, 0, 0))) xz) (.branch 0 (.branch 0 (.leaf (hald 0 0, 338, 1, 0, 0, 0)) xz) xz)) (.branch 0 xz (.branch 0 (.branch 0 (.leaf (hloada 0, 466, 1, 0, 0, 0)) xz) (.branch 0 (.leaf (hloada 0, 978, 1, 0, 0, 0)) xz))))) (.branch 0 (.branch 0 (.branch 0 (.branch 0 (.branch 0 xz (.leaf (hbin (fun a b => a + b) (fun _ _ => true), 1074, 1, 0, 0, 0))) (.branch 0 xz (.leaf (hcallv, 1586, 3, 122, 0, 10)))) (.branch 0 (.branch 0 (.leaf (hload 2 6, 306, 2, 0, 0, 0)) xz) xz)) (.branch 0 (.branch 0 (.branch 0 (.leaf (hload 2 5, 178, 2, 0, 0, 0)) (.leaf (hpush 2 (Int.ofNat 2), 1202, 1, 0, 0, 0))) (.branch 0 (.leaf (hstore 2 6, 690, 2, 0, 0, 0)) (.leaf (hload 2 6, 1714, 2, 0, 0, 0)))) (.branch 0 xz (.branch 0 (.leaf (hloada 2, 946, 1, 0, 0, 0)) xz)))) (.branch 0 (.branch 0 xz (.branch 0 xz (.branch 0 (.leaf (hload 2 6, 882, 2, 0, 0, 0)) xz))) (.branch 0 (.branch 0 (.branch 0 xz (.leaf (hloada 3, 1266, 1, 0, 0, 0))) (.branch 0 (.leaf (hloada 2, 754, 1, 0, 0, 0)) (.leaf (hloada 2, 1778, 1, 0, 0, 0)))) (.branch 0 xz (.branch 0 (.leaf (hload 2 5, 1010, 2, 0, 0, 0)) xz))))))) (.branch 0 (.branch 0 (.branch 0 (.branch 0 (.branch 0 (.branch 0 xz (.branch 0 xz (.leaf (hload 2 6, 1546, 2, 0, 0, 0)))) (.branch 0 (.branch 0 xz (.leaf (hloada 2, 1290, 1, 0, 0, 0))) (.branch 0 xz (.leaf (hloada 4, 1802, 2, 0, 0, 0))))) (.branch 0 (.branch 0 (.branch 0 xz (.leaf (hloada 0, 1162, 1, 0, 0, 0))) (.branch 0 (.leaf (hcallv, 650, 3, 44, 0, 10)) xz)) (.branch 0 (.branch 0 (.leaf (hbin (fun a b => a + b) (fun _ _ => true), 394, 1, 0, 0, 0)) (.leaf (hload 2 5, 1418, 2, 0, 0, 0))) (.branch 0 (.leaf (hgoto, 906, 3, 1880, 0, 0)) xz)))) (.branch 0 (.branch 0 (.branch 0 (.branch 0 xz (.leaf (hstore 2 6, 1098, 2, 0, 0, 0))) (.branch 0 (.leaf (hcallv, 586, 3, 41, 0, 10)) xz)) (.branch 0 (.branch 0 (.leaf (hpush 2 (Int.ofNat 1), 330, 1, 0, 0, 0)) (.leaf (hcallv, 1354, 3, 104, 0, 10))) (.branch 0 (.leaf (hloada 0, 842, 1, 0, 0, 0)) xz))) (.branch 0 (.branch 0 (.branch 0 (.leaf (hloada 0, 202, 1, 0, 0, 0)) (.leaf (hload 2 6, 1226, 2, 0, 0, 0))) xz) (.branch 0 (.branch 0 (.leaf (hbin (fun a b => a + b) (fun _ _ => true), 458, 1, 0, 0, 0)) xz) xz)))) (.branch 0 (.branch 0 (.branch 0 (.branch 0 (.branch 0 (.leaf (hpush 2 (Int.ofNat 31), 42, 2, 0, 0, 0)) (.leaf (hgoto, 1066, 3, 1880, 0, 0))) xz) (.branch 0 (.branch 0 xz (.leaf (hloada 0, 1322, 1, 0, 0, 0))) xz)) (.branch 0 (.branch 0 (.branch 0 xz (.leaf (hload 2 5, 1194, 2, 0, 0, 0))) (.branch 0 (.leaf (hgoto, 682, 3, 1880, 0, 0)) xz)) (.branch 0 (.branch 0 (.leaf (hload 2 6, 426, 2, 0, 0, 0)) xz) (.branch 0 (.leaf (hpush 2 (Int.ofNat 2), 938, 1, 0, 0, 0)) xz)))) (.branch 0 (.branch 0 (.branch 0 (.branch 0 xz (.leaf (hloada 2, 1130, 1, 0, 0, 0))) (.branch 0 xz (.leaf (hloada 2, 1642, 1, 0, 0, 0)))) xz) (.branch 0 (.branch 0 (.branch 0 (.leaf (hconv (fun a => cond (Nat.beq a 2) 3 7) (fun a z => cond (Nat.beq a 2) (xin32 z) (Nat.beq a 5)), 234, 1, 0, 0, 0)) (.leaf (hbin (fun a b => a + b) (fun _ _ => true), 1258, 1, 0, 0, 0))) (.branch 0 (.leaf (hpush 2 (Int.ofNat 1), 746, 1, 0, 0, 0)) xz)) (.branch 0 (.branch 0 (.leaf (hald 0 0, 490, 1, 0, 0, 0)) (.leaf (hpush 2 (Int.ofNat 1), 1514, 1, 0, 0, 0))) (.branch 0 (.leaf (hloada 3, 1002, 1, 0, 0, 0)) xz)))))) (.branch 0 (.branch 0 (.branch 0 (.branch 0 (.branch 0 (.branch 0 (.leaf (hstore 2 5, 26, 2, 0, 0, 0)) xz) (.branch 0 (.leaf (hstore 2 6, 538, 2, 0, 0, 0)) xz)) (.branch 0 (.branch 0 (.leaf (hald 0 0, 282, 1, 0, 0, 0)) (.leaf (hloada 3, 1306, 1, 0, 0, 0))) xz)) (.branch 0 (.branch 0 (.branch 0 xz (.leaf (hbin (fun a b => a + b) (fun _ _ => true), 1178, 1, 0, 0, 0))) (.branch 0 (.leaf (hload 2 6, 666, 2, 0, 0, 0)) (.leaf (hbin (fun a b => a + b) (fun _ _ => true), 1690, 1, 0, 0, 0)))) (.branch 0 (.branch 0 (.leaf (hcallv, 410, 3, 30, 0, 10)) xz) (.branch 0 (.leaf (hloada 3, 922, 1, 0, 0, 0)) xz)))) (.branch 0 (.branch 0 (.branch 0 (.branch 0 xz (.leaf (hload 2 5, 1114, 2, 0, 0, 0))) (.branch 0 (.leaf (hload 2 6, 602, 2, 0, 0, 0)) (.leaf (hgoto, 1626, 3, 1880, 0, 0)))) (.branch 0 (.branch 0 (.leaf (hload 2 5, 346, 2, 0, 0, 0)) (.leaf (hload 2 6, 1370, 2, 0, 0, 0))) (.branch 0 (.leaf (hpush 2 (Int.ofNat 1), 858, 1, 0, 0, 0)) xz))) (.branch 0 (.branch 0 xz (.branch 0 (.leaf (hloada 0, 730, 1, 0, 0, 0)) xz)) (.branch 0 (.branch 0 xz (.leaf (hcallv, 1498, 3, 114, 0, 7))) xz)))) (.branch 0 (.branch 0 (.branch 0 (.branch 0 (.branch 0 xz (.leaf (hloada 0, 1082, 1, 0, 0, 0))) xz) (.branch 0 xz (.branch 0 (.leaf (hgoto, 826, 3, 1880, 0, 0)) xz))) (.branch 0 (.branch 0 (.branch 0 (.leaf (hpush 2 (Int.ofNat 2), 186, 1, 0, 0, 0)) (.leaf (hald 0 0, 1210, 1, 0, 0, 0))) (.branch 0 (.leaf (hloada 2, 698, 1, 0, 0, 0)) xz)) xz)) (.branch 0 (.branch 0 (.branch 0 xz (.branch 0 xz (.leaf (hload 2 6, 1658, 2, 0, 0, 0)))) (.branch 0 (.branch 0 (.leaf (hloada 0, 378, 1, 0, 0, 0)) xz) xz)) (.branch 0 (.branch 0 (.branch 0 (.leaf (hald 0 0, 250, 1, 0, 0, 0)) (.leaf (hload 2 5, 1274, 2, 0, 0, 0))) xz) (.branch 0 (.branch 0 (.leaf (hload 2 6, 506, 2, 0, 0, 0)) (.leaf (hcallv, 1530, 3, 118, 0, 10))) (.branch 0 (.leaf (hpush 2 (Int.ofNat 2), 1018, 1, 0, 0, 0)) xz)))))))) (.branch 0 (.branch 0 (.branch 0 (.branch 0 (.branch 0 (.branch 0 (.branch 0 (.branch 0 xz (.leaf (hpush 2 (Int.ofNat 4), 1030, 1, 0, 0, 0))) xz) (.branch 0 (.branch 0 (.leaf (hbin (fun a b => a + b) (fun _ _ => true), 262, 1, 0, 0, 0)) xz) xz)) (.branch 0 (.branch 0 (.branch 0 xz (.leaf (hgoto, 1158, 3, 1880, 0, 0))) xz) (.branch 0 (.branch 0 (.leaf (hloada 0, 390, 1, 0, 0, 0)) (.leaf (hpush 2 (Int.ofNat 1), 1414, 1, 0, 0, 0))) xz))) (.branch 0 (.branch 0 (.branch 0 (.branch 0 xz (.leaf (hloada 3, 1094, 1, 0, 0, 0))) xz) (.branch 0 (.branch 0 (.leaf (hloada 1, 326, 1, 0, 0, 0)) xz) xz)) (.branch 0 (.branch 0 (.branch 0 xz (.leaf (hloada 2, 1222, 1, 0, 0, 0))) xz) (.branch 0 (.branch 0 (.leaf (hloada 0, 454, 1, 0, 0, 0)) (.leaf (hload 2 7, 1478, 2, 0, 0, 0))) xz)))) (.branch 0 (.branch 0 (.branch 0 (.branch 0 (.branch 0 (.leaf (hloada 0, 38, 1, 0, 0, 0)) xz) (.branch 0 (.leaf (hload 2 6, 550, 2, 0, 0, 0)) (.leaf (hcalls, 1574, 3, 120, 0, 0)))) (.branch 0 (.branch 0 xz (.leaf (hgoto, 1318, 3, 1880, 0, 0))) xz)) (.branch 0 (.branch 0 (.branch 0 xz (.leaf (hstore 2 6, 1190, 2, 0, 0, 0))) (.branch 0 xz (.leaf (hpush 2 (Int.ofNat 1), 1702, 1, 0, 0, 0)))) (.branch 0 (.branch 0 xz (.leaf (hbin (fun a b => a + b) (fun _ _ => true), 1446, 1, 0, 0, 0))) (.branch 0 (.leaf (hald 0 0, 934, 1, 0, 0, 0)) xz)))) (.branch 0 (.branch 0 xz (.branch 0 xz (.branch 0 (.leaf (hpush 2 (Int.ofNat 3), 870, 1, 0, 0, 0)) xz))) (.branch 0 (.branch 0 (.branch 0 (.leaf (hpush 2 (Int.ofNat 0), 230, 1, 0, 0, 0)) (.leaf (hloada 0, 1254, 1, 0, 0, 0))) (.branch 0 (.leaf (hloada 2, 742, 1, 0, 0, 0)) (.leaf (hcallv, 1766, 3, 140, 0, 10)))) (.branch 0 (.branch 0 (.leaf (hload 2 5, 486, 2, 0, 0, 0)) (.leaf (hloada 1, 1510, 1, 0, 0, 0))) xz))))) (.branch 0 (.branch 0 (.branch 0 (.branch 0 (.branch 0 xz (.branch 0 (.leaf (hloada 3, 534, 1, 0, 0, 0)) (.leaf (hif .eq, 1558, 3, 1563, 0, 0)))) (.branch 0 (.branch 0 (.leaf (hload 2 5, 278, 2, 0, 0, 0)) xz) (.branch 0 (.leaf (hstore 2 6, 790, 2, 0, 0, 0)) xz))) (.branch 0 (.branch 0 (.branch 0 xz (.leaf (hloada 0, 1174, 1, 0, 0, 0))) (.branch 0 xz (.leaf (hloada 0, 1686, 1, 0, 0, 0)))) (.branch 0 (.branch 0 (.leaf (hgoto, 406, 3, 410, 0, 0)) (.leaf (hcalls, 1430, 3, 107, 0, 0))) xz))) (.branch 0 (.branch 0 (.branch 0 (.branch 0 xz (.leaf (hpush 2 (Int.ofNat 2), 1110, 1, 0, 0, 0))) xz) (.branch 0 (.branch 0 (.leaf (hpush 2 (Int.ofNat 3), 342, 1, 0, 0, 0)) xz) (.branch 0 (.leaf (hloada 2, 854, 1, 0, 0, 0)) xz))) (.branch 0 (.branch 0 (.branch 0 (.leaf (hcallv, 214, 3, 20, 0, 10)) xz) (.branch 0 (.leaf (hgoto, 726, 3, 1880, 0, 0)) xz)) (.branch 0 (.branch 0 (.leaf (hbin (fun a b => a + b) (fun _ _ => true), 470, 1, 0, 0, 0)) (.leaf (hgoto, 1494, 3, 1880, 0, 0))) (.branch 0 (.leaf (hbin (fun a b => a + b) (fun _ _ => true), 982, 1, 0, 0, 0)) xz))))) (.branch 0 (.branch 0 (.branch 0 xz (.branch 0 (.branch 0 xz (.leaf (hloada 4, 1334, 2, 0, 0, 0))) xz)) (.branch 0 (.branch 0 (.branch 0 (.leaf (hald 0 0, 182, 1, 0, 0, 0)) (.leaf (hload 2 5, 1206, 2, 0, 0, 0))) xz) (.branch 0 xz (.branch 0 (.leaf (hload 2 6, 950, 2, 0, 0, 0)) xz)))) (.branch 0 (.branch 0 (.branch 0 xz (.branch 0 xz (.leaf (hloada 2, 1654, 1, 0, 0, 0)))) xz) (.branch 0 (.branch 0 (.branch 0 (.leaf (hload 2 5, 246, 2, 0, 0, 0)) (.leaf (hstore 2 6, 1270, 2, 0, 0, 0))) (.branch 0 (.leaf (hload 2 6, 758, 2, 0, 0, 0)) (.leaf (hicmp .eq, 1782, 3, 1880, 0, 0)))) (.branch 0 (.branch 0 (.leaf (hloada 2, 502, 1, 0, 0, 0)) xz) (.branch 0 (.leaf (hald 0 0, 1014, 1, 0, 0, 0)) xz))))))) (.branch 0 (.branch 0 (.branch 0 (.branch 0 (.branch 0 (.branch 0 (.branch 0 xz (.leaf (hloada 2, 1038, 1, 0, 0, 0))) xz) (.branch 0 (.branch 0 (.leaf (hloada 2, 270, 1, 0, 0, 0)) (.leaf (hload 2 6, 1294, 2, 0, 0, 0))) (.branch 0 (.leaf (hgoto, 782, 3, 1880, 0, 0)) xz))) (.branch 0 (.branch 0 (.branch 0 xz (.leaf (hbin (fun a b => a + b) (fun _ _ => true), 1166, 1, 0, 0, 0))) xz) (.branch 0 (.branch 0 xz (.leaf (hald 0 0, 1422, 1, 0, 0, 0))) (.branch 0 (.leaf (hloada 0, 910, 1, 0, 0, 0)) xz)))) (.branch 0 (.branch 0 (.branch 0 (.branch 0 xz (.leaf (hload 2 5, 1102, 2, 0, 0, 0))) xz) (.branch 0 (.branch 0 (.leaf (hload 2 5, 334, 2, 0, 0, 0)) xz) (.branch 0 (.leaf (hbin (fun a b => a + b) (fun _ _ => true), 846, 1, 0, 0, 0)) xz))) (.branch 0 (.branch 0 (.branch 0 (.leaf (hbin (fun a b => a + b) (fun _ _ => true), 206, 1, 0, 0, 0)) xz) xz) (.branch 0 xz (.branch 0 (.leaf (hgoto, 974, 3, 1880, 0, 0)) xz))))) (.branch 0 (.branch 0 (.branch 0 (.branch 0 (.branch 0 xz (.leaf (hloada 0, 1070, 1, 0, 0, 0))) xz) (.branch 0 (.branch 0 xz (.leaf (hbin (fun a b => a + b) (fun _ _ => true), 1326, 1, 0, 0, 0))) xz)) (.branch 0 (.branch 0 (.branch 0 xz (.leaf (hald 0 0, 1198, 1, 0, 0, 0))) (.branch 0 (.leaf (hloada 3, 686, 1, 0, 0, 0)) (.leaf (hloada 2, 1710, 1, 0, 0, 0)))) (.branch 0 (.branch 0 xz (.leaf (hcallv, 1454, 3, 109, 0, 10))) xz))) (.branch 0 (.branch 0 (.branch 0 (.branch 0 xz (.leaf (hload 2 6, 1134, 2, 0, 0, 0))) (.branch 0 xz (.leaf (hpush 2 (Int.ofNat 1), 1646, 1, 0, 0, 0)))) (.branch 0 (.branch 0 (.leaf (hcalls, 366, 3, 28, 0, 0)) xz) (.branch 0 (.leaf (hloada 2, 878, 1, 0, 0, 0)) xz))) (.branch 0 (.branch 0 xz (.branch 0 xz (.leaf (hloada 1, 1774, 1, 0, 0, 0)))) (.branch 0 (.branch 0 (.leaf (hpush 2 (Int.ofNat 3), 494, 1, 0, 0, 0)) (.leaf (hcalls, 1518, 3, 116, 0, 0))) (.branch 0 (.leaf (hstore 2 6, 1006, 2, 0, 0, 0)) xz)))))) (.branch 0 (.branch 0 (.branch 0 (.branch 0 (.branch 0 (.branch 0 (.leaf (hloada 0, 30, 1, 0, 0, 0)) (.leaf (hloada 3, 1054, 1, 0, 0, 0))) (.branch 0 xz (.leaf (hloada 1, 1566, 1, 0, 0, 0)))) (.branch 0 xz (.branch 0 (.leaf (hloada 2, 798, 1, 0, 0, 0)) xz))) (.branch 0 xz (.branch 0 xz (.branch 0 (.leaf (hstore 2 6, 926, 2, 0, 0, 0)) xz)))) (.branch 0 (.branch 0 (.branch 0 (.branch 0 xz (.leaf (hald 0 0, 1118, 1, 0, 0, 0))) (.branch 0 xz (.leaf (hloada 0, 1630, 1, 0, 0, 0)))) (.branch 0 (.branch 0 (.leaf (hald 0 0, 350, 1, 0, 0, 0)) xz) (.branch 0 (.leaf (hload 2 5, 862, 2, 0, 0, 0)) (.leaf (hpush 2 (Int.ofNat 1), 1886, 1, 0, 0, 0))))) (.branch 0 (.branch 0 xz (.branch 0 (.leaf (hbin (fun a b => a + b) (fun _ _ => true), 734, 1, 0, 0, 0)) xz)) (.branch 0 (.branch 0 (.leaf (hloada 2, 478, 1, 0, 0, 0)) (.leaf (hcallv, 1502, 3, 115, 0, 10))) (.branch 0 (.leaf (hloada 0, 990, 1, 0, 0, 0)) xz))))) (.branch 0 (.branch 0 (.branch 0 (.branch 0 (.branch 0 xz (.leaf (hbin (fun a b => a + b) (fun _ _ => true), 1086, 1, 0, 0, 0))) (.branch 0 (.leaf (hgoto, 574, 3, 1880, 0, 0)) xz)) (.branch 0 (.branch 0 xz (.leaf (hloada 0, 1342, 1, 0, 0, 0))) (.branch 0 (.leaf (hloada 0, 830, 1, 0, 0, 0)) xz))) (.branch 0 (.branch 0 (.branch 0 (.leaf (hcalls, 190, 3, 13, 0, 0)) (.leaf (hpush 2 (Int.ofNat 4), 1214, 1, 0, 0, 0))) (.branch 0 (.leaf (hload 2 6, 702, 2, 0, 0, 0)) xz)) (.branch 0 (.branch 0 xz (.leaf (hload 2 6, 1470, 2, 0, 0, 0))) xz))) (.branch 0 (.branch 0 xz (.branch 0 (.branch 0 (.leaf (hbin (fun a b => a + b) (fun _ _ => true), 382, 1, 0, 0, 0)) xz) (.branch 0 (.leaf (hloada 3, 894, 1, 0, 0, 0)) xz))) (.branch 0 (.branch 0 (.branch 0 (.leaf (hpush 2 (Int.ofNat 2), 254, 1, 0, 0, 0)) (.leaf (hald 0 0, 1278, 1, 0, 0, 0))) xz) (.branch 0 xz (.branch 0 (.leaf (hload 2 5, 1022, 2, 0, 0, 0)) xz)))))))))) (.branch 0 (.branch 0 (.branch 0 (.branch 0 (.branch 0 (.branch 0 (.branch 0 (.branch 0 (.branch 0 (.branch 0 xz (.leaf (hbin (fun a b => a + b) (fun _ _ => true), 1025, 1, 0, 0, 0))) (.branch 0 (.leaf (hload 2 6, 513, 2, 0, 0, 0)) xz)) (.branch 0 (.branch 0 (.leaf (hconv (fun _ => 6) (fun a _ => Nat.beq a 5), 257, 1, 0, 0, 0)) xz) xz)) (.branch 0 (.branch 0 xz (.branch 0 xz (.leaf (hload 2 6, 1665, 2, 0, 0, 0)))) (.branch 0 (.branch 0 (.leaf (hload 2 5, 385, 2, 0, 0, 0)) xz) (.branch 0 (.leaf (hload 2 7, 897, 2, 0, 0, 0)) xz)))) (.branch 0 (.branch 0 (.branch 0 (.branch 0 xz (.leaf (hload 2 5, 1089, 2, 0, 0, 0))) (.branch 0 (.leaf (hloada 1, 577, 1, 0, 0, 0)) xz)) (.branch 0 (.branch 0 xz (.leaf (hpush 2 (Int.ofNat 1), 1345, 1, 0, 0, 0))) (.branch 0 (.leaf (hpush 2 (Int.ofNat 1), 833, 1, 0, 0, 0)) xz))) (.branch 0 (.branch 0 (.branch 0 (.leaf (hstore 2 6, 193, 2, 0, 0, 0)) (.leaf (hcallv, 1217, 3, 98, 0, 10))) xz) xz))) (.branch 0 (.branch 0 (.branch 0 (.branch 0 (.branch 0 xz (.leaf (hload 2 7, 1057, 2, 0, 0, 0))) xz) (.branch 0 (.branch 0 (.leaf (hald 0 0, 289, 1, 0, 0, 0)) (.leaf (hif .eq, 1313, 3, 1318, 0, 0))) xz)) (.branch 0 (.branch 0 (.branch 0 xz (.leaf (hald 0 0, 1185, 1, 0, 0, 0))) xz) (.branch 0 (.branch 0 xz (.leaf (hald 0 0, 1441, 1, 0, 0, 0))) (.branch 0 (.leaf (hloada 0, 929, 1, 0, 0, 0)) xz)))) (.branch 0 (.branch 0 (.branch 0 xz (.branch 0 xz (.leaf (hpush 2 (Int.ofNat 1), 1633, 1, 0, 0, 0)))) (.branch 0 xz (.branch 0 (.leaf (hbin (fun a b => a + b) (fun _ _ => true), 865, 1, 0, 0, 0)) xz))) (.branch 0 (.branch 0 xz (.branch 0 (.leaf (hcalls, 737, 3, 49, 0, 0)) (.leaf (hloada 1, 1761, 1, 0, 0, 0)))) (.branch 0 (.branch 0 xz (.leaf (hicmp .eq, 1505, 3, 1880, 0, 0))) (.branch 0 (.leaf (hpush 2 (Int.ofNat 3), 993, 1, 0, 0, 0)) xz)))))) (.branch 0 (.branch 0 (.branch 0 (.branch 0 (.branch 0 (.branch 0 (.leaf (hnewa, 17, 2, 3, 0, 0)) xz) (.branch 0 xz (.leaf (hald 3 3, 1553, 1, 0, 0, 0)))) (.branch 0 xz (.branch 0 (.leaf (hloada 1, 785, 1, 0, 0, 0)) (.leaf (hloada 2, 1809, 1, 0, 0, 0))))) (.branch 0 (.branch 0 (.branch 0 xz (.leaf (hload 2 5, 1169, 2, 0, 0, 0))) xz) (.branch 0 (.branch 0 (.leaf (hald 0 0, 401, 1, 0, 0, 0)) xz) (.branch 0 (.leaf (hpush 2 (Int.ofNat 1), 913, 1, 0, 0, 0)) xz)))) (.branch 0 (.branch 0 (.branch 0 (.branch 0 xz (.leaf (hbin (fun a b => a + b) (fun _ _ => true), 1105, 1, 0, 0, 0))) xz) (.branch 0 (.branch 0 (.leaf (hbin (fun a b => a + b) (fun _ _ => true), 337, 1, 0, 0, 0)) xz) (.branch 0 (.leaf (hcalls, 849, 3, 55, 0, 0)) xz))) (.branch 0 (.branch 0 (.branch 0 xz (.leaf (hload 2 6, 1233, 2, 0, 0, 0))) (.branch 0 xz (.leaf (hgoto, 1745, 3, 1880, 0, 0)))) (.branch 0 (.branch 0 (.leaf (hald 0 0, 465, 1, 0, 0, 0)) (.leaf (hif .eq, 1489, 3, 1494, 0, 0))) (.branch 0 (.leaf (hloada 1, 977, 1, 0, 0, 0)) xz))))) (.branch 0 (.branch 0 (.branch 0 (.branch 0 (.branch 0 xz (.leaf (hpush 2 (Int.ofNat 1), 1073, 1, 0, 0, 0))) (.branch 0 xz (.leaf (hald 0 0, 1585, 1, 0, 0, 0)))) (.branch 0 (.branch 0 xz (.leaf (hload 2 5, 1329, 2, 0, 0, 0))) xz)) (.branch 0 (.branch 0 (.branch 0 (.leaf (hloada 0, 177, 1, 0, 0, 0)) xz) xz) (.branch 0 (.branch 0 xz (.leaf (hstore 2 7, 1457, 2, 0, 0, 0))) xz))) (.branch 0 (.branch 0 (.branch 0 xz (.branch 0 xz (.leaf (hcallv, 1649, 3, 126, 0, 10)))) (.branch 0 (.branch 0 (.leaf (hstore 2 6, 369, 2, 0, 0, 0)) xz) xz)) (.branch 0 (.branch 0 (.branch 0 (.leaf (hgoto, 241, 3, 1880, 0, 0)) (.leaf (hald 0 0, 1265, 1, 0, 0, 0))) xz) (.branch 0 (.branch 0 (.leaf (hcallv, 497, 3, 33, 0, 10)) (.leaf (hstore 2 6, 1521, 2, 0, 0, 0))) (.branch 0 (.leaf (hloada 0, 1009, 1, 0, 0, 0)) xz))))))) (.branch 0 (.branch 0 (.branch 0 (.branch 0 (.branch 0 (.branch 0 (.branch 0 xz (.leaf (hcallv, 1033, 3, 154, 0, 10))) xz) (.branch 0 (.branch 0 (.leaf (hcalls, 265, 3, 22, 0, 0)) xz) (.branch 0 xz (.leaf (hloada 1, 1801, 1, 0, 0, 0))))) (.branch 0 (.branch 0 (.branch 0 xz (.leaf (hloada 1, 1161, 1, 0, 0, 0))) (.branch 0 (.leaf (hloada 2, 649, 1, 0, 0, 0)) xz)) (.branch 0 (.branch 0 (.leaf (hpush 2 (Int.ofNat 4), 393, 1, 0, 0, 0)) (.leaf (hloada 0, 1417, 1, 0, 0, 0))) xz))) (.branch 0 (.branch 0 (.branch 0 xz (.branch 0 (.leaf (hloada 2, 585, 1, 0, 0, 0)) xz)) (.branch 0 (.branch 0 xz (.leaf (hald 0 0, 1353, 1, 0, 0, 0))) (.branch 0 (.leaf (hald 0 0, 841, 1, 0, 0, 0)) xz))) (.branch 0 (.branch 0 (.branch 0 (.leaf (hald 0 0, 201, 1, 0, 0, 0)) xz) xz) (.branch 0 (.branch 0 (.leaf (hpush 2 (Int.ofNat 1), 457, 1, 0, 0, 0)) xz) (.branch 0 (.leaf (hif .eq, 969, 3, 974, 0, 0)) xz))))) (.branch 0 (.branch 0 (.branch 0 (.branch 0 (.branch 0 (.leaf (hald 0 0, 41, 1, 0, 0, 0)) xz) (.branch 0 xz (.leaf (hstore 2 6, 1577, 2, 0, 0, 0)))) (.branch 0 (.branch 0 xz (.leaf (hloada 1, 1321, 1, 0, 0, 0))) (.branch 0 (.leaf (hload 2 6, 809, 2, 0, 0, 0)) xz))) (.branch 0 (.branch 0 (.branch 0 xz (.leaf (hloada 0, 1193, 1, 0, 0, 0))) (.branch 0 xz (.leaf (hcallv, 1705, 3, 129, 0, 10)))) (.branch 0 (.branch 0 xz (.leaf (hload 2 5, 1449, 2, 0, 0, 0))) xz))) (.branch 0 (.branch 0 xz (.branch 0 (.branch 0 (.leaf (hgoto, 361, 3, 365, 0, 0)) xz) (.branch 0 (.leaf (hcallv, 873, 3, 58, 0, 10)) xz))) (.branch 0 (.branch 0 (.branch 0 xz (.leaf (hpush 2 (Int.ofNat 1), 1257, 1, 0, 0, 0))) (.branch 0 xz (.leaf (hicmp .eq, 1769, 3, 1880, 0, 0)))) (.branch 0 (.branch 0 (.leaf (hbin (fun a b => a + b) (fun _ _ => true), 489, 1, 0, 0, 0)) xz) (.branch 0 (.leaf (hald 0 0, 1001, 1, 0, 0, 0)) xz)))))) (.branch 0 (.branch 0 (.branch 0 (.branch 0 (.branch 0 (.branch 0 (.leaf (hpush 2 (Int.ofNat 0), 25, 1, 0, 0, 0)) (.leaf (hload 2 6, 1049, 2, 0, 0, 0))) xz) (.branch 0 (.branch 0 (.leaf (hbin (fun a b => a + b) (fun _ _ => true), 281, 1, 0, 0, 0)) xz) (.branch 0 (.leaf (hcallv, 793, 3, 54, 0, 10)) xz))) (.branch 0 (.branch 0 (.branch 0 xz (.leaf (hpush 2 (Int.ofNat 3), 1177, 1, 0, 0, 0))) (.branch 0 xz (.leaf (hpush 2 (Int.ofNat 1), 1689, 1, 0, 0, 0)))) (.branch 0 (.branch 0 (.leaf (hpush 2 (Int.ofNat 0), 409, 1, 0, 0, 0)) (.leaf (hstore 2 6, 1433, 2, 0, 0, 0))) (.branch 0 (.leaf (hald 0 0, 921, 1, 0, 0, 0)) xz)))) (.branch 0 (.branch 0 (.branch 0 (.branch 0 xz (.leaf (hloada 0, 1113, 1, 0, 0, 0))) xz) (.branch 0 (.branch 0 (.leaf (hloada 0, 345, 1, 0, 0, 0)) xz) xz)) (.branch 0 (.branch 0 (.branch 0 (.leaf (hload 2 6, 217, 2, 0, 0, 0)) xz) (.branch 0 (.leaf (hloada 1, 729, 1, 0, 0, 0)) (.leaf (hcallv, 1753, 3, 135, 0, 10)))) (.branch 0 (.branch 0 (.leaf (hcalls, 473, 3, 31, 0, 0)) (.leaf (hloada 1, 1497, 1, 0, 0, 0))) (.branch 0 (.leaf (hload 2 5, 985, 2, 0, 0, 0)) xz))))) (.branch 0 (.branch 0 (.branch 0 (.branch 0 (.branch 0 xz (.leaf (hald 0 0, 1081, 1, 0, 0, 0))) xz) xz) (.branch 0 (.branch 0 (.branch 0 xz (.leaf (hbin (fun a b => a + b) (fun _ _ => true), 1209, 1, 0, 0, 0))) (.branch 0 xz (.leaf (hload 2 6, 1721, 2, 0, 0, 0)))) (.branch 0 (.branch 0 xz (.leaf (hicmp .eq, 1465, 3, 1470, 0, 0))) xz))) (.branch 0 (.branch 0 xz (.branch 0 (.branch 0 (.leaf (hald 0 0, 377, 1, 0, 0, 0)) xz) (.branch 0 (.leaf (hload 2 6, 889, 2, 0, 0, 0)) xz))) (.branch 0 (.branch 0 (.branch 0 (.leaf (hbin (fun a b => a + b) (fun _ _ => true), 249, 1, 0, 0, 0)) (.leaf (hloada 0, 1273, 1, 0, 0, 0))) xz) (.branch 0 (.branch 0 xz (.leaf (hald 0 0, 1529, 1, 0, 0, 0))) xz))))))) (.branch 0 (.branch 0 (.branch 0 (.branch 0 (.branch 0 (.branch 0 (.branch 0 xz (.branch 0 xz (.leaf (hicmp .eq, 1541, 3, 1546, 0, 0)))) (.branch 0 (.branch 0 (.leaf (hpush 2 (Int.ofNat 3), 261, 1, 0, 0, 0)) (.leaf (hcallv, 1285, 3, 101, 0, 10))) xz)) (.branch 0 xz (.branch 0 (.branch 0 (.leaf (hald 0 0, 389, 1, 0, 0, 0)) xz) (.branch 0 (.leaf (hif .eq, 901, 3, 906, 0, 0)) xz)))) (.branch 0 (.branch 0 (.branch 0 (.branch 0 xz (.leaf (hald 0 0, 1093, 1, 0, 0, 0))) xz) (.branch 0 (.branch 0 xz (.leaf (hload 2 5, 1349, 2, 0, 0, 0))) (.branch 0 (.leaf (hload 2 5, 837, 2, 0, 0, 0)) xz))) (.branch 0 (.branch 0 (.branch 0 (.leaf (hload 2 5, 197, 2, 0, 0, 0)) xz) (.branch 0 (.leaf (hload 2 6, 709, 2, 0, 0, 0)) xz)) (.branch 0 (.branch 0 (.leaf (hloada 1, 453, 1, 0, 0, 0)) (.leaf (hald 3 3, 1477, 1, 0, 0, 0))) (.branch 0 (.leaf (hload 2 7, 965, 2, 0, 0, 0)) xz))))) (.branch 0 (.branch 0 (.branch 0 (.branch 0 (.branch 0 xz (.leaf (hif .eq, 1061, 3, 1066, 0, 0))) (.branch 0 xz (.leaf (hloada 3, 1573, 1, 0, 0, 0)))) (.branch 0 (.branch 0 (.leaf (hstore 2 7, 293, 2, 0, 0, 0)) xz) xz)) (.branch 0 xz (.branch 0 (.branch 0 (.leaf (hicmp .eq, 421, 3, 426, 0, 0)) (.leaf (hpush 2 (Int.ofNat 2), 1445, 1, 0, 0, 0))) (.branch 0 (.leaf (hbin (fun a b => a + b) (fun _ _ => true), 933, 1, 0, 0, 0)) xz)))) (.branch 0 (.branch 0 (.branch 0 (.branch 0 xz (.leaf (hcallv, 1125, 3, 94, 0, 10))) (.branch 0 xz (.leaf (hcalls, 1637, 3, 123, 0, 0)))) (.branch 0 (.branch 0 (.leaf (hif .eq, 357, 3, 364, 0, 0)) xz) xz)) (.branch 0 (.branch 0 (.branch 0 (.leaf (hloada 3, 229, 1, 0, 0, 0)) (.leaf (hloada 1, 1253, 1, 0, 0, 0))) (.branch 0 xz (.leaf (hloada 2, 1765, 1, 0, 0, 0)))) (.branch 0 (.branch 0 (.leaf (hloada 0, 485, 1, 0, 0, 0)) xz) (.branch 0 (.leaf (hload 2 5, 997, 2, 0, 0, 0)) xz)))))) (.branch 0 (.branch 0 (.branch 0 (.branch 0 (.branch 0 (.branch 0 (.leaf (hnewa, 21, 2, 4, 0, 0)) xz) (.branch 0 (.leaf (hloada 1, 533, 1, 0, 0, 0)) (.leaf (hlcmp, 1557, 1, 0, 0, 0)))) (.branch 0 (.branch 0 (.leaf (hloada 0, 277, 1, 0, 0, 0)) (.leaf (hload 2 6, 1301, 2, 0, 0, 0))) (.branch 0 xz (.leaf (hstore 5 7, 1813, 2, 0, 0, 0))))) (.branch 0 (.branch 0 (.branch 0 xz (.leaf (hald 0 0, 1173, 1, 0, 0, 0))) (.branch 0 (.leaf (hicmp .eq, 661, 3, 666, 0, 0)) (.leaf (hloada 1, 1685, 1, 0, 0, 0)))) (.branch 0 (.branch 0 (.leaf (hpush 2 (Int.ofNat 1), 405, 1, 0, 0, 0)) (.leaf (hloada 3, 1429, 1, 0, 0, 0))) (.branch 0 (.leaf (hload 2 5, 917, 2, 0, 0, 0)) xz)))) (.branch 0 (.branch 0 (.branch 0 xz (.branch 0 (.leaf (hicmp .eq, 597, 3, 602, 0, 0)) xz)) (.branch 0 (.branch 0 xz (.leaf (hicmp .eq, 1365, 3, 1370, 0, 0))) xz)) (.branch 0 (.branch 0 (.branch 0 (.leaf (hloada 2, 213, 1, 0, 0, 0)) xz) (.branch 0 xz (.leaf (hcallv, 1749, 3, 130, 0, 7)))) (.branch 0 (.branch 0 (.leaf (hpush 2 (Int.ofNat 3), 469, 1, 0, 0, 0)) xz) (.branch 0 (.leaf (hpush 2 (Int.ofNat 1), 981, 1, 0, 0, 0)) xz))))) (.branch 0 (.branch 0 (.branch 0 (.branch 0 (.branch 0 xz (.leaf (hload 2 5, 1077, 2, 0, 0, 0))) (.branch 0 xz (.leaf (hstore 2 7, 1589, 2, 0, 0, 0)))) (.branch 0 (.branch 0 xz (.leaf (hald 0 0, 1333, 1, 0, 0, 0))) xz)) (.branch 0 (.branch 0 (.branch 0 (.leaf (hbin (fun a b => a + b) (fun _ _ => true), 181, 1, 0, 0, 0)) (.leaf (hloada 0, 1205, 1, 0, 0, 0))) (.branch 0 (.leaf (hcallv, 693, 3, 48, 0, 10)) xz)) xz)) (.branch 0 (.branch 0 (.branch 0 (.branch 0 xz (.leaf (hload 2 6, 1141, 2, 0, 0, 0))) xz) (.branch 0 (.branch 0 (.leaf (hload 2 5, 373, 2, 0, 0, 0)) xz) xz)) (.branch 0 (.branch 0 (.branch 0 (.leaf (hloada 0, 245, 1, 0, 0, 0)) xz) xz) (.branch 0 (.branch 0 xz (.leaf (hload 2 5, 1525, 2, 0, 0, 0))) (.branch 0 (.leaf (hbin (fun a b => a + b) (fun _ _ => true), 1013, 1, 0, 0, 0)) xz))))))) (.branch 0 (.branch 0 (.branch 0 (.branch 0 xz (.branch 0 (.branch 0 (.branch 0 xz (.leaf (hpush 2 (Int.ofNat 1), 1165, 1, 0, 0, 0))) (.branch 0 (.leaf (hstore 3 7, 653, 2, 0, 0, 0)) xz)) (.branch 0 (.branch 0 (.leaf (hload 2 5, 397, 2, 0, 0, 0)) (.leaf (hbin (fun a b => a + b) (fun _ _ => true), 1421, 1, 0, 0, 0))) (.branch 0 (.leaf (hloada 1, 909, 1, 0, 0, 0)) xz)))) (.branch 0 (.branch 0 (.branch 0 (.branch 0 xz (.leaf (hloada 0, 1101, 1, 0, 0, 0))) (.branch 0 (.leaf (hstore 4 7, 589, 2, 0, 0, 0)) xz)) (.branch 0 (.branch 0 (.leaf (hloada 0, 333, 1, 0, 0, 0)) (.leaf (hstore 4 7, 1357, 2, 0, 0, 0))) (.branch 0 (.leaf (hpush 2 (Int.ofNat 3), 845, 1, 0, 0, 0)) xz))) (.branch 0 (.branch 0 (.branch 0 (.leaf (hpush 2 (Int.ofNat 2), 205, 1, 0, 0, 0)) xz) xz) (.branch 0 (.branch 0 (.leaf (hload 2 5, 461, 2, 0, 0, 0)) xz) xz)))) (.branch 0 (.branch 0 (.branch 0 (.branch 0 (.branch 0 (.leaf (hswitch (Int.ofNat 1835) (Int.ofNat 0) (Int.ofNat 28) [(Int.ofNat 131), (Int.ofNat 199), (Int.ofNat 281), (Int.ofNat 408), (Int.ofNat 488), (Int.ofNat 532), (Int.ofNat 597), (Int.ofNat 640), (Int.ofNat 684), (Int.ofNat 740), (Int.ofNat 784), (Int.ofNat 864), (Int.ofNat 932), (Int.ofNat 1024), (Int.ofNat 1116), (Int.ofNat 1208), (Int.ofNat 1276), (Int.ofNat 1365), (Int.ofNat 1452), (Int.ofNat 1465), (Int.ofNat 1521), (Int.ofNat 1584), (Int.ofNat 1640), (Int.ofNat 1703), (Int.ofNat 1716), (Int.ofNat 1729), (Int.ofNat 1742), (Int.ofNat 1756), (Int.ofNat 1822)], 45, 131, 0, 0, 0)) (.leaf (hloada 1, 1069, 1, 0, 0, 0))) (.branch 0 (.leaf (hload 2 6, 557, 2, 0, 0, 0)) (.leaf (hload 2 5, 1581, 2, 0, 0, 0)))) (.branch 0 (.branch 0 (.leaf (hicmp .eq, 301, 3, 306, 0, 0)) (.leaf (hpush 2 (Int.ofNat 1), 1325, 1, 0, 0, 0))) xz)) (.branch 0 (.branch 0 (.branch 0 xz (.leaf (hbin (fun a b => a + b) (fun _ _ => true), 1197, 1, 0, 0, 0))) (.branch 0 (.leaf (hloada 1, 685, 1, 0, 0, 0)) xz)) (.branch 0 (.branch 0 xz (.leaf (hald 0 0, 1453, 1, 0, 0, 0))) (.branch 0 (.leaf (hcallv, 941, 3, 79, 0, 10)) xz)))) (.branch 0 (.branch 0 xz (.branch 0 (.branch 0 (.leaf (hloada 3, 365, 1, 0, 0, 0)) xz) xz)) (.branch 0 (.branch 0 (.branch 0 xz (.leaf (hload 2 5, 1261, 2, 0, 0, 0))) (.branch 0 (.leaf (hcallv, 749, 3, 51, 0, 10)) xz)) (.branch 0 (.branch 0 xz (.leaf (hloada 3, 1517, 1, 0, 0, 0))) xz))))) (.branch 0 (.branch 0 (.branch 0 (.branch 0 (.branch 0 xz (.branch 0 (.leaf (hcallv, 541, 3, 37, 0, 10)) xz)) (.branch 0 (.branch 0 (.leaf (hload 2 5, 285, 2, 0, 0, 0)) (.leaf (hload 2 7, 1309, 2, 0, 0, 0))) (.branch 0 xz (.leaf (hicmp .eq, 1821, 3, 1826, 0, 0))))) (.branch 0 (.branch 0 (.branch 0 xz (.leaf (hload 2 5, 1181, 2, 0, 0, 0))) (.branch 0 xz (.leaf (hcalls, 1693, 3, 127, 0, 0)))) (.branch 0 (.branch 0 (.leaf (hstore 2 7, 413, 2, 0, 0, 0)) (.leaf (hload 2 5, 1437, 2, 0, 0, 0))) xz))) (.branch 0 (.branch 0 (.branch 0 (.branch 0 xz (.leaf (hbin (fun a b => a + b) (fun _ _ => true), 1117, 1, 0, 0, 0))) (.branch 0 xz (.leaf (hloada 1, 1629, 1, 0, 0, 0)))) (.branch 0 (.branch 0 (.leaf (hbin (fun a b => a + b) (fun _ _ => true), 349, 1, 0, 0, 0)) xz) (.branch 0 (.leaf (hloada 0, 861, 1, 0, 0, 0)) xz))) (.branch 0 (.branch 0 xz (.branch 0 (.leaf (hpush 2 (Int.ofNat 1), 733, 1, 0, 0, 0)) xz)) (.branch 0 (.branch 0 xz (.leaf (hloada 2, 1501, 1, 0, 0, 0))) (.branch 0 (.leaf (hald 0 0, 989, 1, 0, 0, 0)) xz))))) (.branch 0 (.branch 0 (.branch 0 (.branch 0 (.branch 0 xz (.leaf (hpush 2 (Int.ofNat 3), 1085, 1, 0, 0, 0))) (.branch 0 xz (.leaf (hicmp .eq, 1597, 3, 1602, 0, 0)))) (.branch 0 (.branch 0 xz (.leaf (hloada 2, 1341, 1, 0, 0, 0))) (.branch 0 (.leaf (hloada 1, 829, 1, 0, 0, 0)) xz))) (.branch 0 (.branch 0 (.branch 0 (.leaf (hloada 3, 189, 1, 0, 0, 0)) xz) xz) (.branch 0 xz (.branch 0 (.leaf (hload 2 6, 957, 2, 0, 0, 0)) xz)))) (.branch 0 (.branch 0 xz (.branch 0 (.branch 0 (.leaf (hpush 2 (Int.ofNat 2), 381, 1, 0, 0, 0)) xz) xz)) (.branch 0 (.branch 0 (.branch 0 xz (.leaf (hbin (fun a b => a + b) (fun _ _ => true), 1277, 1, 0, 0, 0))) (.branch 0 (.leaf (hload 2 6, 765, 2, 0, 0, 0)) xz)) (.branch 0 (.branch 0 xz (.leaf (hstore 2 7, 1533, 2, 0, 0, 0))) (.branch 0 (.leaf (hloada 0, 1021, 1, 0, 0, 0)) xz))))))))) (.branch 0 (.branch 0 (.branch 0 (.branch 0 (.branch 0 (.branch 0 (.branch 0 (.branch 0 (.branch 0 (.leaf (hdup, 3, 1, 0, 0, 0)) (.leaf (hloada 0, 1027, 1, 0, 0, 0))) (.branch 0 (.leaf (hif .ne, 515, 3, 530, 0, 0)) (.leaf (hload 2 6, 1539, 2, 0, 0, 0)))) (.branch 0 (.branch 0 (.leaf (hload 2 5, 259, 2, 0, 0, 0)) (.leaf (hbin (fun a b => a + b) (fun _ _ => true), 1283, 1, 0, 0, 0))) (.branch 0 xz (.leaf (hlcmp, 1795, 1, 0, 0, 0))))) (.branch 0 (.branch 0 xz (.branch 0 (.leaf (hloada 3, 643, 1, 0, 0, 0)) (.leaf (hif .ne, 1667, 3, 1682, 0, 0)))) (.branch 0 (.branch 0 (.leaf (hpush 2 (Int.ofNat 3), 387, 1, 0, 0, 0)) (.leaf (hloada 0, 1411, 1, 0, 0, 0))) (.branch 0 (.leaf (hconv (fun a => cond (Nat.beq a 2) 3 7) (fun a z => cond (Nat.beq a 2) (xin32 z) (Nat.beq a 5)), 899, 1, 0, 0, 0)) xz)))) (.branch 0 (.branch 0 (.branch 0 (.branch 0 xz (.leaf (hpush 2 (Int.ofNat 4), 1091, 1, 0, 0, 0))) xz) (.branch 0 (.branch 0 (.leaf (hgoto, 323, 3, 1880, 0, 0)) (.leaf (hald 0 0, 1347, 1, 0, 0, 0))) (.branch 0 (.leaf (hald 0 0, 835, 1, 0, 0, 0)) xz))) (.branch 0 (.branch 0 (.branch 0 (.leaf (hloada 2, 195, 1, 0, 0, 0)) xz) xz) (.branch 0 (.branch 0 xz (.leaf (hloada 3, 1475, 1, 0, 0, 0))) (.branch 0 (.leaf (hpush 2 (Int.ofNat 0), 963, 1, 0, 0, 0)) xz))))) (.branch 0 (.branch 0 (.branch 0 (.branch 0 (.branch 0 (.leaf (hicmp .gt, 35, 3, 1886, 0, 0)) (.leaf (hconv (fun a => cond (Nat.beq a 2) 3 7) (fun a z => cond (Nat.beq a 2) (xin32 z) (Nat.beq a 5)), 1059, 1, 0, 0, 0))) (.branch 0 (.leaf (hcallv, 547, 3, 20, 0, 10)) (.leaf (hbin (fun a b => a + b) (fun _ _ => true), 1571, 1, 0, 0, 0)))) xz) (.branch 0 (.branch 0 (.branch 0 xz (.leaf (hcalls, 1187, 3, 96, 0, 0))) (.branch 0 xz (.leaf (hloada 0, 1699, 1, 0, 0, 0)))) (.branch 0 (.branch 0 (.leaf (hload 2 6, 419, 2, 0, 0, 0)) (.leaf (hload 2 5, 1443, 2, 0, 0, 0))) xz))) (.branch 0 (.branch 0 (.branch 0 (.branch 0 xz (.leaf (hbin (fun a b => a + b) (fun _ _ => true), 1123, 1, 0, 0, 0))) (.branch 0 xz (.leaf (hald 0 0, 1635, 1, 0, 0, 0)))) (.branch 0 (.branch 0 (.leaf (hbin (fun a b => a + b) (fun _ _ => true), 355, 1, 0, 0, 0)) xz) (.branch 0 (.leaf (hloada 0, 867, 1, 0, 0, 0)) xz))) (.branch 0 xz (.branch 0 (.branch 0 (.leaf (hbin (fun a b => a + b) (fun _ _ => true), 483, 1, 0, 0, 0)) xz) (.branch 0 (.leaf (hald 0 0, 995, 1, 0, 0, 0)) xz)))))) (.branch 0 (.branch 0 (.branch 0 (.branch 0 (.branch 0 (.branch 0 (.leaf (hstorea 3, 19, 1, 0, 0, 0)) xz) xz) (.branch 0 (.branch 0 (.leaf (hbin (fun a b => a + b) (fun _ _ => true), 275, 1, 0, 0, 0)) xz) (.branch 0 (.leaf (hcalls, 787, 3, 52, 0, 0)) xz))) (.branch 0 (.branch 0 (.branch 0 xz (.leaf (hpush 2 (Int.ofNat 2), 1171, 1, 0, 0, 0))) (.branch 0 (.leaf (hload 2 6, 659, 2, 0, 0, 0)) xz)) (.branch 0 (.branch 0 xz (.leaf (hbin (fun a b => a + b) (fun _ _ => true), 1427, 1, 0, 0, 0))) (.branch 0 (.leaf (hald 0 0, 915, 1, 0, 0, 0)) xz)))) (.branch 0 (.branch 0 (.branch 0 (.branch 0 xz (.leaf (hloada 0, 1107, 1, 0, 0, 0))) (.branch 0 (.leaf (hload 2 6, 595, 2, 0, 0, 0)) xz)) (.branch 0 (.branch 0 (.leaf (hloada 0, 339, 1, 0, 0, 0)) (.leaf (hload 2 6, 1363, 2, 0, 0, 0))) (.branch 0 xz (.leaf (hicmp .eq, 1875, 3, 1880, 0, 0))))) (.branch 0 (.branch 0 (.branch 0 (.leaf (hstore 2 7, 211, 2, 0, 0, 0)) (.leaf (hif .ne, 1235, 3, 1250, 0, 0))) xz) (.branch 0 (.branch 0 (.leaf (hload 2 5, 467, 2, 0, 0, 0)) xz) (.branch 0 (.leaf (hload 2 5, 979, 2, 0, 0, 0)) xz))))) (.branch 0 (.branch 0 (.branch 0 (.branch 0 (.branch 0 xz (.leaf (hald 0 0, 1075, 1, 0, 0, 0))) xz) (.branch 0 (.branch 0 xz (.leaf (hpush 2 (Int.ofNat 2), 1331, 1, 0, 0, 0))) xz)) (.branch 0 (.branch 0 (.branch 0 xz (.leaf (hbin (fun a b => a + b) (fun _ _ => true), 1203, 1, 0, 0, 0))) xz) (.branch 0 (.branch 0 xz (.leaf (hloada 2, 1459, 1, 0, 0, 0))) (.branch 0 (.leaf (hcallv, 947, 3, 20, 0, 10)) xz)))) (.branch 0 (.branch 0 xz (.branch 0 (.branch 0 (.leaf (hloada 2, 371, 1, 0, 0, 0)) xz) xz)) (.branch 0 (.branch 0 (.branch 0 xz (.leaf (hcalls, 1267, 3, 99, 0, 0))) (.branch 0 (.leaf (hcallv, 755, 3, 20, 0, 10)) (.leaf (hcallv, 1779, 3, 142, 0, 10)))) (.branch 0 (.branch 0 xz (.leaf (hloada 2, 1523, 1, 0, 0, 0))) xz)))))) (.branch 0 (.branch 0 (.branch 0 (.branch 0 (.branch 0 (.branch 0 (.branch 0 (.leaf (hdup, 11, 1, 0, 0, 0)) xz) xz) (.branch 0 (.branch 0 xz (.leaf (hcallv, 1291, 3, 20, 0, 10))) xz)) (.branch 0 (.branch 0 (.branch 0 xz (.leaf (hload 2 5, 1163, 2, 0, 0, 0))) xz) (.branch 0 (.branch 0 (.leaf (hald 0 0, 395, 1, 0, 0, 0)) xz) xz))) (.branch 0 (.branch 0 xz (.branch 0 (.branch 0 (.leaf (hbin (fun a b => a + b) (fun _ _ => true), 331, 1, 0, 0, 0)) xz) (.branch 0 (.leaf (hload 2 5, 843, 2, 0, 0, 0)) (.leaf (hloada 1, 1867, 1, 0, 0, 0))))) (.branch 0 (.branch 0 (.branch 0 (.leaf (hload 2 5, 203, 2, 0, 0, 0)) xz) xz) (.branch 0 (.branch 0 (.leaf (hald 0 0, 459, 1, 0, 0, 0)) (.leaf (hpush 3 (Int.ofNat 1), 1483, 1, 0, 0, 0))) xz)))) (.branch 0 (.branch 0 (.branch 0 (.branch 0 xz (.branch 0 xz (.leaf (hloada 2, 1579, 1, 0, 0, 0)))) (.branch 0 (.branch 0 (.leaf (hload 2 6, 299, 2, 0, 0, 0)) (.leaf (hload 2 5, 1323, 2, 0, 0, 0))) (.branch 0 (.leaf (hif .ne, 811, 3, 826, 0, 0)) xz))) (.branch 0 xz (.branch 0 (.branch 0 xz (.leaf (hpush 2 (Int.ofNat 3), 1451, 1, 0, 0, 0))) (.branch 0 (.leaf (hbin (fun a b => a + b) (fun _ _ => true), 939, 1, 0, 0, 0)) xz)))) (.branch 0 (.branch 0 (.branch 0 (.branch 0 xz (.leaf (hcallv, 1131, 3, 20, 0, 10))) (.branch 0 xz (.leaf (hloada 0, 1643, 1, 0, 0, 0)))) xz) (.branch 0 (.branch 0 (.branch 0 (.leaf (hlcmp, 235, 1, 0, 0, 0)) (.leaf (hald 0 0, 1259, 1, 0, 0, 0))) (.branch 0 (.leaf (hbin (fun a b => a + b) (fun _ _ => true), 747, 1, 0, 0, 0)) xz)) (.branch 0 (.branch 0 (.leaf (hloada 0, 491, 1, 0, 0, 0)) (.leaf (hbin (fun a b => a + b) (fun _ _ => true), 1515, 1, 0, 0, 0))) (.branch 0 (.leaf (hcalls, 1003, 3, 152, 0, 0)) xz)))))) (.branch 0 (.branch 0 (.branch 0 (.branch 0 (.branch 0 (.branch 0 xz (.leaf (hif .ne, 1051, 3, 1066, 0, 0))) (.branch 0 xz (.leaf (hgoto, 1563, 3, 1880, 0, 0)))) (.branch 0 (.branch 0 (.leaf (hconv (fun _ => 6) (fun a _ => Nat.beq a 5), 283, 1, 0, 0, 0)) (.leaf (hpush 2 (Int.ofNat 0), 1307, 1, 0, 0, 0))) (.branch 0 xz (.leaf (hload 2 6, 1819, 2, 0, 0, 0))))) (.branch 0 (.branch 0 (.branch 0 xz (.leaf (hald 0 0, 1179, 1, 0, 0, 0))) (.branch 0 xz (.leaf (hald 0 0, 1691, 1, 0, 0, 0)))) (.branch 0 (.branch 0 xz (.leaf (hloada 2, 1435, 1, 0, 0, 0))) (.branch 0 (.leaf (hcalls, 923, 3, 77, 0, 0)) xz)))) (.branch 0 (.branch 0 xz (.branch 0 xz (.branch 0 (.leaf (hbin (fun a b => a + b) (fun _ _ => true), 859, 1, 0, 0, 0)) (.leaf (hgoto, 1883, 3, 28, 0, 0))))) (.branch 0 (.branch 0 (.branch 0 (.leaf (hicmp .eq, 219, 3, 224, 0, 0)) xz) (.branch 0 (.leaf (hload 2 5, 731, 2, 0, 0, 0)) xz)) (.branch 0 xz (.branch 0 (.leaf (hpush 2 (Int.ofNat 2), 987, 1, 0, 0, 0)) xz))))) (.branch 0 (.branch 0 (.branch 0 (.branch 0 (.branch 0 xz (.leaf (hload 2 5, 1083, 2, 0, 0, 0))) (.branch 0 xz (.leaf (hload 2 6, 1595, 2, 0, 0, 0)))) (.branch 0 (.branch 0 xz (.leaf (hstore 2 6, 1339, 2, 0, 0, 0))) xz)) (.branch 0 (.branch 0 (.branch 0 (.leaf (hbin (fun a b => a + b) (fun _ _ => true), 187, 1, 0, 0, 0)) (.leaf (hloada 0, 1211, 1, 0, 0, 0))) (.branch 0 (.leaf (hcallv, 699, 3, 20, 0, 10)) (.leaf (hif .ne, 1723, 3, 1745, 0, 0)))) xz)) (.branch 0 (.branch 0 xz (.branch 0 (.branch 0 (.leaf (hload 2 5, 379, 2, 0, 0, 0)) xz) (.branch 0 (.leaf (hif .ne, 891, 3, 906, 0, 0)) xz))) (.branch 0 (.branch 0 (.branch 0 (.leaf (hloada 0, 251, 1, 0, 0, 0)) xz) (.branch 0 xz (.leaf (hloada 1, 1787, 1, 0, 0, 0)))) (.branch 0 xz (.branch 0 (.leaf (hbin (fun a b => a + b) (fun _ _ => true), 1019, 1, 0, 0, 0)) xz)))))))) (.branch 0 (.branch 0 (.branch 0 (.branch 0 (.branch 0 (.branch 0 (.branch 0 (.branch 0 (.leaf (hstorea 1, 7, 1, 0, 0, 0)) (.leaf (hbin (fun a b => a + b) (fun _ _ => true), 1031, 1, 0, 0, 0))) xz) (.branch 0 (.branch 0 (.leaf (hald 0 0, 263, 1, 0, 0, 0)) xz) xz)) (.branch 0 (.branch 0 xz (.branch 0 (.leaf (hstore 2 6, 647, 2, 0, 0, 0)) xz)) (.branch 0 (.branch 0 (.leaf (hload 2 5, 391, 2, 0, 0, 0)) (.leaf (hbin (fun a b => a + b) (fun _ _ => true), 1415, 1, 0, 0, 0))) xz))) (.branch 0 (.branch 0 (.branch 0 (.branch 0 xz (.leaf (hcalls, 1095, 3, 92, 0, 0))) (.branch 0 (.leaf (hstore 2 6, 583, 2, 0, 0, 0)) xz)) (.branch 0 (.branch 0 (.leaf (hloada 0, 327, 1, 0, 0, 0)) (.leaf (hpush 2 (Int.ofNat 2), 1351, 1, 0, 0, 0))) (.branch 0 (.leaf (hpush 2 (Int.ofNat 2), 839, 1, 0, 0, 0)) xz))) (.branch 0 (.branch 0 (.branch 0 (.leaf (hpush 2 (Int.ofNat 1), 199, 1, 0, 0, 0)) (.leaf (hcallv, 1223, 3, 20, 0, 10))) (.branch 0 (.leaf (hif .ne, 711, 3, 726, 0, 0)) xz)) (.branch 0 (.branch 0 (.leaf (hload 2 5, 455, 2, 0, 0, 0)) xz) (.branch 0 (.leaf (hconv (fun a => cond (Nat.beq a 2) 3 7) (fun a z => cond (Nat.beq a 2) (xin32 z) (Nat.beq a 5)), 967, 1, 0, 0, 0)) xz))))) (.branch 0 (.branch 0 (.branch 0 (.branch 0 (.branch 0 (.leaf (hload 2 5, 39, 2, 0, 0, 0)) xz) xz) (.branch 0 (.branch 0 (.leaf (hloada 2, 295, 1, 0, 0, 0)) xz) xz)) (.branch 0 (.branch 0 xz (.branch 0 xz (.leaf (hbin (fun a b => a + b) (fun _ _ => true), 1703, 1, 0, 0, 0)))) (.branch 0 (.branch 0 xz (.leaf (hald 0 0, 1447, 1, 0, 0, 0))) (.branch 0 (.leaf (hloada 0, 935, 1, 0, 0, 0)) xz)))) (.branch 0 (.branch 0 xz (.branch 0 xz (.branch 0 (.leaf (hbin (fun a b => a + b) (fun _ _ => true), 871, 1, 0, 0, 0)) xz))) (.branch 0 (.branch 0 (.branch 0 (.leaf (hald 3 3, 231, 1, 0, 0, 0)) (.leaf (hload 2 5, 1255, 2, 0, 0, 0))) (.branch 0 (.leaf (hloada 0, 743, 1, 0, 0, 0)) xz)) (.branch 0 (.branch 0 xz (.leaf (hloada 0, 1511, 1, 0, 0, 0))) (.branch 0 (.leaf (hpush 2 (Int.ofNat 4), 999, 1, 0, 0, 0)) xz)))))) (.branch 0 (.branch 0 (.branch 0 (.branch 0 (.branch 0 (.branch 0 (.leaf (hstorea 4, 23, 2, 0, 0, 0)) xz) (.branch 0 (.leaf (hcalls, 535, 3, 34, 0, 0)) xz)) (.branch 0 (.branch 0 xz (.leaf (hif .ne, 1303, 3, 1318, 0, 0))) (.branch 0 xz (.leaf (hloada 2, 1815, 1, 0, 0, 0))))) (.branch 0 (.branch 0 (.branch 0 xz (.leaf (hload 2 5, 1175, 2, 0, 0, 0))) (.branch 0 xz (.leaf (hload 2 5, 1687, 2, 0, 0, 0)))) (.branch 0 xz (.branch 0 (.leaf (hpush 2 (Int.ofNat 2), 919, 1, 0, 0, 0)) xz)))) (.branch 0 (.branch 0 (.branch 0 (.branch 0 xz (.leaf (hbin (fun a b => a + b) (fun _ _ => true), 1111, 1, 0, 0, 0))) xz) (.branch 0 (.branch 0 (.leaf (hbin (fun a b => a + b) (fun _ _ => true), 343, 1, 0, 0, 0)) xz) (.branch 0 (.leaf (hloada 0, 855, 1, 0, 0, 0)) xz))) (.branch 0 xz (.branch 0 (.branch 0 (.leaf (hald 0 0, 471, 1, 0, 0, 0)) xz) (.branch 0 (.leaf (hald 0 0, 983, 1, 0, 0, 0)) xz))))) (.branch 0 (.branch 0 (.branch 0 (.branch 0 (.branch 0 xz (.leaf (hpush 2 (Int.ofNat 2), 1079, 1, 0, 0, 0))) (.branch 0 xz (.leaf (hloada 2, 1591, 1, 0, 0, 0)))) xz) (.branch 0 (.branch 0 (.branch 0 (.leaf (hloada 0, 183, 1, 0, 0, 0)) xz) xz) (.branch 0 (.branch 0 xz (.leaf (hload 2 6, 1463, 2, 0, 0, 0))) xz))) (.branch 0 (.branch 0 (.branch 0 (.branch 0 xz (.leaf (hif .ne, 1143, 3, 1158, 0, 0))) (.branch 0 xz (.leaf (hcallv, 1655, 3, 20, 0, 10)))) (.branch 0 (.branch 0 (.leaf (hpush 2 (Int.ofNat 1), 375, 1, 0, 0, 0)) xz) xz)) (.branch 0 xz (.branch 0 (.branch 0 (.leaf (hcallv, 503, 3, 20, 0, 10)) (.leaf (hpush 2 (Int.ofNat 1), 1527, 1, 0, 0, 0))) (.branch 0 (.leaf (hloada 0, 1015, 1, 0, 0, 0)) xz))))))) (.branch 0 (.branch 0 (.branch 0 (.branch 0 (.branch 0 (.branch 0 (.branch 0 (.leaf (hstorea 2, 15, 1, 0, 0, 0)) (.leaf (hcallv, 1039, 3, 20, 0, 10))) (.branch 0 xz (.leaf (hloada 3, 1551, 1, 0, 0, 0)))) (.branch 0 (.branch 0 (.leaf (hloada 0, 271, 1, 0, 0, 0)) xz) (.branch 0 xz (.leaf (hstore 2 6, 1807, 2, 0, 0, 0))))) (.branch 0 (.branch 0 (.branch 0 xz (.leaf (hald 0 0, 1167, 1, 0, 0, 0))) (.branch 0 (.leaf (hloada 2, 655, 1, 0, 0, 0)) xz)) (.branch 0 (.branch 0 (.leaf (hpush 2 (Int.ofNat 5), 399, 1, 0, 0, 0)) (.leaf (hloada 0, 1423, 1, 0, 0, 0))) (.branch 0 (.leaf (hload 2 5, 911, 2, 0, 0, 0)) xz)))) (.branch 0 (.branch 0 (.branch 0 xz (.branch 0 (.leaf (hloada 2, 591, 1, 0, 0, 0)) xz)) (.branch 0 (.branch 0 xz (.leaf (hloada 2, 1359, 1, 0, 0, 0))) (.branch 0 (.leaf (hald 0 0, 847, 1, 0, 0, 0)) (.leaf (hloada 2, 1871, 1, 0, 0, 0))))) (.branch 0 (.branch 0 (.branch 0 (.leaf (hald 0 0, 207, 1, 0, 0, 0)) xz) xz) (.branch 0 (.branch 0 (.leaf (hpush 2 (Int.ofNat 2), 463, 1, 0, 0, 0)) xz) xz)))) (.branch 0 (.branch 0 (.branch 0 (.branch 0 (.branch 0 xz (.leaf (hload 2 5, 1071, 2, 0, 0, 0))) (.branch 0 (.leaf (hif .ne, 559, 3, 574, 0, 0)) (.leaf (hpush 2 (Int.ofNat 1), 1583, 1, 0, 0, 0)))) (.branch 0 (.branch 0 xz (.leaf (hald 0 0, 1327, 1, 0, 0, 0))) xz)) (.branch 0 (.branch 0 (.branch 0 xz (.leaf (hloada 0, 1199, 1, 0, 0, 0))) (.branch 0 (.leaf (hcalls, 687, 3, 45, 0, 0)) (.leaf (hcallv, 1711, 3, 20, 0, 10)))) xz)) (.branch 0 (.branch 0 (.branch 0 xz (.branch 0 xz (.leaf (hbin (fun a b => a + b) (fun _ _ => true), 1647, 1, 0, 0, 0)))) (.branch 0 xz (.branch 0 (.leaf (hcallv, 879, 3, 20, 0, 10)) xz))) (.branch 0 (.branch 0 (.branch 0 xz (.leaf (hpush 2 (Int.ofNat 2), 1263, 1, 0, 0, 0))) (.branch 0 xz (.leaf (hcallv, 1775, 3, 141, 0, 7)))) (.branch 0 (.branch 0 (.leaf (hbin (fun a b => a + b) (fun _ _ => true), 495, 1, 0, 0, 0)) xz) xz))))) (.branch 0 (.branch 0 (.branch 0 (.branch 0 (.branch 0 (.branch 0 (.leaf (halen, 31, 1, 0, 0, 0)) (.leaf (hpush 2 (Int.ofNat 0), 1055, 1, 0, 0, 0))) (.branch 0 xz (.leaf (hloada 0, 1567, 1, 0, 0, 0)))) (.branch 0 (.branch 0 (.leaf (hpush 2 (Int.ofNat 3), 287, 1, 0, 0, 0)) (.leaf (hconv (fun a => cond (Nat.beq a 2) 3 7) (fun a z => cond (Nat.beq a 2) (xin32 z) (Nat.beq a 5)), 1311, 1, 0, 0, 0))) (.branch 0 (.leaf (hcallv, 799, 3, 20, 0, 10)) xz))) (.branch 0 (.branch 0 (.branch 0 xz (.leaf (hpush 2 (Int.ofNat 4), 1183, 1, 0, 0, 0))) xz) (.branch 0 (.branch 0 (.leaf (hloada 2, 415, 1, 0, 0, 0)) (.leaf (hpush 2 (Int.ofNat 1), 1439, 1, 0, 0, 0))) xz))) (.branch 0 (.branch 0 (.branch 0 (.branch 0 xz (.leaf (hloada 0, 1119, 1, 0, 0, 0))) (.branch 0 xz (.leaf (hload 2 5, 1631, 2, 0, 0, 0)))) (.branch 0 (.branch 0 (.leaf (hloada 0, 351, 1, 0, 0, 0)) xz) (.branch 0 xz (.leaf (hret 1, 1887, 1, 0, 0, 0))))) (.branch 0 (.branch 0 xz (.branch 0 (.leaf (hald 0 0, 735, 1, 0, 0, 0)) xz)) (.branch 0 (.branch 0 (.leaf (hloada 0, 479, 1, 0, 0, 0)) xz) (.branch 0 (.leaf (hload 2 5, 991, 2, 0, 0, 0)) xz))))) (.branch 0 (.branch 0 (.branch 0 (.branch 0 (.branch 0 xz (.leaf (hald 0 0, 1087, 1, 0, 0, 0))) xz) (.branch 0 (.branch 0 xz (.leaf (hload 2 5, 1343, 2, 0, 0, 0))) (.branch 0 (.leaf (hload 2 5, 831, 2, 0, 0, 0)) xz))) (.branch 0 (.branch 0 (.branch 0 xz (.leaf (hbin (fun a b => a + b) (fun _ _ => true), 1215, 1, 0, 0, 0))) xz) (.branch 0 xz (.branch 0 (.leaf (hif .ne, 959, 3, 974, 0, 0)) xz)))) (.branch 0 (.branch 0 (.branch 0 xz (.branch 0 (.leaf (hgoto, 639, 3, 1880, 0, 0)) xz)) (.branch 0 (.branch 0 (.leaf (hald 0 0, 383, 1, 0, 0, 0)) (.leaf (hgoto, 1407, 3, 1880, 0, 0))) (.branch 0 (.leaf (hpush 2 (Int.ofNat 0), 895, 1, 0, 0, 0)) xz))) (.branch 0 (.branch 0 (.branch 0 (.leaf (hbin (fun a b => a + b) (fun _ _ => true), 255, 1, 0, 0, 0)) (.leaf (hloada 0, 1279, 1, 0, 0, 0))) (.branch 0 (.leaf (hif .ne, 767, 3, 782, 0, 0)) (.leaf (hloada 2, 1791, 1, 0, 0, 0)))) (.branch 0 (.branch 0 xz (.leaf (hloada 2, 1535, 1, 0, 0, 0))) xz)))))))))
noncomputable def xp157 : xP := (((11, 9), xc157), [], 1, 3, 622608, 7234241)
noncomputable def xmt : Lean.RArray xP := .branch 0 (.branch 0 (.branch 0 (.branch 0 (.branch 0 (.branch 0 (.branch 0 (.branch 0 (.leaf xp0) (.leaf xp128)) (.branch 0 (.leaf xp64) (.leaf xp0))) (.branch 0 (.branch 0 (.leaf xp32) (.leaf xp0)) (.branch 0 (.leaf xp96) (.leaf xp0)))) (.branch 0 (.branch 0 (.branch 0 (.leaf xp16) (.leaf xp144)) (.branch 0 (.leaf xp80) (.leaf xp0))) (.branch 0 (.branch 0 (.leaf xp48) (.leaf xp0)) (.branch 0 (.leaf xp112) (.leaf xp0))))) (.branch 0 (.branch 0 (.branch 0 (.branch 0 (.leaf xp8) (.leaf xp136)) (.branch 0 (.leaf xp72) (.leaf xp0))) (.branch 0 (.branch 0 (.leaf xp40) (.leaf xp0)) (.branch 0 (.leaf xp104) (.leaf xp0)))) (.branch 0 (.branch 0 (.branch 0 (.leaf xp24) (.leaf xp152)) (.branch 0 (.leaf xp88) (.leaf xp0))) (.branch 0 (.branch 0 (.leaf xp56) (.leaf xp0)) (.branch 0 (.leaf xp120) (.leaf xp0)))))) (.branch 0 (.branch 0 (.branch 0 (.branch 0 (.branch 0 (.leaf xp4) (.leaf xp132)) (.branch 0 (.leaf xp68) (.leaf xp0))) (.branch 0 (.branch 0 (.leaf xp36) (.leaf xp0)) (.branch 0 (.leaf xp100) (.leaf xp0)))) (.branch 0 (.branch 0 (.branch 0 (.leaf xp20) (.leaf xp148)) (.branch 0 (.leaf xp84) (.leaf xp0))) (.branch 0 (.branch 0 (.leaf xp52) (.leaf xp0)) (.branch 0 (.leaf xp116) (.leaf xp0))))) (.branch 0 (.branch 0 (.branch 0 (.branch 0 (.leaf xp12) (.leaf xp140)) (.branch 0 (.leaf xp76) (.leaf xp0))) (.branch 0 (.branch 0 (.leaf xp44) (.leaf xp0)) (.branch 0 (.leaf xp108) (.leaf xp0)))) (.branch 0 (.branch 0 (.branch 0 (.leaf xp28) (.leaf xp156)) (.branch 0 (.leaf xp92) (.leaf xp0))) (.branch 0 (.branch 0 (.leaf xp60) (.leaf xp0)) (.branch 0 (.leaf xp124) (.leaf xp0))))))) (.branch 0 (.branch 0 (.branch 0 (.branch 0 (.branch 0 (.branch 0 (.leaf xp2) (.leaf xp130)) (.branch 0 (.leaf xp66) (.leaf xp0))) (.branch 0 (.branch 0 (.leaf xp34) (.leaf xp0)) (.branch 0 (.leaf xp98) (.leaf xp0)))) (.branch 0 (.branch 0 (.branch 0 (.leaf xp18) (.leaf xp146)) (.branch 0 (.leaf xp82) (.leaf xp0))) (.branch 0 (.branch 0 (.leaf xp50) (.leaf xp0)) (.branch 0 (.leaf xp114) (.leaf xp0))))) (.branch 0 (.branch 0 (.branch 0 (.branch 0 (.leaf xp10) (.leaf xp138)) (.branch 0 (.leaf xp74) (.leaf xp0))) (.branch 0 (.branch 0 (.leaf xp42) (.leaf xp0)) (.branch 0 (.leaf xp106) (.leaf xp0)))) (.branch 0 (.branch 0 (.branch 0 (.leaf xp26) (.leaf xp154)) (.branch 0 (.leaf xp90) (.leaf xp0))) (.branch 0 (.branch 0 (.leaf xp58) (.leaf xp0)) (.branch 0 (.leaf xp122) (.leaf xp0)))))) (.branch 0 (.branch 0 (.branch 0 (.branch 0 (.branch 0 (.leaf xp6) (.leaf xp134)) (.branch 0 (.leaf xp70) (.leaf xp0))) (.branch 0 (.branch 0 (.leaf xp38) (.leaf xp0)) (.branch 0 (.leaf xp102) (.leaf xp0)))) (.branch 0 (.branch 0 (.branch 0 (.leaf xp22) (.leaf xp150)) (.branch 0 (.leaf xp86) (.leaf xp0))) (.branch 0 (.branch 0 (.leaf xp54) (.leaf xp0)) (.branch 0 (.leaf xp118) (.leaf xp0))))) (.branch 0 (.branch 0 (.branch 0 (.branch 0 (.leaf xp14) (.leaf xp142)) (.branch 0 (.leaf xp78) (.leaf xp0))) (.branch 0 (.branch 0 (.leaf xp46) (.leaf xp0)) (.branch 0 (.leaf xp110) (.leaf xp0)))) (.branch 0 (.branch 0 (.branch 0 (.leaf xp30) (.leaf xp0)) (.branch 0 (.leaf xp94) (.leaf xp0))) (.branch 0 (.branch 0 (.leaf xp62) (.leaf xp0)) (.branch 0 (.leaf xp126) (.leaf xp0)))))))) (.branch 0 (.branch 0 (.branch 0 (.branch 0 (.branch 0 (.branch 0 (.branch 0 (.leaf xp1) (.leaf xp129)) (.branch 0 (.leaf xp65) (.leaf xp0))) (.branch 0 (.branch 0 (.leaf xp33) (.leaf xp0)) (.branch 0 (.leaf xp97) (.leaf xp0)))) (.branch 0 (.branch 0 (.branch 0 (.leaf xp17) (.leaf xp145)) (.branch 0 (.leaf xp81) (.leaf xp0))) (.branch 0 (.branch 0 (.leaf xp49) (.leaf xp0)) (.branch 0 (.leaf xp113) (.leaf xp0))))) (.branch 0 (.branch 0 (.branch 0 (.branch 0 (.leaf xp9) (.leaf xp137)) (.branch 0 (.leaf xp73) (.leaf xp0))) (.branch 0 (.branch 0 (.leaf xp41) (.leaf xp0)) (.branch 0 (.leaf xp105) (.leaf xp0)))) (.branch 0 (.branch 0 (.branch 0 (.leaf xp25) (.leaf xp153)) (.branch 0 (.leaf xp89) (.leaf xp0))) (.branch 0 (.branch 0 (.leaf xp57) (.leaf xp0)) (.branch 0 (.leaf xp121) (.leaf xp0)))))) (.branch 0 (.branch 0 (.branch 0 (.branch 0 (.branch 0 (.leaf xp5) (.leaf xp133)) (.branch 0 (.leaf xp69) (.leaf xp0))) (.branch 0 (.branch 0 (.leaf xp37) (.leaf xp0)) (.branch 0 (.leaf xp101) (.leaf xp0)))) (.branch 0 (.branch 0 (.branch 0 (.leaf xp21) (.leaf xp149)) (.branch 0 (.leaf xp85) (.leaf xp0))) (.branch 0 (.branch 0 (.leaf xp53) (.leaf xp0)) (.branch 0 (.leaf xp117) (.leaf xp0))))) (.branch 0 (.branch 0 (.branch 0 (.branch 0 (.leaf xp13) (.leaf xp141)) (.branch 0 (.leaf xp77) (.leaf xp0))) (.branch 0 (.branch 0 (.leaf xp45) (.leaf xp0)) (.branch 0 (.leaf xp109) (.leaf xp0)))) (.branch 0 (.branch 0 (.branch 0 (.leaf xp29) (.leaf xp0)) (.branch 0 (.leaf xp93) (.leaf xp0))) (.branch 0 (.branch 0 (.leaf xp61) (.leaf xp0)) (.branch 0 (.leaf xp125) (.leaf xp0))))))) (.branch 0 (.branch 0 (.branch 0 (.branch 0 (.branch 0 (.branch 0 (.leaf xp3) (.leaf xp131)) (.branch 0 (.leaf xp67) (.leaf xp0))) (.branch 0 (.branch 0 (.leaf xp35) (.leaf xp0)) (.branch 0 (.leaf xp99) (.leaf xp0)))) (.branch 0 (.branch 0 (.branch 0 (.leaf xp19) (.leaf xp147)) (.branch 0 (.leaf xp83) (.leaf xp0))) (.branch 0 (.branch 0 (.leaf xp51) (.leaf xp0)) (.branch 0 (.leaf xp115) (.leaf xp0))))) (.branch 0 (.branch 0 (.branch 0 (.branch 0 (.leaf xp11) (.leaf xp139)) (.branch 0 (.leaf xp75) (.leaf xp0))) (.branch 0 (.branch 0 (.leaf xp43) (.leaf xp0)) (.branch 0 (.leaf xp107) (.leaf xp0)))) (.branch 0 (.branch 0 (.branch 0 (.leaf xp27) (.leaf xp155)) (.branch 0 (.leaf xp91) (.leaf xp0))) (.branch 0 (.branch 0 (.leaf xp59) (.leaf xp0)) (.branch 0 (.leaf xp123) (.leaf xp0)))))) (.branch 0 (.branch 0 (.branch 0 (.branch 0 (.branch 0 (.leaf xp7) (.leaf xp135)) (.branch 0 (.leaf xp71) (.leaf xp0))) (.branch 0 (.branch 0 (.leaf xp39) (.leaf xp0)) (.branch 0 (.leaf xp103) (.leaf xp0)))) (.branch 0 (.branch 0 (.branch 0 (.leaf xp23) (.leaf xp151)) (.branch 0 (.leaf xp87) (.leaf xp0))) (.branch 0 (.branch 0 (.leaf xp55) (.leaf xp0)) (.branch 0 (.leaf xp119) (.leaf xp0))))) (.branch 0 (.branch 0 (.branch 0 (.branch 0 (.leaf xp15) (.leaf xp143)) (.branch 0 (.leaf xp79) (.leaf xp0))) (.branch 0 (.branch 0 (.leaf xp47) (.leaf xp0)) (.branch 0 (.leaf xp111) (.leaf xp0)))) (.branch 0 (.branch 0 (.branch 0 (.leaf xp31) (.leaf xp0)) (.branch 0 (.leaf xp95) (.leaf xp0))) (.branch 0 (.branch 0 (.leaf xp63) (.leaf xp0)) (.branch 0 (.leaf xp127) (.leaf xp0))))))))
noncomputable def xmeths (i : Nat) : xP := tget xp0 8 xmt i
noncomputable def xlaw : xP := xp157
end
section
noncomputable def xto (stop : Nat) (call : xA) (P : xP) (B : xB) (n : Nat) : xG := Nat.rec (fun _ _ _ _ _ _ _ _ => xfail) (fun _ ih pc ls st ex n t c d => cond (Nat.beq pc stop) (0, 0, 0, pc, ls, st, ex, n, t, c, d) (xstep call (fun j => (xmeths j).2) P B ih pc ls st ex n t c d)) n
noncomputable def xfI {α : Type} (z : Int) (f : Int → α) : α := Int.rec (fun m => xforce m (fun m => f (Int.ofNat m))) (fun m => xforce m (fun m => f (Int.negSucc m))) z
noncomputable def xfL {α : Type} (l : List xV) : (List xV → α) → α := List.rec (fun k => k []) (fun v _ ih k => Prod.rec (fun a z => xforce a (fun a => xfI z (fun z => ih (fun t => k ((a, z) :: t))))) v) l
noncomputable def xfC {α : Type} (c : xC) (k : xC → α) : α := Prod.rec (fun a c => Prod.rec (fun b l => xforce a (fun a => xforce b (fun b => xfL l (fun l => k (a, b, l))))) c) c
noncomputable def xfT {α : Type} (t : xT) : (xT → α) → α := Lean.RArray.rec (fun c k => xfC c (fun c => k (.leaf c))) (fun p _ _ ihl ihr k => ihl (fun l => ihr (fun r => k (.branch p l r)))) t
noncomputable def xfM {α : Type} (l : xL) : (xL → α) → α := List.rec (fun k => k []) (fun v _ ih k => Prod.rec (fun i v => Prod.rec (fun a z => xforce i (fun i => xforce a (fun a => xfI z (fun z => ih (fun t => k ((i, a, z) :: t)))))) v) v) l
noncomputable def xfS {α : Type} (r : xO) (k : Nat → xL → List xV → Bool → Nat → xT → Nat → Nat → α) : α :=
  Prod.rec (fun _ r => Prod.rec (fun _ r => Prod.rec (fun _ s => Prod.rec (fun pc s => Prod.rec (fun ls s => Prod.rec (fun st s => Prod.rec (fun ex s => Prod.rec (fun n s => Prod.rec (fun t s => Prod.rec (fun c d =>
    xforce pc (fun pc => xfM ls (fun ls => xfL st (fun st => xforce n (fun n => xforce c (fun c => xforce d (fun d => xfT t (fun t => cond ex (k pc ls st true n t c d) (k pc ls st false n t c d))))))))) s) s) s) s) s) s) s) r) r) r
def xfu : xB := (0, 6, [(Int.negSucc 2147483647, Int.ofNat 2147483647), (Int.negSucc 2147483647, Int.ofNat 2147483647), (Int.negSucc 2147483647, Int.ofNat 2147483647), (Int.negSucc 2147483647, Int.ofNat 2147483647), (Int.negSucc 2147483647, Int.ofNat 2147483647), (Int.negSucc 2147483647, Int.ofNat 2147483647)])
def xB0 (op : Nat) : xB := (op, 6, xfu.2.2)
noncomputable def xtest0 (op : Nat) : xO := xto 28 (xcall xmeths (xB0 op) 100000 10) xlaw (xB0 op) 100000 0 [(0, 10, Int.ofNat 0)] [] true 0 (.leaf (9, 0, [])) 0 0
/-- the run from a forced state -/
noncomputable def xrun (B : xB) (pc : Nat) (ls : xL) (st : List xV) (ex : Bool) (n : Nat) (t : xT) (c d : Nat) : xO := xloop (xcall xmeths B 100000 10) (fun j => (xmeths j).2) xlaw B 100000 pc ls st ex n t c d
noncomputable def xone (st : List xV) : Bool := List.rec false (fun v t _ => List.rec (Prod.rec (fun a z => cond (Nat.beq a 2) (xieq z (Int.ofNat 1)) false) v) (fun _ _ _ => false) t) st
noncomputable def xlr (B : xB) (v : Nat) (c : Int) (k : xB → xB → Bool) : Bool := Prod.rec (fun lo hi => xfI c (fun c => xfI (c - 1) (fun c1 => k (B.1, B.2.1, lset (lo, c1) B.2.2 v) (B.1, B.2.1, lset (c, hi) B.2.2 v)))) (xlo B v)
noncomputable def xcut (pc : Nat) (ls : xL) (st : List xV) (ex : Bool) (n : Nat) (t : xT) (c d : Nat) (fuel : Nat) : xB → Bool := Nat.rec (fun _ => false) (fun _ ih B =>
  Prod.rec (fun k r => Prod.rec (fun v r => Prod.rec (fun y s => cond (Nat.beq k 1) (cond (Nat.beq v 1) (xone s.2.2.1) false) (cond (Nat.beq k 5) (xforce v (fun v => xlr B v y (fun b1 b2 => cond (ih b1) (ih b2) false))) false)) r) r) (xrun B pc ls st ex n t c d)) fuel
noncomputable def xall (op : Nat) : Bool := cond (Nat.beq (xtest0 op).1 0) (xfS (xtest0 op) (fun pc ls st ex n t c d => xcut pc ls st ex n t c d 200 (xB0 op))) false
theorem t0 : xall 10 = true := by decide +kernel
end
